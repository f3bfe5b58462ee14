theorem flX10_410 : FL "PairSymbolsModel" 410 9 47 false := ⟨_, CT9, by decide, (tq q_722 rfl), rfl, fun _ => Or.inr trivial⟩
theorem flX10_420 : FL "PairSymbolsModel" 420 9 48 false := ⟨_, CT9, by decide, (tq q_723 rfl), rfl, fun _ => Or.inr trivial⟩
theorem flX10_423 : FL "PairSymbolsModel" 423 9 49 false := ⟨_, CT9, by decide, (tq q_724 rfl), rfl, fun _ => Or.inr trivial⟩
theorem flX10_432 : FL "PairSymbolsModel" 432 9 50 false := ⟨_, CT9, by decide, (tq q_725 rfl), rfl, fun _ => Or.inr trivial⟩
theorem dX10_takes_0 : decode cX10_takes 0 = .ok (.aload_n 0, 1) := by decide +kernel
theorem dX10_takes_1 : decode cX10_takes 1 = .ok (.invokevirtual 407, 3) := by decide +kernel
theorem dX10_takes_4 : decode cX10_takes 4 = .ok (.bipush 45, 2) := by decide +kernel
theorem dX10_takes_6 : decode cX10_takes 6 = .ok (.if_icmp .ne 11, 3) := by decide +kernel
theorem dX10_takes_9 : decode cX10_takes 9 = .ok (.iload_n 1, 1) := by decide +kernel
theorem dX10_takes_10 : decode cX10_takes 10 = .ok (.ifCond .eq 7, 3) := by decide +kernel
theorem dX10_takes_13 : decode cX10_takes 13 = .ok (.iconst 1, 1) := by decide +kernel
theorem dX10_takes_14 : decode cX10_takes 14 = .ok (.goto 4, 3) := by decide +kernel
theorem dX10_takes_17 : decode cX10_takes 17 = .ok (.iconst 0, 1) := by decide +kernel
theorem dX10_takes_18 : decode cX10_takes 18 = .ok (.istore_n 2, 1) := by decide +kernel
theorem dX10_takes_19 : decode cX10_takes 19 = .ok (.aload_n 0, 1) := by decide +kernel
theorem dX10_takes_20 : decode cX10_takes 20 = .ok (.dup, 1) := by decide +kernel
theorem dX10_takes_21 : decode cX10_takes 21 = .ok (.getfield 400, 3) := by decide +kernel
theorem dX10_takes_24 : decode cX10_takes 24 = .ok (.iload_n 2, 1) := by decide +kernel
theorem dX10_takes_25 : decode cX10_takes 25 = .ok (.ifCond .eq 7, 3) := by decide +kernel
theorem dX10_takes_28 : decode cX10_takes 28 = .ok (.iconst 1, 1) := by decide +kernel
theorem dX10_takes_29 : decode cX10_takes 29 = .ok (.goto 4, 3) := by decide +kernel
theorem dX10_takes_32 : decode cX10_takes 32 = .ok (.iconst 0, 1) := by decide +kernel
theorem dX10_takes_33 : decode cX10_takes 33 = .ok (.iadd, 1) := by decide +kernel
theorem dX10_takes_34 : decode cX10_takes 34 = .ok (.putfield 400, 3) := by decide +kernel
theorem dX10_takes_37 : decode cX10_takes 37 = .ok (.iload_n 2, 1) := by decide +kernel
theorem dX10_takes_38 : decode cX10_takes 38 = .ok (.ifCond .eq 7, 3) := by decide +kernel
theorem dX10_takes_41 : decode cX10_takes 41 = .ok (.iconst 0, 1) := by decide +kernel
theorem dX10_takes_42 : decode cX10_takes 42 = .ok (.goto 7, 3) := by decide +kernel
theorem dX10_takes_45 : decode cX10_takes 45 = .ok (.aload_n 0, 1) := by decide +kernel
theorem dX10_takes_46 : decode cX10_takes 46 = .ok (.invokevirtual 407, 3) := by decide +kernel
theorem dX10_takes_49 : decode cX10_takes 49 = .ok (.istore_n 3, 1) := by decide +kernel
theorem dX10_takes_50 : decode cX10_takes 50 = .ok (.iconst 0, 1) := by decide +kernel
theorem dX10_takes_51 : decode cX10_takes 51 = .ok (.istore 4, 2) := by decide +kernel
theorem dX10_takes_53 : decode cX10_takes 53 = .ok (.aload_n 0, 1) := by decide +kernel
theorem dX10_takes_54 : decode cX10_takes 54 = .ok (.iconst 0, 1) := by decide +kernel
theorem dX10_takes_55 : decode cX10_takes 55 = .ok (.putfield 410, 3) := by decide +kernel
theorem dX10_takes_58 : decode cX10_takes 58 = .ok (.aload_n 0, 1) := by decide +kernel
theorem dX10_takes_59 : decode cX10_takes 59 = .ok (.aload_n 0, 1) := by decide +kernel
theorem dX10_takes_60 : decode cX10_takes 60 = .ok (.getfield 400, 3) := by decide +kernel
theorem dX10_takes_63 : decode cX10_takes 63 = .ok (.invokevirtual 413, 3) := by decide +kernel
theorem dX10_takes_66 : decode cX10_takes 66 = .ok (.ifCond .eq 49, 3) := by decide +kernel
theorem dX10_takes_69 : decode cX10_takes 69 = .ok (.iload 4, 2) := by decide +kernel
theorem dX10_takes_71 : decode cX10_takes 71 = .ok (.iconst 3, 1) := by decide +kernel
theorem dX10_takes_72 : decode cX10_takes 72 = .ok (.if_icmp .ge 43, 3) := by decide +kernel
theorem dX10_takes_75 : decode cX10_takes 75 = .ok (.aload_n 0, 1) := by decide +kernel
theorem dX10_takes_76 : decode cX10_takes 76 = .ok (.bipush 10, 2) := by decide +kernel
theorem dX10_takes_78 : decode cX10_takes 78 = .ok (.aload_n 0, 1) := by decide +kernel
theorem dX10_takes_79 : decode cX10_takes 79 = .ok (.getfield 410, 3) := by decide +kernel
theorem dX10_takes_82 : decode cX10_takes 82 = .ok (.imul, 1) := by decide +kernel
theorem dX10_takes_83 : decode cX10_takes 83 = .ok (.aload_n 0, 1) := by decide +kernel
theorem dX10_takes_84 : decode cX10_takes 84 = .ok (.getfield 117, 3) := by decide +kernel
theorem dX10_takes_87 : decode cX10_takes 87 = .ok (.aload_n 0, 1) := by decide +kernel
theorem dX10_takes_88 : decode cX10_takes 88 = .ok (.getfield 400, 3) := by decide +kernel
theorem dX10_takes_91 : decode cX10_takes 91 = .ok (.iaload, 1) := by decide +kernel
theorem dX10_takes_92 : decode cX10_takes 92 = .ok (.iadd, 1) := by decide +kernel
theorem dX10_takes_93 : decode cX10_takes 93 = .ok (.bipush 48, 2) := by decide +kernel
theorem dX10_takes_95 : decode cX10_takes 95 = .ok (.isub, 1) := by decide +kernel
theorem dX10_takes_96 : decode cX10_takes 96 = .ok (.putfield 410, 3) := by decide +kernel
theorem dX10_takes_99 : decode cX10_takes 99 = .ok (.aload_n 0, 1) := by decide +kernel
theorem dX10_takes_100 : decode cX10_takes 100 = .ok (.dup, 1) := by decide +kernel
theorem dX10_takes_101 : decode cX10_takes 101 = .ok (.getfield 400, 3) := by decide +kernel
theorem dX10_takes_104 : decode cX10_takes 104 = .ok (.iconst 1, 1) := by decide +kernel
theorem dX10_takes_105 : decode cX10_takes 105 = .ok (.iadd, 1) := by decide +kernel
theorem dX10_takes_106 : decode cX10_takes 106 = .ok (.putfield 400, 3) := by decide +kernel
theorem dX10_takes_109 : decode cX10_takes 109 = .ok (.iinc 4 1, 3) := by decide +kernel
theorem dX10_takes_112 : decode cX10_takes 112 = .ok (.goto (-54), 3) := by decide +kernel
theorem dX10_takes_115 : decode cX10_takes 115 = .ok (.aload_n 0, 1) := by decide +kernel
theorem dX10_takes_116 : decode cX10_takes 116 = .ok (.iload_n 2, 1) := by decide +kernel
theorem dX10_takes_117 : decode cX10_takes 117 = .ok (.ifCond .eq 11, 3) := by decide +kernel
theorem dX10_takes_120 : decode cX10_takes 120 = .ok (.aload_n 0, 1) := by decide +kernel
theorem dX10_takes_121 : decode cX10_takes 121 = .ok (.getfield 410, 3) := by decide +kernel
theorem dX10_takes_124 : decode cX10_takes 124 = .ok (.ineg, 1) := by decide +kernel
theorem dX10_takes_125 : decode cX10_takes 125 = .ok (.goto 7, 3) := by decide +kernel
theorem dX10_takes_128 : decode cX10_takes 128 = .ok (.aload_n 0, 1) := by decide +kernel
theorem dX10_takes_129 : decode cX10_takes 129 = .ok (.getfield 410, 3) := by decide +kernel
theorem dX10_takes_132 : decode cX10_takes 132 = .ok (.putfield 410, 3) := by decide +kernel
theorem dX10_takes_135 : decode cX10_takes 135 = .ok (.iload_n 3, 1) := by decide +kernel
theorem dX10_takes_136 : decode cX10_takes 136 = .ok (.iconst (-1), 1) := by decide +kernel
theorem dX10_takes_137 : decode cX10_takes 137 = .ok (.if_icmp .eq 23, 3) := by decide +kernel
theorem dX10_takes_140 : decode cX10_takes 140 = .ok (.iload 4, 2) := by decide +kernel
theorem dX10_takes_142 : decode cX10_takes 142 = .ok (.ifCond .le 18, 3) := by decide +kernel
theorem dX10_takes_145 : decode cX10_takes 145 = .ok (.aload_n 0, 1) := by decide +kernel
theorem dX10_takes_146 : decode cX10_takes 146 = .ok (.aload_n 0, 1) := by decide +kernel
theorem dX10_takes_147 : decode cX10_takes 147 = .ok (.getfield 400, 3) := by decide +kernel
theorem dX10_takes_150 : decode cX10_takes 150 = .ok (.invokevirtual 413, 3) := by decide +kernel
theorem dX10_takes_153 : decode cX10_takes 153 = .ok (.ifCond .ne 7, 3) := by decide +kernel
theorem dX10_takes_156 : decode cX10_takes 156 = .ok (.iconst 1, 1) := by decide +kernel
theorem dX10_takes_157 : decode cX10_takes 157 = .ok (.goto 4, 3) := by decide +kernel
theorem dX10_takes_160 : decode cX10_takes 160 = .ok (.iconst 0, 1) := by decide +kernel
theorem dX10_takes_161 : decode cX10_takes 161 = .ok (.ireturn, 1) := by decide +kernel
theorem kcX10_takes : Cond.code yX10_takes cX10_takes 5 (some .boolean) ∈ tb := tq q_1183 rfl
theorem knX10_takes : Cond.initialized yX10_takes.cls ∈ tb := (tq q_10 rfl)
theorem kdX10_takes : yX10_takes.cls ≠ "java/lang/invoke/MethodHandle" ∧ yX10_takes.cls ≠ "java/lang/invoke/VarHandle" ∧ (parseMethodDescriptor yX10_takes.desc).map (fun d => d.parameters.length) = some 1 := ⟨by decide +kernel, by decide +kernel, by decide +kernel⟩
theorem kiX10_takes : Cond.instanceMethod yX10_takes ∈ tb := (tq q_1182 rfl)
theorem ksX10_takes : Cond.selects yX10_takes.cls yX10_takes yX10_takes ∈ tb := (tq z_82 rfl)
theorem tgX10_takes {x0 : Nat} {x1 : Int32} {h : PH} {r : Int32 × PH} (hf : (fX10_takes x0 x1).1 h = some r) : ∃ n x, nth h x0 = some (9, n, x) := by
  obtain ⟨_, _, e, _⟩ := pb_some hf
  exact (chk_some e).2
set_option maxHeartbeats 4000000 in
set_option maxRecDepth 100000 in
theorem wX10_takes_B58 {p : Program} {l : Launch} {e : Env} {s : State} {m : MethodId} {args : Array Value} {below : List Frame} {meth : Method} {c : Code} {G : GG} {ρ : Nat → Nat} {h0 hE hB : PH} {Q : State → Prop} {x0 : Nat} {x2 : Int32} {x3 : Int32} (C : Cx G "PairSymbolsModel" cX10_takes 5 (some .boolean) "takes" p s m args meth c) {x4 : Int32} {h : PH} {H : Heap} {locs : List Loc} {cells slots : Nat} {ls : Array Slot} {r : (Int32) ⊕ (Int32)} (hf : (fX10_takes_b58 x0 x2 x3 x4).1 h = some (r, hB)) (hX : Ext hB hE) (hW : Wd G ρ h0.length (sl h0) s.heap h H locs cells slots) (hl : lv_has ls 5 [(0, .ref (ρ x0)), (2, .int x2), (3, .int x3), (4, .int x4)]) (kc : ∀ y : Int32, r = .inl y → ∀ (H : Heap) (locs : List Loc) (c1 s1 : Nat) (ls : Array Slot), Wd G ρ h0.length (sl h0) s.heap hB H locs c1 s1 → lv_has ls 5 [(0, .ref (ρ x0)), (2, .int x2), (3, .int x3), (4, .int y)] → W p l e (RM 2 46 h0 hE) s m args below meth c H locs c1 s1 Q (F0 m 58 ls [])) (ke : ∀ z : Int32, r = .inr z → ∀ (H : Heap) (locs : List Loc) (c1 s1 : Nat) (ls : Array Slot), Wd G ρ h0.length (sl h0) s.heap hB H locs c1 s1 → lv_has ls 5 [(0, .ref (ρ x0)), (2, .int x2), (3, .int x3), (4, .int z)] → W p l e (RM 2 46 h0 hE) s m args below meth c H locs c1 s1 Q (F0 m 115 ls [])) : W p l e (RM 2 46 h0 hE) s m args below meth c H locs cells slots Q (F0 m 58 ls []) := by
  have hx := C.1
  have hb := C.2.1
  unfold fX10_takes_b58 at hf
  refine lv_aload_n hx hb dX10_takes_58 rfl (lv_at hl 0 rfl) ?_
  refine lv_aload_n hx hb dX10_takes_59 rfl (lv_at hl 0 rfl) ?_
  obtain ⟨v11, e11, hf⟩ := pb_rd (rd_gI _ _ _) hf
  refine r_gI C hW e11 flX10_400 rfl dX10_takes_60 ?_
  obtain ⟨v12, h12, e12, hf⟩ := pb_some hf
  obtain ⟨_, _, t13⟩ := tgX10_isFigure e12
  refine r_calli hW (pext e12) (run_V (b := x0) (As := [.int v11]) (rest := []) C hW (metX10_isFigure l G ρ e12) ⟨rfl, rfl⟩ kcX10_isFigure (tq q_1184 rfl) kiX10_isFigure ksX10_isFigure knX10_isFigure kdX10_isFigure t13 rfl rfl ⟨Nat.le_of_ble_eq_true rfl, Nat.le_of_ble_eq_true rfl⟩ hl.1 (Nat.le_of_ble_eq_true rfl) (room_of hW (pext e12) ((pext hf).tr hX)) dX10_takes_63 rfl) (fun H locs c1 s1 hW => ?_)
  refine lv_if_eq (tgt := 115) hx hb dX10_takes_66 (by decide) (fun c14 => ?_) (fun c14 => ?_)
  · rw [if_pos c14] at hf
    obtain ⟨rfl, rfl⟩ := pp_some hf
    exact ke _ rfl _ _ _ _ _ hW (lv_sub hl [0, 1, 2, 3] rfl)
  · rw [if_neg c14] at hf
    refine lv_iload hx hb dX10_takes_69 (lv_at hl 3 rfl) ?_
    refine lv_iconst (v := 3) hx hb dX10_takes_71 (by decide) ?_
    refine lv_icmp_ge (tgt := 115) hx hb dX10_takes_72 (by decide) (fun c15 => ?_) (fun c15 => ?_)
    · rw [if_pos c15] at hf
      obtain ⟨rfl, rfl⟩ := pp_some hf
      exact ke _ rfl _ _ _ _ _ hW (lv_sub hl [0, 1, 2, 3] rfl)
    · rw [if_neg c15] at hf
      refine lv_aload_n hx hb dX10_takes_75 rfl (lv_at hl 0 rfl) ?_
      refine lv_bipush (v := 10) hx hb dX10_takes_76 (by decide) ?_
      refine lv_aload_n hx hb dX10_takes_78 rfl (lv_at hl 0 rfl) ?_
      obtain ⟨v16, e16, hf⟩ := pb_rd (rd_gI _ _ _) hf
      refine r_gI C hW e16 flX10_410 rfl dX10_takes_79 ?_
      refine lv_imul hx hb dX10_takes_82 ?_
      refine lv_aload_n hx hb dX10_takes_83 rfl (lv_at hl 0 rfl) ?_
      obtain ⟨v17, e17, hf⟩ := pb_rd (rd_gA _ _ _) hf
      refine r_gA C hW e17 flX10_117 rfl dX10_takes_84 ?_
      refine lv_aload_n hx hb dX10_takes_87 rfl (lv_at hl 0 rfl) ?_
      obtain ⟨v18, e18, hf⟩ := pb_rd (rd_gI _ _ _) hf
      refine r_gI C hW e18 flX10_400 rfl dX10_takes_88 ?_
      obtain ⟨v19, e19, hf⟩ := pb_rd (rd_lI _ _ _) hf
      refine r_iald C hW e19 dX10_takes_91 ?_
      refine lv_iadd hx hb dX10_takes_92 ?_
      refine lv_bipush (v := 48) hx hb dX10_takes_93 (by decide) ?_
      refine lv_isub hx hb dX10_takes_95 ?_
      obtain ⟨_, h20, e20, hf⟩ := pb_some hf
      refine r_sI C hW e20 flX10_410 (Or.inl rfl) rfl dX10_takes_96 (fun H locs hW => ?_)
      refine lv_aload_n hx hb dX10_takes_99 rfl (lv_at hl 0 rfl) ?_
      refine lv_dup hx hb dX10_takes_100 rfl ?_
      obtain ⟨v21, e21, hf⟩ := pb_rd (rd_gI _ _ _) hf
      refine r_gI C hW e21 flX10_400 rfl dX10_takes_101 ?_
      refine lv_iconst (v := 1) hx hb dX10_takes_104 (by decide) ?_
      refine lv_iadd hx hb dX10_takes_105 ?_
      obtain ⟨_, h22, e22, hf⟩ := pb_some hf
      refine r_sI C hW e22 flX10_400 (Or.inl rfl) rfl dX10_takes_106 (fun H locs hW => ?_)
      refine lv_iinc (v := (x4 + 1)) (lv' := [(4, .int (x4 + 1)), (0, .ref (ρ x0)), (2, .int x2), (3, .int x3)]) hx hb dX10_takes_109 hl (k := 3) rfl rfl (by decide) rfl (fun ls hl => ?_)
      refine lv_goto (tgt := 58) hx hb dX10_takes_112 (by decide) ?_
      obtain ⟨rfl, rfl⟩ := pp_some hf
      exact kc _ rfl _ _ _ _ _ hW (lv_sub hl [1, 2, 3, 0] rfl)
set_option maxHeartbeats 4000000 in
theorem wX10_takes_L58 {p : Program} {l : Launch} {e : Env} {s : State} {m : MethodId} {args : Array Value} {below : List Frame} {meth : Method} {c : Code} {G : GG} {ρ : Nat → Nat} {h0 hE hB : PH} {Q : State → Prop} {x0 : Nat} {x2 : Int32} {x3 : Int32} (C : Cx G "PairSymbolsModel" cX10_takes 5 (some .boolean) "takes" p s m args meth c) {z : (Int32)} (n : Nat) : ∀ (x : Int32) {h : PH} {H : Heap} {locs : List Loc} {cells slots : Nat} {ls : Array Slot}, (plo (fX10_takes_B58 x0 x2 x3) n x).1 h = some (z, hB) → Ext hB hE → Wd G ρ h0.length (sl h0) s.heap h H locs cells slots → lv_has ls 5 [(0, .ref (ρ x0)), (2, .int x2), (3, .int x3), (4, .int x)] → (ke : ∀ (H : Heap) (locs : List Loc) (c1 s1 : Nat) (ls : Array Slot), Wd G ρ h0.length (sl h0) s.heap hB H locs c1 s1 → lv_has ls 5 [(0, .ref (ρ x0)), (2, .int x2), (3, .int x3), (4, .int z)] → W p l e (RM 2 46 h0 hE) s m args below meth c H locs c1 s1 Q (F0 m 115 ls [])) → W p l e (RM 2 46 h0 hE) s m args below meth c H locs cells slots Q (F0 m 58 ls []) := by
  induction n with
  | zero =>
    intro x h H locs cells slots ls hf
    rw [plo_0] at hf
    exact (pf_no hf).elim
  | succ n ih =>
    intro x h H locs cells slots ls hf hX hW hl ke
    rw [plo_s] at hf
    obtain ⟨r, h1, e1, hf⟩ := pb_some hf
    unfold fX10_takes_B58 at e1
    rw [frI_eq] at e1
    refine wX10_takes_B58 C e1 ((pext hf).tr hX) hW hl (fun y hr H locs c1 s1 ls hW hl => ?_) (fun y hr H locs c1 s1 ls hW hl => ?_)
    · subst hr
      exact ih y hf hX hW hl ke
    · subst hr
      obtain ⟨rfl, rfl⟩ := pp_some hf
      exact ke H locs c1 s1 ls hW hl
set_option maxHeartbeats 4000000 in
set_option maxRecDepth 100000 in
theorem metX10_takes (l : Launch) (G : GG) (ρ : Nat → Nat) {z : Nat} {x0 : Nat} {x1 : Int32} {h hE : PH} {v : Int32} (hf : (fX10_takes x0 x1).1 h = some (v, hE)) : Met l yX10_takes (wsY yX10_takes cX10_takes 5 (some .boolean)) (RM 2 46 h hE) (va_Pc [.ref (ρ x0), .int x1] (PcB G ρ h z)) (QI G ρ v hE h.length z) (DC h hE) (DS h hE) (Af ρ h.length z) := by
  refine met_start (by decide) (Nat.le_of_ble_eq_true rfl) ?_
  intro p e s m below meth c ls hz C hW hl
  subst hz
  have C : Cx G "PairSymbolsModel" cX10_takes 5 (some .boolean) "takes" p s m _ meth c := C
  have hx := C.1
  have hb := C.2.1
  have hX : Ext hE hE := Ext.rf hE
  have hl : lv_has ls 5 [(0, .ref (ρ x0)), (1, .int x1)] := hl
  have hW : Wd G ρ h.length (sl h) s.heap h s.heap [] 0 0 := hW
  unfold fX10_takes at hf
  obtain ⟨_, e0, hf⟩ := pb_rd (rd_chk _ _) hf
  refine lv_aload_n hx hb dX10_takes_0 rfl (lv_at hl 0 rfl) ?_
  obtain ⟨v1, h1, e1, hf⟩ := pb_some hf
  obtain ⟨_, _, t2⟩ := tgX10_here e1
  refine r_calli hW (pext e1) (run_V (b := x0) (As := []) (rest := []) C hW (metX10_here l G ρ e1) ⟨rfl, rfl⟩ kcX10_here (tq q_1172 rfl) kiX10_here ksX10_here knX10_here kdX10_here t2 rfl rfl ⟨Nat.le_of_ble_eq_true rfl, Nat.le_of_ble_eq_true rfl⟩ hl.1 (Nat.le_of_ble_eq_true rfl) (room_of hW (pext e1) ((pext hf).tr hX)) dX10_takes_1 rfl) (fun H locs c1 s1 hW => ?_)
  refine lv_bipush (v := 45) hx hb dX10_takes_4 (by decide) ?_
  refine lv_icmp_ne (tgt := 17) hx hb dX10_takes_6 (by decide) (fun c3 => ?_) (fun c3 => ?_)
  · rw [if_neg c3] at hf
    refine lv_iconst (v := 0) hx hb dX10_takes_17 (by decide) ?_
    refine lv_istore_n (lv' := [(2, .int (0 : Int32)), (0, .ref (ρ x0)), (1, .int x1)]) hx hb dX10_takes_18 rfl hl (by decide) rfl (fun ls hl => ?_)
    refine lv_aload_n hx hb dX10_takes_19 rfl (lv_at hl 1 rfl) ?_
    refine lv_dup hx hb dX10_takes_20 rfl ?_
    obtain ⟨v4, e4, hf⟩ := pb_rd (rd_gI _ _ _) hf
    refine r_gI C hW e4 flX10_400 rfl dX10_takes_21 ?_
    refine lv_iload_n hx hb dX10_takes_24 rfl (lv_at hl 0 rfl) ?_
    refine lv_if_eq (tgt := 32) hx hb dX10_takes_25 (by decide) (fun _ => ?_) (fun q => absurd q (by decide))
    refine lv_iconst (v := 0) hx hb dX10_takes_32 (by decide) ?_
    refine lv_iadd hx hb dX10_takes_33 ?_
    obtain ⟨_, h6, e6, hf⟩ := pb_some hf
    refine r_sI C hW e6 flX10_400 (Or.inl rfl) rfl dX10_takes_34 (fun H locs hW => ?_)
    refine lv_iload_n hx hb dX10_takes_37 rfl (lv_at hl 0 rfl) ?_
    refine lv_if_eq (tgt := 45) hx hb dX10_takes_38 (by decide) (fun _ => ?_) (fun q => absurd q (by decide))
    refine lv_aload_n hx hb dX10_takes_45 rfl (lv_at hl 1 rfl) ?_
    obtain ⟨v8, h8, e8, hf⟩ := pb_some hf
    obtain ⟨_, _, t9⟩ := tgX10_here e8
    refine r_calli hW (pext e8) (run_V (b := x0) (As := []) (rest := []) C hW (metX10_here l G ρ e8) ⟨rfl, rfl⟩ kcX10_here (tq q_1172 rfl) kiX10_here ksX10_here knX10_here kdX10_here t9 rfl rfl ⟨Nat.le_of_ble_eq_true rfl, Nat.le_of_ble_eq_true rfl⟩ hl.1 (Nat.le_of_ble_eq_true rfl) (room_of hW (pext e8) ((pext hf).tr hX)) dX10_takes_46 rfl) (fun H locs c1 s1 hW => ?_)
    refine lv_istore_n (lv' := [(3, .int v8), (2, .int (0 : Int32)), (0, .ref (ρ x0)), (1, .int x1)]) hx hb dX10_takes_49 rfl hl (by decide) rfl (fun ls hl => ?_)
    refine lv_iconst (v := 0) hx hb dX10_takes_50 (by decide) ?_
    refine lv_istore (lv' := [(4, .int (0 : Int32)), (3, .int v8), (2, .int (0 : Int32)), (0, .ref (ρ x0)), (1, .int x1)]) hx hb dX10_takes_51 hl (by decide) rfl (fun ls hl => ?_)
    refine lv_aload_n hx hb dX10_takes_53 rfl (lv_at hl 3 rfl) ?_
    refine lv_iconst (v := 0) hx hb dX10_takes_54 (by decide) ?_
    obtain ⟨_, h10, e10, hf⟩ := pb_some hf
    refine r_sI C hW e10 flX10_410 (Or.inl rfl) rfl dX10_takes_55 (fun H locs hW => ?_)
    obtain ⟨z23, h23, e23, hf⟩ := pb_some hf
    refine wX10_takes_L58 C fu _ e23 ((pext hf).tr hX) hW (lv_sub hl [3, 2, 1, 0] rfl) (fun H locs c1 s1 ls hW hl => ?_)
    refine lv_aload_n hx hb dX10_takes_115 rfl (lv_at hl 0 rfl) ?_
    refine lv_iload_n hx hb dX10_takes_116 rfl (lv_at hl 1 rfl) ?_
    refine lv_if_eq (tgt := 128) hx hb dX10_takes_117 (by decide) (fun _ => ?_) (fun q => absurd q (by decide))
    refine lv_aload_n hx hb dX10_takes_128 rfl (lv_at hl 0 rfl) ?_
    obtain ⟨v25, e25, hf⟩ := pb_rd (rd_gI _ _ _) hf
    refine r_gI C hW e25 flX10_410 rfl dX10_takes_129 ?_
    obtain ⟨_, h26, e26, hf⟩ := pb_some hf
    refine r_sI C hW e26 flX10_410 (Or.inl rfl) rfl dX10_takes_132 (fun H locs hW => ?_)
    refine lv_iload_n hx hb dX10_takes_135 rfl (lv_at hl 2 rfl) ?_
    refine lv_iconst (v := -1) hx hb dX10_takes_136 (by decide) ?_
    refine lv_icmp_eq (tgt := 160) hx hb dX10_takes_137 (by decide) (fun c27 => ?_) (fun c27 => ?_)
    · rw [if_pos c27] at hf
      refine lv_iconst (v := 0) hx hb dX10_takes_160 (by decide) ?_
      obtain ⟨rfl, rfl⟩ := pp_some hf
      exact r_zret C hW rfl dX10_takes_161
    · rw [if_neg c27] at hf
      refine lv_iload hx hb dX10_takes_140 (lv_at hl 3 rfl) ?_
      refine lv_if_le (tgt := 160) hx hb dX10_takes_142 (by decide) (fun c28 => ?_) (fun c28 => ?_)
      · rw [if_pos c28] at hf
        refine lv_iconst (v := 0) hx hb dX10_takes_160 (by decide) ?_
        obtain ⟨rfl, rfl⟩ := pp_some hf
        exact r_zret C hW rfl dX10_takes_161
      · rw [if_neg c28] at hf
        refine lv_aload_n hx hb dX10_takes_145 rfl (lv_at hl 0 rfl) ?_
        refine lv_aload_n hx hb dX10_takes_146 rfl (lv_at hl 0 rfl) ?_
        obtain ⟨v29, e29, hf⟩ := pb_rd (rd_gI _ _ _) hf
        refine r_gI C hW e29 flX10_400 rfl dX10_takes_147 ?_
        obtain ⟨v30, h30, e30, hf⟩ := pb_some hf
        obtain ⟨_, _, t31⟩ := tgX10_isFigure e30
        refine r_calli hW (pext e30) (run_V (b := x0) (As := [.int v29]) (rest := []) C hW (metX10_isFigure l G ρ e30) ⟨rfl, rfl⟩ kcX10_isFigure (tq q_1184 rfl) kiX10_isFigure ksX10_isFigure knX10_isFigure kdX10_isFigure t31 rfl rfl ⟨Nat.le_of_ble_eq_true rfl, Nat.le_of_ble_eq_true rfl⟩ hl.1 (Nat.le_of_ble_eq_true rfl) (room_of hW (pext e30) ((pext hf).tr hX)) dX10_takes_150 rfl) (fun H locs c1 s1 hW => ?_)
        refine lv_if_ne (tgt := 160) hx hb dX10_takes_153 (by decide) (fun c32 => ?_) (fun c32 => ?_)
        · rw [if_neg c32] at hf
          refine lv_iconst (v := 0) hx hb dX10_takes_160 (by decide) ?_
          obtain ⟨rfl, rfl⟩ := pp_some hf
          exact r_zret C hW rfl dX10_takes_161
        · rw [if_pos c32] at hf
          refine lv_iconst (v := 1) hx hb dX10_takes_156 (by decide) ?_
          refine lv_goto (tgt := 161) hx hb dX10_takes_157 (by decide) ?_
          obtain ⟨rfl, rfl⟩ := pp_some hf
          exact r_zret C hW rfl dX10_takes_161
  · rw [if_pos c3] at hf
    refine lv_iload_n hx hb dX10_takes_9 rfl (lv_at hl 1 rfl) ?_
    refine lv_if_eq (tgt := 17) hx hb dX10_takes_10 (by decide) (fun c33 => ?_) (fun c33 => ?_)
    · rw [if_pos c33] at hf
      refine lv_iconst (v := 0) hx hb dX10_takes_17 (by decide) ?_
      refine lv_istore_n (lv' := [(2, .int (0 : Int32)), (0, .ref (ρ x0)), (1, .int x1)]) hx hb dX10_takes_18 rfl hl (by decide) rfl (fun ls hl => ?_)
      refine lv_aload_n hx hb dX10_takes_19 rfl (lv_at hl 1 rfl) ?_
      refine lv_dup hx hb dX10_takes_20 rfl ?_
      obtain ⟨v34, e34, hf⟩ := pb_rd (rd_gI _ _ _) hf
      refine r_gI C hW e34 flX10_400 rfl dX10_takes_21 ?_
      refine lv_iload_n hx hb dX10_takes_24 rfl (lv_at hl 0 rfl) ?_
      refine lv_if_eq (tgt := 32) hx hb dX10_takes_25 (by decide) (fun _ => ?_) (fun q => absurd q (by decide))
      refine lv_iconst (v := 0) hx hb dX10_takes_32 (by decide) ?_
      refine lv_iadd hx hb dX10_takes_33 ?_
      obtain ⟨_, h36, e36, hf⟩ := pb_some hf
      refine r_sI C hW e36 flX10_400 (Or.inl rfl) rfl dX10_takes_34 (fun H locs hW => ?_)
      refine lv_iload_n hx hb dX10_takes_37 rfl (lv_at hl 0 rfl) ?_
      refine lv_if_eq (tgt := 45) hx hb dX10_takes_38 (by decide) (fun _ => ?_) (fun q => absurd q (by decide))
      refine lv_aload_n hx hb dX10_takes_45 rfl (lv_at hl 1 rfl) ?_
      obtain ⟨v38, h38, e38, hf⟩ := pb_some hf
      obtain ⟨_, _, t39⟩ := tgX10_here e38
      refine r_calli hW (pext e38) (run_V (b := x0) (As := []) (rest := []) C hW (metX10_here l G ρ e38) ⟨rfl, rfl⟩ kcX10_here (tq q_1172 rfl) kiX10_here ksX10_here knX10_here kdX10_here t39 rfl rfl ⟨Nat.le_of_ble_eq_true rfl, Nat.le_of_ble_eq_true rfl⟩ hl.1 (Nat.le_of_ble_eq_true rfl) (room_of hW (pext e38) ((pext hf).tr hX)) dX10_takes_46 rfl) (fun H locs c1 s1 hW => ?_)
      refine lv_istore_n (lv' := [(3, .int v38), (2, .int (0 : Int32)), (0, .ref (ρ x0)), (1, .int x1)]) hx hb dX10_takes_49 rfl hl (by decide) rfl (fun ls hl => ?_)
      refine lv_iconst (v := 0) hx hb dX10_takes_50 (by decide) ?_
      refine lv_istore (lv' := [(4, .int (0 : Int32)), (3, .int v38), (2, .int (0 : Int32)), (0, .ref (ρ x0)), (1, .int x1)]) hx hb dX10_takes_51 hl (by decide) rfl (fun ls hl => ?_)
      refine lv_aload_n hx hb dX10_takes_53 rfl (lv_at hl 3 rfl) ?_
      refine lv_iconst (v := 0) hx hb dX10_takes_54 (by decide) ?_
      obtain ⟨_, h40, e40, hf⟩ := pb_some hf
      refine r_sI C hW e40 flX10_410 (Or.inl rfl) rfl dX10_takes_55 (fun H locs hW => ?_)
      obtain ⟨z41, h41, e41, hf⟩ := pb_some hf
      refine wX10_takes_L58 C fu _ e41 ((pext hf).tr hX) hW (lv_sub hl [3, 2, 1, 0] rfl) (fun H locs c1 s1 ls hW hl => ?_)
      refine lv_aload_n hx hb dX10_takes_115 rfl (lv_at hl 0 rfl) ?_
      refine lv_iload_n hx hb dX10_takes_116 rfl (lv_at hl 1 rfl) ?_
      refine lv_if_eq (tgt := 128) hx hb dX10_takes_117 (by decide) (fun _ => ?_) (fun q => absurd q (by decide))
      refine lv_aload_n hx hb dX10_takes_128 rfl (lv_at hl 0 rfl) ?_
      obtain ⟨v43, e43, hf⟩ := pb_rd (rd_gI _ _ _) hf
      refine r_gI C hW e43 flX10_410 rfl dX10_takes_129 ?_
      obtain ⟨_, h44, e44, hf⟩ := pb_some hf
      refine r_sI C hW e44 flX10_410 (Or.inl rfl) rfl dX10_takes_132 (fun H locs hW => ?_)
      refine lv_iload_n hx hb dX10_takes_135 rfl (lv_at hl 2 rfl) ?_
      refine lv_iconst (v := -1) hx hb dX10_takes_136 (by decide) ?_
      refine lv_icmp_eq (tgt := 160) hx hb dX10_takes_137 (by decide) (fun c45 => ?_) (fun c45 => ?_)
      · rw [if_pos c45] at hf
        refine lv_iconst (v := 0) hx hb dX10_takes_160 (by decide) ?_
        obtain ⟨rfl, rfl⟩ := pp_some hf
        exact r_zret C hW rfl dX10_takes_161
      · rw [if_neg c45] at hf
        refine lv_iload hx hb dX10_takes_140 (lv_at hl 3 rfl) ?_
        refine lv_if_le (tgt := 160) hx hb dX10_takes_142 (by decide) (fun c46 => ?_) (fun c46 => ?_)
        · rw [if_pos c46] at hf
          refine lv_iconst (v := 0) hx hb dX10_takes_160 (by decide) ?_
          obtain ⟨rfl, rfl⟩ := pp_some hf
          exact r_zret C hW rfl dX10_takes_161
        · rw [if_neg c46] at hf
          refine lv_aload_n hx hb dX10_takes_145 rfl (lv_at hl 0 rfl) ?_
          refine lv_aload_n hx hb dX10_takes_146 rfl (lv_at hl 0 rfl) ?_
          obtain ⟨v47, e47, hf⟩ := pb_rd (rd_gI _ _ _) hf
          refine r_gI C hW e47 flX10_400 rfl dX10_takes_147 ?_
          obtain ⟨v48, h48, e48, hf⟩ := pb_some hf
          obtain ⟨_, _, t49⟩ := tgX10_isFigure e48
          refine r_calli hW (pext e48) (run_V (b := x0) (As := [.int v47]) (rest := []) C hW (metX10_isFigure l G ρ e48) ⟨rfl, rfl⟩ kcX10_isFigure (tq q_1184 rfl) kiX10_isFigure ksX10_isFigure knX10_isFigure kdX10_isFigure t49 rfl rfl ⟨Nat.le_of_ble_eq_true rfl, Nat.le_of_ble_eq_true rfl⟩ hl.1 (Nat.le_of_ble_eq_true rfl) (room_of hW (pext e48) ((pext hf).tr hX)) dX10_takes_150 rfl) (fun H locs c1 s1 hW => ?_)
          refine lv_if_ne (tgt := 160) hx hb dX10_takes_153 (by decide) (fun c50 => ?_) (fun c50 => ?_)
          · rw [if_neg c50] at hf
            refine lv_iconst (v := 0) hx hb dX10_takes_160 (by decide) ?_
            obtain ⟨rfl, rfl⟩ := pp_some hf
            exact r_zret C hW rfl dX10_takes_161
          · rw [if_pos c50] at hf
            refine lv_iconst (v := 1) hx hb dX10_takes_156 (by decide) ?_
            refine lv_goto (tgt := 161) hx hb dX10_takes_157 (by decide) ?_
            obtain ⟨rfl, rfl⟩ := pp_some hf
            exact r_zret C hW rfl dX10_takes_161
    · rw [if_neg c33] at hf
      refine lv_iconst (v := 1) hx hb dX10_takes_13 (by decide) ?_
      refine lv_goto (tgt := 18) hx hb dX10_takes_14 (by decide) ?_
      refine lv_istore_n (lv' := [(2, .int (1 : Int32)), (0, .ref (ρ x0)), (1, .int x1)]) hx hb dX10_takes_18 rfl hl (by decide) rfl (fun ls hl => ?_)
      refine lv_aload_n hx hb dX10_takes_19 rfl (lv_at hl 1 rfl) ?_
      refine lv_dup hx hb dX10_takes_20 rfl ?_
      obtain ⟨v51, e51, hf⟩ := pb_rd (rd_gI _ _ _) hf
      refine r_gI C hW e51 flX10_400 rfl dX10_takes_21 ?_
      refine lv_iload_n hx hb dX10_takes_24 rfl (lv_at hl 0 rfl) ?_
      refine lv_if_eq (tgt := 32) hx hb dX10_takes_25 (by decide) (fun q => absurd q (by decide)) (fun _ => ?_)
      refine lv_iconst (v := 1) hx hb dX10_takes_28 (by decide) ?_
      refine lv_goto (tgt := 33) hx hb dX10_takes_29 (by decide) ?_
      refine lv_iadd hx hb dX10_takes_33 ?_
      obtain ⟨_, h53, e53, hf⟩ := pb_some hf
      refine r_sI C hW e53 flX10_400 (Or.inl rfl) rfl dX10_takes_34 (fun H locs hW => ?_)
      refine lv_iload_n hx hb dX10_takes_37 rfl (lv_at hl 0 rfl) ?_
      refine lv_if_eq (tgt := 45) hx hb dX10_takes_38 (by decide) (fun q => absurd q (by decide)) (fun _ => ?_)
      refine lv_iconst (v := 0) hx hb dX10_takes_41 (by decide) ?_
      refine lv_goto (tgt := 49) hx hb dX10_takes_42 (by decide) ?_
      refine lv_istore_n (lv' := [(3, .int (0 : Int32)), (2, .int (1 : Int32)), (0, .ref (ρ x0)), (1, .int x1)]) hx hb dX10_takes_49 rfl hl (by decide) rfl (fun ls hl => ?_)
      refine lv_iconst (v := 0) hx hb dX10_takes_50 (by decide) ?_
      refine lv_istore (lv' := [(4, .int (0 : Int32)), (3, .int (0 : Int32)), (2, .int (1 : Int32)), (0, .ref (ρ x0)), (1, .int x1)]) hx hb dX10_takes_51 hl (by decide) rfl (fun ls hl => ?_)
      refine lv_aload_n hx hb dX10_takes_53 rfl (lv_at hl 3 rfl) ?_
      refine lv_iconst (v := 0) hx hb dX10_takes_54 (by decide) ?_
      obtain ⟨_, h55, e55, hf⟩ := pb_some hf
      refine r_sI C hW e55 flX10_410 (Or.inl rfl) rfl dX10_takes_55 (fun H locs hW => ?_)
      obtain ⟨z56, h56, e56, hf⟩ := pb_some hf
      refine wX10_takes_L58 C fu _ e56 ((pext hf).tr hX) hW (lv_sub hl [3, 2, 1, 0] rfl) (fun H locs c1 s1 ls hW hl => ?_)
      refine lv_aload_n hx hb dX10_takes_115 rfl (lv_at hl 0 rfl) ?_
      refine lv_iload_n hx hb dX10_takes_116 rfl (lv_at hl 1 rfl) ?_
      refine lv_if_eq (tgt := 128) hx hb dX10_takes_117 (by decide) (fun q => absurd q (by decide)) (fun _ => ?_)
      refine lv_aload_n hx hb dX10_takes_120 rfl (lv_at hl 0 rfl) ?_
      obtain ⟨v58, e58, hf⟩ := pb_rd (rd_gI _ _ _) hf
      refine r_gI C hW e58 flX10_410 rfl dX10_takes_121 ?_
      refine lv_ineg hx hb dX10_takes_124 ?_
      refine lv_goto (tgt := 132) hx hb dX10_takes_125 (by decide) ?_
      obtain ⟨_, h59, e59, hf⟩ := pb_some hf
      refine r_sI C hW e59 flX10_410 (Or.inl rfl) rfl dX10_takes_132 (fun H locs hW => ?_)
      refine lv_iload_n hx hb dX10_takes_135 rfl (lv_at hl 2 rfl) ?_
      refine lv_iconst (v := -1) hx hb dX10_takes_136 (by decide) ?_
      refine lv_icmp_eq (tgt := 160) hx hb dX10_takes_137 (by decide) (fun q => absurd q (by decide)) (fun _ => ?_)
      refine lv_iload hx hb dX10_takes_140 (lv_at hl 3 rfl) ?_
      refine lv_if_le (tgt := 160) hx hb dX10_takes_142 (by decide) (fun c61 => ?_) (fun c61 => ?_)
      · rw [if_pos c61] at hf
        refine lv_iconst (v := 0) hx hb dX10_takes_160 (by decide) ?_
        obtain ⟨rfl, rfl⟩ := pp_some hf
        exact r_zret C hW rfl dX10_takes_161
      · rw [if_neg c61] at hf
        refine lv_aload_n hx hb dX10_takes_145 rfl (lv_at hl 0 rfl) ?_
        refine lv_aload_n hx hb dX10_takes_146 rfl (lv_at hl 0 rfl) ?_
        obtain ⟨v62, e62, hf⟩ := pb_rd (rd_gI _ _ _) hf
        refine r_gI C hW e62 flX10_400 rfl dX10_takes_147 ?_
        obtain ⟨v63, h63, e63, hf⟩ := pb_some hf
        obtain ⟨_, _, t64⟩ := tgX10_isFigure e63
        refine r_calli hW (pext e63) (run_V (b := x0) (As := [.int v62]) (rest := []) C hW (metX10_isFigure l G ρ e63) ⟨rfl, rfl⟩ kcX10_isFigure (tq q_1184 rfl) kiX10_isFigure ksX10_isFigure knX10_isFigure kdX10_isFigure t64 rfl rfl ⟨Nat.le_of_ble_eq_true rfl, Nat.le_of_ble_eq_true rfl⟩ hl.1 (Nat.le_of_ble_eq_true rfl) (room_of hW (pext e63) ((pext hf).tr hX)) dX10_takes_150 rfl) (fun H locs c1 s1 hW => ?_)
        refine lv_if_ne (tgt := 160) hx hb dX10_takes_153 (by decide) (fun c65 => ?_) (fun c65 => ?_)
        · rw [if_neg c65] at hf
          refine lv_iconst (v := 0) hx hb dX10_takes_160 (by decide) ?_
          obtain ⟨rfl, rfl⟩ := pp_some hf
          exact r_zret C hW rfl dX10_takes_161
        · rw [if_pos c65] at hf
          refine lv_iconst (v := 1) hx hb dX10_takes_156 (by decide) ?_
          refine lv_goto (tgt := 161) hx hb dX10_takes_157 (by decide) ?_
          obtain ⟨rfl, rfl⟩ := pp_some hf
          exact r_zret C hW rfl dX10_takes_161

theorem dX10_takesNumbers_0 : decode cX10_takesNumbers 0 = .ok (.iload_n 1, 1) := by decide +kernel
theorem dX10_takesNumbers_1 : decode cX10_takesNumbers 1 = .ok (.bipush 122, 2) := by decide +kernel
theorem dX10_takesNumbers_3 : decode cX10_takesNumbers 3 = .ok (.if_icmp .ne 5, 3) := by decide +kernel
theorem dX10_takesNumbers_6 : decode cX10_takesNumbers 6 = .ok (.iconst 1, 1) := by decide +kernel
theorem dX10_takesNumbers_7 : decode cX10_takesNumbers 7 = .ok (.ireturn, 1) := by decide +kernel
theorem dX10_takesNumbers_8 : decode cX10_takesNumbers 8 = .ok (.aload_n 0, 1) := by decide +kernel
theorem dX10_takesNumbers_9 : decode cX10_takesNumbers 9 = .ok (.iload_n 1, 1) := by decide +kernel
theorem dX10_takesNumbers_10 : decode cX10_takesNumbers 10 = .ok (.bipush 43, 2) := by decide +kernel
theorem dX10_takesNumbers_12 : decode cX10_takesNumbers 12 = .ok (.if_icmp .ne 7, 3) := by decide +kernel
theorem dX10_takesNumbers_15 : decode cX10_takesNumbers 15 = .ok (.iconst 1, 1) := by decide +kernel
theorem dX10_takesNumbers_16 : decode cX10_takesNumbers 16 = .ok (.goto 4, 3) := by decide +kernel
theorem dX10_takesNumbers_19 : decode cX10_takesNumbers 19 = .ok (.iconst 0, 1) := by decide +kernel
theorem dX10_takesNumbers_20 : decode cX10_takesNumbers 20 = .ok (.invokevirtual 416, 3) := by decide +kernel
theorem dX10_takesNumbers_23 : decode cX10_takesNumbers 23 = .ok (.ifCond .ne 5, 3) := by decide +kernel
theorem dX10_takesNumbers_26 : decode cX10_takesNumbers 26 = .ok (.iconst 0, 1) := by decide +kernel
theorem dX10_takesNumbers_27 : decode cX10_takesNumbers 27 = .ok (.ireturn, 1) := by decide +kernel
theorem dX10_takesNumbers_28 : decode cX10_takesNumbers 28 = .ok (.aload_n 0, 1) := by decide +kernel
theorem dX10_takesNumbers_29 : decode cX10_takesNumbers 29 = .ok (.aload_n 0, 1) := by decide +kernel
theorem dX10_takesNumbers_30 : decode cX10_takesNumbers 30 = .ok (.getfield 410, 3) := by decide +kernel
theorem dX10_takesNumbers_33 : decode cX10_takesNumbers 33 = .ok (.putfield 420, 3) := by decide +kernel
theorem dX10_takesNumbers_36 : decode cX10_takesNumbers 36 = .ok (.iload_n 1, 1) := by decide +kernel
theorem dX10_takesNumbers_37 : decode cX10_takesNumbers 37 = .ok (.bipush 43, 2) := by decide +kernel
theorem dX10_takesNumbers_39 : decode cX10_takesNumbers 39 = .ok (.if_icmp .eq 11, 3) := by decide +kernel
theorem dX10_takesNumbers_42 : decode cX10_takesNumbers 42 = .ok (.iload_n 1, 1) := by decide +kernel
theorem dX10_takesNumbers_43 : decode cX10_takesNumbers 43 = .ok (.bipush 119, 2) := by decide +kernel
theorem dX10_takesNumbers_45 : decode cX10_takesNumbers 45 = .ok (.if_icmp .eq 5, 3) := by decide +kernel
theorem dX10_takesNumbers_48 : decode cX10_takesNumbers 48 = .ok (.iconst 1, 1) := by decide +kernel
theorem dX10_takesNumbers_49 : decode cX10_takesNumbers 49 = .ok (.ireturn, 1) := by decide +kernel
theorem dX10_takesNumbers_50 : decode cX10_takesNumbers 50 = .ok (.aload_n 0, 1) := by decide +kernel
theorem dX10_takesNumbers_51 : decode cX10_takesNumbers 51 = .ok (.iconst 0, 1) := by decide +kernel
theorem dX10_takesNumbers_52 : decode cX10_takesNumbers 52 = .ok (.invokevirtual 416, 3) := by decide +kernel
theorem dX10_takesNumbers_55 : decode cX10_takesNumbers 55 = .ok (.istore_n 2, 1) := by decide +kernel
theorem dX10_takesNumbers_56 : decode cX10_takesNumbers 56 = .ok (.aload_n 0, 1) := by decide +kernel
theorem dX10_takesNumbers_57 : decode cX10_takesNumbers 57 = .ok (.aload_n 0, 1) := by decide +kernel
theorem dX10_takesNumbers_58 : decode cX10_takesNumbers 58 = .ok (.getfield 410, 3) := by decide +kernel
theorem dX10_takesNumbers_61 : decode cX10_takesNumbers 61 = .ok (.putfield 423, 3) := by decide +kernel
theorem dX10_takesNumbers_64 : decode cX10_takesNumbers 64 = .ok (.iload_n 2, 1) := by decide +kernel
theorem dX10_takesNumbers_65 : decode cX10_takesNumbers 65 = .ok (.ireturn, 1) := by decide +kernel
theorem kcX10_takesNumbers : Cond.code yX10_takesNumbers cX10_takesNumbers 3 (some .boolean) ∈ tb := tq q_1179 rfl
theorem knX10_takesNumbers : Cond.initialized yX10_takesNumbers.cls ∈ tb := (tq q_10 rfl)
theorem kdX10_takesNumbers : yX10_takesNumbers.cls ≠ "java/lang/invoke/MethodHandle" ∧ yX10_takesNumbers.cls ≠ "java/lang/invoke/VarHandle" ∧ (parseMethodDescriptor yX10_takesNumbers.desc).map (fun d => d.parameters.length) = some 1 := ⟨by decide +kernel, by decide +kernel, by decide +kernel⟩
theorem kiX10_takesNumbers : Cond.instanceMethod yX10_takesNumbers ∈ tb := (tq q_1178 rfl)
theorem ksX10_takesNumbers : Cond.selects yX10_takesNumbers.cls yX10_takesNumbers yX10_takesNumbers ∈ tb := (tq z_81 rfl)
theorem tgX10_takesNumbers {x0 : Nat} {x1 : Int32} {h : PH} {r : Int32 × PH} (hf : (fX10_takesNumbers x0 x1).1 h = some r) : ∃ n x, nth h x0 = some (9, n, x) := by
  obtain ⟨_, _, e, _⟩ := pb_some hf
  exact (chk_some e).2
set_option maxHeartbeats 4000000 in
set_option maxRecDepth 100000 in
theorem metX10_takesNumbers (l : Launch) (G : GG) (ρ : Nat → Nat) {z : Nat} {x0 : Nat} {x1 : Int32} {h hE : PH} {v : Int32} (hf : (fX10_takesNumbers x0 x1).1 h = some (v, hE)) : Met l yX10_takesNumbers (wsY yX10_takesNumbers cX10_takesNumbers 3 (some .boolean)) (RM 3 70 h hE) (va_Pc [.ref (ρ x0), .int x1] (PcB G ρ h z)) (QI G ρ v hE h.length z) (DC h hE) (DS h hE) (Af ρ h.length z) := by
  refine met_start (by decide) (Nat.le_of_ble_eq_true rfl) ?_
  intro p e s m below meth c ls hz C hW hl
  subst hz
  have C : Cx G "PairSymbolsModel" cX10_takesNumbers 3 (some .boolean) "takesNumbers" p s m _ meth c := C
  have hx := C.1
  have hb := C.2.1
  have hX : Ext hE hE := Ext.rf hE
  have hl : lv_has ls 3 [(0, .ref (ρ x0)), (1, .int x1)] := hl
  have hW : Wd G ρ h.length (sl h) s.heap h s.heap [] 0 0 := hW
  unfold fX10_takesNumbers at hf
  obtain ⟨_, e0, hf⟩ := pb_rd (rd_chk _ _) hf
  refine lv_iload_n hx hb dX10_takesNumbers_0 rfl (lv_at hl 1 rfl) ?_
  refine lv_bipush (v := 122) hx hb dX10_takesNumbers_1 (by decide) ?_
  refine lv_icmp_ne (tgt := 8) hx hb dX10_takesNumbers_3 (by decide) (fun c1 => ?_) (fun c1 => ?_)
  · rw [if_neg c1] at hf
    refine lv_aload_n hx hb dX10_takesNumbers_8 rfl (lv_at hl 0 rfl) ?_
    refine lv_iload_n hx hb dX10_takesNumbers_9 rfl (lv_at hl 1 rfl) ?_
    refine lv_bipush (v := 43) hx hb dX10_takesNumbers_10 (by decide) ?_
    refine lv_icmp_ne (tgt := 19) hx hb dX10_takesNumbers_12 (by decide) (fun c2 => ?_) (fun c2 => ?_)
    · rw [if_neg c2] at hf
      refine lv_iconst (v := 0) hx hb dX10_takesNumbers_19 (by decide) ?_
      obtain ⟨v3, h3, e3, hf⟩ := pb_some hf
      obtain ⟨_, _, t4⟩ := tgX10_takes e3
      refine r_calli hW (pext e3) (run_V (b := x0) (As := [.int (0 : Int32)]) (rest := []) C hW (metX10_takes l G ρ e3) ⟨rfl, rfl⟩ kcX10_takes (tq q_1180 rfl) kiX10_takes ksX10_takes knX10_takes kdX10_takes t4 rfl rfl ⟨Nat.le_of_ble_eq_true rfl, Nat.le_of_ble_eq_true rfl⟩ hl.1 (Nat.le_of_ble_eq_true rfl) (room_of hW (pext e3) ((pext hf).tr hX)) dX10_takesNumbers_20 rfl) (fun H locs c1 s1 hW => ?_)
      refine lv_if_ne (tgt := 28) hx hb dX10_takesNumbers_23 (by decide) (fun c5 => ?_) (fun c5 => ?_)
      · rw [if_neg c5] at hf
        refine lv_aload_n hx hb dX10_takesNumbers_28 rfl (lv_at hl 0 rfl) ?_
        refine lv_aload_n hx hb dX10_takesNumbers_29 rfl (lv_at hl 0 rfl) ?_
        obtain ⟨v6, e6, hf⟩ := pb_rd (rd_gI _ _ _) hf
        refine r_gI C hW e6 flX10_410 rfl dX10_takesNumbers_30 ?_
        obtain ⟨_, h7, e7, hf⟩ := pb_some hf
        refine r_sI C hW e7 flX10_420 (Or.inl rfl) rfl dX10_takesNumbers_33 (fun H locs hW => ?_)
        refine lv_iload_n hx hb dX10_takesNumbers_36 rfl (lv_at hl 1 rfl) ?_
        refine lv_bipush (v := 43) hx hb dX10_takesNumbers_37 (by decide) ?_
        refine lv_icmp_eq (tgt := 50) hx hb dX10_takesNumbers_39 (by decide) (fun c8 => ?_) (fun c8 => ?_)
        · rw [if_pos c8] at hf
          refine lv_aload_n hx hb dX10_takesNumbers_50 rfl (lv_at hl 0 rfl) ?_
          refine lv_iconst (v := 0) hx hb dX10_takesNumbers_51 (by decide) ?_
          obtain ⟨v9, h9, e9, hf⟩ := pb_some hf
          obtain ⟨_, _, t10⟩ := tgX10_takes e9
          refine r_calli hW (pext e9) (run_V (b := x0) (As := [.int (0 : Int32)]) (rest := []) C hW (metX10_takes l G ρ e9) ⟨rfl, rfl⟩ kcX10_takes (tq q_1180 rfl) kiX10_takes ksX10_takes knX10_takes kdX10_takes t10 rfl rfl ⟨Nat.le_of_ble_eq_true rfl, Nat.le_of_ble_eq_true rfl⟩ hl.1 (Nat.le_of_ble_eq_true rfl) (room_of hW (pext e9) ((pext hf).tr hX)) dX10_takesNumbers_52 rfl) (fun H locs c1 s1 hW => ?_)
          refine lv_istore_n (lv' := [(2, .int v9), (0, .ref (ρ x0)), (1, .int x1)]) hx hb dX10_takesNumbers_55 rfl hl (by decide) rfl (fun ls hl => ?_)
          refine lv_aload_n hx hb dX10_takesNumbers_56 rfl (lv_at hl 1 rfl) ?_
          refine lv_aload_n hx hb dX10_takesNumbers_57 rfl (lv_at hl 1 rfl) ?_
          obtain ⟨v11, e11, hf⟩ := pb_rd (rd_gI _ _ _) hf
          refine r_gI C hW e11 flX10_410 rfl dX10_takesNumbers_58 ?_
          obtain ⟨_, h12, e12, hf⟩ := pb_some hf
          refine r_sI C hW e12 flX10_423 (Or.inl rfl) rfl dX10_takesNumbers_61 (fun H locs hW => ?_)
          refine lv_iload_n hx hb dX10_takesNumbers_64 rfl (lv_at hl 0 rfl) ?_
          obtain ⟨hz, hf⟩ := pz_some hf
          obtain ⟨rfl, rfl⟩ := pp_some hf
          exact r_zret C hW (pz_nar hz) dX10_takesNumbers_65
        · rw [if_neg c8] at hf
          refine lv_iload_n hx hb dX10_takesNumbers_42 rfl (lv_at hl 1 rfl) ?_
          refine lv_bipush (v := 119) hx hb dX10_takesNumbers_43 (by decide) ?_
          refine lv_icmp_eq (tgt := 50) hx hb dX10_takesNumbers_45 (by decide) (fun c13 => ?_) (fun c13 => ?_)
          · rw [if_pos c13] at hf
            refine lv_aload_n hx hb dX10_takesNumbers_50 rfl (lv_at hl 0 rfl) ?_
            refine lv_iconst (v := 0) hx hb dX10_takesNumbers_51 (by decide) ?_
            obtain ⟨v14, h14, e14, hf⟩ := pb_some hf
            obtain ⟨_, _, t15⟩ := tgX10_takes e14
            refine r_calli hW (pext e14) (run_V (b := x0) (As := [.int (0 : Int32)]) (rest := []) C hW (metX10_takes l G ρ e14) ⟨rfl, rfl⟩ kcX10_takes (tq q_1180 rfl) kiX10_takes ksX10_takes knX10_takes kdX10_takes t15 rfl rfl ⟨Nat.le_of_ble_eq_true rfl, Nat.le_of_ble_eq_true rfl⟩ hl.1 (Nat.le_of_ble_eq_true rfl) (room_of hW (pext e14) ((pext hf).tr hX)) dX10_takesNumbers_52 rfl) (fun H locs c1 s1 hW => ?_)
            refine lv_istore_n (lv' := [(2, .int v14), (0, .ref (ρ x0)), (1, .int x1)]) hx hb dX10_takesNumbers_55 rfl hl (by decide) rfl (fun ls hl => ?_)
            refine lv_aload_n hx hb dX10_takesNumbers_56 rfl (lv_at hl 1 rfl) ?_
            refine lv_aload_n hx hb dX10_takesNumbers_57 rfl (lv_at hl 1 rfl) ?_
            obtain ⟨v16, e16, hf⟩ := pb_rd (rd_gI _ _ _) hf
            refine r_gI C hW e16 flX10_410 rfl dX10_takesNumbers_58 ?_
            obtain ⟨_, h17, e17, hf⟩ := pb_some hf
            refine r_sI C hW e17 flX10_423 (Or.inl rfl) rfl dX10_takesNumbers_61 (fun H locs hW => ?_)
            refine lv_iload_n hx hb dX10_takesNumbers_64 rfl (lv_at hl 0 rfl) ?_
            obtain ⟨hz, hf⟩ := pz_some hf
            obtain ⟨rfl, rfl⟩ := pp_some hf
            exact r_zret C hW (pz_nar hz) dX10_takesNumbers_65
          · rw [if_neg c13] at hf
            refine lv_iconst (v := 1) hx hb dX10_takesNumbers_48 (by decide) ?_
            obtain ⟨rfl, rfl⟩ := pp_some hf
            exact r_zret C hW rfl dX10_takesNumbers_49
      · rw [if_pos c5] at hf
        refine lv_iconst (v := 0) hx hb dX10_takesNumbers_26 (by decide) ?_
        obtain ⟨rfl, rfl⟩ := pp_some hf
        exact r_zret C hW rfl dX10_takesNumbers_27
    · rw [if_pos c2] at hf
      refine lv_iconst (v := 1) hx hb dX10_takesNumbers_15 (by decide) ?_
      refine lv_goto (tgt := 20) hx hb dX10_takesNumbers_16 (by decide) ?_
      obtain ⟨v18, h18, e18, hf⟩ := pb_some hf
      obtain ⟨_, _, t19⟩ := tgX10_takes e18
      refine r_calli hW (pext e18) (run_V (b := x0) (As := [.int (1 : Int32)]) (rest := []) C hW (metX10_takes l G ρ e18) ⟨rfl, rfl⟩ kcX10_takes (tq q_1180 rfl) kiX10_takes ksX10_takes knX10_takes kdX10_takes t19 rfl rfl ⟨Nat.le_of_ble_eq_true rfl, Nat.le_of_ble_eq_true rfl⟩ hl.1 (Nat.le_of_ble_eq_true rfl) (room_of hW (pext e18) ((pext hf).tr hX)) dX10_takesNumbers_20 rfl) (fun H locs c1 s1 hW => ?_)
      refine lv_if_ne (tgt := 28) hx hb dX10_takesNumbers_23 (by decide) (fun c20 => ?_) (fun c20 => ?_)
      · rw [if_neg c20] at hf
        refine lv_aload_n hx hb dX10_takesNumbers_28 rfl (lv_at hl 0 rfl) ?_
        refine lv_aload_n hx hb dX10_takesNumbers_29 rfl (lv_at hl 0 rfl) ?_
        obtain ⟨v21, e21, hf⟩ := pb_rd (rd_gI _ _ _) hf
        refine r_gI C hW e21 flX10_410 rfl dX10_takesNumbers_30 ?_
        obtain ⟨_, h22, e22, hf⟩ := pb_some hf
        refine r_sI C hW e22 flX10_420 (Or.inl rfl) rfl dX10_takesNumbers_33 (fun H locs hW => ?_)
        refine lv_iload_n hx hb dX10_takesNumbers_36 rfl (lv_at hl 1 rfl) ?_
        refine lv_bipush (v := 43) hx hb dX10_takesNumbers_37 (by decide) ?_
        refine lv_icmp_eq (tgt := 50) hx hb dX10_takesNumbers_39 (by decide) (fun c23 => ?_) (fun c23 => ?_)
        · rw [if_pos c23] at hf
          refine lv_aload_n hx hb dX10_takesNumbers_50 rfl (lv_at hl 0 rfl) ?_
          refine lv_iconst (v := 0) hx hb dX10_takesNumbers_51 (by decide) ?_
          obtain ⟨v24, h24, e24, hf⟩ := pb_some hf
          obtain ⟨_, _, t25⟩ := tgX10_takes e24
          refine r_calli hW (pext e24) (run_V (b := x0) (As := [.int (0 : Int32)]) (rest := []) C hW (metX10_takes l G ρ e24) ⟨rfl, rfl⟩ kcX10_takes (tq q_1180 rfl) kiX10_takes ksX10_takes knX10_takes kdX10_takes t25 rfl rfl ⟨Nat.le_of_ble_eq_true rfl, Nat.le_of_ble_eq_true rfl⟩ hl.1 (Nat.le_of_ble_eq_true rfl) (room_of hW (pext e24) ((pext hf).tr hX)) dX10_takesNumbers_52 rfl) (fun H locs c1 s1 hW => ?_)
          refine lv_istore_n (lv' := [(2, .int v24), (0, .ref (ρ x0)), (1, .int x1)]) hx hb dX10_takesNumbers_55 rfl hl (by decide) rfl (fun ls hl => ?_)
          refine lv_aload_n hx hb dX10_takesNumbers_56 rfl (lv_at hl 1 rfl) ?_
          refine lv_aload_n hx hb dX10_takesNumbers_57 rfl (lv_at hl 1 rfl) ?_
          obtain ⟨v26, e26, hf⟩ := pb_rd (rd_gI _ _ _) hf
          refine r_gI C hW e26 flX10_410 rfl dX10_takesNumbers_58 ?_
          obtain ⟨_, h27, e27, hf⟩ := pb_some hf
          refine r_sI C hW e27 flX10_423 (Or.inl rfl) rfl dX10_takesNumbers_61 (fun H locs hW => ?_)
          refine lv_iload_n hx hb dX10_takesNumbers_64 rfl (lv_at hl 0 rfl) ?_
          obtain ⟨hz, hf⟩ := pz_some hf
          obtain ⟨rfl, rfl⟩ := pp_some hf
          exact r_zret C hW (pz_nar hz) dX10_takesNumbers_65
        · rw [if_neg c23] at hf
          refine lv_iload_n hx hb dX10_takesNumbers_42 rfl (lv_at hl 1 rfl) ?_
          refine lv_bipush (v := 119) hx hb dX10_takesNumbers_43 (by decide) ?_
          refine lv_icmp_eq (tgt := 50) hx hb dX10_takesNumbers_45 (by decide) (fun c28 => ?_) (fun c28 => ?_)
          · rw [if_pos c28] at hf
            refine lv_aload_n hx hb dX10_takesNumbers_50 rfl (lv_at hl 0 rfl) ?_
            refine lv_iconst (v := 0) hx hb dX10_takesNumbers_51 (by decide) ?_
            obtain ⟨v29, h29, e29, hf⟩ := pb_some hf
            obtain ⟨_, _, t30⟩ := tgX10_takes e29
            refine r_calli hW (pext e29) (run_V (b := x0) (As := [.int (0 : Int32)]) (rest := []) C hW (metX10_takes l G ρ e29) ⟨rfl, rfl⟩ kcX10_takes (tq q_1180 rfl) kiX10_takes ksX10_takes knX10_takes kdX10_takes t30 rfl rfl ⟨Nat.le_of_ble_eq_true rfl, Nat.le_of_ble_eq_true rfl⟩ hl.1 (Nat.le_of_ble_eq_true rfl) (room_of hW (pext e29) ((pext hf).tr hX)) dX10_takesNumbers_52 rfl) (fun H locs c1 s1 hW => ?_)
            refine lv_istore_n (lv' := [(2, .int v29), (0, .ref (ρ x0)), (1, .int x1)]) hx hb dX10_takesNumbers_55 rfl hl (by decide) rfl (fun ls hl => ?_)
            refine lv_aload_n hx hb dX10_takesNumbers_56 rfl (lv_at hl 1 rfl) ?_
            refine lv_aload_n hx hb dX10_takesNumbers_57 rfl (lv_at hl 1 rfl) ?_
            obtain ⟨v31, e31, hf⟩ := pb_rd (rd_gI _ _ _) hf
            refine r_gI C hW e31 flX10_410 rfl dX10_takesNumbers_58 ?_
            obtain ⟨_, h32, e32, hf⟩ := pb_some hf
            refine r_sI C hW e32 flX10_423 (Or.inl rfl) rfl dX10_takesNumbers_61 (fun H locs hW => ?_)
            refine lv_iload_n hx hb dX10_takesNumbers_64 rfl (lv_at hl 0 rfl) ?_
            obtain ⟨hz, hf⟩ := pz_some hf
            obtain ⟨rfl, rfl⟩ := pp_some hf
            exact r_zret C hW (pz_nar hz) dX10_takesNumbers_65
          · rw [if_neg c28] at hf
            refine lv_iconst (v := 1) hx hb dX10_takesNumbers_48 (by decide) ?_
            obtain ⟨rfl, rfl⟩ := pp_some hf
            exact r_zret C hW rfl dX10_takesNumbers_49
      · rw [if_pos c20] at hf
        refine lv_iconst (v := 0) hx hb dX10_takesNumbers_26 (by decide) ?_
        obtain ⟨rfl, rfl⟩ := pp_some hf
        exact r_zret C hW rfl dX10_takesNumbers_27
  · rw [if_pos c1] at hf
    refine lv_iconst (v := 1) hx hb dX10_takesNumbers_6 (by decide) ?_
    obtain ⟨rfl, rfl⟩ := pp_some hf
    exact r_zret C hW rfl dX10_takesNumbers_7

theorem dX10_can_0 : decode cX10_can 0 = .ok (.iload_n 1, 1) := by decide +kernel
theorem dX10_can_1 : decode cX10_can 1 = .ok (.lookupswitch 100 #[(43, 65), (110, 43), (116, 78), (119, 87)], 43) := by decide +kernel
theorem dX10_can_44 : decode cX10_can 44 = .ok (.aload_n 0, 1) := by decide +kernel
theorem dX10_can_45 : decode cX10_can 45 = .ok (.getfield 420, 3) := by decide +kernel
theorem dX10_can_48 : decode cX10_can 48 = .ok (.i2l, 1) := by decide +kernel
theorem dX10_can_49 : decode cX10_can 49 = .ok (.lconst 1, 1) := by decide +kernel
theorem dX10_can_50 : decode cX10_can 50 = .ok (.ldc2_w 234, 3) := by decide +kernel
theorem dX10_can_53 : decode cX10_can 53 = .ok (.invokestatic 236, 3) := by decide +kernel
theorem dX10_can_56 : decode cX10_can 56 = .ok (.ifCond .eq 7, 3) := by decide +kernel
theorem dX10_can_59 : decode cX10_can 59 = .ok (.iconst 0, 1) := by decide +kernel
theorem dX10_can_60 : decode cX10_can 60 = .ok (.goto 5, 3) := by decide +kernel
theorem dX10_can_63 : decode cX10_can 63 = .ok (.bipush (-2), 2) := by decide +kernel
theorem dX10_can_65 : decode cX10_can 65 = .ok (.ireturn, 1) := by decide +kernel
theorem dX10_can_66 : decode cX10_can 66 = .ok (.aload_n 0, 1) := by decide +kernel
theorem dX10_can_67 : decode cX10_can 67 = .ok (.aload_n 0, 1) := by decide +kernel
theorem dX10_can_68 : decode cX10_can 68 = .ok (.getfield 423, 3) := by decide +kernel
theorem dX10_can_71 : decode cX10_can 71 = .ok (.aload_n 0, 1) := by decide +kernel
theorem dX10_can_72 : decode cX10_can 72 = .ok (.getfield 420, 3) := by decide +kernel
theorem dX10_can_75 : decode cX10_can 75 = .ok (.invokevirtual 374, 3) := by decide +kernel
theorem dX10_can_78 : decode cX10_can 78 = .ok (.ireturn, 1) := by decide +kernel
theorem dX10_can_79 : decode cX10_can 79 = .ok (.aload_n 0, 1) := by decide +kernel
theorem dX10_can_80 : decode cX10_can 80 = .ok (.aload_n 0, 1) := by decide +kernel
theorem dX10_can_81 : decode cX10_can 81 = .ok (.getfield 420, 3) := by decide +kernel
theorem dX10_can_84 : decode cX10_can 84 = .ok (.invokevirtual 380, 3) := by decide +kernel
theorem dX10_can_87 : decode cX10_can 87 = .ok (.ireturn, 1) := by decide +kernel
theorem dX10_can_88 : decode cX10_can 88 = .ok (.aload_n 0, 1) := by decide +kernel
theorem dX10_can_89 : decode cX10_can 89 = .ok (.aload_n 0, 1) := by decide +kernel
theorem dX10_can_90 : decode cX10_can 90 = .ok (.getfield 420, 3) := by decide +kernel
theorem dX10_can_93 : decode cX10_can 93 = .ok (.aload_n 0, 1) := by decide +kernel
theorem dX10_can_94 : decode cX10_can 94 = .ok (.getfield 423, 3) := by decide +kernel
theorem dX10_can_97 : decode cX10_can 97 = .ok (.invokevirtual 385, 3) := by decide +kernel
theorem dX10_can_100 : decode cX10_can 100 = .ok (.ireturn, 1) := by decide +kernel
theorem dX10_can_101 : decode cX10_can 101 = .ok (.iconst 0, 1) := by decide +kernel
theorem dX10_can_102 : decode cX10_can 102 = .ok (.ireturn, 1) := by decide +kernel
theorem kcX10_can : Cond.code yX10_can cX10_can 2 (some .int) ∈ tb := tq q_1193 rfl
theorem knX10_can : Cond.initialized yX10_can.cls ∈ tb := (tq q_10 rfl)
theorem kdX10_can : yX10_can.cls ≠ "java/lang/invoke/MethodHandle" ∧ yX10_can.cls ≠ "java/lang/invoke/VarHandle" ∧ (parseMethodDescriptor yX10_can.desc).map (fun d => d.parameters.length) = some 1 := ⟨by decide +kernel, by decide +kernel, by decide +kernel⟩
theorem kiX10_can : Cond.instanceMethod yX10_can ∈ tb := (tq q_1192 rfl)
theorem ksX10_can : Cond.selects yX10_can.cls yX10_can yX10_can ∈ tb := (tq z_84 rfl)
theorem tgX10_can {x0 : Nat} {x1 : Int32} {h : PH} {r : Int32 × PH} (hf : (fX10_can x0 x1).1 h = some r) : ∃ n x, nth h x0 = some (9, n, x) := by
  obtain ⟨_, _, e, _⟩ := pb_some hf
  exact (chk_some e).2
set_option maxHeartbeats 4000000 in
set_option maxRecDepth 100000 in
theorem metX10_can (l : Launch) (G : GG) (ρ : Nat → Nat) {z : Nat} {x0 : Nat} {x1 : Int32} {h hE : PH} {v : Int32} (hf : (fX10_can x0 x1).1 h = some (v, hE)) : Met l yX10_can (wsY yX10_can cX10_can 2 (some .int)) (RM 10 258 h hE) (va_Pc [.ref (ρ x0), .int x1] (PcB G ρ h z)) (QI G ρ v hE h.length z) (DC h hE) (DS h hE) (Af ρ h.length z) := by
  refine met_start (by decide) (Nat.le_of_ble_eq_true rfl) ?_
  intro p e s m below meth c ls hz C hW hl
  subst hz
  have C : Cx G "PairSymbolsModel" cX10_can 2 (some .int) "can" p s m _ meth c := C
  have hx := C.1
  have hb := C.2.1
  have hX : Ext hE hE := Ext.rf hE
  have hl : lv_has ls 2 [(0, .ref (ρ x0)), (1, .int x1)] := hl
  have hW : Wd G ρ h.length (sl h) s.heap h s.heap [] 0 0 := hW
  unfold fX10_can at hf
  obtain ⟨_, e0, hf⟩ := pb_rd (rd_chk _ _) hf
  refine lv_iload_n hx hb dX10_can_0 rfl (lv_at hl 1 rfl) ?_
  by_cases c1 : x1 = 43
  · rw [if_pos c1] at hf
    refine lv_lookup (off := 65) (tgt := 66) hx hb dX10_can_1 (by decide) (by rw [c1]; decide) (by decide) ?_
    refine lv_aload_n hx hb dX10_can_66 rfl (lv_at hl 0 rfl) ?_
    refine lv_aload_n hx hb dX10_can_67 rfl (lv_at hl 0 rfl) ?_
    obtain ⟨v2, e2, hf⟩ := pb_rd (rd_gI _ _ _) hf
    refine r_gI C hW e2 flX10_423 rfl dX10_can_68 ?_
    refine lv_aload_n hx hb dX10_can_71 rfl (lv_at hl 0 rfl) ?_
    obtain ⟨v3, e3, hf⟩ := pb_rd (rd_gI _ _ _) hf
    refine r_gI C hW e3 flX10_420 rfl dX10_can_72 ?_
    obtain ⟨v4, h4, e4, hf⟩ := pb_some hf
    obtain ⟨_, _, t5⟩ := tgX10_canAdd e4
    refine r_calli hW (pext e4) (run_V (b := x0) (As := [.int v2, .int v3]) (rest := []) C hW (metX10_canAdd l G ρ e4) ⟨rfl, rfl⟩ kcX10_canAdd (tq q_1094 rfl) kiX10_canAdd ksX10_canAdd knX10_canAdd kdX10_canAdd t5 rfl rfl ⟨Nat.le_of_ble_eq_true rfl, Nat.le_of_ble_eq_true rfl⟩ hl.1 (Nat.le_of_ble_eq_true rfl) (room_of hW (pext e4) ((pext hf).tr hX)) dX10_can_75 rfl) (fun H locs c1 s1 hW => ?_)
    obtain ⟨rfl, rfl⟩ := pp_some hf
    exact r_iret C hW dX10_can_78
  rw [if_neg c1] at hf
  by_cases c6 : x1 = 110
  · rw [if_pos c6] at hf
    refine lv_lookup (off := 43) (tgt := 44) hx hb dX10_can_1 (by decide) (by rw [c6]; decide) (by decide) ?_
    refine lv_aload_n hx hb dX10_can_44 rfl (lv_at hl 0 rfl) ?_
    obtain ⟨v7, e7, hf⟩ := pb_rd (rd_gI _ _ _) hf
    refine r_gI C hW e7 flX10_420 rfl dX10_can_45 ?_
    refine lv_i2l (v := v7.toInt64) hx hb dX10_can_48 rfl ?_
    refine lv_lconst (v := 1) hx hb dX10_can_49 (by decide) ?_
    refine r_ldc2 (v := 25) C (tq q_833 rfl) dX10_can_50 ?_
    obtain ⟨v8, h8, e8, hf⟩ := pb_some hf
    refine r_calli hW (pext e8) (run_S (As := [.long v7.toInt64, .long (1 : Int64), .long (25 : Int64)]) (rest := []) C hW (metX10_in l G ρ e8) ⟨rfl, rfl⟩ kcX10_in (tq q_834 rfl) kiX10_in knX10_in kdX10_in ⟨Nat.le_of_ble_eq_true rfl, Nat.le_of_ble_eq_true rfl⟩ hl.1 (Nat.le_of_ble_eq_true rfl) (room_of hW (pext e8) ((pext hf).tr hX)) dX10_can_53 rfl) (fun H locs c1 s1 hW => ?_)
    refine lv_if_eq (tgt := 63) hx hb dX10_can_56 (by decide) (fun c9 => ?_) (fun c9 => ?_)
    · rw [if_pos c9] at hf
      refine lv_bipush (v := -2) hx hb dX10_can_63 (by decide) ?_
      obtain ⟨rfl, rfl⟩ := pp_some hf
      exact r_iret C hW dX10_can_65
    · rw [if_neg c9] at hf
      refine lv_iconst (v := 0) hx hb dX10_can_59 (by decide) ?_
      refine lv_goto (tgt := 65) hx hb dX10_can_60 (by decide) ?_
      obtain ⟨rfl, rfl⟩ := pp_some hf
      exact r_iret C hW dX10_can_65
  rw [if_neg c6] at hf
  by_cases c10 : x1 = 116
  · rw [if_pos c10] at hf
    refine lv_lookup (off := 78) (tgt := 79) hx hb dX10_can_1 (by decide) (by rw [c10]; decide) (by decide) ?_
    refine lv_aload_n hx hb dX10_can_79 rfl (lv_at hl 0 rfl) ?_
    refine lv_aload_n hx hb dX10_can_80 rfl (lv_at hl 0 rfl) ?_
    obtain ⟨v11, e11, hf⟩ := pb_rd (rd_gI _ _ _) hf
    refine r_gI C hW e11 flX10_420 rfl dX10_can_81 ?_
    obtain ⟨v12, h12, e12, hf⟩ := pb_some hf
    obtain ⟨_, _, t13⟩ := tgX10_canApply e12
    refine r_calli hW (pext e12) (run_V (b := x0) (As := [.int v11]) (rest := []) C hW (metX10_canApply l G ρ e12) ⟨rfl, rfl⟩ kcX10_canApply (tq q_1122 rfl) kiX10_canApply ksX10_canApply knX10_canApply kdX10_canApply t13 rfl rfl ⟨Nat.le_of_ble_eq_true rfl, Nat.le_of_ble_eq_true rfl⟩ hl.1 (Nat.le_of_ble_eq_true rfl) (room_of hW (pext e12) ((pext hf).tr hX)) dX10_can_84 rfl) (fun H locs c1 s1 hW => ?_)
    obtain ⟨rfl, rfl⟩ := pp_some hf
    exact r_iret C hW dX10_can_87
  rw [if_neg c10] at hf
  by_cases c14 : x1 = 119
  · rw [if_pos c14] at hf
    refine lv_lookup (off := 87) (tgt := 88) hx hb dX10_can_1 (by decide) (by rw [c14]; decide) (by decide) ?_
    refine lv_aload_n hx hb dX10_can_88 rfl (lv_at hl 0 rfl) ?_
    refine lv_aload_n hx hb dX10_can_89 rfl (lv_at hl 0 rfl) ?_
    obtain ⟨v15, e15, hf⟩ := pb_rd (rd_gI _ _ _) hf
    refine r_gI C hW e15 flX10_420 rfl dX10_can_90 ?_
    refine lv_aload_n hx hb dX10_can_93 rfl (lv_at hl 0 rfl) ?_
    obtain ⟨v16, e16, hf⟩ := pb_rd (rd_gI _ _ _) hf
    refine r_gI C hW e16 flX10_423 rfl dX10_can_94 ?_
    obtain ⟨v17, h17, e17, hf⟩ := pb_some hf
    obtain ⟨_, _, t18⟩ := tgX10_canWalk e17
    refine r_calli hW (pext e17) (run_V (b := x0) (As := [.int v15, .int v16]) (rest := []) C hW (metX10_canWalk l G ρ e17) ⟨rfl, rfl⟩ kcX10_canWalk (tq q_1130 rfl) kiX10_canWalk ksX10_canWalk knX10_canWalk kdX10_canWalk t18 rfl rfl ⟨Nat.le_of_ble_eq_true rfl, Nat.le_of_ble_eq_true rfl⟩ hl.1 (Nat.le_of_ble_eq_true rfl) (room_of hW (pext e17) ((pext hf).tr hX)) dX10_can_97 rfl) (fun H locs c1 s1 hW => ?_)
    obtain ⟨rfl, rfl⟩ := pp_some hf
    exact r_iret C hW dX10_can_100
  rw [if_neg c14] at hf
  refine lv_lookup (off := 100) (tgt := 101) hx hb dX10_can_1 (by decide) (by show Op.lookupswitch.offset [(43, 65), (110, 43), (116, 78), (119, 87)] 100 _ = _; rw [lv_osw c1 (by decide), lv_osw c6 (by decide), lv_osw c10 (by decide), lv_osw c14 (by decide)]; rfl) (by decide) ?_
  refine lv_iconst (v := 0) hx hb dX10_can_101 (by decide) ?_
  obtain ⟨rfl, rfl⟩ := pp_some hf
  exact r_iret C hW dX10_can_102

theorem dX10_does_0 : decode cX10_does 0 = .ok (.iload_n 1, 1) := by decide +kernel
theorem dX10_does_1 : decode cX10_does 1 = .ok (.bipush 110, 2) := by decide +kernel
theorem dX10_does_3 : decode cX10_does 3 = .ok (.if_icmp .ne 12, 3) := by decide +kernel
theorem dX10_does_6 : decode cX10_does 6 = .ok (.aload_n 0, 1) := by decide +kernel
theorem dX10_does_7 : decode cX10_does 7 = .ok (.aload_n 0, 1) := by decide +kernel
theorem dX10_does_8 : decode cX10_does 8 = .ok (.getfield 420, 3) := by decide +kernel
theorem dX10_does_11 : decode cX10_does 11 = .ok (.invokevirtual 246, 3) := by decide +kernel
theorem dX10_does_14 : decode cX10_does 14 = .ok (.ireturn, 1) := by decide +kernel
theorem dX10_does_15 : decode cX10_does 15 = .ok (.iload_n 1, 1) := by decide +kernel
theorem dX10_does_16 : decode cX10_does 16 = .ok (.bipush 122, 2) := by decide +kernel
theorem dX10_does_18 : decode cX10_does 18 = .ok (.if_icmp .ne 9, 3) := by decide +kernel
theorem dX10_does_21 : decode cX10_does 21 = .ok (.aload_n 0, 1) := by decide +kernel
theorem dX10_does_22 : decode cX10_does 22 = .ok (.invokevirtual 122, 3) := by decide +kernel
theorem dX10_does_25 : decode cX10_does 25 = .ok (.iconst 0, 1) := by decide +kernel
theorem dX10_does_26 : decode cX10_does 26 = .ok (.ireturn, 1) := by decide +kernel
theorem dX10_does_27 : decode cX10_does 27 = .ok (.aload_n 0, 1) := by decide +kernel
theorem dX10_does_28 : decode cX10_does 28 = .ok (.invokevirtual 377, 3) := by decide +kernel
theorem dX10_does_31 : decode cX10_does 31 = .ok (.ireturn, 1) := by decide +kernel
theorem kcX10_does : Cond.code yX10_does cX10_does 2 (some .int) ∈ tb := tq q_1197 rfl
theorem knX10_does : Cond.initialized yX10_does.cls ∈ tb := (tq q_10 rfl)
theorem kdX10_does : yX10_does.cls ≠ "java/lang/invoke/MethodHandle" ∧ yX10_does.cls ≠ "java/lang/invoke/VarHandle" ∧ (parseMethodDescriptor yX10_does.desc).map (fun d => d.parameters.length) = some 1 := ⟨by decide +kernel, by decide +kernel, by decide +kernel⟩
theorem kiX10_does : Cond.instanceMethod yX10_does ∈ tb := (tq q_1196 rfl)
theorem ksX10_does : Cond.selects yX10_does.cls yX10_does yX10_does ∈ tb := (tq z_85 rfl)
theorem tgX10_does {x0 : Nat} {x1 : Int32} {h : PH} {r : Int32 × PH} (hf : (fX10_does x0 x1).1 h = some r) : ∃ n x, nth h x0 = some (9, n, x) := by
  obtain ⟨_, _, e, _⟩ := pb_some hf
  exact (chk_some e).2
set_option maxHeartbeats 4000000 in
set_option maxRecDepth 100000 in
theorem metX10_does (l : Launch) (G : GG) (ρ : Nat → Nat) {z : Nat} {x0 : Nat} {x1 : Int32} {h hE : PH} {v : Int32} (hf : (fX10_does x0 x1).1 h = some (v, hE)) : Met l yX10_does (wsY yX10_does cX10_does 2 (some .int)) (RM 2 43 h hE) (va_Pc [.ref (ρ x0), .int x1] (PcB G ρ h z)) (QI G ρ v hE h.length z) (DC h hE) (DS h hE) (Af ρ h.length z) := by
  refine met_start (by decide) (Nat.le_of_ble_eq_true rfl) ?_
  intro p e s m below meth c ls hz C hW hl
  subst hz
  have C : Cx G "PairSymbolsModel" cX10_does 2 (some .int) "does" p s m _ meth c := C
  have hx := C.1
  have hb := C.2.1
  have hX : Ext hE hE := Ext.rf hE
  have hl : lv_has ls 2 [(0, .ref (ρ x0)), (1, .int x1)] := hl
  have hW : Wd G ρ h.length (sl h) s.heap h s.heap [] 0 0 := hW
  unfold fX10_does at hf
  obtain ⟨_, e0, hf⟩ := pb_rd (rd_chk _ _) hf
  refine lv_iload_n hx hb dX10_does_0 rfl (lv_at hl 1 rfl) ?_
  refine lv_bipush (v := 110) hx hb dX10_does_1 (by decide) ?_
  refine lv_icmp_ne (tgt := 15) hx hb dX10_does_3 (by decide) (fun c1 => ?_) (fun c1 => ?_)
  · rw [if_neg c1] at hf
    refine lv_iload_n hx hb dX10_does_15 rfl (lv_at hl 1 rfl) ?_
    refine lv_bipush (v := 122) hx hb dX10_does_16 (by decide) ?_
    refine lv_icmp_ne (tgt := 27) hx hb dX10_does_18 (by decide) (fun c2 => ?_) (fun c2 => ?_)
    · rw [if_neg c2] at hf
      refine lv_aload_n hx hb dX10_does_27 rfl (lv_at hl 0 rfl) ?_
      obtain ⟨v3, h3, e3, hf⟩ := pb_some hf
      obtain ⟨_, _, t4⟩ := tgX10_becomes e3
      refine r_calli hW (pext e3) (run_V (b := x0) (As := []) (rest := []) C hW (metX10_becomes l G ρ e3) ⟨rfl, rfl⟩ kcX10_becomes (tq q_1114 rfl) kiX10_becomes ksX10_becomes knX10_becomes kdX10_becomes t4 rfl rfl ⟨Nat.le_of_ble_eq_true rfl, Nat.le_of_ble_eq_true rfl⟩ hl.1 (Nat.le_of_ble_eq_true rfl) (room_of hW (pext e3) ((pext hf).tr hX)) dX10_does_28 rfl) (fun H locs c1 s1 hW => ?_)
      obtain ⟨rfl, rfl⟩ := pp_some hf
      exact r_iret C hW dX10_does_31
    · rw [if_pos c2] at hf
      refine lv_aload_n hx hb dX10_does_21 rfl (lv_at hl 0 rfl) ?_
      obtain ⟨_, h5, e5, hf⟩ := pb_some hf
      obtain ⟨_, _, t6⟩ := tgX10_zeroes e5
      refine r_callv hW (pext e5) (run_V (b := x0) (As := []) (rest := []) C hW (metX10_zeroes l G ρ e5) ⟨rfl, rfl⟩ kcX10_zeroes (tq q_671 rfl) kiX10_zeroes ksX10_zeroes knX10_zeroes kdX10_zeroes t6 rfl rfl ⟨Nat.le_of_ble_eq_true rfl, Nat.le_of_ble_eq_true rfl⟩ hl.1 (Nat.le_of_ble_eq_true rfl) (room_of hW (pext e5) ((pext hf).tr hX)) dX10_does_22 rfl) (fun H locs c1 s1 hW => ?_)
      refine lv_iconst (v := 0) hx hb dX10_does_25 (by decide) ?_
      obtain ⟨rfl, rfl⟩ := pp_some hf
      exact r_iret C hW dX10_does_26
  · rw [if_pos c1] at hf
    refine lv_aload_n hx hb dX10_does_6 rfl (lv_at hl 0 rfl) ?_
    refine lv_aload_n hx hb dX10_does_7 rfl (lv_at hl 0 rfl) ?_
    obtain ⟨v7, e7, hf⟩ := pb_rd (rd_gI _ _ _) hf
    refine r_gI C hW e7 flX10_420 rfl dX10_does_8 ?_
    obtain ⟨v8, h8, e8, hf⟩ := pb_some hf
    obtain ⟨_, _, t9⟩ := tgX10_levelNow e8
    refine r_calli hW (pext e8) (run_V (b := x0) (As := [.int v7]) (rest := []) C hW (metX10_levelNow l G ρ e8) ⟨rfl, rfl⟩ kcX10_levelNow (tq q_845 rfl) kiX10_levelNow ksX10_levelNow knX10_levelNow kdX10_levelNow t9 rfl rfl ⟨Nat.le_of_ble_eq_true rfl, Nat.le_of_ble_eq_true rfl⟩ hl.1 (Nat.le_of_ble_eq_true rfl) (room_of hW (pext e8) ((pext hf).tr hX)) dX10_does_11 rfl) (fun H locs c1 s1 hW => ?_)
    obtain ⟨rfl, rfl⟩ := pp_some hf
    exact r_iret C hW dX10_does_14

theorem dX10_readsOrder_0 : decode cX10_readsOrder 0 = .ok (.aload_n 0, 1) := by decide +kernel
theorem dX10_readsOrder_1 : decode cX10_readsOrder 1 = .ok (.invokevirtual 407, 3) := by decide +kernel
theorem dX10_readsOrder_4 : decode cX10_readsOrder 4 = .ok (.istore_n 2, 1) := by decide +kernel
theorem dX10_readsOrder_5 : decode cX10_readsOrder 5 = .ok (.iload_n 2, 1) := by decide +kernel
theorem dX10_readsOrder_6 : decode cX10_readsOrder 6 = .ok (.bipush 110, 2) := by decide +kernel
theorem dX10_readsOrder_8 : decode cX10_readsOrder 8 = .ok (.if_icmp .eq 29, 3) := by decide +kernel
theorem dX10_readsOrder_11 : decode cX10_readsOrder 11 = .ok (.iload_n 2, 1) := by decide +kernel
theorem dX10_readsOrder_12 : decode cX10_readsOrder 12 = .ok (.bipush 43, 2) := by decide +kernel
theorem dX10_readsOrder_14 : decode cX10_readsOrder 14 = .ok (.if_icmp .eq 23, 3) := by decide +kernel
theorem dX10_readsOrder_17 : decode cX10_readsOrder 17 = .ok (.iload_n 2, 1) := by decide +kernel
theorem dX10_readsOrder_18 : decode cX10_readsOrder 18 = .ok (.bipush 116, 2) := by decide +kernel
theorem dX10_readsOrder_20 : decode cX10_readsOrder 20 = .ok (.if_icmp .eq 17, 3) := by decide +kernel
theorem dX10_readsOrder_23 : decode cX10_readsOrder 23 = .ok (.iload_n 2, 1) := by decide +kernel
theorem dX10_readsOrder_24 : decode cX10_readsOrder 24 = .ok (.bipush 119, 2) := by decide +kernel
theorem dX10_readsOrder_26 : decode cX10_readsOrder 26 = .ok (.if_icmp .eq 11, 3) := by decide +kernel
theorem dX10_readsOrder_29 : decode cX10_readsOrder 29 = .ok (.iload_n 2, 1) := by decide +kernel
theorem dX10_readsOrder_30 : decode cX10_readsOrder 30 = .ok (.bipush 122, 2) := by decide +kernel
theorem dX10_readsOrder_32 : decode cX10_readsOrder 32 = .ok (.if_icmp .eq 5, 3) := by decide +kernel
theorem dX10_readsOrder_35 : decode cX10_readsOrder 35 = .ok (.iconst 0, 1) := by decide +kernel
theorem dX10_readsOrder_36 : decode cX10_readsOrder 36 = .ok (.ireturn, 1) := by decide +kernel
theorem dX10_readsOrder_37 : decode cX10_readsOrder 37 = .ok (.aload_n 0, 1) := by decide +kernel
theorem dX10_readsOrder_38 : decode cX10_readsOrder 38 = .ok (.dup, 1) := by decide +kernel
theorem dX10_readsOrder_39 : decode cX10_readsOrder 39 = .ok (.getfield 400, 3) := by decide +kernel
theorem dX10_readsOrder_42 : decode cX10_readsOrder 42 = .ok (.iconst 1, 1) := by decide +kernel
theorem dX10_readsOrder_43 : decode cX10_readsOrder 43 = .ok (.iadd, 1) := by decide +kernel
theorem dX10_readsOrder_44 : decode cX10_readsOrder 44 = .ok (.putfield 400, 3) := by decide +kernel
theorem dX10_readsOrder_47 : decode cX10_readsOrder 47 = .ok (.aload_n 0, 1) := by decide +kernel
theorem dX10_readsOrder_48 : decode cX10_readsOrder 48 = .ok (.iload_n 2, 1) := by decide +kernel
theorem dX10_readsOrder_49 : decode cX10_readsOrder 49 = .ok (.invokevirtual 426, 3) := by decide +kernel
theorem dX10_readsOrder_52 : decode cX10_readsOrder 52 = .ok (.ifCond .eq 12, 3) := by decide +kernel
theorem dX10_readsOrder_55 : decode cX10_readsOrder 55 = .ok (.aload_n 0, 1) := by decide +kernel
theorem dX10_readsOrder_56 : decode cX10_readsOrder 56 = .ok (.invokevirtual 407, 3) := by decide +kernel
theorem dX10_readsOrder_59 : decode cX10_readsOrder 59 = .ok (.bipush 59, 2) := by decide +kernel
theorem dX10_readsOrder_61 : decode cX10_readsOrder 61 = .ok (.if_icmp .eq 5, 3) := by decide +kernel
theorem dX10_readsOrder_64 : decode cX10_readsOrder 64 = .ok (.iconst 0, 1) := by decide +kernel
theorem dX10_readsOrder_65 : decode cX10_readsOrder 65 = .ok (.ireturn, 1) := by decide +kernel
theorem dX10_readsOrder_66 : decode cX10_readsOrder 66 = .ok (.aload_n 0, 1) := by decide +kernel
theorem dX10_readsOrder_67 : decode cX10_readsOrder 67 = .ok (.dup, 1) := by decide +kernel
theorem dX10_readsOrder_68 : decode cX10_readsOrder 68 = .ok (.getfield 400, 3) := by decide +kernel
theorem dX10_readsOrder_71 : decode cX10_readsOrder 71 = .ok (.iconst 1, 1) := by decide +kernel
theorem dX10_readsOrder_72 : decode cX10_readsOrder 72 = .ok (.iadd, 1) := by decide +kernel
theorem dX10_readsOrder_73 : decode cX10_readsOrder 73 = .ok (.putfield 400, 3) := by decide +kernel
theorem dX10_readsOrder_76 : decode cX10_readsOrder 76 = .ok (.iload_n 1, 1) := by decide +kernel
theorem dX10_readsOrder_77 : decode cX10_readsOrder 77 = .ok (.ifCond .eq 29, 3) := by decide +kernel
theorem dX10_readsOrder_80 : decode cX10_readsOrder 80 = .ok (.aload_n 0, 1) := by decide +kernel
theorem dX10_readsOrder_81 : decode cX10_readsOrder 81 = .ok (.aload_n 0, 1) := by decide +kernel
theorem dX10_readsOrder_82 : decode cX10_readsOrder 82 = .ok (.iload_n 2, 1) := by decide +kernel
theorem dX10_readsOrder_83 : decode cX10_readsOrder 83 = .ok (.invokevirtual 429, 3) := by decide +kernel
theorem dX10_readsOrder_86 : decode cX10_readsOrder 86 = .ok (.putfield 432, 3) := by decide +kernel
theorem dX10_readsOrder_89 : decode cX10_readsOrder 89 = .ok (.aload_n 0, 1) := by decide +kernel
theorem dX10_readsOrder_90 : decode cX10_readsOrder 90 = .ok (.getfield 432, 3) := by decide +kernel
theorem dX10_readsOrder_93 : decode cX10_readsOrder 93 = .ok (.ifCond .ne 11, 3) := by decide +kernel
theorem dX10_readsOrder_96 : decode cX10_readsOrder 96 = .ok (.aload_n 0, 1) := by decide +kernel
theorem dX10_readsOrder_97 : decode cX10_readsOrder 97 = .ok (.iload_n 2, 1) := by decide +kernel
theorem dX10_readsOrder_98 : decode cX10_readsOrder 98 = .ok (.invokevirtual 435, 3) := by decide +kernel
theorem dX10_readsOrder_101 : decode cX10_readsOrder 101 = .ok (.goto 4, 3) := by decide +kernel
theorem dX10_readsOrder_104 : decode cX10_readsOrder 104 = .ok (.iconst 0, 1) := by decide +kernel
theorem dX10_readsOrder_105 : decode cX10_readsOrder 105 = .ok (.istore_n 3, 1) := by decide +kernel
theorem dX10_readsOrder_106 : decode cX10_readsOrder 106 = .ok (.iconst 1, 1) := by decide +kernel
theorem dX10_readsOrder_107 : decode cX10_readsOrder 107 = .ok (.ireturn, 1) := by decide +kernel
theorem kcX10_readsOrder : Cond.code yX10_readsOrder cX10_readsOrder 4 (some .boolean) ∈ tb := tq q_1171 rfl
theorem knX10_readsOrder : Cond.initialized yX10_readsOrder.cls ∈ tb := (tq q_10 rfl)
theorem kdX10_readsOrder : yX10_readsOrder.cls ≠ "java/lang/invoke/MethodHandle" ∧ yX10_readsOrder.cls ≠ "java/lang/invoke/VarHandle" ∧ (parseMethodDescriptor yX10_readsOrder.desc).map (fun d => d.parameters.length) = some 1 := ⟨by decide +kernel, by decide +kernel, by decide +kernel⟩
theorem kiX10_readsOrder : Cond.instanceMethod yX10_readsOrder ∈ tb := (tq q_1170 rfl)
theorem ksX10_readsOrder : Cond.selects yX10_readsOrder.cls yX10_readsOrder yX10_readsOrder ∈ tb := (tq z_79 rfl)
theorem tgX10_readsOrder {x0 : Nat} {x1 : Int32} {h : PH} {r : Int32 × PH} (hf : (fX10_readsOrder x0 x1).1 h = some r) : ∃ n x, nth h x0 = some (9, n, x) := by
  obtain ⟨_, _, e, _⟩ := pb_some hf
  exact (chk_some e).2
set_option maxHeartbeats 4000000 in
set_option maxRecDepth 100000 in
theorem metX10_readsOrder (l : Launch) (G : GG) (ρ : Nat → Nat) {z : Nat} {x0 : Nat} {x1 : Int32} {h hE : PH} {v : Int32} (hf : (fX10_readsOrder x0 x1).1 h = some (v, hE)) : Met l yX10_readsOrder (wsY yX10_readsOrder cX10_readsOrder 4 (some .boolean)) (RM 11 279 h hE) (va_Pc [.ref (ρ x0), .int x1] (PcB G ρ h z)) (QI G ρ v hE h.length z) (DC h hE) (DS h hE) (Af ρ h.length z) := by
  refine met_start (by decide) (Nat.le_of_ble_eq_true rfl) ?_
  intro p e s m below meth c ls hz C hW hl
  subst hz
  have C : Cx G "PairSymbolsModel" cX10_readsOrder 4 (some .boolean) "readsOrde\x72" p s m _ meth c := C
  have hx := C.1
  have hb := C.2.1
  have hX : Ext hE hE := Ext.rf hE
  have hl : lv_has ls 4 [(0, .ref (ρ x0)), (1, .int x1)] := hl
  have hW : Wd G ρ h.length (sl h) s.heap h s.heap [] 0 0 := hW
  unfold fX10_readsOrder at hf
  obtain ⟨_, e0, hf⟩ := pb_rd (rd_chk _ _) hf
  refine lv_aload_n hx hb dX10_readsOrder_0 rfl (lv_at hl 0 rfl) ?_
  obtain ⟨v1, h1, e1, hf⟩ := pb_some hf
  obtain ⟨_, _, t2⟩ := tgX10_here e1
  refine r_calli hW (pext e1) (run_V (b := x0) (As := []) (rest := []) C hW (metX10_here l G ρ e1) ⟨rfl, rfl⟩ kcX10_here (tq q_1172 rfl) kiX10_here ksX10_here knX10_here kdX10_here t2 rfl rfl ⟨Nat.le_of_ble_eq_true rfl, Nat.le_of_ble_eq_true rfl⟩ hl.1 (Nat.le_of_ble_eq_true rfl) (room_of hW (pext e1) ((pext hf).tr hX)) dX10_readsOrder_1 rfl) (fun H locs c1 s1 hW => ?_)
  refine lv_istore_n (lv' := [(2, .int v1), (0, .ref (ρ x0)), (1, .int x1)]) hx hb dX10_readsOrder_4 rfl hl (by decide) rfl (fun ls hl => ?_)
  refine lv_iload_n hx hb dX10_readsOrder_5 rfl (lv_at hl 0 rfl) ?_
  refine lv_bipush (v := 110) hx hb dX10_readsOrder_6 (by decide) ?_
  refine lv_icmp_eq (tgt := 37) hx hb dX10_readsOrder_8 (by decide) (fun c3 => ?_) (fun c3 => ?_)
  · rw [if_pos c3] at hf
    refine lv_aload_n hx hb dX10_readsOrder_37 rfl (lv_at hl 1 rfl) ?_
    refine lv_dup hx hb dX10_readsOrder_38 rfl ?_
    obtain ⟨v4, e4, hf⟩ := pb_rd (rd_gI _ _ _) hf
    refine r_gI C hW e4 flX10_400 rfl dX10_readsOrder_39 ?_
    refine lv_iconst (v := 1) hx hb dX10_readsOrder_42 (by decide) ?_
    refine lv_iadd hx hb dX10_readsOrder_43 ?_
    obtain ⟨_, h5, e5, hf⟩ := pb_some hf
    refine r_sI C hW e5 flX10_400 (Or.inl rfl) rfl dX10_readsOrder_44 (fun H locs hW => ?_)
    refine lv_aload_n hx hb dX10_readsOrder_47 rfl (lv_at hl 1 rfl) ?_
    refine lv_iload_n hx hb dX10_readsOrder_48 rfl (lv_at hl 0 rfl) ?_
    obtain ⟨v6, h6, e6, hf⟩ := pb_some hf
    obtain ⟨_, _, t7⟩ := tgX10_takesNumbers e6
    refine r_calli hW (pext e6) (run_V (b := x0) (As := [.int v1]) (rest := []) C hW (metX10_takesNumbers l G ρ e6) ⟨rfl, rfl⟩ kcX10_takesNumbers (tq q_1176 rfl) kiX10_takesNumbers ksX10_takesNumbers knX10_takesNumbers kdX10_takesNumbers t7 rfl rfl ⟨Nat.le_of_ble_eq_true rfl, Nat.le_of_ble_eq_true rfl⟩ hl.1 (Nat.le_of_ble_eq_true rfl) (room_of hW (pext e6) ((pext hf).tr hX)) dX10_readsOrder_49 rfl) (fun H locs c1 s1 hW => ?_)
    refine lv_if_eq (tgt := 64) hx hb dX10_readsOrder_52 (by decide) (fun c8 => ?_) (fun c8 => ?_)
    · rw [if_pos c8] at hf
      refine lv_iconst (v := 0) hx hb dX10_readsOrder_64 (by decide) ?_
      obtain ⟨rfl, rfl⟩ := pp_some hf
      exact r_zret C hW rfl dX10_readsOrder_65
    · rw [if_neg c8] at hf
      refine lv_aload_n hx hb dX10_readsOrder_55 rfl (lv_at hl 1 rfl) ?_
      obtain ⟨v9, h9, e9, hf⟩ := pb_some hf
      obtain ⟨_, _, t10⟩ := tgX10_here e9
      refine r_calli hW (pext e9) (run_V (b := x0) (As := []) (rest := []) C hW (metX10_here l G ρ e9) ⟨rfl, rfl⟩ kcX10_here (tq q_1172 rfl) kiX10_here ksX10_here knX10_here kdX10_here t10 rfl rfl ⟨Nat.le_of_ble_eq_true rfl, Nat.le_of_ble_eq_true rfl⟩ hl.1 (Nat.le_of_ble_eq_true rfl) (room_of hW (pext e9) ((pext hf).tr hX)) dX10_readsOrder_56 rfl) (fun H locs c1 s1 hW => ?_)
      refine lv_bipush (v := 59) hx hb dX10_readsOrder_59 (by decide) ?_
      refine lv_icmp_eq (tgt := 66) hx hb dX10_readsOrder_61 (by decide) (fun c11 => ?_) (fun c11 => ?_)
      · rw [if_pos c11] at hf
        refine lv_aload_n hx hb dX10_readsOrder_66 rfl (lv_at hl 1 rfl) ?_
        refine lv_dup hx hb dX10_readsOrder_67 rfl ?_
        obtain ⟨v12, e12, hf⟩ := pb_rd (rd_gI _ _ _) hf
        refine r_gI C hW e12 flX10_400 rfl dX10_readsOrder_68 ?_
        refine lv_iconst (v := 1) hx hb dX10_readsOrder_71 (by decide) ?_
        refine lv_iadd hx hb dX10_readsOrder_72 ?_
        obtain ⟨_, h13, e13, hf⟩ := pb_some hf
        refine r_sI C hW e13 flX10_400 (Or.inl rfl) rfl dX10_readsOrder_73 (fun H locs hW => ?_)
        refine lv_iload_n hx hb dX10_readsOrder_76 rfl (lv_at hl 2 rfl) ?_
        refine lv_if_eq (tgt := 106) hx hb dX10_readsOrder_77 (by decide) (fun c14 => ?_) (fun c14 => ?_)
        · rw [if_pos c14] at hf
          refine lv_iconst (v := 1) hx hb dX10_readsOrder_106 (by decide) ?_
          obtain ⟨rfl, rfl⟩ := pp_some hf
          exact r_zret C hW rfl dX10_readsOrder_107
        · rw [if_neg c14] at hf
          refine lv_aload_n hx hb dX10_readsOrder_80 rfl (lv_at hl 1 rfl) ?_
          refine lv_aload_n hx hb dX10_readsOrder_81 rfl (lv_at hl 1 rfl) ?_
          refine lv_iload_n hx hb dX10_readsOrder_82 rfl (lv_at hl 0 rfl) ?_
          obtain ⟨v15, h15, e15, hf⟩ := pb_some hf
          obtain ⟨_, _, t16⟩ := tgX10_can e15
          refine r_calli hW (pext e15) (run_V (b := x0) (As := [.int v1]) (rest := [.ref (ρ x0)]) C hW (metX10_can l G ρ e15) ⟨rfl, rfl⟩ kcX10_can (tq q_1190 rfl) kiX10_can ksX10_can knX10_can kdX10_can t16 rfl rfl ⟨Nat.le_of_ble_eq_true rfl, Nat.le_of_ble_eq_true rfl⟩ hl.1 (Nat.le_of_ble_eq_true rfl) (room_of hW (pext e15) ((pext hf).tr hX)) dX10_readsOrder_83 rfl) (fun H locs c1 s1 hW => ?_)
          obtain ⟨_, h17, e17, hf⟩ := pb_some hf
          refine r_sI C hW e17 flX10_432 (Or.inl rfl) rfl dX10_readsOrder_86 (fun H locs hW => ?_)
          refine lv_aload_n hx hb dX10_readsOrder_89 rfl (lv_at hl 1 rfl) ?_
          obtain ⟨v18, e18, hf⟩ := pb_rd (rd_gI _ _ _) hf
          refine r_gI C hW e18 flX10_432 rfl dX10_readsOrder_90 ?_
          refine lv_if_ne (tgt := 104) hx hb dX10_readsOrder_93 (by decide) (fun c19 => ?_) (fun c19 => ?_)
          · rw [if_neg c19] at hf
            refine lv_iconst (v := 0) hx hb dX10_readsOrder_104 (by decide) ?_
            refine lv_istore_n (lv' := [(3, .int (0 : Int32)), (2, .int v1), (0, .ref (ρ x0)), (1, .int x1)]) hx hb dX10_readsOrder_105 rfl hl (by decide) rfl (fun ls hl => ?_)
            refine lv_iconst (v := 1) hx hb dX10_readsOrder_106 (by decide) ?_
            obtain ⟨rfl, rfl⟩ := pp_some hf
            exact r_zret C hW rfl dX10_readsOrder_107
          · rw [if_pos c19] at hf
            refine lv_aload_n hx hb dX10_readsOrder_96 rfl (lv_at hl 1 rfl) ?_
            refine lv_iload_n hx hb dX10_readsOrder_97 rfl (lv_at hl 0 rfl) ?_
            obtain ⟨v20, h20, e20, hf⟩ := pb_some hf
            obtain ⟨_, _, t21⟩ := tgX10_does e20
            refine r_calli hW (pext e20) (run_V (b := x0) (As := [.int v1]) (rest := []) C hW (metX10_does l G ρ e20) ⟨rfl, rfl⟩ kcX10_does (tq q_1194 rfl) kiX10_does ksX10_does knX10_does kdX10_does t21 rfl rfl ⟨Nat.le_of_ble_eq_true rfl, Nat.le_of_ble_eq_true rfl⟩ hl.1 (Nat.le_of_ble_eq_true rfl) (room_of hW (pext e20) ((pext hf).tr hX)) dX10_readsOrder_98 rfl) (fun H locs c1 s1 hW => ?_)
            refine lv_goto (tgt := 105) hx hb dX10_readsOrder_101 (by decide) ?_
            refine lv_istore_n (lv' := [(3, .int v20), (2, .int v1), (0, .ref (ρ x0)), (1, .int x1)]) hx hb dX10_readsOrder_105 rfl hl (by decide) rfl (fun ls hl => ?_)
            refine lv_iconst (v := 1) hx hb dX10_readsOrder_106 (by decide) ?_
            obtain ⟨rfl, rfl⟩ := pp_some hf
            exact r_zret C hW rfl dX10_readsOrder_107
      · rw [if_neg c11] at hf
        refine lv_iconst (v := 0) hx hb dX10_readsOrder_64 (by decide) ?_
        obtain ⟨rfl, rfl⟩ := pp_some hf
        exact r_zret C hW rfl dX10_readsOrder_65
  · rw [if_neg c3] at hf
    refine lv_iload_n hx hb dX10_readsOrder_11 rfl (lv_at hl 0 rfl) ?_
    refine lv_bipush (v := 43) hx hb dX10_readsOrder_12 (by decide) ?_
    refine lv_icmp_eq (tgt := 37) hx hb dX10_readsOrder_14 (by decide) (fun c22 => ?_) (fun c22 => ?_)
    · rw [if_pos c22] at hf
      refine lv_aload_n hx hb dX10_readsOrder_37 rfl (lv_at hl 1 rfl) ?_
      refine lv_dup hx hb dX10_readsOrder_38 rfl ?_
      obtain ⟨v23, e23, hf⟩ := pb_rd (rd_gI _ _ _) hf
      refine r_gI C hW e23 flX10_400 rfl dX10_readsOrder_39 ?_
      refine lv_iconst (v := 1) hx hb dX10_readsOrder_42 (by decide) ?_
      refine lv_iadd hx hb dX10_readsOrder_43 ?_
      obtain ⟨_, h24, e24, hf⟩ := pb_some hf
      refine r_sI C hW e24 flX10_400 (Or.inl rfl) rfl dX10_readsOrder_44 (fun H locs hW => ?_)
      refine lv_aload_n hx hb dX10_readsOrder_47 rfl (lv_at hl 1 rfl) ?_
      refine lv_iload_n hx hb dX10_readsOrder_48 rfl (lv_at hl 0 rfl) ?_
      obtain ⟨v25, h25, e25, hf⟩ := pb_some hf
      obtain ⟨_, _, t26⟩ := tgX10_takesNumbers e25
      refine r_calli hW (pext e25) (run_V (b := x0) (As := [.int v1]) (rest := []) C hW (metX10_takesNumbers l G ρ e25) ⟨rfl, rfl⟩ kcX10_takesNumbers (tq q_1176 rfl) kiX10_takesNumbers ksX10_takesNumbers knX10_takesNumbers kdX10_takesNumbers t26 rfl rfl ⟨Nat.le_of_ble_eq_true rfl, Nat.le_of_ble_eq_true rfl⟩ hl.1 (Nat.le_of_ble_eq_true rfl) (room_of hW (pext e25) ((pext hf).tr hX)) dX10_readsOrder_49 rfl) (fun H locs c1 s1 hW => ?_)
      refine lv_if_eq (tgt := 64) hx hb dX10_readsOrder_52 (by decide) (fun c27 => ?_) (fun c27 => ?_)
      · rw [if_pos c27] at hf
        refine lv_iconst (v := 0) hx hb dX10_readsOrder_64 (by decide) ?_
        obtain ⟨rfl, rfl⟩ := pp_some hf
        exact r_zret C hW rfl dX10_readsOrder_65
      · rw [if_neg c27] at hf
        refine lv_aload_n hx hb dX10_readsOrder_55 rfl (lv_at hl 1 rfl) ?_
        obtain ⟨v28, h28, e28, hf⟩ := pb_some hf
        obtain ⟨_, _, t29⟩ := tgX10_here e28
        refine r_calli hW (pext e28) (run_V (b := x0) (As := []) (rest := []) C hW (metX10_here l G ρ e28) ⟨rfl, rfl⟩ kcX10_here (tq q_1172 rfl) kiX10_here ksX10_here knX10_here kdX10_here t29 rfl rfl ⟨Nat.le_of_ble_eq_true rfl, Nat.le_of_ble_eq_true rfl⟩ hl.1 (Nat.le_of_ble_eq_true rfl) (room_of hW (pext e28) ((pext hf).tr hX)) dX10_readsOrder_56 rfl) (fun H locs c1 s1 hW => ?_)
        refine lv_bipush (v := 59) hx hb dX10_readsOrder_59 (by decide) ?_
        refine lv_icmp_eq (tgt := 66) hx hb dX10_readsOrder_61 (by decide) (fun c30 => ?_) (fun c30 => ?_)
        · rw [if_pos c30] at hf
          refine lv_aload_n hx hb dX10_readsOrder_66 rfl (lv_at hl 1 rfl) ?_
          refine lv_dup hx hb dX10_readsOrder_67 rfl ?_
          obtain ⟨v31, e31, hf⟩ := pb_rd (rd_gI _ _ _) hf
          refine r_gI C hW e31 flX10_400 rfl dX10_readsOrder_68 ?_
          refine lv_iconst (v := 1) hx hb dX10_readsOrder_71 (by decide) ?_
          refine lv_iadd hx hb dX10_readsOrder_72 ?_
          obtain ⟨_, h32, e32, hf⟩ := pb_some hf
          refine r_sI C hW e32 flX10_400 (Or.inl rfl) rfl dX10_readsOrder_73 (fun H locs hW => ?_)
          refine lv_iload_n hx hb dX10_readsOrder_76 rfl (lv_at hl 2 rfl) ?_
          refine lv_if_eq (tgt := 106) hx hb dX10_readsOrder_77 (by decide) (fun c33 => ?_) (fun c33 => ?_)
          · rw [if_pos c33] at hf
            refine lv_iconst (v := 1) hx hb dX10_readsOrder_106 (by decide) ?_
            obtain ⟨rfl, rfl⟩ := pp_some hf
            exact r_zret C hW rfl dX10_readsOrder_107
          · rw [if_neg c33] at hf
            refine lv_aload_n hx hb dX10_readsOrder_80 rfl (lv_at hl 1 rfl) ?_
            refine lv_aload_n hx hb dX10_readsOrder_81 rfl (lv_at hl 1 rfl) ?_
            refine lv_iload_n hx hb dX10_readsOrder_82 rfl (lv_at hl 0 rfl) ?_
            obtain ⟨v34, h34, e34, hf⟩ := pb_some hf
            obtain ⟨_, _, t35⟩ := tgX10_can e34
            refine r_calli hW (pext e34) (run_V (b := x0) (As := [.int v1]) (rest := [.ref (ρ x0)]) C hW (metX10_can l G ρ e34) ⟨rfl, rfl⟩ kcX10_can (tq q_1190 rfl) kiX10_can ksX10_can knX10_can kdX10_can t35 rfl rfl ⟨Nat.le_of_ble_eq_true rfl, Nat.le_of_ble_eq_true rfl⟩ hl.1 (Nat.le_of_ble_eq_true rfl) (room_of hW (pext e34) ((pext hf).tr hX)) dX10_readsOrder_83 rfl) (fun H locs c1 s1 hW => ?_)
            obtain ⟨_, h36, e36, hf⟩ := pb_some hf
            refine r_sI C hW e36 flX10_432 (Or.inl rfl) rfl dX10_readsOrder_86 (fun H locs hW => ?_)
            refine lv_aload_n hx hb dX10_readsOrder_89 rfl (lv_at hl 1 rfl) ?_
            obtain ⟨v37, e37, hf⟩ := pb_rd (rd_gI _ _ _) hf
            refine r_gI C hW e37 flX10_432 rfl dX10_readsOrder_90 ?_
            refine lv_if_ne (tgt := 104) hx hb dX10_readsOrder_93 (by decide) (fun c38 => ?_) (fun c38 => ?_)
            · rw [if_neg c38] at hf
              refine lv_iconst (v := 0) hx hb dX10_readsOrder_104 (by decide) ?_
              refine lv_istore_n (lv' := [(3, .int (0 : Int32)), (2, .int v1), (0, .ref (ρ x0)), (1, .int x1)]) hx hb dX10_readsOrder_105 rfl hl (by decide) rfl (fun ls hl => ?_)
              refine lv_iconst (v := 1) hx hb dX10_readsOrder_106 (by decide) ?_
              obtain ⟨rfl, rfl⟩ := pp_some hf
              exact r_zret C hW rfl dX10_readsOrder_107
            · rw [if_pos c38] at hf
              refine lv_aload_n hx hb dX10_readsOrder_96 rfl (lv_at hl 1 rfl) ?_
              refine lv_iload_n hx hb dX10_readsOrder_97 rfl (lv_at hl 0 rfl) ?_
              obtain ⟨v39, h39, e39, hf⟩ := pb_some hf
              obtain ⟨_, _, t40⟩ := tgX10_does e39
              refine r_calli hW (pext e39) (run_V (b := x0) (As := [.int v1]) (rest := []) C hW (metX10_does l G ρ e39) ⟨rfl, rfl⟩ kcX10_does (tq q_1194 rfl) kiX10_does ksX10_does knX10_does kdX10_does t40 rfl rfl ⟨Nat.le_of_ble_eq_true rfl, Nat.le_of_ble_eq_true rfl⟩ hl.1 (Nat.le_of_ble_eq_true rfl) (room_of hW (pext e39) ((pext hf).tr hX)) dX10_readsOrder_98 rfl) (fun H locs c1 s1 hW => ?_)
              refine lv_goto (tgt := 105) hx hb dX10_readsOrder_101 (by decide) ?_
              refine lv_istore_n (lv' := [(3, .int v39), (2, .int v1), (0, .ref (ρ x0)), (1, .int x1)]) hx hb dX10_readsOrder_105 rfl hl (by decide) rfl (fun ls hl => ?_)
              refine lv_iconst (v := 1) hx hb dX10_readsOrder_106 (by decide) ?_
              obtain ⟨rfl, rfl⟩ := pp_some hf
              exact r_zret C hW rfl dX10_readsOrder_107
        · rw [if_neg c30] at hf
          refine lv_iconst (v := 0) hx hb dX10_readsOrder_64 (by decide) ?_
          obtain ⟨rfl, rfl⟩ := pp_some hf
          exact r_zret C hW rfl dX10_readsOrder_65
    · rw [if_neg c22] at hf
      refine lv_iload_n hx hb dX10_readsOrder_17 rfl (lv_at hl 0 rfl) ?_
      refine lv_bipush (v := 116) hx hb dX10_readsOrder_18 (by decide) ?_
      refine lv_icmp_eq (tgt := 37) hx hb dX10_readsOrder_20 (by decide) (fun c41 => ?_) (fun c41 => ?_)
      · rw [if_pos c41] at hf
        refine lv_aload_n hx hb dX10_readsOrder_37 rfl (lv_at hl 1 rfl) ?_
        refine lv_dup hx hb dX10_readsOrder_38 rfl ?_
        obtain ⟨v42, e42, hf⟩ := pb_rd (rd_gI _ _ _) hf
        refine r_gI C hW e42 flX10_400 rfl dX10_readsOrder_39 ?_
        refine lv_iconst (v := 1) hx hb dX10_readsOrder_42 (by decide) ?_
        refine lv_iadd hx hb dX10_readsOrder_43 ?_
        obtain ⟨_, h43, e43, hf⟩ := pb_some hf
        refine r_sI C hW e43 flX10_400 (Or.inl rfl) rfl dX10_readsOrder_44 (fun H locs hW => ?_)
        refine lv_aload_n hx hb dX10_readsOrder_47 rfl (lv_at hl 1 rfl) ?_
        refine lv_iload_n hx hb dX10_readsOrder_48 rfl (lv_at hl 0 rfl) ?_
        obtain ⟨v44, h44, e44, hf⟩ := pb_some hf
        obtain ⟨_, _, t45⟩ := tgX10_takesNumbers e44
        refine r_calli hW (pext e44) (run_V (b := x0) (As := [.int v1]) (rest := []) C hW (metX10_takesNumbers l G ρ e44) ⟨rfl, rfl⟩ kcX10_takesNumbers (tq q_1176 rfl) kiX10_takesNumbers ksX10_takesNumbers knX10_takesNumbers kdX10_takesNumbers t45 rfl rfl ⟨Nat.le_of_ble_eq_true rfl, Nat.le_of_ble_eq_true rfl⟩ hl.1 (Nat.le_of_ble_eq_true rfl) (room_of hW (pext e44) ((pext hf).tr hX)) dX10_readsOrder_49 rfl) (fun H locs c1 s1 hW => ?_)
        refine lv_if_eq (tgt := 64) hx hb dX10_readsOrder_52 (by decide) (fun c46 => ?_) (fun c46 => ?_)
        · rw [if_pos c46] at hf
          refine lv_iconst (v := 0) hx hb dX10_readsOrder_64 (by decide) ?_
          obtain ⟨rfl, rfl⟩ := pp_some hf
          exact r_zret C hW rfl dX10_readsOrder_65
        · rw [if_neg c46] at hf
          refine lv_aload_n hx hb dX10_readsOrder_55 rfl (lv_at hl 1 rfl) ?_
          obtain ⟨v47, h47, e47, hf⟩ := pb_some hf
          obtain ⟨_, _, t48⟩ := tgX10_here e47
          refine r_calli hW (pext e47) (run_V (b := x0) (As := []) (rest := []) C hW (metX10_here l G ρ e47) ⟨rfl, rfl⟩ kcX10_here (tq q_1172 rfl) kiX10_here ksX10_here knX10_here kdX10_here t48 rfl rfl ⟨Nat.le_of_ble_eq_true rfl, Nat.le_of_ble_eq_true rfl⟩ hl.1 (Nat.le_of_ble_eq_true rfl) (room_of hW (pext e47) ((pext hf).tr hX)) dX10_readsOrder_56 rfl) (fun H locs c1 s1 hW => ?_)
          refine lv_bipush (v := 59) hx hb dX10_readsOrder_59 (by decide) ?_
          refine lv_icmp_eq (tgt := 66) hx hb dX10_readsOrder_61 (by decide) (fun c49 => ?_) (fun c49 => ?_)
          · rw [if_pos c49] at hf
            refine lv_aload_n hx hb dX10_readsOrder_66 rfl (lv_at hl 1 rfl) ?_
            refine lv_dup hx hb dX10_readsOrder_67 rfl ?_
            obtain ⟨v50, e50, hf⟩ := pb_rd (rd_gI _ _ _) hf
            refine r_gI C hW e50 flX10_400 rfl dX10_readsOrder_68 ?_
            refine lv_iconst (v := 1) hx hb dX10_readsOrder_71 (by decide) ?_
            refine lv_iadd hx hb dX10_readsOrder_72 ?_
            obtain ⟨_, h51, e51, hf⟩ := pb_some hf
            refine r_sI C hW e51 flX10_400 (Or.inl rfl) rfl dX10_readsOrder_73 (fun H locs hW => ?_)
            refine lv_iload_n hx hb dX10_readsOrder_76 rfl (lv_at hl 2 rfl) ?_
            refine lv_if_eq (tgt := 106) hx hb dX10_readsOrder_77 (by decide) (fun c52 => ?_) (fun c52 => ?_)
            · rw [if_pos c52] at hf
              refine lv_iconst (v := 1) hx hb dX10_readsOrder_106 (by decide) ?_
              obtain ⟨rfl, rfl⟩ := pp_some hf
              exact r_zret C hW rfl dX10_readsOrder_107
            · rw [if_neg c52] at hf
              refine lv_aload_n hx hb dX10_readsOrder_80 rfl (lv_at hl 1 rfl) ?_
              refine lv_aload_n hx hb dX10_readsOrder_81 rfl (lv_at hl 1 rfl) ?_
              refine lv_iload_n hx hb dX10_readsOrder_82 rfl (lv_at hl 0 rfl) ?_
              obtain ⟨v53, h53, e53, hf⟩ := pb_some hf
              obtain ⟨_, _, t54⟩ := tgX10_can e53
              refine r_calli hW (pext e53) (run_V (b := x0) (As := [.int v1]) (rest := [.ref (ρ x0)]) C hW (metX10_can l G ρ e53) ⟨rfl, rfl⟩ kcX10_can (tq q_1190 rfl) kiX10_can ksX10_can knX10_can kdX10_can t54 rfl rfl ⟨Nat.le_of_ble_eq_true rfl, Nat.le_of_ble_eq_true rfl⟩ hl.1 (Nat.le_of_ble_eq_true rfl) (room_of hW (pext e53) ((pext hf).tr hX)) dX10_readsOrder_83 rfl) (fun H locs c1 s1 hW => ?_)
              obtain ⟨_, h55, e55, hf⟩ := pb_some hf
              refine r_sI C hW e55 flX10_432 (Or.inl rfl) rfl dX10_readsOrder_86 (fun H locs hW => ?_)
              refine lv_aload_n hx hb dX10_readsOrder_89 rfl (lv_at hl 1 rfl) ?_
              obtain ⟨v56, e56, hf⟩ := pb_rd (rd_gI _ _ _) hf
              refine r_gI C hW e56 flX10_432 rfl dX10_readsOrder_90 ?_
              refine lv_if_ne (tgt := 104) hx hb dX10_readsOrder_93 (by decide) (fun c57 => ?_) (fun c57 => ?_)
              · rw [if_neg c57] at hf
                refine lv_iconst (v := 0) hx hb dX10_readsOrder_104 (by decide) ?_
                refine lv_istore_n (lv' := [(3, .int (0 : Int32)), (2, .int v1), (0, .ref (ρ x0)), (1, .int x1)]) hx hb dX10_readsOrder_105 rfl hl (by decide) rfl (fun ls hl => ?_)
                refine lv_iconst (v := 1) hx hb dX10_readsOrder_106 (by decide) ?_
                obtain ⟨rfl, rfl⟩ := pp_some hf
                exact r_zret C hW rfl dX10_readsOrder_107
              · rw [if_pos c57] at hf
                refine lv_aload_n hx hb dX10_readsOrder_96 rfl (lv_at hl 1 rfl) ?_
                refine lv_iload_n hx hb dX10_readsOrder_97 rfl (lv_at hl 0 rfl) ?_
                obtain ⟨v58, h58, e58, hf⟩ := pb_some hf
                obtain ⟨_, _, t59⟩ := tgX10_does e58
                refine r_calli hW (pext e58) (run_V (b := x0) (As := [.int v1]) (rest := []) C hW (metX10_does l G ρ e58) ⟨rfl, rfl⟩ kcX10_does (tq q_1194 rfl) kiX10_does ksX10_does knX10_does kdX10_does t59 rfl rfl ⟨Nat.le_of_ble_eq_true rfl, Nat.le_of_ble_eq_true rfl⟩ hl.1 (Nat.le_of_ble_eq_true rfl) (room_of hW (pext e58) ((pext hf).tr hX)) dX10_readsOrder_98 rfl) (fun H locs c1 s1 hW => ?_)
                refine lv_goto (tgt := 105) hx hb dX10_readsOrder_101 (by decide) ?_
                refine lv_istore_n (lv' := [(3, .int v58), (2, .int v1), (0, .ref (ρ x0)), (1, .int x1)]) hx hb dX10_readsOrder_105 rfl hl (by decide) rfl (fun ls hl => ?_)
                refine lv_iconst (v := 1) hx hb dX10_readsOrder_106 (by decide) ?_
                obtain ⟨rfl, rfl⟩ := pp_some hf
                exact r_zret C hW rfl dX10_readsOrder_107
          · rw [if_neg c49] at hf
            refine lv_iconst (v := 0) hx hb dX10_readsOrder_64 (by decide) ?_
            obtain ⟨rfl, rfl⟩ := pp_some hf
            exact r_zret C hW rfl dX10_readsOrder_65
      · rw [if_neg c41] at hf
        refine lv_iload_n hx hb dX10_readsOrder_23 rfl (lv_at hl 0 rfl) ?_
        refine lv_bipush (v := 119) hx hb dX10_readsOrder_24 (by decide) ?_
        refine lv_icmp_eq (tgt := 37) hx hb dX10_readsOrder_26 (by decide) (fun c60 => ?_) (fun c60 => ?_)
        · rw [if_pos c60] at hf
          refine lv_aload_n hx hb dX10_readsOrder_37 rfl (lv_at hl 1 rfl) ?_
          refine lv_dup hx hb dX10_readsOrder_38 rfl ?_
          obtain ⟨v61, e61, hf⟩ := pb_rd (rd_gI _ _ _) hf
          refine r_gI C hW e61 flX10_400 rfl dX10_readsOrder_39 ?_
          refine lv_iconst (v := 1) hx hb dX10_readsOrder_42 (by decide) ?_
          refine lv_iadd hx hb dX10_readsOrder_43 ?_
          obtain ⟨_, h62, e62, hf⟩ := pb_some hf
          refine r_sI C hW e62 flX10_400 (Or.inl rfl) rfl dX10_readsOrder_44 (fun H locs hW => ?_)
          refine lv_aload_n hx hb dX10_readsOrder_47 rfl (lv_at hl 1 rfl) ?_
          refine lv_iload_n hx hb dX10_readsOrder_48 rfl (lv_at hl 0 rfl) ?_
          obtain ⟨v63, h63, e63, hf⟩ := pb_some hf
          obtain ⟨_, _, t64⟩ := tgX10_takesNumbers e63
          refine r_calli hW (pext e63) (run_V (b := x0) (As := [.int v1]) (rest := []) C hW (metX10_takesNumbers l G ρ e63) ⟨rfl, rfl⟩ kcX10_takesNumbers (tq q_1176 rfl) kiX10_takesNumbers ksX10_takesNumbers knX10_takesNumbers kdX10_takesNumbers t64 rfl rfl ⟨Nat.le_of_ble_eq_true rfl, Nat.le_of_ble_eq_true rfl⟩ hl.1 (Nat.le_of_ble_eq_true rfl) (room_of hW (pext e63) ((pext hf).tr hX)) dX10_readsOrder_49 rfl) (fun H locs c1 s1 hW => ?_)
          refine lv_if_eq (tgt := 64) hx hb dX10_readsOrder_52 (by decide) (fun c65 => ?_) (fun c65 => ?_)
          · rw [if_pos c65] at hf
            refine lv_iconst (v := 0) hx hb dX10_readsOrder_64 (by decide) ?_
            obtain ⟨rfl, rfl⟩ := pp_some hf
            exact r_zret C hW rfl dX10_readsOrder_65
          · rw [if_neg c65] at hf
            refine lv_aload_n hx hb dX10_readsOrder_55 rfl (lv_at hl 1 rfl) ?_
            obtain ⟨v66, h66, e66, hf⟩ := pb_some hf
            obtain ⟨_, _, t67⟩ := tgX10_here e66
            refine r_calli hW (pext e66) (run_V (b := x0) (As := []) (rest := []) C hW (metX10_here l G ρ e66) ⟨rfl, rfl⟩ kcX10_here (tq q_1172 rfl) kiX10_here ksX10_here knX10_here kdX10_here t67 rfl rfl ⟨Nat.le_of_ble_eq_true rfl, Nat.le_of_ble_eq_true rfl⟩ hl.1 (Nat.le_of_ble_eq_true rfl) (room_of hW (pext e66) ((pext hf).tr hX)) dX10_readsOrder_56 rfl) (fun H locs c1 s1 hW => ?_)
            refine lv_bipush (v := 59) hx hb dX10_readsOrder_59 (by decide) ?_
            refine lv_icmp_eq (tgt := 66) hx hb dX10_readsOrder_61 (by decide) (fun c68 => ?_) (fun c68 => ?_)
            · rw [if_pos c68] at hf
              refine lv_aload_n hx hb dX10_readsOrder_66 rfl (lv_at hl 1 rfl) ?_
              refine lv_dup hx hb dX10_readsOrder_67 rfl ?_
              obtain ⟨v69, e69, hf⟩ := pb_rd (rd_gI _ _ _) hf
              refine r_gI C hW e69 flX10_400 rfl dX10_readsOrder_68 ?_
              refine lv_iconst (v := 1) hx hb dX10_readsOrder_71 (by decide) ?_
              refine lv_iadd hx hb dX10_readsOrder_72 ?_
              obtain ⟨_, h70, e70, hf⟩ := pb_some hf
              refine r_sI C hW e70 flX10_400 (Or.inl rfl) rfl dX10_readsOrder_73 (fun H locs hW => ?_)
              refine lv_iload_n hx hb dX10_readsOrder_76 rfl (lv_at hl 2 rfl) ?_
              refine lv_if_eq (tgt := 106) hx hb dX10_readsOrder_77 (by decide) (fun c71 => ?_) (fun c71 => ?_)
              · rw [if_pos c71] at hf
                refine lv_iconst (v := 1) hx hb dX10_readsOrder_106 (by decide) ?_
                obtain ⟨rfl, rfl⟩ := pp_some hf
                exact r_zret C hW rfl dX10_readsOrder_107
              · rw [if_neg c71] at hf
                refine lv_aload_n hx hb dX10_readsOrder_80 rfl (lv_at hl 1 rfl) ?_
                refine lv_aload_n hx hb dX10_readsOrder_81 rfl (lv_at hl 1 rfl) ?_
                refine lv_iload_n hx hb dX10_readsOrder_82 rfl (lv_at hl 0 rfl) ?_
                obtain ⟨v72, h72, e72, hf⟩ := pb_some hf
                obtain ⟨_, _, t73⟩ := tgX10_can e72
                refine r_calli hW (pext e72) (run_V (b := x0) (As := [.int v1]) (rest := [.ref (ρ x0)]) C hW (metX10_can l G ρ e72) ⟨rfl, rfl⟩ kcX10_can (tq q_1190 rfl) kiX10_can ksX10_can knX10_can kdX10_can t73 rfl rfl ⟨Nat.le_of_ble_eq_true rfl, Nat.le_of_ble_eq_true rfl⟩ hl.1 (Nat.le_of_ble_eq_true rfl) (room_of hW (pext e72) ((pext hf).tr hX)) dX10_readsOrder_83 rfl) (fun H locs c1 s1 hW => ?_)
                obtain ⟨_, h74, e74, hf⟩ := pb_some hf
                refine r_sI C hW e74 flX10_432 (Or.inl rfl) rfl dX10_readsOrder_86 (fun H locs hW => ?_)
                refine lv_aload_n hx hb dX10_readsOrder_89 rfl (lv_at hl 1 rfl) ?_
                obtain ⟨v75, e75, hf⟩ := pb_rd (rd_gI _ _ _) hf
                refine r_gI C hW e75 flX10_432 rfl dX10_readsOrder_90 ?_
                refine lv_if_ne (tgt := 104) hx hb dX10_readsOrder_93 (by decide) (fun c76 => ?_) (fun c76 => ?_)
                · rw [if_neg c76] at hf
                  refine lv_iconst (v := 0) hx hb dX10_readsOrder_104 (by decide) ?_
                  refine lv_istore_n (lv' := [(3, .int (0 : Int32)), (2, .int v1), (0, .ref (ρ x0)), (1, .int x1)]) hx hb dX10_readsOrder_105 rfl hl (by decide) rfl (fun ls hl => ?_)
                  refine lv_iconst (v := 1) hx hb dX10_readsOrder_106 (by decide) ?_
                  obtain ⟨rfl, rfl⟩ := pp_some hf
                  exact r_zret C hW rfl dX10_readsOrder_107
                · rw [if_pos c76] at hf
                  refine lv_aload_n hx hb dX10_readsOrder_96 rfl (lv_at hl 1 rfl) ?_
                  refine lv_iload_n hx hb dX10_readsOrder_97 rfl (lv_at hl 0 rfl) ?_
                  obtain ⟨v77, h77, e77, hf⟩ := pb_some hf
                  obtain ⟨_, _, t78⟩ := tgX10_does e77
                  refine r_calli hW (pext e77) (run_V (b := x0) (As := [.int v1]) (rest := []) C hW (metX10_does l G ρ e77) ⟨rfl, rfl⟩ kcX10_does (tq q_1194 rfl) kiX10_does ksX10_does knX10_does kdX10_does t78 rfl rfl ⟨Nat.le_of_ble_eq_true rfl, Nat.le_of_ble_eq_true rfl⟩ hl.1 (Nat.le_of_ble_eq_true rfl) (room_of hW (pext e77) ((pext hf).tr hX)) dX10_readsOrder_98 rfl) (fun H locs c1 s1 hW => ?_)
                  refine lv_goto (tgt := 105) hx hb dX10_readsOrder_101 (by decide) ?_
                  refine lv_istore_n (lv' := [(3, .int v77), (2, .int v1), (0, .ref (ρ x0)), (1, .int x1)]) hx hb dX10_readsOrder_105 rfl hl (by decide) rfl (fun ls hl => ?_)
                  refine lv_iconst (v := 1) hx hb dX10_readsOrder_106 (by decide) ?_
                  obtain ⟨rfl, rfl⟩ := pp_some hf
                  exact r_zret C hW rfl dX10_readsOrder_107
            · rw [if_neg c68] at hf
              refine lv_iconst (v := 0) hx hb dX10_readsOrder_64 (by decide) ?_
              obtain ⟨rfl, rfl⟩ := pp_some hf
              exact r_zret C hW rfl dX10_readsOrder_65
        · rw [if_neg c60] at hf
          refine lv_iload_n hx hb dX10_readsOrder_29 rfl (lv_at hl 0 rfl) ?_
          refine lv_bipush (v := 122) hx hb dX10_readsOrder_30 (by decide) ?_
          refine lv_icmp_eq (tgt := 37) hx hb dX10_readsOrder_32 (by decide) (fun c79 => ?_) (fun c79 => ?_)
          · rw [if_pos c79] at hf
            refine lv_aload_n hx hb dX10_readsOrder_37 rfl (lv_at hl 1 rfl) ?_
            refine lv_dup hx hb dX10_readsOrder_38 rfl ?_
            obtain ⟨v80, e80, hf⟩ := pb_rd (rd_gI _ _ _) hf
            refine r_gI C hW e80 flX10_400 rfl dX10_readsOrder_39 ?_
            refine lv_iconst (v := 1) hx hb dX10_readsOrder_42 (by decide) ?_
            refine lv_iadd hx hb dX10_readsOrder_43 ?_
            obtain ⟨_, h81, e81, hf⟩ := pb_some hf
            refine r_sI C hW e81 flX10_400 (Or.inl rfl) rfl dX10_readsOrder_44 (fun H locs hW => ?_)
            refine lv_aload_n hx hb dX10_readsOrder_47 rfl (lv_at hl 1 rfl) ?_
            refine lv_iload_n hx hb dX10_readsOrder_48 rfl (lv_at hl 0 rfl) ?_
            obtain ⟨v82, h82, e82, hf⟩ := pb_some hf
            obtain ⟨_, _, t83⟩ := tgX10_takesNumbers e82
            refine r_calli hW (pext e82) (run_V (b := x0) (As := [.int v1]) (rest := []) C hW (metX10_takesNumbers l G ρ e82) ⟨rfl, rfl⟩ kcX10_takesNumbers (tq q_1176 rfl) kiX10_takesNumbers ksX10_takesNumbers knX10_takesNumbers kdX10_takesNumbers t83 rfl rfl ⟨Nat.le_of_ble_eq_true rfl, Nat.le_of_ble_eq_true rfl⟩ hl.1 (Nat.le_of_ble_eq_true rfl) (room_of hW (pext e82) ((pext hf).tr hX)) dX10_readsOrder_49 rfl) (fun H locs c1 s1 hW => ?_)
            refine lv_if_eq (tgt := 64) hx hb dX10_readsOrder_52 (by decide) (fun c84 => ?_) (fun c84 => ?_)
            · rw [if_pos c84] at hf
              refine lv_iconst (v := 0) hx hb dX10_readsOrder_64 (by decide) ?_
              obtain ⟨rfl, rfl⟩ := pp_some hf
              exact r_zret C hW rfl dX10_readsOrder_65
            · rw [if_neg c84] at hf
              refine lv_aload_n hx hb dX10_readsOrder_55 rfl (lv_at hl 1 rfl) ?_
              obtain ⟨v85, h85, e85, hf⟩ := pb_some hf
              obtain ⟨_, _, t86⟩ := tgX10_here e85
              refine r_calli hW (pext e85) (run_V (b := x0) (As := []) (rest := []) C hW (metX10_here l G ρ e85) ⟨rfl, rfl⟩ kcX10_here (tq q_1172 rfl) kiX10_here ksX10_here knX10_here kdX10_here t86 rfl rfl ⟨Nat.le_of_ble_eq_true rfl, Nat.le_of_ble_eq_true rfl⟩ hl.1 (Nat.le_of_ble_eq_true rfl) (room_of hW (pext e85) ((pext hf).tr hX)) dX10_readsOrder_56 rfl) (fun H locs c1 s1 hW => ?_)
              refine lv_bipush (v := 59) hx hb dX10_readsOrder_59 (by decide) ?_
              refine lv_icmp_eq (tgt := 66) hx hb dX10_readsOrder_61 (by decide) (fun c87 => ?_) (fun c87 => ?_)
              · rw [if_pos c87] at hf
                refine lv_aload_n hx hb dX10_readsOrder_66 rfl (lv_at hl 1 rfl) ?_
                refine lv_dup hx hb dX10_readsOrder_67 rfl ?_
                obtain ⟨v88, e88, hf⟩ := pb_rd (rd_gI _ _ _) hf
                refine r_gI C hW e88 flX10_400 rfl dX10_readsOrder_68 ?_
                refine lv_iconst (v := 1) hx hb dX10_readsOrder_71 (by decide) ?_
                refine lv_iadd hx hb dX10_readsOrder_72 ?_
                obtain ⟨_, h89, e89, hf⟩ := pb_some hf
                refine r_sI C hW e89 flX10_400 (Or.inl rfl) rfl dX10_readsOrder_73 (fun H locs hW => ?_)
                refine lv_iload_n hx hb dX10_readsOrder_76 rfl (lv_at hl 2 rfl) ?_
                refine lv_if_eq (tgt := 106) hx hb dX10_readsOrder_77 (by decide) (fun c90 => ?_) (fun c90 => ?_)
                · rw [if_pos c90] at hf
                  refine lv_iconst (v := 1) hx hb dX10_readsOrder_106 (by decide) ?_
                  obtain ⟨rfl, rfl⟩ := pp_some hf
                  exact r_zret C hW rfl dX10_readsOrder_107
                · rw [if_neg c90] at hf
                  refine lv_aload_n hx hb dX10_readsOrder_80 rfl (lv_at hl 1 rfl) ?_
                  refine lv_aload_n hx hb dX10_readsOrder_81 rfl (lv_at hl 1 rfl) ?_
                  refine lv_iload_n hx hb dX10_readsOrder_82 rfl (lv_at hl 0 rfl) ?_
                  obtain ⟨v91, h91, e91, hf⟩ := pb_some hf
                  obtain ⟨_, _, t92⟩ := tgX10_can e91
                  refine r_calli hW (pext e91) (run_V (b := x0) (As := [.int v1]) (rest := [.ref (ρ x0)]) C hW (metX10_can l G ρ e91) ⟨rfl, rfl⟩ kcX10_can (tq q_1190 rfl) kiX10_can ksX10_can knX10_can kdX10_can t92 rfl rfl ⟨Nat.le_of_ble_eq_true rfl, Nat.le_of_ble_eq_true rfl⟩ hl.1 (Nat.le_of_ble_eq_true rfl) (room_of hW (pext e91) ((pext hf).tr hX)) dX10_readsOrder_83 rfl) (fun H locs c1 s1 hW => ?_)
                  obtain ⟨_, h93, e93, hf⟩ := pb_some hf
                  refine r_sI C hW e93 flX10_432 (Or.inl rfl) rfl dX10_readsOrder_86 (fun H locs hW => ?_)
                  refine lv_aload_n hx hb dX10_readsOrder_89 rfl (lv_at hl 1 rfl) ?_
                  obtain ⟨v94, e94, hf⟩ := pb_rd (rd_gI _ _ _) hf
                  refine r_gI C hW e94 flX10_432 rfl dX10_readsOrder_90 ?_
                  refine lv_if_ne (tgt := 104) hx hb dX10_readsOrder_93 (by decide) (fun c95 => ?_) (fun c95 => ?_)
                  · rw [if_neg c95] at hf
                    refine lv_iconst (v := 0) hx hb dX10_readsOrder_104 (by decide) ?_
                    refine lv_istore_n (lv' := [(3, .int (0 : Int32)), (2, .int v1), (0, .ref (ρ x0)), (1, .int x1)]) hx hb dX10_readsOrder_105 rfl hl (by decide) rfl (fun ls hl => ?_)
                    refine lv_iconst (v := 1) hx hb dX10_readsOrder_106 (by decide) ?_
                    obtain ⟨rfl, rfl⟩ := pp_some hf
                    exact r_zret C hW rfl dX10_readsOrder_107
                  · rw [if_pos c95] at hf
                    refine lv_aload_n hx hb dX10_readsOrder_96 rfl (lv_at hl 1 rfl) ?_
                    refine lv_iload_n hx hb dX10_readsOrder_97 rfl (lv_at hl 0 rfl) ?_
                    obtain ⟨v96, h96, e96, hf⟩ := pb_some hf
                    obtain ⟨_, _, t97⟩ := tgX10_does e96
                    refine r_calli hW (pext e96) (run_V (b := x0) (As := [.int v1]) (rest := []) C hW (metX10_does l G ρ e96) ⟨rfl, rfl⟩ kcX10_does (tq q_1194 rfl) kiX10_does ksX10_does knX10_does kdX10_does t97 rfl rfl ⟨Nat.le_of_ble_eq_true rfl, Nat.le_of_ble_eq_true rfl⟩ hl.1 (Nat.le_of_ble_eq_true rfl) (room_of hW (pext e96) ((pext hf).tr hX)) dX10_readsOrder_98 rfl) (fun H locs c1 s1 hW => ?_)
                    refine lv_goto (tgt := 105) hx hb dX10_readsOrder_101 (by decide) ?_
                    refine lv_istore_n (lv' := [(3, .int v96), (2, .int v1), (0, .ref (ρ x0)), (1, .int x1)]) hx hb dX10_readsOrder_105 rfl hl (by decide) rfl (fun ls hl => ?_)
                    refine lv_iconst (v := 1) hx hb dX10_readsOrder_106 (by decide) ?_
                    obtain ⟨rfl, rfl⟩ := pp_some hf
                    exact r_zret C hW rfl dX10_readsOrder_107
              · rw [if_neg c87] at hf
                refine lv_iconst (v := 0) hx hb dX10_readsOrder_64 (by decide) ?_
                obtain ⟨rfl, rfl⟩ := pp_some hf
                exact r_zret C hW rfl dX10_readsOrder_65
          · rw [if_neg c79] at hf
            refine lv_iconst (v := 0) hx hb dX10_readsOrder_35 (by decide) ?_
            obtain ⟨rfl, rfl⟩ := pp_some hf
            exact r_zret C hW rfl dX10_readsOrder_36

theorem dX10_keepsAside_0 : decode cX10_keepsAside 0 = .ok (.iconst 0, 1) := by decide +kernel
theorem dX10_keepsAside_1 : decode cX10_keepsAside 1 = .ok (.istore_n 1, 1) := by decide +kernel
theorem dX10_keepsAside_2 : decode cX10_keepsAside 2 = .ok (.iload_n 1, 1) := by decide +kernel
theorem dX10_keepsAside_3 : decode cX10_keepsAside 3 = .ok (.bipush 33, 2) := by decide +kernel
theorem dX10_keepsAside_5 : decode cX10_keepsAside 5 = .ok (.if_icmp .ge 35, 3) := by decide +kernel
theorem dX10_keepsAside_8 : decode cX10_keepsAside 8 = .ok (.aload_n 0, 1) := by decide +kernel
theorem dX10_keepsAside_9 : decode cX10_keepsAside 9 = .ok (.getfield 7, 3) := by decide +kernel
theorem dX10_keepsAside_12 : decode cX10_keepsAside 12 = .ok (.iload_n 1, 1) := by decide +kernel
theorem dX10_keepsAside_13 : decode cX10_keepsAside 13 = .ok (.laload, 1) := by decide +kernel
theorem dX10_keepsAside_14 : decode cX10_keepsAside 14 = .ok (.lstore_n 2, 1) := by decide +kernel
theorem dX10_keepsAside_15 : decode cX10_keepsAside 15 = .ok (.aload_n 0, 1) := by decide +kernel
theorem dX10_keepsAside_16 : decode cX10_keepsAside 16 = .ok (.getfield 7, 3) := by decide +kernel
theorem dX10_keepsAside_19 : decode cX10_keepsAside 19 = .ok (.iload_n 1, 1) := by decide +kernel
theorem dX10_keepsAside_20 : decode cX10_keepsAside 20 = .ok (.aload_n 0, 1) := by decide +kernel
theorem dX10_keepsAside_21 : decode cX10_keepsAside 21 = .ok (.getfield 16, 3) := by decide +kernel
theorem dX10_keepsAside_24 : decode cX10_keepsAside 24 = .ok (.iload_n 1, 1) := by decide +kernel
theorem dX10_keepsAside_25 : decode cX10_keepsAside 25 = .ok (.laload, 1) := by decide +kernel
theorem dX10_keepsAside_26 : decode cX10_keepsAside 26 = .ok (.lastore, 1) := by decide +kernel
theorem dX10_keepsAside_27 : decode cX10_keepsAside 27 = .ok (.aload_n 0, 1) := by decide +kernel
theorem dX10_keepsAside_28 : decode cX10_keepsAside 28 = .ok (.getfield 16, 3) := by decide +kernel
theorem dX10_keepsAside_31 : decode cX10_keepsAside 31 = .ok (.iload_n 1, 1) := by decide +kernel
theorem dX10_keepsAside_32 : decode cX10_keepsAside 32 = .ok (.lload_n 2, 1) := by decide +kernel
theorem dX10_keepsAside_33 : decode cX10_keepsAside 33 = .ok (.lastore, 1) := by decide +kernel
theorem dX10_keepsAside_34 : decode cX10_keepsAside 34 = .ok (.iinc 1 1, 3) := by decide +kernel
theorem dX10_keepsAside_37 : decode cX10_keepsAside 37 = .ok (.goto (-35), 3) := by decide +kernel
theorem dX10_keepsAside_40 : decode cX10_keepsAside 40 = .ok (.aload_n 0, 1) := by decide +kernel
theorem dX10_keepsAside_41 : decode cX10_keepsAside 41 = .ok (.invokevirtual 243, 3) := by decide +kernel
theorem dX10_keepsAside_44 : decode cX10_keepsAside 44 = .ok (.iconst 0, 1) := by decide +kernel
theorem dX10_keepsAside_45 : decode cX10_keepsAside 45 = .ok (.istore_n 1, 1) := by decide +kernel
theorem dX10_keepsAside_46 : decode cX10_keepsAside 46 = .ok (.iload_n 1, 1) := by decide +kernel
theorem dX10_keepsAside_47 : decode cX10_keepsAside 47 = .ok (.bipush 33, 2) := by decide +kernel
theorem dX10_keepsAside_49 : decode cX10_keepsAside 49 = .ok (.if_icmp .ge 21, 3) := by decide +kernel
theorem dX10_keepsAside_52 : decode cX10_keepsAside 52 = .ok (.aload_n 0, 1) := by decide +kernel
theorem dX10_keepsAside_53 : decode cX10_keepsAside 53 = .ok (.getfield 7, 3) := by decide +kernel
theorem dX10_keepsAside_56 : decode cX10_keepsAside 56 = .ok (.iload_n 1, 1) := by decide +kernel
theorem dX10_keepsAside_57 : decode cX10_keepsAside 57 = .ok (.aload_n 0, 1) := by decide +kernel
theorem dX10_keepsAside_58 : decode cX10_keepsAside 58 = .ok (.getfield 16, 3) := by decide +kernel
theorem dX10_keepsAside_61 : decode cX10_keepsAside 61 = .ok (.iload_n 1, 1) := by decide +kernel
theorem dX10_keepsAside_62 : decode cX10_keepsAside 62 = .ok (.laload, 1) := by decide +kernel
theorem dX10_keepsAside_63 : decode cX10_keepsAside 63 = .ok (.lastore, 1) := by decide +kernel
theorem dX10_keepsAside_64 : decode cX10_keepsAside 64 = .ok (.iinc 1 1, 3) := by decide +kernel
theorem dX10_keepsAside_67 : decode cX10_keepsAside 67 = .ok (.goto (-21), 3) := by decide +kernel
theorem dX10_keepsAside_70 : decode cX10_keepsAside 70 = .ok (.return_, 1) := by decide +kernel
theorem kcX10_keepsAside : Cond.code yX10_keepsAside cX10_keepsAside 4 none ∈ tb := tq q_1201 rfl
theorem knX10_keepsAside : Cond.initialized yX10_keepsAside.cls ∈ tb := (tq q_10 rfl)
theorem kdX10_keepsAside : yX10_keepsAside.cls ≠ "java/lang/invoke/MethodHandle" ∧ yX10_keepsAside.cls ≠ "java/lang/invoke/VarHandle" ∧ (parseMethodDescriptor yX10_keepsAside.desc).map (fun d => d.parameters.length) = some 0 := ⟨by decide +kernel, by decide +kernel, by decide +kernel⟩
theorem kiX10_keepsAside : Cond.instanceMethod yX10_keepsAside ∈ tb := (tq q_1200 rfl)
theorem ksX10_keepsAside : Cond.selects yX10_keepsAside.cls yX10_keepsAside yX10_keepsAside ∈ tb := (tq z_86 rfl)
theorem tgX10_keepsAside {x0 : Nat} {h : PH} {r : Unit × PH} (hf : (fX10_keepsAside x0).1 h = some r) : ∃ n x, nth h x0 = some (9, n, x) := by
  obtain ⟨_, _, e, _⟩ := pb_some hf
  exact (chk_some e).2
set_option maxHeartbeats 4000000 in
set_option maxRecDepth 100000 in
theorem wX10_keepsAside_B2 {p : Program} {l : Launch} {e : Env} {s : State} {m : MethodId} {args : Array Value} {below : List Frame} {meth : Method} {c : Code} {G : GG} {ρ : Nat → Nat} {h0 hE hB : PH} {Q : State → Prop} {x0 : Nat} (C : Cx G "PairSymbolsModel" cX10_keepsAside 4 none "keepsAside" p s m args meth c) {x1 : Int32} {h : PH} {H : Heap} {locs : List Loc} {cells slots : Nat} {ls : Array Slot} {r : (Int32) ⊕ (Unit)} (hf : (fX10_keepsAside_b2 x0 x1).1 h = some (r, hB)) (hX : Ext hB hE) (hW : Wd G ρ h0.length (sl h0) s.heap h H locs cells slots) (hl : lv_has ls 4 [(0, .ref (ρ x0)), (1, .int x1)]) (kc : ∀ y : Int32, r = .inl y → ∀ (H : Heap) (locs : List Loc) (c1 s1 : Nat) (ls : Array Slot), Wd G ρ h0.length (sl h0) s.heap hB H locs c1 s1 → lv_has ls 4 [(0, .ref (ρ x0)), (1, .int y)] → W p l e (RM 1 21 h0 hE) s m args below meth c H locs c1 s1 Q (F0 m 2 ls [])) (ke : ∀ z : Unit, r = .inr z → ∀ (H : Heap) (locs : List Loc) (c1 s1 : Nat) (ls : Array Slot), Wd G ρ h0.length (sl h0) s.heap hB H locs c1 s1 → lv_has ls 4 [(0, .ref (ρ x0))] → W p l e (RM 1 21 h0 hE) s m args below meth c H locs c1 s1 Q (F0 m 40 ls [])) : W p l e (RM 1 21 h0 hE) s m args below meth c H locs cells slots Q (F0 m 2 ls []) := by
  have hx := C.1
  have hb := C.2.1
  unfold fX10_keepsAside_b2 at hf
  refine lv_iload_n hx hb dX10_keepsAside_2 rfl (lv_at hl 1 rfl) ?_
  refine lv_bipush (v := 33) hx hb dX10_keepsAside_3 (by decide) ?_
  refine lv_icmp_ge (tgt := 40) hx hb dX10_keepsAside_5 (by decide) (fun c1 => ?_) (fun c1 => ?_)
  · rw [if_pos c1] at hf
    obtain ⟨rfl, rfl⟩ := pp_some hf
    exact ke _ rfl _ _ _ _ _ hW (lv_sub hl [0] rfl)
  · rw [if_neg c1] at hf
    refine lv_aload_n hx hb dX10_keepsAside_8 rfl (lv_at hl 0 rfl) ?_
    obtain ⟨v2, e2, hf⟩ := pb_rd (rd_gA _ _ _) hf
    refine r_gA C hW e2 flX10_7 rfl dX10_keepsAside_9 ?_
    refine lv_iload_n hx hb dX10_keepsAside_12 rfl (lv_at hl 1 rfl) ?_
    obtain ⟨v3, e3, hf⟩ := pb_rd (rd_lJ _ _ _) hf
    refine r_lald C hW e3 dX10_keepsAside_13 ?_
    refine lv_lstore_n (lv' := [(2, .long v3), (0, .ref (ρ x0)), (1, .int x1)]) hx hb dX10_keepsAside_14 rfl hl (by decide) rfl (fun ls hl => ?_)
    refine lv_aload_n hx hb dX10_keepsAside_15 rfl (lv_at hl 1 rfl) ?_
    obtain ⟨v4, e4, hf⟩ := pb_rd (rd_gA _ _ _) hf
    refine r_gA C hW e4 flX10_7 rfl dX10_keepsAside_16 ?_
    refine lv_iload_n hx hb dX10_keepsAside_19 rfl (lv_at hl 2 rfl) ?_
    refine lv_aload_n hx hb dX10_keepsAside_20 rfl (lv_at hl 1 rfl) ?_
    obtain ⟨v5, e5, hf⟩ := pb_rd (rd_gA _ _ _) hf
    refine r_gA C hW e5 flX10_16 rfl dX10_keepsAside_21 ?_
    refine lv_iload_n hx hb dX10_keepsAside_24 rfl (lv_at hl 2 rfl) ?_
    obtain ⟨v6, e6, hf⟩ := pb_rd (rd_lJ _ _ _) hf
    refine r_lald C hW e6 dX10_keepsAside_25 ?_
    obtain ⟨_, h7, e7, hf⟩ := pb_some hf
    refine r_last C hW e7 dX10_keepsAside_26 (fun H locs hW => ?_)
    refine lv_aload_n hx hb dX10_keepsAside_27 rfl (lv_at hl 1 rfl) ?_
    obtain ⟨v8, e8, hf⟩ := pb_rd (rd_gA _ _ _) hf
    refine r_gA C hW e8 flX10_16 rfl dX10_keepsAside_28 ?_
    refine lv_iload_n hx hb dX10_keepsAside_31 rfl (lv_at hl 2 rfl) ?_
    refine lv_lload_n hx hb dX10_keepsAside_32 rfl (lv_at hl 0 rfl) ?_
    obtain ⟨_, h9, e9, hf⟩ := pb_some hf
    refine r_last C hW e9 dX10_keepsAside_33 (fun H locs hW => ?_)
    refine lv_iinc (v := (x1 + 1)) (lv' := [(1, .int (x1 + 1)), (2, .long v3), (0, .ref (ρ x0))]) hx hb dX10_keepsAside_34 hl (k := 2) rfl rfl (by decide) rfl (fun ls hl => ?_)
    refine lv_goto (tgt := 2) hx hb dX10_keepsAside_37 (by decide) ?_
    obtain ⟨rfl, rfl⟩ := pp_some hf
    exact kc _ rfl _ _ _ _ _ hW (lv_sub hl [2, 0] rfl)
set_option maxHeartbeats 4000000 in
theorem wX10_keepsAside_L2 {p : Program} {l : Launch} {e : Env} {s : State} {m : MethodId} {args : Array Value} {below : List Frame} {meth : Method} {c : Code} {G : GG} {ρ : Nat → Nat} {h0 hE hB : PH} {Q : State → Prop} {x0 : Nat} (C : Cx G "PairSymbolsModel" cX10_keepsAside 4 none "keepsAside" p s m args meth c) {z : (Unit)} (n : Nat) : ∀ (x : Int32) {h : PH} {H : Heap} {locs : List Loc} {cells slots : Nat} {ls : Array Slot}, (plo (fX10_keepsAside_B2 x0) n x).1 h = some (z, hB) → Ext hB hE → Wd G ρ h0.length (sl h0) s.heap h H locs cells slots → lv_has ls 4 [(0, .ref (ρ x0)), (1, .int x)] → (ke : ∀ (H : Heap) (locs : List Loc) (c1 s1 : Nat) (ls : Array Slot), Wd G ρ h0.length (sl h0) s.heap hB H locs c1 s1 → lv_has ls 4 [(0, .ref (ρ x0))] → W p l e (RM 1 21 h0 hE) s m args below meth c H locs c1 s1 Q (F0 m 40 ls [])) → W p l e (RM 1 21 h0 hE) s m args below meth c H locs cells slots Q (F0 m 2 ls []) := by
  induction n with
  | zero =>
    intro x h H locs cells slots ls hf
    rw [plo_0] at hf
    exact (pf_no hf).elim
  | succ n ih =>
    intro x h H locs cells slots ls hf hX hW hl ke
    rw [plo_s] at hf
    obtain ⟨r, h1, e1, hf⟩ := pb_some hf
    unfold fX10_keepsAside_B2 at e1
    rw [frI_eq] at e1
    refine wX10_keepsAside_B2 C e1 ((pext hf).tr hX) hW hl (fun y hr H locs c1 s1 ls hW hl => ?_) (fun y hr H locs c1 s1 ls hW hl => ?_)
    · subst hr
      exact ih y hf hX hW hl ke
    · subst hr
      obtain ⟨rfl, rfl⟩ := pp_some hf
      exact ke H locs c1 s1 ls hW hl
set_option maxHeartbeats 4000000 in
set_option maxRecDepth 100000 in
theorem wX10_keepsAside_B46 {p : Program} {l : Launch} {e : Env} {s : State} {m : MethodId} {args : Array Value} {below : List Frame} {meth : Method} {c : Code} {G : GG} {ρ : Nat → Nat} {h0 hE hB : PH} {Q : State → Prop} {x0 : Nat} (C : Cx G "PairSymbolsModel" cX10_keepsAside 4 none "keepsAside" p s m args meth c) {x1 : Int32} {h : PH} {H : Heap} {locs : List Loc} {cells slots : Nat} {ls : Array Slot} {r : (Int32) ⊕ (Unit)} (hf : (fX10_keepsAside_b46 x0 x1).1 h = some (r, hB)) (hX : Ext hB hE) (hW : Wd G ρ h0.length (sl h0) s.heap h H locs cells slots) (hl : lv_has ls 4 [(0, .ref (ρ x0)), (1, .int x1)]) (kc : ∀ y : Int32, r = .inl y → ∀ (H : Heap) (locs : List Loc) (c1 s1 : Nat) (ls : Array Slot), Wd G ρ h0.length (sl h0) s.heap hB H locs c1 s1 → lv_has ls 4 [(0, .ref (ρ x0)), (1, .int y)] → W p l e (RM 1 21 h0 hE) s m args below meth c H locs c1 s1 Q (F0 m 46 ls [])) (ke : ∀ z : Unit, r = .inr z → ∀ (H : Heap) (locs : List Loc) (c1 s1 : Nat) (ls : Array Slot), Wd G ρ h0.length (sl h0) s.heap hB H locs c1 s1 → lv_has ls 4 [] → W p l e (RM 1 21 h0 hE) s m args below meth c H locs c1 s1 Q (F0 m 70 ls [])) : W p l e (RM 1 21 h0 hE) s m args below meth c H locs cells slots Q (F0 m 46 ls []) := by
  have hx := C.1
  have hb := C.2.1
  unfold fX10_keepsAside_b46 at hf
  refine lv_iload_n hx hb dX10_keepsAside_46 rfl (lv_at hl 1 rfl) ?_
  refine lv_bipush (v := 33) hx hb dX10_keepsAside_47 (by decide) ?_
  refine lv_icmp_ge (tgt := 70) hx hb dX10_keepsAside_49 (by decide) (fun c13 => ?_) (fun c13 => ?_)
  · rw [if_pos c13] at hf
    obtain ⟨rfl, rfl⟩ := pp_some hf
    exact ke _ rfl _ _ _ _ _ hW (lv_sub hl [] rfl)
  · rw [if_neg c13] at hf
    refine lv_aload_n hx hb dX10_keepsAside_52 rfl (lv_at hl 0 rfl) ?_
    obtain ⟨v14, e14, hf⟩ := pb_rd (rd_gA _ _ _) hf
    refine r_gA C hW e14 flX10_7 rfl dX10_keepsAside_53 ?_
    refine lv_iload_n hx hb dX10_keepsAside_56 rfl (lv_at hl 1 rfl) ?_
    refine lv_aload_n hx hb dX10_keepsAside_57 rfl (lv_at hl 0 rfl) ?_
    obtain ⟨v15, e15, hf⟩ := pb_rd (rd_gA _ _ _) hf
    refine r_gA C hW e15 flX10_16 rfl dX10_keepsAside_58 ?_
    refine lv_iload_n hx hb dX10_keepsAside_61 rfl (lv_at hl 1 rfl) ?_
    obtain ⟨v16, e16, hf⟩ := pb_rd (rd_lJ _ _ _) hf
    refine r_lald C hW e16 dX10_keepsAside_62 ?_
    obtain ⟨_, h17, e17, hf⟩ := pb_some hf
    refine r_last C hW e17 dX10_keepsAside_63 (fun H locs hW => ?_)
    refine lv_iinc (v := (x1 + 1)) (lv' := [(1, .int (x1 + 1)), (0, .ref (ρ x0))]) hx hb dX10_keepsAside_64 hl (k := 1) rfl rfl (by decide) rfl (fun ls hl => ?_)
    refine lv_goto (tgt := 46) hx hb dX10_keepsAside_67 (by decide) ?_
    obtain ⟨rfl, rfl⟩ := pp_some hf
    exact kc _ rfl _ _ _ _ _ hW (lv_sub hl [1, 0] rfl)
set_option maxHeartbeats 4000000 in
theorem wX10_keepsAside_L46 {p : Program} {l : Launch} {e : Env} {s : State} {m : MethodId} {args : Array Value} {below : List Frame} {meth : Method} {c : Code} {G : GG} {ρ : Nat → Nat} {h0 hE hB : PH} {Q : State → Prop} {x0 : Nat} (C : Cx G "PairSymbolsModel" cX10_keepsAside 4 none "keepsAside" p s m args meth c) {z : (Unit)} (n : Nat) : ∀ (x : Int32) {h : PH} {H : Heap} {locs : List Loc} {cells slots : Nat} {ls : Array Slot}, (plo (fX10_keepsAside_B46 x0) n x).1 h = some (z, hB) → Ext hB hE → Wd G ρ h0.length (sl h0) s.heap h H locs cells slots → lv_has ls 4 [(0, .ref (ρ x0)), (1, .int x)] → (ke : ∀ (H : Heap) (locs : List Loc) (c1 s1 : Nat) (ls : Array Slot), Wd G ρ h0.length (sl h0) s.heap hB H locs c1 s1 → lv_has ls 4 [] → W p l e (RM 1 21 h0 hE) s m args below meth c H locs c1 s1 Q (F0 m 70 ls [])) → W p l e (RM 1 21 h0 hE) s m args below meth c H locs cells slots Q (F0 m 46 ls []) := by
  induction n with
  | zero =>
    intro x h H locs cells slots ls hf
    rw [plo_0] at hf
    exact (pf_no hf).elim
  | succ n ih =>
    intro x h H locs cells slots ls hf hX hW hl ke
    rw [plo_s] at hf
    obtain ⟨r, h1, e1, hf⟩ := pb_some hf
    unfold fX10_keepsAside_B46 at e1
    rw [frI_eq] at e1
    refine wX10_keepsAside_B46 C e1 ((pext hf).tr hX) hW hl (fun y hr H locs c1 s1 ls hW hl => ?_) (fun y hr H locs c1 s1 ls hW hl => ?_)
    · subst hr
      exact ih y hf hX hW hl ke
    · subst hr
      obtain ⟨rfl, rfl⟩ := pp_some hf
      exact ke H locs c1 s1 ls hW hl
set_option maxHeartbeats 4000000 in
set_option maxRecDepth 100000 in
theorem metX10_keepsAside (l : Launch) (G : GG) (ρ : Nat → Nat) {z : Nat} {x0 : Nat} {h hE : PH} {v : Unit} (hf : (fX10_keepsAside x0).1 h = some (v, hE)) : Met l yX10_keepsAside (wsY yX10_keepsAside cX10_keepsAside 4 none) (RM 1 21 h hE) (va_Pc [.ref (ρ x0)] (PcB G ρ h z)) (QV G ρ hE h.length z) (DC h hE) (DS h hE) (Af ρ h.length z) := by
  refine met_start (by decide) (Nat.le_of_ble_eq_true rfl) ?_
  intro p e s m below meth c ls hz C hW hl
  subst hz
  have C : Cx G "PairSymbolsModel" cX10_keepsAside 4 none "keepsAside" p s m _ meth c := C
  have hx := C.1
  have hb := C.2.1
  have hX : Ext hE hE := Ext.rf hE
  have hl : lv_has ls 4 [(0, .ref (ρ x0))] := hl
  have hW : Wd G ρ h.length (sl h) s.heap h s.heap [] 0 0 := hW
  unfold fX10_keepsAside at hf
  obtain ⟨_, e0, hf⟩ := pb_rd (rd_chk _ _) hf
  refine lv_iconst (v := 0) hx hb dX10_keepsAside_0 (by decide) ?_
  refine lv_istore_n (lv' := [(1, .int (0 : Int32)), (0, .ref (ρ x0))]) hx hb dX10_keepsAside_1 rfl hl (by decide) rfl (fun ls hl => ?_)
  obtain ⟨z10, h10, e10, hf⟩ := pb_some hf
  refine wX10_keepsAside_L2 C fu _ e10 ((pext hf).tr hX) hW (lv_sub hl [1, 0] rfl) (fun H locs c1 s1 ls hW hl => ?_)
  refine lv_aload_n hx hb dX10_keepsAside_40 rfl (lv_at hl 0 rfl) ?_
  obtain ⟨_, h11, e11, hf⟩ := pb_some hf
  obtain ⟨_, _, t12⟩ := tgX10_keep e11
  refine r_callv hW (pext e11) (run_V (b := x0) (As := []) (rest := []) C hW (metX10_keep l G ρ e11) ⟨rfl, rfl⟩ kcX10_keep (tq q_841 rfl) kiX10_keep ksX10_keep knX10_keep kdX10_keep t12 rfl rfl ⟨Nat.le_of_ble_eq_true rfl, Nat.le_of_ble_eq_true rfl⟩ hl.1 (Nat.le_of_ble_eq_true rfl) (room_of hW (pext e11) ((pext hf).tr hX)) dX10_keepsAside_41 rfl) (fun H locs c1 s1 hW => ?_)
  refine lv_iconst (v := 0) hx hb dX10_keepsAside_44 (by decide) ?_
  refine lv_istore_n (lv' := [(1, .int (0 : Int32)), (0, .ref (ρ x0))]) hx hb dX10_keepsAside_45 rfl hl (by decide) rfl (fun ls hl => ?_)
  obtain ⟨z18, h18, e18, hf⟩ := pb_some hf
  refine wX10_keepsAside_L46 C fu _ e18 ((pext hf).tr hX) hW (lv_sub hl [1, 0] rfl) (fun H locs c1 s1 ls hW hl => ?_)
  obtain ⟨rfl, rfl⟩ := pp_some hf
  exact r_vret C hW dX10_keepsAside_70

theorem dX10_reads_0 : decode cX10_reads 0 = .ok (.aload_n 0, 1) := by decide +kernel
theorem dX10_reads_1 : decode cX10_reads 1 = .ok (.iconst 0, 1) := by decide +kernel
theorem dX10_reads_2 : decode cX10_reads 2 = .ok (.putfield 400, 3) := by decide +kernel
theorem dX10_reads_5 : decode cX10_reads 5 = .ok (.aload_n 0, 1) := by decide +kernel
theorem dX10_reads_6 : decode cX10_reads 6 = .ok (.iconst 0, 1) := by decide +kernel
theorem dX10_reads_7 : decode cX10_reads 7 = .ok (.invokevirtual 438, 3) := by decide +kernel
theorem dX10_reads_10 : decode cX10_reads 10 = .ok (.istore_n 1, 1) := by decide +kernel
theorem dX10_reads_11 : decode cX10_reads 11 = .ok (.iload_n 1, 1) := by decide +kernel
theorem dX10_reads_12 : decode cX10_reads 12 = .ok (.ifCond .eq 20, 3) := by decide +kernel
theorem dX10_reads_15 : decode cX10_reads 15 = .ok (.aload_n 0, 1) := by decide +kernel
theorem dX10_reads_16 : decode cX10_reads 16 = .ok (.invokevirtual 407, 3) := by decide +kernel
theorem dX10_reads_19 : decode cX10_reads 19 = .ok (.iconst (-1), 1) := by decide +kernel
theorem dX10_reads_20 : decode cX10_reads 20 = .ok (.if_icmp .eq 12, 3) := by decide +kernel
theorem dX10_reads_23 : decode cX10_reads 23 = .ok (.aload_n 0, 1) := by decide +kernel
theorem dX10_reads_24 : decode cX10_reads 24 = .ok (.iconst 0, 1) := by decide +kernel
theorem dX10_reads_25 : decode cX10_reads 25 = .ok (.invokevirtual 438, 3) := by decide +kernel
theorem dX10_reads_28 : decode cX10_reads 28 = .ok (.istore_n 1, 1) := by decide +kernel
theorem dX10_reads_29 : decode cX10_reads 29 = .ok (.goto (-18), 3) := by decide +kernel
theorem dX10_reads_32 : decode cX10_reads 32 = .ok (.iload_n 1, 1) := by decide +kernel
theorem dX10_reads_33 : decode cX10_reads 33 = .ok (.ifCond .ne 11, 3) := by decide +kernel
theorem dX10_reads_36 : decode cX10_reads 36 = .ok (.bipush (-10), 2) := by decide +kernel
theorem dX10_reads_38 : decode cX10_reads 38 = .ok (.aload_n 0, 1) := by decide +kernel
theorem dX10_reads_39 : decode cX10_reads 39 = .ok (.getfield 400, 3) := by decide +kernel
theorem dX10_reads_42 : decode cX10_reads 42 = .ok (.isub, 1) := by decide +kernel
theorem dX10_reads_43 : decode cX10_reads 43 = .ok (.ireturn, 1) := by decide +kernel
theorem dX10_reads_44 : decode cX10_reads 44 = .ok (.iconst 0, 1) := by decide +kernel
theorem dX10_reads_45 : decode cX10_reads 45 = .ok (.istore_n 2, 1) := by decide +kernel
theorem dX10_reads_46 : decode cX10_reads 46 = .ok (.iload_n 2, 1) := by decide +kernel
theorem dX10_reads_47 : decode cX10_reads 47 = .ok (.bipush 33, 2) := by decide +kernel
theorem dX10_reads_49 : decode cX10_reads 49 = .ok (.if_icmp .ge 21, 3) := by decide +kernel
theorem dX10_reads_52 : decode cX10_reads 52 = .ok (.aload_n 0, 1) := by decide +kernel
theorem dX10_reads_53 : decode cX10_reads 53 = .ok (.getfield 16, 3) := by decide +kernel
theorem dX10_reads_56 : decode cX10_reads 56 = .ok (.iload_n 2, 1) := by decide +kernel
theorem dX10_reads_57 : decode cX10_reads 57 = .ok (.aload_n 0, 1) := by decide +kernel
theorem dX10_reads_58 : decode cX10_reads 58 = .ok (.getfield 7, 3) := by decide +kernel
theorem dX10_reads_61 : decode cX10_reads 61 = .ok (.iload_n 2, 1) := by decide +kernel
theorem dX10_reads_62 : decode cX10_reads 62 = .ok (.laload, 1) := by decide +kernel
theorem dX10_reads_63 : decode cX10_reads 63 = .ok (.lastore, 1) := by decide +kernel
theorem dX10_reads_64 : decode cX10_reads 64 = .ok (.iinc 2 1, 3) := by decide +kernel
theorem dX10_reads_67 : decode cX10_reads 67 = .ok (.goto (-21), 3) := by decide +kernel
theorem dX10_reads_70 : decode cX10_reads 70 = .ok (.iconst 0, 1) := by decide +kernel
theorem dX10_reads_71 : decode cX10_reads 71 = .ok (.istore_n 2, 1) := by decide +kernel
theorem dX10_reads_72 : decode cX10_reads 72 = .ok (.aload_n 0, 1) := by decide +kernel
theorem dX10_reads_73 : decode cX10_reads 73 = .ok (.iconst 0, 1) := by decide +kernel
theorem dX10_reads_74 : decode cX10_reads 74 = .ok (.putfield 400, 3) := by decide +kernel
theorem dX10_reads_77 : decode cX10_reads 77 = .ok (.aload_n 0, 1) := by decide +kernel
theorem dX10_reads_78 : decode cX10_reads 78 = .ok (.iconst 0, 1) := by decide +kernel
theorem dX10_reads_79 : decode cX10_reads 79 = .ok (.putfield 432, 3) := by decide +kernel
theorem dX10_reads_82 : decode cX10_reads 82 = .ok (.aload_n 0, 1) := by decide +kernel
theorem dX10_reads_83 : decode cX10_reads 83 = .ok (.invokevirtual 407, 3) := by decide +kernel
theorem dX10_reads_86 : decode cX10_reads 86 = .ok (.iconst (-1), 1) := by decide +kernel
theorem dX10_reads_87 : decode cX10_reads 87 = .ok (.if_icmp .eq 54, 3) := by decide +kernel
theorem dX10_reads_90 : decode cX10_reads 90 = .ok (.aload_n 0, 1) := by decide +kernel
theorem dX10_reads_91 : decode cX10_reads 91 = .ok (.iconst 1, 1) := by decide +kernel
theorem dX10_reads_92 : decode cX10_reads 92 = .ok (.invokevirtual 438, 3) := by decide +kernel
theorem dX10_reads_95 : decode cX10_reads 95 = .ok (.istore_n 1, 1) := by decide +kernel
theorem dX10_reads_96 : decode cX10_reads 96 = .ok (.aload_n 0, 1) := by decide +kernel
theorem dX10_reads_97 : decode cX10_reads 97 = .ok (.getfield 432, 3) := by decide +kernel
theorem dX10_reads_100 : decode cX10_reads 100 = .ok (.ifCond .ge 35, 3) := by decide +kernel
theorem dX10_reads_103 : decode cX10_reads 103 = .ok (.iconst 0, 1) := by decide +kernel
theorem dX10_reads_104 : decode cX10_reads 104 = .ok (.istore_n 3, 1) := by decide +kernel
theorem dX10_reads_105 : decode cX10_reads 105 = .ok (.iload_n 3, 1) := by decide +kernel
theorem dX10_reads_106 : decode cX10_reads 106 = .ok (.bipush 33, 2) := by decide +kernel
theorem dX10_reads_108 : decode cX10_reads 108 = .ok (.if_icmp .ge 21, 3) := by decide +kernel
theorem dX10_reads_111 : decode cX10_reads 111 = .ok (.aload_n 0, 1) := by decide +kernel
theorem dX10_reads_112 : decode cX10_reads 112 = .ok (.getfield 7, 3) := by decide +kernel
theorem dX10_reads_115 : decode cX10_reads 115 = .ok (.iload_n 3, 1) := by decide +kernel
theorem dX10_reads_116 : decode cX10_reads 116 = .ok (.aload_n 0, 1) := by decide +kernel
theorem dX10_reads_117 : decode cX10_reads 117 = .ok (.getfield 16, 3) := by decide +kernel
theorem dX10_reads_120 : decode cX10_reads 120 = .ok (.iload_n 3, 1) := by decide +kernel
theorem dX10_reads_121 : decode cX10_reads 121 = .ok (.laload, 1) := by decide +kernel
theorem dX10_reads_122 : decode cX10_reads 122 = .ok (.lastore, 1) := by decide +kernel
theorem dX10_reads_123 : decode cX10_reads 123 = .ok (.iinc 3 1, 3) := by decide +kernel
theorem dX10_reads_126 : decode cX10_reads 126 = .ok (.goto (-21), 3) := by decide +kernel
theorem dX10_reads_129 : decode cX10_reads 129 = .ok (.sipush (-1000), 3) := by decide +kernel
theorem dX10_reads_132 : decode cX10_reads 132 = .ok (.iload_n 2, 1) := by decide +kernel
theorem dX10_reads_133 : decode cX10_reads 133 = .ok (.isub, 1) := by decide +kernel
theorem dX10_reads_134 : decode cX10_reads 134 = .ok (.ireturn, 1) := by decide +kernel
theorem dX10_reads_135 : decode cX10_reads 135 = .ok (.iinc 2 1, 3) := by decide +kernel
theorem dX10_reads_138 : decode cX10_reads 138 = .ok (.goto (-56), 3) := by decide +kernel
theorem dX10_reads_141 : decode cX10_reads 141 = .ok (.aload_n 0, 1) := by decide +kernel
theorem dX10_reads_142 : decode cX10_reads 142 = .ok (.invokevirtual 441, 3) := by decide +kernel
theorem dX10_reads_145 : decode cX10_reads 145 = .ok (.iload_n 2, 1) := by decide +kernel
theorem dX10_reads_146 : decode cX10_reads 146 = .ok (.ireturn, 1) := by decide +kernel
theorem kcX10_reads : Cond.code yX10_reads cX10_reads 4 (some .int) ∈ tb := tq q_1167 rfl
theorem knX10_reads : Cond.initialized yX10_reads.cls ∈ tb := (tq q_10 rfl)
theorem kdX10_reads : yX10_reads.cls ≠ "java/lang/invoke/MethodHandle" ∧ yX10_reads.cls ≠ "java/lang/invoke/VarHandle" ∧ (parseMethodDescriptor yX10_reads.desc).map (fun d => d.parameters.length) = some 0 := ⟨by decide +kernel, by decide +kernel, by decide +kernel⟩
theorem kiX10_reads : Cond.instanceMethod yX10_reads ∈ tb := (tq q_1165 rfl)
theorem ksX10_reads : Cond.selects yX10_reads.cls yX10_reads yX10_reads ∈ tb := (tq q_1166 rfl)
theorem tgX10_reads {x0 : Nat} {h : PH} {r : Int32 × PH} (hf : (fX10_reads x0).1 h = some r) : ∃ n x, nth h x0 = some (9, n, x) := by
  obtain ⟨_, _, e, _⟩ := pb_some hf
  exact (chk_some e).2
set_option maxHeartbeats 4000000 in
set_option maxRecDepth 100000 in
theorem wX10_reads_B11 {p : Program} {l : Launch} {e : Env} {s : State} {m : MethodId} {args : Array Value} {below : List Frame} {meth : Method} {c : Code} {G : GG} {ρ : Nat → Nat} {h0 hE hB : PH} {Q : State → Prop} {x0 : Nat} (C : Cx G "PairSymbolsModel" cX10_reads 4 (some .int) "reads" p s m args meth c) {x1 : Int32} {h : PH} {H : Heap} {locs : List Loc} {cells slots : Nat} {ls : Array Slot} {r : (Int32) ⊕ (Int32)} (hf : (fX10_reads_b11 x0 x1).1 h = some (r, hB)) (hX : Ext hB hE) (hW : Wd G ρ h0.length (sl h0) s.heap h H locs cells slots) (hl : lv_has ls 4 [(0, .ref (ρ x0)), (1, .int x1)]) (kc : ∀ y : Int32, r = .inl y → ∀ (H : Heap) (locs : List Loc) (c1 s1 : Nat) (ls : Array Slot), Wd G ρ h0.length (sl h0) s.heap hB H locs c1 s1 → lv_has ls 4 [(0, .ref (ρ x0)), (1, .int y)] → W p l e (RM 12 302 h0 hE) s m args below meth c H locs c1 s1 Q (F0 m 11 ls [])) (ke : ∀ z : Int32, r = .inr z → ∀ (H : Heap) (locs : List Loc) (c1 s1 : Nat) (ls : Array Slot), Wd G ρ h0.length (sl h0) s.heap hB H locs c1 s1 → lv_has ls 4 [(0, .ref (ρ x0)), (1, .int z)] → W p l e (RM 12 302 h0 hE) s m args below meth c H locs c1 s1 Q (F0 m 32 ls [])) : W p l e (RM 12 302 h0 hE) s m args below meth c H locs cells slots Q (F0 m 11 ls []) := by
  have hx := C.1
  have hb := C.2.1
  unfold fX10_reads_b11 at hf
  refine lv_iload_n hx hb dX10_reads_11 rfl (lv_at hl 1 rfl) ?_
  refine lv_if_eq (tgt := 32) hx hb dX10_reads_12 (by decide) (fun c4 => ?_) (fun c4 => ?_)
  · rw [if_pos c4] at hf
    obtain ⟨rfl, rfl⟩ := pp_some hf
    exact ke _ rfl _ _ _ _ _ hW (lv_sub hl [0, 1] rfl)
  · rw [if_neg c4] at hf
    refine lv_aload_n hx hb dX10_reads_15 rfl (lv_at hl 0 rfl) ?_
    obtain ⟨v5, h5, e5, hf⟩ := pb_some hf
    obtain ⟨_, _, t6⟩ := tgX10_here e5
    refine r_calli hW (pext e5) (run_V (b := x0) (As := []) (rest := []) C hW (metX10_here l G ρ e5) ⟨rfl, rfl⟩ kcX10_here (tq q_1172 rfl) kiX10_here ksX10_here knX10_here kdX10_here t6 rfl rfl ⟨Nat.le_of_ble_eq_true rfl, Nat.le_of_ble_eq_true rfl⟩ hl.1 (Nat.le_of_ble_eq_true rfl) (room_of hW (pext e5) ((pext hf).tr hX)) dX10_reads_16 rfl) (fun H locs c1 s1 hW => ?_)
    refine lv_iconst (v := -1) hx hb dX10_reads_19 (by decide) ?_
    refine lv_icmp_eq (tgt := 32) hx hb dX10_reads_20 (by decide) (fun c7 => ?_) (fun c7 => ?_)
    · rw [if_pos c7] at hf
      obtain ⟨rfl, rfl⟩ := pp_some hf
      exact ke _ rfl _ _ _ _ _ hW (lv_sub hl [0, 1] rfl)
    · rw [if_neg c7] at hf
      refine lv_aload_n hx hb dX10_reads_23 rfl (lv_at hl 0 rfl) ?_
      refine lv_iconst (v := 0) hx hb dX10_reads_24 (by decide) ?_
      obtain ⟨v8, h8, e8, hf⟩ := pb_some hf
      obtain ⟨_, _, t9⟩ := tgX10_readsOrder e8
      refine r_calli hW (pext e8) (run_V (b := x0) (As := [.int (0 : Int32)]) (rest := []) C hW (metX10_readsOrder l G ρ e8) ⟨rfl, rfl⟩ kcX10_readsOrder (tq q_1168 rfl) kiX10_readsOrder ksX10_readsOrder knX10_readsOrder kdX10_readsOrder t9 rfl rfl ⟨Nat.le_of_ble_eq_true rfl, Nat.le_of_ble_eq_true rfl⟩ hl.1 (Nat.le_of_ble_eq_true rfl) (room_of hW (pext e8) ((pext hf).tr hX)) dX10_reads_25 rfl) (fun H locs c1 s1 hW => ?_)
      refine lv_istore_n (lv' := [(1, .int v8), (0, .ref (ρ x0))]) hx hb dX10_reads_28 rfl hl (by decide) rfl (fun ls hl => ?_)
      refine lv_goto (tgt := 11) hx hb dX10_reads_29 (by decide) ?_
      obtain ⟨rfl, rfl⟩ := pp_some hf
      exact kc _ rfl _ _ _ _ _ hW (lv_sub hl [1, 0] rfl)
set_option maxHeartbeats 4000000 in
theorem wX10_reads_L11 {p : Program} {l : Launch} {e : Env} {s : State} {m : MethodId} {args : Array Value} {below : List Frame} {meth : Method} {c : Code} {G : GG} {ρ : Nat → Nat} {h0 hE hB : PH} {Q : State → Prop} {x0 : Nat} (C : Cx G "PairSymbolsModel" cX10_reads 4 (some .int) "reads" p s m args meth c) {z : (Int32)} (n : Nat) : ∀ (x : Int32) {h : PH} {H : Heap} {locs : List Loc} {cells slots : Nat} {ls : Array Slot}, (plo (fX10_reads_B11 x0) n x).1 h = some (z, hB) → Ext hB hE → Wd G ρ h0.length (sl h0) s.heap h H locs cells slots → lv_has ls 4 [(0, .ref (ρ x0)), (1, .int x)] → (ke : ∀ (H : Heap) (locs : List Loc) (c1 s1 : Nat) (ls : Array Slot), Wd G ρ h0.length (sl h0) s.heap hB H locs c1 s1 → lv_has ls 4 [(0, .ref (ρ x0)), (1, .int z)] → W p l e (RM 12 302 h0 hE) s m args below meth c H locs c1 s1 Q (F0 m 32 ls [])) → W p l e (RM 12 302 h0 hE) s m args below meth c H locs cells slots Q (F0 m 11 ls []) := by
  induction n with
  | zero =>
    intro x h H locs cells slots ls hf
    rw [plo_0] at hf
    exact (pf_no hf).elim
  | succ n ih =>
    intro x h H locs cells slots ls hf hX hW hl ke
    rw [plo_s] at hf
    obtain ⟨r, h1, e1, hf⟩ := pb_some hf
    unfold fX10_reads_B11 at e1
    rw [frI_eq] at e1
    refine wX10_reads_B11 C e1 ((pext hf).tr hX) hW hl (fun y hr H locs c1 s1 ls hW hl => ?_) (fun y hr H locs c1 s1 ls hW hl => ?_)
    · subst hr
      exact ih y hf hX hW hl ke
    · subst hr
      obtain ⟨rfl, rfl⟩ := pp_some hf
      exact ke H locs c1 s1 ls hW hl
set_option maxHeartbeats 4000000 in
set_option maxRecDepth 100000 in
theorem wX10_reads_B46 {p : Program} {l : Launch} {e : Env} {s : State} {m : MethodId} {args : Array Value} {below : List Frame} {meth : Method} {c : Code} {G : GG} {ρ : Nat → Nat} {h0 hE hB : PH} {Q : State → Prop} {x0 : Nat} (C : Cx G "PairSymbolsModel" cX10_reads 4 (some .int) "reads" p s m args meth c) {x2 : Int32} {h : PH} {H : Heap} {locs : List Loc} {cells slots : Nat} {ls : Array Slot} {r : (Int32) ⊕ (Unit)} (hf : (fX10_reads_b46 x0 x2).1 h = some (r, hB)) (hX : Ext hB hE) (hW : Wd G ρ h0.length (sl h0) s.heap h H locs cells slots) (hl : lv_has ls 4 [(0, .ref (ρ x0)), (2, .int x2)]) (kc : ∀ y : Int32, r = .inl y → ∀ (H : Heap) (locs : List Loc) (c1 s1 : Nat) (ls : Array Slot), Wd G ρ h0.length (sl h0) s.heap hB H locs c1 s1 → lv_has ls 4 [(0, .ref (ρ x0)), (2, .int y)] → W p l e (RM 12 302 h0 hE) s m args below meth c H locs c1 s1 Q (F0 m 46 ls [])) (ke : ∀ z : Unit, r = .inr z → ∀ (H : Heap) (locs : List Loc) (c1 s1 : Nat) (ls : Array Slot), Wd G ρ h0.length (sl h0) s.heap hB H locs c1 s1 → lv_has ls 4 [(0, .ref (ρ x0))] → W p l e (RM 12 302 h0 hE) s m args below meth c H locs c1 s1 Q (F0 m 70 ls [])) : W p l e (RM 12 302 h0 hE) s m args below meth c H locs cells slots Q (F0 m 46 ls []) := by
  have hx := C.1
  have hb := C.2.1
  unfold fX10_reads_b46 at hf
  refine lv_iload_n hx hb dX10_reads_46 rfl (lv_at hl 1 rfl) ?_
  refine lv_bipush (v := 33) hx hb dX10_reads_47 (by decide) ?_
  refine lv_icmp_ge (tgt := 70) hx hb dX10_reads_49 (by decide) (fun c12 => ?_) (fun c12 => ?_)
  · rw [if_pos c12] at hf
    obtain ⟨rfl, rfl⟩ := pp_some hf
    exact ke _ rfl _ _ _ _ _ hW (lv_sub hl [0] rfl)
  · rw [if_neg c12] at hf
    refine lv_aload_n hx hb dX10_reads_52 rfl (lv_at hl 0 rfl) ?_
    obtain ⟨v13, e13, hf⟩ := pb_rd (rd_gA _ _ _) hf
    refine r_gA C hW e13 flX10_16 rfl dX10_reads_53 ?_
    refine lv_iload_n hx hb dX10_reads_56 rfl (lv_at hl 1 rfl) ?_
    refine lv_aload_n hx hb dX10_reads_57 rfl (lv_at hl 0 rfl) ?_
    obtain ⟨v14, e14, hf⟩ := pb_rd (rd_gA _ _ _) hf
    refine r_gA C hW e14 flX10_7 rfl dX10_reads_58 ?_
    refine lv_iload_n hx hb dX10_reads_61 rfl (lv_at hl 1 rfl) ?_
    obtain ⟨v15, e15, hf⟩ := pb_rd (rd_lJ _ _ _) hf
    refine r_lald C hW e15 dX10_reads_62 ?_
    obtain ⟨_, h16, e16, hf⟩ := pb_some hf
    refine r_last C hW e16 dX10_reads_63 (fun H locs hW => ?_)
    refine lv_iinc (v := (x2 + 1)) (lv' := [(2, .int (x2 + 1)), (0, .ref (ρ x0))]) hx hb dX10_reads_64 hl (k := 1) rfl rfl (by decide) rfl (fun ls hl => ?_)
    refine lv_goto (tgt := 46) hx hb dX10_reads_67 (by decide) ?_
    obtain ⟨rfl, rfl⟩ := pp_some hf
    exact kc _ rfl _ _ _ _ _ hW (lv_sub hl [1, 0] rfl)
set_option maxHeartbeats 4000000 in
theorem wX10_reads_L46 {p : Program} {l : Launch} {e : Env} {s : State} {m : MethodId} {args : Array Value} {below : List Frame} {meth : Method} {c : Code} {G : GG} {ρ : Nat → Nat} {h0 hE hB : PH} {Q : State → Prop} {x0 : Nat} (C : Cx G "PairSymbolsModel" cX10_reads 4 (some .int) "reads" p s m args meth c) {z : (Unit)} (n : Nat) : ∀ (x : Int32) {h : PH} {H : Heap} {locs : List Loc} {cells slots : Nat} {ls : Array Slot}, (plo (fX10_reads_B46 x0) n x).1 h = some (z, hB) → Ext hB hE → Wd G ρ h0.length (sl h0) s.heap h H locs cells slots → lv_has ls 4 [(0, .ref (ρ x0)), (2, .int x)] → (ke : ∀ (H : Heap) (locs : List Loc) (c1 s1 : Nat) (ls : Array Slot), Wd G ρ h0.length (sl h0) s.heap hB H locs c1 s1 → lv_has ls 4 [(0, .ref (ρ x0))] → W p l e (RM 12 302 h0 hE) s m args below meth c H locs c1 s1 Q (F0 m 70 ls [])) → W p l e (RM 12 302 h0 hE) s m args below meth c H locs cells slots Q (F0 m 46 ls []) := by
  induction n with
  | zero =>
    intro x h H locs cells slots ls hf
    rw [plo_0] at hf
    exact (pf_no hf).elim
  | succ n ih =>
    intro x h H locs cells slots ls hf hX hW hl ke
    rw [plo_s] at hf
    obtain ⟨r, h1, e1, hf⟩ := pb_some hf
    unfold fX10_reads_B46 at e1
    rw [frI_eq] at e1
    refine wX10_reads_B46 C e1 ((pext hf).tr hX) hW hl (fun y hr H locs c1 s1 ls hW hl => ?_) (fun y hr H locs c1 s1 ls hW hl => ?_)
    · subst hr
      exact ih y hf hX hW hl ke
    · subst hr
      obtain ⟨rfl, rfl⟩ := pp_some hf
      exact ke H locs c1 s1 ls hW hl
set_option maxHeartbeats 4000000 in
set_option maxRecDepth 100000 in
theorem wX10_reads_B105 {p : Program} {l : Launch} {e : Env} {s : State} {m : MethodId} {args : Array Value} {below : List Frame} {meth : Method} {c : Code} {G : GG} {ρ : Nat → Nat} {h0 hE hB : PH} {Q : State → Prop} {x0 : Nat} {x2 : Int32} (C : Cx G "PairSymbolsModel" cX10_reads 4 (some .int) "reads" p s m args meth c) {x3 : Int32} {h : PH} {H : Heap} {locs : List Loc} {cells slots : Nat} {ls : Array Slot} {r : (Int32) ⊕ (Unit)} (hf : (fX10_reads_b105 x0 x2 x3).1 h = some (r, hB)) (hX : Ext hB hE) (hW : Wd G ρ h0.length (sl h0) s.heap h H locs cells slots) (hl : lv_has ls 4 [(0, .ref (ρ x0)), (2, .int x2), (3, .int x3)]) (kc : ∀ y : Int32, r = .inl y → ∀ (H : Heap) (locs : List Loc) (c1 s1 : Nat) (ls : Array Slot), Wd G ρ h0.length (sl h0) s.heap hB H locs c1 s1 → lv_has ls 4 [(0, .ref (ρ x0)), (2, .int x2), (3, .int y)] → W p l e (RM 12 302 h0 hE) s m args below meth c H locs c1 s1 Q (F0 m 105 ls [])) (ke : ∀ z : Unit, r = .inr z → ∀ (H : Heap) (locs : List Loc) (c1 s1 : Nat) (ls : Array Slot), Wd G ρ h0.length (sl h0) s.heap hB H locs c1 s1 → lv_has ls 4 [(2, .int x2)] → W p l e (RM 12 302 h0 hE) s m args below meth c H locs c1 s1 Q (F0 m 129 ls [])) : W p l e (RM 12 302 h0 hE) s m args below meth c H locs cells slots Q (F0 m 105 ls []) := by
  have hx := C.1
  have hb := C.2.1
  unfold fX10_reads_b105 at hf
  refine lv_iload_n hx hb dX10_reads_105 rfl (lv_at hl 2 rfl) ?_
  refine lv_bipush (v := 33) hx hb dX10_reads_106 (by decide) ?_
  refine lv_icmp_ge (tgt := 129) hx hb dX10_reads_108 (by decide) (fun c27 => ?_) (fun c27 => ?_)
  · rw [if_pos c27] at hf
    obtain ⟨rfl, rfl⟩ := pp_some hf
    exact ke _ rfl _ _ _ _ _ hW (lv_sub hl [1] rfl)
  · rw [if_neg c27] at hf
    refine lv_aload_n hx hb dX10_reads_111 rfl (lv_at hl 0 rfl) ?_
    obtain ⟨v28, e28, hf⟩ := pb_rd (rd_gA _ _ _) hf
    refine r_gA C hW e28 flX10_7 rfl dX10_reads_112 ?_
    refine lv_iload_n hx hb dX10_reads_115 rfl (lv_at hl 2 rfl) ?_
    refine lv_aload_n hx hb dX10_reads_116 rfl (lv_at hl 0 rfl) ?_
    obtain ⟨v29, e29, hf⟩ := pb_rd (rd_gA _ _ _) hf
    refine r_gA C hW e29 flX10_16 rfl dX10_reads_117 ?_
    refine lv_iload_n hx hb dX10_reads_120 rfl (lv_at hl 2 rfl) ?_
    obtain ⟨v30, e30, hf⟩ := pb_rd (rd_lJ _ _ _) hf
    refine r_lald C hW e30 dX10_reads_121 ?_
    obtain ⟨_, h31, e31, hf⟩ := pb_some hf
    refine r_last C hW e31 dX10_reads_122 (fun H locs hW => ?_)
    refine lv_iinc (v := (x3 + 1)) (lv' := [(3, .int (x3 + 1)), (0, .ref (ρ x0)), (2, .int x2)]) hx hb dX10_reads_123 hl (k := 2) rfl rfl (by decide) rfl (fun ls hl => ?_)
    refine lv_goto (tgt := 105) hx hb dX10_reads_126 (by decide) ?_
    obtain ⟨rfl, rfl⟩ := pp_some hf
    exact kc _ rfl _ _ _ _ _ hW (lv_sub hl [1, 2, 0] rfl)
set_option maxHeartbeats 4000000 in
theorem wX10_reads_L105 {p : Program} {l : Launch} {e : Env} {s : State} {m : MethodId} {args : Array Value} {below : List Frame} {meth : Method} {c : Code} {G : GG} {ρ : Nat → Nat} {h0 hE hB : PH} {Q : State → Prop} {x0 : Nat} {x2 : Int32} (C : Cx G "PairSymbolsModel" cX10_reads 4 (some .int) "reads" p s m args meth c) {z : (Unit)} (n : Nat) : ∀ (x : Int32) {h : PH} {H : Heap} {locs : List Loc} {cells slots : Nat} {ls : Array Slot}, (plo (fX10_reads_B105 x0 x2) n x).1 h = some (z, hB) → Ext hB hE → Wd G ρ h0.length (sl h0) s.heap h H locs cells slots → lv_has ls 4 [(0, .ref (ρ x0)), (2, .int x2), (3, .int x)] → (ke : ∀ (H : Heap) (locs : List Loc) (c1 s1 : Nat) (ls : Array Slot), Wd G ρ h0.length (sl h0) s.heap hB H locs c1 s1 → lv_has ls 4 [(2, .int x2)] → W p l e (RM 12 302 h0 hE) s m args below meth c H locs c1 s1 Q (F0 m 129 ls [])) → W p l e (RM 12 302 h0 hE) s m args below meth c H locs cells slots Q (F0 m 105 ls []) := by
  induction n with
  | zero =>
    intro x h H locs cells slots ls hf
    rw [plo_0] at hf
    exact (pf_no hf).elim
  | succ n ih =>
    intro x h H locs cells slots ls hf hX hW hl ke
    rw [plo_s] at hf
    obtain ⟨r, h1, e1, hf⟩ := pb_some hf
    unfold fX10_reads_B105 at e1
    rw [frI_eq] at e1
    refine wX10_reads_B105 C e1 ((pext hf).tr hX) hW hl (fun y hr H locs c1 s1 ls hW hl => ?_) (fun y hr H locs c1 s1 ls hW hl => ?_)
    · subst hr
      exact ih y hf hX hW hl ke
    · subst hr
      obtain ⟨rfl, rfl⟩ := pp_some hf
      exact ke H locs c1 s1 ls hW hl
set_option maxHeartbeats 4000000 in
set_option maxRecDepth 100000 in
theorem wX10_reads_B82 {p : Program} {l : Launch} {e : Env} {s : State} {m : MethodId} {args : Array Value} {below : List Frame} {meth : Method} {c : Code} {G : GG} {ρ : Nat → Nat} {h0 hE hB : PH} {Q : State → Prop} {x0 : Nat} (C : Cx G "PairSymbolsModel" cX10_reads 4 (some .int) "reads" p s m args meth c) {x2 : Int32} {h : PH} {H : Heap} {locs : List Loc} {cells slots : Nat} {ls : Array Slot} {r : (Int32) ⊕ (Int32 ⊕ (Int32))} (hf : (fX10_reads_b82 x0 x2).1 h = some (r, hB)) (hX : Ext hB hE) (hW : Wd G ρ h0.length (sl h0) s.heap h H locs cells slots) (hl : lv_has ls 4 [(0, .ref (ρ x0)), (2, .int x2)]) (kc : ∀ y : Int32, r = .inl y → ∀ (H : Heap) (locs : List Loc) (c1 s1 : Nat) (ls : Array Slot), Wd G ρ h0.length (sl h0) s.heap hB H locs c1 s1 → lv_has ls 4 [(0, .ref (ρ x0)), (2, .int y)] → W p l e (RM 12 302 h0 hE) s m args below meth c H locs c1 s1 Q (F0 m 82 ls [])) (kr : ∀ v : Int32, r = .inr (.inl v) → ∀ (H : Heap) (locs : List Loc) (c1 s1 : Nat) (ls : Array Slot) (pc : Nat), Wd G ρ h0.length (sl h0) s.heap hB H locs c1 s1 → decode cX10_reads pc = .ok (.ireturn, 1) → W p l e (RM 12 302 h0 hE) s m args below meth c H locs c1 s1 Q (F0 m pc ls [.int v])) (ke : ∀ z : Int32, r = .inr (.inr z) → ∀ (H : Heap) (locs : List Loc) (c1 s1 : Nat) (ls : Array Slot), Wd G ρ h0.length (sl h0) s.heap hB H locs c1 s1 → lv_has ls 4 [(0, .ref (ρ x0)), (2, .int z)] → W p l e (RM 12 302 h0 hE) s m args below meth c H locs c1 s1 Q (F0 m 141 ls [])) : W p l e (RM 12 302 h0 hE) s m args below meth c H locs cells slots Q (F0 m 82 ls []) := by
  have hx := C.1
  have hb := C.2.1
  unfold fX10_reads_b82 at hf
  refine lv_aload_n hx hb dX10_reads_82 rfl (lv_at hl 0 rfl) ?_
  obtain ⟨v20, h20, e20, hf⟩ := pb_some hf
  obtain ⟨_, _, t21⟩ := tgX10_here e20
  refine r_calli hW (pext e20) (run_V (b := x0) (As := []) (rest := []) C hW (metX10_here l G ρ e20) ⟨rfl, rfl⟩ kcX10_here (tq q_1172 rfl) kiX10_here ksX10_here knX10_here kdX10_here t21 rfl rfl ⟨Nat.le_of_ble_eq_true rfl, Nat.le_of_ble_eq_true rfl⟩ hl.1 (Nat.le_of_ble_eq_true rfl) (room_of hW (pext e20) ((pext hf).tr hX)) dX10_reads_83 rfl) (fun H locs c1 s1 hW => ?_)
  refine lv_iconst (v := -1) hx hb dX10_reads_86 (by decide) ?_
  refine lv_icmp_eq (tgt := 141) hx hb dX10_reads_87 (by decide) (fun c22 => ?_) (fun c22 => ?_)
  · rw [if_pos c22] at hf
    obtain ⟨rfl, rfl⟩ := pp_some hf
    exact ke _ rfl _ _ _ _ _ hW (lv_sub hl [0, 1] rfl)
  · rw [if_neg c22] at hf
    refine lv_aload_n hx hb dX10_reads_90 rfl (lv_at hl 0 rfl) ?_
    refine lv_iconst (v := 1) hx hb dX10_reads_91 (by decide) ?_
    obtain ⟨v23, h23, e23, hf⟩ := pb_some hf
    obtain ⟨_, _, t24⟩ := tgX10_readsOrder e23
    refine r_calli hW (pext e23) (run_V (b := x0) (As := [.int (1 : Int32)]) (rest := []) C hW (metX10_readsOrder l G ρ e23) ⟨rfl, rfl⟩ kcX10_readsOrder (tq q_1168 rfl) kiX10_readsOrder ksX10_readsOrder knX10_readsOrder kdX10_readsOrder t24 rfl rfl ⟨Nat.le_of_ble_eq_true rfl, Nat.le_of_ble_eq_true rfl⟩ hl.1 (Nat.le_of_ble_eq_true rfl) (room_of hW (pext e23) ((pext hf).tr hX)) dX10_reads_92 rfl) (fun H locs c1 s1 hW => ?_)
    refine lv_istore_n (lv' := [(1, .int v23), (0, .ref (ρ x0)), (2, .int x2)]) hx hb dX10_reads_95 rfl hl (by decide) rfl (fun ls hl => ?_)
    refine lv_aload_n hx hb dX10_reads_96 rfl (lv_at hl 1 rfl) ?_
    obtain ⟨v25, e25, hf⟩ := pb_rd (rd_gI _ _ _) hf
    refine r_gI C hW e25 flX10_432 rfl dX10_reads_97 ?_
    refine lv_if_ge (tgt := 135) hx hb dX10_reads_100 (by decide) (fun c26 => ?_) (fun c26 => ?_)
    · rw [if_pos c26] at hf
      refine lv_iinc (v := (x2 + 1)) (lv' := [(2, .int (x2 + 1)), (1, .int v23), (0, .ref (ρ x0))]) hx hb dX10_reads_135 hl (k := 2) rfl rfl (by decide) rfl (fun ls hl => ?_)
      refine lv_goto (tgt := 82) hx hb dX10_reads_138 (by decide) ?_
      obtain ⟨rfl, rfl⟩ := pp_some hf
      exact kc _ rfl _ _ _ _ _ hW (lv_sub hl [2, 0] rfl)
    · rw [if_neg c26] at hf
      refine lv_iconst (v := 0) hx hb dX10_reads_103 (by decide) ?_
      refine lv_istore_n (lv' := [(3, .int (0 : Int32)), (1, .int v23), (0, .ref (ρ x0)), (2, .int x2)]) hx hb dX10_reads_104 rfl hl (by decide) rfl (fun ls hl => ?_)
      obtain ⟨z32, h32, e32, hf⟩ := pb_some hf
      refine wX10_reads_L105 C fu _ e32 ((pext hf).tr hX) hW (lv_sub hl [2, 3, 0] rfl) (fun H locs c1 s1 ls hW hl => ?_)
      refine lv_sipush (v := -1000) hx hb dX10_reads_129 (by decide) ?_
      refine lv_iload_n hx hb dX10_reads_132 rfl (lv_at hl 0 rfl) ?_
      refine lv_isub hx hb dX10_reads_133 ?_
      obtain ⟨rfl, rfl⟩ := pp_some hf
      exact kr _ rfl _ _ _ _ _ _ hW dX10_reads_134
set_option maxHeartbeats 4000000 in
theorem wX10_reads_L82 {p : Program} {l : Launch} {e : Env} {s : State} {m : MethodId} {args : Array Value} {below : List Frame} {meth : Method} {c : Code} {G : GG} {ρ : Nat → Nat} {h0 hE hB : PH} {Q : State → Prop} {x0 : Nat} (C : Cx G "PairSymbolsModel" cX10_reads 4 (some .int) "reads" p s m args meth c) {z : (Int32 ⊕ (Int32))} (n : Nat) : ∀ (x : Int32) {h : PH} {H : Heap} {locs : List Loc} {cells slots : Nat} {ls : Array Slot}, (plo (fX10_reads_B82 x0) n x).1 h = some (z, hB) → Ext hB hE → Wd G ρ h0.length (sl h0) s.heap h H locs cells slots → lv_has ls 4 [(0, .ref (ρ x0)), (2, .int x)] → (kr : ∀ v : Int32, z = .inl v → ∀ (H : Heap) (locs : List Loc) (c1 s1 : Nat) (ls : Array Slot) (pc : Nat), Wd G ρ h0.length (sl h0) s.heap hB H locs c1 s1 → decode cX10_reads pc = .ok (.ireturn, 1) → W p l e (RM 12 302 h0 hE) s m args below meth c H locs c1 s1 Q (F0 m pc ls [.int v])) → (ke : ∀ y : Int32, z = .inr y → ∀ (H : Heap) (locs : List Loc) (c1 s1 : Nat) (ls : Array Slot), Wd G ρ h0.length (sl h0) s.heap hB H locs c1 s1 → lv_has ls 4 [(0, .ref (ρ x0)), (2, .int y)] → W p l e (RM 12 302 h0 hE) s m args below meth c H locs c1 s1 Q (F0 m 141 ls [])) → W p l e (RM 12 302 h0 hE) s m args below meth c H locs cells slots Q (F0 m 82 ls []) := by
  induction n with
  | zero =>
    intro x h H locs cells slots ls hf
    rw [plo_0] at hf
    exact (pf_no hf).elim
  | succ n ih =>
    intro x h H locs cells slots ls hf hX hW hl kr ke
    rw [plo_s] at hf
    obtain ⟨r, h1, e1, hf⟩ := pb_some hf
    unfold fX10_reads_B82 at e1
    rw [frI_eq] at e1
    refine wX10_reads_B82 C e1 ((pext hf).tr hX) hW hl (fun y hr H locs c1 s1 ls hW hl => ?_) (fun v hr H locs c1 s1 ls pc hW hd => ?_) (fun y hr H locs c1 s1 ls hW hl => ?_)
    · subst hr
      exact ih y hf hX hW hl kr ke
    · subst hr
      obtain ⟨rfl, rfl⟩ := pp_some hf
      exact kr v rfl H locs c1 s1 ls pc hW hd
    · subst hr
      obtain ⟨rfl, rfl⟩ := pp_some hf
      exact ke y rfl H locs c1 s1 ls hW hl
set_option maxHeartbeats 4000000 in
set_option maxRecDepth 100000 in
theorem metX10_reads (l : Launch) (G : GG) (ρ : Nat → Nat) {z : Nat} {x0 : Nat} {h hE : PH} {v : Int32} (hf : (fX10_reads x0).1 h = some (v, hE)) : Met l yX10_reads (wsY yX10_reads cX10_reads 4 (some .int)) (RM 12 302 h hE) (va_Pc [.ref (ρ x0)] (PcB G ρ h z)) (QI G ρ v hE h.length z) (DC h hE) (DS h hE) (Af ρ h.length z) := by
  refine met_start (by decide) (Nat.le_of_ble_eq_true rfl) ?_
  intro p e s m below meth c ls hz C hW hl
  subst hz
  have C : Cx G "PairSymbolsModel" cX10_reads 4 (some .int) "reads" p s m _ meth c := C
  have hx := C.1
  have hb := C.2.1
  have hX : Ext hE hE := Ext.rf hE
  have hl : lv_has ls 4 [(0, .ref (ρ x0))] := hl
  have hW : Wd G ρ h.length (sl h) s.heap h s.heap [] 0 0 := hW
  unfold fX10_reads at hf
  obtain ⟨_, e0, hf⟩ := pb_rd (rd_chk _ _) hf
  refine lv_aload_n hx hb dX10_reads_0 rfl (lv_at hl 0 rfl) ?_
  refine lv_iconst (v := 0) hx hb dX10_reads_1 (by decide) ?_
  obtain ⟨_, h1, e1, hf⟩ := pb_some hf
  refine r_sI C hW e1 flX10_400 (Or.inl rfl) rfl dX10_reads_2 (fun H locs hW => ?_)
  refine lv_aload_n hx hb dX10_reads_5 rfl (lv_at hl 0 rfl) ?_
  refine lv_iconst (v := 0) hx hb dX10_reads_6 (by decide) ?_
  obtain ⟨v2, h2, e2, hf⟩ := pb_some hf
  obtain ⟨_, _, t3⟩ := tgX10_readsOrder e2
  refine r_calli hW (pext e2) (run_V (b := x0) (As := [.int (0 : Int32)]) (rest := []) C hW (metX10_readsOrder l G ρ e2) ⟨rfl, rfl⟩ kcX10_readsOrder (tq q_1168 rfl) kiX10_readsOrder ksX10_readsOrder knX10_readsOrder kdX10_readsOrder t3 rfl rfl ⟨Nat.le_of_ble_eq_true rfl, Nat.le_of_ble_eq_true rfl⟩ hl.1 (Nat.le_of_ble_eq_true rfl) (room_of hW (pext e2) ((pext hf).tr hX)) dX10_reads_7 rfl) (fun H locs c1 s1 hW => ?_)
  refine lv_istore_n (lv' := [(1, .int v2), (0, .ref (ρ x0))]) hx hb dX10_reads_10 rfl hl (by decide) rfl (fun ls hl => ?_)
  obtain ⟨z10, h10, e10, hf⟩ := pb_some hf
  refine wX10_reads_L11 C fu _ e10 ((pext hf).tr hX) hW (lv_sub hl [1, 0] rfl) (fun H locs c1 s1 ls hW hl => ?_)
  refine lv_iload_n hx hb dX10_reads_32 rfl (lv_at hl 1 rfl) ?_
  refine lv_if_ne (tgt := 44) hx hb dX10_reads_33 (by decide) (fun c11 => ?_) (fun c11 => ?_)
  · rw [if_neg c11] at hf
    refine lv_iconst (v := 0) hx hb dX10_reads_44 (by decide) ?_
    refine lv_istore_n (lv' := [(2, .int (0 : Int32)), (0, .ref (ρ x0)), (1, .int z10)]) hx hb dX10_reads_45 rfl hl (by decide) rfl (fun ls hl => ?_)
    obtain ⟨z17, h17, e17, hf⟩ := pb_some hf
    refine wX10_reads_L46 C fu _ e17 ((pext hf).tr hX) hW (lv_sub hl [1, 0] rfl) (fun H locs c1 s1 ls hW hl => ?_)
    refine lv_iconst (v := 0) hx hb dX10_reads_70 (by decide) ?_
    refine lv_istore_n (lv' := [(2, .int (0 : Int32)), (0, .ref (ρ x0))]) hx hb dX10_reads_71 rfl hl (by decide) rfl (fun ls hl => ?_)
    refine lv_aload_n hx hb dX10_reads_72 rfl (lv_at hl 1 rfl) ?_
    refine lv_iconst (v := 0) hx hb dX10_reads_73 (by decide) ?_
    obtain ⟨_, h18, e18, hf⟩ := pb_some hf
    refine r_sI C hW e18 flX10_400 (Or.inl rfl) rfl dX10_reads_74 (fun H locs hW => ?_)
    refine lv_aload_n hx hb dX10_reads_77 rfl (lv_at hl 1 rfl) ?_
    refine lv_iconst (v := 0) hx hb dX10_reads_78 (by decide) ?_
    obtain ⟨_, h19, e19, hf⟩ := pb_some hf
    refine r_sI C hW e19 flX10_432 (Or.inl rfl) rfl dX10_reads_79 (fun H locs hW => ?_)
    obtain ⟨z33, h33, e33, hf⟩ := pb_some hf
    refine wX10_reads_L82 C fu _ e33 ((pext hf).tr hX) hW (lv_sub hl [1, 0] rfl) (fun v33 hz H locs c1 s1 ls pc hW hd => ?_) (fun z34 hz H locs c1 s1 ls hW hl => ?_)
    · subst hz
      obtain ⟨rfl, rfl⟩ := pp_some hf
      exact r_iret C hW hd
    · subst hz
      try dsimp only at hf
      refine lv_aload_n hx hb dX10_reads_141 rfl (lv_at hl 0 rfl) ?_
      obtain ⟨_, h35, e35, hf⟩ := pb_some hf
      obtain ⟨_, _, t36⟩ := tgX10_keepsAside e35
      refine r_callv hW (pext e35) (run_V (b := x0) (As := []) (rest := []) C hW (metX10_keepsAside l G ρ e35) ⟨rfl, rfl⟩ kcX10_keepsAside (tq q_1198 rfl) kiX10_keepsAside ksX10_keepsAside knX10_keepsAside kdX10_keepsAside t36 rfl rfl ⟨Nat.le_of_ble_eq_true rfl, Nat.le_of_ble_eq_true rfl⟩ hl.1 (Nat.le_of_ble_eq_true rfl) (room_of hW (pext e35) ((pext hf).tr hX)) dX10_reads_142 rfl) (fun H locs c1 s1 hW => ?_)
      refine lv_iload_n hx hb dX10_reads_145 rfl (lv_at hl 1 rfl) ?_
      obtain ⟨rfl, rfl⟩ := pp_some hf
      exact r_iret C hW dX10_reads_146
  · rw [if_pos c11] at hf
    refine lv_bipush (v := -10) hx hb dX10_reads_36 (by decide) ?_
    refine lv_aload_n hx hb dX10_reads_38 rfl (lv_at hl 0 rfl) ?_
    obtain ⟨v37, e37, hf⟩ := pb_rd (rd_gI _ _ _) hf
    refine r_gI C hW e37 flX10_400 rfl dX10_reads_39 ?_
    refine lv_isub hx hb dX10_reads_42 ?_
    obtain ⟨rfl, rfl⟩ := pp_some hf
    exact r_iret C hW dX10_reads_43

theorem dX10_back_0 : decode cX10_back 0 = .ok (.aload_n 0, 1) := by decide +kernel
theorem dX10_back_1 : decode cX10_back 1 = .ok (.getfield 125, 3) := by decide +kernel
theorem dX10_back_4 : decode cX10_back 4 = .ok (.ifCond .ne 10, 3) := by decide +kernel
theorem dX10_back_7 : decode cX10_back 7 = .ok (.aload_n 0, 1) := by decide +kernel
theorem dX10_back_8 : decode cX10_back 8 = .ok (.bipush (-3), 2) := by decide +kernel
theorem dX10_back_10 : decode cX10_back 10 = .ok (.invokevirtual 240, 3) := by decide +kernel
theorem dX10_back_13 : decode cX10_back 13 = .ok (.ireturn, 1) := by decide +kernel
theorem dX10_back_14 : decode cX10_back 14 = .ok (.aload_n 0, 1) := by decide +kernel
theorem dX10_back_15 : decode cX10_back 15 = .ok (.dup, 1) := by decide +kernel
theorem dX10_back_16 : decode cX10_back 16 = .ok (.getfield 125, 3) := by decide +kernel
theorem dX10_back_19 : decode cX10_back 19 = .ok (.iconst 1, 1) := by decide +kernel
theorem dX10_back_20 : decode cX10_back 20 = .ok (.isub, 1) := by decide +kernel
theorem dX10_back_21 : decode cX10_back 21 = .ok (.putfield 125, 3) := by decide +kernel
theorem dX10_back_24 : decode cX10_back 24 = .ok (.iconst 0, 1) := by decide +kernel
theorem dX10_back_25 : decode cX10_back 25 = .ok (.istore_n 1, 1) := by decide +kernel
theorem dX10_back_26 : decode cX10_back 26 = .ok (.iload_n 1, 1) := by decide +kernel
theorem dX10_back_27 : decode cX10_back 27 = .ok (.bipush 33, 2) := by decide +kernel
theorem dX10_back_29 : decode cX10_back 29 = .ok (.if_icmp .ge 29, 3) := by decide +kernel
theorem dX10_back_32 : decode cX10_back 32 = .ok (.aload_n 0, 1) := by decide +kernel
theorem dX10_back_33 : decode cX10_back 33 = .ok (.getfield 7, 3) := by decide +kernel
theorem dX10_back_36 : decode cX10_back 36 = .ok (.iload_n 1, 1) := by decide +kernel
theorem dX10_back_37 : decode cX10_back 37 = .ok (.aload_n 0, 1) := by decide +kernel
theorem dX10_back_38 : decode cX10_back 38 = .ok (.getfield 13, 3) := by decide +kernel
theorem dX10_back_41 : decode cX10_back 41 = .ok (.bipush 33, 2) := by decide +kernel
theorem dX10_back_43 : decode cX10_back 43 = .ok (.aload_n 0, 1) := by decide +kernel
theorem dX10_back_44 : decode cX10_back 44 = .ok (.getfield 125, 3) := by decide +kernel
theorem dX10_back_47 : decode cX10_back 47 = .ok (.imul, 1) := by decide +kernel
theorem dX10_back_48 : decode cX10_back 48 = .ok (.iload_n 1, 1) := by decide +kernel
theorem dX10_back_49 : decode cX10_back 49 = .ok (.iadd, 1) := by decide +kernel
theorem dX10_back_50 : decode cX10_back 50 = .ok (.laload, 1) := by decide +kernel
theorem dX10_back_51 : decode cX10_back 51 = .ok (.lastore, 1) := by decide +kernel
theorem dX10_back_52 : decode cX10_back 52 = .ok (.iinc 1 1, 3) := by decide +kernel
theorem dX10_back_55 : decode cX10_back 55 = .ok (.goto (-29), 3) := by decide +kernel
theorem dX10_back_58 : decode cX10_back 58 = .ok (.aload_n 0, 1) := by decide +kernel
theorem dX10_back_59 : decode cX10_back 59 = .ok (.getfield 125, 3) := by decide +kernel
theorem dX10_back_62 : decode cX10_back 62 = .ok (.ireturn, 1) := by decide +kernel
theorem kcX10_back : Cond.code yX10_back cX10_back 2 (some .int) ∈ tb := tq q_1205 rfl
theorem knX10_back : Cond.initialized yX10_back.cls ∈ tb := (tq q_10 rfl)
theorem kdX10_back : yX10_back.cls ≠ "java/lang/invoke/MethodHandle" ∧ yX10_back.cls ≠ "java/lang/invoke/VarHandle" ∧ (parseMethodDescriptor yX10_back.desc).map (fun d => d.parameters.length) = some 0 := ⟨by decide +kernel, by decide +kernel, by decide +kernel⟩
theorem kiX10_back : Cond.instanceMethod yX10_back ∈ tb := (tq q_1203 rfl)
theorem ksX10_back : Cond.selects yX10_back.cls yX10_back yX10_back ∈ tb := (tq q_1204 rfl)
theorem tgX10_back {x0 : Nat} {h : PH} {r : Int32 × PH} (hf : (fX10_back x0).1 h = some r) : ∃ n x, nth h x0 = some (9, n, x) := by
  obtain ⟨_, _, e, _⟩ := pb_some hf
  exact (chk_some e).2
set_option maxHeartbeats 4000000 in
set_option maxRecDepth 100000 in
theorem wX10_back_B26 {p : Program} {l : Launch} {e : Env} {s : State} {m : MethodId} {args : Array Value} {below : List Frame} {meth : Method} {c : Code} {G : GG} {ρ : Nat → Nat} {h0 hE hB : PH} {Q : State → Prop} {x0 : Nat} (C : Cx G "PairSymbolsModel" cX10_back 2 (some .int) "back" p s m args meth c) {x1 : Int32} {h : PH} {H : Heap} {locs : List Loc} {cells slots : Nat} {ls : Array Slot} {r : (Int32) ⊕ (Unit)} (hf : (fX10_back_b26 x0 x1).1 h = some (r, hB)) (hX : Ext hB hE) (hW : Wd G ρ h0.length (sl h0) s.heap h H locs cells slots) (hl : lv_has ls 2 [(0, .ref (ρ x0)), (1, .int x1)]) (kc : ∀ y : Int32, r = .inl y → ∀ (H : Heap) (locs : List Loc) (c1 s1 : Nat) (ls : Array Slot), Wd G ρ h0.length (sl h0) s.heap hB H locs c1 s1 → lv_has ls 2 [(0, .ref (ρ x0)), (1, .int y)] → W p l e (RM 1 21 h0 hE) s m args below meth c H locs c1 s1 Q (F0 m 26 ls [])) (ke : ∀ z : Unit, r = .inr z → ∀ (H : Heap) (locs : List Loc) (c1 s1 : Nat) (ls : Array Slot), Wd G ρ h0.length (sl h0) s.heap hB H locs c1 s1 → lv_has ls 2 [(0, .ref (ρ x0))] → W p l e (RM 1 21 h0 hE) s m args below meth c H locs c1 s1 Q (F0 m 58 ls [])) : W p l e (RM 1 21 h0 hE) s m args below meth c H locs cells slots Q (F0 m 26 ls []) := by
  have hx := C.1
  have hb := C.2.1
  unfold fX10_back_b26 at hf
  refine lv_iload_n hx hb dX10_back_26 rfl (lv_at hl 1 rfl) ?_
  refine lv_bipush (v := 33) hx hb dX10_back_27 (by decide) ?_
  refine lv_icmp_ge (tgt := 58) hx hb dX10_back_29 (by decide) (fun c5 => ?_) (fun c5 => ?_)
  · rw [if_pos c5] at hf
    obtain ⟨rfl, rfl⟩ := pp_some hf
    exact ke _ rfl _ _ _ _ _ hW (lv_sub hl [0] rfl)
  · rw [if_neg c5] at hf
    refine lv_aload_n hx hb dX10_back_32 rfl (lv_at hl 0 rfl) ?_
    obtain ⟨v6, e6, hf⟩ := pb_rd (rd_gA _ _ _) hf
    refine r_gA C hW e6 flX10_7 rfl dX10_back_33 ?_
    refine lv_iload_n hx hb dX10_back_36 rfl (lv_at hl 1 rfl) ?_
    refine lv_aload_n hx hb dX10_back_37 rfl (lv_at hl 0 rfl) ?_
    obtain ⟨v7, e7, hf⟩ := pb_rd (rd_gA _ _ _) hf
    refine r_gA C hW e7 flX10_13 rfl dX10_back_38 ?_
    refine lv_bipush (v := 33) hx hb dX10_back_41 (by decide) ?_
    refine lv_aload_n hx hb dX10_back_43 rfl (lv_at hl 0 rfl) ?_
    obtain ⟨v8, e8, hf⟩ := pb_rd (rd_gI _ _ _) hf
    refine r_gI C hW e8 flX10_125 rfl dX10_back_44 ?_
    refine lv_imul hx hb dX10_back_47 ?_
    refine lv_iload_n hx hb dX10_back_48 rfl (lv_at hl 1 rfl) ?_
    refine lv_iadd hx hb dX10_back_49 ?_
    obtain ⟨v9, e9, hf⟩ := pb_rd (rd_lJ _ _ _) hf
    refine r_lald C hW e9 dX10_back_50 ?_
    obtain ⟨_, h10, e10, hf⟩ := pb_some hf
    refine r_last C hW e10 dX10_back_51 (fun H locs hW => ?_)
    refine lv_iinc (v := (x1 + 1)) (lv' := [(1, .int (x1 + 1)), (0, .ref (ρ x0))]) hx hb dX10_back_52 hl (k := 1) rfl rfl (by decide) rfl (fun ls hl => ?_)
    refine lv_goto (tgt := 26) hx hb dX10_back_55 (by decide) ?_
    obtain ⟨rfl, rfl⟩ := pp_some hf
    exact kc _ rfl _ _ _ _ _ hW (lv_sub hl [1, 0] rfl)
set_option maxHeartbeats 4000000 in
theorem wX10_back_L26 {p : Program} {l : Launch} {e : Env} {s : State} {m : MethodId} {args : Array Value} {below : List Frame} {meth : Method} {c : Code} {G : GG} {ρ : Nat → Nat} {h0 hE hB : PH} {Q : State → Prop} {x0 : Nat} (C : Cx G "PairSymbolsModel" cX10_back 2 (some .int) "back" p s m args meth c) {z : (Unit)} (n : Nat) : ∀ (x : Int32) {h : PH} {H : Heap} {locs : List Loc} {cells slots : Nat} {ls : Array Slot}, (plo (fX10_back_B26 x0) n x).1 h = some (z, hB) → Ext hB hE → Wd G ρ h0.length (sl h0) s.heap h H locs cells slots → lv_has ls 2 [(0, .ref (ρ x0)), (1, .int x)] → (ke : ∀ (H : Heap) (locs : List Loc) (c1 s1 : Nat) (ls : Array Slot), Wd G ρ h0.length (sl h0) s.heap hB H locs c1 s1 → lv_has ls 2 [(0, .ref (ρ x0))] → W p l e (RM 1 21 h0 hE) s m args below meth c H locs c1 s1 Q (F0 m 58 ls [])) → W p l e (RM 1 21 h0 hE) s m args below meth c H locs cells slots Q (F0 m 26 ls []) := by
  induction n with
  | zero =>
    intro x h H locs cells slots ls hf
    rw [plo_0] at hf
    exact (pf_no hf).elim
  | succ n ih =>
    intro x h H locs cells slots ls hf hX hW hl ke
    rw [plo_s] at hf
    obtain ⟨r, h1, e1, hf⟩ := pb_some hf
    unfold fX10_back_B26 at e1
    rw [frI_eq] at e1
    refine wX10_back_B26 C e1 ((pext hf).tr hX) hW hl (fun y hr H locs c1 s1 ls hW hl => ?_) (fun y hr H locs c1 s1 ls hW hl => ?_)
    · subst hr
      exact ih y hf hX hW hl ke
    · subst hr
      obtain ⟨rfl, rfl⟩ := pp_some hf
      exact ke H locs c1 s1 ls hW hl
set_option maxHeartbeats 4000000 in
set_option maxRecDepth 100000 in
theorem metX10_back (l : Launch) (G : GG) (ρ : Nat → Nat) {z : Nat} {x0 : Nat} {h hE : PH} {v : Int32} (hf : (fX10_back x0).1 h = some (v, hE)) : Met l yX10_back (wsY yX10_back cX10_back 2 (some .int)) (RM 1 21 h hE) (va_Pc [.ref (ρ x0)] (PcB G ρ h z)) (QI G ρ v hE h.length z) (DC h hE) (DS h hE) (Af ρ h.length z) := by
  refine met_start (by decide) (Nat.le_of_ble_eq_true rfl) ?_
  intro p e s m below meth c ls hz C hW hl
  subst hz
  have C : Cx G "PairSymbolsModel" cX10_back 2 (some .int) "back" p s m _ meth c := C
  have hx := C.1
  have hb := C.2.1
  have hX : Ext hE hE := Ext.rf hE
  have hl : lv_has ls 2 [(0, .ref (ρ x0))] := hl
  have hW : Wd G ρ h.length (sl h) s.heap h s.heap [] 0 0 := hW
  unfold fX10_back at hf
  obtain ⟨_, e0, hf⟩ := pb_rd (rd_chk _ _) hf
  refine lv_aload_n hx hb dX10_back_0 rfl (lv_at hl 0 rfl) ?_
  obtain ⟨v1, e1, hf⟩ := pb_rd (rd_gI _ _ _) hf
  refine r_gI C hW e1 flX10_125 rfl dX10_back_1 ?_
  refine lv_if_ne (tgt := 14) hx hb dX10_back_4 (by decide) (fun c2 => ?_) (fun c2 => ?_)
  · rw [if_neg c2] at hf
    refine lv_aload_n hx hb dX10_back_14 rfl (lv_at hl 0 rfl) ?_
    refine lv_dup hx hb dX10_back_15 rfl ?_
    obtain ⟨v3, e3, hf⟩ := pb_rd (rd_gI _ _ _) hf
    refine r_gI C hW e3 flX10_125 rfl dX10_back_16 ?_
    refine lv_iconst (v := 1) hx hb dX10_back_19 (by decide) ?_
    refine lv_isub hx hb dX10_back_20 ?_
    obtain ⟨_, h4, e4, hf⟩ := pb_some hf
    refine r_sI C hW e4 flX10_125 (Or.inl rfl) rfl dX10_back_21 (fun H locs hW => ?_)
    refine lv_iconst (v := 0) hx hb dX10_back_24 (by decide) ?_
    refine lv_istore_n (lv' := [(1, .int (0 : Int32)), (0, .ref (ρ x0))]) hx hb dX10_back_25 rfl hl (by decide) rfl (fun ls hl => ?_)
    obtain ⟨z11, h11, e11, hf⟩ := pb_some hf
    refine wX10_back_L26 C fu _ e11 ((pext hf).tr hX) hW (lv_sub hl [1, 0] rfl) (fun H locs c1 s1 ls hW hl => ?_)
    refine lv_aload_n hx hb dX10_back_58 rfl (lv_at hl 0 rfl) ?_
    obtain ⟨v12, e12, hf⟩ := pb_rd (rd_gI _ _ _) hf
    refine r_gI C hW e12 flX10_125 rfl dX10_back_59 ?_
    obtain ⟨rfl, rfl⟩ := pp_some hf
    exact r_iret C hW dX10_back_62
  · rw [if_pos c2] at hf
    refine lv_aload_n hx hb dX10_back_7 rfl (lv_at hl 0 rfl) ?_
    refine lv_bipush (v := -3) hx hb dX10_back_8 (by decide) ?_
    obtain ⟨v13, h13, e13, hf⟩ := pb_some hf
    obtain ⟨_, _, t14⟩ := tgX10_refuses e13
    refine r_calli hW (pext e13) (run_V (b := x0) (As := [.int (-3 : Int32)]) (rest := []) C hW (metX10_refuses l G ρ e13) ⟨rfl, rfl⟩ kcX10_refuses (tq q_837 rfl) kiX10_refuses ksX10_refuses knX10_refuses kdX10_refuses t14 rfl rfl ⟨Nat.le_of_ble_eq_true rfl, Nat.le_of_ble_eq_true rfl⟩ hl.1 (Nat.le_of_ble_eq_true rfl) (room_of hW (pext e13) ((pext hf).tr hX)) dX10_back_10 rfl) (fun H locs c1 s1 hW => ?_)
    obtain ⟨rfl, rfl⟩ := pp_some hf
    exact r_iret C hW dX10_back_13

theorem dX10_toldOf_0 : decode cX10_toldOf 0 = .ok (.iload_n 1, 1) := by decide +kernel
theorem dX10_toldOf_1 : decode cX10_toldOf 1 = .ok (.iconst 3, 1) := by decide +kernel
theorem dX10_toldOf_2 : decode cX10_toldOf 2 = .ok (.if_icmp .ge 12, 3) := by decide +kernel
theorem dX10_toldOf_5 : decode cX10_toldOf 5 = .ok (.aload_n 0, 1) := by decide +kernel
theorem dX10_toldOf_6 : decode cX10_toldOf 6 = .ok (.getfield 19, 3) := by decide +kernel
theorem dX10_toldOf_9 : decode cX10_toldOf 9 = .ok (.iload_n 1, 1) := by decide +kernel
theorem dX10_toldOf_10 : decode cX10_toldOf 10 = .ok (.iaload, 1) := by decide +kernel
theorem dX10_toldOf_11 : decode cX10_toldOf 11 = .ok (.goto 31, 3) := by decide +kernel
theorem dX10_toldOf_14 : decode cX10_toldOf 14 = .ok (.iload_n 1, 1) := by decide +kernel
theorem dX10_toldOf_15 : decode cX10_toldOf 15 = .ok (.iconst 3, 1) := by decide +kernel
theorem dX10_toldOf_16 : decode cX10_toldOf 16 = .ok (.if_icmp .ne 10, 3) := by decide +kernel
theorem dX10_toldOf_19 : decode cX10_toldOf 19 = .ok (.aload_n 0, 1) := by decide +kernel
theorem dX10_toldOf_20 : decode cX10_toldOf 20 = .ok (.getfield 397, 3) := by decide +kernel
theorem dX10_toldOf_23 : decode cX10_toldOf 23 = .ok (.goto 19, 3) := by decide +kernel
theorem dX10_toldOf_26 : decode cX10_toldOf 26 = .ok (.iload_n 1, 1) := by decide +kernel
theorem dX10_toldOf_27 : decode cX10_toldOf 27 = .ok (.iconst 4, 1) := by decide +kernel
theorem dX10_toldOf_28 : decode cX10_toldOf 28 = .ok (.if_icmp .ne 10, 3) := by decide +kernel
theorem dX10_toldOf_31 : decode cX10_toldOf 31 = .ok (.aload_n 0, 1) := by decide +kernel
theorem dX10_toldOf_32 : decode cX10_toldOf 32 = .ok (.invokevirtual 148, 3) := by decide +kernel
theorem dX10_toldOf_35 : decode cX10_toldOf 35 = .ok (.goto 7, 3) := by decide +kernel
theorem dX10_toldOf_38 : decode cX10_toldOf 38 = .ok (.aload_n 0, 1) := by decide +kernel
theorem dX10_toldOf_39 : decode cX10_toldOf 39 = .ok (.getfield 125, 3) := by decide +kernel
theorem dX10_toldOf_42 : decode cX10_toldOf 42 = .ok (.ireturn, 1) := by decide +kernel
theorem kcX10_toldOf : Cond.code yX10_toldOf cX10_toldOf 2 (some .int) ∈ tb := tq q_1213 rfl
theorem knX10_toldOf : Cond.initialized yX10_toldOf.cls ∈ tb := (tq q_10 rfl)
theorem kdX10_toldOf : yX10_toldOf.cls ≠ "java/lang/invoke/MethodHandle" ∧ yX10_toldOf.cls ≠ "java/lang/invoke/VarHandle" ∧ (parseMethodDescriptor yX10_toldOf.desc).map (fun d => d.parameters.length) = some 1 := ⟨by decide +kernel, by decide +kernel, by decide +kernel⟩
theorem kiX10_toldOf : Cond.instanceMethod yX10_toldOf ∈ tb := (tq q_1212 rfl)
theorem ksX10_toldOf : Cond.selects yX10_toldOf.cls yX10_toldOf yX10_toldOf ∈ tb := (tq z_87 rfl)
theorem tgX10_toldOf {x0 : Nat} {x1 : Int32} {h : PH} {r : Int32 × PH} (hf : (fX10_toldOf x0 x1).1 h = some r) : ∃ n x, nth h x0 = some (9, n, x) := by
  obtain ⟨_, _, e, _⟩ := pb_some hf
  exact (chk_some e).2
set_option maxHeartbeats 4000000 in
set_option maxRecDepth 100000 in
theorem metX10_toldOf (l : Launch) (G : GG) (ρ : Nat → Nat) {z : Nat} {x0 : Nat} {x1 : Int32} {h hE : PH} {v : Int32} (hf : (fX10_toldOf x0 x1).1 h = some (v, hE)) : Met l yX10_toldOf (wsY yX10_toldOf cX10_toldOf 2 (some .int)) (RM 1 20 h hE) (va_Pc [.ref (ρ x0), .int x1] (PcB G ρ h z)) (QI G ρ v hE h.length z) (DC h hE) (DS h hE) (Af ρ h.length z) := by
  refine met_start (by decide) (Nat.le_of_ble_eq_true rfl) ?_
  intro p e s m below meth c ls hz C hW hl
  subst hz
  have C : Cx G "PairSymbolsModel" cX10_toldOf 2 (some .int) "toldOf" p s m _ meth c := C
  have hx := C.1
  have hb := C.2.1
  have hX : Ext hE hE := Ext.rf hE
  have hl : lv_has ls 2 [(0, .ref (ρ x0)), (1, .int x1)] := hl
  have hW : Wd G ρ h.length (sl h) s.heap h s.heap [] 0 0 := hW
  unfold fX10_toldOf at hf
  obtain ⟨_, e0, hf⟩ := pb_rd (rd_chk _ _) hf
  refine lv_iload_n hx hb dX10_toldOf_0 rfl (lv_at hl 1 rfl) ?_
  refine lv_iconst (v := 3) hx hb dX10_toldOf_1 (by decide) ?_
  refine lv_icmp_ge (tgt := 14) hx hb dX10_toldOf_2 (by decide) (fun c1 => ?_) (fun c1 => ?_)
  · rw [if_pos c1] at hf
    refine lv_iload_n hx hb dX10_toldOf_14 rfl (lv_at hl 1 rfl) ?_
    refine lv_iconst (v := 3) hx hb dX10_toldOf_15 (by decide) ?_
    refine lv_icmp_ne (tgt := 26) hx hb dX10_toldOf_16 (by decide) (fun c2 => ?_) (fun c2 => ?_)
    · rw [if_neg c2] at hf
      refine lv_iload_n hx hb dX10_toldOf_26 rfl (lv_at hl 1 rfl) ?_
      refine lv_iconst (v := 4) hx hb dX10_toldOf_27 (by decide) ?_
      refine lv_icmp_ne (tgt := 38) hx hb dX10_toldOf_28 (by decide) (fun c3 => ?_) (fun c3 => ?_)
      · rw [if_neg c3] at hf
        refine lv_aload_n hx hb dX10_toldOf_38 rfl (lv_at hl 0 rfl) ?_
        obtain ⟨v4, e4, hf⟩ := pb_rd (rd_gI _ _ _) hf
        refine r_gI C hW e4 flX10_125 rfl dX10_toldOf_39 ?_
        obtain ⟨rfl, rfl⟩ := pp_some hf
        exact r_iret C hW dX10_toldOf_42
      · rw [if_pos c3] at hf
        refine lv_aload_n hx hb dX10_toldOf_31 rfl (lv_at hl 0 rfl) ?_
        obtain ⟨v5, h5, e5, hf⟩ := pb_some hf
        obtain ⟨_, _, t6⟩ := tgX10_levelHere e5
        refine r_calli hW (pext e5) (run_V (b := x0) (As := []) (rest := []) C hW (metX10_levelHere l G ρ e5) ⟨rfl, rfl⟩ kcX10_levelHere (tq q_849 rfl) kiX10_levelHere ksX10_levelHere knX10_levelHere kdX10_levelHere t6 rfl rfl ⟨Nat.le_of_ble_eq_true rfl, Nat.le_of_ble_eq_true rfl⟩ hl.1 (Nat.le_of_ble_eq_true rfl) (room_of hW (pext e5) ((pext hf).tr hX)) dX10_toldOf_32 rfl) (fun H locs c1 s1 hW => ?_)
        refine lv_goto (tgt := 42) hx hb dX10_toldOf_35 (by decide) ?_
        obtain ⟨rfl, rfl⟩ := pp_some hf
        exact r_iret C hW dX10_toldOf_42
    · rw [if_pos c2] at hf
      refine lv_aload_n hx hb dX10_toldOf_19 rfl (lv_at hl 0 rfl) ?_
      obtain ⟨v7, e7, hf⟩ := pb_rd (rd_gI _ _ _) hf
      refine r_gI C hW e7 flX10_397 rfl dX10_toldOf_20 ?_
      refine lv_goto (tgt := 42) hx hb dX10_toldOf_23 (by decide) ?_
      obtain ⟨rfl, rfl⟩ := pp_some hf
      exact r_iret C hW dX10_toldOf_42
  · rw [if_neg c1] at hf
    refine lv_aload_n hx hb dX10_toldOf_5 rfl (lv_at hl 0 rfl) ?_
    obtain ⟨v8, e8, hf⟩ := pb_rd (rd_gA _ _ _) hf
    refine r_gA C hW e8 flX10_19 rfl dX10_toldOf_6 ?_
    refine lv_iload_n hx hb dX10_toldOf_9 rfl (lv_at hl 1 rfl) ?_
    obtain ⟨v9, e9, hf⟩ := pb_rd (rd_lI _ _ _) hf
    refine r_iald C hW e9 dX10_toldOf_10 ?_
    refine lv_goto (tgt := 42) hx hb dX10_toldOf_11 (by decide) ?_
    obtain ⟨rfl, rfl⟩ := pp_some hf
    exact r_iret C hW dX10_toldOf_42

theorem dX10_told_0 : decode cX10_told 0 = .ok (.iload_n 1, 1) := by decide +kernel
theorem dX10_told_1 : decode cX10_told 1 = .ok (.i2l, 1) := by decide +kernel
theorem dX10_told_2 : decode cX10_told 2 = .ok (.lconst 0, 1) := by decide +kernel
theorem dX10_told_3 : decode cX10_told 3 = .ok (.ldc2_w 351, 3) := by decide +kernel
theorem dX10_told_6 : decode cX10_told 6 = .ok (.invokestatic 236, 3) := by decide +kernel
theorem dX10_told_9 : decode cX10_told 9 = .ok (.ifCond .eq 11, 3) := by decide +kernel
theorem dX10_told_12 : decode cX10_told 12 = .ok (.aload_n 0, 1) := by decide +kernel
theorem dX10_told_13 : decode cX10_told 13 = .ok (.iload_n 1, 1) := by decide +kernel
theorem dX10_told_14 : decode cX10_told 14 = .ok (.invokevirtual 444, 3) := by decide +kernel
theorem dX10_told_17 : decode cX10_told 17 = .ok (.goto 9, 3) := by decide +kernel
theorem dX10_told_20 : decode cX10_told 20 = .ok (.aload_n 0, 1) := by decide +kernel
theorem dX10_told_21 : decode cX10_told 21 = .ok (.bipush (-2), 2) := by decide +kernel
theorem dX10_told_23 : decode cX10_told 23 = .ok (.invokevirtual 240, 3) := by decide +kernel
theorem dX10_told_26 : decode cX10_told 26 = .ok (.ireturn, 1) := by decide +kernel
theorem kcX10_told : Cond.code yX10_told cX10_told 2 (some .int) ∈ tb := tq q_1209 rfl
theorem knX10_told : Cond.initialized yX10_told.cls ∈ tb := (tq q_10 rfl)
theorem kdX10_told : yX10_told.cls ≠ "java/lang/invoke/MethodHandle" ∧ yX10_told.cls ≠ "java/lang/invoke/VarHandle" ∧ (parseMethodDescriptor yX10_told.desc).map (fun d => d.parameters.length) = some 1 := ⟨by decide +kernel, by decide +kernel, by decide +kernel⟩
theorem kiX10_told : Cond.instanceMethod yX10_told ∈ tb := (tq q_1207 rfl)
theorem ksX10_told : Cond.selects yX10_told.cls yX10_told yX10_told ∈ tb := (tq q_1208 rfl)
theorem tgX10_told {x0 : Nat} {x1 : Int32} {h : PH} {r : Int32 × PH} (hf : (fX10_told x0 x1).1 h = some r) : ∃ n x, nth h x0 = some (9, n, x) := by
  obtain ⟨_, _, e, _⟩ := pb_some hf
  exact (chk_some e).2
set_option maxHeartbeats 4000000 in
set_option maxRecDepth 100000 in
theorem metX10_told (l : Launch) (G : GG) (ρ : Nat → Nat) {z : Nat} {x0 : Nat} {x1 : Int32} {h hE : PH} {v : Int32} (hf : (fX10_told x0 x1).1 h = some (v, hE)) : Met l yX10_told (wsY yX10_told cX10_told 2 (some .int)) (RM 2 41 h hE) (va_Pc [.ref (ρ x0), .int x1] (PcB G ρ h z)) (QI G ρ v hE h.length z) (DC h hE) (DS h hE) (Af ρ h.length z) := by
  refine met_start (by decide) (Nat.le_of_ble_eq_true rfl) ?_
  intro p e s m below meth c ls hz C hW hl
  subst hz
  have C : Cx G "PairSymbolsModel" cX10_told 2 (some .int) "told" p s m _ meth c := C
  have hx := C.1
  have hb := C.2.1
  have hX : Ext hE hE := Ext.rf hE
  have hl : lv_has ls 2 [(0, .ref (ρ x0)), (1, .int x1)] := hl
  have hW : Wd G ρ h.length (sl h) s.heap h s.heap [] 0 0 := hW
  unfold fX10_told at hf
  obtain ⟨_, e0, hf⟩ := pb_rd (rd_chk _ _) hf
  refine lv_iload_n hx hb dX10_told_0 rfl (lv_at hl 1 rfl) ?_
  refine lv_i2l (v := x1.toInt64) hx hb dX10_told_1 rfl ?_
  refine lv_lconst (v := 0) hx hb dX10_told_2 (by decide) ?_
  refine r_ldc2 (v := 5) C (tq q_1066 rfl) dX10_told_3 ?_
  obtain ⟨v1, h1, e1, hf⟩ := pb_some hf
  refine r_calli hW (pext e1) (run_S (As := [.long x1.toInt64, .long (0 : Int64), .long (5 : Int64)]) (rest := []) C hW (metX10_in l G ρ e1) ⟨rfl, rfl⟩ kcX10_in (tq q_834 rfl) kiX10_in knX10_in kdX10_in ⟨Nat.le_of_ble_eq_true rfl, Nat.le_of_ble_eq_true rfl⟩ hl.1 (Nat.le_of_ble_eq_true rfl) (room_of hW (pext e1) ((pext hf).tr hX)) dX10_told_6 rfl) (fun H locs c1 s1 hW => ?_)
  refine lv_if_eq (tgt := 20) hx hb dX10_told_9 (by decide) (fun c2 => ?_) (fun c2 => ?_)
  · rw [if_pos c2] at hf
    refine lv_aload_n hx hb dX10_told_20 rfl (lv_at hl 0 rfl) ?_
    refine lv_bipush (v := -2) hx hb dX10_told_21 (by decide) ?_
    obtain ⟨v3, h3, e3, hf⟩ := pb_some hf
    obtain ⟨_, _, t4⟩ := tgX10_refuses e3
    refine r_calli hW (pext e3) (run_V (b := x0) (As := [.int (-2 : Int32)]) (rest := []) C hW (metX10_refuses l G ρ e3) ⟨rfl, rfl⟩ kcX10_refuses (tq q_837 rfl) kiX10_refuses ksX10_refuses knX10_refuses kdX10_refuses t4 rfl rfl ⟨Nat.le_of_ble_eq_true rfl, Nat.le_of_ble_eq_true rfl⟩ hl.1 (Nat.le_of_ble_eq_true rfl) (room_of hW (pext e3) ((pext hf).tr hX)) dX10_told_23 rfl) (fun H locs c1 s1 hW => ?_)
    obtain ⟨rfl, rfl⟩ := pp_some hf
    exact r_iret C hW dX10_told_26
  · rw [if_neg c2] at hf
    refine lv_aload_n hx hb dX10_told_12 rfl (lv_at hl 0 rfl) ?_
    refine lv_iload_n hx hb dX10_told_13 rfl (lv_at hl 1 rfl) ?_
    obtain ⟨v5, h5, e5, hf⟩ := pb_some hf
    obtain ⟨_, _, t6⟩ := tgX10_toldOf e5
    refine r_calli hW (pext e5) (run_V (b := x0) (As := [.int x1]) (rest := []) C hW (metX10_toldOf l G ρ e5) ⟨rfl, rfl⟩ kcX10_toldOf (tq q_1210 rfl) kiX10_toldOf ksX10_toldOf knX10_toldOf kdX10_toldOf t6 rfl rfl ⟨Nat.le_of_ble_eq_true rfl, Nat.le_of_ble_eq_true rfl⟩ hl.1 (Nat.le_of_ble_eq_true rfl) (room_of hW (pext e5) ((pext hf).tr hX)) dX10_told_14 rfl) (fun H locs c1 s1 hW => ?_)
    refine lv_goto (tgt := 26) hx hb dX10_told_17 (by decide) ?_
    obtain ⟨rfl, rfl⟩ := pp_some hf
    exact r_iret C hW dX10_told_26

theorem dX10_digest_0 : decode cX10_digest 0 = .ok (.ldc2_w 447, 3) := by decide +kernel
theorem dX10_digest_3 : decode cX10_digest 3 = .ok (.lstore_n 1, 1) := by decide +kernel
theorem dX10_digest_4 : decode cX10_digest 4 = .ok (.iconst 0, 1) := by decide +kernel
theorem dX10_digest_5 : decode cX10_digest 5 = .ok (.istore_n 3, 1) := by decide +kernel
theorem dX10_digest_6 : decode cX10_digest 6 = .ok (.iload_n 3, 1) := by decide +kernel
theorem dX10_digest_7 : decode cX10_digest 7 = .ok (.bipush 6, 2) := by decide +kernel
theorem dX10_digest_9 : decode cX10_digest 9 = .ok (.if_icmp .ge 22, 3) := by decide +kernel
theorem dX10_digest_12 : decode cX10_digest 12 = .ok (.ldc2_w 449, 3) := by decide +kernel
theorem dX10_digest_15 : decode cX10_digest 15 = .ok (.lload_n 1, 1) := by decide +kernel
theorem dX10_digest_16 : decode cX10_digest 16 = .ok (.lmul, 1) := by decide +kernel
theorem dX10_digest_17 : decode cX10_digest 17 = .ok (.aload_n 0, 1) := by decide +kernel
theorem dX10_digest_18 : decode cX10_digest 18 = .ok (.iload_n 3, 1) := by decide +kernel
theorem dX10_digest_19 : decode cX10_digest 19 = .ok (.invokevirtual 444, 3) := by decide +kernel
theorem dX10_digest_22 : decode cX10_digest 22 = .ok (.i2l, 1) := by decide +kernel
theorem dX10_digest_23 : decode cX10_digest 23 = .ok (.ladd, 1) := by decide +kernel
theorem dX10_digest_24 : decode cX10_digest 24 = .ok (.lstore_n 1, 1) := by decide +kernel
theorem dX10_digest_25 : decode cX10_digest 25 = .ok (.iinc 3 1, 3) := by decide +kernel
theorem dX10_digest_28 : decode cX10_digest 28 = .ok (.goto (-22), 3) := by decide +kernel
theorem dX10_digest_31 : decode cX10_digest 31 = .ok (.aload_n 0, 1) := by decide +kernel
theorem dX10_digest_32 : decode cX10_digest 32 = .ok (.invokevirtual 249, 3) := by decide +kernel
theorem dX10_digest_35 : decode cX10_digest 35 = .ok (.ldc2_w 449, 3) := by decide +kernel
theorem dX10_digest_38 : decode cX10_digest 38 = .ok (.lload_n 1, 1) := by decide +kernel
theorem dX10_digest_39 : decode cX10_digest 39 = .ok (.lmul, 1) := by decide +kernel
theorem dX10_digest_40 : decode cX10_digest 40 = .ok (.aload_n 0, 1) := by decide +kernel
theorem dX10_digest_41 : decode cX10_digest 41 = .ok (.getfield 156, 3) := by decide +kernel
theorem dX10_digest_44 : decode cX10_digest 44 = .ok (.i2l, 1) := by decide +kernel
theorem dX10_digest_45 : decode cX10_digest 45 = .ok (.ladd, 1) := by decide +kernel
theorem dX10_digest_46 : decode cX10_digest 46 = .ok (.lstore_n 1, 1) := by decide +kernel
theorem dX10_digest_47 : decode cX10_digest 47 = .ok (.iconst 0, 1) := by decide +kernel
theorem dX10_digest_48 : decode cX10_digest 48 = .ok (.istore_n 3, 1) := by decide +kernel
theorem dX10_digest_49 : decode cX10_digest 49 = .ok (.iload_n 3, 1) := by decide +kernel
theorem dX10_digest_50 : decode cX10_digest 50 = .ok (.iconst 3, 1) := by decide +kernel
theorem dX10_digest_51 : decode cX10_digest 51 = .ok (.if_icmp .ge 22, 3) := by decide +kernel
theorem dX10_digest_54 : decode cX10_digest 54 = .ok (.ldc2_w 449, 3) := by decide +kernel
theorem dX10_digest_57 : decode cX10_digest 57 = .ok (.lload_n 1, 1) := by decide +kernel
theorem dX10_digest_58 : decode cX10_digest 58 = .ok (.lmul, 1) := by decide +kernel
theorem dX10_digest_59 : decode cX10_digest 59 = .ok (.aload_n 0, 1) := by decide +kernel
theorem dX10_digest_60 : decode cX10_digest 60 = .ok (.iload_n 3, 1) := by decide +kernel
theorem dX10_digest_61 : decode cX10_digest 61 = .ok (.invokevirtual 276, 3) := by decide +kernel
theorem dX10_digest_64 : decode cX10_digest 64 = .ok (.i2l, 1) := by decide +kernel
theorem dX10_digest_65 : decode cX10_digest 65 = .ok (.ladd, 1) := by decide +kernel
theorem dX10_digest_66 : decode cX10_digest 66 = .ok (.lstore_n 1, 1) := by decide +kernel
theorem dX10_digest_67 : decode cX10_digest 67 = .ok (.iinc 3 1, 3) := by decide +kernel
theorem dX10_digest_70 : decode cX10_digest 70 = .ok (.goto (-21), 3) := by decide +kernel
theorem dX10_digest_73 : decode cX10_digest 73 = .ok (.iconst 0, 1) := by decide +kernel
theorem dX10_digest_74 : decode cX10_digest 74 = .ok (.istore_n 3, 1) := by decide +kernel
theorem dX10_digest_75 : decode cX10_digest 75 = .ok (.iload_n 3, 1) := by decide +kernel
theorem dX10_digest_76 : decode cX10_digest 76 = .ok (.aload_n 0, 1) := by decide +kernel
theorem dX10_digest_77 : decode cX10_digest 77 = .ok (.getfield 192, 3) := by decide +kernel
theorem dX10_digest_80 : decode cX10_digest 80 = .ok (.if_icmp .ge 41, 3) := by decide +kernel
theorem dX10_digest_83 : decode cX10_digest 83 = .ok (.ldc2_w 449, 3) := by decide +kernel
theorem dX10_digest_86 : decode cX10_digest 86 = .ok (.ldc2_w 449, 3) := by decide +kernel
theorem dX10_digest_89 : decode cX10_digest 89 = .ok (.lload_n 1, 1) := by decide +kernel
theorem dX10_digest_90 : decode cX10_digest 90 = .ok (.lmul, 1) := by decide +kernel
theorem dX10_digest_91 : decode cX10_digest 91 = .ok (.aload_n 0, 1) := by decide +kernel
theorem dX10_digest_92 : decode cX10_digest 92 = .ok (.getfield 7, 3) := by decide +kernel
theorem dX10_digest_95 : decode cX10_digest 95 = .ok (.iconst 1, 1) := by decide +kernel
theorem dX10_digest_96 : decode cX10_digest 96 = .ok (.iconst 2, 1) := by decide +kernel
theorem dX10_digest_97 : decode cX10_digest 97 = .ok (.iload_n 3, 1) := by decide +kernel
theorem dX10_digest_98 : decode cX10_digest 98 = .ok (.imul, 1) := by decide +kernel
theorem dX10_digest_99 : decode cX10_digest 99 = .ok (.iadd, 1) := by decide +kernel
theorem dX10_digest_100 : decode cX10_digest 100 = .ok (.laload, 1) := by decide +kernel
theorem dX10_digest_101 : decode cX10_digest 101 = .ok (.ladd, 1) := by decide +kernel
theorem dX10_digest_102 : decode cX10_digest 102 = .ok (.lmul, 1) := by decide +kernel
theorem dX10_digest_103 : decode cX10_digest 103 = .ok (.aload_n 0, 1) := by decide +kernel
theorem dX10_digest_104 : decode cX10_digest 104 = .ok (.getfield 7, 3) := by decide +kernel
theorem dX10_digest_107 : decode cX10_digest 107 = .ok (.iconst 2, 1) := by decide +kernel
theorem dX10_digest_108 : decode cX10_digest 108 = .ok (.iconst 2, 1) := by decide +kernel
theorem dX10_digest_109 : decode cX10_digest 109 = .ok (.iload_n 3, 1) := by decide +kernel
theorem dX10_digest_110 : decode cX10_digest 110 = .ok (.imul, 1) := by decide +kernel
theorem dX10_digest_111 : decode cX10_digest 111 = .ok (.iadd, 1) := by decide +kernel
theorem dX10_digest_112 : decode cX10_digest 112 = .ok (.laload, 1) := by decide +kernel
theorem dX10_digest_113 : decode cX10_digest 113 = .ok (.ladd, 1) := by decide +kernel
theorem dX10_digest_114 : decode cX10_digest 114 = .ok (.lstore_n 1, 1) := by decide +kernel
theorem dX10_digest_115 : decode cX10_digest 115 = .ok (.iinc 3 1, 3) := by decide +kernel
theorem dX10_digest_118 : decode cX10_digest 118 = .ok (.goto (-43), 3) := by decide +kernel
theorem dX10_digest_121 : decode cX10_digest 121 = .ok (.ldc2_w 449, 3) := by decide +kernel
theorem dX10_digest_124 : decode cX10_digest 124 = .ok (.lload_n 1, 1) := by decide +kernel
theorem dX10_digest_125 : decode cX10_digest 125 = .ok (.lmul, 1) := by decide +kernel
theorem dX10_digest_126 : decode cX10_digest 126 = .ok (.aload_n 0, 1) := by decide +kernel
theorem dX10_digest_127 : decode cX10_digest 127 = .ok (.invokevirtual 391, 3) := by decide +kernel
theorem dX10_digest_130 : decode cX10_digest 130 = .ok (.ifCond .eq 7, 3) := by decide +kernel
theorem dX10_digest_133 : decode cX10_digest 133 = .ok (.iconst 1, 1) := by decide +kernel
theorem dX10_digest_134 : decode cX10_digest 134 = .ok (.goto 4, 3) := by decide +kernel
theorem dX10_digest_137 : decode cX10_digest 137 = .ok (.iconst 0, 1) := by decide +kernel
theorem dX10_digest_138 : decode cX10_digest 138 = .ok (.i2l, 1) := by decide +kernel
theorem dX10_digest_139 : decode cX10_digest 139 = .ok (.ladd, 1) := by decide +kernel
theorem dX10_digest_140 : decode cX10_digest 140 = .ok (.lreturn, 1) := by decide +kernel
theorem kcX10_digest : Cond.code yX10_digest cX10_digest 4 (some .long) ∈ tb := tq q_1217 rfl
theorem knX10_digest : Cond.initialized yX10_digest.cls ∈ tb := (tq q_10 rfl)
theorem kdX10_digest : yX10_digest.cls ≠ "java/lang/invoke/MethodHandle" ∧ yX10_digest.cls ≠ "java/lang/invoke/VarHandle" ∧ (parseMethodDescriptor yX10_digest.desc).map (fun d => d.parameters.length) = some 0 := ⟨by decide +kernel, by decide +kernel, by decide +kernel⟩
theorem kiX10_digest : Cond.instanceMethod yX10_digest ∈ tb := (tq q_1215 rfl)
theorem ksX10_digest : Cond.selects yX10_digest.cls yX10_digest yX10_digest ∈ tb := (tq q_1216 rfl)
theorem tgX10_digest {x0 : Nat} {h : PH} {r : Int64 × PH} (hf : (fX10_digest x0).1 h = some r) : ∃ n x, nth h x0 = some (9, n, x) := by
  obtain ⟨_, _, e, _⟩ := pb_some hf
  exact (chk_some e).2
set_option maxHeartbeats 4000000 in
set_option maxRecDepth 100000 in
theorem wX10_digest_B6 {p : Program} {l : Launch} {e : Env} {s : State} {m : MethodId} {args : Array Value} {below : List Frame} {meth : Method} {c : Code} {G : GG} {ρ : Nat → Nat} {h0 hE hB : PH} {Q : State → Prop} {x0 : Nat} (C : Cx G "PairSymbolsModel" cX10_digest 4 (some .long) "digest" p s m args meth c) {x1 : Int64} {x3 : Int32} {h : PH} {H : Heap} {locs : List Loc} {cells slots : Nat} {ls : Array Slot} {r : (Int64 × Int32) ⊕ (Int64)} (hf : (fX10_digest_b6 x0 x1 x3).1 h = some (r, hB)) (hX : Ext hB hE) (hW : Wd G ρ h0.length (sl h0) s.heap h H locs cells slots) (hl : lv_has ls 4 [(0, .ref (ρ x0)), (1, .long x1), (3, .int x3)]) (kc : ∀ y : Int64 × Int32, r = .inl y → ∀ (H : Heap) (locs : List Loc) (c1 s1 : Nat) (ls : Array Slot), Wd G ρ h0.length (sl h0) s.heap hB H locs c1 s1 → lv_has ls 4 [(0, .ref (ρ x0)), (1, .long y.1), (3, .int y.2)] → W p l e (RM 9 230 h0 hE) s m args below meth c H locs c1 s1 Q (F0 m 6 ls [])) (ke : ∀ z : Int64, r = .inr z → ∀ (H : Heap) (locs : List Loc) (c1 s1 : Nat) (ls : Array Slot), Wd G ρ h0.length (sl h0) s.heap hB H locs c1 s1 → lv_has ls 4 [(0, .ref (ρ x0)), (1, .long z)] → W p l e (RM 9 230 h0 hE) s m args below meth c H locs c1 s1 Q (F0 m 31 ls [])) : W p l e (RM 9 230 h0 hE) s m args below meth c H locs cells slots Q (F0 m 6 ls []) := by
  have hx := C.1
  have hb := C.2.1
  unfold fX10_digest_b6 at hf
  refine lv_iload_n hx hb dX10_digest_6 rfl (lv_at hl 2 rfl) ?_
  refine lv_bipush (v := 6) hx hb dX10_digest_7 (by decide) ?_
  refine lv_icmp_ge (tgt := 31) hx hb dX10_digest_9 (by decide) (fun c1 => ?_) (fun c1 => ?_)
  · rw [if_pos c1] at hf
    obtain ⟨rfl, rfl⟩ := pp_some hf
    exact ke _ rfl _ _ _ _ _ hW (lv_sub hl [0, 1] rfl)
  · rw [if_neg c1] at hf
    refine r_ldc2 (v := 31) C (tq q_1219 rfl) dX10_digest_12 ?_
    refine lv_lload_n hx hb dX10_digest_15 rfl (lv_at hl 1 rfl) ?_
    refine lv_lmul hx hb dX10_digest_16 ?_
    refine lv_aload_n hx hb dX10_digest_17 rfl (lv_at hl 0 rfl) ?_
    refine lv_iload_n hx hb dX10_digest_18 rfl (lv_at hl 2 rfl) ?_
    obtain ⟨v2, h2, e2, hf⟩ := pb_some hf
    obtain ⟨_, _, t3⟩ := tgX10_toldOf e2
    refine r_calli hW (pext e2) (run_V (b := x0) (As := [.int x3]) (rest := [.long ((31 : Int64) * x1)]) C hW (metX10_toldOf l G ρ e2) ⟨rfl, rfl⟩ kcX10_toldOf (tq q_1210 rfl) kiX10_toldOf ksX10_toldOf knX10_toldOf kdX10_toldOf t3 rfl rfl ⟨Nat.le_of_ble_eq_true rfl, Nat.le_of_ble_eq_true rfl⟩ hl.1 (Nat.le_of_ble_eq_true rfl) (room_of hW (pext e2) ((pext hf).tr hX)) dX10_digest_19 rfl) (fun H locs c1 s1 hW => ?_)
    refine lv_i2l (v := v2.toInt64) hx hb dX10_digest_22 rfl ?_
    refine lv_ladd hx hb dX10_digest_23 ?_
    refine lv_lstore_n (lv' := [(1, .long (((31 : Int64) * x1) + v2.toInt64)), (0, .ref (ρ x0)), (3, .int x3)]) hx hb dX10_digest_24 rfl hl (by decide) rfl (fun ls hl => ?_)
    refine lv_iinc (v := (x3 + 1)) (lv' := [(3, .int (x3 + 1)), (1, .long (((31 : Int64) * x1) + v2.toInt64)), (0, .ref (ρ x0))]) hx hb dX10_digest_25 hl (k := 2) rfl rfl (by decide) rfl (fun ls hl => ?_)
    refine lv_goto (tgt := 6) hx hb dX10_digest_28 (by decide) ?_
    obtain ⟨rfl, rfl⟩ := pp_some hf
    exact kc _ rfl _ _ _ _ _ hW (lv_sub hl [2, 1, 0] rfl)
set_option maxHeartbeats 4000000 in
theorem wX10_digest_L6 {p : Program} {l : Launch} {e : Env} {s : State} {m : MethodId} {args : Array Value} {below : List Frame} {meth : Method} {c : Code} {G : GG} {ρ : Nat → Nat} {h0 hE hB : PH} {Q : State → Prop} {x0 : Nat} (C : Cx G "PairSymbolsModel" cX10_digest 4 (some .long) "digest" p s m args meth c) {z : (Int64)} (n : Nat) : ∀ (x : Int64 × Int32) {h : PH} {H : Heap} {locs : List Loc} {cells slots : Nat} {ls : Array Slot}, (plo (fX10_digest_B6 x0) n x).1 h = some (z, hB) → Ext hB hE → Wd G ρ h0.length (sl h0) s.heap h H locs cells slots → lv_has ls 4 [(0, .ref (ρ x0)), (1, .long x.1), (3, .int x.2)] → (ke : ∀ (H : Heap) (locs : List Loc) (c1 s1 : Nat) (ls : Array Slot), Wd G ρ h0.length (sl h0) s.heap hB H locs c1 s1 → lv_has ls 4 [(0, .ref (ρ x0)), (1, .long z)] → W p l e (RM 9 230 h0 hE) s m args below meth c H locs c1 s1 Q (F0 m 31 ls [])) → W p l e (RM 9 230 h0 hE) s m args below meth c H locs cells slots Q (F0 m 6 ls []) := by
  induction n with
  | zero =>
    intro x h H locs cells slots ls hf
    rw [plo_0] at hf
    exact (pf_no hf).elim
  | succ n ih =>
    intro x h H locs cells slots ls hf hX hW hl ke
    rw [plo_s] at hf
    obtain ⟨r, h1, e1, hf⟩ := pb_some hf
    unfold fX10_digest_B6 at e1
    rw [frJ_eq, frI_eq] at e1
    refine wX10_digest_B6 C e1 ((pext hf).tr hX) hW hl (fun y hr H locs c1 s1 ls hW hl => ?_) (fun y hr H locs c1 s1 ls hW hl => ?_)
    · subst hr
      exact ih y hf hX hW hl ke
    · subst hr
      obtain ⟨rfl, rfl⟩ := pp_some hf
      exact ke H locs c1 s1 ls hW hl
set_option maxHeartbeats 4000000 in
set_option maxRecDepth 100000 in
theorem wX10_digest_B49 {p : Program} {l : Launch} {e : Env} {s : State} {m : MethodId} {args : Array Value} {below : List Frame} {meth : Method} {c : Code} {G : GG} {ρ : Nat → Nat} {h0 hE hB : PH} {Q : State → Prop} {x0 : Nat} (C : Cx G "PairSymbolsModel" cX10_digest 4 (some .long) "digest" p s m args meth c) {x1 : Int64} {x3 : Int32} {h : PH} {H : Heap} {locs : List Loc} {cells slots : Nat} {ls : Array Slot} {r : (Int64 × Int32) ⊕ (Int64)} (hf : (fX10_digest_b49 x0 x1 x3).1 h = some (r, hB)) (hX : Ext hB hE) (hW : Wd G ρ h0.length (sl h0) s.heap h H locs cells slots) (hl : lv_has ls 4 [(0, .ref (ρ x0)), (1, .long x1), (3, .int x3)]) (kc : ∀ y : Int64 × Int32, r = .inl y → ∀ (H : Heap) (locs : List Loc) (c1 s1 : Nat) (ls : Array Slot), Wd G ρ h0.length (sl h0) s.heap hB H locs c1 s1 → lv_has ls 4 [(0, .ref (ρ x0)), (1, .long y.1), (3, .int y.2)] → W p l e (RM 9 230 h0 hE) s m args below meth c H locs c1 s1 Q (F0 m 49 ls [])) (ke : ∀ z : Int64, r = .inr z → ∀ (H : Heap) (locs : List Loc) (c1 s1 : Nat) (ls : Array Slot), Wd G ρ h0.length (sl h0) s.heap hB H locs c1 s1 → lv_has ls 4 [(0, .ref (ρ x0)), (1, .long z)] → W p l e (RM 9 230 h0 hE) s m args below meth c H locs c1 s1 Q (F0 m 73 ls [])) : W p l e (RM 9 230 h0 hE) s m args below meth c H locs cells slots Q (F0 m 49 ls []) := by
  have hx := C.1
  have hb := C.2.1
  unfold fX10_digest_b49 at hf
  refine lv_iload_n hx hb dX10_digest_49 rfl (lv_at hl 2 rfl) ?_
  refine lv_iconst (v := 3) hx hb dX10_digest_50 (by decide) ?_
  refine lv_icmp_ge (tgt := 73) hx hb dX10_digest_51 (by decide) (fun c8 => ?_) (fun c8 => ?_)
  · rw [if_pos c8] at hf
    obtain ⟨rfl, rfl⟩ := pp_some hf
    exact ke _ rfl _ _ _ _ _ hW (lv_sub hl [0, 1] rfl)
  · rw [if_neg c8] at hf
    refine r_ldc2 (v := 31) C (tq q_1219 rfl) dX10_digest_54 ?_
    refine lv_lload_n hx hb dX10_digest_57 rfl (lv_at hl 1 rfl) ?_
    refine lv_lmul hx hb dX10_digest_58 ?_
    refine lv_aload_n hx hb dX10_digest_59 rfl (lv_at hl 0 rfl) ?_
    refine lv_iload_n hx hb dX10_digest_60 rfl (lv_at hl 2 rfl) ?_
    obtain ⟨v9, h9, e9, hf⟩ := pb_some hf
    obtain ⟨_, _, t10⟩ := tgX10_spaceNow e9
    refine r_calli hW (pext e9) (run_V (b := x0) (As := [.int x3]) (rest := [.long ((31 : Int64) * x1)]) C hW (metX10_spaceNow l G ρ e9) ⟨rfl, rfl⟩ kcX10_spaceNow (tq q_955 rfl) kiX10_spaceNow ksX10_spaceNow knX10_spaceNow kdX10_spaceNow t10 rfl rfl ⟨Nat.le_of_ble_eq_true rfl, Nat.le_of_ble_eq_true rfl⟩ hl.1 (Nat.le_of_ble_eq_true rfl) (room_of hW (pext e9) ((pext hf).tr hX)) dX10_digest_61 rfl) (fun H locs c1 s1 hW => ?_)
    refine lv_i2l (v := v9.toInt64) hx hb dX10_digest_64 rfl ?_
    refine lv_ladd hx hb dX10_digest_65 ?_
    refine lv_lstore_n (lv' := [(1, .long (((31 : Int64) * x1) + v9.toInt64)), (0, .ref (ρ x0)), (3, .int x3)]) hx hb dX10_digest_66 rfl hl (by decide) rfl (fun ls hl => ?_)
    refine lv_iinc (v := (x3 + 1)) (lv' := [(3, .int (x3 + 1)), (1, .long (((31 : Int64) * x1) + v9.toInt64)), (0, .ref (ρ x0))]) hx hb dX10_digest_67 hl (k := 2) rfl rfl (by decide) rfl (fun ls hl => ?_)
    refine lv_goto (tgt := 49) hx hb dX10_digest_70 (by decide) ?_
    obtain ⟨rfl, rfl⟩ := pp_some hf
    exact kc _ rfl _ _ _ _ _ hW (lv_sub hl [2, 1, 0] rfl)
set_option maxHeartbeats 4000000 in
theorem wX10_digest_L49 {p : Program} {l : Launch} {e : Env} {s : State} {m : MethodId} {args : Array Value} {below : List Frame} {meth : Method} {c : Code} {G : GG} {ρ : Nat → Nat} {h0 hE hB : PH} {Q : State → Prop} {x0 : Nat} (C : Cx G "PairSymbolsModel" cX10_digest 4 (some .long) "digest" p s m args meth c) {z : (Int64)} (n : Nat) : ∀ (x : Int64 × Int32) {h : PH} {H : Heap} {locs : List Loc} {cells slots : Nat} {ls : Array Slot}, (plo (fX10_digest_B49 x0) n x).1 h = some (z, hB) → Ext hB hE → Wd G ρ h0.length (sl h0) s.heap h H locs cells slots → lv_has ls 4 [(0, .ref (ρ x0)), (1, .long x.1), (3, .int x.2)] → (ke : ∀ (H : Heap) (locs : List Loc) (c1 s1 : Nat) (ls : Array Slot), Wd G ρ h0.length (sl h0) s.heap hB H locs c1 s1 → lv_has ls 4 [(0, .ref (ρ x0)), (1, .long z)] → W p l e (RM 9 230 h0 hE) s m args below meth c H locs c1 s1 Q (F0 m 73 ls [])) → W p l e (RM 9 230 h0 hE) s m args below meth c H locs cells slots Q (F0 m 49 ls []) := by
  induction n with
  | zero =>
    intro x h H locs cells slots ls hf
    rw [plo_0] at hf
    exact (pf_no hf).elim
  | succ n ih =>
    intro x h H locs cells slots ls hf hX hW hl ke
    rw [plo_s] at hf
    obtain ⟨r, h1, e1, hf⟩ := pb_some hf
    unfold fX10_digest_B49 at e1
    rw [frJ_eq, frI_eq] at e1
    refine wX10_digest_B49 C e1 ((pext hf).tr hX) hW hl (fun y hr H locs c1 s1 ls hW hl => ?_) (fun y hr H locs c1 s1 ls hW hl => ?_)
    · subst hr
      exact ih y hf hX hW hl ke
    · subst hr
      obtain ⟨rfl, rfl⟩ := pp_some hf
      exact ke H locs c1 s1 ls hW hl
set_option maxHeartbeats 4000000 in
set_option maxRecDepth 100000 in
theorem wX10_digest_B75 {p : Program} {l : Launch} {e : Env} {s : State} {m : MethodId} {args : Array Value} {below : List Frame} {meth : Method} {c : Code} {G : GG} {ρ : Nat → Nat} {h0 hE hB : PH} {Q : State → Prop} {x0 : Nat} (C : Cx G "PairSymbolsModel" cX10_digest 4 (some .long) "digest" p s m args meth c) {x1 : Int64} {x3 : Int32} {h : PH} {H : Heap} {locs : List Loc} {cells slots : Nat} {ls : Array Slot} {r : (Int64 × Int32) ⊕ (Int64)} (hf : (fX10_digest_b75 x0 x1 x3).1 h = some (r, hB)) (hX : Ext hB hE) (hW : Wd G ρ h0.length (sl h0) s.heap h H locs cells slots) (hl : lv_has ls 4 [(0, .ref (ρ x0)), (1, .long x1), (3, .int x3)]) (kc : ∀ y : Int64 × Int32, r = .inl y → ∀ (H : Heap) (locs : List Loc) (c1 s1 : Nat) (ls : Array Slot), Wd G ρ h0.length (sl h0) s.heap hB H locs c1 s1 → lv_has ls 4 [(0, .ref (ρ x0)), (1, .long y.1), (3, .int y.2)] → W p l e (RM 9 230 h0 hE) s m args below meth c H locs c1 s1 Q (F0 m 75 ls [])) (ke : ∀ z : Int64, r = .inr z → ∀ (H : Heap) (locs : List Loc) (c1 s1 : Nat) (ls : Array Slot), Wd G ρ h0.length (sl h0) s.heap hB H locs c1 s1 → lv_has ls 4 [(0, .ref (ρ x0)), (1, .long z)] → W p l e (RM 9 230 h0 hE) s m args below meth c H locs c1 s1 Q (F0 m 121 ls [])) : W p l e (RM 9 230 h0 hE) s m args below meth c H locs cells slots Q (F0 m 75 ls []) := by
  have hx := C.1
  have hb := C.2.1
  unfold fX10_digest_b75 at hf
  refine lv_iload_n hx hb dX10_digest_75 rfl (lv_at hl 2 rfl) ?_
  refine lv_aload_n hx hb dX10_digest_76 rfl (lv_at hl 0 rfl) ?_
  obtain ⟨v12, e12, hf⟩ := pb_rd (rd_gI _ _ _) hf
  refine r_gI C hW e12 flX10_192 rfl dX10_digest_77 ?_
  refine lv_icmp_ge (tgt := 121) hx hb dX10_digest_80 (by decide) (fun c13 => ?_) (fun c13 => ?_)
  · rw [if_pos c13] at hf
    obtain ⟨rfl, rfl⟩ := pp_some hf
    exact ke _ rfl _ _ _ _ _ hW (lv_sub hl [0, 1] rfl)
  · rw [if_neg c13] at hf
    refine r_ldc2 (v := 31) C (tq q_1219 rfl) dX10_digest_83 ?_
    refine r_ldc2 (v := 31) C (tq q_1219 rfl) dX10_digest_86 ?_
    refine lv_lload_n hx hb dX10_digest_89 rfl (lv_at hl 1 rfl) ?_
    refine lv_lmul hx hb dX10_digest_90 ?_
    refine lv_aload_n hx hb dX10_digest_91 rfl (lv_at hl 0 rfl) ?_
    obtain ⟨v14, e14, hf⟩ := pb_rd (rd_gA _ _ _) hf
    refine r_gA C hW e14 flX10_7 rfl dX10_digest_92 ?_
    refine lv_iconst (v := 1) hx hb dX10_digest_95 (by decide) ?_
    refine lv_iconst (v := 2) hx hb dX10_digest_96 (by decide) ?_
    refine lv_iload_n hx hb dX10_digest_97 rfl (lv_at hl 2 rfl) ?_
    refine lv_imul hx hb dX10_digest_98 ?_
    refine lv_iadd hx hb dX10_digest_99 ?_
    obtain ⟨v15, e15, hf⟩ := pb_rd (rd_lJ _ _ _) hf
    refine r_lald C hW e15 dX10_digest_100 ?_
    refine lv_ladd hx hb dX10_digest_101 ?_
    refine lv_lmul hx hb dX10_digest_102 ?_
    refine lv_aload_n hx hb dX10_digest_103 rfl (lv_at hl 0 rfl) ?_
    obtain ⟨v16, e16, hf⟩ := pb_rd (rd_gA _ _ _) hf
    refine r_gA C hW e16 flX10_7 rfl dX10_digest_104 ?_
    refine lv_iconst (v := 2) hx hb dX10_digest_107 (by decide) ?_
    refine lv_iconst (v := 2) hx hb dX10_digest_108 (by decide) ?_
    refine lv_iload_n hx hb dX10_digest_109 rfl (lv_at hl 2 rfl) ?_
    refine lv_imul hx hb dX10_digest_110 ?_
    refine lv_iadd hx hb dX10_digest_111 ?_
    obtain ⟨v17, e17, hf⟩ := pb_rd (rd_lJ _ _ _) hf
    refine r_lald C hW e17 dX10_digest_112 ?_
    refine lv_ladd hx hb dX10_digest_113 ?_
    refine lv_lstore_n (lv' := [(1, .long (((31 : Int64) * (((31 : Int64) * x1) + v15)) + v17)), (0, .ref (ρ x0)), (3, .int x3)]) hx hb dX10_digest_114 rfl hl (by decide) rfl (fun ls hl => ?_)
    refine lv_iinc (v := (x3 + 1)) (lv' := [(3, .int (x3 + 1)), (1, .long (((31 : Int64) * (((31 : Int64) * x1) + v15)) + v17)), (0, .ref (ρ x0))]) hx hb dX10_digest_115 hl (k := 2) rfl rfl (by decide) rfl (fun ls hl => ?_)
    refine lv_goto (tgt := 75) hx hb dX10_digest_118 (by decide) ?_
    obtain ⟨rfl, rfl⟩ := pp_some hf
    exact kc _ rfl _ _ _ _ _ hW (lv_sub hl [2, 1, 0] rfl)
set_option maxHeartbeats 4000000 in
theorem wX10_digest_L75 {p : Program} {l : Launch} {e : Env} {s : State} {m : MethodId} {args : Array Value} {below : List Frame} {meth : Method} {c : Code} {G : GG} {ρ : Nat → Nat} {h0 hE hB : PH} {Q : State → Prop} {x0 : Nat} (C : Cx G "PairSymbolsModel" cX10_digest 4 (some .long) "digest" p s m args meth c) {z : (Int64)} (n : Nat) : ∀ (x : Int64 × Int32) {h : PH} {H : Heap} {locs : List Loc} {cells slots : Nat} {ls : Array Slot}, (plo (fX10_digest_B75 x0) n x).1 h = some (z, hB) → Ext hB hE → Wd G ρ h0.length (sl h0) s.heap h H locs cells slots → lv_has ls 4 [(0, .ref (ρ x0)), (1, .long x.1), (3, .int x.2)] → (ke : ∀ (H : Heap) (locs : List Loc) (c1 s1 : Nat) (ls : Array Slot), Wd G ρ h0.length (sl h0) s.heap hB H locs c1 s1 → lv_has ls 4 [(0, .ref (ρ x0)), (1, .long z)] → W p l e (RM 9 230 h0 hE) s m args below meth c H locs c1 s1 Q (F0 m 121 ls [])) → W p l e (RM 9 230 h0 hE) s m args below meth c H locs cells slots Q (F0 m 75 ls []) := by
  induction n with
  | zero =>
    intro x h H locs cells slots ls hf
    rw [plo_0] at hf
    exact (pf_no hf).elim
  | succ n ih =>
    intro x h H locs cells slots ls hf hX hW hl ke
    rw [plo_s] at hf
    obtain ⟨r, h1, e1, hf⟩ := pb_some hf
    unfold fX10_digest_B75 at e1
    rw [frJ_eq, frI_eq] at e1
    refine wX10_digest_B75 C e1 ((pext hf).tr hX) hW hl (fun y hr H locs c1 s1 ls hW hl => ?_) (fun y hr H locs c1 s1 ls hW hl => ?_)
    · subst hr
      exact ih y hf hX hW hl ke
    · subst hr
      obtain ⟨rfl, rfl⟩ := pp_some hf
      exact ke H locs c1 s1 ls hW hl
set_option maxHeartbeats 4000000 in
set_option maxRecDepth 100000 in
theorem metX10_digest (l : Launch) (G : GG) (ρ : Nat → Nat) {z : Nat} {x0 : Nat} {h hE : PH} {v : Int64} (hf : (fX10_digest x0).1 h = some (v, hE)) : Met l yX10_digest (wsY yX10_digest cX10_digest 4 (some .long)) (RM 9 230 h hE) (va_Pc [.ref (ρ x0)] (PcB G ρ h z)) (QL G ρ v hE h.length z) (DC h hE) (DS h hE) (Af ρ h.length z) := by
  refine met_start (by decide) (Nat.le_of_ble_eq_true rfl) ?_
  intro p e s m below meth c ls hz C hW hl
  subst hz
  have C : Cx G "PairSymbolsModel" cX10_digest 4 (some .long) "digest" p s m _ meth c := C
  have hx := C.1
  have hb := C.2.1
  have hX : Ext hE hE := Ext.rf hE
  have hl : lv_has ls 4 [(0, .ref (ρ x0))] := hl
  have hW : Wd G ρ h.length (sl h) s.heap h s.heap [] 0 0 := hW
  unfold fX10_digest at hf
  obtain ⟨_, e0, hf⟩ := pb_rd (rd_chk _ _) hf
  refine r_ldc2 (v := 2297) C (tq q_1218 rfl) dX10_digest_0 ?_
  refine lv_lstore_n (lv' := [(1, .long (2297 : Int64)), (0, .ref (ρ x0))]) hx hb dX10_digest_3 rfl hl (by decide) rfl (fun ls hl => ?_)
  refine lv_iconst (v := 0) hx hb dX10_digest_4 (by decide) ?_
  refine lv_istore_n (lv' := [(3, .int (0 : Int32)), (1, .long (2297 : Int64)), (0, .ref (ρ x0))]) hx hb dX10_digest_5 rfl hl (by decide) rfl (fun ls hl => ?_)
  obtain ⟨z4, h4, e4, hf⟩ := pb_some hf
  refine wX10_digest_L6 C fu _ e4 ((pext hf).tr hX) hW (lv_sub hl [2, 1, 0] rfl) (fun H locs c1 s1 ls hW hl => ?_)
  refine lv_aload_n hx hb dX10_digest_31 rfl (lv_at hl 0 rfl) ?_
  obtain ⟨_, h5, e5, hf⟩ := pb_some hf
  obtain ⟨_, _, t6⟩ := tgX10_lays e5
  refine r_callv hW (pext e5) (run_V (b := x0) (As := []) (rest := []) C hW (metX10_lays l G ρ e5) ⟨rfl, rfl⟩ kcX10_lays (tq q_857 rfl) kiX10_lays ksX10_lays knX10_lays kdX10_lays t6 rfl rfl ⟨Nat.le_of_ble_eq_true rfl, Nat.le_of_ble_eq_true rfl⟩ hl.1 (Nat.le_of_ble_eq_true rfl) (room_of hW (pext e5) ((pext hf).tr hX)) dX10_digest_32 rfl) (fun H locs c1 s1 hW => ?_)
  refine r_ldc2 (v := 31) C (tq q_1219 rfl) dX10_digest_35 ?_
  refine lv_lload_n hx hb dX10_digest_38 rfl (lv_at hl 1 rfl) ?_
  refine lv_lmul hx hb dX10_digest_39 ?_
  refine lv_aload_n hx hb dX10_digest_40 rfl (lv_at hl 0 rfl) ?_
  obtain ⟨v7, e7, hf⟩ := pb_rd (rd_gI _ _ _) hf
  refine r_gI C hW e7 flX10_156 rfl dX10_digest_41 ?_
  refine lv_i2l (v := v7.toInt64) hx hb dX10_digest_44 rfl ?_
  refine lv_ladd hx hb dX10_digest_45 ?_
  refine lv_lstore_n (lv' := [(1, .long (((31 : Int64) * z4) + v7.toInt64)), (0, .ref (ρ x0))]) hx hb dX10_digest_46 rfl hl (by decide) rfl (fun ls hl => ?_)
  refine lv_iconst (v := 0) hx hb dX10_digest_47 (by decide) ?_
  refine lv_istore_n (lv' := [(3, .int (0 : Int32)), (1, .long (((31 : Int64) * z4) + v7.toInt64)), (0, .ref (ρ x0))]) hx hb dX10_digest_48 rfl hl (by decide) rfl (fun ls hl => ?_)
  obtain ⟨z11, h11, e11, hf⟩ := pb_some hf
  refine wX10_digest_L49 C fu _ e11 ((pext hf).tr hX) hW (lv_sub hl [2, 1, 0] rfl) (fun H locs c1 s1 ls hW hl => ?_)
  refine lv_iconst (v := 0) hx hb dX10_digest_73 (by decide) ?_
  refine lv_istore_n (lv' := [(3, .int (0 : Int32)), (0, .ref (ρ x0)), (1, .long z11)]) hx hb dX10_digest_74 rfl hl (by decide) rfl (fun ls hl => ?_)
  obtain ⟨z18, h18, e18, hf⟩ := pb_some hf
  refine wX10_digest_L75 C fu _ e18 ((pext hf).tr hX) hW (lv_sub hl [1, 2, 0] rfl) (fun H locs c1 s1 ls hW hl => ?_)
  refine r_ldc2 (v := 31) C (tq q_1219 rfl) dX10_digest_121 ?_
  refine lv_lload_n hx hb dX10_digest_124 rfl (lv_at hl 1 rfl) ?_
  refine lv_lmul hx hb dX10_digest_125 ?_
  refine lv_aload_n hx hb dX10_digest_126 rfl (lv_at hl 0 rfl) ?_
  obtain ⟨v19, h19, e19, hf⟩ := pb_some hf
  obtain ⟨_, _, t20⟩ := tgX10_isCuspidal e19
  refine r_calli hW (pext e19) (run_V (b := x0) (As := []) (rest := [.long ((31 : Int64) * z18)]) C hW (metX10_isCuspidal l G ρ e19) ⟨rfl, rfl⟩ kcX10_isCuspidal (tq q_1151 rfl) kiX10_isCuspidal ksX10_isCuspidal knX10_isCuspidal kdX10_isCuspidal t20 rfl rfl ⟨Nat.le_of_ble_eq_true rfl, Nat.le_of_ble_eq_true rfl⟩ hl.1 (Nat.le_of_ble_eq_true rfl) (room_of hW (pext e19) ((pext hf).tr hX)) dX10_digest_127 rfl) (fun H locs c1 s1 hW => ?_)
  refine lv_if_eq (tgt := 137) hx hb dX10_digest_130 (by decide) (fun c21 => ?_) (fun c21 => ?_)
  · rw [if_pos c21] at hf
    refine lv_iconst (v := 0) hx hb dX10_digest_137 (by decide) ?_
    refine lv_i2l (v := (0 : Int32).toInt64) hx hb dX10_digest_138 rfl ?_
    refine lv_ladd hx hb dX10_digest_139 ?_
    obtain ⟨rfl, rfl⟩ := pp_some hf
    exact r_lret C hW dX10_digest_140
  · rw [if_neg c21] at hf
    refine lv_iconst (v := 1) hx hb dX10_digest_133 (by decide) ?_
    refine lv_goto (tgt := 138) hx hb dX10_digest_134 (by decide) ?_
    refine lv_i2l (v := (1 : Int32).toInt64) hx hb dX10_digest_138 rfl ?_
    refine lv_ladd hx hb dX10_digest_139 ?_
    obtain ⟨rfl, rfl⟩ := pp_some hf
    exact r_lret C hW dX10_digest_140
