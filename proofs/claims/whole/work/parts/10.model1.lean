theorem flX10_7 : FL "PairSymbolsModel" 7 9 0 true := ⟨_, CT9, by decide, (tq q_675 rfl), rfl, fun _ => Or.inr trivial⟩
theorem flX10_13 : FL "PairSymbolsModel" 13 9 1 true := ⟨_, CT9, by decide, (tq q_676 rfl), rfl, fun _ => Or.inr trivial⟩
theorem flX10_16 : FL "PairSymbolsModel" 16 9 2 true := ⟨_, CT9, by decide, (tq q_677 rfl), rfl, fun _ => Or.inr trivial⟩
theorem flX10_19 : FL "PairSymbolsModel" 19 9 4 true := ⟨_, CT9, by decide, (tq q_679 rfl), rfl, fun _ => Or.inr trivial⟩
theorem flX10_23 : FL "PairSymbolsModel" 23 9 9 true := ⟨_, CT9, by decide, (tq q_684 rfl), rfl, fun _ => Or.inr trivial⟩
theorem flX10_26 : FL "PairSymbolsModel" 26 9 10 true := ⟨_, CT9, by decide, (tq q_685 rfl), rfl, fun _ => Or.inr trivial⟩
theorem flX10_29 : FL "PairSymbolsModel" 29 9 11 true := ⟨_, CT9, by decide, (tq q_686 rfl), rfl, fun _ => Or.inr trivial⟩
theorem flX10_32 : FL "PairSymbolsModel" 32 9 12 true := ⟨_, CT9, by decide, (tq q_687 rfl), rfl, fun _ => Or.inr trivial⟩
theorem flX10_35 : FL "PairSymbolsModel" 35 9 15 true := ⟨_, CT9, by decide, (tq q_690 rfl), rfl, fun _ => Or.inr trivial⟩
theorem flX10_38 : FL "PairSymbolsModel" 38 9 16 true := ⟨_, CT9, by decide, (tq q_691 rfl), rfl, fun _ => Or.inr trivial⟩
theorem flX10_41 : FL "PairSymbolsModel" 41 9 17 true := ⟨_, CT9, by decide, (tq q_692 rfl), rfl, fun _ => Or.inr trivial⟩
theorem flX10_45 : FL "PairSymbolsModel" 45 9 18 true := ⟨_, CT9, by decide, (tq q_693 rfl), rfl, fun _ => Or.inr trivial⟩
theorem flX10_48 : FL "PairSymbolsModel" 48 9 19 true := ⟨_, CT9, by decide, (tq q_694 rfl), rfl, fun _ => Or.inr trivial⟩
theorem flX10_51 : FL "PairSymbolsModel" 51 9 20 true := ⟨_, CT9, by decide, (tq q_695 rfl), rfl, fun _ => Or.inr trivial⟩
theorem flX10_54 : FL "PairSymbolsModel" 54 9 21 true := ⟨_, CT9, by decide, (tq q_696 rfl), rfl, fun _ => Or.inr trivial⟩
theorem flX10_57 : FL "PairSymbolsModel" 57 9 22 true := ⟨_, CT9, by decide, (tq q_697 rfl), rfl, fun _ => Or.inr trivial⟩
theorem flX10_60 : FL "PairSymbolsModel" 60 9 23 true := ⟨_, CT9, by decide, (tq q_698 rfl), rfl, fun _ => Or.inr trivial⟩
theorem flX10_63 : FL "PairSymbolsModel" 63 9 24 true := ⟨_, CT9, by decide, (tq q_699 rfl), rfl, fun _ => Or.inr trivial⟩
theorem flX10_66 : FL "PairSymbolsModel" 66 9 25 true := ⟨_, CT9, by decide, (tq q_700 rfl), rfl, fun _ => Or.inr trivial⟩
theorem flX10_69 : FL "PairSymbolsModel" 69 9 27 true := ⟨_, CT9, by decide, (tq q_702 rfl), rfl, fun _ => Or.inr trivial⟩
theorem flX10_72 : FL "PairSymbolsModel" 72 9 28 true := ⟨_, CT9, by decide, (tq q_703 rfl), rfl, fun _ => Or.inr trivial⟩
theorem flX10_75 : FL "PairSymbolsModel" 75 9 29 true := ⟨_, CT9, by decide, (tq q_704 rfl), rfl, fun _ => Or.inr trivial⟩
theorem flX10_78 : FL "PairSymbolsModel" 78 9 30 true := ⟨_, CT9, by decide, (tq q_705 rfl), rfl, fun _ => Or.inr trivial⟩
theorem flX10_81 : FL "PairSymbolsModel" 81 9 31 true := ⟨_, CT9, by decide, (tq q_706 rfl), rfl, fun _ => Or.inr trivial⟩
theorem flX10_84 : FL "PairSymbolsModel" 84 9 32 true := ⟨_, CT9, by decide, (tq q_707 rfl), rfl, fun _ => Or.inr trivial⟩
theorem flX10_87 : FL "PairSymbolsModel" 87 9 33 true := ⟨_, CT9, by decide, (tq q_708 rfl), rfl, fun _ => Or.inr trivial⟩
theorem flX10_90 : FL "PairSymbolsModel" 90 9 34 true := ⟨_, CT9, by decide, (tq q_709 rfl), rfl, fun _ => Or.inr trivial⟩
theorem flX10_93 : FL "PairSymbolsModel" 93 9 36 true := ⟨_, CT9, by decide, (tq q_711 rfl), rfl, fun _ => Or.inr trivial⟩
theorem flX10_96 : FL "PairSymbolsModel" 96 9 37 true := ⟨_, CT9, by decide, (tq q_712 rfl), rfl, fun _ => Or.inr trivial⟩
theorem flX10_99 : FL "PairSymbolsModel" 99 9 38 true := ⟨_, CT9, by decide, (tq q_713 rfl), rfl, fun _ => Or.inr trivial⟩
theorem flX10_102 : FL "PairSymbolsModel" 102 9 39 true := ⟨_, CT9, by decide, (tq q_714 rfl), rfl, fun _ => Or.inr trivial⟩
theorem flX10_105 : FL "PairSymbolsModel" 105 9 40 true := ⟨_, CT9, by decide, (tq q_715 rfl), rfl, fun _ => Or.inr trivial⟩
theorem flX10_108 : FL "PairSymbolsModel" 108 9 41 true := ⟨_, CT9, by decide, (tq q_716 rfl), rfl, fun _ => Or.inr trivial⟩
theorem flX10_111 : FL "PairSymbolsModel" 111 9 42 true := ⟨_, CT9, by decide, (tq q_717 rfl), rfl, fun _ => Or.inr trivial⟩
theorem flX10_114 : FL "PairSymbolsModel" 114 9 43 true := ⟨_, CT9, by decide, (tq q_718 rfl), rfl, fun _ => Or.inr trivial⟩
theorem flX10_117 : FL "PairSymbolsModel" 117 9 44 true := ⟨_, CT9, by decide, (tq q_719 rfl), rfl, fun _ => Or.inr trivial⟩
theorem flX10_125 : FL "PairSymbolsModel" 125 9 3 false := ⟨_, CT9, by decide, (tq q_678 rfl), rfl, fun _ => Or.inr trivial⟩
theorem flX10_133 : FL "PairSymbolsModel" 133 9 5 false := ⟨_, CT9, by decide, (tq q_680 rfl), rfl, fun _ => Or.inr trivial⟩
theorem flX10_137 : FL "PairSymbolsModel" 137 9 6 false := ⟨_, CT9, by decide, (tq q_681 rfl), rfl, fun _ => Or.inr trivial⟩
theorem flX10_156 : FL "PairSymbolsModel" 156 9 8 false := ⟨_, CT9, by decide, (tq q_683 rfl), rfl, fun _ => Or.inr trivial⟩
theorem flX10_162 : FL "PairSymbolsModel" 162 9 13 false := ⟨_, CT9, by decide, (tq q_688 rfl), rfl, fun _ => Or.inr trivial⟩
theorem dX10_zeroes_0 : decode cX10_zeroes 0 = .ok (.iconst 0, 1) := by decide +kernel
theorem dX10_zeroes_1 : decode cX10_zeroes 1 = .ok (.istore_n 1, 1) := by decide +kernel
theorem dX10_zeroes_2 : decode cX10_zeroes 2 = .ok (.iload_n 1, 1) := by decide +kernel
theorem dX10_zeroes_3 : decode cX10_zeroes 3 = .ok (.bipush 16, 2) := by decide +kernel
theorem dX10_zeroes_5 : decode cX10_zeroes 5 = .ok (.if_icmp .ge 31, 3) := by decide +kernel
theorem dX10_zeroes_8 : decode cX10_zeroes 8 = .ok (.aload_n 0, 1) := by decide +kernel
theorem dX10_zeroes_9 : decode cX10_zeroes 9 = .ok (.getfield 7, 3) := by decide +kernel
theorem dX10_zeroes_12 : decode cX10_zeroes 12 = .ok (.iconst 1, 1) := by decide +kernel
theorem dX10_zeroes_13 : decode cX10_zeroes 13 = .ok (.iconst 2, 1) := by decide +kernel
theorem dX10_zeroes_14 : decode cX10_zeroes 14 = .ok (.iload_n 1, 1) := by decide +kernel
theorem dX10_zeroes_15 : decode cX10_zeroes 15 = .ok (.imul, 1) := by decide +kernel
theorem dX10_zeroes_16 : decode cX10_zeroes 16 = .ok (.iadd, 1) := by decide +kernel
theorem dX10_zeroes_17 : decode cX10_zeroes 17 = .ok (.lconst 0, 1) := by decide +kernel
theorem dX10_zeroes_18 : decode cX10_zeroes 18 = .ok (.lastore, 1) := by decide +kernel
theorem dX10_zeroes_19 : decode cX10_zeroes 19 = .ok (.aload_n 0, 1) := by decide +kernel
theorem dX10_zeroes_20 : decode cX10_zeroes 20 = .ok (.getfield 7, 3) := by decide +kernel
theorem dX10_zeroes_23 : decode cX10_zeroes 23 = .ok (.iconst 2, 1) := by decide +kernel
theorem dX10_zeroes_24 : decode cX10_zeroes 24 = .ok (.iconst 2, 1) := by decide +kernel
theorem dX10_zeroes_25 : decode cX10_zeroes 25 = .ok (.iload_n 1, 1) := by decide +kernel
theorem dX10_zeroes_26 : decode cX10_zeroes 26 = .ok (.imul, 1) := by decide +kernel
theorem dX10_zeroes_27 : decode cX10_zeroes 27 = .ok (.iadd, 1) := by decide +kernel
theorem dX10_zeroes_28 : decode cX10_zeroes 28 = .ok (.lconst 1, 1) := by decide +kernel
theorem dX10_zeroes_29 : decode cX10_zeroes 29 = .ok (.lastore, 1) := by decide +kernel
theorem dX10_zeroes_30 : decode cX10_zeroes 30 = .ok (.iinc 1 1, 3) := by decide +kernel
theorem dX10_zeroes_33 : decode cX10_zeroes 33 = .ok (.goto (-31), 3) := by decide +kernel
theorem dX10_zeroes_36 : decode cX10_zeroes 36 = .ok (.return_, 1) := by decide +kernel
theorem kcX10_zeroes : Cond.code yX10_zeroes cX10_zeroes 2 none ∈ tb := tq q_674 rfl
theorem knX10_zeroes : Cond.initialized yX10_zeroes.cls ∈ tb := (tq q_10 rfl)
theorem kdX10_zeroes : yX10_zeroes.cls ≠ "java/lang/invoke/MethodHandle" ∧ yX10_zeroes.cls ≠ "java/lang/invoke/VarHandle" ∧ (parseMethodDescriptor yX10_zeroes.desc).map (fun d => d.parameters.length) = some 0 := ⟨by decide +kernel, by decide +kernel, by decide +kernel⟩
theorem kiX10_zeroes : Cond.instanceMethod yX10_zeroes ∈ tb := (tq q_673 rfl)
theorem ksX10_zeroes : Cond.selects yX10_zeroes.cls yX10_zeroes yX10_zeroes ∈ tb := (tq z_24 rfl)
theorem tgX10_zeroes {x0 : Nat} {h : PH} {r : Unit × PH} (hf : (fX10_zeroes x0).1 h = some r) : ∃ n x, nth h x0 = some (9, n, x) := by
  obtain ⟨_, _, e, _⟩ := pb_some hf
  exact (chk_some e).2
set_option maxHeartbeats 4000000 in
set_option maxRecDepth 100000 in
theorem wX10_zeroes_B2 {p : Program} {l : Launch} {e : Env} {s : State} {m : MethodId} {args : Array Value} {below : List Frame} {meth : Method} {c : Code} {G : GG} {ρ : Nat → Nat} {h0 hE hB : PH} {Q : State → Prop} {x0 : Nat} (C : Cx G "PairSymbolsModel" cX10_zeroes 2 none "zeroes" p s m args meth c) {x1 : Int32} {h : PH} {H : Heap} {locs : List Loc} {cells slots : Nat} {ls : Array Slot} {r : (Int32) ⊕ (Unit)} (hf : (fX10_zeroes_b2 x0 x1).1 h = some (r, hB)) (hX : Ext hB hE) (hW : Wd G ρ h0.length (sl h0) s.heap h H locs cells slots) (hl : lv_has ls 2 [(0, .ref (ρ x0)), (1, .int x1)]) (kc : ∀ y : Int32, r = .inl y → ∀ (H : Heap) (locs : List Loc) (c1 s1 : Nat) (ls : Array Slot), Wd G ρ h0.length (sl h0) s.heap hB H locs c1 s1 → lv_has ls 2 [(0, .ref (ρ x0)), (1, .int y)] → W p l e (RM 0 0 h0 hE) s m args below meth c H locs c1 s1 Q (F0 m 2 ls [])) (ke : ∀ z : Unit, r = .inr z → ∀ (H : Heap) (locs : List Loc) (c1 s1 : Nat) (ls : Array Slot), Wd G ρ h0.length (sl h0) s.heap hB H locs c1 s1 → lv_has ls 2 [] → W p l e (RM 0 0 h0 hE) s m args below meth c H locs c1 s1 Q (F0 m 36 ls [])) : W p l e (RM 0 0 h0 hE) s m args below meth c H locs cells slots Q (F0 m 2 ls []) := by
  have hx := C.1
  have hb := C.2.1
  unfold fX10_zeroes_b2 at hf
  refine lv_iload_n hx hb dX10_zeroes_2 rfl (lv_at hl 1 rfl) ?_
  refine lv_bipush (v := 16) hx hb dX10_zeroes_3 (by decide) ?_
  refine lv_icmp_ge (tgt := 36) hx hb dX10_zeroes_5 (by decide) (fun c1 => ?_) (fun c1 => ?_)
  · rw [if_pos c1] at hf
    obtain ⟨rfl, rfl⟩ := pp_some hf
    exact ke _ rfl _ _ _ _ _ hW (lv_sub hl [] rfl)
  · rw [if_neg c1] at hf
    refine lv_aload_n hx hb dX10_zeroes_8 rfl (lv_at hl 0 rfl) ?_
    obtain ⟨v2, e2, hf⟩ := pb_rd (rd_gA _ _ _) hf
    refine r_gA C hW e2 flX10_7 rfl dX10_zeroes_9 ?_
    refine lv_iconst (v := 1) hx hb dX10_zeroes_12 (by decide) ?_
    refine lv_iconst (v := 2) hx hb dX10_zeroes_13 (by decide) ?_
    refine lv_iload_n hx hb dX10_zeroes_14 rfl (lv_at hl 1 rfl) ?_
    refine lv_imul hx hb dX10_zeroes_15 ?_
    refine lv_iadd hx hb dX10_zeroes_16 ?_
    refine lv_lconst (v := 0) hx hb dX10_zeroes_17 (by decide) ?_
    obtain ⟨_, h3, e3, hf⟩ := pb_some hf
    refine r_last C hW e3 dX10_zeroes_18 (fun H locs hW => ?_)
    refine lv_aload_n hx hb dX10_zeroes_19 rfl (lv_at hl 0 rfl) ?_
    obtain ⟨v4, e4, hf⟩ := pb_rd (rd_gA _ _ _) hf
    refine r_gA C hW e4 flX10_7 rfl dX10_zeroes_20 ?_
    refine lv_iconst (v := 2) hx hb dX10_zeroes_23 (by decide) ?_
    refine lv_iconst (v := 2) hx hb dX10_zeroes_24 (by decide) ?_
    refine lv_iload_n hx hb dX10_zeroes_25 rfl (lv_at hl 1 rfl) ?_
    refine lv_imul hx hb dX10_zeroes_26 ?_
    refine lv_iadd hx hb dX10_zeroes_27 ?_
    refine lv_lconst (v := 1) hx hb dX10_zeroes_28 (by decide) ?_
    obtain ⟨_, h5, e5, hf⟩ := pb_some hf
    refine r_last C hW e5 dX10_zeroes_29 (fun H locs hW => ?_)
    refine lv_iinc (v := (x1 + 1)) (lv' := [(1, .int (x1 + 1)), (0, .ref (ρ x0))]) hx hb dX10_zeroes_30 hl (k := 1) rfl rfl (by decide) rfl (fun ls hl => ?_)
    refine lv_goto (tgt := 2) hx hb dX10_zeroes_33 (by decide) ?_
    obtain ⟨rfl, rfl⟩ := pp_some hf
    exact kc _ rfl _ _ _ _ _ hW (lv_sub hl [1, 0] rfl)
set_option maxHeartbeats 4000000 in
theorem wX10_zeroes_L2 {p : Program} {l : Launch} {e : Env} {s : State} {m : MethodId} {args : Array Value} {below : List Frame} {meth : Method} {c : Code} {G : GG} {ρ : Nat → Nat} {h0 hE hB : PH} {Q : State → Prop} {x0 : Nat} (C : Cx G "PairSymbolsModel" cX10_zeroes 2 none "zeroes" p s m args meth c) {z : (Unit)} (n : Nat) : ∀ (x : Int32) {h : PH} {H : Heap} {locs : List Loc} {cells slots : Nat} {ls : Array Slot}, (plo (fX10_zeroes_B2 x0) n x).1 h = some (z, hB) → Ext hB hE → Wd G ρ h0.length (sl h0) s.heap h H locs cells slots → lv_has ls 2 [(0, .ref (ρ x0)), (1, .int x)] → (ke : ∀ (H : Heap) (locs : List Loc) (c1 s1 : Nat) (ls : Array Slot), Wd G ρ h0.length (sl h0) s.heap hB H locs c1 s1 → lv_has ls 2 [] → W p l e (RM 0 0 h0 hE) s m args below meth c H locs c1 s1 Q (F0 m 36 ls [])) → W p l e (RM 0 0 h0 hE) s m args below meth c H locs cells slots Q (F0 m 2 ls []) := by
  induction n with
  | zero =>
    intro x h H locs cells slots ls hf
    rw [plo_0] at hf
    exact (pf_no hf).elim
  | succ n ih =>
    intro x h H locs cells slots ls hf hX hW hl ke
    rw [plo_s] at hf
    obtain ⟨r, h1, e1, hf⟩ := pb_some hf
    unfold fX10_zeroes_B2 at e1
    rw [frI_eq] at e1
    refine wX10_zeroes_B2 C e1 ((pext hf).tr hX) hW hl (fun y hr H locs c1 s1 ls hW hl => ?_) (fun y hr H locs c1 s1 ls hW hl => ?_)
    · subst hr
      exact ih y hf hX hW hl ke
    · subst hr
      obtain ⟨rfl, rfl⟩ := pp_some hf
      exact ke H locs c1 s1 ls hW hl
set_option maxHeartbeats 4000000 in
set_option maxRecDepth 100000 in
theorem metX10_zeroes (l : Launch) (G : GG) (ρ : Nat → Nat) {z : Nat} {x0 : Nat} {h hE : PH} {v : Unit} (hf : (fX10_zeroes x0).1 h = some (v, hE)) : Met l yX10_zeroes (wsY yX10_zeroes cX10_zeroes 2 none) (RM 0 0 h hE) (va_Pc [.ref (ρ x0)] (PcB G ρ h z)) (QV G ρ hE h.length z) (DC h hE) (DS h hE) (Af ρ h.length z) := by
  refine met_start (by decide) (Nat.le_of_ble_eq_true rfl) ?_
  intro p e s m below meth c ls hz C hW hl
  subst hz
  have C : Cx G "PairSymbolsModel" cX10_zeroes 2 none "zeroes" p s m _ meth c := C
  have hx := C.1
  have hb := C.2.1
  have hX : Ext hE hE := Ext.rf hE
  have hl : lv_has ls 2 [(0, .ref (ρ x0))] := hl
  have hW : Wd G ρ h.length (sl h) s.heap h s.heap [] 0 0 := hW
  unfold fX10_zeroes at hf
  obtain ⟨_, e0, hf⟩ := pb_rd (rd_chk _ _) hf
  refine lv_iconst (v := 0) hx hb dX10_zeroes_0 (by decide) ?_
  refine lv_istore_n (lv' := [(1, .int (0 : Int32)), (0, .ref (ρ x0))]) hx hb dX10_zeroes_1 rfl hl (by decide) rfl (fun ls hl => ?_)
  obtain ⟨z6, h6, e6, hf⟩ := pb_some hf
  refine wX10_zeroes_L2 C fu _ e6 ((pext hf).tr hX) hW (lv_sub hl [1, 0] rfl) (fun H locs c1 s1 ls hW hl => ?_)
  obtain ⟨rfl, rfl⟩ := pp_some hf
  exact r_vret C hW dX10_zeroes_36

theorem dX10_init_0 : decode cX10_init 0 = .ok (.aload_n 0, 1) := by decide +kernel
theorem dX10_init_1 : decode cX10_init 1 = .ok (.invokespecial 1, 3) := by decide +kernel
theorem dX10_init_4 : decode cX10_init 4 = .ok (.aload_n 0, 1) := by decide +kernel
theorem dX10_init_5 : decode cX10_init 5 = .ok (.bipush 33, 2) := by decide +kernel
theorem dX10_init_7 : decode cX10_init 7 = .ok (.newarray .long, 2) := by decide +kernel
theorem dX10_init_9 : decode cX10_init 9 = .ok (.putfield 7, 3) := by decide +kernel
theorem dX10_init_12 : decode cX10_init 12 = .ok (.aload_n 0, 1) := by decide +kernel
theorem dX10_init_13 : decode cX10_init 13 = .ok (.sipush 198, 3) := by decide +kernel
theorem dX10_init_16 : decode cX10_init 16 = .ok (.newarray .long, 2) := by decide +kernel
theorem dX10_init_18 : decode cX10_init 18 = .ok (.putfield 13, 3) := by decide +kernel
theorem dX10_init_21 : decode cX10_init 21 = .ok (.aload_n 0, 1) := by decide +kernel
theorem dX10_init_22 : decode cX10_init 22 = .ok (.bipush 33, 2) := by decide +kernel
theorem dX10_init_24 : decode cX10_init 24 = .ok (.newarray .long, 2) := by decide +kernel
theorem dX10_init_26 : decode cX10_init 26 = .ok (.putfield 16, 3) := by decide +kernel
theorem dX10_init_29 : decode cX10_init 29 = .ok (.aload_n 0, 1) := by decide +kernel
theorem dX10_init_30 : decode cX10_init 30 = .ok (.iconst 3, 1) := by decide +kernel
theorem dX10_init_31 : decode cX10_init 31 = .ok (.newarray .int, 2) := by decide +kernel
theorem dX10_init_33 : decode cX10_init 33 = .ok (.putfield 19, 3) := by decide +kernel
theorem dX10_init_36 : decode cX10_init 36 = .ok (.aload_n 0, 1) := by decide +kernel
theorem dX10_init_37 : decode cX10_init 37 = .ok (.sipush 625, 3) := by decide +kernel
theorem dX10_init_40 : decode cX10_init 40 = .ok (.newarray .int, 2) := by decide +kernel
theorem dX10_init_42 : decode cX10_init 42 = .ok (.putfield 23, 3) := by decide +kernel
theorem dX10_init_45 : decode cX10_init 45 = .ok (.aload_n 0, 1) := by decide +kernel
theorem dX10_init_46 : decode cX10_init 46 = .ok (.bipush 48, 2) := by decide +kernel
theorem dX10_init_48 : decode cX10_init 48 = .ok (.newarray .int, 2) := by decide +kernel
theorem dX10_init_50 : decode cX10_init 50 = .ok (.putfield 26, 3) := by decide +kernel
theorem dX10_init_53 : decode cX10_init 53 = .ok (.aload_n 0, 1) := by decide +kernel
theorem dX10_init_54 : decode cX10_init 54 = .ok (.bipush 48, 2) := by decide +kernel
theorem dX10_init_56 : decode cX10_init 56 = .ok (.newarray .int, 2) := by decide +kernel
theorem dX10_init_58 : decode cX10_init 58 = .ok (.putfield 29, 3) := by decide +kernel
theorem dX10_init_61 : decode cX10_init 61 = .ok (.aload_n 0, 1) := by decide +kernel
theorem dX10_init_62 : decode cX10_init 62 = .ok (.bipush 48, 2) := by decide +kernel
theorem dX10_init_64 : decode cX10_init 64 = .ok (.newarray .int, 2) := by decide +kernel
theorem dX10_init_66 : decode cX10_init 66 = .ok (.putfield 32, 3) := by decide +kernel
theorem dX10_init_69 : decode cX10_init 69 = .ok (.aload_n 0, 1) := by decide +kernel
theorem dX10_init_70 : decode cX10_init 70 = .ok (.bipush 48, 2) := by decide +kernel
theorem dX10_init_72 : decode cX10_init 72 = .ok (.newarray .int, 2) := by decide +kernel
theorem dX10_init_74 : decode cX10_init 74 = .ok (.putfield 35, 3) := by decide +kernel
theorem dX10_init_77 : decode cX10_init 77 = .ok (.aload_n 0, 1) := by decide +kernel
theorem dX10_init_78 : decode cX10_init 78 = .ok (.bipush 16, 2) := by decide +kernel
theorem dX10_init_80 : decode cX10_init 80 = .ok (.newarray .int, 2) := by decide +kernel
theorem dX10_init_82 : decode cX10_init 82 = .ok (.putfield 38, 3) := by decide +kernel
theorem dX10_init_85 : decode cX10_init 85 = .ok (.aload_n 0, 1) := by decide +kernel
theorem dX10_init_86 : decode cX10_init 86 = .ok (.bipush 48, 2) := by decide +kernel
theorem dX10_init_88 : decode cX10_init 88 = .ok (.newarray .boolean, 2) := by decide +kernel
theorem dX10_init_90 : decode cX10_init 90 = .ok (.putfield 41, 3) := by decide +kernel
theorem dX10_init_93 : decode cX10_init 93 = .ok (.aload_n 0, 1) := by decide +kernel
theorem dX10_init_94 : decode cX10_init 94 = .ok (.sipush 2304, 3) := by decide +kernel
theorem dX10_init_97 : decode cX10_init 97 = .ok (.newarray .long, 2) := by decide +kernel
theorem dX10_init_99 : decode cX10_init 99 = .ok (.putfield 45, 3) := by decide +kernel
theorem dX10_init_102 : decode cX10_init 102 = .ok (.aload_n 0, 1) := by decide +kernel
theorem dX10_init_103 : decode cX10_init 103 = .ok (.sipush 2304, 3) := by decide +kernel
theorem dX10_init_106 : decode cX10_init 106 = .ok (.newarray .long, 2) := by decide +kernel
theorem dX10_init_108 : decode cX10_init 108 = .ok (.putfield 48, 3) := by decide +kernel
theorem dX10_init_111 : decode cX10_init 111 = .ok (.aload_n 0, 1) := by decide +kernel
theorem dX10_init_112 : decode cX10_init 112 = .ok (.sipush 768, 3) := by decide +kernel
theorem dX10_init_115 : decode cX10_init 115 = .ok (.newarray .long, 2) := by decide +kernel
theorem dX10_init_117 : decode cX10_init 117 = .ok (.putfield 51, 3) := by decide +kernel
theorem dX10_init_120 : decode cX10_init 120 = .ok (.aload_n 0, 1) := by decide +kernel
theorem dX10_init_121 : decode cX10_init 121 = .ok (.sipush 768, 3) := by decide +kernel
theorem dX10_init_124 : decode cX10_init 124 = .ok (.newarray .long, 2) := by decide +kernel
theorem dX10_init_126 : decode cX10_init 126 = .ok (.putfield 54, 3) := by decide +kernel
theorem dX10_init_129 : decode cX10_init 129 = .ok (.aload_n 0, 1) := by decide +kernel
theorem dX10_init_130 : decode cX10_init 130 = .ok (.bipush 48, 2) := by decide +kernel
theorem dX10_init_132 : decode cX10_init 132 = .ok (.newarray .long, 2) := by decide +kernel
theorem dX10_init_134 : decode cX10_init 134 = .ok (.putfield 57, 3) := by decide +kernel
theorem dX10_init_137 : decode cX10_init 137 = .ok (.aload_n 0, 1) := by decide +kernel
theorem dX10_init_138 : decode cX10_init 138 = .ok (.bipush 48, 2) := by decide +kernel
theorem dX10_init_140 : decode cX10_init 140 = .ok (.newarray .long, 2) := by decide +kernel
theorem dX10_init_142 : decode cX10_init 142 = .ok (.putfield 60, 3) := by decide +kernel
theorem dX10_init_145 : decode cX10_init 145 = .ok (.aload_n 0, 1) := by decide +kernel
theorem dX10_init_146 : decode cX10_init 146 = .ok (.sipush 256, 3) := by decide +kernel
theorem dX10_init_149 : decode cX10_init 149 = .ok (.newarray .long, 2) := by decide +kernel
theorem dX10_init_151 : decode cX10_init 151 = .ok (.putfield 63, 3) := by decide +kernel
theorem dX10_init_154 : decode cX10_init 154 = .ok (.aload_n 0, 1) := by decide +kernel
theorem dX10_init_155 : decode cX10_init 155 = .ok (.sipush 256, 3) := by decide +kernel
theorem dX10_init_158 : decode cX10_init 158 = .ok (.newarray .long, 2) := by decide +kernel
theorem dX10_init_160 : decode cX10_init 160 = .ok (.putfield 66, 3) := by decide +kernel
theorem dX10_init_163 : decode cX10_init 163 = .ok (.aload_n 0, 1) := by decide +kernel
theorem dX10_init_164 : decode cX10_init 164 = .ok (.bipush 16, 2) := by decide +kernel
theorem dX10_init_166 : decode cX10_init 166 = .ok (.newarray .int, 2) := by decide +kernel
theorem dX10_init_168 : decode cX10_init 168 = .ok (.putfield 69, 3) := by decide +kernel
theorem dX10_init_171 : decode cX10_init 171 = .ok (.aload_n 0, 1) := by decide +kernel
theorem dX10_init_172 : decode cX10_init 172 = .ok (.sipush 256, 3) := by decide +kernel
theorem dX10_init_175 : decode cX10_init 175 = .ok (.newarray .long, 2) := by decide +kernel
theorem dX10_init_177 : decode cX10_init 177 = .ok (.putfield 72, 3) := by decide +kernel
theorem dX10_init_180 : decode cX10_init 180 = .ok (.aload_n 0, 1) := by decide +kernel
theorem dX10_init_181 : decode cX10_init 181 = .ok (.sipush 256, 3) := by decide +kernel
theorem dX10_init_184 : decode cX10_init 184 = .ok (.newarray .long, 2) := by decide +kernel
theorem dX10_init_186 : decode cX10_init 186 = .ok (.putfield 75, 3) := by decide +kernel
theorem dX10_init_189 : decode cX10_init 189 = .ok (.aload_n 0, 1) := by decide +kernel
theorem dX10_init_190 : decode cX10_init 190 = .ok (.bipush 16, 2) := by decide +kernel
theorem dX10_init_192 : decode cX10_init 192 = .ok (.newarray .int, 2) := by decide +kernel
theorem dX10_init_194 : decode cX10_init 194 = .ok (.putfield 78, 3) := by decide +kernel
theorem dX10_init_197 : decode cX10_init 197 = .ok (.aload_n 0, 1) := by decide +kernel
theorem dX10_init_198 : decode cX10_init 198 = .ok (.bipush 16, 2) := by decide +kernel
theorem dX10_init_200 : decode cX10_init 200 = .ok (.newarray .long, 2) := by decide +kernel
theorem dX10_init_202 : decode cX10_init 202 = .ok (.putfield 81, 3) := by decide +kernel
theorem dX10_init_205 : decode cX10_init 205 = .ok (.aload_n 0, 1) := by decide +kernel
theorem dX10_init_206 : decode cX10_init 206 = .ok (.bipush 16, 2) := by decide +kernel
theorem dX10_init_208 : decode cX10_init 208 = .ok (.newarray .long, 2) := by decide +kernel
theorem dX10_init_210 : decode cX10_init 210 = .ok (.putfield 84, 3) := by decide +kernel
theorem dX10_init_213 : decode cX10_init 213 = .ok (.aload_n 0, 1) := by decide +kernel
theorem dX10_init_214 : decode cX10_init 214 = .ok (.sipush 256, 3) := by decide +kernel
theorem dX10_init_217 : decode cX10_init 217 = .ok (.newarray .long, 2) := by decide +kernel
theorem dX10_init_219 : decode cX10_init 219 = .ok (.putfield 87, 3) := by decide +kernel
theorem dX10_init_222 : decode cX10_init 222 = .ok (.aload_n 0, 1) := by decide +kernel
theorem dX10_init_223 : decode cX10_init 223 = .ok (.sipush 256, 3) := by decide +kernel
theorem dX10_init_226 : decode cX10_init 226 = .ok (.newarray .long, 2) := by decide +kernel
theorem dX10_init_228 : decode cX10_init 228 = .ok (.putfield 90, 3) := by decide +kernel
theorem dX10_init_231 : decode cX10_init 231 = .ok (.aload_n 0, 1) := by decide +kernel
theorem dX10_init_232 : decode cX10_init 232 = .ok (.sipush 256, 3) := by decide +kernel
theorem dX10_init_235 : decode cX10_init 235 = .ok (.newarray .long, 2) := by decide +kernel
theorem dX10_init_237 : decode cX10_init 237 = .ok (.putfield 93, 3) := by decide +kernel
theorem dX10_init_240 : decode cX10_init 240 = .ok (.aload_n 0, 1) := by decide +kernel
theorem dX10_init_241 : decode cX10_init 241 = .ok (.sipush 256, 3) := by decide +kernel
theorem dX10_init_244 : decode cX10_init 244 = .ok (.newarray .long, 2) := by decide +kernel
theorem dX10_init_246 : decode cX10_init 246 = .ok (.putfield 96, 3) := by decide +kernel
theorem dX10_init_249 : decode cX10_init 249 = .ok (.aload_n 0, 1) := by decide +kernel
theorem dX10_init_250 : decode cX10_init 250 = .ok (.sipush 256, 3) := by decide +kernel
theorem dX10_init_253 : decode cX10_init 253 = .ok (.newarray .long, 2) := by decide +kernel
theorem dX10_init_255 : decode cX10_init 255 = .ok (.putfield 99, 3) := by decide +kernel
theorem dX10_init_258 : decode cX10_init 258 = .ok (.aload_n 0, 1) := by decide +kernel
theorem dX10_init_259 : decode cX10_init 259 = .ok (.sipush 256, 3) := by decide +kernel
theorem dX10_init_262 : decode cX10_init 262 = .ok (.newarray .long, 2) := by decide +kernel
theorem dX10_init_264 : decode cX10_init 264 = .ok (.putfield 102, 3) := by decide +kernel
theorem dX10_init_267 : decode cX10_init 267 = .ok (.aload_n 0, 1) := by decide +kernel
theorem dX10_init_268 : decode cX10_init 268 = .ok (.bipush 17, 2) := by decide +kernel
theorem dX10_init_270 : decode cX10_init 270 = .ok (.newarray .long, 2) := by decide +kernel
theorem dX10_init_272 : decode cX10_init 272 = .ok (.putfield 105, 3) := by decide +kernel
theorem dX10_init_275 : decode cX10_init 275 = .ok (.aload_n 0, 1) := by decide +kernel
theorem dX10_init_276 : decode cX10_init 276 = .ok (.bipush 61, 2) := by decide +kernel
theorem dX10_init_278 : decode cX10_init 278 = .ok (.newarray .int, 2) := by decide +kernel
theorem dX10_init_280 : decode cX10_init 280 = .ok (.putfield 108, 3) := by decide +kernel
theorem dX10_init_283 : decode cX10_init 283 = .ok (.aload_n 0, 1) := by decide +kernel
theorem dX10_init_284 : decode cX10_init 284 = .ok (.bipush 16, 2) := by decide +kernel
theorem dX10_init_286 : decode cX10_init 286 = .ok (.newarray .long, 2) := by decide +kernel
theorem dX10_init_288 : decode cX10_init 288 = .ok (.putfield 111, 3) := by decide +kernel
theorem dX10_init_291 : decode cX10_init 291 = .ok (.aload_n 0, 1) := by decide +kernel
theorem dX10_init_292 : decode cX10_init 292 = .ok (.bipush 16, 2) := by decide +kernel
theorem dX10_init_294 : decode cX10_init 294 = .ok (.newarray .long, 2) := by decide +kernel
theorem dX10_init_296 : decode cX10_init 296 = .ok (.putfield 114, 3) := by decide +kernel
theorem dX10_init_299 : decode cX10_init 299 = .ok (.aload_n 0, 1) := by decide +kernel
theorem dX10_init_300 : decode cX10_init 300 = .ok (.bipush 120, 2) := by decide +kernel
theorem dX10_init_302 : decode cX10_init 302 = .ok (.newarray .int, 2) := by decide +kernel
theorem dX10_init_304 : decode cX10_init 304 = .ok (.putfield 117, 3) := by decide +kernel
theorem dX10_init_307 : decode cX10_init 307 = .ok (.aload_n 0, 1) := by decide +kernel
theorem dX10_init_308 : decode cX10_init 308 = .ok (.getfield 7, 3) := by decide +kernel
theorem dX10_init_311 : decode cX10_init 311 = .ok (.iconst 0, 1) := by decide +kernel
theorem dX10_init_312 : decode cX10_init 312 = .ok (.ldc2_w 120, 3) := by decide +kernel
theorem dX10_init_315 : decode cX10_init 315 = .ok (.lastore, 1) := by decide +kernel
theorem dX10_init_316 : decode cX10_init 316 = .ok (.aload_n 0, 1) := by decide +kernel
theorem dX10_init_317 : decode cX10_init 317 = .ok (.invokevirtual 122, 3) := by decide +kernel
theorem dX10_init_320 : decode cX10_init 320 = .ok (.return_, 1) := by decide +kernel
theorem kcX10_init : Cond.code yX10_init cX10_init 1 none ∈ tb := tq q_668 rfl
theorem knX10_init : Cond.initialized yX10_init.cls ∈ tb := (tq q_10 rfl)
theorem kdX10_init : yX10_init.cls ≠ "java/lang/invoke/MethodHandle" ∧ yX10_init.cls ≠ "java/lang/invoke/VarHandle" ∧ (parseMethodDescriptor yX10_init.desc).map (fun d => d.parameters.length) = some 0 := ⟨by decide +kernel, by decide +kernel, by decide +kernel⟩
theorem kiX10_init : Cond.instanceMethod yX10_init ∈ tb := (tq q_667 rfl)
theorem tgX10_init {x0 : Nat} {h : PH} {r : Unit × PH} (hf : (fX10_init x0).1 h = some r) : ∃ n x, nth h x0 = some (9, n, x) := by
  obtain ⟨_, _, e, _⟩ := pb_some hf
  exact (chk_some e).2
set_option maxHeartbeats 4000000 in
set_option maxRecDepth 100000 in
theorem metX10_init (l : Launch) (G : GG) (ρ : Nat → Nat) {z : Nat} {x0 : Nat} {h hE : PH} {v : Unit} (hf : (fX10_init x0).1 h = some (v, hE)) : Met l yX10_init (wsY yX10_init cX10_init 1 none) (RM 1 21 h hE) (va_Pc [.ref (ρ x0)] (PcB G ρ h z)) (QV G ρ hE h.length z) (DC h hE) (DS h hE) (Af ρ h.length z) := by
  refine met_start (by decide) (Nat.le_of_ble_eq_true rfl) ?_
  intro p e s m below meth c ls hz C hW hl
  subst hz
  have C : Cx G "PairSymbolsModel" cX10_init 1 none "<init>" p s m _ meth c := C
  have hx := C.1
  have hb := C.2.1
  have hX : Ext hE hE := Ext.rf hE
  have hl : lv_has ls 1 [(0, .ref (ρ x0))] := hl
  have hW : Wd G ρ h.length (sl h) s.heap h s.heap [] 0 0 := hW
  unfold fX10_init at hf
  obtain ⟨_, e0, hf⟩ := pb_rd (rd_chk _ _) hf
  refine lv_aload_n hx hb dX10_init_0 rfl (lv_at hl 0 rfl) ?_
  refine r_obj C (tq q_669 rfl) hl.1 (Nat.le_of_ble_eq_true rfl) (Nat.le_of_ble_eq_true rfl) (Nat.le_of_ble_eq_true rfl) (tq q_21 rfl) (tq q_22 rfl) dX10_init_1 ?_
  refine lv_aload_n hx hb dX10_init_4 rfl (lv_at hl 0 rfl) ?_
  refine lv_bipush (v := 33) hx hb dX10_init_5 (by decide) ?_
  obtain ⟨v1, h1, e1, hf⟩ := pb_some hf
  refine r_newa (t0 := 2) C hW .long e1 (by decide) rfl rfl (fun _ => rfl) (by decide) (fun q => q) (tq q_220 rfl) (room_of hW (pext e1) ((pext hf).tr hX)) dX10_init_7 (fun H c1 s1 hW => ?_)
  obtain ⟨_, h2, e2, hf⟩ := pb_some hf
  refine r_sA C hW e2 flX10_7 (Or.inr ⟨rfl, _, rfl, rfl⟩) rfl dX10_init_9 (fun H locs hW => ?_)
  refine lv_aload_n hx hb dX10_init_12 rfl (lv_at hl 0 rfl) ?_
  refine lv_sipush (v := 198) hx hb dX10_init_13 (by decide) ?_
  obtain ⟨v3, h3, e3, hf⟩ := pb_some hf
  refine r_newa (t0 := 2) C hW .long e3 (by decide) rfl rfl (fun _ => rfl) (by decide) (fun q => q) (tq q_220 rfl) (room_of hW (pext e3) ((pext hf).tr hX)) dX10_init_16 (fun H c1 s1 hW => ?_)
  obtain ⟨_, h4, e4, hf⟩ := pb_some hf
  refine r_sA C hW e4 flX10_13 (Or.inr ⟨rfl, _, rfl, rfl⟩) rfl dX10_init_18 (fun H locs hW => ?_)
  refine lv_aload_n hx hb dX10_init_21 rfl (lv_at hl 0 rfl) ?_
  refine lv_bipush (v := 33) hx hb dX10_init_22 (by decide) ?_
  obtain ⟨v5, h5, e5, hf⟩ := pb_some hf
  refine r_newa (t0 := 2) C hW .long e5 (by decide) rfl rfl (fun _ => rfl) (by decide) (fun q => q) (tq q_220 rfl) (room_of hW (pext e5) ((pext hf).tr hX)) dX10_init_24 (fun H c1 s1 hW => ?_)
  obtain ⟨_, h6, e6, hf⟩ := pb_some hf
  refine r_sA C hW e6 flX10_16 (Or.inr ⟨rfl, _, rfl, rfl⟩) rfl dX10_init_26 (fun H locs hW => ?_)
  refine lv_aload_n hx hb dX10_init_29 rfl (lv_at hl 0 rfl) ?_
  refine lv_iconst (v := 3) hx hb dX10_init_30 (by decide) ?_
  obtain ⟨v7, h7, e7, hf⟩ := pb_some hf
  refine r_newa (t0 := 1) C hW .int e7 (by decide) rfl rfl (fun _ => rfl) (by decide) (fun q => q) (tq q_80 rfl) (room_of hW (pext e7) ((pext hf).tr hX)) dX10_init_31 (fun H c1 s1 hW => ?_)
  obtain ⟨_, h8, e8, hf⟩ := pb_some hf
  refine r_sA C hW e8 flX10_19 (Or.inr ⟨rfl, _, rfl, rfl⟩) rfl dX10_init_33 (fun H locs hW => ?_)
  refine lv_aload_n hx hb dX10_init_36 rfl (lv_at hl 0 rfl) ?_
  refine lv_sipush (v := 625) hx hb dX10_init_37 (by decide) ?_
  obtain ⟨v9, h9, e9, hf⟩ := pb_some hf
  refine r_newa (t0 := 1) C hW .int e9 (by decide) rfl rfl (fun _ => rfl) (by decide) (fun q => q) (tq q_80 rfl) (room_of hW (pext e9) ((pext hf).tr hX)) dX10_init_40 (fun H c1 s1 hW => ?_)
  obtain ⟨_, h10, e10, hf⟩ := pb_some hf
  refine r_sA C hW e10 flX10_23 (Or.inr ⟨rfl, _, rfl, rfl⟩) rfl dX10_init_42 (fun H locs hW => ?_)
  refine lv_aload_n hx hb dX10_init_45 rfl (lv_at hl 0 rfl) ?_
  refine lv_bipush (v := 48) hx hb dX10_init_46 (by decide) ?_
  obtain ⟨v11, h11, e11, hf⟩ := pb_some hf
  refine r_newa (t0 := 1) C hW .int e11 (by decide) rfl rfl (fun _ => rfl) (by decide) (fun q => q) (tq q_80 rfl) (room_of hW (pext e11) ((pext hf).tr hX)) dX10_init_48 (fun H c1 s1 hW => ?_)
  obtain ⟨_, h12, e12, hf⟩ := pb_some hf
  refine r_sA C hW e12 flX10_26 (Or.inr ⟨rfl, _, rfl, rfl⟩) rfl dX10_init_50 (fun H locs hW => ?_)
  refine lv_aload_n hx hb dX10_init_53 rfl (lv_at hl 0 rfl) ?_
  refine lv_bipush (v := 48) hx hb dX10_init_54 (by decide) ?_
  obtain ⟨v13, h13, e13, hf⟩ := pb_some hf
  refine r_newa (t0 := 1) C hW .int e13 (by decide) rfl rfl (fun _ => rfl) (by decide) (fun q => q) (tq q_80 rfl) (room_of hW (pext e13) ((pext hf).tr hX)) dX10_init_56 (fun H c1 s1 hW => ?_)
  obtain ⟨_, h14, e14, hf⟩ := pb_some hf
  refine r_sA C hW e14 flX10_29 (Or.inr ⟨rfl, _, rfl, rfl⟩) rfl dX10_init_58 (fun H locs hW => ?_)
  refine lv_aload_n hx hb dX10_init_61 rfl (lv_at hl 0 rfl) ?_
  refine lv_bipush (v := 48) hx hb dX10_init_62 (by decide) ?_
  obtain ⟨v15, h15, e15, hf⟩ := pb_some hf
  refine r_newa (t0 := 1) C hW .int e15 (by decide) rfl rfl (fun _ => rfl) (by decide) (fun q => q) (tq q_80 rfl) (room_of hW (pext e15) ((pext hf).tr hX)) dX10_init_64 (fun H c1 s1 hW => ?_)
  obtain ⟨_, h16, e16, hf⟩ := pb_some hf
  refine r_sA C hW e16 flX10_32 (Or.inr ⟨rfl, _, rfl, rfl⟩) rfl dX10_init_66 (fun H locs hW => ?_)
  refine lv_aload_n hx hb dX10_init_69 rfl (lv_at hl 0 rfl) ?_
  refine lv_bipush (v := 48) hx hb dX10_init_70 (by decide) ?_
  obtain ⟨v17, h17, e17, hf⟩ := pb_some hf
  refine r_newa (t0 := 1) C hW .int e17 (by decide) rfl rfl (fun _ => rfl) (by decide) (fun q => q) (tq q_80 rfl) (room_of hW (pext e17) ((pext hf).tr hX)) dX10_init_72 (fun H c1 s1 hW => ?_)
  obtain ⟨_, h18, e18, hf⟩ := pb_some hf
  refine r_sA C hW e18 flX10_35 (Or.inr ⟨rfl, _, rfl, rfl⟩) rfl dX10_init_74 (fun H locs hW => ?_)
  refine lv_aload_n hx hb dX10_init_77 rfl (lv_at hl 0 rfl) ?_
  refine lv_bipush (v := 16) hx hb dX10_init_78 (by decide) ?_
  obtain ⟨v19, h19, e19, hf⟩ := pb_some hf
  refine r_newa (t0 := 1) C hW .int e19 (by decide) rfl rfl (fun _ => rfl) (by decide) (fun q => q) (tq q_80 rfl) (room_of hW (pext e19) ((pext hf).tr hX)) dX10_init_80 (fun H c1 s1 hW => ?_)
  obtain ⟨_, h20, e20, hf⟩ := pb_some hf
  refine r_sA C hW e20 flX10_38 (Or.inr ⟨rfl, _, rfl, rfl⟩) rfl dX10_init_82 (fun H locs hW => ?_)
  refine lv_aload_n hx hb dX10_init_85 rfl (lv_at hl 0 rfl) ?_
  refine lv_bipush (v := 48) hx hb dX10_init_86 (by decide) ?_
  obtain ⟨v21, h21, e21, hf⟩ := pb_some hf
  refine r_newa (t0 := 3) C hW .boolean e21 (by decide) rfl rfl (fun _ => rfl) (by decide) (fun q => q) (tq q_81 rfl) (room_of hW (pext e21) ((pext hf).tr hX)) dX10_init_88 (fun H c1 s1 hW => ?_)
  obtain ⟨_, h22, e22, hf⟩ := pb_some hf
  refine r_sA C hW e22 flX10_41 (Or.inr ⟨rfl, _, rfl, rfl⟩) rfl dX10_init_90 (fun H locs hW => ?_)
  refine lv_aload_n hx hb dX10_init_93 rfl (lv_at hl 0 rfl) ?_
  refine lv_sipush (v := 2304) hx hb dX10_init_94 (by decide) ?_
  obtain ⟨v23, h23, e23, hf⟩ := pb_some hf
  refine r_newa (t0 := 2) C hW .long e23 (by decide) rfl rfl (fun _ => rfl) (by decide) (fun q => q) (tq q_220 rfl) (room_of hW (pext e23) ((pext hf).tr hX)) dX10_init_97 (fun H c1 s1 hW => ?_)
  obtain ⟨_, h24, e24, hf⟩ := pb_some hf
  refine r_sA C hW e24 flX10_45 (Or.inr ⟨rfl, _, rfl, rfl⟩) rfl dX10_init_99 (fun H locs hW => ?_)
  refine lv_aload_n hx hb dX10_init_102 rfl (lv_at hl 0 rfl) ?_
  refine lv_sipush (v := 2304) hx hb dX10_init_103 (by decide) ?_
  obtain ⟨v25, h25, e25, hf⟩ := pb_some hf
  refine r_newa (t0 := 2) C hW .long e25 (by decide) rfl rfl (fun _ => rfl) (by decide) (fun q => q) (tq q_220 rfl) (room_of hW (pext e25) ((pext hf).tr hX)) dX10_init_106 (fun H c1 s1 hW => ?_)
  obtain ⟨_, h26, e26, hf⟩ := pb_some hf
  refine r_sA C hW e26 flX10_48 (Or.inr ⟨rfl, _, rfl, rfl⟩) rfl dX10_init_108 (fun H locs hW => ?_)
  refine lv_aload_n hx hb dX10_init_111 rfl (lv_at hl 0 rfl) ?_
  refine lv_sipush (v := 768) hx hb dX10_init_112 (by decide) ?_
  obtain ⟨v27, h27, e27, hf⟩ := pb_some hf
  refine r_newa (t0 := 2) C hW .long e27 (by decide) rfl rfl (fun _ => rfl) (by decide) (fun q => q) (tq q_220 rfl) (room_of hW (pext e27) ((pext hf).tr hX)) dX10_init_115 (fun H c1 s1 hW => ?_)
  obtain ⟨_, h28, e28, hf⟩ := pb_some hf
  refine r_sA C hW e28 flX10_51 (Or.inr ⟨rfl, _, rfl, rfl⟩) rfl dX10_init_117 (fun H locs hW => ?_)
  refine lv_aload_n hx hb dX10_init_120 rfl (lv_at hl 0 rfl) ?_
  refine lv_sipush (v := 768) hx hb dX10_init_121 (by decide) ?_
  obtain ⟨v29, h29, e29, hf⟩ := pb_some hf
  refine r_newa (t0 := 2) C hW .long e29 (by decide) rfl rfl (fun _ => rfl) (by decide) (fun q => q) (tq q_220 rfl) (room_of hW (pext e29) ((pext hf).tr hX)) dX10_init_124 (fun H c1 s1 hW => ?_)
  obtain ⟨_, h30, e30, hf⟩ := pb_some hf
  refine r_sA C hW e30 flX10_54 (Or.inr ⟨rfl, _, rfl, rfl⟩) rfl dX10_init_126 (fun H locs hW => ?_)
  refine lv_aload_n hx hb dX10_init_129 rfl (lv_at hl 0 rfl) ?_
  refine lv_bipush (v := 48) hx hb dX10_init_130 (by decide) ?_
  obtain ⟨v31, h31, e31, hf⟩ := pb_some hf
  refine r_newa (t0 := 2) C hW .long e31 (by decide) rfl rfl (fun _ => rfl) (by decide) (fun q => q) (tq q_220 rfl) (room_of hW (pext e31) ((pext hf).tr hX)) dX10_init_132 (fun H c1 s1 hW => ?_)
  obtain ⟨_, h32, e32, hf⟩ := pb_some hf
  refine r_sA C hW e32 flX10_57 (Or.inr ⟨rfl, _, rfl, rfl⟩) rfl dX10_init_134 (fun H locs hW => ?_)
  refine lv_aload_n hx hb dX10_init_137 rfl (lv_at hl 0 rfl) ?_
  refine lv_bipush (v := 48) hx hb dX10_init_138 (by decide) ?_
  obtain ⟨v33, h33, e33, hf⟩ := pb_some hf
  refine r_newa (t0 := 2) C hW .long e33 (by decide) rfl rfl (fun _ => rfl) (by decide) (fun q => q) (tq q_220 rfl) (room_of hW (pext e33) ((pext hf).tr hX)) dX10_init_140 (fun H c1 s1 hW => ?_)
  obtain ⟨_, h34, e34, hf⟩ := pb_some hf
  refine r_sA C hW e34 flX10_60 (Or.inr ⟨rfl, _, rfl, rfl⟩) rfl dX10_init_142 (fun H locs hW => ?_)
  refine lv_aload_n hx hb dX10_init_145 rfl (lv_at hl 0 rfl) ?_
  refine lv_sipush (v := 256) hx hb dX10_init_146 (by decide) ?_
  obtain ⟨v35, h35, e35, hf⟩ := pb_some hf
  refine r_newa (t0 := 2) C hW .long e35 (by decide) rfl rfl (fun _ => rfl) (by decide) (fun q => q) (tq q_220 rfl) (room_of hW (pext e35) ((pext hf).tr hX)) dX10_init_149 (fun H c1 s1 hW => ?_)
  obtain ⟨_, h36, e36, hf⟩ := pb_some hf
  refine r_sA C hW e36 flX10_63 (Or.inr ⟨rfl, _, rfl, rfl⟩) rfl dX10_init_151 (fun H locs hW => ?_)
  refine lv_aload_n hx hb dX10_init_154 rfl (lv_at hl 0 rfl) ?_
  refine lv_sipush (v := 256) hx hb dX10_init_155 (by decide) ?_
  obtain ⟨v37, h37, e37, hf⟩ := pb_some hf
  refine r_newa (t0 := 2) C hW .long e37 (by decide) rfl rfl (fun _ => rfl) (by decide) (fun q => q) (tq q_220 rfl) (room_of hW (pext e37) ((pext hf).tr hX)) dX10_init_158 (fun H c1 s1 hW => ?_)
  obtain ⟨_, h38, e38, hf⟩ := pb_some hf
  refine r_sA C hW e38 flX10_66 (Or.inr ⟨rfl, _, rfl, rfl⟩) rfl dX10_init_160 (fun H locs hW => ?_)
  refine lv_aload_n hx hb dX10_init_163 rfl (lv_at hl 0 rfl) ?_
  refine lv_bipush (v := 16) hx hb dX10_init_164 (by decide) ?_
  obtain ⟨v39, h39, e39, hf⟩ := pb_some hf
  refine r_newa (t0 := 1) C hW .int e39 (by decide) rfl rfl (fun _ => rfl) (by decide) (fun q => q) (tq q_80 rfl) (room_of hW (pext e39) ((pext hf).tr hX)) dX10_init_166 (fun H c1 s1 hW => ?_)
  obtain ⟨_, h40, e40, hf⟩ := pb_some hf
  refine r_sA C hW e40 flX10_69 (Or.inr ⟨rfl, _, rfl, rfl⟩) rfl dX10_init_168 (fun H locs hW => ?_)
  refine lv_aload_n hx hb dX10_init_171 rfl (lv_at hl 0 rfl) ?_
  refine lv_sipush (v := 256) hx hb dX10_init_172 (by decide) ?_
  obtain ⟨v41, h41, e41, hf⟩ := pb_some hf
  refine r_newa (t0 := 2) C hW .long e41 (by decide) rfl rfl (fun _ => rfl) (by decide) (fun q => q) (tq q_220 rfl) (room_of hW (pext e41) ((pext hf).tr hX)) dX10_init_175 (fun H c1 s1 hW => ?_)
  obtain ⟨_, h42, e42, hf⟩ := pb_some hf
  refine r_sA C hW e42 flX10_72 (Or.inr ⟨rfl, _, rfl, rfl⟩) rfl dX10_init_177 (fun H locs hW => ?_)
  refine lv_aload_n hx hb dX10_init_180 rfl (lv_at hl 0 rfl) ?_
  refine lv_sipush (v := 256) hx hb dX10_init_181 (by decide) ?_
  obtain ⟨v43, h43, e43, hf⟩ := pb_some hf
  refine r_newa (t0 := 2) C hW .long e43 (by decide) rfl rfl (fun _ => rfl) (by decide) (fun q => q) (tq q_220 rfl) (room_of hW (pext e43) ((pext hf).tr hX)) dX10_init_184 (fun H c1 s1 hW => ?_)
  obtain ⟨_, h44, e44, hf⟩ := pb_some hf
  refine r_sA C hW e44 flX10_75 (Or.inr ⟨rfl, _, rfl, rfl⟩) rfl dX10_init_186 (fun H locs hW => ?_)
  refine lv_aload_n hx hb dX10_init_189 rfl (lv_at hl 0 rfl) ?_
  refine lv_bipush (v := 16) hx hb dX10_init_190 (by decide) ?_
  obtain ⟨v45, h45, e45, hf⟩ := pb_some hf
  refine r_newa (t0 := 1) C hW .int e45 (by decide) rfl rfl (fun _ => rfl) (by decide) (fun q => q) (tq q_80 rfl) (room_of hW (pext e45) ((pext hf).tr hX)) dX10_init_192 (fun H c1 s1 hW => ?_)
  obtain ⟨_, h46, e46, hf⟩ := pb_some hf
  refine r_sA C hW e46 flX10_78 (Or.inr ⟨rfl, _, rfl, rfl⟩) rfl dX10_init_194 (fun H locs hW => ?_)
  refine lv_aload_n hx hb dX10_init_197 rfl (lv_at hl 0 rfl) ?_
  refine lv_bipush (v := 16) hx hb dX10_init_198 (by decide) ?_
  obtain ⟨v47, h47, e47, hf⟩ := pb_some hf
  refine r_newa (t0 := 2) C hW .long e47 (by decide) rfl rfl (fun _ => rfl) (by decide) (fun q => q) (tq q_220 rfl) (room_of hW (pext e47) ((pext hf).tr hX)) dX10_init_200 (fun H c1 s1 hW => ?_)
  obtain ⟨_, h48, e48, hf⟩ := pb_some hf
  refine r_sA C hW e48 flX10_81 (Or.inr ⟨rfl, _, rfl, rfl⟩) rfl dX10_init_202 (fun H locs hW => ?_)
  refine lv_aload_n hx hb dX10_init_205 rfl (lv_at hl 0 rfl) ?_
  refine lv_bipush (v := 16) hx hb dX10_init_206 (by decide) ?_
  obtain ⟨v49, h49, e49, hf⟩ := pb_some hf
  refine r_newa (t0 := 2) C hW .long e49 (by decide) rfl rfl (fun _ => rfl) (by decide) (fun q => q) (tq q_220 rfl) (room_of hW (pext e49) ((pext hf).tr hX)) dX10_init_208 (fun H c1 s1 hW => ?_)
  obtain ⟨_, h50, e50, hf⟩ := pb_some hf
  refine r_sA C hW e50 flX10_84 (Or.inr ⟨rfl, _, rfl, rfl⟩) rfl dX10_init_210 (fun H locs hW => ?_)
  refine lv_aload_n hx hb dX10_init_213 rfl (lv_at hl 0 rfl) ?_
  refine lv_sipush (v := 256) hx hb dX10_init_214 (by decide) ?_
  obtain ⟨v51, h51, e51, hf⟩ := pb_some hf
  refine r_newa (t0 := 2) C hW .long e51 (by decide) rfl rfl (fun _ => rfl) (by decide) (fun q => q) (tq q_220 rfl) (room_of hW (pext e51) ((pext hf).tr hX)) dX10_init_217 (fun H c1 s1 hW => ?_)
  obtain ⟨_, h52, e52, hf⟩ := pb_some hf
  refine r_sA C hW e52 flX10_87 (Or.inr ⟨rfl, _, rfl, rfl⟩) rfl dX10_init_219 (fun H locs hW => ?_)
  refine lv_aload_n hx hb dX10_init_222 rfl (lv_at hl 0 rfl) ?_
  refine lv_sipush (v := 256) hx hb dX10_init_223 (by decide) ?_
  obtain ⟨v53, h53, e53, hf⟩ := pb_some hf
  refine r_newa (t0 := 2) C hW .long e53 (by decide) rfl rfl (fun _ => rfl) (by decide) (fun q => q) (tq q_220 rfl) (room_of hW (pext e53) ((pext hf).tr hX)) dX10_init_226 (fun H c1 s1 hW => ?_)
  obtain ⟨_, h54, e54, hf⟩ := pb_some hf
  refine r_sA C hW e54 flX10_90 (Or.inr ⟨rfl, _, rfl, rfl⟩) rfl dX10_init_228 (fun H locs hW => ?_)
  refine lv_aload_n hx hb dX10_init_231 rfl (lv_at hl 0 rfl) ?_
  refine lv_sipush (v := 256) hx hb dX10_init_232 (by decide) ?_
  obtain ⟨v55, h55, e55, hf⟩ := pb_some hf
  refine r_newa (t0 := 2) C hW .long e55 (by decide) rfl rfl (fun _ => rfl) (by decide) (fun q => q) (tq q_220 rfl) (room_of hW (pext e55) ((pext hf).tr hX)) dX10_init_235 (fun H c1 s1 hW => ?_)
  obtain ⟨_, h56, e56, hf⟩ := pb_some hf
  refine r_sA C hW e56 flX10_93 (Or.inr ⟨rfl, _, rfl, rfl⟩) rfl dX10_init_237 (fun H locs hW => ?_)
  refine lv_aload_n hx hb dX10_init_240 rfl (lv_at hl 0 rfl) ?_
  refine lv_sipush (v := 256) hx hb dX10_init_241 (by decide) ?_
  obtain ⟨v57, h57, e57, hf⟩ := pb_some hf
  refine r_newa (t0 := 2) C hW .long e57 (by decide) rfl rfl (fun _ => rfl) (by decide) (fun q => q) (tq q_220 rfl) (room_of hW (pext e57) ((pext hf).tr hX)) dX10_init_244 (fun H c1 s1 hW => ?_)
  obtain ⟨_, h58, e58, hf⟩ := pb_some hf
  refine r_sA C hW e58 flX10_96 (Or.inr ⟨rfl, _, rfl, rfl⟩) rfl dX10_init_246 (fun H locs hW => ?_)
  refine lv_aload_n hx hb dX10_init_249 rfl (lv_at hl 0 rfl) ?_
  refine lv_sipush (v := 256) hx hb dX10_init_250 (by decide) ?_
  obtain ⟨v59, h59, e59, hf⟩ := pb_some hf
  refine r_newa (t0 := 2) C hW .long e59 (by decide) rfl rfl (fun _ => rfl) (by decide) (fun q => q) (tq q_220 rfl) (room_of hW (pext e59) ((pext hf).tr hX)) dX10_init_253 (fun H c1 s1 hW => ?_)
  obtain ⟨_, h60, e60, hf⟩ := pb_some hf
  refine r_sA C hW e60 flX10_99 (Or.inr ⟨rfl, _, rfl, rfl⟩) rfl dX10_init_255 (fun H locs hW => ?_)
  refine lv_aload_n hx hb dX10_init_258 rfl (lv_at hl 0 rfl) ?_
  refine lv_sipush (v := 256) hx hb dX10_init_259 (by decide) ?_
  obtain ⟨v61, h61, e61, hf⟩ := pb_some hf
  refine r_newa (t0 := 2) C hW .long e61 (by decide) rfl rfl (fun _ => rfl) (by decide) (fun q => q) (tq q_220 rfl) (room_of hW (pext e61) ((pext hf).tr hX)) dX10_init_262 (fun H c1 s1 hW => ?_)
  obtain ⟨_, h62, e62, hf⟩ := pb_some hf
  refine r_sA C hW e62 flX10_102 (Or.inr ⟨rfl, _, rfl, rfl⟩) rfl dX10_init_264 (fun H locs hW => ?_)
  refine lv_aload_n hx hb dX10_init_267 rfl (lv_at hl 0 rfl) ?_
  refine lv_bipush (v := 17) hx hb dX10_init_268 (by decide) ?_
  obtain ⟨v63, h63, e63, hf⟩ := pb_some hf
  refine r_newa (t0 := 2) C hW .long e63 (by decide) rfl rfl (fun _ => rfl) (by decide) (fun q => q) (tq q_220 rfl) (room_of hW (pext e63) ((pext hf).tr hX)) dX10_init_270 (fun H c1 s1 hW => ?_)
  obtain ⟨_, h64, e64, hf⟩ := pb_some hf
  refine r_sA C hW e64 flX10_105 (Or.inr ⟨rfl, _, rfl, rfl⟩) rfl dX10_init_272 (fun H locs hW => ?_)
  refine lv_aload_n hx hb dX10_init_275 rfl (lv_at hl 0 rfl) ?_
  refine lv_bipush (v := 61) hx hb dX10_init_276 (by decide) ?_
  obtain ⟨v65, h65, e65, hf⟩ := pb_some hf
  refine r_newa (t0 := 1) C hW .int e65 (by decide) rfl rfl (fun _ => rfl) (by decide) (fun q => q) (tq q_80 rfl) (room_of hW (pext e65) ((pext hf).tr hX)) dX10_init_278 (fun H c1 s1 hW => ?_)
  obtain ⟨_, h66, e66, hf⟩ := pb_some hf
  refine r_sA C hW e66 flX10_108 (Or.inr ⟨rfl, _, rfl, rfl⟩) rfl dX10_init_280 (fun H locs hW => ?_)
  refine lv_aload_n hx hb dX10_init_283 rfl (lv_at hl 0 rfl) ?_
  refine lv_bipush (v := 16) hx hb dX10_init_284 (by decide) ?_
  obtain ⟨v67, h67, e67, hf⟩ := pb_some hf
  refine r_newa (t0 := 2) C hW .long e67 (by decide) rfl rfl (fun _ => rfl) (by decide) (fun q => q) (tq q_220 rfl) (room_of hW (pext e67) ((pext hf).tr hX)) dX10_init_286 (fun H c1 s1 hW => ?_)
  obtain ⟨_, h68, e68, hf⟩ := pb_some hf
  refine r_sA C hW e68 flX10_111 (Or.inr ⟨rfl, _, rfl, rfl⟩) rfl dX10_init_288 (fun H locs hW => ?_)
  refine lv_aload_n hx hb dX10_init_291 rfl (lv_at hl 0 rfl) ?_
  refine lv_bipush (v := 16) hx hb dX10_init_292 (by decide) ?_
  obtain ⟨v69, h69, e69, hf⟩ := pb_some hf
  refine r_newa (t0 := 2) C hW .long e69 (by decide) rfl rfl (fun _ => rfl) (by decide) (fun q => q) (tq q_220 rfl) (room_of hW (pext e69) ((pext hf).tr hX)) dX10_init_294 (fun H c1 s1 hW => ?_)
  obtain ⟨_, h70, e70, hf⟩ := pb_some hf
  refine r_sA C hW e70 flX10_114 (Or.inr ⟨rfl, _, rfl, rfl⟩) rfl dX10_init_296 (fun H locs hW => ?_)
  refine lv_aload_n hx hb dX10_init_299 rfl (lv_at hl 0 rfl) ?_
  refine lv_bipush (v := 120) hx hb dX10_init_300 (by decide) ?_
  obtain ⟨v71, h71, e71, hf⟩ := pb_some hf
  refine r_newa (t0 := 1) C hW .int e71 (by decide) rfl rfl (fun _ => rfl) (by decide) (fun q => q) (tq q_80 rfl) (room_of hW (pext e71) ((pext hf).tr hX)) dX10_init_302 (fun H c1 s1 hW => ?_)
  obtain ⟨_, h72, e72, hf⟩ := pb_some hf
  refine r_sA C hW e72 flX10_117 (Or.inr ⟨rfl, _, rfl, rfl⟩) rfl dX10_init_304 (fun H locs hW => ?_)
  refine lv_aload_n hx hb dX10_init_307 rfl (lv_at hl 0 rfl) ?_
  obtain ⟨v73, e73, hf⟩ := pb_rd (rd_gA _ _ _) hf
  refine r_gA C hW e73 flX10_7 rfl dX10_init_308 ?_
  refine lv_iconst (v := 0) hx hb dX10_init_311 (by decide) ?_
  refine r_ldc2 (v := 11) C (tq q_670 rfl) dX10_init_312 ?_
  obtain ⟨_, h74, e74, hf⟩ := pb_some hf
  refine r_last C hW e74 dX10_init_315 (fun H locs hW => ?_)
  refine lv_aload_n hx hb dX10_init_316 rfl (lv_at hl 0 rfl) ?_
  obtain ⟨_, h75, e75, hf⟩ := pb_some hf
  obtain ⟨_, _, t76⟩ := tgX10_zeroes e75
  refine r_callv hW (pext e75) (run_V (b := x0) (As := []) (rest := []) C hW (metX10_zeroes l G ρ e75) ⟨rfl, rfl⟩ kcX10_zeroes (tq q_671 rfl) kiX10_zeroes ksX10_zeroes knX10_zeroes kdX10_zeroes t76 rfl rfl ⟨Nat.le_of_ble_eq_true rfl, Nat.le_of_ble_eq_true rfl⟩ hl.1 (Nat.le_of_ble_eq_true rfl) (room_of hW (pext e75) ((pext hf).tr hX)) dX10_init_317 rfl) (fun H locs c1 s1 hW => ?_)
  obtain ⟨rfl, rfl⟩ := pp_some hf
  exact r_vret C hW dX10_init_320

theorem dX10_in_0 : decode cX10_in 0 = .ok (.lload_n 0, 1) := by decide +kernel
theorem dX10_in_1 : decode cX10_in 1 = .ok (.lload_n 2, 1) := by decide +kernel
theorem dX10_in_2 : decode cX10_in 2 = .ok (.lcmp, 1) := by decide +kernel
theorem dX10_in_3 : decode cX10_in 3 = .ok (.ifCond .lt 14, 3) := by decide +kernel
theorem dX10_in_6 : decode cX10_in 6 = .ok (.lload_n 0, 1) := by decide +kernel
theorem dX10_in_7 : decode cX10_in 7 = .ok (.lload 4, 2) := by decide +kernel
theorem dX10_in_9 : decode cX10_in 9 = .ok (.lcmp, 1) := by decide +kernel
theorem dX10_in_10 : decode cX10_in 10 = .ok (.ifCond .gt 7, 3) := by decide +kernel
theorem dX10_in_13 : decode cX10_in 13 = .ok (.iconst 1, 1) := by decide +kernel
theorem dX10_in_14 : decode cX10_in 14 = .ok (.goto 4, 3) := by decide +kernel
theorem dX10_in_17 : decode cX10_in 17 = .ok (.iconst 0, 1) := by decide +kernel
theorem dX10_in_18 : decode cX10_in 18 = .ok (.ireturn, 1) := by decide +kernel
theorem kcX10_in : Cond.code yX10_in cX10_in 6 (some .boolean) ∈ tb := tq q_836 rfl
theorem knX10_in : Cond.initialized yX10_in.cls ∈ tb := (tq q_10 rfl)
theorem kdX10_in : yX10_in.cls ≠ "java/lang/invoke/MethodHandle" ∧ yX10_in.cls ≠ "java/lang/invoke/VarHandle" ∧ (parseMethodDescriptor yX10_in.desc).map (fun d => d.parameters.length) = some 3 := ⟨by decide +kernel, by decide +kernel, by decide +kernel⟩
theorem kiX10_in : Cond.static yX10_in ∈ tb := (tq q_835 rfl)
set_option maxHeartbeats 4000000 in
set_option maxRecDepth 100000 in
theorem metX10_in (l : Launch) (G : GG) (ρ : Nat → Nat) {z : Nat} {x0 : Int64} {x2 : Int64} {x4 : Int64} {h hE : PH} {v : Int32} (hf : (fX10_in x0 x2 x4).1 h = some (v, hE)) : Met l yX10_in (wsY yX10_in cX10_in 6 (some .boolean)) (RM 0 0 h hE) (va_Pc [.long x0, .long x2, .long x4] (PcB G ρ h z)) (QI G ρ v hE h.length z) (DC h hE) (DS h hE) (Af ρ h.length z) := by
  refine met_start (by decide) (Nat.le_of_ble_eq_true rfl) ?_
  intro p e s m below meth c ls hz C hW hl
  subst hz
  have C : Cx G "PairSymbolsModel" cX10_in 6 (some .boolean) "in" p s m _ meth c := C
  have hx := C.1
  have hb := C.2.1
  have hX : Ext hE hE := Ext.rf hE
  have hl : lv_has ls 6 [(0, .long x0), (2, .long x2), (4, .long x4)] := hl
  have hW : Wd G ρ h.length (sl h) s.heap h s.heap [] 0 0 := hW
  unfold fX10_in at hf
  refine lv_lload_n hx hb dX10_in_0 rfl (lv_at hl 0 rfl) ?_
  refine lv_lload_n hx hb dX10_in_1 rfl (lv_at hl 1 rfl) ?_
  refine W.lcmp hx hb dX10_in_2 ?_
  refine lv_if_lt (tgt := 17) hx hb dX10_in_3 (by decide) (fun c1 => ?_) (fun c1 => ?_)
  · rw [if_pos c1] at hf
    refine lv_iconst (v := 0) hx hb dX10_in_17 (by decide) ?_
    obtain ⟨rfl, rfl⟩ := pp_some hf
    exact r_zret C hW rfl dX10_in_18
  · rw [if_neg c1] at hf
    refine lv_lload_n hx hb dX10_in_6 rfl (lv_at hl 0 rfl) ?_
    refine lv_lload hx hb dX10_in_7 (lv_at hl 2 rfl) ?_
    refine W.lcmp hx hb dX10_in_9 ?_
    refine lv_if_gt (tgt := 17) hx hb dX10_in_10 (by decide) (fun c2 => ?_) (fun c2 => ?_)
    · rw [if_pos c2] at hf
      refine lv_iconst (v := 0) hx hb dX10_in_17 (by decide) ?_
      obtain ⟨rfl, rfl⟩ := pp_some hf
      exact r_zret C hW rfl dX10_in_18
    · rw [if_neg c2] at hf
      refine lv_iconst (v := 1) hx hb dX10_in_13 (by decide) ?_
      refine lv_goto (tgt := 18) hx hb dX10_in_14 (by decide) ?_
      obtain ⟨rfl, rfl⟩ := pp_some hf
      exact r_zret C hW rfl dX10_in_18

theorem dX10_refuses_0 : decode cX10_refuses 0 = .ok (.aload_n 0, 1) := by decide +kernel
theorem dX10_refuses_1 : decode cX10_refuses 1 = .ok (.getfield 19, 3) := by decide +kernel
theorem dX10_refuses_4 : decode cX10_refuses 4 = .ok (.bipush (-2), 2) := by decide +kernel
theorem dX10_refuses_6 : decode cX10_refuses 6 = .ok (.iload_n 1, 1) := by decide +kernel
theorem dX10_refuses_7 : decode cX10_refuses 7 = .ok (.isub, 1) := by decide +kernel
theorem dX10_refuses_8 : decode cX10_refuses 8 = .ok (.dup2, 1) := by decide +kernel
theorem dX10_refuses_9 : decode cX10_refuses 9 = .ok (.iaload, 1) := by decide +kernel
theorem dX10_refuses_10 : decode cX10_refuses 10 = .ok (.iconst 1, 1) := by decide +kernel
theorem dX10_refuses_11 : decode cX10_refuses 11 = .ok (.iadd, 1) := by decide +kernel
theorem dX10_refuses_12 : decode cX10_refuses 12 = .ok (.iastore, 1) := by decide +kernel
theorem dX10_refuses_13 : decode cX10_refuses 13 = .ok (.iload_n 1, 1) := by decide +kernel
theorem dX10_refuses_14 : decode cX10_refuses 14 = .ok (.ireturn, 1) := by decide +kernel
theorem kcX10_refuses : Cond.code yX10_refuses cX10_refuses 2 (some .int) ∈ tb := tq q_840 rfl
theorem knX10_refuses : Cond.initialized yX10_refuses.cls ∈ tb := (tq q_10 rfl)
theorem kdX10_refuses : yX10_refuses.cls ≠ "java/lang/invoke/MethodHandle" ∧ yX10_refuses.cls ≠ "java/lang/invoke/VarHandle" ∧ (parseMethodDescriptor yX10_refuses.desc).map (fun d => d.parameters.length) = some 1 := ⟨by decide +kernel, by decide +kernel, by decide +kernel⟩
theorem kiX10_refuses : Cond.instanceMethod yX10_refuses ∈ tb := (tq q_839 rfl)
theorem ksX10_refuses : Cond.selects yX10_refuses.cls yX10_refuses yX10_refuses ∈ tb := (tq z_25 rfl)
theorem tgX10_refuses {x0 : Nat} {x1 : Int32} {h : PH} {r : Int32 × PH} (hf : (fX10_refuses x0 x1).1 h = some r) : ∃ n x, nth h x0 = some (9, n, x) := by
  obtain ⟨_, _, e, _⟩ := pb_some hf
  exact (chk_some e).2
set_option maxHeartbeats 4000000 in
set_option maxRecDepth 100000 in
theorem metX10_refuses (l : Launch) (G : GG) (ρ : Nat → Nat) {z : Nat} {x0 : Nat} {x1 : Int32} {h hE : PH} {v : Int32} (hf : (fX10_refuses x0 x1).1 h = some (v, hE)) : Met l yX10_refuses (wsY yX10_refuses cX10_refuses 2 (some .int)) (RM 0 0 h hE) (va_Pc [.ref (ρ x0), .int x1] (PcB G ρ h z)) (QI G ρ v hE h.length z) (DC h hE) (DS h hE) (Af ρ h.length z) := by
  refine met_start (by decide) (Nat.le_of_ble_eq_true rfl) ?_
  intro p e s m below meth c ls hz C hW hl
  subst hz
  have C : Cx G "PairSymbolsModel" cX10_refuses 2 (some .int) "refuses" p s m _ meth c := C
  have hx := C.1
  have hb := C.2.1
  have hX : Ext hE hE := Ext.rf hE
  have hl : lv_has ls 2 [(0, .ref (ρ x0)), (1, .int x1)] := hl
  have hW : Wd G ρ h.length (sl h) s.heap h s.heap [] 0 0 := hW
  unfold fX10_refuses at hf
  obtain ⟨_, e0, hf⟩ := pb_rd (rd_chk _ _) hf
  refine lv_aload_n hx hb dX10_refuses_0 rfl (lv_at hl 0 rfl) ?_
  obtain ⟨v1, e1, hf⟩ := pb_rd (rd_gA _ _ _) hf
  refine r_gA C hW e1 flX10_19 rfl dX10_refuses_1 ?_
  refine lv_bipush (v := -2) hx hb dX10_refuses_4 (by decide) ?_
  refine lv_iload_n hx hb dX10_refuses_6 rfl (lv_at hl 1 rfl) ?_
  refine lv_isub hx hb dX10_refuses_7 ?_
  refine lv_dup2_11 hx hb dX10_refuses_8 rfl rfl ?_
  obtain ⟨v2, e2, hf⟩ := pb_rd (rd_lI _ _ _) hf
  refine r_iald C hW e2 dX10_refuses_9 ?_
  refine lv_iconst (v := 1) hx hb dX10_refuses_10 (by decide) ?_
  refine lv_iadd hx hb dX10_refuses_11 ?_
  obtain ⟨_, h3, e3, hf⟩ := pb_some hf
  refine r_iast C hW e3 dX10_refuses_12 (fun H locs hW => ?_)
  refine lv_iload_n hx hb dX10_refuses_13 rfl (lv_at hl 1 rfl) ?_
  obtain ⟨rfl, rfl⟩ := pp_some hf
  exact r_iret C hW dX10_refuses_14

theorem dX10_refusesBy_0 : decode cX10_refusesBy 0 = .ok (.aload_n 0, 1) := by decide +kernel
theorem dX10_refusesBy_1 : decode cX10_refusesBy 1 = .ok (.getfield 19, 3) := by decide +kernel
theorem dX10_refusesBy_4 : decode cX10_refusesBy 4 = .ok (.bipush (-2), 2) := by decide +kernel
theorem dX10_refusesBy_6 : decode cX10_refusesBy 6 = .ok (.iload_n 1, 1) := by decide +kernel
theorem dX10_refusesBy_7 : decode cX10_refusesBy 7 = .ok (.isub, 1) := by decide +kernel
theorem dX10_refusesBy_8 : decode cX10_refusesBy 8 = .ok (.dup2, 1) := by decide +kernel
theorem dX10_refusesBy_9 : decode cX10_refusesBy 9 = .ok (.iaload, 1) := by decide +kernel
theorem dX10_refusesBy_10 : decode cX10_refusesBy 10 = .ok (.iconst 1, 1) := by decide +kernel
theorem dX10_refusesBy_11 : decode cX10_refusesBy 11 = .ok (.iadd, 1) := by decide +kernel
theorem dX10_refusesBy_12 : decode cX10_refusesBy 12 = .ok (.iastore, 1) := by decide +kernel
theorem dX10_refusesBy_13 : decode cX10_refusesBy 13 = .ok (.lload_n 2, 1) := by decide +kernel
theorem dX10_refusesBy_14 : decode cX10_refusesBy 14 = .ok (.lreturn, 1) := by decide +kernel
theorem kcX10_refusesBy : Cond.code yX10_refusesBy cX10_refusesBy 4 (some .long) ∈ tb := tq q_1023 rfl
theorem knX10_refusesBy : Cond.initialized yX10_refusesBy.cls ∈ tb := (tq q_10 rfl)
theorem kdX10_refusesBy : yX10_refusesBy.cls ≠ "java/lang/invoke/MethodHandle" ∧ yX10_refusesBy.cls ≠ "java/lang/invoke/VarHandle" ∧ (parseMethodDescriptor yX10_refusesBy.desc).map (fun d => d.parameters.length) = some 2 := ⟨by decide +kernel, by decide +kernel, by decide +kernel⟩
theorem kiX10_refusesBy : Cond.instanceMethod yX10_refusesBy ∈ tb := (tq q_1022 rfl)
theorem ksX10_refusesBy : Cond.selects yX10_refusesBy.cls yX10_refusesBy yX10_refusesBy ∈ tb := (tq z_61 rfl)
theorem tgX10_refusesBy {x0 : Nat} {x1 : Int32} {x2 : Int64} {h : PH} {r : Int64 × PH} (hf : (fX10_refusesBy x0 x1 x2).1 h = some r) : ∃ n x, nth h x0 = some (9, n, x) := by
  obtain ⟨_, _, e, _⟩ := pb_some hf
  exact (chk_some e).2
set_option maxHeartbeats 4000000 in
set_option maxRecDepth 100000 in
theorem metX10_refusesBy (l : Launch) (G : GG) (ρ : Nat → Nat) {z : Nat} {x0 : Nat} {x1 : Int32} {x2 : Int64} {h hE : PH} {v : Int64} (hf : (fX10_refusesBy x0 x1 x2).1 h = some (v, hE)) : Met l yX10_refusesBy (wsY yX10_refusesBy cX10_refusesBy 4 (some .long)) (RM 0 0 h hE) (va_Pc [.ref (ρ x0), .int x1, .long x2] (PcB G ρ h z)) (QL G ρ v hE h.length z) (DC h hE) (DS h hE) (Af ρ h.length z) := by
  refine met_start (by decide) (Nat.le_of_ble_eq_true rfl) ?_
  intro p e s m below meth c ls hz C hW hl
  subst hz
  have C : Cx G "PairSymbolsModel" cX10_refusesBy 4 (some .long) "refusesBy" p s m _ meth c := C
  have hx := C.1
  have hb := C.2.1
  have hX : Ext hE hE := Ext.rf hE
  have hl : lv_has ls 4 [(0, .ref (ρ x0)), (1, .int x1), (2, .long x2)] := hl
  have hW : Wd G ρ h.length (sl h) s.heap h s.heap [] 0 0 := hW
  unfold fX10_refusesBy at hf
  obtain ⟨_, e0, hf⟩ := pb_rd (rd_chk _ _) hf
  refine lv_aload_n hx hb dX10_refusesBy_0 rfl (lv_at hl 0 rfl) ?_
  obtain ⟨v1, e1, hf⟩ := pb_rd (rd_gA _ _ _) hf
  refine r_gA C hW e1 flX10_19 rfl dX10_refusesBy_1 ?_
  refine lv_bipush (v := -2) hx hb dX10_refusesBy_4 (by decide) ?_
  refine lv_iload_n hx hb dX10_refusesBy_6 rfl (lv_at hl 1 rfl) ?_
  refine lv_isub hx hb dX10_refusesBy_7 ?_
  refine lv_dup2_11 hx hb dX10_refusesBy_8 rfl rfl ?_
  obtain ⟨v2, e2, hf⟩ := pb_rd (rd_lI _ _ _) hf
  refine r_iald C hW e2 dX10_refusesBy_9 ?_
  refine lv_iconst (v := 1) hx hb dX10_refusesBy_10 (by decide) ?_
  refine lv_iadd hx hb dX10_refusesBy_11 ?_
  obtain ⟨_, h3, e3, hf⟩ := pb_some hf
  refine r_iast C hW e3 dX10_refusesBy_12 (fun H locs hW => ?_)
  refine lv_lload_n hx hb dX10_refusesBy_13 rfl (lv_at hl 2 rfl) ?_
  obtain ⟨rfl, rfl⟩ := pp_some hf
  exact r_lret C hW dX10_refusesBy_14

theorem dX10_keep_0 : decode cX10_keep 0 = .ok (.aload_n 0, 1) := by decide +kernel
theorem dX10_keep_1 : decode cX10_keep 1 = .ok (.getfield 125, 3) := by decide +kernel
theorem dX10_keep_4 : decode cX10_keep 4 = .ok (.bipush 6, 2) := by decide +kernel
theorem dX10_keep_6 : decode cX10_keep 6 = .ok (.if_icmp .ne 43, 3) := by decide +kernel
theorem dX10_keep_9 : decode cX10_keep 9 = .ok (.iconst 0, 1) := by decide +kernel
theorem dX10_keep_10 : decode cX10_keep 10 = .ok (.istore_n 1, 1) := by decide +kernel
theorem dX10_keep_11 : decode cX10_keep 11 = .ok (.iload_n 1, 1) := by decide +kernel
theorem dX10_keep_12 : decode cX10_keep 12 = .ok (.sipush 165, 3) := by decide +kernel
theorem dX10_keep_15 : decode cX10_keep 15 = .ok (.if_icmp .ge 24, 3) := by decide +kernel
theorem dX10_keep_18 : decode cX10_keep 18 = .ok (.aload_n 0, 1) := by decide +kernel
theorem dX10_keep_19 : decode cX10_keep 19 = .ok (.getfield 13, 3) := by decide +kernel
theorem dX10_keep_22 : decode cX10_keep 22 = .ok (.iload_n 1, 1) := by decide +kernel
theorem dX10_keep_23 : decode cX10_keep 23 = .ok (.aload_n 0, 1) := by decide +kernel
theorem dX10_keep_24 : decode cX10_keep 24 = .ok (.getfield 13, 3) := by decide +kernel
theorem dX10_keep_27 : decode cX10_keep 27 = .ok (.iload_n 1, 1) := by decide +kernel
theorem dX10_keep_28 : decode cX10_keep 28 = .ok (.bipush 33, 2) := by decide +kernel
theorem dX10_keep_30 : decode cX10_keep 30 = .ok (.iadd, 1) := by decide +kernel
theorem dX10_keep_31 : decode cX10_keep 31 = .ok (.laload, 1) := by decide +kernel
theorem dX10_keep_32 : decode cX10_keep 32 = .ok (.lastore, 1) := by decide +kernel
theorem dX10_keep_33 : decode cX10_keep 33 = .ok (.iinc 1 1, 3) := by decide +kernel
theorem dX10_keep_36 : decode cX10_keep 36 = .ok (.goto (-25), 3) := by decide +kernel
theorem dX10_keep_39 : decode cX10_keep 39 = .ok (.aload_n 0, 1) := by decide +kernel
theorem dX10_keep_40 : decode cX10_keep 40 = .ok (.dup, 1) := by decide +kernel
theorem dX10_keep_41 : decode cX10_keep 41 = .ok (.getfield 125, 3) := by decide +kernel
theorem dX10_keep_44 : decode cX10_keep 44 = .ok (.iconst 1, 1) := by decide +kernel
theorem dX10_keep_45 : decode cX10_keep 45 = .ok (.isub, 1) := by decide +kernel
theorem dX10_keep_46 : decode cX10_keep 46 = .ok (.putfield 125, 3) := by decide +kernel
theorem dX10_keep_49 : decode cX10_keep 49 = .ok (.iconst 0, 1) := by decide +kernel
theorem dX10_keep_50 : decode cX10_keep 50 = .ok (.istore_n 1, 1) := by decide +kernel
theorem dX10_keep_51 : decode cX10_keep 51 = .ok (.iload_n 1, 1) := by decide +kernel
theorem dX10_keep_52 : decode cX10_keep 52 = .ok (.bipush 33, 2) := by decide +kernel
theorem dX10_keep_54 : decode cX10_keep 54 = .ok (.if_icmp .ge 29, 3) := by decide +kernel
theorem dX10_keep_57 : decode cX10_keep 57 = .ok (.aload_n 0, 1) := by decide +kernel
theorem dX10_keep_58 : decode cX10_keep 58 = .ok (.getfield 13, 3) := by decide +kernel
theorem dX10_keep_61 : decode cX10_keep 61 = .ok (.bipush 33, 2) := by decide +kernel
theorem dX10_keep_63 : decode cX10_keep 63 = .ok (.aload_n 0, 1) := by decide +kernel
theorem dX10_keep_64 : decode cX10_keep 64 = .ok (.getfield 125, 3) := by decide +kernel
theorem dX10_keep_67 : decode cX10_keep 67 = .ok (.imul, 1) := by decide +kernel
theorem dX10_keep_68 : decode cX10_keep 68 = .ok (.iload_n 1, 1) := by decide +kernel
theorem dX10_keep_69 : decode cX10_keep 69 = .ok (.iadd, 1) := by decide +kernel
theorem dX10_keep_70 : decode cX10_keep 70 = .ok (.aload_n 0, 1) := by decide +kernel
theorem dX10_keep_71 : decode cX10_keep 71 = .ok (.getfield 7, 3) := by decide +kernel
theorem dX10_keep_74 : decode cX10_keep 74 = .ok (.iload_n 1, 1) := by decide +kernel
theorem dX10_keep_75 : decode cX10_keep 75 = .ok (.laload, 1) := by decide +kernel
theorem dX10_keep_76 : decode cX10_keep 76 = .ok (.lastore, 1) := by decide +kernel
theorem dX10_keep_77 : decode cX10_keep 77 = .ok (.iinc 1 1, 3) := by decide +kernel
theorem dX10_keep_80 : decode cX10_keep 80 = .ok (.goto (-29), 3) := by decide +kernel
theorem dX10_keep_83 : decode cX10_keep 83 = .ok (.aload_n 0, 1) := by decide +kernel
theorem dX10_keep_84 : decode cX10_keep 84 = .ok (.dup, 1) := by decide +kernel
theorem dX10_keep_85 : decode cX10_keep 85 = .ok (.getfield 125, 3) := by decide +kernel
theorem dX10_keep_88 : decode cX10_keep 88 = .ok (.iconst 1, 1) := by decide +kernel
theorem dX10_keep_89 : decode cX10_keep 89 = .ok (.iadd, 1) := by decide +kernel
theorem dX10_keep_90 : decode cX10_keep 90 = .ok (.putfield 125, 3) := by decide +kernel
theorem dX10_keep_93 : decode cX10_keep 93 = .ok (.return_, 1) := by decide +kernel
theorem kcX10_keep : Cond.code yX10_keep cX10_keep 2 none ∈ tb := tq q_844 rfl
theorem knX10_keep : Cond.initialized yX10_keep.cls ∈ tb := (tq q_10 rfl)
theorem kdX10_keep : yX10_keep.cls ≠ "java/lang/invoke/MethodHandle" ∧ yX10_keep.cls ≠ "java/lang/invoke/VarHandle" ∧ (parseMethodDescriptor yX10_keep.desc).map (fun d => d.parameters.length) = some 0 := ⟨by decide +kernel, by decide +kernel, by decide +kernel⟩
theorem kiX10_keep : Cond.instanceMethod yX10_keep ∈ tb := (tq q_843 rfl)
theorem ksX10_keep : Cond.selects yX10_keep.cls yX10_keep yX10_keep ∈ tb := (tq z_26 rfl)
theorem tgX10_keep {x0 : Nat} {h : PH} {r : Unit × PH} (hf : (fX10_keep x0).1 h = some r) : ∃ n x, nth h x0 = some (9, n, x) := by
  obtain ⟨_, _, e, _⟩ := pb_some hf
  exact (chk_some e).2
set_option maxHeartbeats 4000000 in
set_option maxRecDepth 100000 in
theorem wX10_keep_B51 {p : Program} {l : Launch} {e : Env} {s : State} {m : MethodId} {args : Array Value} {below : List Frame} {meth : Method} {c : Code} {G : GG} {ρ : Nat → Nat} {h0 hE hB : PH} {Q : State → Prop} {x0 : Nat} (C : Cx G "PairSymbolsModel" cX10_keep 2 none "keep" p s m args meth c) {x1 : Int32} {h : PH} {H : Heap} {locs : List Loc} {cells slots : Nat} {ls : Array Slot} {r : (Int32) ⊕ (Unit)} (hf : (fX10_keep_b51 x0 x1).1 h = some (r, hB)) (hX : Ext hB hE) (hW : Wd G ρ h0.length (sl h0) s.heap h H locs cells slots) (hl : lv_has ls 2 [(0, .ref (ρ x0)), (1, .int x1)]) (kc : ∀ y : Int32, r = .inl y → ∀ (H : Heap) (locs : List Loc) (c1 s1 : Nat) (ls : Array Slot), Wd G ρ h0.length (sl h0) s.heap hB H locs c1 s1 → lv_has ls 2 [(0, .ref (ρ x0)), (1, .int y)] → W p l e (RM 0 0 h0 hE) s m args below meth c H locs c1 s1 Q (F0 m 51 ls [])) (ke : ∀ z : Unit, r = .inr z → ∀ (H : Heap) (locs : List Loc) (c1 s1 : Nat) (ls : Array Slot), Wd G ρ h0.length (sl h0) s.heap hB H locs c1 s1 → lv_has ls 2 [(0, .ref (ρ x0))] → W p l e (RM 0 0 h0 hE) s m args below meth c H locs c1 s1 Q (F0 m 83 ls [])) : W p l e (RM 0 0 h0 hE) s m args below meth c H locs cells slots Q (F0 m 51 ls []) := by
  have hx := C.1
  have hb := C.2.1
  unfold fX10_keep_b51 at hf
  refine lv_iload_n hx hb dX10_keep_51 rfl (lv_at hl 1 rfl) ?_
  refine lv_bipush (v := 33) hx hb dX10_keep_52 (by decide) ?_
  refine lv_icmp_ge (tgt := 83) hx hb dX10_keep_54 (by decide) (fun c3 => ?_) (fun c3 => ?_)
  · rw [if_pos c3] at hf
    obtain ⟨rfl, rfl⟩ := pp_some hf
    exact ke _ rfl _ _ _ _ _ hW (lv_sub hl [0] rfl)
  · rw [if_neg c3] at hf
    refine lv_aload_n hx hb dX10_keep_57 rfl (lv_at hl 0 rfl) ?_
    obtain ⟨v4, e4, hf⟩ := pb_rd (rd_gA _ _ _) hf
    refine r_gA C hW e4 flX10_13 rfl dX10_keep_58 ?_
    refine lv_bipush (v := 33) hx hb dX10_keep_61 (by decide) ?_
    refine lv_aload_n hx hb dX10_keep_63 rfl (lv_at hl 0 rfl) ?_
    obtain ⟨v5, e5, hf⟩ := pb_rd (rd_gI _ _ _) hf
    refine r_gI C hW e5 flX10_125 rfl dX10_keep_64 ?_
    refine lv_imul hx hb dX10_keep_67 ?_
    refine lv_iload_n hx hb dX10_keep_68 rfl (lv_at hl 1 rfl) ?_
    refine lv_iadd hx hb dX10_keep_69 ?_
    refine lv_aload_n hx hb dX10_keep_70 rfl (lv_at hl 0 rfl) ?_
    obtain ⟨v6, e6, hf⟩ := pb_rd (rd_gA _ _ _) hf
    refine r_gA C hW e6 flX10_7 rfl dX10_keep_71 ?_
    refine lv_iload_n hx hb dX10_keep_74 rfl (lv_at hl 1 rfl) ?_
    obtain ⟨v7, e7, hf⟩ := pb_rd (rd_lJ _ _ _) hf
    refine r_lald C hW e7 dX10_keep_75 ?_
    obtain ⟨_, h8, e8, hf⟩ := pb_some hf
    refine r_last C hW e8 dX10_keep_76 (fun H locs hW => ?_)
    refine lv_iinc (v := (x1 + 1)) (lv' := [(1, .int (x1 + 1)), (0, .ref (ρ x0))]) hx hb dX10_keep_77 hl (k := 1) rfl rfl (by decide) rfl (fun ls hl => ?_)
    refine lv_goto (tgt := 51) hx hb dX10_keep_80 (by decide) ?_
    obtain ⟨rfl, rfl⟩ := pp_some hf
    exact kc _ rfl _ _ _ _ _ hW (lv_sub hl [1, 0] rfl)
set_option maxHeartbeats 4000000 in
theorem wX10_keep_L51 {p : Program} {l : Launch} {e : Env} {s : State} {m : MethodId} {args : Array Value} {below : List Frame} {meth : Method} {c : Code} {G : GG} {ρ : Nat → Nat} {h0 hE hB : PH} {Q : State → Prop} {x0 : Nat} (C : Cx G "PairSymbolsModel" cX10_keep 2 none "keep" p s m args meth c) {z : (Unit)} (n : Nat) : ∀ (x : Int32) {h : PH} {H : Heap} {locs : List Loc} {cells slots : Nat} {ls : Array Slot}, (plo (fX10_keep_B51 x0) n x).1 h = some (z, hB) → Ext hB hE → Wd G ρ h0.length (sl h0) s.heap h H locs cells slots → lv_has ls 2 [(0, .ref (ρ x0)), (1, .int x)] → (ke : ∀ (H : Heap) (locs : List Loc) (c1 s1 : Nat) (ls : Array Slot), Wd G ρ h0.length (sl h0) s.heap hB H locs c1 s1 → lv_has ls 2 [(0, .ref (ρ x0))] → W p l e (RM 0 0 h0 hE) s m args below meth c H locs c1 s1 Q (F0 m 83 ls [])) → W p l e (RM 0 0 h0 hE) s m args below meth c H locs cells slots Q (F0 m 51 ls []) := by
  induction n with
  | zero =>
    intro x h H locs cells slots ls hf
    rw [plo_0] at hf
    exact (pf_no hf).elim
  | succ n ih =>
    intro x h H locs cells slots ls hf hX hW hl ke
    rw [plo_s] at hf
    obtain ⟨r, h1, e1, hf⟩ := pb_some hf
    unfold fX10_keep_B51 at e1
    rw [frI_eq] at e1
    refine wX10_keep_B51 C e1 ((pext hf).tr hX) hW hl (fun y hr H locs c1 s1 ls hW hl => ?_) (fun y hr H locs c1 s1 ls hW hl => ?_)
    · subst hr
      exact ih y hf hX hW hl ke
    · subst hr
      obtain ⟨rfl, rfl⟩ := pp_some hf
      exact ke H locs c1 s1 ls hW hl
set_option maxHeartbeats 4000000 in
set_option maxRecDepth 100000 in
theorem wX10_keep_B11 {p : Program} {l : Launch} {e : Env} {s : State} {m : MethodId} {args : Array Value} {below : List Frame} {meth : Method} {c : Code} {G : GG} {ρ : Nat → Nat} {h0 hE hB : PH} {Q : State → Prop} {x0 : Nat} (C : Cx G "PairSymbolsModel" cX10_keep 2 none "keep" p s m args meth c) {x1 : Int32} {h : PH} {H : Heap} {locs : List Loc} {cells slots : Nat} {ls : Array Slot} {r : (Int32) ⊕ (Unit)} (hf : (fX10_keep_b11 x0 x1).1 h = some (r, hB)) (hX : Ext hB hE) (hW : Wd G ρ h0.length (sl h0) s.heap h H locs cells slots) (hl : lv_has ls 2 [(0, .ref (ρ x0)), (1, .int x1)]) (kc : ∀ y : Int32, r = .inl y → ∀ (H : Heap) (locs : List Loc) (c1 s1 : Nat) (ls : Array Slot), Wd G ρ h0.length (sl h0) s.heap hB H locs c1 s1 → lv_has ls 2 [(0, .ref (ρ x0)), (1, .int y)] → W p l e (RM 0 0 h0 hE) s m args below meth c H locs c1 s1 Q (F0 m 11 ls [])) (ke : ∀ z : Unit, r = .inr z → ∀ (H : Heap) (locs : List Loc) (c1 s1 : Nat) (ls : Array Slot), Wd G ρ h0.length (sl h0) s.heap hB H locs c1 s1 → lv_has ls 2 [(0, .ref (ρ x0))] → W p l e (RM 0 0 h0 hE) s m args below meth c H locs c1 s1 Q (F0 m 39 ls [])) : W p l e (RM 0 0 h0 hE) s m args below meth c H locs cells slots Q (F0 m 11 ls []) := by
  have hx := C.1
  have hb := C.2.1
  unfold fX10_keep_b11 at hf
  refine lv_iload_n hx hb dX10_keep_11 rfl (lv_at hl 1 rfl) ?_
  refine lv_sipush (v := 165) hx hb dX10_keep_12 (by decide) ?_
  refine lv_icmp_ge (tgt := 39) hx hb dX10_keep_15 (by decide) (fun c12 => ?_) (fun c12 => ?_)
  · rw [if_pos c12] at hf
    obtain ⟨rfl, rfl⟩ := pp_some hf
    exact ke _ rfl _ _ _ _ _ hW (lv_sub hl [0] rfl)
  · rw [if_neg c12] at hf
    refine lv_aload_n hx hb dX10_keep_18 rfl (lv_at hl 0 rfl) ?_
    obtain ⟨v13, e13, hf⟩ := pb_rd (rd_gA _ _ _) hf
    refine r_gA C hW e13 flX10_13 rfl dX10_keep_19 ?_
    refine lv_iload_n hx hb dX10_keep_22 rfl (lv_at hl 1 rfl) ?_
    refine lv_aload_n hx hb dX10_keep_23 rfl (lv_at hl 0 rfl) ?_
    obtain ⟨v14, e14, hf⟩ := pb_rd (rd_gA _ _ _) hf
    refine r_gA C hW e14 flX10_13 rfl dX10_keep_24 ?_
    refine lv_iload_n hx hb dX10_keep_27 rfl (lv_at hl 1 rfl) ?_
    refine lv_bipush (v := 33) hx hb dX10_keep_28 (by decide) ?_
    refine lv_iadd hx hb dX10_keep_30 ?_
    obtain ⟨v15, e15, hf⟩ := pb_rd (rd_lJ _ _ _) hf
    refine r_lald C hW e15 dX10_keep_31 ?_
    obtain ⟨_, h16, e16, hf⟩ := pb_some hf
    refine r_last C hW e16 dX10_keep_32 (fun H locs hW => ?_)
    refine lv_iinc (v := (x1 + 1)) (lv' := [(1, .int (x1 + 1)), (0, .ref (ρ x0))]) hx hb dX10_keep_33 hl (k := 1) rfl rfl (by decide) rfl (fun ls hl => ?_)
    refine lv_goto (tgt := 11) hx hb dX10_keep_36 (by decide) ?_
    obtain ⟨rfl, rfl⟩ := pp_some hf
    exact kc _ rfl _ _ _ _ _ hW (lv_sub hl [1, 0] rfl)
set_option maxHeartbeats 4000000 in
theorem wX10_keep_L11 {p : Program} {l : Launch} {e : Env} {s : State} {m : MethodId} {args : Array Value} {below : List Frame} {meth : Method} {c : Code} {G : GG} {ρ : Nat → Nat} {h0 hE hB : PH} {Q : State → Prop} {x0 : Nat} (C : Cx G "PairSymbolsModel" cX10_keep 2 none "keep" p s m args meth c) {z : (Unit)} (n : Nat) : ∀ (x : Int32) {h : PH} {H : Heap} {locs : List Loc} {cells slots : Nat} {ls : Array Slot}, (plo (fX10_keep_B11 x0) n x).1 h = some (z, hB) → Ext hB hE → Wd G ρ h0.length (sl h0) s.heap h H locs cells slots → lv_has ls 2 [(0, .ref (ρ x0)), (1, .int x)] → (ke : ∀ (H : Heap) (locs : List Loc) (c1 s1 : Nat) (ls : Array Slot), Wd G ρ h0.length (sl h0) s.heap hB H locs c1 s1 → lv_has ls 2 [(0, .ref (ρ x0))] → W p l e (RM 0 0 h0 hE) s m args below meth c H locs c1 s1 Q (F0 m 39 ls [])) → W p l e (RM 0 0 h0 hE) s m args below meth c H locs cells slots Q (F0 m 11 ls []) := by
  induction n with
  | zero =>
    intro x h H locs cells slots ls hf
    rw [plo_0] at hf
    exact (pf_no hf).elim
  | succ n ih =>
    intro x h H locs cells slots ls hf hX hW hl ke
    rw [plo_s] at hf
    obtain ⟨r, h1, e1, hf⟩ := pb_some hf
    unfold fX10_keep_B11 at e1
    rw [frI_eq] at e1
    refine wX10_keep_B11 C e1 ((pext hf).tr hX) hW hl (fun y hr H locs c1 s1 ls hW hl => ?_) (fun y hr H locs c1 s1 ls hW hl => ?_)
    · subst hr
      exact ih y hf hX hW hl ke
    · subst hr
      obtain ⟨rfl, rfl⟩ := pp_some hf
      exact ke H locs c1 s1 ls hW hl
set_option maxHeartbeats 4000000 in
set_option maxRecDepth 100000 in
theorem metX10_keep (l : Launch) (G : GG) (ρ : Nat → Nat) {z : Nat} {x0 : Nat} {h hE : PH} {v : Unit} (hf : (fX10_keep x0).1 h = some (v, hE)) : Met l yX10_keep (wsY yX10_keep cX10_keep 2 none) (RM 0 0 h hE) (va_Pc [.ref (ρ x0)] (PcB G ρ h z)) (QV G ρ hE h.length z) (DC h hE) (DS h hE) (Af ρ h.length z) := by
  refine met_start (by decide) (Nat.le_of_ble_eq_true rfl) ?_
  intro p e s m below meth c ls hz C hW hl
  subst hz
  have C : Cx G "PairSymbolsModel" cX10_keep 2 none "keep" p s m _ meth c := C
  have hx := C.1
  have hb := C.2.1
  have hX : Ext hE hE := Ext.rf hE
  have hl : lv_has ls 2 [(0, .ref (ρ x0))] := hl
  have hW : Wd G ρ h.length (sl h) s.heap h s.heap [] 0 0 := hW
  unfold fX10_keep at hf
  obtain ⟨_, e0, hf⟩ := pb_rd (rd_chk _ _) hf
  refine lv_aload_n hx hb dX10_keep_0 rfl (lv_at hl 0 rfl) ?_
  obtain ⟨v1, e1, hf⟩ := pb_rd (rd_gI _ _ _) hf
  refine r_gI C hW e1 flX10_125 rfl dX10_keep_1 ?_
  refine lv_bipush (v := 6) hx hb dX10_keep_4 (by decide) ?_
  refine lv_icmp_ne (tgt := 49) hx hb dX10_keep_6 (by decide) (fun c2 => ?_) (fun c2 => ?_)
  · rw [if_neg c2] at hf
    refine lv_iconst (v := 0) hx hb dX10_keep_49 (by decide) ?_
    refine lv_istore_n (lv' := [(1, .int (0 : Int32)), (0, .ref (ρ x0))]) hx hb dX10_keep_50 rfl hl (by decide) rfl (fun ls hl => ?_)
    obtain ⟨z9, h9, e9, hf⟩ := pb_some hf
    refine wX10_keep_L51 C fu _ e9 ((pext hf).tr hX) hW (lv_sub hl [1, 0] rfl) (fun H locs c1 s1 ls hW hl => ?_)
    refine lv_aload_n hx hb dX10_keep_83 rfl (lv_at hl 0 rfl) ?_
    refine lv_dup hx hb dX10_keep_84 rfl ?_
    obtain ⟨v10, e10, hf⟩ := pb_rd (rd_gI _ _ _) hf
    refine r_gI C hW e10 flX10_125 rfl dX10_keep_85 ?_
    refine lv_iconst (v := 1) hx hb dX10_keep_88 (by decide) ?_
    refine lv_iadd hx hb dX10_keep_89 ?_
    obtain ⟨_, h11, e11, hf⟩ := pb_some hf
    refine r_sI C hW e11 flX10_125 (Or.inl rfl) rfl dX10_keep_90 (fun H locs hW => ?_)
    obtain ⟨rfl, rfl⟩ := pp_some hf
    exact r_vret C hW dX10_keep_93
  · rw [if_pos c2] at hf
    refine lv_iconst (v := 0) hx hb dX10_keep_9 (by decide) ?_
    refine lv_istore_n (lv' := [(1, .int (0 : Int32)), (0, .ref (ρ x0))]) hx hb dX10_keep_10 rfl hl (by decide) rfl (fun ls hl => ?_)
    obtain ⟨z17, h17, e17, hf⟩ := pb_some hf
    refine wX10_keep_L11 C fu _ e17 ((pext hf).tr hX) hW (lv_sub hl [1, 0] rfl) (fun H locs c1 s1 ls hW hl => ?_)
    refine lv_aload_n hx hb dX10_keep_39 rfl (lv_at hl 0 rfl) ?_
    refine lv_dup hx hb dX10_keep_40 rfl ?_
    obtain ⟨v18, e18, hf⟩ := pb_rd (rd_gI _ _ _) hf
    refine r_gI C hW e18 flX10_125 rfl dX10_keep_41 ?_
    refine lv_iconst (v := 1) hx hb dX10_keep_44 (by decide) ?_
    refine lv_isub hx hb dX10_keep_45 ?_
    obtain ⟨_, h19, e19, hf⟩ := pb_some hf
    refine r_sI C hW e19 flX10_125 (Or.inl rfl) rfl dX10_keep_46 (fun H locs hW => ?_)
    refine lv_iconst (v := 0) hx hb dX10_keep_49 (by decide) ?_
    refine lv_istore_n (lv' := [(1, .int (0 : Int32)), (0, .ref (ρ x0))]) hx hb dX10_keep_50 rfl hl (by decide) rfl (fun ls hl => ?_)
    obtain ⟨z20, h20, e20, hf⟩ := pb_some hf
    refine wX10_keep_L51 C fu _ e20 ((pext hf).tr hX) hW (lv_sub hl [1, 0] rfl) (fun H locs c1 s1 ls hW hl => ?_)
    refine lv_aload_n hx hb dX10_keep_83 rfl (lv_at hl 0 rfl) ?_
    refine lv_dup hx hb dX10_keep_84 rfl ?_
    obtain ⟨v21, e21, hf⟩ := pb_rd (rd_gI _ _ _) hf
    refine r_gI C hW e21 flX10_125 rfl dX10_keep_85 ?_
    refine lv_iconst (v := 1) hx hb dX10_keep_88 (by decide) ?_
    refine lv_iadd hx hb dX10_keep_89 ?_
    obtain ⟨_, h22, e22, hf⟩ := pb_some hf
    refine r_sI C hW e22 flX10_125 (Or.inl rfl) rfl dX10_keep_90 (fun H locs hW => ?_)
    obtain ⟨rfl, rfl⟩ := pp_some hf
    exact r_vret C hW dX10_keep_93

theorem dX10_levelHere_0 : decode cX10_levelHere 0 = .ok (.aload_n 0, 1) := by decide +kernel
theorem dX10_levelHere_1 : decode cX10_levelHere 1 = .ok (.getfield 7, 3) := by decide +kernel
theorem dX10_levelHere_4 : decode cX10_levelHere 4 = .ok (.iconst 0, 1) := by decide +kernel
theorem dX10_levelHere_5 : decode cX10_levelHere 5 = .ok (.laload, 1) := by decide +kernel
theorem dX10_levelHere_6 : decode cX10_levelHere 6 = .ok (.l2i, 1) := by decide +kernel
theorem dX10_levelHere_7 : decode cX10_levelHere 7 = .ok (.ireturn, 1) := by decide +kernel
theorem kcX10_levelHere : Cond.code yX10_levelHere cX10_levelHere 1 (some .int) ∈ tb := tq q_852 rfl
theorem knX10_levelHere : Cond.initialized yX10_levelHere.cls ∈ tb := (tq q_10 rfl)
theorem kdX10_levelHere : yX10_levelHere.cls ≠ "java/lang/invoke/MethodHandle" ∧ yX10_levelHere.cls ≠ "java/lang/invoke/VarHandle" ∧ (parseMethodDescriptor yX10_levelHere.desc).map (fun d => d.parameters.length) = some 0 := ⟨by decide +kernel, by decide +kernel, by decide +kernel⟩
theorem kiX10_levelHere : Cond.instanceMethod yX10_levelHere ∈ tb := (tq q_851 rfl)
theorem ksX10_levelHere : Cond.selects yX10_levelHere.cls yX10_levelHere yX10_levelHere ∈ tb := (tq z_28 rfl)
theorem tgX10_levelHere {x0 : Nat} {h : PH} {r : Int32 × PH} (hf : (fX10_levelHere x0).1 h = some r) : ∃ n x, nth h x0 = some (9, n, x) := by
  obtain ⟨_, _, e, _⟩ := pb_some hf
  exact (chk_some e).2
set_option maxHeartbeats 4000000 in
set_option maxRecDepth 100000 in
theorem metX10_levelHere (l : Launch) (G : GG) (ρ : Nat → Nat) {z : Nat} {x0 : Nat} {h hE : PH} {v : Int32} (hf : (fX10_levelHere x0).1 h = some (v, hE)) : Met l yX10_levelHere (wsY yX10_levelHere cX10_levelHere 1 (some .int)) (RM 0 0 h hE) (va_Pc [.ref (ρ x0)] (PcB G ρ h z)) (QI G ρ v hE h.length z) (DC h hE) (DS h hE) (Af ρ h.length z) := by
  refine met_start (by decide) (Nat.le_of_ble_eq_true rfl) ?_
  intro p e s m below meth c ls hz C hW hl
  subst hz
  have C : Cx G "PairSymbolsModel" cX10_levelHere 1 (some .int) "levelHere" p s m _ meth c := C
  have hx := C.1
  have hb := C.2.1
  have hX : Ext hE hE := Ext.rf hE
  have hl : lv_has ls 1 [(0, .ref (ρ x0))] := hl
  have hW : Wd G ρ h.length (sl h) s.heap h s.heap [] 0 0 := hW
  unfold fX10_levelHere at hf
  obtain ⟨_, e0, hf⟩ := pb_rd (rd_chk _ _) hf
  refine lv_aload_n hx hb dX10_levelHere_0 rfl (lv_at hl 0 rfl) ?_
  obtain ⟨v1, e1, hf⟩ := pb_rd (rd_gA _ _ _) hf
  refine r_gA C hW e1 flX10_7 rfl dX10_levelHere_1 ?_
  refine lv_iconst (v := 0) hx hb dX10_levelHere_4 (by decide) ?_
  obtain ⟨v2, e2, hf⟩ := pb_rd (rd_lJ _ _ _) hf
  refine r_lald C hW e2 dX10_levelHere_5 ?_
  refine lv_l2i (v := v2.toInt32) hx hb dX10_levelHere_6 rfl ?_
  obtain ⟨rfl, rfl⟩ := pp_some hf
  exact r_iret C hW dX10_levelHere_7

theorem dX10_divisor_0 : decode cX10_divisor 0 = .ok (.lload_n 0, 1) := by decide +kernel
theorem dX10_divisor_1 : decode cX10_divisor 1 = .ok (.lconst 0, 1) := by decide +kernel
theorem dX10_divisor_2 : decode cX10_divisor 2 = .ok (.lcmp, 1) := by decide +kernel
theorem dX10_divisor_3 : decode cX10_divisor 3 = .ok (.ifCond .ge 8, 3) := by decide +kernel
theorem dX10_divisor_6 : decode cX10_divisor 6 = .ok (.lload_n 0, 1) := by decide +kernel
theorem dX10_divisor_7 : decode cX10_divisor 7 = .ok (.lneg, 1) := by decide +kernel
theorem dX10_divisor_8 : decode cX10_divisor 8 = .ok (.goto 4, 3) := by decide +kernel
theorem dX10_divisor_11 : decode cX10_divisor 11 = .ok (.lload_n 0, 1) := by decide +kernel
theorem dX10_divisor_12 : decode cX10_divisor 12 = .ok (.lstore 4, 2) := by decide +kernel
theorem dX10_divisor_14 : decode cX10_divisor 14 = .ok (.lload_n 2, 1) := by decide +kernel
theorem dX10_divisor_15 : decode cX10_divisor 15 = .ok (.lconst 0, 1) := by decide +kernel
theorem dX10_divisor_16 : decode cX10_divisor 16 = .ok (.lcmp, 1) := by decide +kernel
theorem dX10_divisor_17 : decode cX10_divisor 17 = .ok (.ifCond .ge 8, 3) := by decide +kernel
theorem dX10_divisor_20 : decode cX10_divisor 20 = .ok (.lload_n 2, 1) := by decide +kernel
theorem dX10_divisor_21 : decode cX10_divisor 21 = .ok (.lneg, 1) := by decide +kernel
theorem dX10_divisor_22 : decode cX10_divisor 22 = .ok (.goto 4, 3) := by decide +kernel
theorem dX10_divisor_25 : decode cX10_divisor 25 = .ok (.lload_n 2, 1) := by decide +kernel
theorem dX10_divisor_26 : decode cX10_divisor 26 = .ok (.lstore 6, 2) := by decide +kernel
theorem dX10_divisor_28 : decode cX10_divisor 28 = .ok (.lload 6, 2) := by decide +kernel
theorem dX10_divisor_30 : decode cX10_divisor 30 = .ok (.lconst 0, 1) := by decide +kernel
theorem dX10_divisor_31 : decode cX10_divisor 31 = .ok (.lcmp, 1) := by decide +kernel
theorem dX10_divisor_32 : decode cX10_divisor 32 = .ok (.ifCond .eq 21, 3) := by decide +kernel
theorem dX10_divisor_35 : decode cX10_divisor 35 = .ok (.lload 4, 2) := by decide +kernel
theorem dX10_divisor_37 : decode cX10_divisor 37 = .ok (.lload 6, 2) := by decide +kernel
theorem dX10_divisor_39 : decode cX10_divisor 39 = .ok (.lrem, 1) := by decide +kernel
theorem dX10_divisor_40 : decode cX10_divisor 40 = .ok (.lstore 8, 2) := by decide +kernel
theorem dX10_divisor_42 : decode cX10_divisor 42 = .ok (.lload 6, 2) := by decide +kernel
theorem dX10_divisor_44 : decode cX10_divisor 44 = .ok (.lstore 4, 2) := by decide +kernel
theorem dX10_divisor_46 : decode cX10_divisor 46 = .ok (.lload 8, 2) := by decide +kernel
theorem dX10_divisor_48 : decode cX10_divisor 48 = .ok (.lstore 6, 2) := by decide +kernel
theorem dX10_divisor_50 : decode cX10_divisor 50 = .ok (.goto (-22), 3) := by decide +kernel
theorem dX10_divisor_53 : decode cX10_divisor 53 = .ok (.lload 4, 2) := by decide +kernel
theorem dX10_divisor_55 : decode cX10_divisor 55 = .ok (.lreturn, 1) := by decide +kernel
theorem kcX10_divisor : Cond.code yX10_divisor cX10_divisor 10 (some .long) ∈ tb := tq q_867 rfl
theorem knX10_divisor : Cond.initialized yX10_divisor.cls ∈ tb := (tq q_10 rfl)
theorem kdX10_divisor : yX10_divisor.cls ≠ "java/lang/invoke/MethodHandle" ∧ yX10_divisor.cls ≠ "java/lang/invoke/VarHandle" ∧ (parseMethodDescriptor yX10_divisor.desc).map (fun d => d.parameters.length) = some 2 := ⟨by decide +kernel, by decide +kernel, by decide +kernel⟩
theorem kiX10_divisor : Cond.static yX10_divisor ∈ tb := (tq q_866 rfl)
set_option maxHeartbeats 4000000 in
set_option maxRecDepth 100000 in
theorem wX10_divisor_B28 {p : Program} {l : Launch} {e : Env} {s : State} {m : MethodId} {args : Array Value} {below : List Frame} {meth : Method} {c : Code} {G : GG} {ρ : Nat → Nat} {h0 hE hB : PH} {Q : State → Prop}  (C : Cx G "PairSymbolsModel" cX10_divisor 10 (some .long) "diviso\x72" p s m args meth c) {x4 : Int64} {x6 : Int64} {h : PH} {H : Heap} {locs : List Loc} {cells slots : Nat} {ls : Array Slot} {r : (Int64 × Int64) ⊕ (Int64)} (hf : (fX10_divisor_b28  x4 x6).1 h = some (r, hB)) (hX : Ext hB hE) (hW : Wd G ρ h0.length (sl h0) s.heap h H locs cells slots) (hl : lv_has ls 10 [(4, .long x4), (6, .long x6)]) (kc : ∀ y : Int64 × Int64, r = .inl y → ∀ (H : Heap) (locs : List Loc) (c1 s1 : Nat) (ls : Array Slot), Wd G ρ h0.length (sl h0) s.heap hB H locs c1 s1 → lv_has ls 10 [(4, .long y.1), (6, .long y.2)] → W p l e (RM 0 0 h0 hE) s m args below meth c H locs c1 s1 Q (F0 m 28 ls [])) (ke : ∀ z : Int64, r = .inr z → ∀ (H : Heap) (locs : List Loc) (c1 s1 : Nat) (ls : Array Slot), Wd G ρ h0.length (sl h0) s.heap hB H locs c1 s1 → lv_has ls 10 [(4, .long z)] → W p l e (RM 0 0 h0 hE) s m args below meth c H locs c1 s1 Q (F0 m 53 ls [])) : W p l e (RM 0 0 h0 hE) s m args below meth c H locs cells slots Q (F0 m 28 ls []) := by
  have hx := C.1
  have hb := C.2.1
  unfold fX10_divisor_b28 at hf
  refine lv_lload hx hb dX10_divisor_28 (lv_at hl 1 rfl) ?_
  refine lv_lconst (v := 0) hx hb dX10_divisor_30 (by decide) ?_
  refine W.lcmp hx hb dX10_divisor_31 ?_
  refine lv_if_eq (tgt := 53) hx hb dX10_divisor_32 (by decide) (fun c3 => ?_) (fun c3 => ?_)
  · rw [if_pos c3] at hf
    obtain ⟨rfl, rfl⟩ := pp_some hf
    exact ke _ rfl _ _ _ _ _ hW (lv_sub hl [0] rfl)
  · rw [if_neg c3] at hf
    refine lv_lload hx hb dX10_divisor_35 (lv_at hl 0 rfl) ?_
    refine lv_lload hx hb dX10_divisor_37 (lv_at hl 1 rfl) ?_
    by_cases c4 : x6 = 0
    · rw [if_pos c4] at hf
      exact (pf_no hf).elim
    rw [if_neg c4] at hf
    refine lv_lrem hx hb dX10_divisor_39 c4 ?_
    refine lv_lstore (lv' := [(8, .long (x4 - x4 / x6 * x6)), (4, .long x4), (6, .long x6)]) hx hb dX10_divisor_40 hl (by decide) rfl (fun ls hl => ?_)
    refine lv_lload hx hb dX10_divisor_42 (lv_at hl 2 rfl) ?_
    refine lv_lstore (lv' := [(4, .long x6), (8, .long (x4 - x4 / x6 * x6)), (6, .long x6)]) hx hb dX10_divisor_44 hl (by decide) rfl (fun ls hl => ?_)
    refine lv_lload hx hb dX10_divisor_46 (lv_at hl 1 rfl) ?_
    refine lv_lstore (lv' := [(6, .long (x4 - x4 / x6 * x6)), (4, .long x6), (8, .long (x4 - x4 / x6 * x6))]) hx hb dX10_divisor_48 hl (by decide) rfl (fun ls hl => ?_)
    refine lv_goto (tgt := 28) hx hb dX10_divisor_50 (by decide) ?_
    obtain ⟨rfl, rfl⟩ := pp_some hf
    exact kc _ rfl _ _ _ _ _ hW (lv_sub hl [1, 0] rfl)
set_option maxHeartbeats 4000000 in
theorem wX10_divisor_L28 {p : Program} {l : Launch} {e : Env} {s : State} {m : MethodId} {args : Array Value} {below : List Frame} {meth : Method} {c : Code} {G : GG} {ρ : Nat → Nat} {h0 hE hB : PH} {Q : State → Prop}  (C : Cx G "PairSymbolsModel" cX10_divisor 10 (some .long) "diviso\x72" p s m args meth c) {z : (Int64)} (n : Nat) : ∀ (x : Int64 × Int64) {h : PH} {H : Heap} {locs : List Loc} {cells slots : Nat} {ls : Array Slot}, (plo (fX10_divisor_B28 ) n x).1 h = some (z, hB) → Ext hB hE → Wd G ρ h0.length (sl h0) s.heap h H locs cells slots → lv_has ls 10 [(4, .long x.1), (6, .long x.2)] → (ke : ∀ (H : Heap) (locs : List Loc) (c1 s1 : Nat) (ls : Array Slot), Wd G ρ h0.length (sl h0) s.heap hB H locs c1 s1 → lv_has ls 10 [(4, .long z)] → W p l e (RM 0 0 h0 hE) s m args below meth c H locs c1 s1 Q (F0 m 53 ls [])) → W p l e (RM 0 0 h0 hE) s m args below meth c H locs cells slots Q (F0 m 28 ls []) := by
  induction n with
  | zero =>
    intro x h H locs cells slots ls hf
    rw [plo_0] at hf
    exact (pf_no hf).elim
  | succ n ih =>
    intro x h H locs cells slots ls hf hX hW hl ke
    rw [plo_s] at hf
    obtain ⟨r, h1, e1, hf⟩ := pb_some hf
    unfold fX10_divisor_B28 at e1
    rw [frJ_eq, frJ_eq] at e1
    refine wX10_divisor_B28 C e1 ((pext hf).tr hX) hW hl (fun y hr H locs c1 s1 ls hW hl => ?_) (fun y hr H locs c1 s1 ls hW hl => ?_)
    · subst hr
      exact ih y hf hX hW hl ke
    · subst hr
      obtain ⟨rfl, rfl⟩ := pp_some hf
      exact ke H locs c1 s1 ls hW hl
set_option maxHeartbeats 4000000 in
set_option maxRecDepth 100000 in
theorem metX10_divisor (l : Launch) (G : GG) (ρ : Nat → Nat) {z : Nat} {x0 : Int64} {x2 : Int64} {h hE : PH} {v : Int64} (hf : (fX10_divisor x0 x2).1 h = some (v, hE)) : Met l yX10_divisor (wsY yX10_divisor cX10_divisor 10 (some .long)) (RM 0 0 h hE) (va_Pc [.long x0, .long x2] (PcB G ρ h z)) (QL G ρ v hE h.length z) (DC h hE) (DS h hE) (Af ρ h.length z) := by
  refine met_start (by decide) (Nat.le_of_ble_eq_true rfl) ?_
  intro p e s m below meth c ls hz C hW hl
  subst hz
  have C : Cx G "PairSymbolsModel" cX10_divisor 10 (some .long) "diviso\x72" p s m _ meth c := C
  have hx := C.1
  have hb := C.2.1
  have hX : Ext hE hE := Ext.rf hE
  have hl : lv_has ls 10 [(0, .long x0), (2, .long x2)] := hl
  have hW : Wd G ρ h.length (sl h) s.heap h s.heap [] 0 0 := hW
  unfold fX10_divisor at hf
  refine lv_lload_n hx hb dX10_divisor_0 rfl (lv_at hl 0 rfl) ?_
  refine lv_lconst (v := 0) hx hb dX10_divisor_1 (by decide) ?_
  refine W.lcmp hx hb dX10_divisor_2 ?_
  refine lv_if_ge (tgt := 11) hx hb dX10_divisor_3 (by decide) (fun c1 => ?_) (fun c1 => ?_)
  · rw [if_pos c1] at hf
    refine lv_lload_n hx hb dX10_divisor_11 rfl (lv_at hl 0 rfl) ?_
    refine lv_lstore (lv' := [(4, .long x0), (0, .long x0), (2, .long x2)]) hx hb dX10_divisor_12 hl (by decide) rfl (fun ls hl => ?_)
    refine lv_lload_n hx hb dX10_divisor_14 rfl (lv_at hl 2 rfl) ?_
    refine lv_lconst (v := 0) hx hb dX10_divisor_15 (by decide) ?_
    refine W.lcmp hx hb dX10_divisor_16 ?_
    refine lv_if_ge (tgt := 25) hx hb dX10_divisor_17 (by decide) (fun c2 => ?_) (fun c2 => ?_)
    · rw [if_pos c2] at hf
      refine lv_lload_n hx hb dX10_divisor_25 rfl (lv_at hl 2 rfl) ?_
      refine lv_lstore (lv' := [(6, .long x2), (4, .long x0), (0, .long x0), (2, .long x2)]) hx hb dX10_divisor_26 hl (by decide) rfl (fun ls hl => ?_)
      obtain ⟨z5, h5, e5, hf⟩ := pb_some hf
      refine wX10_divisor_L28 C fu _ e5 ((pext hf).tr hX) hW (lv_sub hl [1, 0] rfl) (fun H locs c1 s1 ls hW hl => ?_)
      refine lv_lload hx hb dX10_divisor_53 (lv_at hl 0 rfl) ?_
      obtain ⟨rfl, rfl⟩ := pp_some hf
      exact r_lret C hW dX10_divisor_55
    · rw [if_neg c2] at hf
      refine lv_lload_n hx hb dX10_divisor_20 rfl (lv_at hl 2 rfl) ?_
      refine lv_lneg hx hb dX10_divisor_21 ?_
      refine lv_goto (tgt := 26) hx hb dX10_divisor_22 (by decide) ?_
      refine lv_lstore (lv' := [(6, .long (-x2)), (4, .long x0), (0, .long x0), (2, .long x2)]) hx hb dX10_divisor_26 hl (by decide) rfl (fun ls hl => ?_)
      obtain ⟨z6, h6, e6, hf⟩ := pb_some hf
      refine wX10_divisor_L28 C fu _ e6 ((pext hf).tr hX) hW (lv_sub hl [1, 0] rfl) (fun H locs c1 s1 ls hW hl => ?_)
      refine lv_lload hx hb dX10_divisor_53 (lv_at hl 0 rfl) ?_
      obtain ⟨rfl, rfl⟩ := pp_some hf
      exact r_lret C hW dX10_divisor_55
  · rw [if_neg c1] at hf
    refine lv_lload_n hx hb dX10_divisor_6 rfl (lv_at hl 0 rfl) ?_
    refine lv_lneg hx hb dX10_divisor_7 ?_
    refine lv_goto (tgt := 12) hx hb dX10_divisor_8 (by decide) ?_
    refine lv_lstore (lv' := [(4, .long (-x0)), (0, .long x0), (2, .long x2)]) hx hb dX10_divisor_12 hl (by decide) rfl (fun ls hl => ?_)
    refine lv_lload_n hx hb dX10_divisor_14 rfl (lv_at hl 2 rfl) ?_
    refine lv_lconst (v := 0) hx hb dX10_divisor_15 (by decide) ?_
    refine W.lcmp hx hb dX10_divisor_16 ?_
    refine lv_if_ge (tgt := 25) hx hb dX10_divisor_17 (by decide) (fun c7 => ?_) (fun c7 => ?_)
    · rw [if_pos c7] at hf
      refine lv_lload_n hx hb dX10_divisor_25 rfl (lv_at hl 2 rfl) ?_
      refine lv_lstore (lv' := [(6, .long x2), (4, .long (-x0)), (0, .long x0), (2, .long x2)]) hx hb dX10_divisor_26 hl (by decide) rfl (fun ls hl => ?_)
      obtain ⟨z8, h8, e8, hf⟩ := pb_some hf
      refine wX10_divisor_L28 C fu _ e8 ((pext hf).tr hX) hW (lv_sub hl [1, 0] rfl) (fun H locs c1 s1 ls hW hl => ?_)
      refine lv_lload hx hb dX10_divisor_53 (lv_at hl 0 rfl) ?_
      obtain ⟨rfl, rfl⟩ := pp_some hf
      exact r_lret C hW dX10_divisor_55
    · rw [if_neg c7] at hf
      refine lv_lload_n hx hb dX10_divisor_20 rfl (lv_at hl 2 rfl) ?_
      refine lv_lneg hx hb dX10_divisor_21 ?_
      refine lv_goto (tgt := 26) hx hb dX10_divisor_22 (by decide) ?_
      refine lv_lstore (lv' := [(6, .long (-x2)), (4, .long (-x0)), (0, .long x0), (2, .long x2)]) hx hb dX10_divisor_26 hl (by decide) rfl (fun ls hl => ?_)
      obtain ⟨z9, h9, e9, hf⟩ := pb_some hf
      refine wX10_divisor_L28 C fu _ e9 ((pext hf).tr hX) hW (lv_sub hl [1, 0] rfl) (fun H locs c1 s1 ls hW hl => ?_)
      refine lv_lload hx hb dX10_divisor_53 (lv_at hl 0 rfl) ?_
      obtain ⟨rfl, rfl⟩ := pp_some hf
      exact r_lret C hW dX10_divisor_55

theorem dX10_lowest_0 : decode cX10_lowest 0 = .ok (.lload_n 1, 1) := by decide +kernel
theorem dX10_lowest_1 : decode cX10_lowest 1 = .ok (.lload_n 3, 1) := by decide +kernel
theorem dX10_lowest_2 : decode cX10_lowest 2 = .ok (.invokestatic 129, 3) := by decide +kernel
theorem dX10_lowest_5 : decode cX10_lowest 5 = .ok (.lstore 5, 2) := by decide +kernel
theorem dX10_lowest_7 : decode cX10_lowest 7 = .ok (.lload_n 3, 1) := by decide +kernel
theorem dX10_lowest_8 : decode cX10_lowest 8 = .ok (.lconst 0, 1) := by decide +kernel
theorem dX10_lowest_9 : decode cX10_lowest 9 = .ok (.lcmp, 1) := by decide +kernel
theorem dX10_lowest_10 : decode cX10_lowest 10 = .ok (.ifCond .ge 9, 3) := by decide +kernel
theorem dX10_lowest_13 : decode cX10_lowest 13 = .ok (.lload 5, 2) := by decide +kernel
theorem dX10_lowest_15 : decode cX10_lowest 15 = .ok (.lneg, 1) := by decide +kernel
theorem dX10_lowest_16 : decode cX10_lowest 16 = .ok (.goto 5, 3) := by decide +kernel
theorem dX10_lowest_19 : decode cX10_lowest 19 = .ok (.lload 5, 2) := by decide +kernel
theorem dX10_lowest_21 : decode cX10_lowest 21 = .ok (.lstore 5, 2) := by decide +kernel
theorem dX10_lowest_23 : decode cX10_lowest 23 = .ok (.aload_n 0, 1) := by decide +kernel
theorem dX10_lowest_24 : decode cX10_lowest 24 = .ok (.lload_n 1, 1) := by decide +kernel
theorem dX10_lowest_25 : decode cX10_lowest 25 = .ok (.lload 5, 2) := by decide +kernel
theorem dX10_lowest_27 : decode cX10_lowest 27 = .ok (.ldiv, 1) := by decide +kernel
theorem dX10_lowest_28 : decode cX10_lowest 28 = .ok (.putfield 133, 3) := by decide +kernel
theorem dX10_lowest_31 : decode cX10_lowest 31 = .ok (.aload_n 0, 1) := by decide +kernel
theorem dX10_lowest_32 : decode cX10_lowest 32 = .ok (.lload_n 3, 1) := by decide +kernel
theorem dX10_lowest_33 : decode cX10_lowest 33 = .ok (.lload 5, 2) := by decide +kernel
theorem dX10_lowest_35 : decode cX10_lowest 35 = .ok (.ldiv, 1) := by decide +kernel
theorem dX10_lowest_36 : decode cX10_lowest 36 = .ok (.putfield 137, 3) := by decide +kernel
theorem dX10_lowest_39 : decode cX10_lowest 39 = .ok (.return_, 1) := by decide +kernel
theorem kcX10_lowest : Cond.code yX10_lowest cX10_lowest 7 none ∈ tb := tq q_906 rfl
theorem knX10_lowest : Cond.initialized yX10_lowest.cls ∈ tb := (tq q_10 rfl)
theorem kdX10_lowest : yX10_lowest.cls ≠ "java/lang/invoke/MethodHandle" ∧ yX10_lowest.cls ≠ "java/lang/invoke/VarHandle" ∧ (parseMethodDescriptor yX10_lowest.desc).map (fun d => d.parameters.length) = some 2 := ⟨by decide +kernel, by decide +kernel, by decide +kernel⟩
theorem kiX10_lowest : Cond.instanceMethod yX10_lowest ∈ tb := (tq q_905 rfl)
theorem ksX10_lowest : Cond.selects yX10_lowest.cls yX10_lowest yX10_lowest ∈ tb := (tq z_39 rfl)
theorem tgX10_lowest {x0 : Nat} {x1 : Int64} {x3 : Int64} {h : PH} {r : Unit × PH} (hf : (fX10_lowest x0 x1 x3).1 h = some r) : ∃ n x, nth h x0 = some (9, n, x) := by
  obtain ⟨_, _, e, _⟩ := pb_some hf
  exact (chk_some e).2
set_option maxHeartbeats 4000000 in
set_option maxRecDepth 100000 in
theorem metX10_lowest (l : Launch) (G : GG) (ρ : Nat → Nat) {z : Nat} {x0 : Nat} {x1 : Int64} {x3 : Int64} {h hE : PH} {v : Unit} (hf : (fX10_lowest x0 x1 x3).1 h = some (v, hE)) : Met l yX10_lowest (wsY yX10_lowest cX10_lowest 7 none) (RM 1 29 h hE) (va_Pc [.ref (ρ x0), .long x1, .long x3] (PcB G ρ h z)) (QV G ρ hE h.length z) (DC h hE) (DS h hE) (Af ρ h.length z) := by
  refine met_start (by decide) (Nat.le_of_ble_eq_true rfl) ?_
  intro p e s m below meth c ls hz C hW hl
  subst hz
  have C : Cx G "PairSymbolsModel" cX10_lowest 7 none "lowest" p s m _ meth c := C
  have hx := C.1
  have hb := C.2.1
  have hX : Ext hE hE := Ext.rf hE
  have hl : lv_has ls 7 [(0, .ref (ρ x0)), (1, .long x1), (3, .long x3)] := hl
  have hW : Wd G ρ h.length (sl h) s.heap h s.heap [] 0 0 := hW
  unfold fX10_lowest at hf
  obtain ⟨_, e0, hf⟩ := pb_rd (rd_chk _ _) hf
  refine lv_lload_n hx hb dX10_lowest_0 rfl (lv_at hl 1 rfl) ?_
  refine lv_lload_n hx hb dX10_lowest_1 rfl (lv_at hl 2 rfl) ?_
  obtain ⟨v1, h1, e1, hf⟩ := pb_some hf
  refine r_calll hW (pext e1) (run_S (As := [.long x1, .long x3]) (rest := []) C hW (metX10_divisor l G ρ e1) ⟨rfl, rfl⟩ kcX10_divisor (tq q_865 rfl) kiX10_divisor knX10_divisor kdX10_divisor ⟨Nat.le_of_ble_eq_true rfl, Nat.le_of_ble_eq_true rfl⟩ hl.1 (Nat.le_of_ble_eq_true rfl) (room_of hW (pext e1) ((pext hf).tr hX)) dX10_lowest_2 rfl) (fun H locs c1 s1 hW => ?_)
  refine lv_lstore (lv' := [(5, .long v1), (0, .ref (ρ x0)), (1, .long x1), (3, .long x3)]) hx hb dX10_lowest_5 hl (by decide) rfl (fun ls hl => ?_)
  refine lv_lload_n hx hb dX10_lowest_7 rfl (lv_at hl 3 rfl) ?_
  refine lv_lconst (v := 0) hx hb dX10_lowest_8 (by decide) ?_
  refine W.lcmp hx hb dX10_lowest_9 ?_
  refine lv_if_ge (tgt := 19) hx hb dX10_lowest_10 (by decide) (fun c2 => ?_) (fun c2 => ?_)
  · rw [if_pos c2] at hf
    refine lv_lload hx hb dX10_lowest_19 (lv_at hl 0 rfl) ?_
    refine lv_lstore (lv' := [(5, .long v1), (0, .ref (ρ x0)), (1, .long x1), (3, .long x3)]) hx hb dX10_lowest_21 hl (by decide) rfl (fun ls hl => ?_)
    refine lv_aload_n hx hb dX10_lowest_23 rfl (lv_at hl 1 rfl) ?_
    refine lv_lload_n hx hb dX10_lowest_24 rfl (lv_at hl 2 rfl) ?_
    refine lv_lload hx hb dX10_lowest_25 (lv_at hl 0 rfl) ?_
    by_cases c3 : v1 = 0
    · rw [if_pos c3] at hf
      exact (pf_no hf).elim
    rw [if_neg c3] at hf
    refine lv_ldiv hx hb dX10_lowest_27 c3 ?_
    obtain ⟨_, h4, e4, hf⟩ := pb_some hf
    refine r_sJ C hW e4 flX10_133 (Or.inl rfl) rfl dX10_lowest_28 (fun H locs hW => ?_)
    refine lv_aload_n hx hb dX10_lowest_31 rfl (lv_at hl 1 rfl) ?_
    refine lv_lload_n hx hb dX10_lowest_32 rfl (lv_at hl 3 rfl) ?_
    refine lv_lload hx hb dX10_lowest_33 (lv_at hl 0 rfl) ?_
    by_cases c5 : v1 = 0
    · rw [if_pos c5] at hf
      exact (pf_no hf).elim
    rw [if_neg c5] at hf
    refine lv_ldiv hx hb dX10_lowest_35 c5 ?_
    obtain ⟨_, h6, e6, hf⟩ := pb_some hf
    refine r_sJ C hW e6 flX10_137 (Or.inl rfl) rfl dX10_lowest_36 (fun H locs hW => ?_)
    obtain ⟨rfl, rfl⟩ := pp_some hf
    exact r_vret C hW dX10_lowest_39
  · rw [if_neg c2] at hf
    refine lv_lload hx hb dX10_lowest_13 (lv_at hl 0 rfl) ?_
    refine lv_lneg hx hb dX10_lowest_15 ?_
    refine lv_goto (tgt := 21) hx hb dX10_lowest_16 (by decide) ?_
    refine lv_lstore (lv' := [(5, .long (-v1)), (0, .ref (ρ x0)), (1, .long x1), (3, .long x3)]) hx hb dX10_lowest_21 hl (by decide) rfl (fun ls hl => ?_)
    refine lv_aload_n hx hb dX10_lowest_23 rfl (lv_at hl 1 rfl) ?_
    refine lv_lload_n hx hb dX10_lowest_24 rfl (lv_at hl 2 rfl) ?_
    refine lv_lload hx hb dX10_lowest_25 (lv_at hl 0 rfl) ?_
    by_cases c7 : (-v1) = 0
    · rw [if_pos c7] at hf
      exact (pf_no hf).elim
    rw [if_neg c7] at hf
    refine lv_ldiv hx hb dX10_lowest_27 c7 ?_
    obtain ⟨_, h8, e8, hf⟩ := pb_some hf
    refine r_sJ C hW e8 flX10_133 (Or.inl rfl) rfl dX10_lowest_28 (fun H locs hW => ?_)
    refine lv_aload_n hx hb dX10_lowest_31 rfl (lv_at hl 1 rfl) ?_
    refine lv_lload_n hx hb dX10_lowest_32 rfl (lv_at hl 3 rfl) ?_
    refine lv_lload hx hb dX10_lowest_33 (lv_at hl 0 rfl) ?_
    by_cases c9 : (-v1) = 0
    · rw [if_pos c9] at hf
      exact (pf_no hf).elim
    rw [if_neg c9] at hf
    refine lv_ldiv hx hb dX10_lowest_35 c9 ?_
    obtain ⟨_, h10, e10, hf⟩ := pb_some hf
    refine r_sJ C hW e10 flX10_137 (Or.inl rfl) rfl dX10_lowest_36 (fun H locs hW => ?_)
    obtain ⟨rfl, rfl⟩ := pp_some hf
    exact r_vret C hW dX10_lowest_39

theorem dX10_sumOf_0 : decode cX10_sumOf 0 = .ok (.aload_n 0, 1) := by decide +kernel
theorem dX10_sumOf_1 : decode cX10_sumOf 1 = .ok (.lload_n 1, 1) := by decide +kernel
theorem dX10_sumOf_2 : decode cX10_sumOf 2 = .ok (.lload 7, 2) := by decide +kernel
theorem dX10_sumOf_4 : decode cX10_sumOf 4 = .ok (.lmul, 1) := by decide +kernel
theorem dX10_sumOf_5 : decode cX10_sumOf 5 = .ok (.lload 5, 2) := by decide +kernel
theorem dX10_sumOf_7 : decode cX10_sumOf 7 = .ok (.lload_n 3, 1) := by decide +kernel
theorem dX10_sumOf_8 : decode cX10_sumOf 8 = .ok (.lmul, 1) := by decide +kernel
theorem dX10_sumOf_9 : decode cX10_sumOf 9 = .ok (.ladd, 1) := by decide +kernel
theorem dX10_sumOf_10 : decode cX10_sumOf 10 = .ok (.lload_n 3, 1) := by decide +kernel
theorem dX10_sumOf_11 : decode cX10_sumOf 11 = .ok (.lload 7, 2) := by decide +kernel
theorem dX10_sumOf_13 : decode cX10_sumOf 13 = .ok (.lmul, 1) := by decide +kernel
theorem dX10_sumOf_14 : decode cX10_sumOf 14 = .ok (.invokevirtual 140, 3) := by decide +kernel
theorem dX10_sumOf_17 : decode cX10_sumOf 17 = .ok (.return_, 1) := by decide +kernel
theorem kcX10_sumOf : Cond.code yX10_sumOf cX10_sumOf 9 none ∈ tb := tq q_902 rfl
theorem knX10_sumOf : Cond.initialized yX10_sumOf.cls ∈ tb := (tq q_10 rfl)
theorem kdX10_sumOf : yX10_sumOf.cls ≠ "java/lang/invoke/MethodHandle" ∧ yX10_sumOf.cls ≠ "java/lang/invoke/VarHandle" ∧ (parseMethodDescriptor yX10_sumOf.desc).map (fun d => d.parameters.length) = some 4 := ⟨by decide +kernel, by decide +kernel, by decide +kernel⟩
theorem kiX10_sumOf : Cond.instanceMethod yX10_sumOf ∈ tb := (tq q_901 rfl)
theorem ksX10_sumOf : Cond.selects yX10_sumOf.cls yX10_sumOf yX10_sumOf ∈ tb := (tq z_38 rfl)
theorem tgX10_sumOf {x0 : Nat} {x1 : Int64} {x3 : Int64} {x5 : Int64} {x7 : Int64} {h : PH} {r : Unit × PH} (hf : (fX10_sumOf x0 x1 x3 x5 x7).1 h = some r) : ∃ n x, nth h x0 = some (9, n, x) := by
  obtain ⟨_, _, e, _⟩ := pb_some hf
  exact (chk_some e).2
set_option maxHeartbeats 4000000 in
set_option maxRecDepth 100000 in
theorem metX10_sumOf (l : Launch) (G : GG) (ρ : Nat → Nat) {z : Nat} {x0 : Nat} {x1 : Int64} {x3 : Int64} {x5 : Int64} {x7 : Int64} {h hE : PH} {v : Unit} (hf : (fX10_sumOf x0 x1 x3 x5 x7).1 h = some (v, hE)) : Met l yX10_sumOf (wsY yX10_sumOf cX10_sumOf 9 none) (RM 2 55 h hE) (va_Pc [.ref (ρ x0), .long x1, .long x3, .long x5, .long x7] (PcB G ρ h z)) (QV G ρ hE h.length z) (DC h hE) (DS h hE) (Af ρ h.length z) := by
  refine met_start (by decide) (Nat.le_of_ble_eq_true rfl) ?_
  intro p e s m below meth c ls hz C hW hl
  subst hz
  have C : Cx G "PairSymbolsModel" cX10_sumOf 9 none "sumOf" p s m _ meth c := C
  have hx := C.1
  have hb := C.2.1
  have hX : Ext hE hE := Ext.rf hE
  have hl : lv_has ls 9 [(0, .ref (ρ x0)), (1, .long x1), (3, .long x3), (5, .long x5), (7, .long x7)] := hl
  have hW : Wd G ρ h.length (sl h) s.heap h s.heap [] 0 0 := hW
  unfold fX10_sumOf at hf
  obtain ⟨_, e0, hf⟩ := pb_rd (rd_chk _ _) hf
  refine lv_aload_n hx hb dX10_sumOf_0 rfl (lv_at hl 0 rfl) ?_
  refine lv_lload_n hx hb dX10_sumOf_1 rfl (lv_at hl 1 rfl) ?_
  refine lv_lload hx hb dX10_sumOf_2 (lv_at hl 4 rfl) ?_
  refine lv_lmul hx hb dX10_sumOf_4 ?_
  refine lv_lload hx hb dX10_sumOf_5 (lv_at hl 3 rfl) ?_
  refine lv_lload_n hx hb dX10_sumOf_7 rfl (lv_at hl 2 rfl) ?_
  refine lv_lmul hx hb dX10_sumOf_8 ?_
  refine lv_ladd hx hb dX10_sumOf_9 ?_
  refine lv_lload_n hx hb dX10_sumOf_10 rfl (lv_at hl 2 rfl) ?_
  refine lv_lload hx hb dX10_sumOf_11 (lv_at hl 4 rfl) ?_
  refine lv_lmul hx hb dX10_sumOf_13 ?_
  obtain ⟨_, h1, e1, hf⟩ := pb_some hf
  obtain ⟨_, _, t2⟩ := tgX10_lowest e1
  refine r_callv hW (pext e1) (run_V (b := x0) (As := [.long ((x1 * x7) + (x5 * x3)), .long (x3 * x7)]) (rest := []) C hW (metX10_lowest l G ρ e1) ⟨rfl, rfl⟩ kcX10_lowest (tq q_903 rfl) kiX10_lowest ksX10_lowest knX10_lowest kdX10_lowest t2 rfl rfl ⟨Nat.le_of_ble_eq_true rfl, Nat.le_of_ble_eq_true rfl⟩ hl.1 (Nat.le_of_ble_eq_true rfl) (room_of hW (pext e1) ((pext hf).tr hX)) dX10_sumOf_14 rfl) (fun H locs c1 s1 hW => ?_)
  obtain ⟨rfl, rfl⟩ := pp_some hf
  exact r_vret C hW dX10_sumOf_17

theorem dX10_more_0 : decode cX10_more 0 = .ok (.aload_n 0, 1) := by decide +kernel
theorem dX10_more_1 : decode cX10_more 1 = .ok (.lload 5, 2) := by decide +kernel
theorem dX10_more_3 : decode cX10_more 3 = .ok (.lload 9, 2) := by decide +kernel
theorem dX10_more_5 : decode cX10_more 5 = .ok (.lmul, 1) := by decide +kernel
theorem dX10_more_6 : decode cX10_more 6 = .ok (.lload 7, 2) := by decide +kernel
theorem dX10_more_8 : decode cX10_more 8 = .ok (.lload 11, 2) := by decide +kernel
theorem dX10_more_10 : decode cX10_more 10 = .ok (.lmul, 1) := by decide +kernel
theorem dX10_more_11 : decode cX10_more 11 = .ok (.invokevirtual 140, 3) := by decide +kernel
theorem dX10_more_14 : decode cX10_more 14 = .ok (.aload_n 0, 1) := by decide +kernel
theorem dX10_more_15 : decode cX10_more 15 = .ok (.lload_n 1, 1) := by decide +kernel
theorem dX10_more_16 : decode cX10_more 16 = .ok (.lload_n 3, 1) := by decide +kernel
theorem dX10_more_17 : decode cX10_more 17 = .ok (.aload_n 0, 1) := by decide +kernel
theorem dX10_more_18 : decode cX10_more 18 = .ok (.getfield 133, 3) := by decide +kernel
theorem dX10_more_21 : decode cX10_more 21 = .ok (.aload_n 0, 1) := by decide +kernel
theorem dX10_more_22 : decode cX10_more 22 = .ok (.getfield 137, 3) := by decide +kernel
theorem dX10_more_25 : decode cX10_more 25 = .ok (.invokevirtual 144, 3) := by decide +kernel
theorem dX10_more_28 : decode cX10_more 28 = .ok (.return_, 1) := by decide +kernel
theorem kcX10_more : Cond.code yX10_more cX10_more 13 none ∈ tb := tq q_922 rfl
theorem knX10_more : Cond.initialized yX10_more.cls ∈ tb := (tq q_10 rfl)
theorem kdX10_more : yX10_more.cls ≠ "java/lang/invoke/MethodHandle" ∧ yX10_more.cls ≠ "java/lang/invoke/VarHandle" ∧ (parseMethodDescriptor yX10_more.desc).map (fun d => d.parameters.length) = some 6 := ⟨by decide +kernel, by decide +kernel, by decide +kernel⟩
theorem kiX10_more : Cond.instanceMethod yX10_more ∈ tb := (tq q_921 rfl)
theorem ksX10_more : Cond.selects yX10_more.cls yX10_more yX10_more ∈ tb := (tq z_43 rfl)
theorem tgX10_more {x0 : Nat} {x1 : Int64} {x3 : Int64} {x5 : Int64} {x7 : Int64} {x9 : Int64} {x11 : Int64} {h : PH} {r : Unit × PH} (hf : (fX10_more x0 x1 x3 x5 x7 x9 x11).1 h = some r) : ∃ n x, nth h x0 = some (9, n, x) := by
  obtain ⟨_, _, e, _⟩ := pb_some hf
  exact (chk_some e).2
set_option maxHeartbeats 4000000 in
set_option maxRecDepth 100000 in
theorem metX10_more (l : Launch) (G : GG) (ρ : Nat → Nat) {z : Nat} {x0 : Nat} {x1 : Int64} {x3 : Int64} {x5 : Int64} {x7 : Int64} {x9 : Int64} {x11 : Int64} {h hE : PH} {v : Unit} (hf : (fX10_more x0 x1 x3 x5 x7 x9 x11).1 h = some (v, hE)) : Met l yX10_more (wsY yX10_more cX10_more 13 none) (RM 3 83 h hE) (va_Pc [.ref (ρ x0), .long x1, .long x3, .long x5, .long x7, .long x9, .long x11] (PcB G ρ h z)) (QV G ρ hE h.length z) (DC h hE) (DS h hE) (Af ρ h.length z) := by
  refine met_start (by decide) (Nat.le_of_ble_eq_true rfl) ?_
  intro p e s m below meth c ls hz C hW hl
  subst hz
  have C : Cx G "PairSymbolsModel" cX10_more 13 none "more" p s m _ meth c := C
  have hx := C.1
  have hb := C.2.1
  have hX : Ext hE hE := Ext.rf hE
  have hl : lv_has ls 13 [(0, .ref (ρ x0)), (1, .long x1), (3, .long x3), (5, .long x5), (7, .long x7), (9, .long x9), (11, .long x11)] := hl
  have hW : Wd G ρ h.length (sl h) s.heap h s.heap [] 0 0 := hW
  unfold fX10_more at hf
  obtain ⟨_, e0, hf⟩ := pb_rd (rd_chk _ _) hf
  refine lv_aload_n hx hb dX10_more_0 rfl (lv_at hl 0 rfl) ?_
  refine lv_lload hx hb dX10_more_1 (lv_at hl 3 rfl) ?_
  refine lv_lload hx hb dX10_more_3 (lv_at hl 5 rfl) ?_
  refine lv_lmul hx hb dX10_more_5 ?_
  refine lv_lload hx hb dX10_more_6 (lv_at hl 4 rfl) ?_
  refine lv_lload hx hb dX10_more_8 (lv_at hl 6 rfl) ?_
  refine lv_lmul hx hb dX10_more_10 ?_
  obtain ⟨_, h1, e1, hf⟩ := pb_some hf
  obtain ⟨_, _, t2⟩ := tgX10_lowest e1
  refine r_callv hW (pext e1) (run_V (b := x0) (As := [.long (x5 * x9), .long (x7 * x11)]) (rest := []) C hW (metX10_lowest l G ρ e1) ⟨rfl, rfl⟩ kcX10_lowest (tq q_903 rfl) kiX10_lowest ksX10_lowest knX10_lowest kdX10_lowest t2 rfl rfl ⟨Nat.le_of_ble_eq_true rfl, Nat.le_of_ble_eq_true rfl⟩ hl.1 (Nat.le_of_ble_eq_true rfl) (room_of hW (pext e1) ((pext hf).tr hX)) dX10_more_11 rfl) (fun H locs c1 s1 hW => ?_)
  refine lv_aload_n hx hb dX10_more_14 rfl (lv_at hl 0 rfl) ?_
  refine lv_lload_n hx hb dX10_more_15 rfl (lv_at hl 1 rfl) ?_
  refine lv_lload_n hx hb dX10_more_16 rfl (lv_at hl 2 rfl) ?_
  refine lv_aload_n hx hb dX10_more_17 rfl (lv_at hl 0 rfl) ?_
  obtain ⟨v3, e3, hf⟩ := pb_rd (rd_gJ _ _ _) hf
  refine r_gJ C hW e3 flX10_133 rfl dX10_more_18 ?_
  refine lv_aload_n hx hb dX10_more_21 rfl (lv_at hl 0 rfl) ?_
  obtain ⟨v4, e4, hf⟩ := pb_rd (rd_gJ _ _ _) hf
  refine r_gJ C hW e4 flX10_137 rfl dX10_more_22 ?_
  obtain ⟨_, h5, e5, hf⟩ := pb_some hf
  obtain ⟨_, _, t6⟩ := tgX10_sumOf e5
  refine r_callv hW (pext e5) (run_V (b := x0) (As := [.long x1, .long x3, .long v3, .long v4]) (rest := []) C hW (metX10_sumOf l G ρ e5) ⟨rfl, rfl⟩ kcX10_sumOf (tq q_899 rfl) kiX10_sumOf ksX10_sumOf knX10_sumOf kdX10_sumOf t6 rfl rfl ⟨Nat.le_of_ble_eq_true rfl, Nat.le_of_ble_eq_true rfl⟩ hl.1 (Nat.le_of_ble_eq_true rfl) (room_of hW (pext e5) ((pext hf).tr hX)) dX10_more_25 rfl) (fun H locs c1 s1 hW => ?_)
  obtain ⟨rfl, rfl⟩ := pp_some hf
  exact r_vret C hW dX10_more_28

theorem dX10_over_0 : decode cX10_over 0 = .ok (.iload_n 0, 1) := by decide +kernel
theorem dX10_over_1 : decode cX10_over 1 = .ok (.iload_n 1, 1) := by decide +kernel
theorem dX10_over_2 : decode cX10_over 2 = .ok (.irem, 1) := by decide +kernel
theorem dX10_over_3 : decode cX10_over 3 = .ok (.istore_n 2, 1) := by decide +kernel
theorem dX10_over_4 : decode cX10_over 4 = .ok (.iload_n 2, 1) := by decide +kernel
theorem dX10_over_5 : decode cX10_over 5 = .ok (.ifCond .ge 9, 3) := by decide +kernel
theorem dX10_over_8 : decode cX10_over 8 = .ok (.iload_n 2, 1) := by decide +kernel
theorem dX10_over_9 : decode cX10_over 9 = .ok (.iload_n 1, 1) := by decide +kernel
theorem dX10_over_10 : decode cX10_over 10 = .ok (.iadd, 1) := by decide +kernel
theorem dX10_over_11 : decode cX10_over 11 = .ok (.goto 4, 3) := by decide +kernel
theorem dX10_over_14 : decode cX10_over 14 = .ok (.iload_n 2, 1) := by decide +kernel
theorem dX10_over_15 : decode cX10_over 15 = .ok (.ireturn, 1) := by decide +kernel
theorem kcX10_over : Cond.code yX10_over cX10_over 3 (some .int) ∈ tb := tq q_874 rfl
theorem knX10_over : Cond.initialized yX10_over.cls ∈ tb := (tq q_10 rfl)
theorem kdX10_over : yX10_over.cls ≠ "java/lang/invoke/MethodHandle" ∧ yX10_over.cls ≠ "java/lang/invoke/VarHandle" ∧ (parseMethodDescriptor yX10_over.desc).map (fun d => d.parameters.length) = some 2 := ⟨by decide +kernel, by decide +kernel, by decide +kernel⟩
theorem kiX10_over : Cond.static yX10_over ∈ tb := (tq q_873 rfl)
set_option maxHeartbeats 4000000 in
set_option maxRecDepth 100000 in
theorem metX10_over (l : Launch) (G : GG) (ρ : Nat → Nat) {z : Nat} {x0 : Int32} {x1 : Int32} {h hE : PH} {v : Int32} (hf : (fX10_over x0 x1).1 h = some (v, hE)) : Met l yX10_over (wsY yX10_over cX10_over 3 (some .int)) (RM 0 0 h hE) (va_Pc [.int x0, .int x1] (PcB G ρ h z)) (QI G ρ v hE h.length z) (DC h hE) (DS h hE) (Af ρ h.length z) := by
  refine met_start (by decide) (Nat.le_of_ble_eq_true rfl) ?_
  intro p e s m below meth c ls hz C hW hl
  subst hz
  have C : Cx G "PairSymbolsModel" cX10_over 3 (some .int) "ove\x72" p s m _ meth c := C
  have hx := C.1
  have hb := C.2.1
  have hX : Ext hE hE := Ext.rf hE
  have hl : lv_has ls 3 [(0, .int x0), (1, .int x1)] := hl
  have hW : Wd G ρ h.length (sl h) s.heap h s.heap [] 0 0 := hW
  unfold fX10_over at hf
  refine lv_iload_n hx hb dX10_over_0 rfl (lv_at hl 0 rfl) ?_
  refine lv_iload_n hx hb dX10_over_1 rfl (lv_at hl 1 rfl) ?_
  by_cases c1 : x1 = 0
  · rw [if_pos c1] at hf
    exact (pf_no hf).elim
  rw [if_neg c1] at hf
  refine lv_irem hx hb dX10_over_2 c1 ?_
  refine lv_istore_n (lv' := [(2, .int (x0 - x0 / x1 * x1)), (0, .int x0), (1, .int x1)]) hx hb dX10_over_3 rfl hl (by decide) rfl (fun ls hl => ?_)
  refine lv_iload_n hx hb dX10_over_4 rfl (lv_at hl 0 rfl) ?_
  refine lv_if_ge (tgt := 14) hx hb dX10_over_5 (by decide) (fun c2 => ?_) (fun c2 => ?_)
  · rw [if_pos c2] at hf
    refine lv_iload_n hx hb dX10_over_14 rfl (lv_at hl 0 rfl) ?_
    obtain ⟨rfl, rfl⟩ := pp_some hf
    exact r_iret C hW dX10_over_15
  · rw [if_neg c2] at hf
    refine lv_iload_n hx hb dX10_over_8 rfl (lv_at hl 0 rfl) ?_
    refine lv_iload_n hx hb dX10_over_9 rfl (lv_at hl 2 rfl) ?_
    refine lv_iadd hx hb dX10_over_10 ?_
    refine lv_goto (tgt := 15) hx hb dX10_over_11 (by decide) ?_
    obtain ⟨rfl, rfl⟩ := pp_some hf
    exact r_iret C hW dX10_over_15

theorem dX10_of_0 : decode cX10_of 0 = .ok (.aload_n 0, 1) := by decide +kernel
theorem dX10_of_1 : decode cX10_of 1 = .ok (.invokevirtual 148, 3) := by decide +kernel
theorem dX10_of_4 : decode cX10_of 4 = .ok (.istore_n 3, 1) := by decide +kernel
theorem dX10_of_5 : decode cX10_of 5 = .ok (.aload_n 0, 1) := by decide +kernel
theorem dX10_of_6 : decode cX10_of 6 = .ok (.getfield 23, 3) := by decide +kernel
theorem dX10_of_9 : decode cX10_of 9 = .ok (.bipush 25, 2) := by decide +kernel
theorem dX10_of_11 : decode cX10_of 11 = .ok (.iload_n 1, 1) := by decide +kernel
theorem dX10_of_12 : decode cX10_of 12 = .ok (.iload_n 3, 1) := by decide +kernel
theorem dX10_of_13 : decode cX10_of 13 = .ok (.invokestatic 152, 3) := by decide +kernel
theorem dX10_of_16 : decode cX10_of 16 = .ok (.imul, 1) := by decide +kernel
theorem dX10_of_17 : decode cX10_of 17 = .ok (.iload_n 2, 1) := by decide +kernel
theorem dX10_of_18 : decode cX10_of 18 = .ok (.iload_n 3, 1) := by decide +kernel
theorem dX10_of_19 : decode cX10_of 19 = .ok (.invokestatic 152, 3) := by decide +kernel
theorem dX10_of_22 : decode cX10_of 22 = .ok (.iadd, 1) := by decide +kernel
theorem dX10_of_23 : decode cX10_of 23 = .ok (.iaload, 1) := by decide +kernel
theorem dX10_of_24 : decode cX10_of 24 = .ok (.ireturn, 1) := by decide +kernel
theorem kcX10_of : Cond.code yX10_of cX10_of 4 (some .int) ∈ tb := tq q_871 rfl
theorem knX10_of : Cond.initialized yX10_of.cls ∈ tb := (tq q_10 rfl)
theorem kdX10_of : yX10_of.cls ≠ "java/lang/invoke/MethodHandle" ∧ yX10_of.cls ≠ "java/lang/invoke/VarHandle" ∧ (parseMethodDescriptor yX10_of.desc).map (fun d => d.parameters.length) = some 2 := ⟨by decide +kernel, by decide +kernel, by decide +kernel⟩
theorem kiX10_of : Cond.instanceMethod yX10_of ∈ tb := (tq q_870 rfl)
theorem ksX10_of : Cond.selects yX10_of.cls yX10_of yX10_of ∈ tb := (tq z_31 rfl)
theorem tgX10_of {x0 : Nat} {x1 : Int32} {x2 : Int32} {h : PH} {r : Int32 × PH} (hf : (fX10_of x0 x1 x2).1 h = some r) : ∃ n x, nth h x0 = some (9, n, x) := by
  obtain ⟨_, _, e, _⟩ := pb_some hf
  exact (chk_some e).2
set_option maxHeartbeats 4000000 in
set_option maxRecDepth 100000 in
theorem metX10_of (l : Launch) (G : GG) (ρ : Nat → Nat) {z : Nat} {x0 : Nat} {x1 : Int32} {x2 : Int32} {h hE : PH} {v : Int32} (hf : (fX10_of x0 x1 x2).1 h = some (v, hE)) : Met l yX10_of (wsY yX10_of cX10_of 4 (some .int)) (RM 1 22 h hE) (va_Pc [.ref (ρ x0), .int x1, .int x2] (PcB G ρ h z)) (QI G ρ v hE h.length z) (DC h hE) (DS h hE) (Af ρ h.length z) := by
  refine met_start (by decide) (Nat.le_of_ble_eq_true rfl) ?_
  intro p e s m below meth c ls hz C hW hl
  subst hz
  have C : Cx G "PairSymbolsModel" cX10_of 4 (some .int) "of" p s m _ meth c := C
  have hx := C.1
  have hb := C.2.1
  have hX : Ext hE hE := Ext.rf hE
  have hl : lv_has ls 4 [(0, .ref (ρ x0)), (1, .int x1), (2, .int x2)] := hl
  have hW : Wd G ρ h.length (sl h) s.heap h s.heap [] 0 0 := hW
  unfold fX10_of at hf
  obtain ⟨_, e0, hf⟩ := pb_rd (rd_chk _ _) hf
  refine lv_aload_n hx hb dX10_of_0 rfl (lv_at hl 0 rfl) ?_
  obtain ⟨v1, h1, e1, hf⟩ := pb_some hf
  obtain ⟨_, _, t2⟩ := tgX10_levelHere e1
  refine r_calli hW (pext e1) (run_V (b := x0) (As := []) (rest := []) C hW (metX10_levelHere l G ρ e1) ⟨rfl, rfl⟩ kcX10_levelHere (tq q_849 rfl) kiX10_levelHere ksX10_levelHere knX10_levelHere kdX10_levelHere t2 rfl rfl ⟨Nat.le_of_ble_eq_true rfl, Nat.le_of_ble_eq_true rfl⟩ hl.1 (Nat.le_of_ble_eq_true rfl) (room_of hW (pext e1) ((pext hf).tr hX)) dX10_of_1 rfl) (fun H locs c1 s1 hW => ?_)
  refine lv_istore_n (lv' := [(3, .int v1), (0, .ref (ρ x0)), (1, .int x1), (2, .int x2)]) hx hb dX10_of_4 rfl hl (by decide) rfl (fun ls hl => ?_)
  refine lv_aload_n hx hb dX10_of_5 rfl (lv_at hl 1 rfl) ?_
  obtain ⟨v3, e3, hf⟩ := pb_rd (rd_gA _ _ _) hf
  refine r_gA C hW e3 flX10_23 rfl dX10_of_6 ?_
  refine lv_bipush (v := 25) hx hb dX10_of_9 (by decide) ?_
  refine lv_iload_n hx hb dX10_of_11 rfl (lv_at hl 2 rfl) ?_
  refine lv_iload_n hx hb dX10_of_12 rfl (lv_at hl 0 rfl) ?_
  obtain ⟨v4, h4, e4, hf⟩ := pb_some hf
  refine r_calli hW (pext e4) (run_S (As := [.int x1, .int v1]) (rest := [.int (25 : Int32), .ref (ρ v3)]) C hW (metX10_over l G ρ e4) ⟨rfl, rfl⟩ kcX10_over (tq q_872 rfl) kiX10_over knX10_over kdX10_over ⟨Nat.le_of_ble_eq_true rfl, Nat.le_of_ble_eq_true rfl⟩ hl.1 (Nat.le_of_ble_eq_true rfl) (room_of hW (pext e4) ((pext hf).tr hX)) dX10_of_13 rfl) (fun H locs c1 s1 hW => ?_)
  refine lv_imul hx hb dX10_of_16 ?_
  refine lv_iload_n hx hb dX10_of_17 rfl (lv_at hl 3 rfl) ?_
  refine lv_iload_n hx hb dX10_of_18 rfl (lv_at hl 0 rfl) ?_
  obtain ⟨v5, h5, e5, hf⟩ := pb_some hf
  refine r_calli hW (pext e5) (run_S (As := [.int x2, .int v1]) (rest := [.int ((25 : Int32) * v4), .ref (ρ v3)]) C hW (metX10_over l G ρ e5) ⟨rfl, rfl⟩ kcX10_over (tq q_872 rfl) kiX10_over knX10_over kdX10_over ⟨Nat.le_of_ble_eq_true rfl, Nat.le_of_ble_eq_true rfl⟩ hl.1 (Nat.le_of_ble_eq_true rfl) (room_of hW (pext e5) ((pext hf).tr hX)) dX10_of_19 rfl) (fun H locs c1 s1 hW => ?_)
  refine lv_iadd hx hb dX10_of_22 ?_
  obtain ⟨v6, e6, hf⟩ := pb_rd (rd_lI _ _ _) hf
  refine r_iald C hW e6 dX10_of_23 ?_
  obtain ⟨rfl, rfl⟩ := pp_some hf
  exact r_iret C hW dX10_of_24

theorem dX10_isPair_0 : decode cX10_isPair 0 = .ok (.iload_n 1, 1) := by decide +kernel
theorem dX10_isPair_1 : decode cX10_isPair 1 = .ok (.i2l, 1) := by decide +kernel
theorem dX10_isPair_2 : decode cX10_isPair 2 = .ok (.iload_n 2, 1) := by decide +kernel
theorem dX10_isPair_3 : decode cX10_isPair 3 = .ok (.i2l, 1) := by decide +kernel
theorem dX10_isPair_4 : decode cX10_isPair 4 = .ok (.invokestatic 129, 3) := by decide +kernel
theorem dX10_isPair_7 : decode cX10_isPair 7 = .ok (.aload_n 0, 1) := by decide +kernel
theorem dX10_isPair_8 : decode cX10_isPair 8 = .ok (.invokevirtual 148, 3) := by decide +kernel
theorem dX10_isPair_11 : decode cX10_isPair 11 = .ok (.i2l, 1) := by decide +kernel
theorem dX10_isPair_12 : decode cX10_isPair 12 = .ok (.invokestatic 129, 3) := by decide +kernel
theorem dX10_isPair_15 : decode cX10_isPair 15 = .ok (.lconst 1, 1) := by decide +kernel
theorem dX10_isPair_16 : decode cX10_isPair 16 = .ok (.lcmp, 1) := by decide +kernel
theorem dX10_isPair_17 : decode cX10_isPair 17 = .ok (.ifCond .ne 7, 3) := by decide +kernel
theorem dX10_isPair_20 : decode cX10_isPair 20 = .ok (.iconst 1, 1) := by decide +kernel
theorem dX10_isPair_21 : decode cX10_isPair 21 = .ok (.goto 4, 3) := by decide +kernel
theorem dX10_isPair_24 : decode cX10_isPair 24 = .ok (.iconst 0, 1) := by decide +kernel
theorem dX10_isPair_25 : decode cX10_isPair 25 = .ok (.ireturn, 1) := by decide +kernel
theorem kcX10_isPair : Cond.code yX10_isPair cX10_isPair 3 (some .boolean) ∈ tb := tq q_864 rfl
theorem knX10_isPair : Cond.initialized yX10_isPair.cls ∈ tb := (tq q_10 rfl)
theorem kdX10_isPair : yX10_isPair.cls ≠ "java/lang/invoke/MethodHandle" ∧ yX10_isPair.cls ≠ "java/lang/invoke/VarHandle" ∧ (parseMethodDescriptor yX10_isPair.desc).map (fun d => d.parameters.length) = some 2 := ⟨by decide +kernel, by decide +kernel, by decide +kernel⟩
theorem kiX10_isPair : Cond.instanceMethod yX10_isPair ∈ tb := (tq q_863 rfl)
theorem ksX10_isPair : Cond.selects yX10_isPair.cls yX10_isPair yX10_isPair ∈ tb := (tq z_30 rfl)
theorem tgX10_isPair {x0 : Nat} {x1 : Int32} {x2 : Int32} {h : PH} {r : Int32 × PH} (hf : (fX10_isPair x0 x1 x2).1 h = some r) : ∃ n x, nth h x0 = some (9, n, x) := by
  obtain ⟨_, _, e, _⟩ := pb_some hf
  exact (chk_some e).2
set_option maxHeartbeats 4000000 in
set_option maxRecDepth 100000 in
theorem metX10_isPair (l : Launch) (G : GG) (ρ : Nat → Nat) {z : Nat} {x0 : Nat} {x1 : Int32} {x2 : Int32} {h hE : PH} {v : Int32} (hf : (fX10_isPair x0 x1 x2).1 h = some (v, hE)) : Met l yX10_isPair (wsY yX10_isPair cX10_isPair 3 (some .boolean)) (RM 1 29 h hE) (va_Pc [.ref (ρ x0), .int x1, .int x2] (PcB G ρ h z)) (QI G ρ v hE h.length z) (DC h hE) (DS h hE) (Af ρ h.length z) := by
  refine met_start (by decide) (Nat.le_of_ble_eq_true rfl) ?_
  intro p e s m below meth c ls hz C hW hl
  subst hz
  have C : Cx G "PairSymbolsModel" cX10_isPair 3 (some .boolean) "isPai\x72" p s m _ meth c := C
  have hx := C.1
  have hb := C.2.1
  have hX : Ext hE hE := Ext.rf hE
  have hl : lv_has ls 3 [(0, .ref (ρ x0)), (1, .int x1), (2, .int x2)] := hl
  have hW : Wd G ρ h.length (sl h) s.heap h s.heap [] 0 0 := hW
  unfold fX10_isPair at hf
  obtain ⟨_, e0, hf⟩ := pb_rd (rd_chk _ _) hf
  refine lv_iload_n hx hb dX10_isPair_0 rfl (lv_at hl 1 rfl) ?_
  refine lv_i2l (v := x1.toInt64) hx hb dX10_isPair_1 rfl ?_
  refine lv_iload_n hx hb dX10_isPair_2 rfl (lv_at hl 2 rfl) ?_
  refine lv_i2l (v := x2.toInt64) hx hb dX10_isPair_3 rfl ?_
  obtain ⟨v1, h1, e1, hf⟩ := pb_some hf
  refine r_calll hW (pext e1) (run_S (As := [.long x1.toInt64, .long x2.toInt64]) (rest := []) C hW (metX10_divisor l G ρ e1) ⟨rfl, rfl⟩ kcX10_divisor (tq q_865 rfl) kiX10_divisor knX10_divisor kdX10_divisor ⟨Nat.le_of_ble_eq_true rfl, Nat.le_of_ble_eq_true rfl⟩ hl.1 (Nat.le_of_ble_eq_true rfl) (room_of hW (pext e1) ((pext hf).tr hX)) dX10_isPair_4 rfl) (fun H locs c1 s1 hW => ?_)
  refine lv_aload_n hx hb dX10_isPair_7 rfl (lv_at hl 0 rfl) ?_
  obtain ⟨v2, h2, e2, hf⟩ := pb_some hf
  obtain ⟨_, _, t3⟩ := tgX10_levelHere e2
  refine r_calli hW (pext e2) (run_V (b := x0) (As := []) (rest := [.long v1]) C hW (metX10_levelHere l G ρ e2) ⟨rfl, rfl⟩ kcX10_levelHere (tq q_849 rfl) kiX10_levelHere ksX10_levelHere knX10_levelHere kdX10_levelHere t3 rfl rfl ⟨Nat.le_of_ble_eq_true rfl, Nat.le_of_ble_eq_true rfl⟩ hl.1 (Nat.le_of_ble_eq_true rfl) (room_of hW (pext e2) ((pext hf).tr hX)) dX10_isPair_8 rfl) (fun H locs c1 s1 hW => ?_)
  refine lv_i2l (v := v2.toInt64) hx hb dX10_isPair_11 rfl ?_
  obtain ⟨v4, h4, e4, hf⟩ := pb_some hf
  refine r_calll hW (pext e4) (run_S (As := [.long v1, .long v2.toInt64]) (rest := []) C hW (metX10_divisor l G ρ e4) ⟨rfl, rfl⟩ kcX10_divisor (tq q_865 rfl) kiX10_divisor knX10_divisor kdX10_divisor ⟨Nat.le_of_ble_eq_true rfl, Nat.le_of_ble_eq_true rfl⟩ hl.1 (Nat.le_of_ble_eq_true rfl) (room_of hW (pext e4) ((pext hf).tr hX)) dX10_isPair_12 rfl) (fun H locs c1 s1 hW => ?_)
  refine lv_lconst (v := 1) hx hb dX10_isPair_15 (by decide) ?_
  refine W.lcmp hx hb dX10_isPair_16 ?_
  refine lv_if_ne (tgt := 24) hx hb dX10_isPair_17 (by decide) (fun c5 => ?_) (fun c5 => ?_)
  · rw [if_neg c5] at hf
    refine lv_iconst (v := 0) hx hb dX10_isPair_24 (by decide) ?_
    obtain ⟨rfl, rfl⟩ := pp_some hf
    exact r_zret C hW rfl dX10_isPair_25
  · rw [if_pos c5] at hf
    refine lv_iconst (v := 1) hx hb dX10_isPair_20 (by decide) ?_
    refine lv_goto (tgt := 25) hx hb dX10_isPair_21 (by decide) ?_
    obtain ⟨rfl, rfl⟩ := pp_some hf
    exact r_zret C hW rfl dX10_isPair_25

theorem dX10_countsIn_0 : decode cX10_countsIn 0 = .ok (.aload_n 0, 1) := by decide +kernel
theorem dX10_countsIn_1 : decode cX10_countsIn 1 = .ok (.invokevirtual 148, 3) := by decide +kernel
theorem dX10_countsIn_4 : decode cX10_countsIn 4 = .ok (.istore_n 3, 1) := by decide +kernel
theorem dX10_countsIn_5 : decode cX10_countsIn 5 = .ok (.iconst 1, 1) := by decide +kernel
theorem dX10_countsIn_6 : decode cX10_countsIn 6 = .ok (.istore 4, 2) := by decide +kernel
theorem dX10_countsIn_8 : decode cX10_countsIn 8 = .ok (.iload 4, 2) := by decide +kernel
theorem dX10_countsIn_10 : decode cX10_countsIn 10 = .ok (.iload_n 3, 1) := by decide +kernel
theorem dX10_countsIn_11 : decode cX10_countsIn 11 = .ok (.if_icmp .gt 47, 3) := by decide +kernel
theorem dX10_countsIn_14 : decode cX10_countsIn 14 = .ok (.iload 4, 2) := by decide +kernel
theorem dX10_countsIn_16 : decode cX10_countsIn 16 = .ok (.i2l, 1) := by decide +kernel
theorem dX10_countsIn_17 : decode cX10_countsIn 17 = .ok (.iload_n 3, 1) := by decide +kernel
theorem dX10_countsIn_18 : decode cX10_countsIn 18 = .ok (.i2l, 1) := by decide +kernel
theorem dX10_countsIn_19 : decode cX10_countsIn 19 = .ok (.invokestatic 129, 3) := by decide +kernel
theorem dX10_countsIn_22 : decode cX10_countsIn 22 = .ok (.lconst 1, 1) := by decide +kernel
theorem dX10_countsIn_23 : decode cX10_countsIn 23 = .ok (.lcmp, 1) := by decide +kernel
theorem dX10_countsIn_24 : decode cX10_countsIn 24 = .ok (.ifCond .ne 28, 3) := by decide +kernel
theorem dX10_countsIn_27 : decode cX10_countsIn 27 = .ok (.aload_n 0, 1) := by decide +kernel
theorem dX10_countsIn_28 : decode cX10_countsIn 28 = .ok (.getfield 23, 3) := by decide +kernel
theorem dX10_countsIn_31 : decode cX10_countsIn 31 = .ok (.bipush 25, 2) := by decide +kernel
theorem dX10_countsIn_33 : decode cX10_countsIn 33 = .ok (.iload 4, 2) := by decide +kernel
theorem dX10_countsIn_35 : decode cX10_countsIn 35 = .ok (.iload_n 1, 1) := by decide +kernel
theorem dX10_countsIn_36 : decode cX10_countsIn 36 = .ok (.imul, 1) := by decide +kernel
theorem dX10_countsIn_37 : decode cX10_countsIn 37 = .ok (.iload_n 3, 1) := by decide +kernel
theorem dX10_countsIn_38 : decode cX10_countsIn 38 = .ok (.irem, 1) := by decide +kernel
theorem dX10_countsIn_39 : decode cX10_countsIn 39 = .ok (.imul, 1) := by decide +kernel
theorem dX10_countsIn_40 : decode cX10_countsIn 40 = .ok (.iload 4, 2) := by decide +kernel
theorem dX10_countsIn_42 : decode cX10_countsIn 42 = .ok (.iload_n 2, 1) := by decide +kernel
theorem dX10_countsIn_43 : decode cX10_countsIn 43 = .ok (.imul, 1) := by decide +kernel
theorem dX10_countsIn_44 : decode cX10_countsIn 44 = .ok (.iload_n 3, 1) := by decide +kernel
theorem dX10_countsIn_45 : decode cX10_countsIn 45 = .ok (.irem, 1) := by decide +kernel
theorem dX10_countsIn_46 : decode cX10_countsIn 46 = .ok (.iadd, 1) := by decide +kernel
theorem dX10_countsIn_47 : decode cX10_countsIn 47 = .ok (.aload_n 0, 1) := by decide +kernel
theorem dX10_countsIn_48 : decode cX10_countsIn 48 = .ok (.getfield 156, 3) := by decide +kernel
theorem dX10_countsIn_51 : decode cX10_countsIn 51 = .ok (.iastore, 1) := by decide +kernel
theorem dX10_countsIn_52 : decode cX10_countsIn 52 = .ok (.iinc 4 1, 3) := by decide +kernel
theorem dX10_countsIn_55 : decode cX10_countsIn 55 = .ok (.goto (-47), 3) := by decide +kernel
theorem dX10_countsIn_58 : decode cX10_countsIn 58 = .ok (.aload_n 0, 1) := by decide +kernel
theorem dX10_countsIn_59 : decode cX10_countsIn 59 = .ok (.getfield 26, 3) := by decide +kernel
theorem dX10_countsIn_62 : decode cX10_countsIn 62 = .ok (.aload_n 0, 1) := by decide +kernel
theorem dX10_countsIn_63 : decode cX10_countsIn 63 = .ok (.getfield 156, 3) := by decide +kernel
theorem dX10_countsIn_66 : decode cX10_countsIn 66 = .ok (.iload_n 1, 1) := by decide +kernel
theorem dX10_countsIn_67 : decode cX10_countsIn 67 = .ok (.iastore, 1) := by decide +kernel
theorem dX10_countsIn_68 : decode cX10_countsIn 68 = .ok (.aload_n 0, 1) := by decide +kernel
theorem dX10_countsIn_69 : decode cX10_countsIn 69 = .ok (.getfield 29, 3) := by decide +kernel
theorem dX10_countsIn_72 : decode cX10_countsIn 72 = .ok (.aload_n 0, 1) := by decide +kernel
theorem dX10_countsIn_73 : decode cX10_countsIn 73 = .ok (.getfield 156, 3) := by decide +kernel
theorem dX10_countsIn_76 : decode cX10_countsIn 76 = .ok (.iload_n 2, 1) := by decide +kernel
theorem dX10_countsIn_77 : decode cX10_countsIn 77 = .ok (.iastore, 1) := by decide +kernel
theorem dX10_countsIn_78 : decode cX10_countsIn 78 = .ok (.aload_n 0, 1) := by decide +kernel
theorem dX10_countsIn_79 : decode cX10_countsIn 79 = .ok (.dup, 1) := by decide +kernel
theorem dX10_countsIn_80 : decode cX10_countsIn 80 = .ok (.getfield 156, 3) := by decide +kernel
theorem dX10_countsIn_83 : decode cX10_countsIn 83 = .ok (.iconst 1, 1) := by decide +kernel
theorem dX10_countsIn_84 : decode cX10_countsIn 84 = .ok (.iadd, 1) := by decide +kernel
theorem dX10_countsIn_85 : decode cX10_countsIn 85 = .ok (.putfield 156, 3) := by decide +kernel
theorem dX10_countsIn_88 : decode cX10_countsIn 88 = .ok (.return_, 1) := by decide +kernel
theorem kcX10_countsIn : Cond.code yX10_countsIn cX10_countsIn 5 none ∈ tb := tq q_878 rfl
theorem knX10_countsIn : Cond.initialized yX10_countsIn.cls ∈ tb := (tq q_10 rfl)
theorem kdX10_countsIn : yX10_countsIn.cls ≠ "java/lang/invoke/MethodHandle" ∧ yX10_countsIn.cls ≠ "java/lang/invoke/VarHandle" ∧ (parseMethodDescriptor yX10_countsIn.desc).map (fun d => d.parameters.length) = some 2 := ⟨by decide +kernel, by decide +kernel, by decide +kernel⟩
theorem kiX10_countsIn : Cond.instanceMethod yX10_countsIn ∈ tb := (tq q_877 rfl)
theorem ksX10_countsIn : Cond.selects yX10_countsIn.cls yX10_countsIn yX10_countsIn ∈ tb := (tq z_32 rfl)
theorem tgX10_countsIn {x0 : Nat} {x1 : Int32} {x2 : Int32} {h : PH} {r : Unit × PH} (hf : (fX10_countsIn x0 x1 x2).1 h = some r) : ∃ n x, nth h x0 = some (9, n, x) := by
  obtain ⟨_, _, e, _⟩ := pb_some hf
  exact (chk_some e).2
set_option maxHeartbeats 4000000 in
set_option maxRecDepth 100000 in
theorem wX10_countsIn_B8 {p : Program} {l : Launch} {e : Env} {s : State} {m : MethodId} {args : Array Value} {below : List Frame} {meth : Method} {c : Code} {G : GG} {ρ : Nat → Nat} {h0 hE hB : PH} {Q : State → Prop} {x0 : Nat} {x1 : Int32} {x2 : Int32} {x3 : Int32} (C : Cx G "PairSymbolsModel" cX10_countsIn 5 none "countsIn" p s m args meth c) {x4 : Int32} {h : PH} {H : Heap} {locs : List Loc} {cells slots : Nat} {ls : Array Slot} {r : (Int32) ⊕ (Unit)} (hf : (fX10_countsIn_b8 x0 x1 x2 x3 x4).1 h = some (r, hB)) (hX : Ext hB hE) (hW : Wd G ρ h0.length (sl h0) s.heap h H locs cells slots) (hl : lv_has ls 5 [(0, .ref (ρ x0)), (1, .int x1), (2, .int x2), (3, .int x3), (4, .int x4)]) (kc : ∀ y : Int32, r = .inl y → ∀ (H : Heap) (locs : List Loc) (c1 s1 : Nat) (ls : Array Slot), Wd G ρ h0.length (sl h0) s.heap hB H locs c1 s1 → lv_has ls 5 [(0, .ref (ρ x0)), (1, .int x1), (2, .int x2), (3, .int x3), (4, .int y)] → W p l e (RM 1 29 h0 hE) s m args below meth c H locs c1 s1 Q (F0 m 8 ls [])) (ke : ∀ z : Unit, r = .inr z → ∀ (H : Heap) (locs : List Loc) (c1 s1 : Nat) (ls : Array Slot), Wd G ρ h0.length (sl h0) s.heap hB H locs c1 s1 → lv_has ls 5 [(0, .ref (ρ x0)), (1, .int x1), (2, .int x2)] → W p l e (RM 1 29 h0 hE) s m args below meth c H locs c1 s1 Q (F0 m 58 ls [])) : W p l e (RM 1 29 h0 hE) s m args below meth c H locs cells slots Q (F0 m 8 ls []) := by
  have hx := C.1
  have hb := C.2.1
  unfold fX10_countsIn_b8 at hf
  refine lv_iload hx hb dX10_countsIn_8 (lv_at hl 4 rfl) ?_
  refine lv_iload_n hx hb dX10_countsIn_10 rfl (lv_at hl 3 rfl) ?_
  refine lv_icmp_gt (tgt := 58) hx hb dX10_countsIn_11 (by decide) (fun c3 => ?_) (fun c3 => ?_)
  · rw [if_pos c3] at hf
    obtain ⟨rfl, rfl⟩ := pp_some hf
    exact ke _ rfl _ _ _ _ _ hW (lv_sub hl [0, 1, 2] rfl)
  · rw [if_neg c3] at hf
    refine lv_iload hx hb dX10_countsIn_14 (lv_at hl 4 rfl) ?_
    refine lv_i2l (v := x4.toInt64) hx hb dX10_countsIn_16 rfl ?_
    refine lv_iload_n hx hb dX10_countsIn_17 rfl (lv_at hl 3 rfl) ?_
    refine lv_i2l (v := x3.toInt64) hx hb dX10_countsIn_18 rfl ?_
    obtain ⟨v4, h4, e4, hf⟩ := pb_some hf
    refine r_calll hW (pext e4) (run_S (As := [.long x4.toInt64, .long x3.toInt64]) (rest := []) C hW (metX10_divisor l G ρ e4) ⟨rfl, rfl⟩ kcX10_divisor (tq q_865 rfl) kiX10_divisor knX10_divisor kdX10_divisor ⟨Nat.le_of_ble_eq_true rfl, Nat.le_of_ble_eq_true rfl⟩ hl.1 (Nat.le_of_ble_eq_true rfl) (room_of hW (pext e4) ((pext hf).tr hX)) dX10_countsIn_19 rfl) (fun H locs c1 s1 hW => ?_)
    refine lv_lconst (v := 1) hx hb dX10_countsIn_22 (by decide) ?_
    refine W.lcmp hx hb dX10_countsIn_23 ?_
    refine lv_if_ne (tgt := 52) hx hb dX10_countsIn_24 (by decide) (fun c5 => ?_) (fun c5 => ?_)
    · rw [if_neg c5] at hf
      refine lv_iinc (v := (x4 + 1)) (lv' := [(4, .int (x4 + 1)), (0, .ref (ρ x0)), (1, .int x1), (2, .int x2), (3, .int x3)]) hx hb dX10_countsIn_52 hl (k := 4) rfl rfl (by decide) rfl (fun ls hl => ?_)
      refine lv_goto (tgt := 8) hx hb dX10_countsIn_55 (by decide) ?_
      obtain ⟨rfl, rfl⟩ := pp_some hf
      exact kc _ rfl _ _ _ _ _ hW (lv_sub hl [1, 2, 3, 4, 0] rfl)
    · rw [if_pos c5] at hf
      refine lv_aload_n hx hb dX10_countsIn_27 rfl (lv_at hl 0 rfl) ?_
      obtain ⟨v6, e6, hf⟩ := pb_rd (rd_gA _ _ _) hf
      refine r_gA C hW e6 flX10_23 rfl dX10_countsIn_28 ?_
      refine lv_bipush (v := 25) hx hb dX10_countsIn_31 (by decide) ?_
      refine lv_iload hx hb dX10_countsIn_33 (lv_at hl 4 rfl) ?_
      refine lv_iload_n hx hb dX10_countsIn_35 rfl (lv_at hl 1 rfl) ?_
      refine lv_imul hx hb dX10_countsIn_36 ?_
      refine lv_iload_n hx hb dX10_countsIn_37 rfl (lv_at hl 3 rfl) ?_
      by_cases c7 : x3 = 0
      · rw [if_pos c7] at hf
        exact (pf_no hf).elim
      rw [if_neg c7] at hf
      refine lv_irem hx hb dX10_countsIn_38 c7 ?_
      refine lv_imul hx hb dX10_countsIn_39 ?_
      refine lv_iload hx hb dX10_countsIn_40 (lv_at hl 4 rfl) ?_
      refine lv_iload_n hx hb dX10_countsIn_42 rfl (lv_at hl 2 rfl) ?_
      refine lv_imul hx hb dX10_countsIn_43 ?_
      refine lv_iload_n hx hb dX10_countsIn_44 rfl (lv_at hl 3 rfl) ?_
      by_cases c8 : x3 = 0
      · rw [if_pos c8] at hf
        exact (pf_no hf).elim
      rw [if_neg c8] at hf
      refine lv_irem hx hb dX10_countsIn_45 c8 ?_
      refine lv_iadd hx hb dX10_countsIn_46 ?_
      refine lv_aload_n hx hb dX10_countsIn_47 rfl (lv_at hl 0 rfl) ?_
      obtain ⟨v9, e9, hf⟩ := pb_rd (rd_gI _ _ _) hf
      refine r_gI C hW e9 flX10_156 rfl dX10_countsIn_48 ?_
      obtain ⟨_, h10, e10, hf⟩ := pb_some hf
      refine r_iast C hW e10 dX10_countsIn_51 (fun H locs hW => ?_)
      refine lv_iinc (v := (x4 + 1)) (lv' := [(4, .int (x4 + 1)), (0, .ref (ρ x0)), (1, .int x1), (2, .int x2), (3, .int x3)]) hx hb dX10_countsIn_52 hl (k := 4) rfl rfl (by decide) rfl (fun ls hl => ?_)
      refine lv_goto (tgt := 8) hx hb dX10_countsIn_55 (by decide) ?_
      obtain ⟨rfl, rfl⟩ := pp_some hf
      exact kc _ rfl _ _ _ _ _ hW (lv_sub hl [1, 2, 3, 4, 0] rfl)
set_option maxHeartbeats 4000000 in
theorem wX10_countsIn_L8 {p : Program} {l : Launch} {e : Env} {s : State} {m : MethodId} {args : Array Value} {below : List Frame} {meth : Method} {c : Code} {G : GG} {ρ : Nat → Nat} {h0 hE hB : PH} {Q : State → Prop} {x0 : Nat} {x1 : Int32} {x2 : Int32} {x3 : Int32} (C : Cx G "PairSymbolsModel" cX10_countsIn 5 none "countsIn" p s m args meth c) {z : (Unit)} (n : Nat) : ∀ (x : Int32) {h : PH} {H : Heap} {locs : List Loc} {cells slots : Nat} {ls : Array Slot}, (plo (fX10_countsIn_B8 x0 x1 x2 x3) n x).1 h = some (z, hB) → Ext hB hE → Wd G ρ h0.length (sl h0) s.heap h H locs cells slots → lv_has ls 5 [(0, .ref (ρ x0)), (1, .int x1), (2, .int x2), (3, .int x3), (4, .int x)] → (ke : ∀ (H : Heap) (locs : List Loc) (c1 s1 : Nat) (ls : Array Slot), Wd G ρ h0.length (sl h0) s.heap hB H locs c1 s1 → lv_has ls 5 [(0, .ref (ρ x0)), (1, .int x1), (2, .int x2)] → W p l e (RM 1 29 h0 hE) s m args below meth c H locs c1 s1 Q (F0 m 58 ls [])) → W p l e (RM 1 29 h0 hE) s m args below meth c H locs cells slots Q (F0 m 8 ls []) := by
  induction n with
  | zero =>
    intro x h H locs cells slots ls hf
    rw [plo_0] at hf
    exact (pf_no hf).elim
  | succ n ih =>
    intro x h H locs cells slots ls hf hX hW hl ke
    rw [plo_s] at hf
    obtain ⟨r, h1, e1, hf⟩ := pb_some hf
    unfold fX10_countsIn_B8 at e1
    rw [frI_eq] at e1
    refine wX10_countsIn_B8 C e1 ((pext hf).tr hX) hW hl (fun y hr H locs c1 s1 ls hW hl => ?_) (fun y hr H locs c1 s1 ls hW hl => ?_)
    · subst hr
      exact ih y hf hX hW hl ke
    · subst hr
      obtain ⟨rfl, rfl⟩ := pp_some hf
      exact ke H locs c1 s1 ls hW hl
set_option maxHeartbeats 4000000 in
set_option maxRecDepth 100000 in
theorem metX10_countsIn (l : Launch) (G : GG) (ρ : Nat → Nat) {z : Nat} {x0 : Nat} {x1 : Int32} {x2 : Int32} {h hE : PH} {v : Unit} (hf : (fX10_countsIn x0 x1 x2).1 h = some (v, hE)) : Met l yX10_countsIn (wsY yX10_countsIn cX10_countsIn 5 none) (RM 1 29 h hE) (va_Pc [.ref (ρ x0), .int x1, .int x2] (PcB G ρ h z)) (QV G ρ hE h.length z) (DC h hE) (DS h hE) (Af ρ h.length z) := by
  refine met_start (by decide) (Nat.le_of_ble_eq_true rfl) ?_
  intro p e s m below meth c ls hz C hW hl
  subst hz
  have C : Cx G "PairSymbolsModel" cX10_countsIn 5 none "countsIn" p s m _ meth c := C
  have hx := C.1
  have hb := C.2.1
  have hX : Ext hE hE := Ext.rf hE
  have hl : lv_has ls 5 [(0, .ref (ρ x0)), (1, .int x1), (2, .int x2)] := hl
  have hW : Wd G ρ h.length (sl h) s.heap h s.heap [] 0 0 := hW
  unfold fX10_countsIn at hf
  obtain ⟨_, e0, hf⟩ := pb_rd (rd_chk _ _) hf
  refine lv_aload_n hx hb dX10_countsIn_0 rfl (lv_at hl 0 rfl) ?_
  obtain ⟨v1, h1, e1, hf⟩ := pb_some hf
  obtain ⟨_, _, t2⟩ := tgX10_levelHere e1
  refine r_calli hW (pext e1) (run_V (b := x0) (As := []) (rest := []) C hW (metX10_levelHere l G ρ e1) ⟨rfl, rfl⟩ kcX10_levelHere (tq q_849 rfl) kiX10_levelHere ksX10_levelHere knX10_levelHere kdX10_levelHere t2 rfl rfl ⟨Nat.le_of_ble_eq_true rfl, Nat.le_of_ble_eq_true rfl⟩ hl.1 (Nat.le_of_ble_eq_true rfl) (room_of hW (pext e1) ((pext hf).tr hX)) dX10_countsIn_1 rfl) (fun H locs c1 s1 hW => ?_)
  refine lv_istore_n (lv' := [(3, .int v1), (0, .ref (ρ x0)), (1, .int x1), (2, .int x2)]) hx hb dX10_countsIn_4 rfl hl (by decide) rfl (fun ls hl => ?_)
  refine lv_iconst (v := 1) hx hb dX10_countsIn_5 (by decide) ?_
  refine lv_istore (lv' := [(4, .int (1 : Int32)), (3, .int v1), (0, .ref (ρ x0)), (1, .int x1), (2, .int x2)]) hx hb dX10_countsIn_6 hl (by decide) rfl (fun ls hl => ?_)
  obtain ⟨z11, h11, e11, hf⟩ := pb_some hf
  refine wX10_countsIn_L8 C fu _ e11 ((pext hf).tr hX) hW (lv_sub hl [2, 3, 4, 1, 0] rfl) (fun H locs c1 s1 ls hW hl => ?_)
  refine lv_aload_n hx hb dX10_countsIn_58 rfl (lv_at hl 0 rfl) ?_
  obtain ⟨v12, e12, hf⟩ := pb_rd (rd_gA _ _ _) hf
  refine r_gA C hW e12 flX10_26 rfl dX10_countsIn_59 ?_
  refine lv_aload_n hx hb dX10_countsIn_62 rfl (lv_at hl 0 rfl) ?_
  obtain ⟨v13, e13, hf⟩ := pb_rd (rd_gI _ _ _) hf
  refine r_gI C hW e13 flX10_156 rfl dX10_countsIn_63 ?_
  refine lv_iload_n hx hb dX10_countsIn_66 rfl (lv_at hl 1 rfl) ?_
  obtain ⟨_, h14, e14, hf⟩ := pb_some hf
  refine r_iast C hW e14 dX10_countsIn_67 (fun H locs hW => ?_)
  refine lv_aload_n hx hb dX10_countsIn_68 rfl (lv_at hl 0 rfl) ?_
  obtain ⟨v15, e15, hf⟩ := pb_rd (rd_gA _ _ _) hf
  refine r_gA C hW e15 flX10_29 rfl dX10_countsIn_69 ?_
  refine lv_aload_n hx hb dX10_countsIn_72 rfl (lv_at hl 0 rfl) ?_
  obtain ⟨v16, e16, hf⟩ := pb_rd (rd_gI _ _ _) hf
  refine r_gI C hW e16 flX10_156 rfl dX10_countsIn_73 ?_
  refine lv_iload_n hx hb dX10_countsIn_76 rfl (lv_at hl 2 rfl) ?_
  obtain ⟨_, h17, e17, hf⟩ := pb_some hf
  refine r_iast C hW e17 dX10_countsIn_77 (fun H locs hW => ?_)
  refine lv_aload_n hx hb dX10_countsIn_78 rfl (lv_at hl 0 rfl) ?_
  refine lv_dup hx hb dX10_countsIn_79 rfl ?_
  obtain ⟨v18, e18, hf⟩ := pb_rd (rd_gI _ _ _) hf
  refine r_gI C hW e18 flX10_156 rfl dX10_countsIn_80 ?_
  refine lv_iconst (v := 1) hx hb dX10_countsIn_83 (by decide) ?_
  refine lv_iadd hx hb dX10_countsIn_84 ?_
  obtain ⟨_, h19, e19, hf⟩ := pb_some hf
  refine r_sI C hW e19 flX10_156 (Or.inl rfl) rfl dX10_countsIn_85 (fun H locs hW => ?_)
  obtain ⟨rfl, rfl⟩ := pp_some hf
  exact r_vret C hW dX10_countsIn_88

theorem dX10_s_0 : decode cX10_s 0 = .ok (.aload_n 0, 1) := by decide +kernel
theorem dX10_s_1 : decode cX10_s 1 = .ok (.aload_n 0, 1) := by decide +kernel
theorem dX10_s_2 : decode cX10_s 2 = .ok (.getfield 29, 3) := by decide +kernel
theorem dX10_s_5 : decode cX10_s 5 = .ok (.iload_n 1, 1) := by decide +kernel
theorem dX10_s_6 : decode cX10_s 6 = .ok (.iaload, 1) := by decide +kernel
theorem dX10_s_7 : decode cX10_s 7 = .ok (.ineg, 1) := by decide +kernel
theorem dX10_s_8 : decode cX10_s 8 = .ok (.aload_n 0, 1) := by decide +kernel
theorem dX10_s_9 : decode cX10_s 9 = .ok (.getfield 26, 3) := by decide +kernel
theorem dX10_s_12 : decode cX10_s 12 = .ok (.iload_n 1, 1) := by decide +kernel
theorem dX10_s_13 : decode cX10_s 13 = .ok (.iaload, 1) := by decide +kernel
theorem dX10_s_14 : decode cX10_s 14 = .ok (.invokevirtual 159, 3) := by decide +kernel
theorem dX10_s_17 : decode cX10_s 17 = .ok (.ireturn, 1) := by decide +kernel
theorem kcX10_s : Cond.code yX10_s cX10_s 2 (some .int) ∈ tb := tq q_910 rfl
theorem knX10_s : Cond.initialized yX10_s.cls ∈ tb := (tq q_10 rfl)
theorem kdX10_s : yX10_s.cls ≠ "java/lang/invoke/MethodHandle" ∧ yX10_s.cls ≠ "java/lang/invoke/VarHandle" ∧ (parseMethodDescriptor yX10_s.desc).map (fun d => d.parameters.length) = some 1 := ⟨by decide +kernel, by decide +kernel, by decide +kernel⟩
theorem kiX10_s : Cond.instanceMethod yX10_s ∈ tb := (tq q_909 rfl)
theorem ksX10_s : Cond.selects yX10_s.cls yX10_s yX10_s ∈ tb := (tq z_40 rfl)
theorem tgX10_s {x0 : Nat} {x1 : Int32} {h : PH} {r : Int32 × PH} (hf : (fX10_s x0 x1).1 h = some r) : ∃ n x, nth h x0 = some (9, n, x) := by
  obtain ⟨_, _, e, _⟩ := pb_some hf
  exact (chk_some e).2
set_option maxHeartbeats 4000000 in
set_option maxRecDepth 100000 in
theorem metX10_s (l : Launch) (G : GG) (ρ : Nat → Nat) {z : Nat} {x0 : Nat} {x1 : Int32} {h hE : PH} {v : Int32} (hf : (fX10_s x0 x1).1 h = some (v, hE)) : Met l yX10_s (wsY yX10_s cX10_s 2 (some .int)) (RM 2 45 h hE) (va_Pc [.ref (ρ x0), .int x1] (PcB G ρ h z)) (QI G ρ v hE h.length z) (DC h hE) (DS h hE) (Af ρ h.length z) := by
  refine met_start (by decide) (Nat.le_of_ble_eq_true rfl) ?_
  intro p e s m below meth c ls hz C hW hl
  subst hz
  have C : Cx G "PairSymbolsModel" cX10_s 2 (some .int) "s" p s m _ meth c := C
  have hx := C.1
  have hb := C.2.1
  have hX : Ext hE hE := Ext.rf hE
  have hl : lv_has ls 2 [(0, .ref (ρ x0)), (1, .int x1)] := hl
  have hW : Wd G ρ h.length (sl h) s.heap h s.heap [] 0 0 := hW
  unfold fX10_s at hf
  obtain ⟨_, e0, hf⟩ := pb_rd (rd_chk _ _) hf
  refine lv_aload_n hx hb dX10_s_0 rfl (lv_at hl 0 rfl) ?_
  refine lv_aload_n hx hb dX10_s_1 rfl (lv_at hl 0 rfl) ?_
  obtain ⟨v1, e1, hf⟩ := pb_rd (rd_gA _ _ _) hf
  refine r_gA C hW e1 flX10_29 rfl dX10_s_2 ?_
  refine lv_iload_n hx hb dX10_s_5 rfl (lv_at hl 1 rfl) ?_
  obtain ⟨v2, e2, hf⟩ := pb_rd (rd_lI _ _ _) hf
  refine r_iald C hW e2 dX10_s_6 ?_
  refine lv_ineg hx hb dX10_s_7 ?_
  refine lv_aload_n hx hb dX10_s_8 rfl (lv_at hl 0 rfl) ?_
  obtain ⟨v3, e3, hf⟩ := pb_rd (rd_gA _ _ _) hf
  refine r_gA C hW e3 flX10_26 rfl dX10_s_9 ?_
  refine lv_iload_n hx hb dX10_s_12 rfl (lv_at hl 1 rfl) ?_
  obtain ⟨v4, e4, hf⟩ := pb_rd (rd_lI _ _ _) hf
  refine r_iald C hW e4 dX10_s_13 ?_
  obtain ⟨v5, h5, e5, hf⟩ := pb_some hf
  obtain ⟨_, _, t6⟩ := tgX10_of e5
  refine r_calli hW (pext e5) (run_V (b := x0) (As := [.int (-v2), .int v4]) (rest := []) C hW (metX10_of l G ρ e5) ⟨rfl, rfl⟩ kcX10_of (tq q_868 rfl) kiX10_of ksX10_of knX10_of kdX10_of t6 rfl rfl ⟨Nat.le_of_ble_eq_true rfl, Nat.le_of_ble_eq_true rfl⟩ hl.1 (Nat.le_of_ble_eq_true rfl) (room_of hW (pext e5) ((pext hf).tr hX)) dX10_s_14 rfl) (fun H locs c1 s1 hW => ?_)
  obtain ⟨rfl, rfl⟩ := pp_some hf
  exact r_iret C hW dX10_s_17

theorem dX10_r_0 : decode cX10_r 0 = .ok (.aload_n 0, 1) := by decide +kernel
theorem dX10_r_1 : decode cX10_r 1 = .ok (.aload_n 0, 1) := by decide +kernel
theorem dX10_r_2 : decode cX10_r 2 = .ok (.getfield 26, 3) := by decide +kernel
theorem dX10_r_5 : decode cX10_r 5 = .ok (.iload_n 1, 1) := by decide +kernel
theorem dX10_r_6 : decode cX10_r 6 = .ok (.iaload, 1) := by decide +kernel
theorem dX10_r_7 : decode cX10_r 7 = .ok (.aload_n 0, 1) := by decide +kernel
theorem dX10_r_8 : decode cX10_r 8 = .ok (.getfield 29, 3) := by decide +kernel
theorem dX10_r_11 : decode cX10_r 11 = .ok (.iload_n 1, 1) := by decide +kernel
theorem dX10_r_12 : decode cX10_r 12 = .ok (.iaload, 1) := by decide +kernel
theorem dX10_r_13 : decode cX10_r 13 = .ok (.iadd, 1) := by decide +kernel
theorem dX10_r_14 : decode cX10_r 14 = .ok (.aload_n 0, 1) := by decide +kernel
theorem dX10_r_15 : decode cX10_r 15 = .ok (.getfield 26, 3) := by decide +kernel
theorem dX10_r_18 : decode cX10_r 18 = .ok (.iload_n 1, 1) := by decide +kernel
theorem dX10_r_19 : decode cX10_r 19 = .ok (.iaload, 1) := by decide +kernel
theorem dX10_r_20 : decode cX10_r 20 = .ok (.ineg, 1) := by decide +kernel
theorem dX10_r_21 : decode cX10_r 21 = .ok (.invokevirtual 159, 3) := by decide +kernel
theorem dX10_r_24 : decode cX10_r 24 = .ok (.ireturn, 1) := by decide +kernel
theorem kcX10_r : Cond.code yX10_r cX10_r 2 (some .int) ∈ tb := tq q_926 rfl
theorem knX10_r : Cond.initialized yX10_r.cls ∈ tb := (tq q_10 rfl)
theorem kdX10_r : yX10_r.cls ≠ "java/lang/invoke/MethodHandle" ∧ yX10_r.cls ≠ "java/lang/invoke/VarHandle" ∧ (parseMethodDescriptor yX10_r.desc).map (fun d => d.parameters.length) = some 1 := ⟨by decide +kernel, by decide +kernel, by decide +kernel⟩
theorem kiX10_r : Cond.instanceMethod yX10_r ∈ tb := (tq q_925 rfl)
theorem ksX10_r : Cond.selects yX10_r.cls yX10_r yX10_r ∈ tb := (tq z_44 rfl)
theorem tgX10_r {x0 : Nat} {x1 : Int32} {h : PH} {r : Int32 × PH} (hf : (fX10_r x0 x1).1 h = some r) : ∃ n x, nth h x0 = some (9, n, x) := by
  obtain ⟨_, _, e, _⟩ := pb_some hf
  exact (chk_some e).2
set_option maxHeartbeats 4000000 in
set_option maxRecDepth 100000 in
theorem metX10_r (l : Launch) (G : GG) (ρ : Nat → Nat) {z : Nat} {x0 : Nat} {x1 : Int32} {h hE : PH} {v : Int32} (hf : (fX10_r x0 x1).1 h = some (v, hE)) : Met l yX10_r (wsY yX10_r cX10_r 2 (some .int)) (RM 2 45 h hE) (va_Pc [.ref (ρ x0), .int x1] (PcB G ρ h z)) (QI G ρ v hE h.length z) (DC h hE) (DS h hE) (Af ρ h.length z) := by
  refine met_start (by decide) (Nat.le_of_ble_eq_true rfl) ?_
  intro p e s m below meth c ls hz C hW hl
  subst hz
  have C : Cx G "PairSymbolsModel" cX10_r 2 (some .int) "\x72" p s m _ meth c := C
  have hx := C.1
  have hb := C.2.1
  have hX : Ext hE hE := Ext.rf hE
  have hl : lv_has ls 2 [(0, .ref (ρ x0)), (1, .int x1)] := hl
  have hW : Wd G ρ h.length (sl h) s.heap h s.heap [] 0 0 := hW
  unfold fX10_r at hf
  obtain ⟨_, e0, hf⟩ := pb_rd (rd_chk _ _) hf
  refine lv_aload_n hx hb dX10_r_0 rfl (lv_at hl 0 rfl) ?_
  refine lv_aload_n hx hb dX10_r_1 rfl (lv_at hl 0 rfl) ?_
  obtain ⟨v1, e1, hf⟩ := pb_rd (rd_gA _ _ _) hf
  refine r_gA C hW e1 flX10_26 rfl dX10_r_2 ?_
  refine lv_iload_n hx hb dX10_r_5 rfl (lv_at hl 1 rfl) ?_
  obtain ⟨v2, e2, hf⟩ := pb_rd (rd_lI _ _ _) hf
  refine r_iald C hW e2 dX10_r_6 ?_
  refine lv_aload_n hx hb dX10_r_7 rfl (lv_at hl 0 rfl) ?_
  obtain ⟨v3, e3, hf⟩ := pb_rd (rd_gA _ _ _) hf
  refine r_gA C hW e3 flX10_29 rfl dX10_r_8 ?_
  refine lv_iload_n hx hb dX10_r_11 rfl (lv_at hl 1 rfl) ?_
  obtain ⟨v4, e4, hf⟩ := pb_rd (rd_lI _ _ _) hf
  refine r_iald C hW e4 dX10_r_12 ?_
  refine lv_iadd hx hb dX10_r_13 ?_
  refine lv_aload_n hx hb dX10_r_14 rfl (lv_at hl 0 rfl) ?_
  obtain ⟨v5, e5, hf⟩ := pb_rd (rd_gA _ _ _) hf
  refine r_gA C hW e5 flX10_26 rfl dX10_r_15 ?_
  refine lv_iload_n hx hb dX10_r_18 rfl (lv_at hl 1 rfl) ?_
  obtain ⟨v6, e6, hf⟩ := pb_rd (rd_lI _ _ _) hf
  refine r_iald C hW e6 dX10_r_19 ?_
  refine lv_ineg hx hb dX10_r_20 ?_
  obtain ⟨v7, h7, e7, hf⟩ := pb_some hf
  obtain ⟨_, _, t8⟩ := tgX10_of e7
  refine r_calli hW (pext e7) (run_V (b := x0) (As := [.int (v2 + v4), .int (-v6)]) (rest := []) C hW (metX10_of l G ρ e7) ⟨rfl, rfl⟩ kcX10_of (tq q_868 rfl) kiX10_of ksX10_of knX10_of kdX10_of t8 rfl rfl ⟨Nat.le_of_ble_eq_true rfl, Nat.le_of_ble_eq_true rfl⟩ hl.1 (Nat.le_of_ble_eq_true rfl) (room_of hW (pext e7) ((pext hf).tr hX)) dX10_r_21 rfl) (fun H locs c1 s1 hW => ?_)
  obtain ⟨rfl, rfl⟩ := pp_some hf
  exact r_iret C hW dX10_r_24

theorem dX10_u_0 : decode cX10_u 0 = .ok (.aload_n 0, 1) := by decide +kernel
theorem dX10_u_1 : decode cX10_u 1 = .ok (.aload_n 0, 1) := by decide +kernel
theorem dX10_u_2 : decode cX10_u 2 = .ok (.getfield 26, 3) := by decide +kernel
theorem dX10_u_5 : decode cX10_u 5 = .ok (.iload_n 1, 1) := by decide +kernel
theorem dX10_u_6 : decode cX10_u 6 = .ok (.iaload, 1) := by decide +kernel
theorem dX10_u_7 : decode cX10_u 7 = .ok (.aload_n 0, 1) := by decide +kernel
theorem dX10_u_8 : decode cX10_u 8 = .ok (.getfield 26, 3) := by decide +kernel
theorem dX10_u_11 : decode cX10_u 11 = .ok (.iload_n 1, 1) := by decide +kernel
theorem dX10_u_12 : decode cX10_u 12 = .ok (.iaload, 1) := by decide +kernel
theorem dX10_u_13 : decode cX10_u 13 = .ok (.aload_n 0, 1) := by decide +kernel
theorem dX10_u_14 : decode cX10_u 14 = .ok (.getfield 29, 3) := by decide +kernel
theorem dX10_u_17 : decode cX10_u 17 = .ok (.iload_n 1, 1) := by decide +kernel
theorem dX10_u_18 : decode cX10_u 18 = .ok (.iaload, 1) := by decide +kernel
theorem dX10_u_19 : decode cX10_u 19 = .ok (.iadd, 1) := by decide +kernel
theorem dX10_u_20 : decode cX10_u 20 = .ok (.invokevirtual 159, 3) := by decide +kernel
theorem dX10_u_23 : decode cX10_u 23 = .ok (.ireturn, 1) := by decide +kernel
theorem kcX10_u : Cond.code yX10_u cX10_u 2 (some .int) ∈ tb := tq q_886 rfl
theorem knX10_u : Cond.initialized yX10_u.cls ∈ tb := (tq q_10 rfl)
theorem kdX10_u : yX10_u.cls ≠ "java/lang/invoke/MethodHandle" ∧ yX10_u.cls ≠ "java/lang/invoke/VarHandle" ∧ (parseMethodDescriptor yX10_u.desc).map (fun d => d.parameters.length) = some 1 := ⟨by decide +kernel, by decide +kernel, by decide +kernel⟩
theorem kiX10_u : Cond.instanceMethod yX10_u ∈ tb := (tq q_885 rfl)
theorem ksX10_u : Cond.selects yX10_u.cls yX10_u yX10_u ∈ tb := (tq z_34 rfl)
theorem tgX10_u {x0 : Nat} {x1 : Int32} {h : PH} {r : Int32 × PH} (hf : (fX10_u x0 x1).1 h = some r) : ∃ n x, nth h x0 = some (9, n, x) := by
  obtain ⟨_, _, e, _⟩ := pb_some hf
  exact (chk_some e).2
set_option maxHeartbeats 4000000 in
set_option maxRecDepth 100000 in
theorem metX10_u (l : Launch) (G : GG) (ρ : Nat → Nat) {z : Nat} {x0 : Nat} {x1 : Int32} {h hE : PH} {v : Int32} (hf : (fX10_u x0 x1).1 h = some (v, hE)) : Met l yX10_u (wsY yX10_u cX10_u 2 (some .int)) (RM 2 45 h hE) (va_Pc [.ref (ρ x0), .int x1] (PcB G ρ h z)) (QI G ρ v hE h.length z) (DC h hE) (DS h hE) (Af ρ h.length z) := by
  refine met_start (by decide) (Nat.le_of_ble_eq_true rfl) ?_
  intro p e s m below meth c ls hz C hW hl
  subst hz
  have C : Cx G "PairSymbolsModel" cX10_u 2 (some .int) "u" p s m _ meth c := C
  have hx := C.1
  have hb := C.2.1
  have hX : Ext hE hE := Ext.rf hE
  have hl : lv_has ls 2 [(0, .ref (ρ x0)), (1, .int x1)] := hl
  have hW : Wd G ρ h.length (sl h) s.heap h s.heap [] 0 0 := hW
  unfold fX10_u at hf
  obtain ⟨_, e0, hf⟩ := pb_rd (rd_chk _ _) hf
  refine lv_aload_n hx hb dX10_u_0 rfl (lv_at hl 0 rfl) ?_
  refine lv_aload_n hx hb dX10_u_1 rfl (lv_at hl 0 rfl) ?_
  obtain ⟨v1, e1, hf⟩ := pb_rd (rd_gA _ _ _) hf
  refine r_gA C hW e1 flX10_26 rfl dX10_u_2 ?_
  refine lv_iload_n hx hb dX10_u_5 rfl (lv_at hl 1 rfl) ?_
  obtain ⟨v2, e2, hf⟩ := pb_rd (rd_lI _ _ _) hf
  refine r_iald C hW e2 dX10_u_6 ?_
  refine lv_aload_n hx hb dX10_u_7 rfl (lv_at hl 0 rfl) ?_
  obtain ⟨v3, e3, hf⟩ := pb_rd (rd_gA _ _ _) hf
  refine r_gA C hW e3 flX10_26 rfl dX10_u_8 ?_
  refine lv_iload_n hx hb dX10_u_11 rfl (lv_at hl 1 rfl) ?_
  obtain ⟨v4, e4, hf⟩ := pb_rd (rd_lI _ _ _) hf
  refine r_iald C hW e4 dX10_u_12 ?_
  refine lv_aload_n hx hb dX10_u_13 rfl (lv_at hl 0 rfl) ?_
  obtain ⟨v5, e5, hf⟩ := pb_rd (rd_gA _ _ _) hf
  refine r_gA C hW e5 flX10_29 rfl dX10_u_14 ?_
  refine lv_iload_n hx hb dX10_u_17 rfl (lv_at hl 1 rfl) ?_
  obtain ⟨v6, e6, hf⟩ := pb_rd (rd_lI _ _ _) hf
  refine r_iald C hW e6 dX10_u_18 ?_
  refine lv_iadd hx hb dX10_u_19 ?_
  obtain ⟨v7, h7, e7, hf⟩ := pb_some hf
  obtain ⟨_, _, t8⟩ := tgX10_of e7
  refine r_calli hW (pext e7) (run_V (b := x0) (As := [.int v2, .int (v4 + v6)]) (rest := []) C hW (metX10_of l G ρ e7) ⟨rfl, rfl⟩ kcX10_of (tq q_868 rfl) kiX10_of ksX10_of knX10_of kdX10_of t8 rfl rfl ⟨Nat.le_of_ble_eq_true rfl, Nat.le_of_ble_eq_true rfl⟩ hl.1 (Nat.le_of_ble_eq_true rfl) (room_of hW (pext e7) ((pext hf).tr hX)) dX10_u_20 rfl) (fun H locs c1 s1 hW => ?_)
  obtain ⟨rfl, rfl⟩ := pp_some hf
  exact r_iret C hW dX10_u_23

theorem dX10_laysCusps_0 : decode cX10_laysCusps 0 = .ok (.aload_n 0, 1) := by decide +kernel
theorem dX10_laysCusps_1 : decode cX10_laysCusps 1 = .ok (.iconst 0, 1) := by decide +kernel
theorem dX10_laysCusps_2 : decode cX10_laysCusps 2 = .ok (.putfield 162, 3) := by decide +kernel
theorem dX10_laysCusps_5 : decode cX10_laysCusps 5 = .ok (.iconst 0, 1) := by decide +kernel
theorem dX10_laysCusps_6 : decode cX10_laysCusps 6 = .ok (.istore_n 1, 1) := by decide +kernel
theorem dX10_laysCusps_7 : decode cX10_laysCusps 7 = .ok (.iload_n 1, 1) := by decide +kernel
theorem dX10_laysCusps_8 : decode cX10_laysCusps 8 = .ok (.aload_n 0, 1) := by decide +kernel
theorem dX10_laysCusps_9 : decode cX10_laysCusps 9 = .ok (.getfield 156, 3) := by decide +kernel
theorem dX10_laysCusps_12 : decode cX10_laysCusps 12 = .ok (.if_icmp .ge 16, 3) := by decide +kernel
theorem dX10_laysCusps_15 : decode cX10_laysCusps 15 = .ok (.aload_n 0, 1) := by decide +kernel
theorem dX10_laysCusps_16 : decode cX10_laysCusps 16 = .ok (.getfield 32, 3) := by decide +kernel
theorem dX10_laysCusps_19 : decode cX10_laysCusps 19 = .ok (.iload_n 1, 1) := by decide +kernel
theorem dX10_laysCusps_20 : decode cX10_laysCusps 20 = .ok (.iconst (-1), 1) := by decide +kernel
theorem dX10_laysCusps_21 : decode cX10_laysCusps 21 = .ok (.iastore, 1) := by decide +kernel
theorem dX10_laysCusps_22 : decode cX10_laysCusps 22 = .ok (.iinc 1 1, 3) := by decide +kernel
theorem dX10_laysCusps_25 : decode cX10_laysCusps 25 = .ok (.goto (-18), 3) := by decide +kernel
theorem dX10_laysCusps_28 : decode cX10_laysCusps 28 = .ok (.iconst 0, 1) := by decide +kernel
theorem dX10_laysCusps_29 : decode cX10_laysCusps 29 = .ok (.istore_n 1, 1) := by decide +kernel
theorem dX10_laysCusps_30 : decode cX10_laysCusps 30 = .ok (.iload_n 1, 1) := by decide +kernel
theorem dX10_laysCusps_31 : decode cX10_laysCusps 31 = .ok (.aload_n 0, 1) := by decide +kernel
theorem dX10_laysCusps_32 : decode cX10_laysCusps 32 = .ok (.getfield 156, 3) := by decide +kernel
theorem dX10_laysCusps_35 : decode cX10_laysCusps 35 = .ok (.if_icmp .ge 60, 3) := by decide +kernel
theorem dX10_laysCusps_38 : decode cX10_laysCusps 38 = .ok (.aload_n 0, 1) := by decide +kernel
theorem dX10_laysCusps_39 : decode cX10_laysCusps 39 = .ok (.getfield 32, 3) := by decide +kernel
theorem dX10_laysCusps_42 : decode cX10_laysCusps 42 = .ok (.iload_n 1, 1) := by decide +kernel
theorem dX10_laysCusps_43 : decode cX10_laysCusps 43 = .ok (.iaload, 1) := by decide +kernel
theorem dX10_laysCusps_44 : decode cX10_laysCusps 44 = .ok (.iconst (-1), 1) := by decide +kernel
theorem dX10_laysCusps_45 : decode cX10_laysCusps 45 = .ok (.if_icmp .ne 44, 3) := by decide +kernel
theorem dX10_laysCusps_48 : decode cX10_laysCusps 48 = .ok (.iload_n 1, 1) := by decide +kernel
theorem dX10_laysCusps_49 : decode cX10_laysCusps 49 = .ok (.istore_n 2, 1) := by decide +kernel
theorem dX10_laysCusps_50 : decode cX10_laysCusps 50 = .ok (.aload_n 0, 1) := by decide +kernel
theorem dX10_laysCusps_51 : decode cX10_laysCusps 51 = .ok (.getfield 32, 3) := by decide +kernel
theorem dX10_laysCusps_54 : decode cX10_laysCusps 54 = .ok (.iload_n 2, 1) := by decide +kernel
theorem dX10_laysCusps_55 : decode cX10_laysCusps 55 = .ok (.iaload, 1) := by decide +kernel
theorem dX10_laysCusps_56 : decode cX10_laysCusps 56 = .ok (.iconst (-1), 1) := by decide +kernel
theorem dX10_laysCusps_57 : decode cX10_laysCusps 57 = .ok (.if_icmp .ne 22, 3) := by decide +kernel
theorem dX10_laysCusps_60 : decode cX10_laysCusps 60 = .ok (.aload_n 0, 1) := by decide +kernel
theorem dX10_laysCusps_61 : decode cX10_laysCusps 61 = .ok (.getfield 32, 3) := by decide +kernel
theorem dX10_laysCusps_64 : decode cX10_laysCusps 64 = .ok (.iload_n 2, 1) := by decide +kernel
theorem dX10_laysCusps_65 : decode cX10_laysCusps 65 = .ok (.aload_n 0, 1) := by decide +kernel
theorem dX10_laysCusps_66 : decode cX10_laysCusps 66 = .ok (.getfield 162, 3) := by decide +kernel
theorem dX10_laysCusps_69 : decode cX10_laysCusps 69 = .ok (.iastore, 1) := by decide +kernel
theorem dX10_laysCusps_70 : decode cX10_laysCusps 70 = .ok (.aload_n 0, 1) := by decide +kernel
theorem dX10_laysCusps_71 : decode cX10_laysCusps 71 = .ok (.iload_n 2, 1) := by decide +kernel
theorem dX10_laysCusps_72 : decode cX10_laysCusps 72 = .ok (.invokevirtual 165, 3) := by decide +kernel
theorem dX10_laysCusps_75 : decode cX10_laysCusps 75 = .ok (.istore_n 2, 1) := by decide +kernel
theorem dX10_laysCusps_76 : decode cX10_laysCusps 76 = .ok (.goto (-26), 3) := by decide +kernel
theorem dX10_laysCusps_79 : decode cX10_laysCusps 79 = .ok (.aload_n 0, 1) := by decide +kernel
theorem dX10_laysCusps_80 : decode cX10_laysCusps 80 = .ok (.dup, 1) := by decide +kernel
theorem dX10_laysCusps_81 : decode cX10_laysCusps 81 = .ok (.getfield 162, 3) := by decide +kernel
theorem dX10_laysCusps_84 : decode cX10_laysCusps 84 = .ok (.iconst 1, 1) := by decide +kernel
theorem dX10_laysCusps_85 : decode cX10_laysCusps 85 = .ok (.iadd, 1) := by decide +kernel
theorem dX10_laysCusps_86 : decode cX10_laysCusps 86 = .ok (.putfield 162, 3) := by decide +kernel
theorem dX10_laysCusps_89 : decode cX10_laysCusps 89 = .ok (.iinc 1 1, 3) := by decide +kernel
theorem dX10_laysCusps_92 : decode cX10_laysCusps 92 = .ok (.goto (-62), 3) := by decide +kernel
theorem dX10_laysCusps_95 : decode cX10_laysCusps 95 = .ok (.return_, 1) := by decide +kernel
theorem kcX10_laysCusps : Cond.code yX10_laysCusps cX10_laysCusps 3 none ∈ tb := tq q_882 rfl
theorem knX10_laysCusps : Cond.initialized yX10_laysCusps.cls ∈ tb := (tq q_10 rfl)
theorem kdX10_laysCusps : yX10_laysCusps.cls ≠ "java/lang/invoke/MethodHandle" ∧ yX10_laysCusps.cls ≠ "java/lang/invoke/VarHandle" ∧ (parseMethodDescriptor yX10_laysCusps.desc).map (fun d => d.parameters.length) = some 0 := ⟨by decide +kernel, by decide +kernel, by decide +kernel⟩
theorem kiX10_laysCusps : Cond.instanceMethod yX10_laysCusps ∈ tb := (tq q_881 rfl)
theorem ksX10_laysCusps : Cond.selects yX10_laysCusps.cls yX10_laysCusps yX10_laysCusps ∈ tb := (tq z_33 rfl)
theorem tgX10_laysCusps {x0 : Nat} {h : PH} {r : Unit × PH} (hf : (fX10_laysCusps x0).1 h = some r) : ∃ n x, nth h x0 = some (9, n, x) := by
  obtain ⟨_, _, e, _⟩ := pb_some hf
  exact (chk_some e).2
set_option maxHeartbeats 4000000 in
set_option maxRecDepth 100000 in
theorem wX10_laysCusps_B7 {p : Program} {l : Launch} {e : Env} {s : State} {m : MethodId} {args : Array Value} {below : List Frame} {meth : Method} {c : Code} {G : GG} {ρ : Nat → Nat} {h0 hE hB : PH} {Q : State → Prop} {x0 : Nat} (C : Cx G "PairSymbolsModel" cX10_laysCusps 3 none "laysCusps" p s m args meth c) {x1 : Int32} {h : PH} {H : Heap} {locs : List Loc} {cells slots : Nat} {ls : Array Slot} {r : (Int32) ⊕ (Unit)} (hf : (fX10_laysCusps_b7 x0 x1).1 h = some (r, hB)) (hX : Ext hB hE) (hW : Wd G ρ h0.length (sl h0) s.heap h H locs cells slots) (hl : lv_has ls 3 [(0, .ref (ρ x0)), (1, .int x1)]) (kc : ∀ y : Int32, r = .inl y → ∀ (H : Heap) (locs : List Loc) (c1 s1 : Nat) (ls : Array Slot), Wd G ρ h0.length (sl h0) s.heap hB H locs c1 s1 → lv_has ls 3 [(0, .ref (ρ x0)), (1, .int y)] → W p l e (RM 3 66 h0 hE) s m args below meth c H locs c1 s1 Q (F0 m 7 ls [])) (ke : ∀ z : Unit, r = .inr z → ∀ (H : Heap) (locs : List Loc) (c1 s1 : Nat) (ls : Array Slot), Wd G ρ h0.length (sl h0) s.heap hB H locs c1 s1 → lv_has ls 3 [(0, .ref (ρ x0))] → W p l e (RM 3 66 h0 hE) s m args below meth c H locs c1 s1 Q (F0 m 28 ls [])) : W p l e (RM 3 66 h0 hE) s m args below meth c H locs cells slots Q (F0 m 7 ls []) := by
  have hx := C.1
  have hb := C.2.1
  unfold fX10_laysCusps_b7 at hf
  refine lv_iload_n hx hb dX10_laysCusps_7 rfl (lv_at hl 1 rfl) ?_
  refine lv_aload_n hx hb dX10_laysCusps_8 rfl (lv_at hl 0 rfl) ?_
  obtain ⟨v2, e2, hf⟩ := pb_rd (rd_gI _ _ _) hf
  refine r_gI C hW e2 flX10_156 rfl dX10_laysCusps_9 ?_
  refine lv_icmp_ge (tgt := 28) hx hb dX10_laysCusps_12 (by decide) (fun c3 => ?_) (fun c3 => ?_)
  · rw [if_pos c3] at hf
    obtain ⟨rfl, rfl⟩ := pp_some hf
    exact ke _ rfl _ _ _ _ _ hW (lv_sub hl [0] rfl)
  · rw [if_neg c3] at hf
    refine lv_aload_n hx hb dX10_laysCusps_15 rfl (lv_at hl 0 rfl) ?_
    obtain ⟨v4, e4, hf⟩ := pb_rd (rd_gA _ _ _) hf
    refine r_gA C hW e4 flX10_32 rfl dX10_laysCusps_16 ?_
    refine lv_iload_n hx hb dX10_laysCusps_19 rfl (lv_at hl 1 rfl) ?_
    refine lv_iconst (v := -1) hx hb dX10_laysCusps_20 (by decide) ?_
    obtain ⟨_, h5, e5, hf⟩ := pb_some hf
    refine r_iast C hW e5 dX10_laysCusps_21 (fun H locs hW => ?_)
    refine lv_iinc (v := (x1 + 1)) (lv' := [(1, .int (x1 + 1)), (0, .ref (ρ x0))]) hx hb dX10_laysCusps_22 hl (k := 1) rfl rfl (by decide) rfl (fun ls hl => ?_)
    refine lv_goto (tgt := 7) hx hb dX10_laysCusps_25 (by decide) ?_
    obtain ⟨rfl, rfl⟩ := pp_some hf
    exact kc _ rfl _ _ _ _ _ hW (lv_sub hl [1, 0] rfl)
set_option maxHeartbeats 4000000 in
theorem wX10_laysCusps_L7 {p : Program} {l : Launch} {e : Env} {s : State} {m : MethodId} {args : Array Value} {below : List Frame} {meth : Method} {c : Code} {G : GG} {ρ : Nat → Nat} {h0 hE hB : PH} {Q : State → Prop} {x0 : Nat} (C : Cx G "PairSymbolsModel" cX10_laysCusps 3 none "laysCusps" p s m args meth c) {z : (Unit)} (n : Nat) : ∀ (x : Int32) {h : PH} {H : Heap} {locs : List Loc} {cells slots : Nat} {ls : Array Slot}, (plo (fX10_laysCusps_B7 x0) n x).1 h = some (z, hB) → Ext hB hE → Wd G ρ h0.length (sl h0) s.heap h H locs cells slots → lv_has ls 3 [(0, .ref (ρ x0)), (1, .int x)] → (ke : ∀ (H : Heap) (locs : List Loc) (c1 s1 : Nat) (ls : Array Slot), Wd G ρ h0.length (sl h0) s.heap hB H locs c1 s1 → lv_has ls 3 [(0, .ref (ρ x0))] → W p l e (RM 3 66 h0 hE) s m args below meth c H locs c1 s1 Q (F0 m 28 ls [])) → W p l e (RM 3 66 h0 hE) s m args below meth c H locs cells slots Q (F0 m 7 ls []) := by
  induction n with
  | zero =>
    intro x h H locs cells slots ls hf
    rw [plo_0] at hf
    exact (pf_no hf).elim
  | succ n ih =>
    intro x h H locs cells slots ls hf hX hW hl ke
    rw [plo_s] at hf
    obtain ⟨r, h1, e1, hf⟩ := pb_some hf
    unfold fX10_laysCusps_B7 at e1
    rw [frI_eq] at e1
    refine wX10_laysCusps_B7 C e1 ((pext hf).tr hX) hW hl (fun y hr H locs c1 s1 ls hW hl => ?_) (fun y hr H locs c1 s1 ls hW hl => ?_)
    · subst hr
      exact ih y hf hX hW hl ke
    · subst hr
      obtain ⟨rfl, rfl⟩ := pp_some hf
      exact ke H locs c1 s1 ls hW hl
set_option maxHeartbeats 4000000 in
set_option maxRecDepth 100000 in
theorem wX10_laysCusps_B50 {p : Program} {l : Launch} {e : Env} {s : State} {m : MethodId} {args : Array Value} {below : List Frame} {meth : Method} {c : Code} {G : GG} {ρ : Nat → Nat} {h0 hE hB : PH} {Q : State → Prop} {x0 : Nat} {x1 : Int32} (C : Cx G "PairSymbolsModel" cX10_laysCusps 3 none "laysCusps" p s m args meth c) {x2 : Int32} {h : PH} {H : Heap} {locs : List Loc} {cells slots : Nat} {ls : Array Slot} {r : (Int32) ⊕ (Unit)} (hf : (fX10_laysCusps_b50 x0 x1 x2).1 h = some (r, hB)) (hX : Ext hB hE) (hW : Wd G ρ h0.length (sl h0) s.heap h H locs cells slots) (hl : lv_has ls 3 [(0, .ref (ρ x0)), (1, .int x1), (2, .int x2)]) (kc : ∀ y : Int32, r = .inl y → ∀ (H : Heap) (locs : List Loc) (c1 s1 : Nat) (ls : Array Slot), Wd G ρ h0.length (sl h0) s.heap hB H locs c1 s1 → lv_has ls 3 [(0, .ref (ρ x0)), (1, .int x1), (2, .int y)] → W p l e (RM 3 66 h0 hE) s m args below meth c H locs c1 s1 Q (F0 m 50 ls [])) (ke : ∀ z : Unit, r = .inr z → ∀ (H : Heap) (locs : List Loc) (c1 s1 : Nat) (ls : Array Slot), Wd G ρ h0.length (sl h0) s.heap hB H locs c1 s1 → lv_has ls 3 [(0, .ref (ρ x0)), (1, .int x1)] → W p l e (RM 3 66 h0 hE) s m args below meth c H locs c1 s1 Q (F0 m 79 ls [])) : W p l e (RM 3 66 h0 hE) s m args below meth c H locs cells slots Q (F0 m 50 ls []) := by
  have hx := C.1
  have hb := C.2.1
  unfold fX10_laysCusps_b50 at hf
  refine lv_aload_n hx hb dX10_laysCusps_50 rfl (lv_at hl 0 rfl) ?_
  obtain ⟨v12, e12, hf⟩ := pb_rd (rd_gA _ _ _) hf
  refine r_gA C hW e12 flX10_32 rfl dX10_laysCusps_51 ?_
  refine lv_iload_n hx hb dX10_laysCusps_54 rfl (lv_at hl 2 rfl) ?_
  obtain ⟨v13, e13, hf⟩ := pb_rd (rd_lI _ _ _) hf
  refine r_iald C hW e13 dX10_laysCusps_55 ?_
  refine lv_iconst (v := -1) hx hb dX10_laysCusps_56 (by decide) ?_
  refine lv_icmp_ne (tgt := 79) hx hb dX10_laysCusps_57 (by decide) (fun c14 => ?_) (fun c14 => ?_)
  · rw [if_neg c14] at hf
    obtain ⟨rfl, rfl⟩ := pp_some hf
    exact ke _ rfl _ _ _ _ _ hW (lv_sub hl [0, 1] rfl)
  · rw [if_pos c14] at hf
    refine lv_aload_n hx hb dX10_laysCusps_60 rfl (lv_at hl 0 rfl) ?_
    obtain ⟨v15, e15, hf⟩ := pb_rd (rd_gA _ _ _) hf
    refine r_gA C hW e15 flX10_32 rfl dX10_laysCusps_61 ?_
    refine lv_iload_n hx hb dX10_laysCusps_64 rfl (lv_at hl 2 rfl) ?_
    refine lv_aload_n hx hb dX10_laysCusps_65 rfl (lv_at hl 0 rfl) ?_
    obtain ⟨v16, e16, hf⟩ := pb_rd (rd_gI _ _ _) hf
    refine r_gI C hW e16 flX10_162 rfl dX10_laysCusps_66 ?_
    obtain ⟨_, h17, e17, hf⟩ := pb_some hf
    refine r_iast C hW e17 dX10_laysCusps_69 (fun H locs hW => ?_)
    refine lv_aload_n hx hb dX10_laysCusps_70 rfl (lv_at hl 0 rfl) ?_
    refine lv_iload_n hx hb dX10_laysCusps_71 rfl (lv_at hl 2 rfl) ?_
    obtain ⟨v18, h18, e18, hf⟩ := pb_some hf
    obtain ⟨_, _, t19⟩ := tgX10_u e18
    refine r_calli hW (pext e18) (run_V (b := x0) (As := [.int x2]) (rest := []) C hW (metX10_u l G ρ e18) ⟨rfl, rfl⟩ kcX10_u (tq q_883 rfl) kiX10_u ksX10_u knX10_u kdX10_u t19 rfl rfl ⟨Nat.le_of_ble_eq_true rfl, Nat.le_of_ble_eq_true rfl⟩ hl.1 (Nat.le_of_ble_eq_true rfl) (room_of hW (pext e18) ((pext hf).tr hX)) dX10_laysCusps_72 rfl) (fun H locs c1 s1 hW => ?_)
    refine lv_istore_n (lv' := [(2, .int v18), (0, .ref (ρ x0)), (1, .int x1)]) hx hb dX10_laysCusps_75 rfl hl (by decide) rfl (fun ls hl => ?_)
    refine lv_goto (tgt := 50) hx hb dX10_laysCusps_76 (by decide) ?_
    obtain ⟨rfl, rfl⟩ := pp_some hf
    exact kc _ rfl _ _ _ _ _ hW (lv_sub hl [1, 2, 0] rfl)
set_option maxHeartbeats 4000000 in
theorem wX10_laysCusps_L50 {p : Program} {l : Launch} {e : Env} {s : State} {m : MethodId} {args : Array Value} {below : List Frame} {meth : Method} {c : Code} {G : GG} {ρ : Nat → Nat} {h0 hE hB : PH} {Q : State → Prop} {x0 : Nat} {x1 : Int32} (C : Cx G "PairSymbolsModel" cX10_laysCusps 3 none "laysCusps" p s m args meth c) {z : (Unit)} (n : Nat) : ∀ (x : Int32) {h : PH} {H : Heap} {locs : List Loc} {cells slots : Nat} {ls : Array Slot}, (plo (fX10_laysCusps_B50 x0 x1) n x).1 h = some (z, hB) → Ext hB hE → Wd G ρ h0.length (sl h0) s.heap h H locs cells slots → lv_has ls 3 [(0, .ref (ρ x0)), (1, .int x1), (2, .int x)] → (ke : ∀ (H : Heap) (locs : List Loc) (c1 s1 : Nat) (ls : Array Slot), Wd G ρ h0.length (sl h0) s.heap hB H locs c1 s1 → lv_has ls 3 [(0, .ref (ρ x0)), (1, .int x1)] → W p l e (RM 3 66 h0 hE) s m args below meth c H locs c1 s1 Q (F0 m 79 ls [])) → W p l e (RM 3 66 h0 hE) s m args below meth c H locs cells slots Q (F0 m 50 ls []) := by
  induction n with
  | zero =>
    intro x h H locs cells slots ls hf
    rw [plo_0] at hf
    exact (pf_no hf).elim
  | succ n ih =>
    intro x h H locs cells slots ls hf hX hW hl ke
    rw [plo_s] at hf
    obtain ⟨r, h1, e1, hf⟩ := pb_some hf
    unfold fX10_laysCusps_B50 at e1
    rw [frI_eq] at e1
    refine wX10_laysCusps_B50 C e1 ((pext hf).tr hX) hW hl (fun y hr H locs c1 s1 ls hW hl => ?_) (fun y hr H locs c1 s1 ls hW hl => ?_)
    · subst hr
      exact ih y hf hX hW hl ke
    · subst hr
      obtain ⟨rfl, rfl⟩ := pp_some hf
      exact ke H locs c1 s1 ls hW hl
set_option maxHeartbeats 4000000 in
set_option maxRecDepth 100000 in
theorem wX10_laysCusps_B30 {p : Program} {l : Launch} {e : Env} {s : State} {m : MethodId} {args : Array Value} {below : List Frame} {meth : Method} {c : Code} {G : GG} {ρ : Nat → Nat} {h0 hE hB : PH} {Q : State → Prop} {x0 : Nat} (C : Cx G "PairSymbolsModel" cX10_laysCusps 3 none "laysCusps" p s m args meth c) {x1 : Int32} {h : PH} {H : Heap} {locs : List Loc} {cells slots : Nat} {ls : Array Slot} {r : (Int32) ⊕ (Unit)} (hf : (fX10_laysCusps_b30 x0 x1).1 h = some (r, hB)) (hX : Ext hB hE) (hW : Wd G ρ h0.length (sl h0) s.heap h H locs cells slots) (hl : lv_has ls 3 [(0, .ref (ρ x0)), (1, .int x1)]) (kc : ∀ y : Int32, r = .inl y → ∀ (H : Heap) (locs : List Loc) (c1 s1 : Nat) (ls : Array Slot), Wd G ρ h0.length (sl h0) s.heap hB H locs c1 s1 → lv_has ls 3 [(0, .ref (ρ x0)), (1, .int y)] → W p l e (RM 3 66 h0 hE) s m args below meth c H locs c1 s1 Q (F0 m 30 ls [])) (ke : ∀ z : Unit, r = .inr z → ∀ (H : Heap) (locs : List Loc) (c1 s1 : Nat) (ls : Array Slot), Wd G ρ h0.length (sl h0) s.heap hB H locs c1 s1 → lv_has ls 3 [] → W p l e (RM 3 66 h0 hE) s m args below meth c H locs c1 s1 Q (F0 m 95 ls [])) : W p l e (RM 3 66 h0 hE) s m args below meth c H locs cells slots Q (F0 m 30 ls []) := by
  have hx := C.1
  have hb := C.2.1
  unfold fX10_laysCusps_b30 at hf
  refine lv_iload_n hx hb dX10_laysCusps_30 rfl (lv_at hl 1 rfl) ?_
  refine lv_aload_n hx hb dX10_laysCusps_31 rfl (lv_at hl 0 rfl) ?_
  obtain ⟨v7, e7, hf⟩ := pb_rd (rd_gI _ _ _) hf
  refine r_gI C hW e7 flX10_156 rfl dX10_laysCusps_32 ?_
  refine lv_icmp_ge (tgt := 95) hx hb dX10_laysCusps_35 (by decide) (fun c8 => ?_) (fun c8 => ?_)
  · rw [if_pos c8] at hf
    obtain ⟨rfl, rfl⟩ := pp_some hf
    exact ke _ rfl _ _ _ _ _ hW (lv_sub hl [] rfl)
  · rw [if_neg c8] at hf
    refine lv_aload_n hx hb dX10_laysCusps_38 rfl (lv_at hl 0 rfl) ?_
    obtain ⟨v9, e9, hf⟩ := pb_rd (rd_gA _ _ _) hf
    refine r_gA C hW e9 flX10_32 rfl dX10_laysCusps_39 ?_
    refine lv_iload_n hx hb dX10_laysCusps_42 rfl (lv_at hl 1 rfl) ?_
    obtain ⟨v10, e10, hf⟩ := pb_rd (rd_lI _ _ _) hf
    refine r_iald C hW e10 dX10_laysCusps_43 ?_
    refine lv_iconst (v := -1) hx hb dX10_laysCusps_44 (by decide) ?_
    refine lv_icmp_ne (tgt := 89) hx hb dX10_laysCusps_45 (by decide) (fun c11 => ?_) (fun c11 => ?_)
    · rw [if_neg c11] at hf
      refine lv_iinc (v := (x1 + 1)) (lv' := [(1, .int (x1 + 1)), (0, .ref (ρ x0))]) hx hb dX10_laysCusps_89 hl (k := 1) rfl rfl (by decide) rfl (fun ls hl => ?_)
      refine lv_goto (tgt := 30) hx hb dX10_laysCusps_92 (by decide) ?_
      obtain ⟨rfl, rfl⟩ := pp_some hf
      exact kc _ rfl _ _ _ _ _ hW (lv_sub hl [1, 0] rfl)
    · rw [if_pos c11] at hf
      refine lv_iload_n hx hb dX10_laysCusps_48 rfl (lv_at hl 1 rfl) ?_
      refine lv_istore_n (lv' := [(2, .int x1), (0, .ref (ρ x0)), (1, .int x1)]) hx hb dX10_laysCusps_49 rfl hl (by decide) rfl (fun ls hl => ?_)
      obtain ⟨z20, h20, e20, hf⟩ := pb_some hf
      refine wX10_laysCusps_L50 C fu _ e20 ((pext hf).tr hX) hW (lv_sub hl [1, 2, 0] rfl) (fun H locs c1 s1 ls hW hl => ?_)
      refine lv_aload_n hx hb dX10_laysCusps_79 rfl (lv_at hl 0 rfl) ?_
      refine lv_dup hx hb dX10_laysCusps_80 rfl ?_
      obtain ⟨v21, e21, hf⟩ := pb_rd (rd_gI _ _ _) hf
      refine r_gI C hW e21 flX10_162 rfl dX10_laysCusps_81 ?_
      refine lv_iconst (v := 1) hx hb dX10_laysCusps_84 (by decide) ?_
      refine lv_iadd hx hb dX10_laysCusps_85 ?_
      obtain ⟨_, h22, e22, hf⟩ := pb_some hf
      refine r_sI C hW e22 flX10_162 (Or.inl rfl) rfl dX10_laysCusps_86 (fun H locs hW => ?_)
      refine lv_iinc (v := (x1 + 1)) (lv' := [(1, .int (x1 + 1)), (0, .ref (ρ x0))]) hx hb dX10_laysCusps_89 hl (k := 1) rfl rfl (by decide) rfl (fun ls hl => ?_)
      refine lv_goto (tgt := 30) hx hb dX10_laysCusps_92 (by decide) ?_
      obtain ⟨rfl, rfl⟩ := pp_some hf
      exact kc _ rfl _ _ _ _ _ hW (lv_sub hl [1, 0] rfl)
set_option maxHeartbeats 4000000 in
theorem wX10_laysCusps_L30 {p : Program} {l : Launch} {e : Env} {s : State} {m : MethodId} {args : Array Value} {below : List Frame} {meth : Method} {c : Code} {G : GG} {ρ : Nat → Nat} {h0 hE hB : PH} {Q : State → Prop} {x0 : Nat} (C : Cx G "PairSymbolsModel" cX10_laysCusps 3 none "laysCusps" p s m args meth c) {z : (Unit)} (n : Nat) : ∀ (x : Int32) {h : PH} {H : Heap} {locs : List Loc} {cells slots : Nat} {ls : Array Slot}, (plo (fX10_laysCusps_B30 x0) n x).1 h = some (z, hB) → Ext hB hE → Wd G ρ h0.length (sl h0) s.heap h H locs cells slots → lv_has ls 3 [(0, .ref (ρ x0)), (1, .int x)] → (ke : ∀ (H : Heap) (locs : List Loc) (c1 s1 : Nat) (ls : Array Slot), Wd G ρ h0.length (sl h0) s.heap hB H locs c1 s1 → lv_has ls 3 [] → W p l e (RM 3 66 h0 hE) s m args below meth c H locs c1 s1 Q (F0 m 95 ls [])) → W p l e (RM 3 66 h0 hE) s m args below meth c H locs cells slots Q (F0 m 30 ls []) := by
  induction n with
  | zero =>
    intro x h H locs cells slots ls hf
    rw [plo_0] at hf
    exact (pf_no hf).elim
  | succ n ih =>
    intro x h H locs cells slots ls hf hX hW hl ke
    rw [plo_s] at hf
    obtain ⟨r, h1, e1, hf⟩ := pb_some hf
    unfold fX10_laysCusps_B30 at e1
    rw [frI_eq] at e1
    refine wX10_laysCusps_B30 C e1 ((pext hf).tr hX) hW hl (fun y hr H locs c1 s1 ls hW hl => ?_) (fun y hr H locs c1 s1 ls hW hl => ?_)
    · subst hr
      exact ih y hf hX hW hl ke
    · subst hr
      obtain ⟨rfl, rfl⟩ := pp_some hf
      exact ke H locs c1 s1 ls hW hl
set_option maxHeartbeats 4000000 in
set_option maxRecDepth 100000 in
theorem metX10_laysCusps (l : Launch) (G : GG) (ρ : Nat → Nat) {z : Nat} {x0 : Nat} {h hE : PH} {v : Unit} (hf : (fX10_laysCusps x0).1 h = some (v, hE)) : Met l yX10_laysCusps (wsY yX10_laysCusps cX10_laysCusps 3 none) (RM 3 66 h hE) (va_Pc [.ref (ρ x0)] (PcB G ρ h z)) (QV G ρ hE h.length z) (DC h hE) (DS h hE) (Af ρ h.length z) := by
  refine met_start (by decide) (Nat.le_of_ble_eq_true rfl) ?_
  intro p e s m below meth c ls hz C hW hl
  subst hz
  have C : Cx G "PairSymbolsModel" cX10_laysCusps 3 none "laysCusps" p s m _ meth c := C
  have hx := C.1
  have hb := C.2.1
  have hX : Ext hE hE := Ext.rf hE
  have hl : lv_has ls 3 [(0, .ref (ρ x0))] := hl
  have hW : Wd G ρ h.length (sl h) s.heap h s.heap [] 0 0 := hW
  unfold fX10_laysCusps at hf
  obtain ⟨_, e0, hf⟩ := pb_rd (rd_chk _ _) hf
  refine lv_aload_n hx hb dX10_laysCusps_0 rfl (lv_at hl 0 rfl) ?_
  refine lv_iconst (v := 0) hx hb dX10_laysCusps_1 (by decide) ?_
  obtain ⟨_, h1, e1, hf⟩ := pb_some hf
  refine r_sI C hW e1 flX10_162 (Or.inl rfl) rfl dX10_laysCusps_2 (fun H locs hW => ?_)
  refine lv_iconst (v := 0) hx hb dX10_laysCusps_5 (by decide) ?_
  refine lv_istore_n (lv' := [(1, .int (0 : Int32)), (0, .ref (ρ x0))]) hx hb dX10_laysCusps_6 rfl hl (by decide) rfl (fun ls hl => ?_)
  obtain ⟨z6, h6, e6, hf⟩ := pb_some hf
  refine wX10_laysCusps_L7 C fu _ e6 ((pext hf).tr hX) hW (lv_sub hl [1, 0] rfl) (fun H locs c1 s1 ls hW hl => ?_)
  refine lv_iconst (v := 0) hx hb dX10_laysCusps_28 (by decide) ?_
  refine lv_istore_n (lv' := [(1, .int (0 : Int32)), (0, .ref (ρ x0))]) hx hb dX10_laysCusps_29 rfl hl (by decide) rfl (fun ls hl => ?_)
  obtain ⟨z23, h23, e23, hf⟩ := pb_some hf
  refine wX10_laysCusps_L30 C fu _ e23 ((pext hf).tr hX) hW (lv_sub hl [1, 0] rfl) (fun H locs c1 s1 ls hW hl => ?_)
  obtain ⟨rfl, rfl⟩ := pp_some hf
  exact r_vret C hW dX10_laysCusps_95
