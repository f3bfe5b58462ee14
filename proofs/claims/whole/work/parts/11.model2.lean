theorem flX10_192 : FL "PairSymbolsModel" 192 9 14 false := ⟨_, CT9, by decide, (tq q_689 rfl), rfl, fun _ => Or.inr trivial⟩
theorem flX10_195 : FL "PairSymbolsModel" 195 9 7 false := ⟨_, CT9, by decide, (tq q_682 rfl), rfl, fun _ => Or.inr trivial⟩
theorem dX10_emptiesRow_0 : decode cX10_emptiesRow 0 = .ok (.iconst 0, 1) := by decide +kernel
theorem dX10_emptiesRow_1 : decode cX10_emptiesRow 1 = .ok (.istore_n 1, 1) := by decide +kernel
theorem dX10_emptiesRow_2 : decode cX10_emptiesRow 2 = .ok (.iload_n 1, 1) := by decide +kernel
theorem dX10_emptiesRow_3 : decode cX10_emptiesRow 3 = .ok (.bipush 48, 2) := by decide +kernel
theorem dX10_emptiesRow_5 : decode cX10_emptiesRow 5 = .ok (.if_icmp .ge 23, 3) := by decide +kernel
theorem dX10_emptiesRow_8 : decode cX10_emptiesRow 8 = .ok (.aload_n 0, 1) := by decide +kernel
theorem dX10_emptiesRow_9 : decode cX10_emptiesRow 9 = .ok (.getfield 57, 3) := by decide +kernel
theorem dX10_emptiesRow_12 : decode cX10_emptiesRow 12 = .ok (.iload_n 1, 1) := by decide +kernel
theorem dX10_emptiesRow_13 : decode cX10_emptiesRow 13 = .ok (.lconst 0, 1) := by decide +kernel
theorem dX10_emptiesRow_14 : decode cX10_emptiesRow 14 = .ok (.lastore, 1) := by decide +kernel
theorem dX10_emptiesRow_15 : decode cX10_emptiesRow 15 = .ok (.aload_n 0, 1) := by decide +kernel
theorem dX10_emptiesRow_16 : decode cX10_emptiesRow 16 = .ok (.getfield 60, 3) := by decide +kernel
theorem dX10_emptiesRow_19 : decode cX10_emptiesRow 19 = .ok (.iload_n 1, 1) := by decide +kernel
theorem dX10_emptiesRow_20 : decode cX10_emptiesRow 20 = .ok (.lconst 1, 1) := by decide +kernel
theorem dX10_emptiesRow_21 : decode cX10_emptiesRow 21 = .ok (.lastore, 1) := by decide +kernel
theorem dX10_emptiesRow_22 : decode cX10_emptiesRow 22 = .ok (.iinc 1 1, 3) := by decide +kernel
theorem dX10_emptiesRow_25 : decode cX10_emptiesRow 25 = .ok (.goto (-23), 3) := by decide +kernel
theorem dX10_emptiesRow_28 : decode cX10_emptiesRow 28 = .ok (.return_, 1) := by decide +kernel
theorem kcX10_emptiesRow : Cond.code yX10_emptiesRow cX10_emptiesRow 2 none ∈ tb := tq q_894 rfl
theorem knX10_emptiesRow : Cond.initialized yX10_emptiesRow.cls ∈ tb := (tq q_10 rfl)
theorem kdX10_emptiesRow : yX10_emptiesRow.cls ≠ "java/lang/invoke/MethodHandle" ∧ yX10_emptiesRow.cls ≠ "java/lang/invoke/VarHandle" ∧ (parseMethodDescriptor yX10_emptiesRow.desc).map (fun d => d.parameters.length) = some 0 := ⟨by decide +kernel, by decide +kernel, by decide +kernel⟩
theorem kiX10_emptiesRow : Cond.instanceMethod yX10_emptiesRow ∈ tb := (tq q_893 rfl)
theorem ksX10_emptiesRow : Cond.selects yX10_emptiesRow.cls yX10_emptiesRow yX10_emptiesRow ∈ tb := (tq z_36 rfl)
theorem tgX10_emptiesRow {x0 : Nat} {h : PH} {r : Unit × PH} (hf : (fX10_emptiesRow x0).1 h = some r) : ∃ n x, nth h x0 = some (9, n, x) := by
  obtain ⟨_, _, e, _⟩ := pb_some hf
  exact (chk_some e).2
set_option maxHeartbeats 4000000 in
set_option maxRecDepth 100000 in
theorem wX10_emptiesRow_B2 {p : Program} {l : Launch} {e : Env} {s : State} {m : MethodId} {args : Array Value} {below : List Frame} {meth : Method} {c : Code} {G : GG} {ρ : Nat → Nat} {h0 hE hB : PH} {Q : State → Prop} {x0 : Nat} (C : Cx G "PairSymbolsModel" cX10_emptiesRow 2 none "emptiesRow" p s m args meth c) {x1 : Int32} {h : PH} {H : Heap} {locs : List Loc} {cells slots : Nat} {ls : Array Slot} {r : (Int32) ⊕ (Unit)} (hf : (fX10_emptiesRow_b2 x0 x1).1 h = some (r, hB)) (hX : Ext hB hE) (hW : Wd G ρ h0.length (sl h0) s.heap h H locs cells slots) (hl : lv_has ls 2 [(0, .ref (ρ x0)), (1, .int x1)]) (kc : ∀ y : Int32, r = .inl y → ∀ (H : Heap) (locs : List Loc) (c1 s1 : Nat) (ls : Array Slot), Wd G ρ h0.length (sl h0) s.heap hB H locs c1 s1 → lv_has ls 2 [(0, .ref (ρ x0)), (1, .int y)] → W p l e (RM 0 0 h0 hE) s m args below meth c H locs c1 s1 Q (F0 m 2 ls [])) (ke : ∀ z : Unit, r = .inr z → ∀ (H : Heap) (locs : List Loc) (c1 s1 : Nat) (ls : Array Slot), Wd G ρ h0.length (sl h0) s.heap hB H locs c1 s1 → lv_has ls 2 [] → W p l e (RM 0 0 h0 hE) s m args below meth c H locs c1 s1 Q (F0 m 28 ls [])) : W p l e (RM 0 0 h0 hE) s m args below meth c H locs cells slots Q (F0 m 2 ls []) := by
  have hx := C.1
  have hb := C.2.1
  unfold fX10_emptiesRow_b2 at hf
  refine lv_iload_n hx hb dX10_emptiesRow_2 rfl (lv_at hl 1 rfl) ?_
  refine lv_bipush (v := 48) hx hb dX10_emptiesRow_3 (by decide) ?_
  refine lv_icmp_ge (tgt := 28) hx hb dX10_emptiesRow_5 (by decide) (fun c1 => ?_) (fun c1 => ?_)
  · rw [if_pos c1] at hf
    obtain ⟨rfl, rfl⟩ := pp_some hf
    exact ke _ rfl _ _ _ _ _ hW (lv_sub hl [] rfl)
  · rw [if_neg c1] at hf
    refine lv_aload_n hx hb dX10_emptiesRow_8 rfl (lv_at hl 0 rfl) ?_
    obtain ⟨v2, e2, hf⟩ := pb_rd (rd_gA _ _ _) hf
    refine r_gA C hW e2 flX10_57 rfl dX10_emptiesRow_9 ?_
    refine lv_iload_n hx hb dX10_emptiesRow_12 rfl (lv_at hl 1 rfl) ?_
    refine lv_lconst (v := 0) hx hb dX10_emptiesRow_13 (by decide) ?_
    obtain ⟨_, h3, e3, hf⟩ := pb_some hf
    refine r_last C hW e3 dX10_emptiesRow_14 (fun H locs hW => ?_)
    refine lv_aload_n hx hb dX10_emptiesRow_15 rfl (lv_at hl 0 rfl) ?_
    obtain ⟨v4, e4, hf⟩ := pb_rd (rd_gA _ _ _) hf
    refine r_gA C hW e4 flX10_60 rfl dX10_emptiesRow_16 ?_
    refine lv_iload_n hx hb dX10_emptiesRow_19 rfl (lv_at hl 1 rfl) ?_
    refine lv_lconst (v := 1) hx hb dX10_emptiesRow_20 (by decide) ?_
    obtain ⟨_, h5, e5, hf⟩ := pb_some hf
    refine r_last C hW e5 dX10_emptiesRow_21 (fun H locs hW => ?_)
    refine lv_iinc (v := (x1 + 1)) (lv' := [(1, .int (x1 + 1)), (0, .ref (ρ x0))]) hx hb dX10_emptiesRow_22 hl (k := 1) rfl rfl (by decide) rfl (fun ls hl => ?_)
    refine lv_goto (tgt := 2) hx hb dX10_emptiesRow_25 (by decide) ?_
    obtain ⟨rfl, rfl⟩ := pp_some hf
    exact kc _ rfl _ _ _ _ _ hW (lv_sub hl [1, 0] rfl)
set_option maxHeartbeats 4000000 in
theorem wX10_emptiesRow_L2 {p : Program} {l : Launch} {e : Env} {s : State} {m : MethodId} {args : Array Value} {below : List Frame} {meth : Method} {c : Code} {G : GG} {ρ : Nat → Nat} {h0 hE hB : PH} {Q : State → Prop} {x0 : Nat} (C : Cx G "PairSymbolsModel" cX10_emptiesRow 2 none "emptiesRow" p s m args meth c) {z : (Unit)} (n : Nat) : ∀ (x : Int32) {h : PH} {H : Heap} {locs : List Loc} {cells slots : Nat} {ls : Array Slot}, (plo (fX10_emptiesRow_B2 x0) n x).1 h = some (z, hB) → Ext hB hE → Wd G ρ h0.length (sl h0) s.heap h H locs cells slots → lv_has ls 2 [(0, .ref (ρ x0)), (1, .int x)] → (ke : ∀ (H : Heap) (locs : List Loc) (c1 s1 : Nat) (ls : Array Slot), Wd G ρ h0.length (sl h0) s.heap hB H locs c1 s1 → lv_has ls 2 [] → W p l e (RM 0 0 h0 hE) s m args below meth c H locs c1 s1 Q (F0 m 28 ls [])) → W p l e (RM 0 0 h0 hE) s m args below meth c H locs cells slots Q (F0 m 2 ls []) := by
  induction n with
  | zero =>
    intro x h H locs cells slots ls hf
    rw [plo_0] at hf
    exact (pf_no hf).elim
  | succ n ih =>
    intro x h H locs cells slots ls hf hX hW hl ke
    rw [plo_s] at hf
    obtain ⟨r, h1, e1, hf⟩ := pb_some hf
    unfold fX10_emptiesRow_B2 at e1
    rw [frI_eq] at e1
    refine wX10_emptiesRow_B2 C e1 ((pext hf).tr hX) hW hl (fun y hr H locs c1 s1 ls hW hl => ?_) (fun y hr H locs c1 s1 ls hW hl => ?_)
    · subst hr
      exact ih y hf hX hW hl ke
    · subst hr
      obtain ⟨rfl, rfl⟩ := pp_some hf
      exact ke H locs c1 s1 ls hW hl
set_option maxHeartbeats 4000000 in
set_option maxRecDepth 100000 in
theorem metX10_emptiesRow (l : Launch) (G : GG) (ρ : Nat → Nat) {z : Nat} {x0 : Nat} {h hE : PH} {v : Unit} (hf : (fX10_emptiesRow x0).1 h = some (v, hE)) : Met l yX10_emptiesRow (wsY yX10_emptiesRow cX10_emptiesRow 2 none) (RM 0 0 h hE) (va_Pc [.ref (ρ x0)] (PcB G ρ h z)) (QV G ρ hE h.length z) (DC h hE) (DS h hE) (Af ρ h.length z) := by
  refine met_start (by decide) (Nat.le_of_ble_eq_true rfl) ?_
  intro p e s m below meth c ls hz C hW hl
  subst hz
  have C : Cx G "PairSymbolsModel" cX10_emptiesRow 2 none "emptiesRow" p s m _ meth c := C
  have hx := C.1
  have hb := C.2.1
  have hX : Ext hE hE := Ext.rf hE
  have hl : lv_has ls 2 [(0, .ref (ρ x0))] := hl
  have hW : Wd G ρ h.length (sl h) s.heap h s.heap [] 0 0 := hW
  unfold fX10_emptiesRow at hf
  obtain ⟨_, e0, hf⟩ := pb_rd (rd_chk _ _) hf
  refine lv_iconst (v := 0) hx hb dX10_emptiesRow_0 (by decide) ?_
  refine lv_istore_n (lv' := [(1, .int (0 : Int32)), (0, .ref (ρ x0))]) hx hb dX10_emptiesRow_1 rfl hl (by decide) rfl (fun ls hl => ?_)
  obtain ⟨z6, h6, e6, hf⟩ := pb_some hf
  refine wX10_emptiesRow_L2 C fu _ e6 ((pext hf).tr hX) hW (lv_sub hl [1, 0] rfl) (fun H locs c1 s1 ls hW hl => ?_)
  obtain ⟨rfl, rfl⟩ := pp_some hf
  exact r_vret C hW dX10_emptiesRow_28

theorem dX10_addsOne_0 : decode cX10_addsOne 0 = .ok (.aload_n 0, 1) := by decide +kernel
theorem dX10_addsOne_1 : decode cX10_addsOne 1 = .ok (.aload_n 0, 1) := by decide +kernel
theorem dX10_addsOne_2 : decode cX10_addsOne 2 = .ok (.getfield 57, 3) := by decide +kernel
theorem dX10_addsOne_5 : decode cX10_addsOne 5 = .ok (.iload_n 1, 1) := by decide +kernel
theorem dX10_addsOne_6 : decode cX10_addsOne 6 = .ok (.laload, 1) := by decide +kernel
theorem dX10_addsOne_7 : decode cX10_addsOne 7 = .ok (.aload_n 0, 1) := by decide +kernel
theorem dX10_addsOne_8 : decode cX10_addsOne 8 = .ok (.getfield 60, 3) := by decide +kernel
theorem dX10_addsOne_11 : decode cX10_addsOne 11 = .ok (.iload_n 1, 1) := by decide +kernel
theorem dX10_addsOne_12 : decode cX10_addsOne 12 = .ok (.laload, 1) := by decide +kernel
theorem dX10_addsOne_13 : decode cX10_addsOne 13 = .ok (.lconst 1, 1) := by decide +kernel
theorem dX10_addsOne_14 : decode cX10_addsOne 14 = .ok (.lconst 1, 1) := by decide +kernel
theorem dX10_addsOne_15 : decode cX10_addsOne 15 = .ok (.invokevirtual 144, 3) := by decide +kernel
theorem dX10_addsOne_18 : decode cX10_addsOne 18 = .ok (.aload_n 0, 1) := by decide +kernel
theorem dX10_addsOne_19 : decode cX10_addsOne 19 = .ok (.getfield 57, 3) := by decide +kernel
theorem dX10_addsOne_22 : decode cX10_addsOne 22 = .ok (.iload_n 1, 1) := by decide +kernel
theorem dX10_addsOne_23 : decode cX10_addsOne 23 = .ok (.aload_n 0, 1) := by decide +kernel
theorem dX10_addsOne_24 : decode cX10_addsOne 24 = .ok (.getfield 133, 3) := by decide +kernel
theorem dX10_addsOne_27 : decode cX10_addsOne 27 = .ok (.lastore, 1) := by decide +kernel
theorem dX10_addsOne_28 : decode cX10_addsOne 28 = .ok (.aload_n 0, 1) := by decide +kernel
theorem dX10_addsOne_29 : decode cX10_addsOne 29 = .ok (.getfield 60, 3) := by decide +kernel
theorem dX10_addsOne_32 : decode cX10_addsOne 32 = .ok (.iload_n 1, 1) := by decide +kernel
theorem dX10_addsOne_33 : decode cX10_addsOne 33 = .ok (.aload_n 0, 1) := by decide +kernel
theorem dX10_addsOne_34 : decode cX10_addsOne 34 = .ok (.getfield 137, 3) := by decide +kernel
theorem dX10_addsOne_37 : decode cX10_addsOne 37 = .ok (.lastore, 1) := by decide +kernel
theorem dX10_addsOne_38 : decode cX10_addsOne 38 = .ok (.return_, 1) := by decide +kernel
theorem kcX10_addsOne : Cond.code yX10_addsOne cX10_addsOne 2 none ∈ tb := tq q_898 rfl
theorem knX10_addsOne : Cond.initialized yX10_addsOne.cls ∈ tb := (tq q_10 rfl)
theorem kdX10_addsOne : yX10_addsOne.cls ≠ "java/lang/invoke/MethodHandle" ∧ yX10_addsOne.cls ≠ "java/lang/invoke/VarHandle" ∧ (parseMethodDescriptor yX10_addsOne.desc).map (fun d => d.parameters.length) = some 1 := ⟨by decide +kernel, by decide +kernel, by decide +kernel⟩
theorem kiX10_addsOne : Cond.instanceMethod yX10_addsOne ∈ tb := (tq q_897 rfl)
theorem ksX10_addsOne : Cond.selects yX10_addsOne.cls yX10_addsOne yX10_addsOne ∈ tb := (tq z_37 rfl)
theorem tgX10_addsOne {x0 : Nat} {x1 : Int32} {h : PH} {r : Unit × PH} (hf : (fX10_addsOne x0 x1).1 h = some r) : ∃ n x, nth h x0 = some (9, n, x) := by
  obtain ⟨_, _, e, _⟩ := pb_some hf
  exact (chk_some e).2
set_option maxHeartbeats 4000000 in
set_option maxRecDepth 100000 in
theorem metX10_addsOne (l : Launch) (G : GG) (ρ : Nat → Nat) {z : Nat} {x0 : Nat} {x1 : Int32} {h hE : PH} {v : Unit} (hf : (fX10_addsOne x0 x1).1 h = some (v, hE)) : Met l yX10_addsOne (wsY yX10_addsOne cX10_addsOne 2 none) (RM 3 83 h hE) (va_Pc [.ref (ρ x0), .int x1] (PcB G ρ h z)) (QV G ρ hE h.length z) (DC h hE) (DS h hE) (Af ρ h.length z) := by
  refine met_start (by decide) (Nat.le_of_ble_eq_true rfl) ?_
  intro p e s m below meth c ls hz C hW hl
  subst hz
  have C : Cx G "PairSymbolsModel" cX10_addsOne 2 none "addsOne" p s m _ meth c := C
  have hx := C.1
  have hb := C.2.1
  have hX : Ext hE hE := Ext.rf hE
  have hl : lv_has ls 2 [(0, .ref (ρ x0)), (1, .int x1)] := hl
  have hW : Wd G ρ h.length (sl h) s.heap h s.heap [] 0 0 := hW
  unfold fX10_addsOne at hf
  obtain ⟨_, e0, hf⟩ := pb_rd (rd_chk _ _) hf
  refine lv_aload_n hx hb dX10_addsOne_0 rfl (lv_at hl 0 rfl) ?_
  refine lv_aload_n hx hb dX10_addsOne_1 rfl (lv_at hl 0 rfl) ?_
  obtain ⟨v1, e1, hf⟩ := pb_rd (rd_gA _ _ _) hf
  refine r_gA C hW e1 flX10_57 rfl dX10_addsOne_2 ?_
  refine lv_iload_n hx hb dX10_addsOne_5 rfl (lv_at hl 1 rfl) ?_
  obtain ⟨v2, e2, hf⟩ := pb_rd (rd_lJ _ _ _) hf
  refine r_lald C hW e2 dX10_addsOne_6 ?_
  refine lv_aload_n hx hb dX10_addsOne_7 rfl (lv_at hl 0 rfl) ?_
  obtain ⟨v3, e3, hf⟩ := pb_rd (rd_gA _ _ _) hf
  refine r_gA C hW e3 flX10_60 rfl dX10_addsOne_8 ?_
  refine lv_iload_n hx hb dX10_addsOne_11 rfl (lv_at hl 1 rfl) ?_
  obtain ⟨v4, e4, hf⟩ := pb_rd (rd_lJ _ _ _) hf
  refine r_lald C hW e4 dX10_addsOne_12 ?_
  refine lv_lconst (v := 1) hx hb dX10_addsOne_13 (by decide) ?_
  refine lv_lconst (v := 1) hx hb dX10_addsOne_14 (by decide) ?_
  obtain ⟨_, h5, e5, hf⟩ := pb_some hf
  obtain ⟨_, _, t6⟩ := tgX10_sumOf e5
  refine r_callv hW (pext e5) (run_V (b := x0) (As := [.long v2, .long v4, .long (1 : Int64), .long (1 : Int64)]) (rest := []) C hW (metX10_sumOf l G ρ e5) ⟨rfl, rfl⟩ kcX10_sumOf (tq q_899 rfl) kiX10_sumOf ksX10_sumOf knX10_sumOf kdX10_sumOf t6 rfl rfl ⟨Nat.le_of_ble_eq_true rfl, Nat.le_of_ble_eq_true rfl⟩ hl.1 (Nat.le_of_ble_eq_true rfl) (room_of hW (pext e5) ((pext hf).tr hX)) dX10_addsOne_15 rfl) (fun H locs c1 s1 hW => ?_)
  refine lv_aload_n hx hb dX10_addsOne_18 rfl (lv_at hl 0 rfl) ?_
  obtain ⟨v7, e7, hf⟩ := pb_rd (rd_gA _ _ _) hf
  refine r_gA C hW e7 flX10_57 rfl dX10_addsOne_19 ?_
  refine lv_iload_n hx hb dX10_addsOne_22 rfl (lv_at hl 1 rfl) ?_
  refine lv_aload_n hx hb dX10_addsOne_23 rfl (lv_at hl 0 rfl) ?_
  obtain ⟨v8, e8, hf⟩ := pb_rd (rd_gJ _ _ _) hf
  refine r_gJ C hW e8 flX10_133 rfl dX10_addsOne_24 ?_
  obtain ⟨_, h9, e9, hf⟩ := pb_some hf
  refine r_last C hW e9 dX10_addsOne_27 (fun H locs hW => ?_)
  refine lv_aload_n hx hb dX10_addsOne_28 rfl (lv_at hl 0 rfl) ?_
  obtain ⟨v10, e10, hf⟩ := pb_rd (rd_gA _ _ _) hf
  refine r_gA C hW e10 flX10_60 rfl dX10_addsOne_29 ?_
  refine lv_iload_n hx hb dX10_addsOne_32 rfl (lv_at hl 1 rfl) ?_
  refine lv_aload_n hx hb dX10_addsOne_33 rfl (lv_at hl 0 rfl) ?_
  obtain ⟨v11, e11, hf⟩ := pb_rd (rd_gJ _ _ _) hf
  refine r_gJ C hW e11 flX10_137 rfl dX10_addsOne_34 ?_
  obtain ⟨_, h12, e12, hf⟩ := pb_some hf
  refine r_last C hW e12 dX10_addsOne_37 (fun H locs hW => ?_)
  obtain ⟨rfl, rfl⟩ := pp_some hf
  exact r_vret C hW dX10_addsOne_38

theorem dX10_lowers_0 : decode cX10_lowers 0 = .ok (.aload_n 0, 1) := by decide +kernel
theorem dX10_lowers_1 : decode cX10_lowers 1 = .ok (.getfield 156, 3) := by decide +kernel
theorem dX10_lowers_4 : decode cX10_lowers 4 = .ok (.iconst 1, 1) := by decide +kernel
theorem dX10_lowers_5 : decode cX10_lowers 5 = .ok (.isub, 1) := by decide +kernel
theorem dX10_lowers_6 : decode cX10_lowers 6 = .ok (.istore_n 1, 1) := by decide +kernel
theorem dX10_lowers_7 : decode cX10_lowers 7 = .ok (.iload_n 1, 1) := by decide +kernel
theorem dX10_lowers_8 : decode cX10_lowers 8 = .ok (.ifCond .lt 151, 3) := by decide +kernel
theorem dX10_lowers_11 : decode cX10_lowers 11 = .ok (.aload_n 0, 1) := by decide +kernel
theorem dX10_lowers_12 : decode cX10_lowers 12 = .ok (.getfield 41, 3) := by decide +kernel
theorem dX10_lowers_15 : decode cX10_lowers 15 = .ok (.iload_n 1, 1) := by decide +kernel
theorem dX10_lowers_16 : decode cX10_lowers 16 = .ok (.baload, 1) := by decide +kernel
theorem dX10_lowers_17 : decode cX10_lowers 17 = .ok (.ifCond .eq 136, 3) := by decide +kernel
theorem dX10_lowers_20 : decode cX10_lowers 20 = .ok (.aload_n 0, 1) := by decide +kernel
theorem dX10_lowers_21 : decode cX10_lowers 21 = .ok (.getfield 57, 3) := by decide +kernel
theorem dX10_lowers_24 : decode cX10_lowers 24 = .ok (.iload_n 1, 1) := by decide +kernel
theorem dX10_lowers_25 : decode cX10_lowers 25 = .ok (.laload, 1) := by decide +kernel
theorem dX10_lowers_26 : decode cX10_lowers 26 = .ok (.lconst 0, 1) := by decide +kernel
theorem dX10_lowers_27 : decode cX10_lowers 27 = .ok (.lcmp, 1) := by decide +kernel
theorem dX10_lowers_28 : decode cX10_lowers 28 = .ok (.ifCond .eq 125, 3) := by decide +kernel
theorem dX10_lowers_31 : decode cX10_lowers 31 = .ok (.aload_n 0, 1) := by decide +kernel
theorem dX10_lowers_32 : decode cX10_lowers 32 = .ok (.getfield 57, 3) := by decide +kernel
theorem dX10_lowers_35 : decode cX10_lowers 35 = .ok (.iload_n 1, 1) := by decide +kernel
theorem dX10_lowers_36 : decode cX10_lowers 36 = .ok (.laload, 1) := by decide +kernel
theorem dX10_lowers_37 : decode cX10_lowers 37 = .ok (.lstore_n 2, 1) := by decide +kernel
theorem dX10_lowers_38 : decode cX10_lowers 38 = .ok (.aload_n 0, 1) := by decide +kernel
theorem dX10_lowers_39 : decode cX10_lowers 39 = .ok (.getfield 60, 3) := by decide +kernel
theorem dX10_lowers_42 : decode cX10_lowers 42 = .ok (.iload_n 1, 1) := by decide +kernel
theorem dX10_lowers_43 : decode cX10_lowers 43 = .ok (.laload, 1) := by decide +kernel
theorem dX10_lowers_44 : decode cX10_lowers 44 = .ok (.lstore 4, 2) := by decide +kernel
theorem dX10_lowers_46 : decode cX10_lowers 46 = .ok (.aload_n 0, 1) := by decide +kernel
theorem dX10_lowers_47 : decode cX10_lowers 47 = .ok (.getfield 57, 3) := by decide +kernel
theorem dX10_lowers_50 : decode cX10_lowers 50 = .ok (.iload_n 1, 1) := by decide +kernel
theorem dX10_lowers_51 : decode cX10_lowers 51 = .ok (.lconst 0, 1) := by decide +kernel
theorem dX10_lowers_52 : decode cX10_lowers 52 = .ok (.lastore, 1) := by decide +kernel
theorem dX10_lowers_53 : decode cX10_lowers 53 = .ok (.aload_n 0, 1) := by decide +kernel
theorem dX10_lowers_54 : decode cX10_lowers 54 = .ok (.getfield 60, 3) := by decide +kernel
theorem dX10_lowers_57 : decode cX10_lowers 57 = .ok (.iload_n 1, 1) := by decide +kernel
theorem dX10_lowers_58 : decode cX10_lowers 58 = .ok (.lconst 1, 1) := by decide +kernel
theorem dX10_lowers_59 : decode cX10_lowers 59 = .ok (.lastore, 1) := by decide +kernel
theorem dX10_lowers_60 : decode cX10_lowers 60 = .ok (.iconst 0, 1) := by decide +kernel
theorem dX10_lowers_61 : decode cX10_lowers 61 = .ok (.istore 6, 2) := by decide +kernel
theorem dX10_lowers_63 : decode cX10_lowers 63 = .ok (.iload 6, 2) := by decide +kernel
theorem dX10_lowers_65 : decode cX10_lowers 65 = .ok (.iload_n 1, 1) := by decide +kernel
theorem dX10_lowers_66 : decode cX10_lowers 66 = .ok (.if_icmp .ge 87, 3) := by decide +kernel
theorem dX10_lowers_69 : decode cX10_lowers 69 = .ok (.bipush 48, 2) := by decide +kernel
theorem dX10_lowers_71 : decode cX10_lowers 71 = .ok (.iload_n 1, 1) := by decide +kernel
theorem dX10_lowers_72 : decode cX10_lowers 72 = .ok (.imul, 1) := by decide +kernel
theorem dX10_lowers_73 : decode cX10_lowers 73 = .ok (.iload 6, 2) := by decide +kernel
theorem dX10_lowers_75 : decode cX10_lowers 75 = .ok (.iadd, 1) := by decide +kernel
theorem dX10_lowers_76 : decode cX10_lowers 76 = .ok (.istore 7, 2) := by decide +kernel
theorem dX10_lowers_78 : decode cX10_lowers 78 = .ok (.aload_n 0, 1) := by decide +kernel
theorem dX10_lowers_79 : decode cX10_lowers 79 = .ok (.getfield 45, 3) := by decide +kernel
theorem dX10_lowers_82 : decode cX10_lowers 82 = .ok (.iload 7, 2) := by decide +kernel
theorem dX10_lowers_84 : decode cX10_lowers 84 = .ok (.laload, 1) := by decide +kernel
theorem dX10_lowers_85 : decode cX10_lowers 85 = .ok (.lconst 0, 1) := by decide +kernel
theorem dX10_lowers_86 : decode cX10_lowers 86 = .ok (.lcmp, 1) := by decide +kernel
theorem dX10_lowers_87 : decode cX10_lowers 87 = .ok (.ifCond .eq 60, 3) := by decide +kernel
theorem dX10_lowers_90 : decode cX10_lowers 90 = .ok (.aload_n 0, 1) := by decide +kernel
theorem dX10_lowers_91 : decode cX10_lowers 91 = .ok (.aload_n 0, 1) := by decide +kernel
theorem dX10_lowers_92 : decode cX10_lowers 92 = .ok (.getfield 57, 3) := by decide +kernel
theorem dX10_lowers_95 : decode cX10_lowers 95 = .ok (.iload 6, 2) := by decide +kernel
theorem dX10_lowers_97 : decode cX10_lowers 97 = .ok (.laload, 1) := by decide +kernel
theorem dX10_lowers_98 : decode cX10_lowers 98 = .ok (.aload_n 0, 1) := by decide +kernel
theorem dX10_lowers_99 : decode cX10_lowers 99 = .ok (.getfield 60, 3) := by decide +kernel
theorem dX10_lowers_102 : decode cX10_lowers 102 = .ok (.iload 6, 2) := by decide +kernel
theorem dX10_lowers_104 : decode cX10_lowers 104 = .ok (.laload, 1) := by decide +kernel
theorem dX10_lowers_105 : decode cX10_lowers 105 = .ok (.lload_n 2, 1) := by decide +kernel
theorem dX10_lowers_106 : decode cX10_lowers 106 = .ok (.lload 4, 2) := by decide +kernel
theorem dX10_lowers_108 : decode cX10_lowers 108 = .ok (.aload_n 0, 1) := by decide +kernel
theorem dX10_lowers_109 : decode cX10_lowers 109 = .ok (.getfield 45, 3) := by decide +kernel
theorem dX10_lowers_112 : decode cX10_lowers 112 = .ok (.iload 7, 2) := by decide +kernel
theorem dX10_lowers_114 : decode cX10_lowers 114 = .ok (.laload, 1) := by decide +kernel
theorem dX10_lowers_115 : decode cX10_lowers 115 = .ok (.aload_n 0, 1) := by decide +kernel
theorem dX10_lowers_116 : decode cX10_lowers 116 = .ok (.getfield 48, 3) := by decide +kernel
theorem dX10_lowers_119 : decode cX10_lowers 119 = .ok (.iload 7, 2) := by decide +kernel
theorem dX10_lowers_121 : decode cX10_lowers 121 = .ok (.laload, 1) := by decide +kernel
theorem dX10_lowers_122 : decode cX10_lowers 122 = .ok (.invokevirtual 169, 3) := by decide +kernel
theorem dX10_lowers_125 : decode cX10_lowers 125 = .ok (.aload_n 0, 1) := by decide +kernel
theorem dX10_lowers_126 : decode cX10_lowers 126 = .ok (.getfield 57, 3) := by decide +kernel
theorem dX10_lowers_129 : decode cX10_lowers 129 = .ok (.iload 6, 2) := by decide +kernel
theorem dX10_lowers_131 : decode cX10_lowers 131 = .ok (.aload_n 0, 1) := by decide +kernel
theorem dX10_lowers_132 : decode cX10_lowers 132 = .ok (.getfield 133, 3) := by decide +kernel
theorem dX10_lowers_135 : decode cX10_lowers 135 = .ok (.lastore, 1) := by decide +kernel
theorem dX10_lowers_136 : decode cX10_lowers 136 = .ok (.aload_n 0, 1) := by decide +kernel
theorem dX10_lowers_137 : decode cX10_lowers 137 = .ok (.getfield 60, 3) := by decide +kernel
theorem dX10_lowers_140 : decode cX10_lowers 140 = .ok (.iload 6, 2) := by decide +kernel
theorem dX10_lowers_142 : decode cX10_lowers 142 = .ok (.aload_n 0, 1) := by decide +kernel
theorem dX10_lowers_143 : decode cX10_lowers 143 = .ok (.getfield 137, 3) := by decide +kernel
theorem dX10_lowers_146 : decode cX10_lowers 146 = .ok (.lastore, 1) := by decide +kernel
theorem dX10_lowers_147 : decode cX10_lowers 147 = .ok (.iinc 6 1, 3) := by decide +kernel
theorem dX10_lowers_150 : decode cX10_lowers 150 = .ok (.goto (-87), 3) := by decide +kernel
theorem dX10_lowers_153 : decode cX10_lowers 153 = .ok (.iinc 1 (-1), 3) := by decide +kernel
theorem dX10_lowers_156 : decode cX10_lowers 156 = .ok (.goto (-149), 3) := by decide +kernel
theorem dX10_lowers_159 : decode cX10_lowers 159 = .ok (.return_, 1) := by decide +kernel
theorem kcX10_lowers : Cond.code yX10_lowers cX10_lowers 8 none ∈ tb := tq q_918 rfl
theorem knX10_lowers : Cond.initialized yX10_lowers.cls ∈ tb := (tq q_10 rfl)
theorem kdX10_lowers : yX10_lowers.cls ≠ "java/lang/invoke/MethodHandle" ∧ yX10_lowers.cls ≠ "java/lang/invoke/VarHandle" ∧ (parseMethodDescriptor yX10_lowers.desc).map (fun d => d.parameters.length) = some 0 := ⟨by decide +kernel, by decide +kernel, by decide +kernel⟩
theorem kiX10_lowers : Cond.instanceMethod yX10_lowers ∈ tb := (tq q_917 rfl)
theorem ksX10_lowers : Cond.selects yX10_lowers.cls yX10_lowers yX10_lowers ∈ tb := (tq z_42 rfl)
theorem tgX10_lowers {x0 : Nat} {h : PH} {r : Unit × PH} (hf : (fX10_lowers x0).1 h = some r) : ∃ n x, nth h x0 = some (9, n, x) := by
  obtain ⟨_, _, e, _⟩ := pb_some hf
  exact (chk_some e).2
set_option maxHeartbeats 4000000 in
set_option maxRecDepth 100000 in
theorem wX10_lowers_B63 {p : Program} {l : Launch} {e : Env} {s : State} {m : MethodId} {args : Array Value} {below : List Frame} {meth : Method} {c : Code} {G : GG} {ρ : Nat → Nat} {h0 hE hB : PH} {Q : State → Prop} {x0 : Nat} {x1 : Int32} {x2 : Int64} {x4 : Int64} (C : Cx G "PairSymbolsModel" cX10_lowers 8 none "lowers" p s m args meth c) {x6 : Int32} {h : PH} {H : Heap} {locs : List Loc} {cells slots : Nat} {ls : Array Slot} {r : (Int32) ⊕ (Unit)} (hf : (fX10_lowers_b63 x0 x1 x2 x4 x6).1 h = some (r, hB)) (hX : Ext hB hE) (hW : Wd G ρ h0.length (sl h0) s.heap h H locs cells slots) (hl : lv_has ls 8 [(0, .ref (ρ x0)), (1, .int x1), (2, .long x2), (4, .long x4), (6, .int x6)]) (kc : ∀ y : Int32, r = .inl y → ∀ (H : Heap) (locs : List Loc) (c1 s1 : Nat) (ls : Array Slot), Wd G ρ h0.length (sl h0) s.heap hB H locs c1 s1 → lv_has ls 8 [(0, .ref (ρ x0)), (1, .int x1), (2, .long x2), (4, .long x4), (6, .int y)] → W p l e (RM 4 115 h0 hE) s m args below meth c H locs c1 s1 Q (F0 m 63 ls [])) (ke : ∀ z : Unit, r = .inr z → ∀ (H : Heap) (locs : List Loc) (c1 s1 : Nat) (ls : Array Slot), Wd G ρ h0.length (sl h0) s.heap hB H locs c1 s1 → lv_has ls 8 [(0, .ref (ρ x0)), (1, .int x1)] → W p l e (RM 4 115 h0 hE) s m args below meth c H locs c1 s1 Q (F0 m 153 ls [])) : W p l e (RM 4 115 h0 hE) s m args below meth c H locs cells slots Q (F0 m 63 ls []) := by
  have hx := C.1
  have hb := C.2.1
  unfold fX10_lowers_b63 at hf
  refine lv_iload hx hb dX10_lowers_63 (lv_at hl 4 rfl) ?_
  refine lv_iload_n hx hb dX10_lowers_65 rfl (lv_at hl 1 rfl) ?_
  refine lv_icmp_ge (tgt := 153) hx hb dX10_lowers_66 (by decide) (fun c17 => ?_) (fun c17 => ?_)
  · rw [if_pos c17] at hf
    obtain ⟨rfl, rfl⟩ := pp_some hf
    exact ke _ rfl _ _ _ _ _ hW (lv_sub hl [0, 1] rfl)
  · rw [if_neg c17] at hf
    refine lv_bipush (v := 48) hx hb dX10_lowers_69 (by decide) ?_
    refine lv_iload_n hx hb dX10_lowers_71 rfl (lv_at hl 1 rfl) ?_
    refine lv_imul hx hb dX10_lowers_72 ?_
    refine lv_iload hx hb dX10_lowers_73 (lv_at hl 4 rfl) ?_
    refine lv_iadd hx hb dX10_lowers_75 ?_
    refine lv_istore (lv' := [(7, .int (((48 : Int32) * x1) + x6)), (0, .ref (ρ x0)), (1, .int x1), (2, .long x2), (4, .long x4), (6, .int x6)]) hx hb dX10_lowers_76 hl (by decide) rfl (fun ls hl => ?_)
    refine lv_aload_n hx hb dX10_lowers_78 rfl (lv_at hl 1 rfl) ?_
    obtain ⟨v18, e18, hf⟩ := pb_rd (rd_gA _ _ _) hf
    refine r_gA C hW e18 flX10_45 rfl dX10_lowers_79 ?_
    refine lv_iload hx hb dX10_lowers_82 (lv_at hl 0 rfl) ?_
    obtain ⟨v19, e19, hf⟩ := pb_rd (rd_lJ _ _ _) hf
    refine r_lald C hW e19 dX10_lowers_84 ?_
    refine lv_lconst (v := 0) hx hb dX10_lowers_85 (by decide) ?_
    refine W.lcmp hx hb dX10_lowers_86 ?_
    refine lv_if_eq (tgt := 147) hx hb dX10_lowers_87 (by decide) (fun c20 => ?_) (fun c20 => ?_)
    · rw [if_pos c20] at hf
      refine lv_iinc (v := (x6 + 1)) (lv' := [(6, .int (x6 + 1)), (7, .int (((48 : Int32) * x1) + x6)), (0, .ref (ρ x0)), (1, .int x1), (2, .long x2), (4, .long x4)]) hx hb dX10_lowers_147 hl (k := 5) rfl rfl (by decide) rfl (fun ls hl => ?_)
      refine lv_goto (tgt := 63) hx hb dX10_lowers_150 (by decide) ?_
      obtain ⟨rfl, rfl⟩ := pp_some hf
      exact kc _ rfl _ _ _ _ _ hW (lv_sub hl [2, 3, 4, 5, 0] rfl)
    · rw [if_neg c20] at hf
      refine lv_aload_n hx hb dX10_lowers_90 rfl (lv_at hl 1 rfl) ?_
      refine lv_aload_n hx hb dX10_lowers_91 rfl (lv_at hl 1 rfl) ?_
      obtain ⟨v21, e21, hf⟩ := pb_rd (rd_gA _ _ _) hf
      refine r_gA C hW e21 flX10_57 rfl dX10_lowers_92 ?_
      refine lv_iload hx hb dX10_lowers_95 (lv_at hl 5 rfl) ?_
      obtain ⟨v22, e22, hf⟩ := pb_rd (rd_lJ _ _ _) hf
      refine r_lald C hW e22 dX10_lowers_97 ?_
      refine lv_aload_n hx hb dX10_lowers_98 rfl (lv_at hl 1 rfl) ?_
      obtain ⟨v23, e23, hf⟩ := pb_rd (rd_gA _ _ _) hf
      refine r_gA C hW e23 flX10_60 rfl dX10_lowers_99 ?_
      refine lv_iload hx hb dX10_lowers_102 (lv_at hl 5 rfl) ?_
      obtain ⟨v24, e24, hf⟩ := pb_rd (rd_lJ _ _ _) hf
      refine r_lald C hW e24 dX10_lowers_104 ?_
      refine lv_lload_n hx hb dX10_lowers_105 rfl (lv_at hl 3 rfl) ?_
      refine lv_lload hx hb dX10_lowers_106 (lv_at hl 4 rfl) ?_
      refine lv_aload_n hx hb dX10_lowers_108 rfl (lv_at hl 1 rfl) ?_
      obtain ⟨v25, e25, hf⟩ := pb_rd (rd_gA _ _ _) hf
      refine r_gA C hW e25 flX10_45 rfl dX10_lowers_109 ?_
      refine lv_iload hx hb dX10_lowers_112 (lv_at hl 0 rfl) ?_
      obtain ⟨v26, e26, hf⟩ := pb_rd (rd_lJ _ _ _) hf
      refine r_lald C hW e26 dX10_lowers_114 ?_
      refine lv_aload_n hx hb dX10_lowers_115 rfl (lv_at hl 1 rfl) ?_
      obtain ⟨v27, e27, hf⟩ := pb_rd (rd_gA _ _ _) hf
      refine r_gA C hW e27 flX10_48 rfl dX10_lowers_116 ?_
      refine lv_iload hx hb dX10_lowers_119 (lv_at hl 0 rfl) ?_
      obtain ⟨v28, e28, hf⟩ := pb_rd (rd_lJ _ _ _) hf
      refine r_lald C hW e28 dX10_lowers_121 ?_
      obtain ⟨_, h29, e29, hf⟩ := pb_some hf
      obtain ⟨_, _, t30⟩ := tgX10_more e29
      refine r_callv hW (pext e29) (run_V (b := x0) (As := [.long v22, .long v24, .long x2, .long x4, .long v26, .long v28]) (rest := []) C hW (metX10_more l G ρ e29) ⟨rfl, rfl⟩ kcX10_more (tq q_919 rfl) kiX10_more ksX10_more knX10_more kdX10_more t30 rfl rfl ⟨Nat.le_of_ble_eq_true rfl, Nat.le_of_ble_eq_true rfl⟩ hl.1 (Nat.le_of_ble_eq_true rfl) (room_of hW (pext e29) ((pext hf).tr hX)) dX10_lowers_122 rfl) (fun H locs c1 s1 hW => ?_)
      refine lv_aload_n hx hb dX10_lowers_125 rfl (lv_at hl 1 rfl) ?_
      obtain ⟨v31, e31, hf⟩ := pb_rd (rd_gA _ _ _) hf
      refine r_gA C hW e31 flX10_57 rfl dX10_lowers_126 ?_
      refine lv_iload hx hb dX10_lowers_129 (lv_at hl 5 rfl) ?_
      refine lv_aload_n hx hb dX10_lowers_131 rfl (lv_at hl 1 rfl) ?_
      obtain ⟨v32, e32, hf⟩ := pb_rd (rd_gJ _ _ _) hf
      refine r_gJ C hW e32 flX10_133 rfl dX10_lowers_132 ?_
      obtain ⟨_, h33, e33, hf⟩ := pb_some hf
      refine r_last C hW e33 dX10_lowers_135 (fun H locs hW => ?_)
      refine lv_aload_n hx hb dX10_lowers_136 rfl (lv_at hl 1 rfl) ?_
      obtain ⟨v34, e34, hf⟩ := pb_rd (rd_gA _ _ _) hf
      refine r_gA C hW e34 flX10_60 rfl dX10_lowers_137 ?_
      refine lv_iload hx hb dX10_lowers_140 (lv_at hl 5 rfl) ?_
      refine lv_aload_n hx hb dX10_lowers_142 rfl (lv_at hl 1 rfl) ?_
      obtain ⟨v35, e35, hf⟩ := pb_rd (rd_gJ _ _ _) hf
      refine r_gJ C hW e35 flX10_137 rfl dX10_lowers_143 ?_
      obtain ⟨_, h36, e36, hf⟩ := pb_some hf
      refine r_last C hW e36 dX10_lowers_146 (fun H locs hW => ?_)
      refine lv_iinc (v := (x6 + 1)) (lv' := [(6, .int (x6 + 1)), (7, .int (((48 : Int32) * x1) + x6)), (0, .ref (ρ x0)), (1, .int x1), (2, .long x2), (4, .long x4)]) hx hb dX10_lowers_147 hl (k := 5) rfl rfl (by decide) rfl (fun ls hl => ?_)
      refine lv_goto (tgt := 63) hx hb dX10_lowers_150 (by decide) ?_
      obtain ⟨rfl, rfl⟩ := pp_some hf
      exact kc _ rfl _ _ _ _ _ hW (lv_sub hl [2, 3, 4, 5, 0] rfl)
set_option maxHeartbeats 4000000 in
theorem wX10_lowers_L63 {p : Program} {l : Launch} {e : Env} {s : State} {m : MethodId} {args : Array Value} {below : List Frame} {meth : Method} {c : Code} {G : GG} {ρ : Nat → Nat} {h0 hE hB : PH} {Q : State → Prop} {x0 : Nat} {x1 : Int32} {x2 : Int64} {x4 : Int64} (C : Cx G "PairSymbolsModel" cX10_lowers 8 none "lowers" p s m args meth c) {z : (Unit)} (n : Nat) : ∀ (x : Int32) {h : PH} {H : Heap} {locs : List Loc} {cells slots : Nat} {ls : Array Slot}, (plo (fX10_lowers_B63 x0 x1 x2 x4) n x).1 h = some (z, hB) → Ext hB hE → Wd G ρ h0.length (sl h0) s.heap h H locs cells slots → lv_has ls 8 [(0, .ref (ρ x0)), (1, .int x1), (2, .long x2), (4, .long x4), (6, .int x)] → (ke : ∀ (H : Heap) (locs : List Loc) (c1 s1 : Nat) (ls : Array Slot), Wd G ρ h0.length (sl h0) s.heap hB H locs c1 s1 → lv_has ls 8 [(0, .ref (ρ x0)), (1, .int x1)] → W p l e (RM 4 115 h0 hE) s m args below meth c H locs c1 s1 Q (F0 m 153 ls [])) → W p l e (RM 4 115 h0 hE) s m args below meth c H locs cells slots Q (F0 m 63 ls []) := by
  induction n with
  | zero =>
    intro x h H locs cells slots ls hf
    rw [plo_0] at hf
    exact (pf_no hf).elim
  | succ n ih =>
    intro x h H locs cells slots ls hf hX hW hl ke
    rw [plo_s] at hf
    obtain ⟨r, h1, e1, hf⟩ := pb_some hf
    unfold fX10_lowers_B63 at e1
    rw [frI_eq] at e1
    refine wX10_lowers_B63 C e1 ((pext hf).tr hX) hW hl (fun y hr H locs c1 s1 ls hW hl => ?_) (fun y hr H locs c1 s1 ls hW hl => ?_)
    · subst hr
      exact ih y hf hX hW hl ke
    · subst hr
      obtain ⟨rfl, rfl⟩ := pp_some hf
      exact ke H locs c1 s1 ls hW hl
set_option maxHeartbeats 4000000 in
set_option maxRecDepth 100000 in
theorem wX10_lowers_B7 {p : Program} {l : Launch} {e : Env} {s : State} {m : MethodId} {args : Array Value} {below : List Frame} {meth : Method} {c : Code} {G : GG} {ρ : Nat → Nat} {h0 hE hB : PH} {Q : State → Prop} {x0 : Nat} (C : Cx G "PairSymbolsModel" cX10_lowers 8 none "lowers" p s m args meth c) {x1 : Int32} {h : PH} {H : Heap} {locs : List Loc} {cells slots : Nat} {ls : Array Slot} {r : (Int32) ⊕ (Unit)} (hf : (fX10_lowers_b7 x0 x1).1 h = some (r, hB)) (hX : Ext hB hE) (hW : Wd G ρ h0.length (sl h0) s.heap h H locs cells slots) (hl : lv_has ls 8 [(0, .ref (ρ x0)), (1, .int x1)]) (kc : ∀ y : Int32, r = .inl y → ∀ (H : Heap) (locs : List Loc) (c1 s1 : Nat) (ls : Array Slot), Wd G ρ h0.length (sl h0) s.heap hB H locs c1 s1 → lv_has ls 8 [(0, .ref (ρ x0)), (1, .int y)] → W p l e (RM 4 115 h0 hE) s m args below meth c H locs c1 s1 Q (F0 m 7 ls [])) (ke : ∀ z : Unit, r = .inr z → ∀ (H : Heap) (locs : List Loc) (c1 s1 : Nat) (ls : Array Slot), Wd G ρ h0.length (sl h0) s.heap hB H locs c1 s1 → lv_has ls 8 [] → W p l e (RM 4 115 h0 hE) s m args below meth c H locs c1 s1 Q (F0 m 159 ls [])) : W p l e (RM 4 115 h0 hE) s m args below meth c H locs cells slots Q (F0 m 7 ls []) := by
  have hx := C.1
  have hb := C.2.1
  unfold fX10_lowers_b7 at hf
  refine lv_iload_n hx hb dX10_lowers_7 rfl (lv_at hl 1 rfl) ?_
  refine lv_if_lt (tgt := 159) hx hb dX10_lowers_8 (by decide) (fun c2 => ?_) (fun c2 => ?_)
  · rw [if_pos c2] at hf
    obtain ⟨rfl, rfl⟩ := pp_some hf
    exact ke _ rfl _ _ _ _ _ hW (lv_sub hl [] rfl)
  · rw [if_neg c2] at hf
    refine lv_aload_n hx hb dX10_lowers_11 rfl (lv_at hl 0 rfl) ?_
    obtain ⟨v3, e3, hf⟩ := pb_rd (rd_gA _ _ _) hf
    refine r_gA C hW e3 flX10_41 rfl dX10_lowers_12 ?_
    refine lv_iload_n hx hb dX10_lowers_15 rfl (lv_at hl 1 rfl) ?_
    obtain ⟨v4, e4, hf⟩ := pb_rd (rd_lI _ _ _) hf
    refine r_zald C hW e4 dX10_lowers_16 ?_
    refine lv_if_eq (tgt := 153) hx hb dX10_lowers_17 (by decide) (fun c5 => ?_) (fun c5 => ?_)
    · rw [if_pos c5] at hf
      refine lv_iinc (v := (x1 + (-1))) (lv' := [(1, .int (x1 + (-1))), (0, .ref (ρ x0))]) hx hb dX10_lowers_153 hl (k := 1) rfl rfl (by decide) rfl (fun ls hl => ?_)
      refine lv_goto (tgt := 7) hx hb dX10_lowers_156 (by decide) ?_
      obtain ⟨rfl, rfl⟩ := pp_some hf
      exact kc _ rfl _ _ _ _ _ hW (lv_sub hl [1, 0] rfl)
    · rw [if_neg c5] at hf
      refine lv_aload_n hx hb dX10_lowers_20 rfl (lv_at hl 0 rfl) ?_
      obtain ⟨v6, e6, hf⟩ := pb_rd (rd_gA _ _ _) hf
      refine r_gA C hW e6 flX10_57 rfl dX10_lowers_21 ?_
      refine lv_iload_n hx hb dX10_lowers_24 rfl (lv_at hl 1 rfl) ?_
      obtain ⟨v7, e7, hf⟩ := pb_rd (rd_lJ _ _ _) hf
      refine r_lald C hW e7 dX10_lowers_25 ?_
      refine lv_lconst (v := 0) hx hb dX10_lowers_26 (by decide) ?_
      refine W.lcmp hx hb dX10_lowers_27 ?_
      refine lv_if_eq (tgt := 153) hx hb dX10_lowers_28 (by decide) (fun c8 => ?_) (fun c8 => ?_)
      · rw [if_pos c8] at hf
        refine lv_iinc (v := (x1 + (-1))) (lv' := [(1, .int (x1 + (-1))), (0, .ref (ρ x0))]) hx hb dX10_lowers_153 hl (k := 1) rfl rfl (by decide) rfl (fun ls hl => ?_)
        refine lv_goto (tgt := 7) hx hb dX10_lowers_156 (by decide) ?_
        obtain ⟨rfl, rfl⟩ := pp_some hf
        exact kc _ rfl _ _ _ _ _ hW (lv_sub hl [1, 0] rfl)
      · rw [if_neg c8] at hf
        refine lv_aload_n hx hb dX10_lowers_31 rfl (lv_at hl 0 rfl) ?_
        obtain ⟨v9, e9, hf⟩ := pb_rd (rd_gA _ _ _) hf
        refine r_gA C hW e9 flX10_57 rfl dX10_lowers_32 ?_
        refine lv_iload_n hx hb dX10_lowers_35 rfl (lv_at hl 1 rfl) ?_
        obtain ⟨v10, e10, hf⟩ := pb_rd (rd_lJ _ _ _) hf
        refine r_lald C hW e10 dX10_lowers_36 ?_
        refine lv_lstore_n (lv' := [(2, .long v10), (0, .ref (ρ x0)), (1, .int x1)]) hx hb dX10_lowers_37 rfl hl (by decide) rfl (fun ls hl => ?_)
        refine lv_aload_n hx hb dX10_lowers_38 rfl (lv_at hl 1 rfl) ?_
        obtain ⟨v11, e11, hf⟩ := pb_rd (rd_gA _ _ _) hf
        refine r_gA C hW e11 flX10_60 rfl dX10_lowers_39 ?_
        refine lv_iload_n hx hb dX10_lowers_42 rfl (lv_at hl 2 rfl) ?_
        obtain ⟨v12, e12, hf⟩ := pb_rd (rd_lJ _ _ _) hf
        refine r_lald C hW e12 dX10_lowers_43 ?_
        refine lv_lstore (lv' := [(4, .long v12), (2, .long v10), (0, .ref (ρ x0)), (1, .int x1)]) hx hb dX10_lowers_44 hl (by decide) rfl (fun ls hl => ?_)
        refine lv_aload_n hx hb dX10_lowers_46 rfl (lv_at hl 2 rfl) ?_
        obtain ⟨v13, e13, hf⟩ := pb_rd (rd_gA _ _ _) hf
        refine r_gA C hW e13 flX10_57 rfl dX10_lowers_47 ?_
        refine lv_iload_n hx hb dX10_lowers_50 rfl (lv_at hl 3 rfl) ?_
        refine lv_lconst (v := 0) hx hb dX10_lowers_51 (by decide) ?_
        obtain ⟨_, h14, e14, hf⟩ := pb_some hf
        refine r_last C hW e14 dX10_lowers_52 (fun H locs hW => ?_)
        refine lv_aload_n hx hb dX10_lowers_53 rfl (lv_at hl 2 rfl) ?_
        obtain ⟨v15, e15, hf⟩ := pb_rd (rd_gA _ _ _) hf
        refine r_gA C hW e15 flX10_60 rfl dX10_lowers_54 ?_
        refine lv_iload_n hx hb dX10_lowers_57 rfl (lv_at hl 3 rfl) ?_
        refine lv_lconst (v := 1) hx hb dX10_lowers_58 (by decide) ?_
        obtain ⟨_, h16, e16, hf⟩ := pb_some hf
        refine r_last C hW e16 dX10_lowers_59 (fun H locs hW => ?_)
        refine lv_iconst (v := 0) hx hb dX10_lowers_60 (by decide) ?_
        refine lv_istore (lv' := [(6, .int (0 : Int32)), (4, .long v12), (2, .long v10), (0, .ref (ρ x0)), (1, .int x1)]) hx hb dX10_lowers_61 hl (by decide) rfl (fun ls hl => ?_)
        obtain ⟨z37, h37, e37, hf⟩ := pb_some hf
        refine wX10_lowers_L63 C fu _ e37 ((pext hf).tr hX) hW (lv_sub hl [3, 4, 2, 1, 0] rfl) (fun H locs c1 s1 ls hW hl => ?_)
        refine lv_iinc (v := (x1 + (-1))) (lv' := [(1, .int (x1 + (-1))), (0, .ref (ρ x0))]) hx hb dX10_lowers_153 hl (k := 1) rfl rfl (by decide) rfl (fun ls hl => ?_)
        refine lv_goto (tgt := 7) hx hb dX10_lowers_156 (by decide) ?_
        obtain ⟨rfl, rfl⟩ := pp_some hf
        exact kc _ rfl _ _ _ _ _ hW (lv_sub hl [1, 0] rfl)
set_option maxHeartbeats 4000000 in
theorem wX10_lowers_L7 {p : Program} {l : Launch} {e : Env} {s : State} {m : MethodId} {args : Array Value} {below : List Frame} {meth : Method} {c : Code} {G : GG} {ρ : Nat → Nat} {h0 hE hB : PH} {Q : State → Prop} {x0 : Nat} (C : Cx G "PairSymbolsModel" cX10_lowers 8 none "lowers" p s m args meth c) {z : (Unit)} (n : Nat) : ∀ (x : Int32) {h : PH} {H : Heap} {locs : List Loc} {cells slots : Nat} {ls : Array Slot}, (plo (fX10_lowers_B7 x0) n x).1 h = some (z, hB) → Ext hB hE → Wd G ρ h0.length (sl h0) s.heap h H locs cells slots → lv_has ls 8 [(0, .ref (ρ x0)), (1, .int x)] → (ke : ∀ (H : Heap) (locs : List Loc) (c1 s1 : Nat) (ls : Array Slot), Wd G ρ h0.length (sl h0) s.heap hB H locs c1 s1 → lv_has ls 8 [] → W p l e (RM 4 115 h0 hE) s m args below meth c H locs c1 s1 Q (F0 m 159 ls [])) → W p l e (RM 4 115 h0 hE) s m args below meth c H locs cells slots Q (F0 m 7 ls []) := by
  induction n with
  | zero =>
    intro x h H locs cells slots ls hf
    rw [plo_0] at hf
    exact (pf_no hf).elim
  | succ n ih =>
    intro x h H locs cells slots ls hf hX hW hl ke
    rw [plo_s] at hf
    obtain ⟨r, h1, e1, hf⟩ := pb_some hf
    unfold fX10_lowers_B7 at e1
    rw [frI_eq] at e1
    refine wX10_lowers_B7 C e1 ((pext hf).tr hX) hW hl (fun y hr H locs c1 s1 ls hW hl => ?_) (fun y hr H locs c1 s1 ls hW hl => ?_)
    · subst hr
      exact ih y hf hX hW hl ke
    · subst hr
      obtain ⟨rfl, rfl⟩ := pp_some hf
      exact ke H locs c1 s1 ls hW hl
set_option maxHeartbeats 4000000 in
set_option maxRecDepth 100000 in
theorem metX10_lowers (l : Launch) (G : GG) (ρ : Nat → Nat) {z : Nat} {x0 : Nat} {h hE : PH} {v : Unit} (hf : (fX10_lowers x0).1 h = some (v, hE)) : Met l yX10_lowers (wsY yX10_lowers cX10_lowers 8 none) (RM 4 115 h hE) (va_Pc [.ref (ρ x0)] (PcB G ρ h z)) (QV G ρ hE h.length z) (DC h hE) (DS h hE) (Af ρ h.length z) := by
  refine met_start (by decide) (Nat.le_of_ble_eq_true rfl) ?_
  intro p e s m below meth c ls hz C hW hl
  subst hz
  have C : Cx G "PairSymbolsModel" cX10_lowers 8 none "lowers" p s m _ meth c := C
  have hx := C.1
  have hb := C.2.1
  have hX : Ext hE hE := Ext.rf hE
  have hl : lv_has ls 8 [(0, .ref (ρ x0))] := hl
  have hW : Wd G ρ h.length (sl h) s.heap h s.heap [] 0 0 := hW
  unfold fX10_lowers at hf
  obtain ⟨_, e0, hf⟩ := pb_rd (rd_chk _ _) hf
  refine lv_aload_n hx hb dX10_lowers_0 rfl (lv_at hl 0 rfl) ?_
  obtain ⟨v1, e1, hf⟩ := pb_rd (rd_gI _ _ _) hf
  refine r_gI C hW e1 flX10_156 rfl dX10_lowers_1 ?_
  refine lv_iconst (v := 1) hx hb dX10_lowers_4 (by decide) ?_
  refine lv_isub hx hb dX10_lowers_5 ?_
  refine lv_istore_n (lv' := [(1, .int (v1 - (1 : Int32))), (0, .ref (ρ x0))]) hx hb dX10_lowers_6 rfl hl (by decide) rfl (fun ls hl => ?_)
  obtain ⟨z38, h38, e38, hf⟩ := pb_some hf
  refine wX10_lowers_L7 C fu _ e38 ((pext hf).tr hX) hW (lv_sub hl [1, 0] rfl) (fun H locs c1 s1 ls hW hl => ?_)
  obtain ⟨rfl, rfl⟩ := pp_some hf
  exact r_vret C hW dX10_lowers_159

theorem dX10_relates_0 : decode cX10_relates 0 = .ok (.aload_n 0, 1) := by decide +kernel
theorem dX10_relates_1 : decode cX10_relates 1 = .ok (.invokevirtual 173, 3) := by decide +kernel
theorem dX10_relates_4 : decode cX10_relates 4 = .ok (.aload_n 0, 1) := by decide +kernel
theorem dX10_relates_5 : decode cX10_relates 5 = .ok (.getfield 156, 3) := by decide +kernel
theorem dX10_relates_8 : decode cX10_relates 8 = .ok (.iconst 1, 1) := by decide +kernel
theorem dX10_relates_9 : decode cX10_relates 9 = .ok (.isub, 1) := by decide +kernel
theorem dX10_relates_10 : decode cX10_relates 10 = .ok (.istore_n 1, 1) := by decide +kernel
theorem dX10_relates_11 : decode cX10_relates 11 = .ok (.iload_n 1, 1) := by decide +kernel
theorem dX10_relates_12 : decode cX10_relates 12 = .ok (.ifCond .lt 20, 3) := by decide +kernel
theorem dX10_relates_15 : decode cX10_relates 15 = .ok (.aload_n 0, 1) := by decide +kernel
theorem dX10_relates_16 : decode cX10_relates 16 = .ok (.getfield 57, 3) := by decide +kernel
theorem dX10_relates_19 : decode cX10_relates 19 = .ok (.iload_n 1, 1) := by decide +kernel
theorem dX10_relates_20 : decode cX10_relates 20 = .ok (.laload, 1) := by decide +kernel
theorem dX10_relates_21 : decode cX10_relates 21 = .ok (.lconst 0, 1) := by decide +kernel
theorem dX10_relates_22 : decode cX10_relates 22 = .ok (.lcmp, 1) := by decide +kernel
theorem dX10_relates_23 : decode cX10_relates 23 = .ok (.ifCond .ne 9, 3) := by decide +kernel
theorem dX10_relates_26 : decode cX10_relates 26 = .ok (.iinc 1 (-1), 3) := by decide +kernel
theorem dX10_relates_29 : decode cX10_relates 29 = .ok (.goto (-18), 3) := by decide +kernel
theorem dX10_relates_32 : decode cX10_relates 32 = .ok (.iload_n 1, 1) := by decide +kernel
theorem dX10_relates_33 : decode cX10_relates 33 = .ok (.ifCond .ge 4, 3) := by decide +kernel
theorem dX10_relates_36 : decode cX10_relates 36 = .ok (.return_, 1) := by decide +kernel
theorem dX10_relates_37 : decode cX10_relates 37 = .ok (.aload_n 0, 1) := by decide +kernel
theorem dX10_relates_38 : decode cX10_relates 38 = .ok (.getfield 41, 3) := by decide +kernel
theorem dX10_relates_41 : decode cX10_relates 41 = .ok (.iload_n 1, 1) := by decide +kernel
theorem dX10_relates_42 : decode cX10_relates 42 = .ok (.iconst 1, 1) := by decide +kernel
theorem dX10_relates_43 : decode cX10_relates 43 = .ok (.bastore, 1) := by decide +kernel
theorem dX10_relates_44 : decode cX10_relates 44 = .ok (.iconst 0, 1) := by decide +kernel
theorem dX10_relates_45 : decode cX10_relates 45 = .ok (.istore_n 2, 1) := by decide +kernel
theorem dX10_relates_46 : decode cX10_relates 46 = .ok (.iload_n 2, 1) := by decide +kernel
theorem dX10_relates_47 : decode cX10_relates 47 = .ok (.iload_n 1, 1) := by decide +kernel
theorem dX10_relates_48 : decode cX10_relates 48 = .ok (.if_icmp .ge 70, 3) := by decide +kernel
theorem dX10_relates_51 : decode cX10_relates 51 = .ok (.aload_n 0, 1) := by decide +kernel
theorem dX10_relates_52 : decode cX10_relates 52 = .ok (.aload_n 0, 1) := by decide +kernel
theorem dX10_relates_53 : decode cX10_relates 53 = .ok (.getfield 57, 3) := by decide +kernel
theorem dX10_relates_56 : decode cX10_relates 56 = .ok (.iload_n 2, 1) := by decide +kernel
theorem dX10_relates_57 : decode cX10_relates 57 = .ok (.laload, 1) := by decide +kernel
theorem dX10_relates_58 : decode cX10_relates 58 = .ok (.lneg, 1) := by decide +kernel
theorem dX10_relates_59 : decode cX10_relates 59 = .ok (.aload_n 0, 1) := by decide +kernel
theorem dX10_relates_60 : decode cX10_relates 60 = .ok (.getfield 60, 3) := by decide +kernel
theorem dX10_relates_63 : decode cX10_relates 63 = .ok (.iload_n 1, 1) := by decide +kernel
theorem dX10_relates_64 : decode cX10_relates 64 = .ok (.laload, 1) := by decide +kernel
theorem dX10_relates_65 : decode cX10_relates 65 = .ok (.lmul, 1) := by decide +kernel
theorem dX10_relates_66 : decode cX10_relates 66 = .ok (.aload_n 0, 1) := by decide +kernel
theorem dX10_relates_67 : decode cX10_relates 67 = .ok (.getfield 60, 3) := by decide +kernel
theorem dX10_relates_70 : decode cX10_relates 70 = .ok (.iload_n 2, 1) := by decide +kernel
theorem dX10_relates_71 : decode cX10_relates 71 = .ok (.laload, 1) := by decide +kernel
theorem dX10_relates_72 : decode cX10_relates 72 = .ok (.aload_n 0, 1) := by decide +kernel
theorem dX10_relates_73 : decode cX10_relates 73 = .ok (.getfield 57, 3) := by decide +kernel
theorem dX10_relates_76 : decode cX10_relates 76 = .ok (.iload_n 1, 1) := by decide +kernel
theorem dX10_relates_77 : decode cX10_relates 77 = .ok (.laload, 1) := by decide +kernel
theorem dX10_relates_78 : decode cX10_relates 78 = .ok (.lmul, 1) := by decide +kernel
theorem dX10_relates_79 : decode cX10_relates 79 = .ok (.invokevirtual 140, 3) := by decide +kernel
theorem dX10_relates_82 : decode cX10_relates 82 = .ok (.aload_n 0, 1) := by decide +kernel
theorem dX10_relates_83 : decode cX10_relates 83 = .ok (.getfield 45, 3) := by decide +kernel
theorem dX10_relates_86 : decode cX10_relates 86 = .ok (.bipush 48, 2) := by decide +kernel
theorem dX10_relates_88 : decode cX10_relates 88 = .ok (.iload_n 1, 1) := by decide +kernel
theorem dX10_relates_89 : decode cX10_relates 89 = .ok (.imul, 1) := by decide +kernel
theorem dX10_relates_90 : decode cX10_relates 90 = .ok (.iload_n 2, 1) := by decide +kernel
theorem dX10_relates_91 : decode cX10_relates 91 = .ok (.iadd, 1) := by decide +kernel
theorem dX10_relates_92 : decode cX10_relates 92 = .ok (.aload_n 0, 1) := by decide +kernel
theorem dX10_relates_93 : decode cX10_relates 93 = .ok (.getfield 133, 3) := by decide +kernel
theorem dX10_relates_96 : decode cX10_relates 96 = .ok (.lastore, 1) := by decide +kernel
theorem dX10_relates_97 : decode cX10_relates 97 = .ok (.aload_n 0, 1) := by decide +kernel
theorem dX10_relates_98 : decode cX10_relates 98 = .ok (.getfield 48, 3) := by decide +kernel
theorem dX10_relates_101 : decode cX10_relates 101 = .ok (.bipush 48, 2) := by decide +kernel
theorem dX10_relates_103 : decode cX10_relates 103 = .ok (.iload_n 1, 1) := by decide +kernel
theorem dX10_relates_104 : decode cX10_relates 104 = .ok (.imul, 1) := by decide +kernel
theorem dX10_relates_105 : decode cX10_relates 105 = .ok (.iload_n 2, 1) := by decide +kernel
theorem dX10_relates_106 : decode cX10_relates 106 = .ok (.iadd, 1) := by decide +kernel
theorem dX10_relates_107 : decode cX10_relates 107 = .ok (.aload_n 0, 1) := by decide +kernel
theorem dX10_relates_108 : decode cX10_relates 108 = .ok (.getfield 137, 3) := by decide +kernel
theorem dX10_relates_111 : decode cX10_relates 111 = .ok (.lastore, 1) := by decide +kernel
theorem dX10_relates_112 : decode cX10_relates 112 = .ok (.iinc 2 1, 3) := by decide +kernel
theorem dX10_relates_115 : decode cX10_relates 115 = .ok (.goto (-69), 3) := by decide +kernel
theorem dX10_relates_118 : decode cX10_relates 118 = .ok (.return_, 1) := by decide +kernel
theorem kcX10_relates : Cond.code yX10_relates cX10_relates 3 none ∈ tb := tq q_914 rfl
theorem knX10_relates : Cond.initialized yX10_relates.cls ∈ tb := (tq q_10 rfl)
theorem kdX10_relates : yX10_relates.cls ≠ "java/lang/invoke/MethodHandle" ∧ yX10_relates.cls ≠ "java/lang/invoke/VarHandle" ∧ (parseMethodDescriptor yX10_relates.desc).map (fun d => d.parameters.length) = some 0 := ⟨by decide +kernel, by decide +kernel, by decide +kernel⟩
theorem kiX10_relates : Cond.instanceMethod yX10_relates ∈ tb := (tq q_913 rfl)
theorem ksX10_relates : Cond.selects yX10_relates.cls yX10_relates yX10_relates ∈ tb := (tq z_41 rfl)
theorem tgX10_relates {x0 : Nat} {h : PH} {r : Unit × PH} (hf : (fX10_relates x0).1 h = some r) : ∃ n x, nth h x0 = some (9, n, x) := by
  obtain ⟨_, _, e, _⟩ := pb_some hf
  exact (chk_some e).2
set_option maxHeartbeats 4000000 in
set_option maxRecDepth 100000 in
theorem wX10_relates_B11 {p : Program} {l : Launch} {e : Env} {s : State} {m : MethodId} {args : Array Value} {below : List Frame} {meth : Method} {c : Code} {G : GG} {ρ : Nat → Nat} {h0 hE hB : PH} {Q : State → Prop} {x0 : Nat} (C : Cx G "PairSymbolsModel" cX10_relates 3 none "relates" p s m args meth c) {x1 : Int32} {h : PH} {H : Heap} {locs : List Loc} {cells slots : Nat} {ls : Array Slot} {r : (Int32) ⊕ (Int32)} (hf : (fX10_relates_b11 x0 x1).1 h = some (r, hB)) (hX : Ext hB hE) (hW : Wd G ρ h0.length (sl h0) s.heap h H locs cells slots) (hl : lv_has ls 3 [(0, .ref (ρ x0)), (1, .int x1)]) (kc : ∀ y : Int32, r = .inl y → ∀ (H : Heap) (locs : List Loc) (c1 s1 : Nat) (ls : Array Slot), Wd G ρ h0.length (sl h0) s.heap hB H locs c1 s1 → lv_has ls 3 [(0, .ref (ρ x0)), (1, .int y)] → W p l e (RM 5 142 h0 hE) s m args below meth c H locs c1 s1 Q (F0 m 11 ls [])) (ke : ∀ z : Int32, r = .inr z → ∀ (H : Heap) (locs : List Loc) (c1 s1 : Nat) (ls : Array Slot), Wd G ρ h0.length (sl h0) s.heap hB H locs c1 s1 → lv_has ls 3 [(0, .ref (ρ x0)), (1, .int z)] → W p l e (RM 5 142 h0 hE) s m args below meth c H locs c1 s1 Q (F0 m 32 ls [])) : W p l e (RM 5 142 h0 hE) s m args below meth c H locs cells slots Q (F0 m 11 ls []) := by
  have hx := C.1
  have hb := C.2.1
  unfold fX10_relates_b11 at hf
  refine lv_iload_n hx hb dX10_relates_11 rfl (lv_at hl 1 rfl) ?_
  refine lv_if_lt (tgt := 32) hx hb dX10_relates_12 (by decide) (fun c4 => ?_) (fun c4 => ?_)
  · rw [if_pos c4] at hf
    obtain ⟨rfl, rfl⟩ := pp_some hf
    exact ke _ rfl _ _ _ _ _ hW (lv_sub hl [0, 1] rfl)
  · rw [if_neg c4] at hf
    refine lv_aload_n hx hb dX10_relates_15 rfl (lv_at hl 0 rfl) ?_
    obtain ⟨v5, e5, hf⟩ := pb_rd (rd_gA _ _ _) hf
    refine r_gA C hW e5 flX10_57 rfl dX10_relates_16 ?_
    refine lv_iload_n hx hb dX10_relates_19 rfl (lv_at hl 1 rfl) ?_
    obtain ⟨v6, e6, hf⟩ := pb_rd (rd_lJ _ _ _) hf
    refine r_lald C hW e6 dX10_relates_20 ?_
    refine lv_lconst (v := 0) hx hb dX10_relates_21 (by decide) ?_
    refine W.lcmp hx hb dX10_relates_22 ?_
    refine lv_if_ne (tgt := 32) hx hb dX10_relates_23 (by decide) (fun c7 => ?_) (fun c7 => ?_)
    · rw [if_neg c7] at hf
      obtain ⟨rfl, rfl⟩ := pp_some hf
      exact ke _ rfl _ _ _ _ _ hW (lv_sub hl [0, 1] rfl)
    · rw [if_pos c7] at hf
      refine lv_iinc (v := (x1 + (-1))) (lv' := [(1, .int (x1 + (-1))), (0, .ref (ρ x0))]) hx hb dX10_relates_26 hl (k := 1) rfl rfl (by decide) rfl (fun ls hl => ?_)
      refine lv_goto (tgt := 11) hx hb dX10_relates_29 (by decide) ?_
      obtain ⟨rfl, rfl⟩ := pp_some hf
      exact kc _ rfl _ _ _ _ _ hW (lv_sub hl [1, 0] rfl)
set_option maxHeartbeats 4000000 in
theorem wX10_relates_L11 {p : Program} {l : Launch} {e : Env} {s : State} {m : MethodId} {args : Array Value} {below : List Frame} {meth : Method} {c : Code} {G : GG} {ρ : Nat → Nat} {h0 hE hB : PH} {Q : State → Prop} {x0 : Nat} (C : Cx G "PairSymbolsModel" cX10_relates 3 none "relates" p s m args meth c) {z : (Int32)} (n : Nat) : ∀ (x : Int32) {h : PH} {H : Heap} {locs : List Loc} {cells slots : Nat} {ls : Array Slot}, (plo (fX10_relates_B11 x0) n x).1 h = some (z, hB) → Ext hB hE → Wd G ρ h0.length (sl h0) s.heap h H locs cells slots → lv_has ls 3 [(0, .ref (ρ x0)), (1, .int x)] → (ke : ∀ (H : Heap) (locs : List Loc) (c1 s1 : Nat) (ls : Array Slot), Wd G ρ h0.length (sl h0) s.heap hB H locs c1 s1 → lv_has ls 3 [(0, .ref (ρ x0)), (1, .int z)] → W p l e (RM 5 142 h0 hE) s m args below meth c H locs c1 s1 Q (F0 m 32 ls [])) → W p l e (RM 5 142 h0 hE) s m args below meth c H locs cells slots Q (F0 m 11 ls []) := by
  induction n with
  | zero =>
    intro x h H locs cells slots ls hf
    rw [plo_0] at hf
    exact (pf_no hf).elim
  | succ n ih =>
    intro x h H locs cells slots ls hf hX hW hl ke
    rw [plo_s] at hf
    obtain ⟨r, h1, e1, hf⟩ := pb_some hf
    unfold fX10_relates_B11 at e1
    rw [frI_eq] at e1
    refine wX10_relates_B11 C e1 ((pext hf).tr hX) hW hl (fun y hr H locs c1 s1 ls hW hl => ?_) (fun y hr H locs c1 s1 ls hW hl => ?_)
    · subst hr
      exact ih y hf hX hW hl ke
    · subst hr
      obtain ⟨rfl, rfl⟩ := pp_some hf
      exact ke H locs c1 s1 ls hW hl
set_option maxHeartbeats 4000000 in
set_option maxRecDepth 100000 in
theorem wX10_relates_B46 {p : Program} {l : Launch} {e : Env} {s : State} {m : MethodId} {args : Array Value} {below : List Frame} {meth : Method} {c : Code} {G : GG} {ρ : Nat → Nat} {h0 hE hB : PH} {Q : State → Prop} {x0 : Nat} {x1 : Int32} (C : Cx G "PairSymbolsModel" cX10_relates 3 none "relates" p s m args meth c) {x2 : Int32} {h : PH} {H : Heap} {locs : List Loc} {cells slots : Nat} {ls : Array Slot} {r : (Int32) ⊕ (Unit)} (hf : (fX10_relates_b46 x0 x1 x2).1 h = some (r, hB)) (hX : Ext hB hE) (hW : Wd G ρ h0.length (sl h0) s.heap h H locs cells slots) (hl : lv_has ls 3 [(0, .ref (ρ x0)), (1, .int x1), (2, .int x2)]) (kc : ∀ y : Int32, r = .inl y → ∀ (H : Heap) (locs : List Loc) (c1 s1 : Nat) (ls : Array Slot), Wd G ρ h0.length (sl h0) s.heap hB H locs c1 s1 → lv_has ls 3 [(0, .ref (ρ x0)), (1, .int x1), (2, .int y)] → W p l e (RM 5 142 h0 hE) s m args below meth c H locs c1 s1 Q (F0 m 46 ls [])) (ke : ∀ z : Unit, r = .inr z → ∀ (H : Heap) (locs : List Loc) (c1 s1 : Nat) (ls : Array Slot), Wd G ρ h0.length (sl h0) s.heap hB H locs c1 s1 → lv_has ls 3 [] → W p l e (RM 5 142 h0 hE) s m args below meth c H locs c1 s1 Q (F0 m 118 ls [])) : W p l e (RM 5 142 h0 hE) s m args below meth c H locs cells slots Q (F0 m 46 ls []) := by
  have hx := C.1
  have hb := C.2.1
  unfold fX10_relates_b46 at hf
  refine lv_iload_n hx hb dX10_relates_46 rfl (lv_at hl 2 rfl) ?_
  refine lv_iload_n hx hb dX10_relates_47 rfl (lv_at hl 1 rfl) ?_
  refine lv_icmp_ge (tgt := 118) hx hb dX10_relates_48 (by decide) (fun c12 => ?_) (fun c12 => ?_)
  · rw [if_pos c12] at hf
    obtain ⟨rfl, rfl⟩ := pp_some hf
    exact ke _ rfl _ _ _ _ _ hW (lv_sub hl [] rfl)
  · rw [if_neg c12] at hf
    refine lv_aload_n hx hb dX10_relates_51 rfl (lv_at hl 0 rfl) ?_
    refine lv_aload_n hx hb dX10_relates_52 rfl (lv_at hl 0 rfl) ?_
    obtain ⟨v13, e13, hf⟩ := pb_rd (rd_gA _ _ _) hf
    refine r_gA C hW e13 flX10_57 rfl dX10_relates_53 ?_
    refine lv_iload_n hx hb dX10_relates_56 rfl (lv_at hl 2 rfl) ?_
    obtain ⟨v14, e14, hf⟩ := pb_rd (rd_lJ _ _ _) hf
    refine r_lald C hW e14 dX10_relates_57 ?_
    refine lv_lneg hx hb dX10_relates_58 ?_
    refine lv_aload_n hx hb dX10_relates_59 rfl (lv_at hl 0 rfl) ?_
    obtain ⟨v15, e15, hf⟩ := pb_rd (rd_gA _ _ _) hf
    refine r_gA C hW e15 flX10_60 rfl dX10_relates_60 ?_
    refine lv_iload_n hx hb dX10_relates_63 rfl (lv_at hl 1 rfl) ?_
    obtain ⟨v16, e16, hf⟩ := pb_rd (rd_lJ _ _ _) hf
    refine r_lald C hW e16 dX10_relates_64 ?_
    refine lv_lmul hx hb dX10_relates_65 ?_
    refine lv_aload_n hx hb dX10_relates_66 rfl (lv_at hl 0 rfl) ?_
    obtain ⟨v17, e17, hf⟩ := pb_rd (rd_gA _ _ _) hf
    refine r_gA C hW e17 flX10_60 rfl dX10_relates_67 ?_
    refine lv_iload_n hx hb dX10_relates_70 rfl (lv_at hl 2 rfl) ?_
    obtain ⟨v18, e18, hf⟩ := pb_rd (rd_lJ _ _ _) hf
    refine r_lald C hW e18 dX10_relates_71 ?_
    refine lv_aload_n hx hb dX10_relates_72 rfl (lv_at hl 0 rfl) ?_
    obtain ⟨v19, e19, hf⟩ := pb_rd (rd_gA _ _ _) hf
    refine r_gA C hW e19 flX10_57 rfl dX10_relates_73 ?_
    refine lv_iload_n hx hb dX10_relates_76 rfl (lv_at hl 1 rfl) ?_
    obtain ⟨v20, e20, hf⟩ := pb_rd (rd_lJ _ _ _) hf
    refine r_lald C hW e20 dX10_relates_77 ?_
    refine lv_lmul hx hb dX10_relates_78 ?_
    obtain ⟨_, h21, e21, hf⟩ := pb_some hf
    obtain ⟨_, _, t22⟩ := tgX10_lowest e21
    refine r_callv hW (pext e21) (run_V (b := x0) (As := [.long ((-v14) * v16), .long (v18 * v20)]) (rest := []) C hW (metX10_lowest l G ρ e21) ⟨rfl, rfl⟩ kcX10_lowest (tq q_903 rfl) kiX10_lowest ksX10_lowest knX10_lowest kdX10_lowest t22 rfl rfl ⟨Nat.le_of_ble_eq_true rfl, Nat.le_of_ble_eq_true rfl⟩ hl.1 (Nat.le_of_ble_eq_true rfl) (room_of hW (pext e21) ((pext hf).tr hX)) dX10_relates_79 rfl) (fun H locs c1 s1 hW => ?_)
    refine lv_aload_n hx hb dX10_relates_82 rfl (lv_at hl 0 rfl) ?_
    obtain ⟨v23, e23, hf⟩ := pb_rd (rd_gA _ _ _) hf
    refine r_gA C hW e23 flX10_45 rfl dX10_relates_83 ?_
    refine lv_bipush (v := 48) hx hb dX10_relates_86 (by decide) ?_
    refine lv_iload_n hx hb dX10_relates_88 rfl (lv_at hl 1 rfl) ?_
    refine lv_imul hx hb dX10_relates_89 ?_
    refine lv_iload_n hx hb dX10_relates_90 rfl (lv_at hl 2 rfl) ?_
    refine lv_iadd hx hb dX10_relates_91 ?_
    refine lv_aload_n hx hb dX10_relates_92 rfl (lv_at hl 0 rfl) ?_
    obtain ⟨v24, e24, hf⟩ := pb_rd (rd_gJ _ _ _) hf
    refine r_gJ C hW e24 flX10_133 rfl dX10_relates_93 ?_
    obtain ⟨_, h25, e25, hf⟩ := pb_some hf
    refine r_last C hW e25 dX10_relates_96 (fun H locs hW => ?_)
    refine lv_aload_n hx hb dX10_relates_97 rfl (lv_at hl 0 rfl) ?_
    obtain ⟨v26, e26, hf⟩ := pb_rd (rd_gA _ _ _) hf
    refine r_gA C hW e26 flX10_48 rfl dX10_relates_98 ?_
    refine lv_bipush (v := 48) hx hb dX10_relates_101 (by decide) ?_
    refine lv_iload_n hx hb dX10_relates_103 rfl (lv_at hl 1 rfl) ?_
    refine lv_imul hx hb dX10_relates_104 ?_
    refine lv_iload_n hx hb dX10_relates_105 rfl (lv_at hl 2 rfl) ?_
    refine lv_iadd hx hb dX10_relates_106 ?_
    refine lv_aload_n hx hb dX10_relates_107 rfl (lv_at hl 0 rfl) ?_
    obtain ⟨v27, e27, hf⟩ := pb_rd (rd_gJ _ _ _) hf
    refine r_gJ C hW e27 flX10_137 rfl dX10_relates_108 ?_
    obtain ⟨_, h28, e28, hf⟩ := pb_some hf
    refine r_last C hW e28 dX10_relates_111 (fun H locs hW => ?_)
    refine lv_iinc (v := (x2 + 1)) (lv' := [(2, .int (x2 + 1)), (0, .ref (ρ x0)), (1, .int x1)]) hx hb dX10_relates_112 hl (k := 2) rfl rfl (by decide) rfl (fun ls hl => ?_)
    refine lv_goto (tgt := 46) hx hb dX10_relates_115 (by decide) ?_
    obtain ⟨rfl, rfl⟩ := pp_some hf
    exact kc _ rfl _ _ _ _ _ hW (lv_sub hl [1, 2, 0] rfl)
set_option maxHeartbeats 4000000 in
theorem wX10_relates_L46 {p : Program} {l : Launch} {e : Env} {s : State} {m : MethodId} {args : Array Value} {below : List Frame} {meth : Method} {c : Code} {G : GG} {ρ : Nat → Nat} {h0 hE hB : PH} {Q : State → Prop} {x0 : Nat} {x1 : Int32} (C : Cx G "PairSymbolsModel" cX10_relates 3 none "relates" p s m args meth c) {z : (Unit)} (n : Nat) : ∀ (x : Int32) {h : PH} {H : Heap} {locs : List Loc} {cells slots : Nat} {ls : Array Slot}, (plo (fX10_relates_B46 x0 x1) n x).1 h = some (z, hB) → Ext hB hE → Wd G ρ h0.length (sl h0) s.heap h H locs cells slots → lv_has ls 3 [(0, .ref (ρ x0)), (1, .int x1), (2, .int x)] → (ke : ∀ (H : Heap) (locs : List Loc) (c1 s1 : Nat) (ls : Array Slot), Wd G ρ h0.length (sl h0) s.heap hB H locs c1 s1 → lv_has ls 3 [] → W p l e (RM 5 142 h0 hE) s m args below meth c H locs c1 s1 Q (F0 m 118 ls [])) → W p l e (RM 5 142 h0 hE) s m args below meth c H locs cells slots Q (F0 m 46 ls []) := by
  induction n with
  | zero =>
    intro x h H locs cells slots ls hf
    rw [plo_0] at hf
    exact (pf_no hf).elim
  | succ n ih =>
    intro x h H locs cells slots ls hf hX hW hl ke
    rw [plo_s] at hf
    obtain ⟨r, h1, e1, hf⟩ := pb_some hf
    unfold fX10_relates_B46 at e1
    rw [frI_eq] at e1
    refine wX10_relates_B46 C e1 ((pext hf).tr hX) hW hl (fun y hr H locs c1 s1 ls hW hl => ?_) (fun y hr H locs c1 s1 ls hW hl => ?_)
    · subst hr
      exact ih y hf hX hW hl ke
    · subst hr
      obtain ⟨rfl, rfl⟩ := pp_some hf
      exact ke H locs c1 s1 ls hW hl
set_option maxHeartbeats 4000000 in
set_option maxRecDepth 100000 in
theorem metX10_relates (l : Launch) (G : GG) (ρ : Nat → Nat) {z : Nat} {x0 : Nat} {h hE : PH} {v : Unit} (hf : (fX10_relates x0).1 h = some (v, hE)) : Met l yX10_relates (wsY yX10_relates cX10_relates 3 none) (RM 5 142 h hE) (va_Pc [.ref (ρ x0)] (PcB G ρ h z)) (QV G ρ hE h.length z) (DC h hE) (DS h hE) (Af ρ h.length z) := by
  refine met_start (by decide) (Nat.le_of_ble_eq_true rfl) ?_
  intro p e s m below meth c ls hz C hW hl
  subst hz
  have C : Cx G "PairSymbolsModel" cX10_relates 3 none "relates" p s m _ meth c := C
  have hx := C.1
  have hb := C.2.1
  have hX : Ext hE hE := Ext.rf hE
  have hl : lv_has ls 3 [(0, .ref (ρ x0))] := hl
  have hW : Wd G ρ h.length (sl h) s.heap h s.heap [] 0 0 := hW
  unfold fX10_relates at hf
  obtain ⟨_, e0, hf⟩ := pb_rd (rd_chk _ _) hf
  refine lv_aload_n hx hb dX10_relates_0 rfl (lv_at hl 0 rfl) ?_
  obtain ⟨_, h1, e1, hf⟩ := pb_some hf
  obtain ⟨_, _, t2⟩ := tgX10_lowers e1
  refine r_callv hW (pext e1) (run_V (b := x0) (As := []) (rest := []) C hW (metX10_lowers l G ρ e1) ⟨rfl, rfl⟩ kcX10_lowers (tq q_915 rfl) kiX10_lowers ksX10_lowers knX10_lowers kdX10_lowers t2 rfl rfl ⟨Nat.le_of_ble_eq_true rfl, Nat.le_of_ble_eq_true rfl⟩ hl.1 (Nat.le_of_ble_eq_true rfl) (room_of hW (pext e1) ((pext hf).tr hX)) dX10_relates_1 rfl) (fun H locs c1 s1 hW => ?_)
  refine lv_aload_n hx hb dX10_relates_4 rfl (lv_at hl 0 rfl) ?_
  obtain ⟨v3, e3, hf⟩ := pb_rd (rd_gI _ _ _) hf
  refine r_gI C hW e3 flX10_156 rfl dX10_relates_5 ?_
  refine lv_iconst (v := 1) hx hb dX10_relates_8 (by decide) ?_
  refine lv_isub hx hb dX10_relates_9 ?_
  refine lv_istore_n (lv' := [(1, .int (v3 - (1 : Int32))), (0, .ref (ρ x0))]) hx hb dX10_relates_10 rfl hl (by decide) rfl (fun ls hl => ?_)
  obtain ⟨z8, h8, e8, hf⟩ := pb_some hf
  refine wX10_relates_L11 C fu _ e8 ((pext hf).tr hX) hW (lv_sub hl [1, 0] rfl) (fun H locs c1 s1 ls hW hl => ?_)
  refine lv_iload_n hx hb dX10_relates_32 rfl (lv_at hl 1 rfl) ?_
  refine lv_if_ge (tgt := 37) hx hb dX10_relates_33 (by decide) (fun c9 => ?_) (fun c9 => ?_)
  · rw [if_pos c9] at hf
    refine lv_aload_n hx hb dX10_relates_37 rfl (lv_at hl 0 rfl) ?_
    obtain ⟨v10, e10, hf⟩ := pb_rd (rd_gA _ _ _) hf
    refine r_gA C hW e10 flX10_41 rfl dX10_relates_38 ?_
    refine lv_iload_n hx hb dX10_relates_41 rfl (lv_at hl 1 rfl) ?_
    refine lv_iconst (v := 1) hx hb dX10_relates_42 (by decide) ?_
    obtain ⟨_, h11, e11, hf⟩ := pb_some hf
    refine r_zast C hW e11 rfl dX10_relates_43 (fun H locs hW => ?_)
    refine lv_iconst (v := 0) hx hb dX10_relates_44 (by decide) ?_
    refine lv_istore_n (lv' := [(2, .int (0 : Int32)), (0, .ref (ρ x0)), (1, .int z8)]) hx hb dX10_relates_45 rfl hl (by decide) rfl (fun ls hl => ?_)
    obtain ⟨z29, h29, e29, hf⟩ := pb_some hf
    refine wX10_relates_L46 C fu _ e29 ((pext hf).tr hX) hW (lv_sub hl [1, 2, 0] rfl) (fun H locs c1 s1 ls hW hl => ?_)
    obtain ⟨rfl, rfl⟩ := pp_some hf
    exact r_vret C hW dX10_relates_118
  · rw [if_neg c9] at hf
    obtain ⟨rfl, rfl⟩ := pp_some hf
    exact r_vret C hW dX10_relates_36

theorem dX10_laysRelations_0 : decode cX10_laysRelations 0 = .ok (.iconst 0, 1) := by decide +kernel
theorem dX10_laysRelations_1 : decode cX10_laysRelations 1 = .ok (.istore_n 1, 1) := by decide +kernel
theorem dX10_laysRelations_2 : decode cX10_laysRelations 2 = .ok (.iload_n 1, 1) := by decide +kernel
theorem dX10_laysRelations_3 : decode cX10_laysRelations 3 = .ok (.aload_n 0, 1) := by decide +kernel
theorem dX10_laysRelations_4 : decode cX10_laysRelations 4 = .ok (.getfield 156, 3) := by decide +kernel
theorem dX10_laysRelations_7 : decode cX10_laysRelations 7 = .ok (.if_icmp .ge 16, 3) := by decide +kernel
theorem dX10_laysRelations_10 : decode cX10_laysRelations 10 = .ok (.aload_n 0, 1) := by decide +kernel
theorem dX10_laysRelations_11 : decode cX10_laysRelations 11 = .ok (.getfield 41, 3) := by decide +kernel
theorem dX10_laysRelations_14 : decode cX10_laysRelations 14 = .ok (.iload_n 1, 1) := by decide +kernel
theorem dX10_laysRelations_15 : decode cX10_laysRelations 15 = .ok (.iconst 0, 1) := by decide +kernel
theorem dX10_laysRelations_16 : decode cX10_laysRelations 16 = .ok (.bastore, 1) := by decide +kernel
theorem dX10_laysRelations_17 : decode cX10_laysRelations 17 = .ok (.iinc 1 1, 3) := by decide +kernel
theorem dX10_laysRelations_20 : decode cX10_laysRelations 20 = .ok (.goto (-18), 3) := by decide +kernel
theorem dX10_laysRelations_23 : decode cX10_laysRelations 23 = .ok (.iconst 0, 1) := by decide +kernel
theorem dX10_laysRelations_24 : decode cX10_laysRelations 24 = .ok (.istore_n 1, 1) := by decide +kernel
theorem dX10_laysRelations_25 : decode cX10_laysRelations 25 = .ok (.iload_n 1, 1) := by decide +kernel
theorem dX10_laysRelations_26 : decode cX10_laysRelations 26 = .ok (.aload_n 0, 1) := by decide +kernel
theorem dX10_laysRelations_27 : decode cX10_laysRelations 27 = .ok (.getfield 156, 3) := by decide +kernel
theorem dX10_laysRelations_30 : decode cX10_laysRelations 30 = .ok (.if_icmp .ge 66, 3) := by decide +kernel
theorem dX10_laysRelations_33 : decode cX10_laysRelations 33 = .ok (.aload_n 0, 1) := by decide +kernel
theorem dX10_laysRelations_34 : decode cX10_laysRelations 34 = .ok (.invokevirtual 176, 3) := by decide +kernel
theorem dX10_laysRelations_37 : decode cX10_laysRelations 37 = .ok (.aload_n 0, 1) := by decide +kernel
theorem dX10_laysRelations_38 : decode cX10_laysRelations 38 = .ok (.iload_n 1, 1) := by decide +kernel
theorem dX10_laysRelations_39 : decode cX10_laysRelations 39 = .ok (.invokevirtual 179, 3) := by decide +kernel
theorem dX10_laysRelations_42 : decode cX10_laysRelations 42 = .ok (.aload_n 0, 1) := by decide +kernel
theorem dX10_laysRelations_43 : decode cX10_laysRelations 43 = .ok (.aload_n 0, 1) := by decide +kernel
theorem dX10_laysRelations_44 : decode cX10_laysRelations 44 = .ok (.iload_n 1, 1) := by decide +kernel
theorem dX10_laysRelations_45 : decode cX10_laysRelations 45 = .ok (.invokevirtual 183, 3) := by decide +kernel
theorem dX10_laysRelations_48 : decode cX10_laysRelations 48 = .ok (.invokevirtual 179, 3) := by decide +kernel
theorem dX10_laysRelations_51 : decode cX10_laysRelations 51 = .ok (.aload_n 0, 1) := by decide +kernel
theorem dX10_laysRelations_52 : decode cX10_laysRelations 52 = .ok (.invokevirtual 186, 3) := by decide +kernel
theorem dX10_laysRelations_55 : decode cX10_laysRelations 55 = .ok (.aload_n 0, 1) := by decide +kernel
theorem dX10_laysRelations_56 : decode cX10_laysRelations 56 = .ok (.invokevirtual 176, 3) := by decide +kernel
theorem dX10_laysRelations_59 : decode cX10_laysRelations 59 = .ok (.aload_n 0, 1) := by decide +kernel
theorem dX10_laysRelations_60 : decode cX10_laysRelations 60 = .ok (.iload_n 1, 1) := by decide +kernel
theorem dX10_laysRelations_61 : decode cX10_laysRelations 61 = .ok (.invokevirtual 179, 3) := by decide +kernel
theorem dX10_laysRelations_64 : decode cX10_laysRelations 64 = .ok (.aload_n 0, 1) := by decide +kernel
theorem dX10_laysRelations_65 : decode cX10_laysRelations 65 = .ok (.aload_n 0, 1) := by decide +kernel
theorem dX10_laysRelations_66 : decode cX10_laysRelations 66 = .ok (.iload_n 1, 1) := by decide +kernel
theorem dX10_laysRelations_67 : decode cX10_laysRelations 67 = .ok (.invokevirtual 189, 3) := by decide +kernel
theorem dX10_laysRelations_70 : decode cX10_laysRelations 70 = .ok (.invokevirtual 179, 3) := by decide +kernel
theorem dX10_laysRelations_73 : decode cX10_laysRelations 73 = .ok (.aload_n 0, 1) := by decide +kernel
theorem dX10_laysRelations_74 : decode cX10_laysRelations 74 = .ok (.aload_n 0, 1) := by decide +kernel
theorem dX10_laysRelations_75 : decode cX10_laysRelations 75 = .ok (.aload_n 0, 1) := by decide +kernel
theorem dX10_laysRelations_76 : decode cX10_laysRelations 76 = .ok (.iload_n 1, 1) := by decide +kernel
theorem dX10_laysRelations_77 : decode cX10_laysRelations 77 = .ok (.invokevirtual 189, 3) := by decide +kernel
theorem dX10_laysRelations_80 : decode cX10_laysRelations 80 = .ok (.invokevirtual 189, 3) := by decide +kernel
theorem dX10_laysRelations_83 : decode cX10_laysRelations 83 = .ok (.invokevirtual 179, 3) := by decide +kernel
theorem dX10_laysRelations_86 : decode cX10_laysRelations 86 = .ok (.aload_n 0, 1) := by decide +kernel
theorem dX10_laysRelations_87 : decode cX10_laysRelations 87 = .ok (.invokevirtual 186, 3) := by decide +kernel
theorem dX10_laysRelations_90 : decode cX10_laysRelations 90 = .ok (.iinc 1 1, 3) := by decide +kernel
theorem dX10_laysRelations_93 : decode cX10_laysRelations 93 = .ok (.goto (-68), 3) := by decide +kernel
theorem dX10_laysRelations_96 : decode cX10_laysRelations 96 = .ok (.return_, 1) := by decide +kernel
theorem kcX10_laysRelations : Cond.code yX10_laysRelations cX10_laysRelations 2 none ∈ tb := tq q_890 rfl
theorem knX10_laysRelations : Cond.initialized yX10_laysRelations.cls ∈ tb := (tq q_10 rfl)
theorem kdX10_laysRelations : yX10_laysRelations.cls ≠ "java/lang/invoke/MethodHandle" ∧ yX10_laysRelations.cls ≠ "java/lang/invoke/VarHandle" ∧ (parseMethodDescriptor yX10_laysRelations.desc).map (fun d => d.parameters.length) = some 0 := ⟨by decide +kernel, by decide +kernel, by decide +kernel⟩
theorem kiX10_laysRelations : Cond.instanceMethod yX10_laysRelations ∈ tb := (tq q_889 rfl)
theorem ksX10_laysRelations : Cond.selects yX10_laysRelations.cls yX10_laysRelations yX10_laysRelations ∈ tb := (tq z_35 rfl)
theorem tgX10_laysRelations {x0 : Nat} {h : PH} {r : Unit × PH} (hf : (fX10_laysRelations x0).1 h = some r) : ∃ n x, nth h x0 = some (9, n, x) := by
  obtain ⟨_, _, e, _⟩ := pb_some hf
  exact (chk_some e).2
set_option maxHeartbeats 4000000 in
set_option maxRecDepth 100000 in
theorem wX10_laysRelations_B2 {p : Program} {l : Launch} {e : Env} {s : State} {m : MethodId} {args : Array Value} {below : List Frame} {meth : Method} {c : Code} {G : GG} {ρ : Nat → Nat} {h0 hE hB : PH} {Q : State → Prop} {x0 : Nat} (C : Cx G "PairSymbolsModel" cX10_laysRelations 2 none "laysRelations" p s m args meth c) {x1 : Int32} {h : PH} {H : Heap} {locs : List Loc} {cells slots : Nat} {ls : Array Slot} {r : (Int32) ⊕ (Unit)} (hf : (fX10_laysRelations_b2 x0 x1).1 h = some (r, hB)) (hX : Ext hB hE) (hW : Wd G ρ h0.length (sl h0) s.heap h H locs cells slots) (hl : lv_has ls 2 [(0, .ref (ρ x0)), (1, .int x1)]) (kc : ∀ y : Int32, r = .inl y → ∀ (H : Heap) (locs : List Loc) (c1 s1 : Nat) (ls : Array Slot), Wd G ρ h0.length (sl h0) s.heap hB H locs c1 s1 → lv_has ls 2 [(0, .ref (ρ x0)), (1, .int y)] → W p l e (RM 6 164 h0 hE) s m args below meth c H locs c1 s1 Q (F0 m 2 ls [])) (ke : ∀ z : Unit, r = .inr z → ∀ (H : Heap) (locs : List Loc) (c1 s1 : Nat) (ls : Array Slot), Wd G ρ h0.length (sl h0) s.heap hB H locs c1 s1 → lv_has ls 2 [(0, .ref (ρ x0))] → W p l e (RM 6 164 h0 hE) s m args below meth c H locs c1 s1 Q (F0 m 23 ls [])) : W p l e (RM 6 164 h0 hE) s m args below meth c H locs cells slots Q (F0 m 2 ls []) := by
  have hx := C.1
  have hb := C.2.1
  unfold fX10_laysRelations_b2 at hf
  refine lv_iload_n hx hb dX10_laysRelations_2 rfl (lv_at hl 1 rfl) ?_
  refine lv_aload_n hx hb dX10_laysRelations_3 rfl (lv_at hl 0 rfl) ?_
  obtain ⟨v1, e1, hf⟩ := pb_rd (rd_gI _ _ _) hf
  refine r_gI C hW e1 flX10_156 rfl dX10_laysRelations_4 ?_
  refine lv_icmp_ge (tgt := 23) hx hb dX10_laysRelations_7 (by decide) (fun c2 => ?_) (fun c2 => ?_)
  · rw [if_pos c2] at hf
    obtain ⟨rfl, rfl⟩ := pp_some hf
    exact ke _ rfl _ _ _ _ _ hW (lv_sub hl [0] rfl)
  · rw [if_neg c2] at hf
    refine lv_aload_n hx hb dX10_laysRelations_10 rfl (lv_at hl 0 rfl) ?_
    obtain ⟨v3, e3, hf⟩ := pb_rd (rd_gA _ _ _) hf
    refine r_gA C hW e3 flX10_41 rfl dX10_laysRelations_11 ?_
    refine lv_iload_n hx hb dX10_laysRelations_14 rfl (lv_at hl 1 rfl) ?_
    refine lv_iconst (v := 0) hx hb dX10_laysRelations_15 (by decide) ?_
    obtain ⟨_, h4, e4, hf⟩ := pb_some hf
    refine r_zast C hW e4 rfl dX10_laysRelations_16 (fun H locs hW => ?_)
    refine lv_iinc (v := (x1 + 1)) (lv' := [(1, .int (x1 + 1)), (0, .ref (ρ x0))]) hx hb dX10_laysRelations_17 hl (k := 1) rfl rfl (by decide) rfl (fun ls hl => ?_)
    refine lv_goto (tgt := 2) hx hb dX10_laysRelations_20 (by decide) ?_
    obtain ⟨rfl, rfl⟩ := pp_some hf
    exact kc _ rfl _ _ _ _ _ hW (lv_sub hl [1, 0] rfl)
set_option maxHeartbeats 4000000 in
theorem wX10_laysRelations_L2 {p : Program} {l : Launch} {e : Env} {s : State} {m : MethodId} {args : Array Value} {below : List Frame} {meth : Method} {c : Code} {G : GG} {ρ : Nat → Nat} {h0 hE hB : PH} {Q : State → Prop} {x0 : Nat} (C : Cx G "PairSymbolsModel" cX10_laysRelations 2 none "laysRelations" p s m args meth c) {z : (Unit)} (n : Nat) : ∀ (x : Int32) {h : PH} {H : Heap} {locs : List Loc} {cells slots : Nat} {ls : Array Slot}, (plo (fX10_laysRelations_B2 x0) n x).1 h = some (z, hB) → Ext hB hE → Wd G ρ h0.length (sl h0) s.heap h H locs cells slots → lv_has ls 2 [(0, .ref (ρ x0)), (1, .int x)] → (ke : ∀ (H : Heap) (locs : List Loc) (c1 s1 : Nat) (ls : Array Slot), Wd G ρ h0.length (sl h0) s.heap hB H locs c1 s1 → lv_has ls 2 [(0, .ref (ρ x0))] → W p l e (RM 6 164 h0 hE) s m args below meth c H locs c1 s1 Q (F0 m 23 ls [])) → W p l e (RM 6 164 h0 hE) s m args below meth c H locs cells slots Q (F0 m 2 ls []) := by
  induction n with
  | zero =>
    intro x h H locs cells slots ls hf
    rw [plo_0] at hf
    exact (pf_no hf).elim
  | succ n ih =>
    intro x h H locs cells slots ls hf hX hW hl ke
    rw [plo_s] at hf
    obtain ⟨r, h1, e1, hf⟩ := pb_some hf
    unfold fX10_laysRelations_B2 at e1
    rw [frI_eq] at e1
    refine wX10_laysRelations_B2 C e1 ((pext hf).tr hX) hW hl (fun y hr H locs c1 s1 ls hW hl => ?_) (fun y hr H locs c1 s1 ls hW hl => ?_)
    · subst hr
      exact ih y hf hX hW hl ke
    · subst hr
      obtain ⟨rfl, rfl⟩ := pp_some hf
      exact ke H locs c1 s1 ls hW hl
set_option maxHeartbeats 4000000 in
set_option maxRecDepth 100000 in
theorem wX10_laysRelations_B25 {p : Program} {l : Launch} {e : Env} {s : State} {m : MethodId} {args : Array Value} {below : List Frame} {meth : Method} {c : Code} {G : GG} {ρ : Nat → Nat} {h0 hE hB : PH} {Q : State → Prop} {x0 : Nat} (C : Cx G "PairSymbolsModel" cX10_laysRelations 2 none "laysRelations" p s m args meth c) {x1 : Int32} {h : PH} {H : Heap} {locs : List Loc} {cells slots : Nat} {ls : Array Slot} {r : (Int32) ⊕ (Unit)} (hf : (fX10_laysRelations_b25 x0 x1).1 h = some (r, hB)) (hX : Ext hB hE) (hW : Wd G ρ h0.length (sl h0) s.heap h H locs cells slots) (hl : lv_has ls 2 [(0, .ref (ρ x0)), (1, .int x1)]) (kc : ∀ y : Int32, r = .inl y → ∀ (H : Heap) (locs : List Loc) (c1 s1 : Nat) (ls : Array Slot), Wd G ρ h0.length (sl h0) s.heap hB H locs c1 s1 → lv_has ls 2 [(0, .ref (ρ x0)), (1, .int y)] → W p l e (RM 6 164 h0 hE) s m args below meth c H locs c1 s1 Q (F0 m 25 ls [])) (ke : ∀ z : Unit, r = .inr z → ∀ (H : Heap) (locs : List Loc) (c1 s1 : Nat) (ls : Array Slot), Wd G ρ h0.length (sl h0) s.heap hB H locs c1 s1 → lv_has ls 2 [] → W p l e (RM 6 164 h0 hE) s m args below meth c H locs c1 s1 Q (F0 m 96 ls [])) : W p l e (RM 6 164 h0 hE) s m args below meth c H locs cells slots Q (F0 m 25 ls []) := by
  have hx := C.1
  have hb := C.2.1
  unfold fX10_laysRelations_b25 at hf
  refine lv_iload_n hx hb dX10_laysRelations_25 rfl (lv_at hl 1 rfl) ?_
  refine lv_aload_n hx hb dX10_laysRelations_26 rfl (lv_at hl 0 rfl) ?_
  obtain ⟨v6, e6, hf⟩ := pb_rd (rd_gI _ _ _) hf
  refine r_gI C hW e6 flX10_156 rfl dX10_laysRelations_27 ?_
  refine lv_icmp_ge (tgt := 96) hx hb dX10_laysRelations_30 (by decide) (fun c7 => ?_) (fun c7 => ?_)
  · rw [if_pos c7] at hf
    obtain ⟨rfl, rfl⟩ := pp_some hf
    exact ke _ rfl _ _ _ _ _ hW (lv_sub hl [] rfl)
  · rw [if_neg c7] at hf
    refine lv_aload_n hx hb dX10_laysRelations_33 rfl (lv_at hl 0 rfl) ?_
    obtain ⟨_, h8, e8, hf⟩ := pb_some hf
    obtain ⟨_, _, t9⟩ := tgX10_emptiesRow e8
    refine r_callv hW (pext e8) (run_V (b := x0) (As := []) (rest := []) C hW (metX10_emptiesRow l G ρ e8) ⟨rfl, rfl⟩ kcX10_emptiesRow (tq q_891 rfl) kiX10_emptiesRow ksX10_emptiesRow knX10_emptiesRow kdX10_emptiesRow t9 rfl rfl ⟨Nat.le_of_ble_eq_true rfl, Nat.le_of_ble_eq_true rfl⟩ hl.1 (Nat.le_of_ble_eq_true rfl) (room_of hW (pext e8) ((pext hf).tr hX)) dX10_laysRelations_34 rfl) (fun H locs c1 s1 hW => ?_)
    refine lv_aload_n hx hb dX10_laysRelations_37 rfl (lv_at hl 0 rfl) ?_
    refine lv_iload_n hx hb dX10_laysRelations_38 rfl (lv_at hl 1 rfl) ?_
    obtain ⟨_, h10, e10, hf⟩ := pb_some hf
    obtain ⟨_, _, t11⟩ := tgX10_addsOne e10
    refine r_callv hW (pext e10) (run_V (b := x0) (As := [.int x1]) (rest := []) C hW (metX10_addsOne l G ρ e10) ⟨rfl, rfl⟩ kcX10_addsOne (tq q_895 rfl) kiX10_addsOne ksX10_addsOne knX10_addsOne kdX10_addsOne t11 rfl rfl ⟨Nat.le_of_ble_eq_true rfl, Nat.le_of_ble_eq_true rfl⟩ hl.1 (Nat.le_of_ble_eq_true rfl) (room_of hW (pext e10) ((pext hf).tr hX)) dX10_laysRelations_39 rfl) (fun H locs c1 s1 hW => ?_)
    refine lv_aload_n hx hb dX10_laysRelations_42 rfl (lv_at hl 0 rfl) ?_
    refine lv_aload_n hx hb dX10_laysRelations_43 rfl (lv_at hl 0 rfl) ?_
    refine lv_iload_n hx hb dX10_laysRelations_44 rfl (lv_at hl 1 rfl) ?_
    obtain ⟨v12, h12, e12, hf⟩ := pb_some hf
    obtain ⟨_, _, t13⟩ := tgX10_s e12
    refine r_calli hW (pext e12) (run_V (b := x0) (As := [.int x1]) (rest := [.ref (ρ x0)]) C hW (metX10_s l G ρ e12) ⟨rfl, rfl⟩ kcX10_s (tq q_907 rfl) kiX10_s ksX10_s knX10_s kdX10_s t13 rfl rfl ⟨Nat.le_of_ble_eq_true rfl, Nat.le_of_ble_eq_true rfl⟩ hl.1 (Nat.le_of_ble_eq_true rfl) (room_of hW (pext e12) ((pext hf).tr hX)) dX10_laysRelations_45 rfl) (fun H locs c1 s1 hW => ?_)
    obtain ⟨_, h14, e14, hf⟩ := pb_some hf
    obtain ⟨_, _, t15⟩ := tgX10_addsOne e14
    refine r_callv hW (pext e14) (run_V (b := x0) (As := [.int v12]) (rest := []) C hW (metX10_addsOne l G ρ e14) ⟨rfl, rfl⟩ kcX10_addsOne (tq q_895 rfl) kiX10_addsOne ksX10_addsOne knX10_addsOne kdX10_addsOne t15 rfl rfl ⟨Nat.le_of_ble_eq_true rfl, Nat.le_of_ble_eq_true rfl⟩ hl.1 (Nat.le_of_ble_eq_true rfl) (room_of hW (pext e14) ((pext hf).tr hX)) dX10_laysRelations_48 rfl) (fun H locs c1 s1 hW => ?_)
    refine lv_aload_n hx hb dX10_laysRelations_51 rfl (lv_at hl 0 rfl) ?_
    obtain ⟨_, h16, e16, hf⟩ := pb_some hf
    obtain ⟨_, _, t17⟩ := tgX10_relates e16
    refine r_callv hW (pext e16) (run_V (b := x0) (As := []) (rest := []) C hW (metX10_relates l G ρ e16) ⟨rfl, rfl⟩ kcX10_relates (tq q_911 rfl) kiX10_relates ksX10_relates knX10_relates kdX10_relates t17 rfl rfl ⟨Nat.le_of_ble_eq_true rfl, Nat.le_of_ble_eq_true rfl⟩ hl.1 (Nat.le_of_ble_eq_true rfl) (room_of hW (pext e16) ((pext hf).tr hX)) dX10_laysRelations_52 rfl) (fun H locs c1 s1 hW => ?_)
    refine lv_aload_n hx hb dX10_laysRelations_55 rfl (lv_at hl 0 rfl) ?_
    obtain ⟨_, h18, e18, hf⟩ := pb_some hf
    obtain ⟨_, _, t19⟩ := tgX10_emptiesRow e18
    refine r_callv hW (pext e18) (run_V (b := x0) (As := []) (rest := []) C hW (metX10_emptiesRow l G ρ e18) ⟨rfl, rfl⟩ kcX10_emptiesRow (tq q_891 rfl) kiX10_emptiesRow ksX10_emptiesRow knX10_emptiesRow kdX10_emptiesRow t19 rfl rfl ⟨Nat.le_of_ble_eq_true rfl, Nat.le_of_ble_eq_true rfl⟩ hl.1 (Nat.le_of_ble_eq_true rfl) (room_of hW (pext e18) ((pext hf).tr hX)) dX10_laysRelations_56 rfl) (fun H locs c1 s1 hW => ?_)
    refine lv_aload_n hx hb dX10_laysRelations_59 rfl (lv_at hl 0 rfl) ?_
    refine lv_iload_n hx hb dX10_laysRelations_60 rfl (lv_at hl 1 rfl) ?_
    obtain ⟨_, h20, e20, hf⟩ := pb_some hf
    obtain ⟨_, _, t21⟩ := tgX10_addsOne e20
    refine r_callv hW (pext e20) (run_V (b := x0) (As := [.int x1]) (rest := []) C hW (metX10_addsOne l G ρ e20) ⟨rfl, rfl⟩ kcX10_addsOne (tq q_895 rfl) kiX10_addsOne ksX10_addsOne knX10_addsOne kdX10_addsOne t21 rfl rfl ⟨Nat.le_of_ble_eq_true rfl, Nat.le_of_ble_eq_true rfl⟩ hl.1 (Nat.le_of_ble_eq_true rfl) (room_of hW (pext e20) ((pext hf).tr hX)) dX10_laysRelations_61 rfl) (fun H locs c1 s1 hW => ?_)
    refine lv_aload_n hx hb dX10_laysRelations_64 rfl (lv_at hl 0 rfl) ?_
    refine lv_aload_n hx hb dX10_laysRelations_65 rfl (lv_at hl 0 rfl) ?_
    refine lv_iload_n hx hb dX10_laysRelations_66 rfl (lv_at hl 1 rfl) ?_
    obtain ⟨v22, h22, e22, hf⟩ := pb_some hf
    obtain ⟨_, _, t23⟩ := tgX10_r e22
    refine r_calli hW (pext e22) (run_V (b := x0) (As := [.int x1]) (rest := [.ref (ρ x0)]) C hW (metX10_r l G ρ e22) ⟨rfl, rfl⟩ kcX10_r (tq q_923 rfl) kiX10_r ksX10_r knX10_r kdX10_r t23 rfl rfl ⟨Nat.le_of_ble_eq_true rfl, Nat.le_of_ble_eq_true rfl⟩ hl.1 (Nat.le_of_ble_eq_true rfl) (room_of hW (pext e22) ((pext hf).tr hX)) dX10_laysRelations_67 rfl) (fun H locs c1 s1 hW => ?_)
    obtain ⟨_, h24, e24, hf⟩ := pb_some hf
    obtain ⟨_, _, t25⟩ := tgX10_addsOne e24
    refine r_callv hW (pext e24) (run_V (b := x0) (As := [.int v22]) (rest := []) C hW (metX10_addsOne l G ρ e24) ⟨rfl, rfl⟩ kcX10_addsOne (tq q_895 rfl) kiX10_addsOne ksX10_addsOne knX10_addsOne kdX10_addsOne t25 rfl rfl ⟨Nat.le_of_ble_eq_true rfl, Nat.le_of_ble_eq_true rfl⟩ hl.1 (Nat.le_of_ble_eq_true rfl) (room_of hW (pext e24) ((pext hf).tr hX)) dX10_laysRelations_70 rfl) (fun H locs c1 s1 hW => ?_)
    refine lv_aload_n hx hb dX10_laysRelations_73 rfl (lv_at hl 0 rfl) ?_
    refine lv_aload_n hx hb dX10_laysRelations_74 rfl (lv_at hl 0 rfl) ?_
    refine lv_aload_n hx hb dX10_laysRelations_75 rfl (lv_at hl 0 rfl) ?_
    refine lv_iload_n hx hb dX10_laysRelations_76 rfl (lv_at hl 1 rfl) ?_
    obtain ⟨v26, h26, e26, hf⟩ := pb_some hf
    obtain ⟨_, _, t27⟩ := tgX10_r e26
    refine r_calli hW (pext e26) (run_V (b := x0) (As := [.int x1]) (rest := [.ref (ρ x0), .ref (ρ x0)]) C hW (metX10_r l G ρ e26) ⟨rfl, rfl⟩ kcX10_r (tq q_923 rfl) kiX10_r ksX10_r knX10_r kdX10_r t27 rfl rfl ⟨Nat.le_of_ble_eq_true rfl, Nat.le_of_ble_eq_true rfl⟩ hl.1 (Nat.le_of_ble_eq_true rfl) (room_of hW (pext e26) ((pext hf).tr hX)) dX10_laysRelations_77 rfl) (fun H locs c1 s1 hW => ?_)
    obtain ⟨v28, h28, e28, hf⟩ := pb_some hf
    obtain ⟨_, _, t29⟩ := tgX10_r e28
    refine r_calli hW (pext e28) (run_V (b := x0) (As := [.int v26]) (rest := [.ref (ρ x0)]) C hW (metX10_r l G ρ e28) ⟨rfl, rfl⟩ kcX10_r (tq q_923 rfl) kiX10_r ksX10_r knX10_r kdX10_r t29 rfl rfl ⟨Nat.le_of_ble_eq_true rfl, Nat.le_of_ble_eq_true rfl⟩ hl.1 (Nat.le_of_ble_eq_true rfl) (room_of hW (pext e28) ((pext hf).tr hX)) dX10_laysRelations_80 rfl) (fun H locs c1 s1 hW => ?_)
    obtain ⟨_, h30, e30, hf⟩ := pb_some hf
    obtain ⟨_, _, t31⟩ := tgX10_addsOne e30
    refine r_callv hW (pext e30) (run_V (b := x0) (As := [.int v28]) (rest := []) C hW (metX10_addsOne l G ρ e30) ⟨rfl, rfl⟩ kcX10_addsOne (tq q_895 rfl) kiX10_addsOne ksX10_addsOne knX10_addsOne kdX10_addsOne t31 rfl rfl ⟨Nat.le_of_ble_eq_true rfl, Nat.le_of_ble_eq_true rfl⟩ hl.1 (Nat.le_of_ble_eq_true rfl) (room_of hW (pext e30) ((pext hf).tr hX)) dX10_laysRelations_83 rfl) (fun H locs c1 s1 hW => ?_)
    refine lv_aload_n hx hb dX10_laysRelations_86 rfl (lv_at hl 0 rfl) ?_
    obtain ⟨_, h32, e32, hf⟩ := pb_some hf
    obtain ⟨_, _, t33⟩ := tgX10_relates e32
    refine r_callv hW (pext e32) (run_V (b := x0) (As := []) (rest := []) C hW (metX10_relates l G ρ e32) ⟨rfl, rfl⟩ kcX10_relates (tq q_911 rfl) kiX10_relates ksX10_relates knX10_relates kdX10_relates t33 rfl rfl ⟨Nat.le_of_ble_eq_true rfl, Nat.le_of_ble_eq_true rfl⟩ hl.1 (Nat.le_of_ble_eq_true rfl) (room_of hW (pext e32) ((pext hf).tr hX)) dX10_laysRelations_87 rfl) (fun H locs c1 s1 hW => ?_)
    refine lv_iinc (v := (x1 + 1)) (lv' := [(1, .int (x1 + 1)), (0, .ref (ρ x0))]) hx hb dX10_laysRelations_90 hl (k := 1) rfl rfl (by decide) rfl (fun ls hl => ?_)
    refine lv_goto (tgt := 25) hx hb dX10_laysRelations_93 (by decide) ?_
    obtain ⟨rfl, rfl⟩ := pp_some hf
    exact kc _ rfl _ _ _ _ _ hW (lv_sub hl [1, 0] rfl)
set_option maxHeartbeats 4000000 in
theorem wX10_laysRelations_L25 {p : Program} {l : Launch} {e : Env} {s : State} {m : MethodId} {args : Array Value} {below : List Frame} {meth : Method} {c : Code} {G : GG} {ρ : Nat → Nat} {h0 hE hB : PH} {Q : State → Prop} {x0 : Nat} (C : Cx G "PairSymbolsModel" cX10_laysRelations 2 none "laysRelations" p s m args meth c) {z : (Unit)} (n : Nat) : ∀ (x : Int32) {h : PH} {H : Heap} {locs : List Loc} {cells slots : Nat} {ls : Array Slot}, (plo (fX10_laysRelations_B25 x0) n x).1 h = some (z, hB) → Ext hB hE → Wd G ρ h0.length (sl h0) s.heap h H locs cells slots → lv_has ls 2 [(0, .ref (ρ x0)), (1, .int x)] → (ke : ∀ (H : Heap) (locs : List Loc) (c1 s1 : Nat) (ls : Array Slot), Wd G ρ h0.length (sl h0) s.heap hB H locs c1 s1 → lv_has ls 2 [] → W p l e (RM 6 164 h0 hE) s m args below meth c H locs c1 s1 Q (F0 m 96 ls [])) → W p l e (RM 6 164 h0 hE) s m args below meth c H locs cells slots Q (F0 m 25 ls []) := by
  induction n with
  | zero =>
    intro x h H locs cells slots ls hf
    rw [plo_0] at hf
    exact (pf_no hf).elim
  | succ n ih =>
    intro x h H locs cells slots ls hf hX hW hl ke
    rw [plo_s] at hf
    obtain ⟨r, h1, e1, hf⟩ := pb_some hf
    unfold fX10_laysRelations_B25 at e1
    rw [frI_eq] at e1
    refine wX10_laysRelations_B25 C e1 ((pext hf).tr hX) hW hl (fun y hr H locs c1 s1 ls hW hl => ?_) (fun y hr H locs c1 s1 ls hW hl => ?_)
    · subst hr
      exact ih y hf hX hW hl ke
    · subst hr
      obtain ⟨rfl, rfl⟩ := pp_some hf
      exact ke H locs c1 s1 ls hW hl
set_option maxHeartbeats 4000000 in
set_option maxRecDepth 100000 in
theorem metX10_laysRelations (l : Launch) (G : GG) (ρ : Nat → Nat) {z : Nat} {x0 : Nat} {h hE : PH} {v : Unit} (hf : (fX10_laysRelations x0).1 h = some (v, hE)) : Met l yX10_laysRelations (wsY yX10_laysRelations cX10_laysRelations 2 none) (RM 6 164 h hE) (va_Pc [.ref (ρ x0)] (PcB G ρ h z)) (QV G ρ hE h.length z) (DC h hE) (DS h hE) (Af ρ h.length z) := by
  refine met_start (by decide) (Nat.le_of_ble_eq_true rfl) ?_
  intro p e s m below meth c ls hz C hW hl
  subst hz
  have C : Cx G "PairSymbolsModel" cX10_laysRelations 2 none "laysRelations" p s m _ meth c := C
  have hx := C.1
  have hb := C.2.1
  have hX : Ext hE hE := Ext.rf hE
  have hl : lv_has ls 2 [(0, .ref (ρ x0))] := hl
  have hW : Wd G ρ h.length (sl h) s.heap h s.heap [] 0 0 := hW
  unfold fX10_laysRelations at hf
  obtain ⟨_, e0, hf⟩ := pb_rd (rd_chk _ _) hf
  refine lv_iconst (v := 0) hx hb dX10_laysRelations_0 (by decide) ?_
  refine lv_istore_n (lv' := [(1, .int (0 : Int32)), (0, .ref (ρ x0))]) hx hb dX10_laysRelations_1 rfl hl (by decide) rfl (fun ls hl => ?_)
  obtain ⟨z5, h5, e5, hf⟩ := pb_some hf
  refine wX10_laysRelations_L2 C fu _ e5 ((pext hf).tr hX) hW (lv_sub hl [1, 0] rfl) (fun H locs c1 s1 ls hW hl => ?_)
  refine lv_iconst (v := 0) hx hb dX10_laysRelations_23 (by decide) ?_
  refine lv_istore_n (lv' := [(1, .int (0 : Int32)), (0, .ref (ρ x0))]) hx hb dX10_laysRelations_24 rfl hl (by decide) rfl (fun ls hl => ?_)
  obtain ⟨z34, h34, e34, hf⟩ := pb_some hf
  refine wX10_laysRelations_L25 C fu _ e34 ((pext hf).tr hX) hW (lv_sub hl [1, 0] rfl) (fun H locs c1 s1 ls hW hl => ?_)
  obtain ⟨rfl, rfl⟩ := pp_some hf
  exact r_vret C hW dX10_laysRelations_96

theorem dX10_laysFree_0 : decode cX10_laysFree 0 = .ok (.aload_n 0, 1) := by decide +kernel
theorem dX10_laysFree_1 : decode cX10_laysFree 1 = .ok (.iconst 0, 1) := by decide +kernel
theorem dX10_laysFree_2 : decode cX10_laysFree 2 = .ok (.putfield 192, 3) := by decide +kernel
theorem dX10_laysFree_5 : decode cX10_laysFree 5 = .ok (.iconst 0, 1) := by decide +kernel
theorem dX10_laysFree_6 : decode cX10_laysFree 6 = .ok (.istore_n 1, 1) := by decide +kernel
theorem dX10_laysFree_7 : decode cX10_laysFree 7 = .ok (.iload_n 1, 1) := by decide +kernel
theorem dX10_laysFree_8 : decode cX10_laysFree 8 = .ok (.aload_n 0, 1) := by decide +kernel
theorem dX10_laysFree_9 : decode cX10_laysFree 9 = .ok (.getfield 156, 3) := by decide +kernel
theorem dX10_laysFree_12 : decode cX10_laysFree 12 = .ok (.if_icmp .ge 61, 3) := by decide +kernel
theorem dX10_laysFree_15 : decode cX10_laysFree 15 = .ok (.aload_n 0, 1) := by decide +kernel
theorem dX10_laysFree_16 : decode cX10_laysFree 16 = .ok (.getfield 35, 3) := by decide +kernel
theorem dX10_laysFree_19 : decode cX10_laysFree 19 = .ok (.iload_n 1, 1) := by decide +kernel
theorem dX10_laysFree_20 : decode cX10_laysFree 20 = .ok (.aload_n 0, 1) := by decide +kernel
theorem dX10_laysFree_21 : decode cX10_laysFree 21 = .ok (.getfield 41, 3) := by decide +kernel
theorem dX10_laysFree_24 : decode cX10_laysFree 24 = .ok (.iload_n 1, 1) := by decide +kernel
theorem dX10_laysFree_25 : decode cX10_laysFree 25 = .ok (.baload, 1) := by decide +kernel
theorem dX10_laysFree_26 : decode cX10_laysFree 26 = .ok (.ifCond .eq 7, 3) := by decide +kernel
theorem dX10_laysFree_29 : decode cX10_laysFree 29 = .ok (.iconst (-1), 1) := by decide +kernel
theorem dX10_laysFree_30 : decode cX10_laysFree 30 = .ok (.goto 7, 3) := by decide +kernel
theorem dX10_laysFree_33 : decode cX10_laysFree 33 = .ok (.aload_n 0, 1) := by decide +kernel
theorem dX10_laysFree_34 : decode cX10_laysFree 34 = .ok (.getfield 192, 3) := by decide +kernel
theorem dX10_laysFree_37 : decode cX10_laysFree 37 = .ok (.iastore, 1) := by decide +kernel
theorem dX10_laysFree_38 : decode cX10_laysFree 38 = .ok (.aload_n 0, 1) := by decide +kernel
theorem dX10_laysFree_39 : decode cX10_laysFree 39 = .ok (.getfield 41, 3) := by decide +kernel
theorem dX10_laysFree_42 : decode cX10_laysFree 42 = .ok (.iload_n 1, 1) := by decide +kernel
theorem dX10_laysFree_43 : decode cX10_laysFree 43 = .ok (.baload, 1) := by decide +kernel
theorem dX10_laysFree_44 : decode cX10_laysFree 44 = .ok (.ifCond .ne 23, 3) := by decide +kernel
theorem dX10_laysFree_47 : decode cX10_laysFree 47 = .ok (.aload_n 0, 1) := by decide +kernel
theorem dX10_laysFree_48 : decode cX10_laysFree 48 = .ok (.getfield 38, 3) := by decide +kernel
theorem dX10_laysFree_51 : decode cX10_laysFree 51 = .ok (.aload_n 0, 1) := by decide +kernel
theorem dX10_laysFree_52 : decode cX10_laysFree 52 = .ok (.getfield 192, 3) := by decide +kernel
theorem dX10_laysFree_55 : decode cX10_laysFree 55 = .ok (.iload_n 1, 1) := by decide +kernel
theorem dX10_laysFree_56 : decode cX10_laysFree 56 = .ok (.iastore, 1) := by decide +kernel
theorem dX10_laysFree_57 : decode cX10_laysFree 57 = .ok (.aload_n 0, 1) := by decide +kernel
theorem dX10_laysFree_58 : decode cX10_laysFree 58 = .ok (.dup, 1) := by decide +kernel
theorem dX10_laysFree_59 : decode cX10_laysFree 59 = .ok (.getfield 192, 3) := by decide +kernel
theorem dX10_laysFree_62 : decode cX10_laysFree 62 = .ok (.iconst 1, 1) := by decide +kernel
theorem dX10_laysFree_63 : decode cX10_laysFree 63 = .ok (.iadd, 1) := by decide +kernel
theorem dX10_laysFree_64 : decode cX10_laysFree 64 = .ok (.putfield 192, 3) := by decide +kernel
theorem dX10_laysFree_67 : decode cX10_laysFree 67 = .ok (.iinc 1 1, 3) := by decide +kernel
theorem dX10_laysFree_70 : decode cX10_laysFree 70 = .ok (.goto (-63), 3) := by decide +kernel
theorem dX10_laysFree_73 : decode cX10_laysFree 73 = .ok (.iconst 0, 1) := by decide +kernel
theorem dX10_laysFree_74 : decode cX10_laysFree 74 = .ok (.istore_n 1, 1) := by decide +kernel
theorem dX10_laysFree_75 : decode cX10_laysFree 75 = .ok (.iload_n 1, 1) := by decide +kernel
theorem dX10_laysFree_76 : decode cX10_laysFree 76 = .ok (.aload_n 0, 1) := by decide +kernel
theorem dX10_laysFree_77 : decode cX10_laysFree 77 = .ok (.getfield 156, 3) := by decide +kernel
theorem dX10_laysFree_80 : decode cX10_laysFree 80 = .ok (.if_icmp .ge 82, 3) := by decide +kernel
theorem dX10_laysFree_83 : decode cX10_laysFree 83 = .ok (.aload_n 0, 1) := by decide +kernel
theorem dX10_laysFree_84 : decode cX10_laysFree 84 = .ok (.invokevirtual 176, 3) := by decide +kernel
theorem dX10_laysFree_87 : decode cX10_laysFree 87 = .ok (.aload_n 0, 1) := by decide +kernel
theorem dX10_laysFree_88 : decode cX10_laysFree 88 = .ok (.iload_n 1, 1) := by decide +kernel
theorem dX10_laysFree_89 : decode cX10_laysFree 89 = .ok (.invokevirtual 179, 3) := by decide +kernel
theorem dX10_laysFree_92 : decode cX10_laysFree 92 = .ok (.aload_n 0, 1) := by decide +kernel
theorem dX10_laysFree_93 : decode cX10_laysFree 93 = .ok (.invokevirtual 173, 3) := by decide +kernel
theorem dX10_laysFree_96 : decode cX10_laysFree 96 = .ok (.iconst 0, 1) := by decide +kernel
theorem dX10_laysFree_97 : decode cX10_laysFree 97 = .ok (.istore_n 2, 1) := by decide +kernel
theorem dX10_laysFree_98 : decode cX10_laysFree 98 = .ok (.iload_n 2, 1) := by decide +kernel
theorem dX10_laysFree_99 : decode cX10_laysFree 99 = .ok (.aload_n 0, 1) := by decide +kernel
theorem dX10_laysFree_100 : decode cX10_laysFree 100 = .ok (.getfield 192, 3) := by decide +kernel
theorem dX10_laysFree_103 : decode cX10_laysFree 103 = .ok (.if_icmp .ge 53, 3) := by decide +kernel
theorem dX10_laysFree_106 : decode cX10_laysFree 106 = .ok (.aload_n 0, 1) := by decide +kernel
theorem dX10_laysFree_107 : decode cX10_laysFree 107 = .ok (.getfield 51, 3) := by decide +kernel
theorem dX10_laysFree_110 : decode cX10_laysFree 110 = .ok (.bipush 16, 2) := by decide +kernel
theorem dX10_laysFree_112 : decode cX10_laysFree 112 = .ok (.iload_n 1, 1) := by decide +kernel
theorem dX10_laysFree_113 : decode cX10_laysFree 113 = .ok (.imul, 1) := by decide +kernel
theorem dX10_laysFree_114 : decode cX10_laysFree 114 = .ok (.iload_n 2, 1) := by decide +kernel
theorem dX10_laysFree_115 : decode cX10_laysFree 115 = .ok (.iadd, 1) := by decide +kernel
theorem dX10_laysFree_116 : decode cX10_laysFree 116 = .ok (.aload_n 0, 1) := by decide +kernel
theorem dX10_laysFree_117 : decode cX10_laysFree 117 = .ok (.getfield 57, 3) := by decide +kernel
theorem dX10_laysFree_120 : decode cX10_laysFree 120 = .ok (.aload_n 0, 1) := by decide +kernel
theorem dX10_laysFree_121 : decode cX10_laysFree 121 = .ok (.getfield 38, 3) := by decide +kernel
theorem dX10_laysFree_124 : decode cX10_laysFree 124 = .ok (.iload_n 2, 1) := by decide +kernel
theorem dX10_laysFree_125 : decode cX10_laysFree 125 = .ok (.iaload, 1) := by decide +kernel
theorem dX10_laysFree_126 : decode cX10_laysFree 126 = .ok (.laload, 1) := by decide +kernel
theorem dX10_laysFree_127 : decode cX10_laysFree 127 = .ok (.lastore, 1) := by decide +kernel
theorem dX10_laysFree_128 : decode cX10_laysFree 128 = .ok (.aload_n 0, 1) := by decide +kernel
theorem dX10_laysFree_129 : decode cX10_laysFree 129 = .ok (.getfield 54, 3) := by decide +kernel
theorem dX10_laysFree_132 : decode cX10_laysFree 132 = .ok (.bipush 16, 2) := by decide +kernel
theorem dX10_laysFree_134 : decode cX10_laysFree 134 = .ok (.iload_n 1, 1) := by decide +kernel
theorem dX10_laysFree_135 : decode cX10_laysFree 135 = .ok (.imul, 1) := by decide +kernel
theorem dX10_laysFree_136 : decode cX10_laysFree 136 = .ok (.iload_n 2, 1) := by decide +kernel
theorem dX10_laysFree_137 : decode cX10_laysFree 137 = .ok (.iadd, 1) := by decide +kernel
theorem dX10_laysFree_138 : decode cX10_laysFree 138 = .ok (.aload_n 0, 1) := by decide +kernel
theorem dX10_laysFree_139 : decode cX10_laysFree 139 = .ok (.getfield 60, 3) := by decide +kernel
theorem dX10_laysFree_142 : decode cX10_laysFree 142 = .ok (.aload_n 0, 1) := by decide +kernel
theorem dX10_laysFree_143 : decode cX10_laysFree 143 = .ok (.getfield 38, 3) := by decide +kernel
theorem dX10_laysFree_146 : decode cX10_laysFree 146 = .ok (.iload_n 2, 1) := by decide +kernel
theorem dX10_laysFree_147 : decode cX10_laysFree 147 = .ok (.iaload, 1) := by decide +kernel
theorem dX10_laysFree_148 : decode cX10_laysFree 148 = .ok (.laload, 1) := by decide +kernel
theorem dX10_laysFree_149 : decode cX10_laysFree 149 = .ok (.lastore, 1) := by decide +kernel
theorem dX10_laysFree_150 : decode cX10_laysFree 150 = .ok (.iinc 2 1, 3) := by decide +kernel
theorem dX10_laysFree_153 : decode cX10_laysFree 153 = .ok (.goto (-55), 3) := by decide +kernel
theorem dX10_laysFree_156 : decode cX10_laysFree 156 = .ok (.iinc 1 1, 3) := by decide +kernel
theorem dX10_laysFree_159 : decode cX10_laysFree 159 = .ok (.goto (-84), 3) := by decide +kernel
theorem dX10_laysFree_162 : decode cX10_laysFree 162 = .ok (.return_, 1) := by decide +kernel
theorem kcX10_laysFree : Cond.code yX10_laysFree cX10_laysFree 3 none ∈ tb := tq q_930 rfl
theorem knX10_laysFree : Cond.initialized yX10_laysFree.cls ∈ tb := (tq q_10 rfl)
theorem kdX10_laysFree : yX10_laysFree.cls ≠ "java/lang/invoke/MethodHandle" ∧ yX10_laysFree.cls ≠ "java/lang/invoke/VarHandle" ∧ (parseMethodDescriptor yX10_laysFree.desc).map (fun d => d.parameters.length) = some 0 := ⟨by decide +kernel, by decide +kernel, by decide +kernel⟩
theorem kiX10_laysFree : Cond.instanceMethod yX10_laysFree ∈ tb := (tq q_929 rfl)
theorem ksX10_laysFree : Cond.selects yX10_laysFree.cls yX10_laysFree yX10_laysFree ∈ tb := (tq z_45 rfl)
theorem tgX10_laysFree {x0 : Nat} {h : PH} {r : Unit × PH} (hf : (fX10_laysFree x0).1 h = some r) : ∃ n x, nth h x0 = some (9, n, x) := by
  obtain ⟨_, _, e, _⟩ := pb_some hf
  exact (chk_some e).2
set_option maxHeartbeats 4000000 in
set_option maxRecDepth 100000 in
theorem wX10_laysFree_B7 {p : Program} {l : Launch} {e : Env} {s : State} {m : MethodId} {args : Array Value} {below : List Frame} {meth : Method} {c : Code} {G : GG} {ρ : Nat → Nat} {h0 hE hB : PH} {Q : State → Prop} {x0 : Nat} (C : Cx G "PairSymbolsModel" cX10_laysFree 3 none "laysFree" p s m args meth c) {x1 : Int32} {h : PH} {H : Heap} {locs : List Loc} {cells slots : Nat} {ls : Array Slot} {r : (Int32) ⊕ (Unit)} (hf : (fX10_laysFree_b7 x0 x1).1 h = some (r, hB)) (hX : Ext hB hE) (hW : Wd G ρ h0.length (sl h0) s.heap h H locs cells slots) (hl : lv_has ls 3 [(0, .ref (ρ x0)), (1, .int x1)]) (kc : ∀ y : Int32, r = .inl y → ∀ (H : Heap) (locs : List Loc) (c1 s1 : Nat) (ls : Array Slot), Wd G ρ h0.length (sl h0) s.heap hB H locs c1 s1 → lv_has ls 3 [(0, .ref (ρ x0)), (1, .int y)] → W p l e (RM 5 142 h0 hE) s m args below meth c H locs c1 s1 Q (F0 m 7 ls [])) (ke : ∀ z : Unit, r = .inr z → ∀ (H : Heap) (locs : List Loc) (c1 s1 : Nat) (ls : Array Slot), Wd G ρ h0.length (sl h0) s.heap hB H locs c1 s1 → lv_has ls 3 [(0, .ref (ρ x0))] → W p l e (RM 5 142 h0 hE) s m args below meth c H locs c1 s1 Q (F0 m 73 ls [])) : W p l e (RM 5 142 h0 hE) s m args below meth c H locs cells slots Q (F0 m 7 ls []) := by
  have hx := C.1
  have hb := C.2.1
  unfold fX10_laysFree_b7 at hf
  refine lv_iload_n hx hb dX10_laysFree_7 rfl (lv_at hl 1 rfl) ?_
  refine lv_aload_n hx hb dX10_laysFree_8 rfl (lv_at hl 0 rfl) ?_
  obtain ⟨v2, e2, hf⟩ := pb_rd (rd_gI _ _ _) hf
  refine r_gI C hW e2 flX10_156 rfl dX10_laysFree_9 ?_
  refine lv_icmp_ge (tgt := 73) hx hb dX10_laysFree_12 (by decide) (fun c3 => ?_) (fun c3 => ?_)
  · rw [if_pos c3] at hf
    obtain ⟨rfl, rfl⟩ := pp_some hf
    exact ke _ rfl _ _ _ _ _ hW (lv_sub hl [0] rfl)
  · rw [if_neg c3] at hf
    refine lv_aload_n hx hb dX10_laysFree_15 rfl (lv_at hl 0 rfl) ?_
    obtain ⟨v4, e4, hf⟩ := pb_rd (rd_gA _ _ _) hf
    refine r_gA C hW e4 flX10_35 rfl dX10_laysFree_16 ?_
    refine lv_iload_n hx hb dX10_laysFree_19 rfl (lv_at hl 1 rfl) ?_
    refine lv_aload_n hx hb dX10_laysFree_20 rfl (lv_at hl 0 rfl) ?_
    obtain ⟨v5, e5, hf⟩ := pb_rd (rd_gA _ _ _) hf
    refine r_gA C hW e5 flX10_41 rfl dX10_laysFree_21 ?_
    refine lv_iload_n hx hb dX10_laysFree_24 rfl (lv_at hl 1 rfl) ?_
    obtain ⟨v6, e6, hf⟩ := pb_rd (rd_lI _ _ _) hf
    refine r_zald C hW e6 dX10_laysFree_25 ?_
    refine lv_if_eq (tgt := 33) hx hb dX10_laysFree_26 (by decide) (fun c7 => ?_) (fun c7 => ?_)
    · rw [if_pos c7] at hf
      refine lv_aload_n hx hb dX10_laysFree_33 rfl (lv_at hl 0 rfl) ?_
      obtain ⟨v8, e8, hf⟩ := pb_rd (rd_gI _ _ _) hf
      refine r_gI C hW e8 flX10_192 rfl dX10_laysFree_34 ?_
      obtain ⟨_, h9, e9, hf⟩ := pb_some hf
      refine r_iast C hW e9 dX10_laysFree_37 (fun H locs hW => ?_)
      refine lv_aload_n hx hb dX10_laysFree_38 rfl (lv_at hl 0 rfl) ?_
      obtain ⟨v10, e10, hf⟩ := pb_rd (rd_gA _ _ _) hf
      refine r_gA C hW e10 flX10_41 rfl dX10_laysFree_39 ?_
      refine lv_iload_n hx hb dX10_laysFree_42 rfl (lv_at hl 1 rfl) ?_
      obtain ⟨v11, e11, hf⟩ := pb_rd (rd_lI _ _ _) hf
      refine r_zald C hW e11 dX10_laysFree_43 ?_
      refine lv_if_ne (tgt := 67) hx hb dX10_laysFree_44 (by decide) (fun c12 => ?_) (fun c12 => ?_)
      · rw [if_neg c12] at hf
        refine lv_iinc (v := (x1 + 1)) (lv' := [(1, .int (x1 + 1)), (0, .ref (ρ x0))]) hx hb dX10_laysFree_67 hl (k := 1) rfl rfl (by decide) rfl (fun ls hl => ?_)
        refine lv_goto (tgt := 7) hx hb dX10_laysFree_70 (by decide) ?_
        obtain ⟨rfl, rfl⟩ := pp_some hf
        exact kc _ rfl _ _ _ _ _ hW (lv_sub hl [1, 0] rfl)
      · rw [if_pos c12] at hf
        refine lv_aload_n hx hb dX10_laysFree_47 rfl (lv_at hl 0 rfl) ?_
        obtain ⟨v13, e13, hf⟩ := pb_rd (rd_gA _ _ _) hf
        refine r_gA C hW e13 flX10_38 rfl dX10_laysFree_48 ?_
        refine lv_aload_n hx hb dX10_laysFree_51 rfl (lv_at hl 0 rfl) ?_
        obtain ⟨v14, e14, hf⟩ := pb_rd (rd_gI _ _ _) hf
        refine r_gI C hW e14 flX10_192 rfl dX10_laysFree_52 ?_
        refine lv_iload_n hx hb dX10_laysFree_55 rfl (lv_at hl 1 rfl) ?_
        obtain ⟨_, h15, e15, hf⟩ := pb_some hf
        refine r_iast C hW e15 dX10_laysFree_56 (fun H locs hW => ?_)
        refine lv_aload_n hx hb dX10_laysFree_57 rfl (lv_at hl 0 rfl) ?_
        refine lv_dup hx hb dX10_laysFree_58 rfl ?_
        obtain ⟨v16, e16, hf⟩ := pb_rd (rd_gI _ _ _) hf
        refine r_gI C hW e16 flX10_192 rfl dX10_laysFree_59 ?_
        refine lv_iconst (v := 1) hx hb dX10_laysFree_62 (by decide) ?_
        refine lv_iadd hx hb dX10_laysFree_63 ?_
        obtain ⟨_, h17, e17, hf⟩ := pb_some hf
        refine r_sI C hW e17 flX10_192 (Or.inl rfl) rfl dX10_laysFree_64 (fun H locs hW => ?_)
        refine lv_iinc (v := (x1 + 1)) (lv' := [(1, .int (x1 + 1)), (0, .ref (ρ x0))]) hx hb dX10_laysFree_67 hl (k := 1) rfl rfl (by decide) rfl (fun ls hl => ?_)
        refine lv_goto (tgt := 7) hx hb dX10_laysFree_70 (by decide) ?_
        obtain ⟨rfl, rfl⟩ := pp_some hf
        exact kc _ rfl _ _ _ _ _ hW (lv_sub hl [1, 0] rfl)
    · rw [if_neg c7] at hf
      refine lv_iconst (v := -1) hx hb dX10_laysFree_29 (by decide) ?_
      refine lv_goto (tgt := 37) hx hb dX10_laysFree_30 (by decide) ?_
      obtain ⟨_, h18, e18, hf⟩ := pb_some hf
      refine r_iast C hW e18 dX10_laysFree_37 (fun H locs hW => ?_)
      refine lv_aload_n hx hb dX10_laysFree_38 rfl (lv_at hl 0 rfl) ?_
      obtain ⟨v19, e19, hf⟩ := pb_rd (rd_gA _ _ _) hf
      refine r_gA C hW e19 flX10_41 rfl dX10_laysFree_39 ?_
      refine lv_iload_n hx hb dX10_laysFree_42 rfl (lv_at hl 1 rfl) ?_
      obtain ⟨v20, e20, hf⟩ := pb_rd (rd_lI _ _ _) hf
      refine r_zald C hW e20 dX10_laysFree_43 ?_
      refine lv_if_ne (tgt := 67) hx hb dX10_laysFree_44 (by decide) (fun c21 => ?_) (fun c21 => ?_)
      · rw [if_neg c21] at hf
        refine lv_iinc (v := (x1 + 1)) (lv' := [(1, .int (x1 + 1)), (0, .ref (ρ x0))]) hx hb dX10_laysFree_67 hl (k := 1) rfl rfl (by decide) rfl (fun ls hl => ?_)
        refine lv_goto (tgt := 7) hx hb dX10_laysFree_70 (by decide) ?_
        obtain ⟨rfl, rfl⟩ := pp_some hf
        exact kc _ rfl _ _ _ _ _ hW (lv_sub hl [1, 0] rfl)
      · rw [if_pos c21] at hf
        refine lv_aload_n hx hb dX10_laysFree_47 rfl (lv_at hl 0 rfl) ?_
        obtain ⟨v22, e22, hf⟩ := pb_rd (rd_gA _ _ _) hf
        refine r_gA C hW e22 flX10_38 rfl dX10_laysFree_48 ?_
        refine lv_aload_n hx hb dX10_laysFree_51 rfl (lv_at hl 0 rfl) ?_
        obtain ⟨v23, e23, hf⟩ := pb_rd (rd_gI _ _ _) hf
        refine r_gI C hW e23 flX10_192 rfl dX10_laysFree_52 ?_
        refine lv_iload_n hx hb dX10_laysFree_55 rfl (lv_at hl 1 rfl) ?_
        obtain ⟨_, h24, e24, hf⟩ := pb_some hf
        refine r_iast C hW e24 dX10_laysFree_56 (fun H locs hW => ?_)
        refine lv_aload_n hx hb dX10_laysFree_57 rfl (lv_at hl 0 rfl) ?_
        refine lv_dup hx hb dX10_laysFree_58 rfl ?_
        obtain ⟨v25, e25, hf⟩ := pb_rd (rd_gI _ _ _) hf
        refine r_gI C hW e25 flX10_192 rfl dX10_laysFree_59 ?_
        refine lv_iconst (v := 1) hx hb dX10_laysFree_62 (by decide) ?_
        refine lv_iadd hx hb dX10_laysFree_63 ?_
        obtain ⟨_, h26, e26, hf⟩ := pb_some hf
        refine r_sI C hW e26 flX10_192 (Or.inl rfl) rfl dX10_laysFree_64 (fun H locs hW => ?_)
        refine lv_iinc (v := (x1 + 1)) (lv' := [(1, .int (x1 + 1)), (0, .ref (ρ x0))]) hx hb dX10_laysFree_67 hl (k := 1) rfl rfl (by decide) rfl (fun ls hl => ?_)
        refine lv_goto (tgt := 7) hx hb dX10_laysFree_70 (by decide) ?_
        obtain ⟨rfl, rfl⟩ := pp_some hf
        exact kc _ rfl _ _ _ _ _ hW (lv_sub hl [1, 0] rfl)
set_option maxHeartbeats 4000000 in
theorem wX10_laysFree_L7 {p : Program} {l : Launch} {e : Env} {s : State} {m : MethodId} {args : Array Value} {below : List Frame} {meth : Method} {c : Code} {G : GG} {ρ : Nat → Nat} {h0 hE hB : PH} {Q : State → Prop} {x0 : Nat} (C : Cx G "PairSymbolsModel" cX10_laysFree 3 none "laysFree" p s m args meth c) {z : (Unit)} (n : Nat) : ∀ (x : Int32) {h : PH} {H : Heap} {locs : List Loc} {cells slots : Nat} {ls : Array Slot}, (plo (fX10_laysFree_B7 x0) n x).1 h = some (z, hB) → Ext hB hE → Wd G ρ h0.length (sl h0) s.heap h H locs cells slots → lv_has ls 3 [(0, .ref (ρ x0)), (1, .int x)] → (ke : ∀ (H : Heap) (locs : List Loc) (c1 s1 : Nat) (ls : Array Slot), Wd G ρ h0.length (sl h0) s.heap hB H locs c1 s1 → lv_has ls 3 [(0, .ref (ρ x0))] → W p l e (RM 5 142 h0 hE) s m args below meth c H locs c1 s1 Q (F0 m 73 ls [])) → W p l e (RM 5 142 h0 hE) s m args below meth c H locs cells slots Q (F0 m 7 ls []) := by
  induction n with
  | zero =>
    intro x h H locs cells slots ls hf
    rw [plo_0] at hf
    exact (pf_no hf).elim
  | succ n ih =>
    intro x h H locs cells slots ls hf hX hW hl ke
    rw [plo_s] at hf
    obtain ⟨r, h1, e1, hf⟩ := pb_some hf
    unfold fX10_laysFree_B7 at e1
    rw [frI_eq] at e1
    refine wX10_laysFree_B7 C e1 ((pext hf).tr hX) hW hl (fun y hr H locs c1 s1 ls hW hl => ?_) (fun y hr H locs c1 s1 ls hW hl => ?_)
    · subst hr
      exact ih y hf hX hW hl ke
    · subst hr
      obtain ⟨rfl, rfl⟩ := pp_some hf
      exact ke H locs c1 s1 ls hW hl
set_option maxHeartbeats 4000000 in
set_option maxRecDepth 100000 in
theorem wX10_laysFree_B98 {p : Program} {l : Launch} {e : Env} {s : State} {m : MethodId} {args : Array Value} {below : List Frame} {meth : Method} {c : Code} {G : GG} {ρ : Nat → Nat} {h0 hE hB : PH} {Q : State → Prop} {x0 : Nat} {x1 : Int32} (C : Cx G "PairSymbolsModel" cX10_laysFree 3 none "laysFree" p s m args meth c) {x2 : Int32} {h : PH} {H : Heap} {locs : List Loc} {cells slots : Nat} {ls : Array Slot} {r : (Int32) ⊕ (Unit)} (hf : (fX10_laysFree_b98 x0 x1 x2).1 h = some (r, hB)) (hX : Ext hB hE) (hW : Wd G ρ h0.length (sl h0) s.heap h H locs cells slots) (hl : lv_has ls 3 [(0, .ref (ρ x0)), (1, .int x1), (2, .int x2)]) (kc : ∀ y : Int32, r = .inl y → ∀ (H : Heap) (locs : List Loc) (c1 s1 : Nat) (ls : Array Slot), Wd G ρ h0.length (sl h0) s.heap hB H locs c1 s1 → lv_has ls 3 [(0, .ref (ρ x0)), (1, .int x1), (2, .int y)] → W p l e (RM 5 142 h0 hE) s m args below meth c H locs c1 s1 Q (F0 m 98 ls [])) (ke : ∀ z : Unit, r = .inr z → ∀ (H : Heap) (locs : List Loc) (c1 s1 : Nat) (ls : Array Slot), Wd G ρ h0.length (sl h0) s.heap hB H locs c1 s1 → lv_has ls 3 [(0, .ref (ρ x0)), (1, .int x1)] → W p l e (RM 5 142 h0 hE) s m args below meth c H locs c1 s1 Q (F0 m 156 ls [])) : W p l e (RM 5 142 h0 hE) s m args below meth c H locs cells slots Q (F0 m 98 ls []) := by
  have hx := C.1
  have hb := C.2.1
  unfold fX10_laysFree_b98 at hf
  refine lv_iload_n hx hb dX10_laysFree_98 rfl (lv_at hl 2 rfl) ?_
  refine lv_aload_n hx hb dX10_laysFree_99 rfl (lv_at hl 0 rfl) ?_
  obtain ⟨v36, e36, hf⟩ := pb_rd (rd_gI _ _ _) hf
  refine r_gI C hW e36 flX10_192 rfl dX10_laysFree_100 ?_
  refine lv_icmp_ge (tgt := 156) hx hb dX10_laysFree_103 (by decide) (fun c37 => ?_) (fun c37 => ?_)
  · rw [if_pos c37] at hf
    obtain ⟨rfl, rfl⟩ := pp_some hf
    exact ke _ rfl _ _ _ _ _ hW (lv_sub hl [0, 1] rfl)
  · rw [if_neg c37] at hf
    refine lv_aload_n hx hb dX10_laysFree_106 rfl (lv_at hl 0 rfl) ?_
    obtain ⟨v38, e38, hf⟩ := pb_rd (rd_gA _ _ _) hf
    refine r_gA C hW e38 flX10_51 rfl dX10_laysFree_107 ?_
    refine lv_bipush (v := 16) hx hb dX10_laysFree_110 (by decide) ?_
    refine lv_iload_n hx hb dX10_laysFree_112 rfl (lv_at hl 1 rfl) ?_
    refine lv_imul hx hb dX10_laysFree_113 ?_
    refine lv_iload_n hx hb dX10_laysFree_114 rfl (lv_at hl 2 rfl) ?_
    refine lv_iadd hx hb dX10_laysFree_115 ?_
    refine lv_aload_n hx hb dX10_laysFree_116 rfl (lv_at hl 0 rfl) ?_
    obtain ⟨v39, e39, hf⟩ := pb_rd (rd_gA _ _ _) hf
    refine r_gA C hW e39 flX10_57 rfl dX10_laysFree_117 ?_
    refine lv_aload_n hx hb dX10_laysFree_120 rfl (lv_at hl 0 rfl) ?_
    obtain ⟨v40, e40, hf⟩ := pb_rd (rd_gA _ _ _) hf
    refine r_gA C hW e40 flX10_38 rfl dX10_laysFree_121 ?_
    refine lv_iload_n hx hb dX10_laysFree_124 rfl (lv_at hl 2 rfl) ?_
    obtain ⟨v41, e41, hf⟩ := pb_rd (rd_lI _ _ _) hf
    refine r_iald C hW e41 dX10_laysFree_125 ?_
    obtain ⟨v42, e42, hf⟩ := pb_rd (rd_lJ _ _ _) hf
    refine r_lald C hW e42 dX10_laysFree_126 ?_
    obtain ⟨_, h43, e43, hf⟩ := pb_some hf
    refine r_last C hW e43 dX10_laysFree_127 (fun H locs hW => ?_)
    refine lv_aload_n hx hb dX10_laysFree_128 rfl (lv_at hl 0 rfl) ?_
    obtain ⟨v44, e44, hf⟩ := pb_rd (rd_gA _ _ _) hf
    refine r_gA C hW e44 flX10_54 rfl dX10_laysFree_129 ?_
    refine lv_bipush (v := 16) hx hb dX10_laysFree_132 (by decide) ?_
    refine lv_iload_n hx hb dX10_laysFree_134 rfl (lv_at hl 1 rfl) ?_
    refine lv_imul hx hb dX10_laysFree_135 ?_
    refine lv_iload_n hx hb dX10_laysFree_136 rfl (lv_at hl 2 rfl) ?_
    refine lv_iadd hx hb dX10_laysFree_137 ?_
    refine lv_aload_n hx hb dX10_laysFree_138 rfl (lv_at hl 0 rfl) ?_
    obtain ⟨v45, e45, hf⟩ := pb_rd (rd_gA _ _ _) hf
    refine r_gA C hW e45 flX10_60 rfl dX10_laysFree_139 ?_
    refine lv_aload_n hx hb dX10_laysFree_142 rfl (lv_at hl 0 rfl) ?_
    obtain ⟨v46, e46, hf⟩ := pb_rd (rd_gA _ _ _) hf
    refine r_gA C hW e46 flX10_38 rfl dX10_laysFree_143 ?_
    refine lv_iload_n hx hb dX10_laysFree_146 rfl (lv_at hl 2 rfl) ?_
    obtain ⟨v47, e47, hf⟩ := pb_rd (rd_lI _ _ _) hf
    refine r_iald C hW e47 dX10_laysFree_147 ?_
    obtain ⟨v48, e48, hf⟩ := pb_rd (rd_lJ _ _ _) hf
    refine r_lald C hW e48 dX10_laysFree_148 ?_
    obtain ⟨_, h49, e49, hf⟩ := pb_some hf
    refine r_last C hW e49 dX10_laysFree_149 (fun H locs hW => ?_)
    refine lv_iinc (v := (x2 + 1)) (lv' := [(2, .int (x2 + 1)), (0, .ref (ρ x0)), (1, .int x1)]) hx hb dX10_laysFree_150 hl (k := 2) rfl rfl (by decide) rfl (fun ls hl => ?_)
    refine lv_goto (tgt := 98) hx hb dX10_laysFree_153 (by decide) ?_
    obtain ⟨rfl, rfl⟩ := pp_some hf
    exact kc _ rfl _ _ _ _ _ hW (lv_sub hl [1, 2, 0] rfl)
set_option maxHeartbeats 4000000 in
theorem wX10_laysFree_L98 {p : Program} {l : Launch} {e : Env} {s : State} {m : MethodId} {args : Array Value} {below : List Frame} {meth : Method} {c : Code} {G : GG} {ρ : Nat → Nat} {h0 hE hB : PH} {Q : State → Prop} {x0 : Nat} {x1 : Int32} (C : Cx G "PairSymbolsModel" cX10_laysFree 3 none "laysFree" p s m args meth c) {z : (Unit)} (n : Nat) : ∀ (x : Int32) {h : PH} {H : Heap} {locs : List Loc} {cells slots : Nat} {ls : Array Slot}, (plo (fX10_laysFree_B98 x0 x1) n x).1 h = some (z, hB) → Ext hB hE → Wd G ρ h0.length (sl h0) s.heap h H locs cells slots → lv_has ls 3 [(0, .ref (ρ x0)), (1, .int x1), (2, .int x)] → (ke : ∀ (H : Heap) (locs : List Loc) (c1 s1 : Nat) (ls : Array Slot), Wd G ρ h0.length (sl h0) s.heap hB H locs c1 s1 → lv_has ls 3 [(0, .ref (ρ x0)), (1, .int x1)] → W p l e (RM 5 142 h0 hE) s m args below meth c H locs c1 s1 Q (F0 m 156 ls [])) → W p l e (RM 5 142 h0 hE) s m args below meth c H locs cells slots Q (F0 m 98 ls []) := by
  induction n with
  | zero =>
    intro x h H locs cells slots ls hf
    rw [plo_0] at hf
    exact (pf_no hf).elim
  | succ n ih =>
    intro x h H locs cells slots ls hf hX hW hl ke
    rw [plo_s] at hf
    obtain ⟨r, h1, e1, hf⟩ := pb_some hf
    unfold fX10_laysFree_B98 at e1
    rw [frI_eq] at e1
    refine wX10_laysFree_B98 C e1 ((pext hf).tr hX) hW hl (fun y hr H locs c1 s1 ls hW hl => ?_) (fun y hr H locs c1 s1 ls hW hl => ?_)
    · subst hr
      exact ih y hf hX hW hl ke
    · subst hr
      obtain ⟨rfl, rfl⟩ := pp_some hf
      exact ke H locs c1 s1 ls hW hl
set_option maxHeartbeats 4000000 in
set_option maxRecDepth 100000 in
theorem wX10_laysFree_B75 {p : Program} {l : Launch} {e : Env} {s : State} {m : MethodId} {args : Array Value} {below : List Frame} {meth : Method} {c : Code} {G : GG} {ρ : Nat → Nat} {h0 hE hB : PH} {Q : State → Prop} {x0 : Nat} (C : Cx G "PairSymbolsModel" cX10_laysFree 3 none "laysFree" p s m args meth c) {x1 : Int32} {h : PH} {H : Heap} {locs : List Loc} {cells slots : Nat} {ls : Array Slot} {r : (Int32) ⊕ (Unit)} (hf : (fX10_laysFree_b75 x0 x1).1 h = some (r, hB)) (hX : Ext hB hE) (hW : Wd G ρ h0.length (sl h0) s.heap h H locs cells slots) (hl : lv_has ls 3 [(0, .ref (ρ x0)), (1, .int x1)]) (kc : ∀ y : Int32, r = .inl y → ∀ (H : Heap) (locs : List Loc) (c1 s1 : Nat) (ls : Array Slot), Wd G ρ h0.length (sl h0) s.heap hB H locs c1 s1 → lv_has ls 3 [(0, .ref (ρ x0)), (1, .int y)] → W p l e (RM 5 142 h0 hE) s m args below meth c H locs c1 s1 Q (F0 m 75 ls [])) (ke : ∀ z : Unit, r = .inr z → ∀ (H : Heap) (locs : List Loc) (c1 s1 : Nat) (ls : Array Slot), Wd G ρ h0.length (sl h0) s.heap hB H locs c1 s1 → lv_has ls 3 [] → W p l e (RM 5 142 h0 hE) s m args below meth c H locs c1 s1 Q (F0 m 162 ls [])) : W p l e (RM 5 142 h0 hE) s m args below meth c H locs cells slots Q (F0 m 75 ls []) := by
  have hx := C.1
  have hb := C.2.1
  unfold fX10_laysFree_b75 at hf
  refine lv_iload_n hx hb dX10_laysFree_75 rfl (lv_at hl 1 rfl) ?_
  refine lv_aload_n hx hb dX10_laysFree_76 rfl (lv_at hl 0 rfl) ?_
  obtain ⟨v28, e28, hf⟩ := pb_rd (rd_gI _ _ _) hf
  refine r_gI C hW e28 flX10_156 rfl dX10_laysFree_77 ?_
  refine lv_icmp_ge (tgt := 162) hx hb dX10_laysFree_80 (by decide) (fun c29 => ?_) (fun c29 => ?_)
  · rw [if_pos c29] at hf
    obtain ⟨rfl, rfl⟩ := pp_some hf
    exact ke _ rfl _ _ _ _ _ hW (lv_sub hl [] rfl)
  · rw [if_neg c29] at hf
    refine lv_aload_n hx hb dX10_laysFree_83 rfl (lv_at hl 0 rfl) ?_
    obtain ⟨_, h30, e30, hf⟩ := pb_some hf
    obtain ⟨_, _, t31⟩ := tgX10_emptiesRow e30
    refine r_callv hW (pext e30) (run_V (b := x0) (As := []) (rest := []) C hW (metX10_emptiesRow l G ρ e30) ⟨rfl, rfl⟩ kcX10_emptiesRow (tq q_891 rfl) kiX10_emptiesRow ksX10_emptiesRow knX10_emptiesRow kdX10_emptiesRow t31 rfl rfl ⟨Nat.le_of_ble_eq_true rfl, Nat.le_of_ble_eq_true rfl⟩ hl.1 (Nat.le_of_ble_eq_true rfl) (room_of hW (pext e30) ((pext hf).tr hX)) dX10_laysFree_84 rfl) (fun H locs c1 s1 hW => ?_)
    refine lv_aload_n hx hb dX10_laysFree_87 rfl (lv_at hl 0 rfl) ?_
    refine lv_iload_n hx hb dX10_laysFree_88 rfl (lv_at hl 1 rfl) ?_
    obtain ⟨_, h32, e32, hf⟩ := pb_some hf
    obtain ⟨_, _, t33⟩ := tgX10_addsOne e32
    refine r_callv hW (pext e32) (run_V (b := x0) (As := [.int x1]) (rest := []) C hW (metX10_addsOne l G ρ e32) ⟨rfl, rfl⟩ kcX10_addsOne (tq q_895 rfl) kiX10_addsOne ksX10_addsOne knX10_addsOne kdX10_addsOne t33 rfl rfl ⟨Nat.le_of_ble_eq_true rfl, Nat.le_of_ble_eq_true rfl⟩ hl.1 (Nat.le_of_ble_eq_true rfl) (room_of hW (pext e32) ((pext hf).tr hX)) dX10_laysFree_89 rfl) (fun H locs c1 s1 hW => ?_)
    refine lv_aload_n hx hb dX10_laysFree_92 rfl (lv_at hl 0 rfl) ?_
    obtain ⟨_, h34, e34, hf⟩ := pb_some hf
    obtain ⟨_, _, t35⟩ := tgX10_lowers e34
    refine r_callv hW (pext e34) (run_V (b := x0) (As := []) (rest := []) C hW (metX10_lowers l G ρ e34) ⟨rfl, rfl⟩ kcX10_lowers (tq q_915 rfl) kiX10_lowers ksX10_lowers knX10_lowers kdX10_lowers t35 rfl rfl ⟨Nat.le_of_ble_eq_true rfl, Nat.le_of_ble_eq_true rfl⟩ hl.1 (Nat.le_of_ble_eq_true rfl) (room_of hW (pext e34) ((pext hf).tr hX)) dX10_laysFree_93 rfl) (fun H locs c1 s1 hW => ?_)
    refine lv_iconst (v := 0) hx hb dX10_laysFree_96 (by decide) ?_
    refine lv_istore_n (lv' := [(2, .int (0 : Int32)), (0, .ref (ρ x0)), (1, .int x1)]) hx hb dX10_laysFree_97 rfl hl (by decide) rfl (fun ls hl => ?_)
    obtain ⟨z50, h50, e50, hf⟩ := pb_some hf
    refine wX10_laysFree_L98 C fu _ e50 ((pext hf).tr hX) hW (lv_sub hl [1, 2, 0] rfl) (fun H locs c1 s1 ls hW hl => ?_)
    refine lv_iinc (v := (x1 + 1)) (lv' := [(1, .int (x1 + 1)), (0, .ref (ρ x0))]) hx hb dX10_laysFree_156 hl (k := 1) rfl rfl (by decide) rfl (fun ls hl => ?_)
    refine lv_goto (tgt := 75) hx hb dX10_laysFree_159 (by decide) ?_
    obtain ⟨rfl, rfl⟩ := pp_some hf
    exact kc _ rfl _ _ _ _ _ hW (lv_sub hl [1, 0] rfl)
set_option maxHeartbeats 4000000 in
theorem wX10_laysFree_L75 {p : Program} {l : Launch} {e : Env} {s : State} {m : MethodId} {args : Array Value} {below : List Frame} {meth : Method} {c : Code} {G : GG} {ρ : Nat → Nat} {h0 hE hB : PH} {Q : State → Prop} {x0 : Nat} (C : Cx G "PairSymbolsModel" cX10_laysFree 3 none "laysFree" p s m args meth c) {z : (Unit)} (n : Nat) : ∀ (x : Int32) {h : PH} {H : Heap} {locs : List Loc} {cells slots : Nat} {ls : Array Slot}, (plo (fX10_laysFree_B75 x0) n x).1 h = some (z, hB) → Ext hB hE → Wd G ρ h0.length (sl h0) s.heap h H locs cells slots → lv_has ls 3 [(0, .ref (ρ x0)), (1, .int x)] → (ke : ∀ (H : Heap) (locs : List Loc) (c1 s1 : Nat) (ls : Array Slot), Wd G ρ h0.length (sl h0) s.heap hB H locs c1 s1 → lv_has ls 3 [] → W p l e (RM 5 142 h0 hE) s m args below meth c H locs c1 s1 Q (F0 m 162 ls [])) → W p l e (RM 5 142 h0 hE) s m args below meth c H locs cells slots Q (F0 m 75 ls []) := by
  induction n with
  | zero =>
    intro x h H locs cells slots ls hf
    rw [plo_0] at hf
    exact (pf_no hf).elim
  | succ n ih =>
    intro x h H locs cells slots ls hf hX hW hl ke
    rw [plo_s] at hf
    obtain ⟨r, h1, e1, hf⟩ := pb_some hf
    unfold fX10_laysFree_B75 at e1
    rw [frI_eq] at e1
    refine wX10_laysFree_B75 C e1 ((pext hf).tr hX) hW hl (fun y hr H locs c1 s1 ls hW hl => ?_) (fun y hr H locs c1 s1 ls hW hl => ?_)
    · subst hr
      exact ih y hf hX hW hl ke
    · subst hr
      obtain ⟨rfl, rfl⟩ := pp_some hf
      exact ke H locs c1 s1 ls hW hl
set_option maxHeartbeats 4000000 in
set_option maxRecDepth 100000 in
theorem metX10_laysFree (l : Launch) (G : GG) (ρ : Nat → Nat) {z : Nat} {x0 : Nat} {h hE : PH} {v : Unit} (hf : (fX10_laysFree x0).1 h = some (v, hE)) : Met l yX10_laysFree (wsY yX10_laysFree cX10_laysFree 3 none) (RM 5 142 h hE) (va_Pc [.ref (ρ x0)] (PcB G ρ h z)) (QV G ρ hE h.length z) (DC h hE) (DS h hE) (Af ρ h.length z) := by
  refine met_start (by decide) (Nat.le_of_ble_eq_true rfl) ?_
  intro p e s m below meth c ls hz C hW hl
  subst hz
  have C : Cx G "PairSymbolsModel" cX10_laysFree 3 none "laysFree" p s m _ meth c := C
  have hx := C.1
  have hb := C.2.1
  have hX : Ext hE hE := Ext.rf hE
  have hl : lv_has ls 3 [(0, .ref (ρ x0))] := hl
  have hW : Wd G ρ h.length (sl h) s.heap h s.heap [] 0 0 := hW
  unfold fX10_laysFree at hf
  obtain ⟨_, e0, hf⟩ := pb_rd (rd_chk _ _) hf
  refine lv_aload_n hx hb dX10_laysFree_0 rfl (lv_at hl 0 rfl) ?_
  refine lv_iconst (v := 0) hx hb dX10_laysFree_1 (by decide) ?_
  obtain ⟨_, h1, e1, hf⟩ := pb_some hf
  refine r_sI C hW e1 flX10_192 (Or.inl rfl) rfl dX10_laysFree_2 (fun H locs hW => ?_)
  refine lv_iconst (v := 0) hx hb dX10_laysFree_5 (by decide) ?_
  refine lv_istore_n (lv' := [(1, .int (0 : Int32)), (0, .ref (ρ x0))]) hx hb dX10_laysFree_6 rfl hl (by decide) rfl (fun ls hl => ?_)
  obtain ⟨z27, h27, e27, hf⟩ := pb_some hf
  refine wX10_laysFree_L7 C fu _ e27 ((pext hf).tr hX) hW (lv_sub hl [1, 0] rfl) (fun H locs c1 s1 ls hW hl => ?_)
  refine lv_iconst (v := 0) hx hb dX10_laysFree_73 (by decide) ?_
  refine lv_istore_n (lv' := [(1, .int (0 : Int32)), (0, .ref (ρ x0))]) hx hb dX10_laysFree_74 rfl hl (by decide) rfl (fun ls hl => ?_)
  obtain ⟨z51, h51, e51, hf⟩ := pb_some hf
  refine wX10_laysFree_L75 C fu _ e51 ((pext hf).tr hX) hW (lv_sub hl [1, 0] rfl) (fun H locs c1 s1 ls hW hl => ?_)
  obtain ⟨rfl, rfl⟩ := pp_some hf
  exact r_vret C hW dX10_laysFree_162

theorem dX10_lays_0 : decode cX10_lays 0 = .ok (.aload_n 0, 1) := by decide +kernel
theorem dX10_lays_1 : decode cX10_lays 1 = .ok (.getfield 195, 3) := by decide +kernel
theorem dX10_lays_4 : decode cX10_lays 4 = .ok (.aload_n 0, 1) := by decide +kernel
theorem dX10_lays_5 : decode cX10_lays 5 = .ok (.invokevirtual 148, 3) := by decide +kernel
theorem dX10_lays_8 : decode cX10_lays 8 = .ok (.if_icmp .ne 4, 3) := by decide +kernel
theorem dX10_lays_11 : decode cX10_lays 11 = .ok (.return_, 1) := by decide +kernel
theorem dX10_lays_12 : decode cX10_lays 12 = .ok (.aload_n 0, 1) := by decide +kernel
theorem dX10_lays_13 : decode cX10_lays 13 = .ok (.aload_n 0, 1) := by decide +kernel
theorem dX10_lays_14 : decode cX10_lays 14 = .ok (.invokevirtual 148, 3) := by decide +kernel
theorem dX10_lays_17 : decode cX10_lays 17 = .ok (.putfield 195, 3) := by decide +kernel
theorem dX10_lays_20 : decode cX10_lays 20 = .ok (.aload_n 0, 1) := by decide +kernel
theorem dX10_lays_21 : decode cX10_lays 21 = .ok (.iconst 0, 1) := by decide +kernel
theorem dX10_lays_22 : decode cX10_lays 22 = .ok (.putfield 156, 3) := by decide +kernel
theorem dX10_lays_25 : decode cX10_lays 25 = .ok (.iconst 0, 1) := by decide +kernel
theorem dX10_lays_26 : decode cX10_lays 26 = .ok (.istore_n 1, 1) := by decide +kernel
theorem dX10_lays_27 : decode cX10_lays 27 = .ok (.iload_n 1, 1) := by decide +kernel
theorem dX10_lays_28 : decode cX10_lays 28 = .ok (.sipush 625, 3) := by decide +kernel
theorem dX10_lays_31 : decode cX10_lays 31 = .ok (.if_icmp .ge 16, 3) := by decide +kernel
theorem dX10_lays_34 : decode cX10_lays 34 = .ok (.aload_n 0, 1) := by decide +kernel
theorem dX10_lays_35 : decode cX10_lays 35 = .ok (.getfield 23, 3) := by decide +kernel
theorem dX10_lays_38 : decode cX10_lays 38 = .ok (.iload_n 1, 1) := by decide +kernel
theorem dX10_lays_39 : decode cX10_lays 39 = .ok (.iconst (-1), 1) := by decide +kernel
theorem dX10_lays_40 : decode cX10_lays 40 = .ok (.iastore, 1) := by decide +kernel
theorem dX10_lays_41 : decode cX10_lays 41 = .ok (.iinc 1 1, 3) := by decide +kernel
theorem dX10_lays_44 : decode cX10_lays 44 = .ok (.goto (-17), 3) := by decide +kernel
theorem dX10_lays_47 : decode cX10_lays 47 = .ok (.iconst 0, 1) := by decide +kernel
theorem dX10_lays_48 : decode cX10_lays 48 = .ok (.istore_n 1, 1) := by decide +kernel
theorem dX10_lays_49 : decode cX10_lays 49 = .ok (.iload_n 1, 1) := by decide +kernel
theorem dX10_lays_50 : decode cX10_lays 50 = .ok (.aload_n 0, 1) := by decide +kernel
theorem dX10_lays_51 : decode cX10_lays 51 = .ok (.getfield 195, 3) := by decide +kernel
theorem dX10_lays_54 : decode cX10_lays 54 = .ok (.if_icmp .ge 50, 3) := by decide +kernel
theorem dX10_lays_57 : decode cX10_lays 57 = .ok (.iconst 0, 1) := by decide +kernel
theorem dX10_lays_58 : decode cX10_lays 58 = .ok (.istore_n 2, 1) := by decide +kernel
theorem dX10_lays_59 : decode cX10_lays 59 = .ok (.iload_n 2, 1) := by decide +kernel
theorem dX10_lays_60 : decode cX10_lays 60 = .ok (.aload_n 0, 1) := by decide +kernel
theorem dX10_lays_61 : decode cX10_lays 61 = .ok (.getfield 195, 3) := by decide +kernel
theorem dX10_lays_64 : decode cX10_lays 64 = .ok (.if_icmp .ge 34, 3) := by decide +kernel
theorem dX10_lays_67 : decode cX10_lays 67 = .ok (.aload_n 0, 1) := by decide +kernel
theorem dX10_lays_68 : decode cX10_lays 68 = .ok (.iload_n 1, 1) := by decide +kernel
theorem dX10_lays_69 : decode cX10_lays 69 = .ok (.iload_n 2, 1) := by decide +kernel
theorem dX10_lays_70 : decode cX10_lays 70 = .ok (.invokevirtual 198, 3) := by decide +kernel
theorem dX10_lays_73 : decode cX10_lays 73 = .ok (.ifCond .eq 19, 3) := by decide +kernel
theorem dX10_lays_76 : decode cX10_lays 76 = .ok (.aload_n 0, 1) := by decide +kernel
theorem dX10_lays_77 : decode cX10_lays 77 = .ok (.iload_n 1, 1) := by decide +kernel
theorem dX10_lays_78 : decode cX10_lays 78 = .ok (.iload_n 2, 1) := by decide +kernel
theorem dX10_lays_79 : decode cX10_lays 79 = .ok (.invokevirtual 159, 3) := by decide +kernel
theorem dX10_lays_82 : decode cX10_lays 82 = .ok (.iconst (-1), 1) := by decide +kernel
theorem dX10_lays_83 : decode cX10_lays 83 = .ok (.if_icmp .ne 9, 3) := by decide +kernel
theorem dX10_lays_86 : decode cX10_lays 86 = .ok (.aload_n 0, 1) := by decide +kernel
theorem dX10_lays_87 : decode cX10_lays 87 = .ok (.iload_n 1, 1) := by decide +kernel
theorem dX10_lays_88 : decode cX10_lays 88 = .ok (.iload_n 2, 1) := by decide +kernel
theorem dX10_lays_89 : decode cX10_lays 89 = .ok (.invokevirtual 202, 3) := by decide +kernel
theorem dX10_lays_92 : decode cX10_lays 92 = .ok (.iinc 2 1, 3) := by decide +kernel
theorem dX10_lays_95 : decode cX10_lays 95 = .ok (.goto (-36), 3) := by decide +kernel
theorem dX10_lays_98 : decode cX10_lays 98 = .ok (.iinc 1 1, 3) := by decide +kernel
theorem dX10_lays_101 : decode cX10_lays 101 = .ok (.goto (-52), 3) := by decide +kernel
theorem dX10_lays_104 : decode cX10_lays 104 = .ok (.aload_n 0, 1) := by decide +kernel
theorem dX10_lays_105 : decode cX10_lays 105 = .ok (.invokevirtual 206, 3) := by decide +kernel
theorem dX10_lays_108 : decode cX10_lays 108 = .ok (.aload_n 0, 1) := by decide +kernel
theorem dX10_lays_109 : decode cX10_lays 109 = .ok (.invokevirtual 209, 3) := by decide +kernel
theorem dX10_lays_112 : decode cX10_lays 112 = .ok (.aload_n 0, 1) := by decide +kernel
theorem dX10_lays_113 : decode cX10_lays 113 = .ok (.invokevirtual 212, 3) := by decide +kernel
theorem dX10_lays_116 : decode cX10_lays 116 = .ok (.return_, 1) := by decide +kernel
theorem kcX10_lays : Cond.code yX10_lays cX10_lays 3 none ∈ tb := tq q_860 rfl
theorem knX10_lays : Cond.initialized yX10_lays.cls ∈ tb := (tq q_10 rfl)
theorem kdX10_lays : yX10_lays.cls ≠ "java/lang/invoke/MethodHandle" ∧ yX10_lays.cls ≠ "java/lang/invoke/VarHandle" ∧ (parseMethodDescriptor yX10_lays.desc).map (fun d => d.parameters.length) = some 0 := ⟨by decide +kernel, by decide +kernel, by decide +kernel⟩
theorem kiX10_lays : Cond.instanceMethod yX10_lays ∈ tb := (tq q_859 rfl)
theorem ksX10_lays : Cond.selects yX10_lays.cls yX10_lays yX10_lays ∈ tb := (tq z_29 rfl)
theorem tgX10_lays {x0 : Nat} {h : PH} {r : Unit × PH} (hf : (fX10_lays x0).1 h = some r) : ∃ n x, nth h x0 = some (9, n, x) := by
  obtain ⟨_, _, e, _⟩ := pb_some hf
  exact (chk_some e).2
set_option maxHeartbeats 4000000 in
set_option maxRecDepth 100000 in
theorem wX10_lays_B27 {p : Program} {l : Launch} {e : Env} {s : State} {m : MethodId} {args : Array Value} {below : List Frame} {meth : Method} {c : Code} {G : GG} {ρ : Nat → Nat} {h0 hE hB : PH} {Q : State → Prop} {x0 : Nat} (C : Cx G "PairSymbolsModel" cX10_lays 3 none "lays" p s m args meth c) {x1 : Int32} {h : PH} {H : Heap} {locs : List Loc} {cells slots : Nat} {ls : Array Slot} {r : (Int32) ⊕ (Unit)} (hf : (fX10_lays_b27 x0 x1).1 h = some (r, hB)) (hX : Ext hB hE) (hW : Wd G ρ h0.length (sl h0) s.heap h H locs cells slots) (hl : lv_has ls 3 [(0, .ref (ρ x0)), (1, .int x1)]) (kc : ∀ y : Int32, r = .inl y → ∀ (H : Heap) (locs : List Loc) (c1 s1 : Nat) (ls : Array Slot), Wd G ρ h0.length (sl h0) s.heap hB H locs c1 s1 → lv_has ls 3 [(0, .ref (ρ x0)), (1, .int y)] → W p l e (RM 7 185 h0 hE) s m args below meth c H locs c1 s1 Q (F0 m 27 ls [])) (ke : ∀ z : Unit, r = .inr z → ∀ (H : Heap) (locs : List Loc) (c1 s1 : Nat) (ls : Array Slot), Wd G ρ h0.length (sl h0) s.heap hB H locs c1 s1 → lv_has ls 3 [(0, .ref (ρ x0))] → W p l e (RM 7 185 h0 hE) s m args below meth c H locs c1 s1 Q (F0 m 47 ls [])) : W p l e (RM 7 185 h0 hE) s m args below meth c H locs cells slots Q (F0 m 27 ls []) := by
  have hx := C.1
  have hb := C.2.1
  unfold fX10_lays_b27 at hf
  refine lv_iload_n hx hb dX10_lays_27 rfl (lv_at hl 1 rfl) ?_
  refine lv_sipush (v := 625) hx hb dX10_lays_28 (by decide) ?_
  refine lv_icmp_ge (tgt := 47) hx hb dX10_lays_31 (by decide) (fun c9 => ?_) (fun c9 => ?_)
  · rw [if_pos c9] at hf
    obtain ⟨rfl, rfl⟩ := pp_some hf
    exact ke _ rfl _ _ _ _ _ hW (lv_sub hl [0] rfl)
  · rw [if_neg c9] at hf
    refine lv_aload_n hx hb dX10_lays_34 rfl (lv_at hl 0 rfl) ?_
    obtain ⟨v10, e10, hf⟩ := pb_rd (rd_gA _ _ _) hf
    refine r_gA C hW e10 flX10_23 rfl dX10_lays_35 ?_
    refine lv_iload_n hx hb dX10_lays_38 rfl (lv_at hl 1 rfl) ?_
    refine lv_iconst (v := -1) hx hb dX10_lays_39 (by decide) ?_
    obtain ⟨_, h11, e11, hf⟩ := pb_some hf
    refine r_iast C hW e11 dX10_lays_40 (fun H locs hW => ?_)
    refine lv_iinc (v := (x1 + 1)) (lv' := [(1, .int (x1 + 1)), (0, .ref (ρ x0))]) hx hb dX10_lays_41 hl (k := 1) rfl rfl (by decide) rfl (fun ls hl => ?_)
    refine lv_goto (tgt := 27) hx hb dX10_lays_44 (by decide) ?_
    obtain ⟨rfl, rfl⟩ := pp_some hf
    exact kc _ rfl _ _ _ _ _ hW (lv_sub hl [1, 0] rfl)
set_option maxHeartbeats 4000000 in
theorem wX10_lays_L27 {p : Program} {l : Launch} {e : Env} {s : State} {m : MethodId} {args : Array Value} {below : List Frame} {meth : Method} {c : Code} {G : GG} {ρ : Nat → Nat} {h0 hE hB : PH} {Q : State → Prop} {x0 : Nat} (C : Cx G "PairSymbolsModel" cX10_lays 3 none "lays" p s m args meth c) {z : (Unit)} (n : Nat) : ∀ (x : Int32) {h : PH} {H : Heap} {locs : List Loc} {cells slots : Nat} {ls : Array Slot}, (plo (fX10_lays_B27 x0) n x).1 h = some (z, hB) → Ext hB hE → Wd G ρ h0.length (sl h0) s.heap h H locs cells slots → lv_has ls 3 [(0, .ref (ρ x0)), (1, .int x)] → (ke : ∀ (H : Heap) (locs : List Loc) (c1 s1 : Nat) (ls : Array Slot), Wd G ρ h0.length (sl h0) s.heap hB H locs c1 s1 → lv_has ls 3 [(0, .ref (ρ x0))] → W p l e (RM 7 185 h0 hE) s m args below meth c H locs c1 s1 Q (F0 m 47 ls [])) → W p l e (RM 7 185 h0 hE) s m args below meth c H locs cells slots Q (F0 m 27 ls []) := by
  induction n with
  | zero =>
    intro x h H locs cells slots ls hf
    rw [plo_0] at hf
    exact (pf_no hf).elim
  | succ n ih =>
    intro x h H locs cells slots ls hf hX hW hl ke
    rw [plo_s] at hf
    obtain ⟨r, h1, e1, hf⟩ := pb_some hf
    unfold fX10_lays_B27 at e1
    rw [frI_eq] at e1
    refine wX10_lays_B27 C e1 ((pext hf).tr hX) hW hl (fun y hr H locs c1 s1 ls hW hl => ?_) (fun y hr H locs c1 s1 ls hW hl => ?_)
    · subst hr
      exact ih y hf hX hW hl ke
    · subst hr
      obtain ⟨rfl, rfl⟩ := pp_some hf
      exact ke H locs c1 s1 ls hW hl
set_option maxHeartbeats 4000000 in
set_option maxRecDepth 100000 in
theorem wX10_lays_B59 {p : Program} {l : Launch} {e : Env} {s : State} {m : MethodId} {args : Array Value} {below : List Frame} {meth : Method} {c : Code} {G : GG} {ρ : Nat → Nat} {h0 hE hB : PH} {Q : State → Prop} {x0 : Nat} {x1 : Int32} (C : Cx G "PairSymbolsModel" cX10_lays 3 none "lays" p s m args meth c) {x2 : Int32} {h : PH} {H : Heap} {locs : List Loc} {cells slots : Nat} {ls : Array Slot} {r : (Int32) ⊕ (Unit)} (hf : (fX10_lays_b59 x0 x1 x2).1 h = some (r, hB)) (hX : Ext hB hE) (hW : Wd G ρ h0.length (sl h0) s.heap h H locs cells slots) (hl : lv_has ls 3 [(0, .ref (ρ x0)), (1, .int x1), (2, .int x2)]) (kc : ∀ y : Int32, r = .inl y → ∀ (H : Heap) (locs : List Loc) (c1 s1 : Nat) (ls : Array Slot), Wd G ρ h0.length (sl h0) s.heap hB H locs c1 s1 → lv_has ls 3 [(0, .ref (ρ x0)), (1, .int x1), (2, .int y)] → W p l e (RM 7 185 h0 hE) s m args below meth c H locs c1 s1 Q (F0 m 59 ls [])) (ke : ∀ z : Unit, r = .inr z → ∀ (H : Heap) (locs : List Loc) (c1 s1 : Nat) (ls : Array Slot), Wd G ρ h0.length (sl h0) s.heap hB H locs c1 s1 → lv_has ls 3 [(0, .ref (ρ x0)), (1, .int x1)] → W p l e (RM 7 185 h0 hE) s m args below meth c H locs c1 s1 Q (F0 m 98 ls [])) : W p l e (RM 7 185 h0 hE) s m args below meth c H locs cells slots Q (F0 m 59 ls []) := by
  have hx := C.1
  have hb := C.2.1
  unfold fX10_lays_b59 at hf
  refine lv_iload_n hx hb dX10_lays_59 rfl (lv_at hl 2 rfl) ?_
  refine lv_aload_n hx hb dX10_lays_60 rfl (lv_at hl 0 rfl) ?_
  obtain ⟨v15, e15, hf⟩ := pb_rd (rd_gI _ _ _) hf
  refine r_gI C hW e15 flX10_195 rfl dX10_lays_61 ?_
  refine lv_icmp_ge (tgt := 98) hx hb dX10_lays_64 (by decide) (fun c16 => ?_) (fun c16 => ?_)
  · rw [if_pos c16] at hf
    obtain ⟨rfl, rfl⟩ := pp_some hf
    exact ke _ rfl _ _ _ _ _ hW (lv_sub hl [0, 1] rfl)
  · rw [if_neg c16] at hf
    refine lv_aload_n hx hb dX10_lays_67 rfl (lv_at hl 0 rfl) ?_
    refine lv_iload_n hx hb dX10_lays_68 rfl (lv_at hl 1 rfl) ?_
    refine lv_iload_n hx hb dX10_lays_69 rfl (lv_at hl 2 rfl) ?_
    obtain ⟨v17, h17, e17, hf⟩ := pb_some hf
    obtain ⟨_, _, t18⟩ := tgX10_isPair e17
    refine r_calli hW (pext e17) (run_V (b := x0) (As := [.int x1, .int x2]) (rest := []) C hW (metX10_isPair l G ρ e17) ⟨rfl, rfl⟩ kcX10_isPair (tq q_861 rfl) kiX10_isPair ksX10_isPair knX10_isPair kdX10_isPair t18 rfl rfl ⟨Nat.le_of_ble_eq_true rfl, Nat.le_of_ble_eq_true rfl⟩ hl.1 (Nat.le_of_ble_eq_true rfl) (room_of hW (pext e17) ((pext hf).tr hX)) dX10_lays_70 rfl) (fun H locs c1 s1 hW => ?_)
    refine lv_if_eq (tgt := 92) hx hb dX10_lays_73 (by decide) (fun c19 => ?_) (fun c19 => ?_)
    · rw [if_pos c19] at hf
      refine lv_iinc (v := (x2 + 1)) (lv' := [(2, .int (x2 + 1)), (0, .ref (ρ x0)), (1, .int x1)]) hx hb dX10_lays_92 hl (k := 2) rfl rfl (by decide) rfl (fun ls hl => ?_)
      refine lv_goto (tgt := 59) hx hb dX10_lays_95 (by decide) ?_
      obtain ⟨rfl, rfl⟩ := pp_some hf
      exact kc _ rfl _ _ _ _ _ hW (lv_sub hl [1, 2, 0] rfl)
    · rw [if_neg c19] at hf
      refine lv_aload_n hx hb dX10_lays_76 rfl (lv_at hl 0 rfl) ?_
      refine lv_iload_n hx hb dX10_lays_77 rfl (lv_at hl 1 rfl) ?_
      refine lv_iload_n hx hb dX10_lays_78 rfl (lv_at hl 2 rfl) ?_
      obtain ⟨v20, h20, e20, hf⟩ := pb_some hf
      obtain ⟨_, _, t21⟩ := tgX10_of e20
      refine r_calli hW (pext e20) (run_V (b := x0) (As := [.int x1, .int x2]) (rest := []) C hW (metX10_of l G ρ e20) ⟨rfl, rfl⟩ kcX10_of (tq q_868 rfl) kiX10_of ksX10_of knX10_of kdX10_of t21 rfl rfl ⟨Nat.le_of_ble_eq_true rfl, Nat.le_of_ble_eq_true rfl⟩ hl.1 (Nat.le_of_ble_eq_true rfl) (room_of hW (pext e20) ((pext hf).tr hX)) dX10_lays_79 rfl) (fun H locs c1 s1 hW => ?_)
      refine lv_iconst (v := -1) hx hb dX10_lays_82 (by decide) ?_
      refine lv_icmp_ne (tgt := 92) hx hb dX10_lays_83 (by decide) (fun c22 => ?_) (fun c22 => ?_)
      · rw [if_neg c22] at hf
        refine lv_iinc (v := (x2 + 1)) (lv' := [(2, .int (x2 + 1)), (0, .ref (ρ x0)), (1, .int x1)]) hx hb dX10_lays_92 hl (k := 2) rfl rfl (by decide) rfl (fun ls hl => ?_)
        refine lv_goto (tgt := 59) hx hb dX10_lays_95 (by decide) ?_
        obtain ⟨rfl, rfl⟩ := pp_some hf
        exact kc _ rfl _ _ _ _ _ hW (lv_sub hl [1, 2, 0] rfl)
      · rw [if_pos c22] at hf
        refine lv_aload_n hx hb dX10_lays_86 rfl (lv_at hl 0 rfl) ?_
        refine lv_iload_n hx hb dX10_lays_87 rfl (lv_at hl 1 rfl) ?_
        refine lv_iload_n hx hb dX10_lays_88 rfl (lv_at hl 2 rfl) ?_
        obtain ⟨_, h23, e23, hf⟩ := pb_some hf
        obtain ⟨_, _, t24⟩ := tgX10_countsIn e23
        refine r_callv hW (pext e23) (run_V (b := x0) (As := [.int x1, .int x2]) (rest := []) C hW (metX10_countsIn l G ρ e23) ⟨rfl, rfl⟩ kcX10_countsIn (tq q_875 rfl) kiX10_countsIn ksX10_countsIn knX10_countsIn kdX10_countsIn t24 rfl rfl ⟨Nat.le_of_ble_eq_true rfl, Nat.le_of_ble_eq_true rfl⟩ hl.1 (Nat.le_of_ble_eq_true rfl) (room_of hW (pext e23) ((pext hf).tr hX)) dX10_lays_89 rfl) (fun H locs c1 s1 hW => ?_)
        refine lv_iinc (v := (x2 + 1)) (lv' := [(2, .int (x2 + 1)), (0, .ref (ρ x0)), (1, .int x1)]) hx hb dX10_lays_92 hl (k := 2) rfl rfl (by decide) rfl (fun ls hl => ?_)
        refine lv_goto (tgt := 59) hx hb dX10_lays_95 (by decide) ?_
        obtain ⟨rfl, rfl⟩ := pp_some hf
        exact kc _ rfl _ _ _ _ _ hW (lv_sub hl [1, 2, 0] rfl)
set_option maxHeartbeats 4000000 in
theorem wX10_lays_L59 {p : Program} {l : Launch} {e : Env} {s : State} {m : MethodId} {args : Array Value} {below : List Frame} {meth : Method} {c : Code} {G : GG} {ρ : Nat → Nat} {h0 hE hB : PH} {Q : State → Prop} {x0 : Nat} {x1 : Int32} (C : Cx G "PairSymbolsModel" cX10_lays 3 none "lays" p s m args meth c) {z : (Unit)} (n : Nat) : ∀ (x : Int32) {h : PH} {H : Heap} {locs : List Loc} {cells slots : Nat} {ls : Array Slot}, (plo (fX10_lays_B59 x0 x1) n x).1 h = some (z, hB) → Ext hB hE → Wd G ρ h0.length (sl h0) s.heap h H locs cells slots → lv_has ls 3 [(0, .ref (ρ x0)), (1, .int x1), (2, .int x)] → (ke : ∀ (H : Heap) (locs : List Loc) (c1 s1 : Nat) (ls : Array Slot), Wd G ρ h0.length (sl h0) s.heap hB H locs c1 s1 → lv_has ls 3 [(0, .ref (ρ x0)), (1, .int x1)] → W p l e (RM 7 185 h0 hE) s m args below meth c H locs c1 s1 Q (F0 m 98 ls [])) → W p l e (RM 7 185 h0 hE) s m args below meth c H locs cells slots Q (F0 m 59 ls []) := by
  induction n with
  | zero =>
    intro x h H locs cells slots ls hf
    rw [plo_0] at hf
    exact (pf_no hf).elim
  | succ n ih =>
    intro x h H locs cells slots ls hf hX hW hl ke
    rw [plo_s] at hf
    obtain ⟨r, h1, e1, hf⟩ := pb_some hf
    unfold fX10_lays_B59 at e1
    rw [frI_eq] at e1
    refine wX10_lays_B59 C e1 ((pext hf).tr hX) hW hl (fun y hr H locs c1 s1 ls hW hl => ?_) (fun y hr H locs c1 s1 ls hW hl => ?_)
    · subst hr
      exact ih y hf hX hW hl ke
    · subst hr
      obtain ⟨rfl, rfl⟩ := pp_some hf
      exact ke H locs c1 s1 ls hW hl
set_option maxHeartbeats 4000000 in
set_option maxRecDepth 100000 in
theorem wX10_lays_B49 {p : Program} {l : Launch} {e : Env} {s : State} {m : MethodId} {args : Array Value} {below : List Frame} {meth : Method} {c : Code} {G : GG} {ρ : Nat → Nat} {h0 hE hB : PH} {Q : State → Prop} {x0 : Nat} (C : Cx G "PairSymbolsModel" cX10_lays 3 none "lays" p s m args meth c) {x1 : Int32} {h : PH} {H : Heap} {locs : List Loc} {cells slots : Nat} {ls : Array Slot} {r : (Int32) ⊕ (Unit)} (hf : (fX10_lays_b49 x0 x1).1 h = some (r, hB)) (hX : Ext hB hE) (hW : Wd G ρ h0.length (sl h0) s.heap h H locs cells slots) (hl : lv_has ls 3 [(0, .ref (ρ x0)), (1, .int x1)]) (kc : ∀ y : Int32, r = .inl y → ∀ (H : Heap) (locs : List Loc) (c1 s1 : Nat) (ls : Array Slot), Wd G ρ h0.length (sl h0) s.heap hB H locs c1 s1 → lv_has ls 3 [(0, .ref (ρ x0)), (1, .int y)] → W p l e (RM 7 185 h0 hE) s m args below meth c H locs c1 s1 Q (F0 m 49 ls [])) (ke : ∀ z : Unit, r = .inr z → ∀ (H : Heap) (locs : List Loc) (c1 s1 : Nat) (ls : Array Slot), Wd G ρ h0.length (sl h0) s.heap hB H locs c1 s1 → lv_has ls 3 [(0, .ref (ρ x0))] → W p l e (RM 7 185 h0 hE) s m args below meth c H locs c1 s1 Q (F0 m 104 ls [])) : W p l e (RM 7 185 h0 hE) s m args below meth c H locs cells slots Q (F0 m 49 ls []) := by
  have hx := C.1
  have hb := C.2.1
  unfold fX10_lays_b49 at hf
  refine lv_iload_n hx hb dX10_lays_49 rfl (lv_at hl 1 rfl) ?_
  refine lv_aload_n hx hb dX10_lays_50 rfl (lv_at hl 0 rfl) ?_
  obtain ⟨v13, e13, hf⟩ := pb_rd (rd_gI _ _ _) hf
  refine r_gI C hW e13 flX10_195 rfl dX10_lays_51 ?_
  refine lv_icmp_ge (tgt := 104) hx hb dX10_lays_54 (by decide) (fun c14 => ?_) (fun c14 => ?_)
  · rw [if_pos c14] at hf
    obtain ⟨rfl, rfl⟩ := pp_some hf
    exact ke _ rfl _ _ _ _ _ hW (lv_sub hl [0] rfl)
  · rw [if_neg c14] at hf
    refine lv_iconst (v := 0) hx hb dX10_lays_57 (by decide) ?_
    refine lv_istore_n (lv' := [(2, .int (0 : Int32)), (0, .ref (ρ x0)), (1, .int x1)]) hx hb dX10_lays_58 rfl hl (by decide) rfl (fun ls hl => ?_)
    obtain ⟨z25, h25, e25, hf⟩ := pb_some hf
    refine wX10_lays_L59 C fu _ e25 ((pext hf).tr hX) hW (lv_sub hl [1, 2, 0] rfl) (fun H locs c1 s1 ls hW hl => ?_)
    refine lv_iinc (v := (x1 + 1)) (lv' := [(1, .int (x1 + 1)), (0, .ref (ρ x0))]) hx hb dX10_lays_98 hl (k := 1) rfl rfl (by decide) rfl (fun ls hl => ?_)
    refine lv_goto (tgt := 49) hx hb dX10_lays_101 (by decide) ?_
    obtain ⟨rfl, rfl⟩ := pp_some hf
    exact kc _ rfl _ _ _ _ _ hW (lv_sub hl [1, 0] rfl)
set_option maxHeartbeats 4000000 in
theorem wX10_lays_L49 {p : Program} {l : Launch} {e : Env} {s : State} {m : MethodId} {args : Array Value} {below : List Frame} {meth : Method} {c : Code} {G : GG} {ρ : Nat → Nat} {h0 hE hB : PH} {Q : State → Prop} {x0 : Nat} (C : Cx G "PairSymbolsModel" cX10_lays 3 none "lays" p s m args meth c) {z : (Unit)} (n : Nat) : ∀ (x : Int32) {h : PH} {H : Heap} {locs : List Loc} {cells slots : Nat} {ls : Array Slot}, (plo (fX10_lays_B49 x0) n x).1 h = some (z, hB) → Ext hB hE → Wd G ρ h0.length (sl h0) s.heap h H locs cells slots → lv_has ls 3 [(0, .ref (ρ x0)), (1, .int x)] → (ke : ∀ (H : Heap) (locs : List Loc) (c1 s1 : Nat) (ls : Array Slot), Wd G ρ h0.length (sl h0) s.heap hB H locs c1 s1 → lv_has ls 3 [(0, .ref (ρ x0))] → W p l e (RM 7 185 h0 hE) s m args below meth c H locs c1 s1 Q (F0 m 104 ls [])) → W p l e (RM 7 185 h0 hE) s m args below meth c H locs cells slots Q (F0 m 49 ls []) := by
  induction n with
  | zero =>
    intro x h H locs cells slots ls hf
    rw [plo_0] at hf
    exact (pf_no hf).elim
  | succ n ih =>
    intro x h H locs cells slots ls hf hX hW hl ke
    rw [plo_s] at hf
    obtain ⟨r, h1, e1, hf⟩ := pb_some hf
    unfold fX10_lays_B49 at e1
    rw [frI_eq] at e1
    refine wX10_lays_B49 C e1 ((pext hf).tr hX) hW hl (fun y hr H locs c1 s1 ls hW hl => ?_) (fun y hr H locs c1 s1 ls hW hl => ?_)
    · subst hr
      exact ih y hf hX hW hl ke
    · subst hr
      obtain ⟨rfl, rfl⟩ := pp_some hf
      exact ke H locs c1 s1 ls hW hl
set_option maxHeartbeats 4000000 in
set_option maxRecDepth 100000 in
theorem metX10_lays (l : Launch) (G : GG) (ρ : Nat → Nat) {z : Nat} {x0 : Nat} {h hE : PH} {v : Unit} (hf : (fX10_lays x0).1 h = some (v, hE)) : Met l yX10_lays (wsY yX10_lays cX10_lays 3 none) (RM 7 185 h hE) (va_Pc [.ref (ρ x0)] (PcB G ρ h z)) (QV G ρ hE h.length z) (DC h hE) (DS h hE) (Af ρ h.length z) := by
  refine met_start (by decide) (Nat.le_of_ble_eq_true rfl) ?_
  intro p e s m below meth c ls hz C hW hl
  subst hz
  have C : Cx G "PairSymbolsModel" cX10_lays 3 none "lays" p s m _ meth c := C
  have hx := C.1
  have hb := C.2.1
  have hX : Ext hE hE := Ext.rf hE
  have hl : lv_has ls 3 [(0, .ref (ρ x0))] := hl
  have hW : Wd G ρ h.length (sl h) s.heap h s.heap [] 0 0 := hW
  unfold fX10_lays at hf
  obtain ⟨_, e0, hf⟩ := pb_rd (rd_chk _ _) hf
  refine lv_aload_n hx hb dX10_lays_0 rfl (lv_at hl 0 rfl) ?_
  obtain ⟨v1, e1, hf⟩ := pb_rd (rd_gI _ _ _) hf
  refine r_gI C hW e1 flX10_195 rfl dX10_lays_1 ?_
  refine lv_aload_n hx hb dX10_lays_4 rfl (lv_at hl 0 rfl) ?_
  obtain ⟨v2, h2, e2, hf⟩ := pb_some hf
  obtain ⟨_, _, t3⟩ := tgX10_levelHere e2
  refine r_calli hW (pext e2) (run_V (b := x0) (As := []) (rest := [.int v1]) C hW (metX10_levelHere l G ρ e2) ⟨rfl, rfl⟩ kcX10_levelHere (tq q_849 rfl) kiX10_levelHere ksX10_levelHere knX10_levelHere kdX10_levelHere t3 rfl rfl ⟨Nat.le_of_ble_eq_true rfl, Nat.le_of_ble_eq_true rfl⟩ hl.1 (Nat.le_of_ble_eq_true rfl) (room_of hW (pext e2) ((pext hf).tr hX)) dX10_lays_5 rfl) (fun H locs c1 s1 hW => ?_)
  refine lv_icmp_ne (tgt := 12) hx hb dX10_lays_8 (by decide) (fun c4 => ?_) (fun c4 => ?_)
  · rw [if_neg c4] at hf
    refine lv_aload_n hx hb dX10_lays_12 rfl (lv_at hl 0 rfl) ?_
    refine lv_aload_n hx hb dX10_lays_13 rfl (lv_at hl 0 rfl) ?_
    obtain ⟨v5, h5, e5, hf⟩ := pb_some hf
    obtain ⟨_, _, t6⟩ := tgX10_levelHere e5
    refine r_calli hW (pext e5) (run_V (b := x0) (As := []) (rest := [.ref (ρ x0)]) C hW (metX10_levelHere l G ρ e5) ⟨rfl, rfl⟩ kcX10_levelHere (tq q_849 rfl) kiX10_levelHere ksX10_levelHere knX10_levelHere kdX10_levelHere t6 rfl rfl ⟨Nat.le_of_ble_eq_true rfl, Nat.le_of_ble_eq_true rfl⟩ hl.1 (Nat.le_of_ble_eq_true rfl) (room_of hW (pext e5) ((pext hf).tr hX)) dX10_lays_14 rfl) (fun H locs c1 s1 hW => ?_)
    obtain ⟨_, h7, e7, hf⟩ := pb_some hf
    refine r_sI C hW e7 flX10_195 (Or.inl rfl) rfl dX10_lays_17 (fun H locs hW => ?_)
    refine lv_aload_n hx hb dX10_lays_20 rfl (lv_at hl 0 rfl) ?_
    refine lv_iconst (v := 0) hx hb dX10_lays_21 (by decide) ?_
    obtain ⟨_, h8, e8, hf⟩ := pb_some hf
    refine r_sI C hW e8 flX10_156 (Or.inl rfl) rfl dX10_lays_22 (fun H locs hW => ?_)
    refine lv_iconst (v := 0) hx hb dX10_lays_25 (by decide) ?_
    refine lv_istore_n (lv' := [(1, .int (0 : Int32)), (0, .ref (ρ x0))]) hx hb dX10_lays_26 rfl hl (by decide) rfl (fun ls hl => ?_)
    obtain ⟨z12, h12, e12, hf⟩ := pb_some hf
    refine wX10_lays_L27 C fu _ e12 ((pext hf).tr hX) hW (lv_sub hl [1, 0] rfl) (fun H locs c1 s1 ls hW hl => ?_)
    refine lv_iconst (v := 0) hx hb dX10_lays_47 (by decide) ?_
    refine lv_istore_n (lv' := [(1, .int (0 : Int32)), (0, .ref (ρ x0))]) hx hb dX10_lays_48 rfl hl (by decide) rfl (fun ls hl => ?_)
    obtain ⟨z26, h26, e26, hf⟩ := pb_some hf
    refine wX10_lays_L49 C fu _ e26 ((pext hf).tr hX) hW (lv_sub hl [1, 0] rfl) (fun H locs c1 s1 ls hW hl => ?_)
    refine lv_aload_n hx hb dX10_lays_104 rfl (lv_at hl 0 rfl) ?_
    obtain ⟨_, h27, e27, hf⟩ := pb_some hf
    obtain ⟨_, _, t28⟩ := tgX10_laysCusps e27
    refine r_callv hW (pext e27) (run_V (b := x0) (As := []) (rest := []) C hW (metX10_laysCusps l G ρ e27) ⟨rfl, rfl⟩ kcX10_laysCusps (tq q_879 rfl) kiX10_laysCusps ksX10_laysCusps knX10_laysCusps kdX10_laysCusps t28 rfl rfl ⟨Nat.le_of_ble_eq_true rfl, Nat.le_of_ble_eq_true rfl⟩ hl.1 (Nat.le_of_ble_eq_true rfl) (room_of hW (pext e27) ((pext hf).tr hX)) dX10_lays_105 rfl) (fun H locs c1 s1 hW => ?_)
    refine lv_aload_n hx hb dX10_lays_108 rfl (lv_at hl 0 rfl) ?_
    obtain ⟨_, h29, e29, hf⟩ := pb_some hf
    obtain ⟨_, _, t30⟩ := tgX10_laysRelations e29
    refine r_callv hW (pext e29) (run_V (b := x0) (As := []) (rest := []) C hW (metX10_laysRelations l G ρ e29) ⟨rfl, rfl⟩ kcX10_laysRelations (tq q_887 rfl) kiX10_laysRelations ksX10_laysRelations knX10_laysRelations kdX10_laysRelations t30 rfl rfl ⟨Nat.le_of_ble_eq_true rfl, Nat.le_of_ble_eq_true rfl⟩ hl.1 (Nat.le_of_ble_eq_true rfl) (room_of hW (pext e29) ((pext hf).tr hX)) dX10_lays_109 rfl) (fun H locs c1 s1 hW => ?_)
    refine lv_aload_n hx hb dX10_lays_112 rfl (lv_at hl 0 rfl) ?_
    obtain ⟨_, h31, e31, hf⟩ := pb_some hf
    obtain ⟨_, _, t32⟩ := tgX10_laysFree e31
    refine r_callv hW (pext e31) (run_V (b := x0) (As := []) (rest := []) C hW (metX10_laysFree l G ρ e31) ⟨rfl, rfl⟩ kcX10_laysFree (tq q_927 rfl) kiX10_laysFree ksX10_laysFree knX10_laysFree kdX10_laysFree t32 rfl rfl ⟨Nat.le_of_ble_eq_true rfl, Nat.le_of_ble_eq_true rfl⟩ hl.1 (Nat.le_of_ble_eq_true rfl) (room_of hW (pext e31) ((pext hf).tr hX)) dX10_lays_113 rfl) (fun H locs c1 s1 hW => ?_)
    obtain ⟨rfl, rfl⟩ := pp_some hf
    exact r_vret C hW dX10_lays_116
  · rw [if_pos c4] at hf
    obtain ⟨rfl, rfl⟩ := pp_some hf
    exact r_vret C hW dX10_lays_11

theorem dX10_boundaryOf_0 : decode cX10_boundaryOf 0 = .ok (.aload_n 0, 1) := by decide +kernel
theorem dX10_boundaryOf_1 : decode cX10_boundaryOf 1 = .ok (.getfield 38, 3) := by decide +kernel
theorem dX10_boundaryOf_4 : decode cX10_boundaryOf 4 = .ok (.iload_n 2, 1) := by decide +kernel
theorem dX10_boundaryOf_5 : decode cX10_boundaryOf 5 = .ok (.iaload, 1) := by decide +kernel
theorem dX10_boundaryOf_6 : decode cX10_boundaryOf 6 = .ok (.istore_n 3, 1) := by decide +kernel
theorem dX10_boundaryOf_7 : decode cX10_boundaryOf 7 = .ok (.aload_n 0, 1) := by decide +kernel
theorem dX10_boundaryOf_8 : decode cX10_boundaryOf 8 = .ok (.getfield 32, 3) := by decide +kernel
theorem dX10_boundaryOf_11 : decode cX10_boundaryOf 11 = .ok (.iload_n 3, 1) := by decide +kernel
theorem dX10_boundaryOf_12 : decode cX10_boundaryOf 12 = .ok (.iaload, 1) := by decide +kernel
theorem dX10_boundaryOf_13 : decode cX10_boundaryOf 13 = .ok (.iload_n 1, 1) := by decide +kernel
theorem dX10_boundaryOf_14 : decode cX10_boundaryOf 14 = .ok (.if_icmp .ne 7, 3) := by decide +kernel
theorem dX10_boundaryOf_17 : decode cX10_boundaryOf 17 = .ok (.iconst 1, 1) := by decide +kernel
theorem dX10_boundaryOf_18 : decode cX10_boundaryOf 18 = .ok (.goto 4, 3) := by decide +kernel
theorem dX10_boundaryOf_21 : decode cX10_boundaryOf 21 = .ok (.iconst 0, 1) := by decide +kernel
theorem dX10_boundaryOf_22 : decode cX10_boundaryOf 22 = .ok (.aload_n 0, 1) := by decide +kernel
theorem dX10_boundaryOf_23 : decode cX10_boundaryOf 23 = .ok (.getfield 32, 3) := by decide +kernel
theorem dX10_boundaryOf_26 : decode cX10_boundaryOf 26 = .ok (.aload_n 0, 1) := by decide +kernel
theorem dX10_boundaryOf_27 : decode cX10_boundaryOf 27 = .ok (.iload_n 3, 1) := by decide +kernel
theorem dX10_boundaryOf_28 : decode cX10_boundaryOf 28 = .ok (.invokevirtual 183, 3) := by decide +kernel
theorem dX10_boundaryOf_31 : decode cX10_boundaryOf 31 = .ok (.iaload, 1) := by decide +kernel
theorem dX10_boundaryOf_32 : decode cX10_boundaryOf 32 = .ok (.iload_n 1, 1) := by decide +kernel
theorem dX10_boundaryOf_33 : decode cX10_boundaryOf 33 = .ok (.if_icmp .ne 7, 3) := by decide +kernel
theorem dX10_boundaryOf_36 : decode cX10_boundaryOf 36 = .ok (.iconst 1, 1) := by decide +kernel
theorem dX10_boundaryOf_37 : decode cX10_boundaryOf 37 = .ok (.goto 4, 3) := by decide +kernel
theorem dX10_boundaryOf_40 : decode cX10_boundaryOf 40 = .ok (.iconst 0, 1) := by decide +kernel
theorem dX10_boundaryOf_41 : decode cX10_boundaryOf 41 = .ok (.isub, 1) := by decide +kernel
theorem dX10_boundaryOf_42 : decode cX10_boundaryOf 42 = .ok (.ireturn, 1) := by decide +kernel
theorem kcX10_boundaryOf : Cond.code yX10_boundaryOf cX10_boundaryOf 4 (some .int) ∈ tb := tq q_974 rfl
theorem knX10_boundaryOf : Cond.initialized yX10_boundaryOf.cls ∈ tb := (tq q_10 rfl)
theorem kdX10_boundaryOf : yX10_boundaryOf.cls ≠ "java/lang/invoke/MethodHandle" ∧ yX10_boundaryOf.cls ≠ "java/lang/invoke/VarHandle" ∧ (parseMethodDescriptor yX10_boundaryOf.desc).map (fun d => d.parameters.length) = some 2 := ⟨by decide +kernel, by decide +kernel, by decide +kernel⟩
theorem kiX10_boundaryOf : Cond.instanceMethod yX10_boundaryOf ∈ tb := (tq q_973 rfl)
theorem ksX10_boundaryOf : Cond.selects yX10_boundaryOf.cls yX10_boundaryOf yX10_boundaryOf ∈ tb := (tq z_52 rfl)
theorem tgX10_boundaryOf {x0 : Nat} {x1 : Int32} {x2 : Int32} {h : PH} {r : Int32 × PH} (hf : (fX10_boundaryOf x0 x1 x2).1 h = some r) : ∃ n x, nth h x0 = some (9, n, x) := by
  obtain ⟨_, _, e, _⟩ := pb_some hf
  exact (chk_some e).2
set_option maxHeartbeats 4000000 in
set_option maxRecDepth 100000 in
theorem metX10_boundaryOf (l : Launch) (G : GG) (ρ : Nat → Nat) {z : Nat} {x0 : Nat} {x1 : Int32} {x2 : Int32} {h hE : PH} {v : Int32} (hf : (fX10_boundaryOf x0 x1 x2).1 h = some (v, hE)) : Met l yX10_boundaryOf (wsY yX10_boundaryOf cX10_boundaryOf 4 (some .int)) (RM 3 66 h hE) (va_Pc [.ref (ρ x0), .int x1, .int x2] (PcB G ρ h z)) (QI G ρ v hE h.length z) (DC h hE) (DS h hE) (Af ρ h.length z) := by
  refine met_start (by decide) (Nat.le_of_ble_eq_true rfl) ?_
  intro p e s m below meth c ls hz C hW hl
  subst hz
  have C : Cx G "PairSymbolsModel" cX10_boundaryOf 4 (some .int) "boundaryOf" p s m _ meth c := C
  have hx := C.1
  have hb := C.2.1
  have hX : Ext hE hE := Ext.rf hE
  have hl : lv_has ls 4 [(0, .ref (ρ x0)), (1, .int x1), (2, .int x2)] := hl
  have hW : Wd G ρ h.length (sl h) s.heap h s.heap [] 0 0 := hW
  unfold fX10_boundaryOf at hf
  obtain ⟨_, e0, hf⟩ := pb_rd (rd_chk _ _) hf
  refine lv_aload_n hx hb dX10_boundaryOf_0 rfl (lv_at hl 0 rfl) ?_
  obtain ⟨v1, e1, hf⟩ := pb_rd (rd_gA _ _ _) hf
  refine r_gA C hW e1 flX10_38 rfl dX10_boundaryOf_1 ?_
  refine lv_iload_n hx hb dX10_boundaryOf_4 rfl (lv_at hl 2 rfl) ?_
  obtain ⟨v2, e2, hf⟩ := pb_rd (rd_lI _ _ _) hf
  refine r_iald C hW e2 dX10_boundaryOf_5 ?_
  refine lv_istore_n (lv' := [(3, .int v2), (0, .ref (ρ x0)), (1, .int x1), (2, .int x2)]) hx hb dX10_boundaryOf_6 rfl hl (by decide) rfl (fun ls hl => ?_)
  refine lv_aload_n hx hb dX10_boundaryOf_7 rfl (lv_at hl 1 rfl) ?_
  obtain ⟨v3, e3, hf⟩ := pb_rd (rd_gA _ _ _) hf
  refine r_gA C hW e3 flX10_32 rfl dX10_boundaryOf_8 ?_
  refine lv_iload_n hx hb dX10_boundaryOf_11 rfl (lv_at hl 0 rfl) ?_
  obtain ⟨v4, e4, hf⟩ := pb_rd (rd_lI _ _ _) hf
  refine r_iald C hW e4 dX10_boundaryOf_12 ?_
  refine lv_iload_n hx hb dX10_boundaryOf_13 rfl (lv_at hl 2 rfl) ?_
  refine lv_icmp_ne (tgt := 21) hx hb dX10_boundaryOf_14 (by decide) (fun c5 => ?_) (fun c5 => ?_)
  · rw [if_neg c5] at hf
    refine lv_iconst (v := 0) hx hb dX10_boundaryOf_21 (by decide) ?_
    refine lv_aload_n hx hb dX10_boundaryOf_22 rfl (lv_at hl 1 rfl) ?_
    obtain ⟨v6, e6, hf⟩ := pb_rd (rd_gA _ _ _) hf
    refine r_gA C hW e6 flX10_32 rfl dX10_boundaryOf_23 ?_
    refine lv_aload_n hx hb dX10_boundaryOf_26 rfl (lv_at hl 1 rfl) ?_
    refine lv_iload_n hx hb dX10_boundaryOf_27 rfl (lv_at hl 0 rfl) ?_
    obtain ⟨v7, h7, e7, hf⟩ := pb_some hf
    obtain ⟨_, _, t8⟩ := tgX10_s e7
    refine r_calli hW (pext e7) (run_V (b := x0) (As := [.int v2]) (rest := [.ref (ρ v6), .int (0 : Int32)]) C hW (metX10_s l G ρ e7) ⟨rfl, rfl⟩ kcX10_s (tq q_907 rfl) kiX10_s ksX10_s knX10_s kdX10_s t8 rfl rfl ⟨Nat.le_of_ble_eq_true rfl, Nat.le_of_ble_eq_true rfl⟩ hl.1 (Nat.le_of_ble_eq_true rfl) (room_of hW (pext e7) ((pext hf).tr hX)) dX10_boundaryOf_28 rfl) (fun H locs c1 s1 hW => ?_)
    obtain ⟨v9, e9, hf⟩ := pb_rd (rd_lI _ _ _) hf
    refine r_iald C hW e9 dX10_boundaryOf_31 ?_
    refine lv_iload_n hx hb dX10_boundaryOf_32 rfl (lv_at hl 2 rfl) ?_
    refine lv_icmp_ne (tgt := 40) hx hb dX10_boundaryOf_33 (by decide) (fun c10 => ?_) (fun c10 => ?_)
    · rw [if_neg c10] at hf
      refine lv_iconst (v := 0) hx hb dX10_boundaryOf_40 (by decide) ?_
      refine lv_isub hx hb dX10_boundaryOf_41 ?_
      obtain ⟨rfl, rfl⟩ := pp_some hf
      exact r_iret C hW dX10_boundaryOf_42
    · rw [if_pos c10] at hf
      refine lv_iconst (v := 1) hx hb dX10_boundaryOf_36 (by decide) ?_
      refine lv_goto (tgt := 41) hx hb dX10_boundaryOf_37 (by decide) ?_
      refine lv_isub hx hb dX10_boundaryOf_41 ?_
      obtain ⟨rfl, rfl⟩ := pp_some hf
      exact r_iret C hW dX10_boundaryOf_42
  · rw [if_pos c5] at hf
    refine lv_iconst (v := 1) hx hb dX10_boundaryOf_17 (by decide) ?_
    refine lv_goto (tgt := 22) hx hb dX10_boundaryOf_18 (by decide) ?_
    refine lv_aload_n hx hb dX10_boundaryOf_22 rfl (lv_at hl 1 rfl) ?_
    obtain ⟨v11, e11, hf⟩ := pb_rd (rd_gA _ _ _) hf
    refine r_gA C hW e11 flX10_32 rfl dX10_boundaryOf_23 ?_
    refine lv_aload_n hx hb dX10_boundaryOf_26 rfl (lv_at hl 1 rfl) ?_
    refine lv_iload_n hx hb dX10_boundaryOf_27 rfl (lv_at hl 0 rfl) ?_
    obtain ⟨v12, h12, e12, hf⟩ := pb_some hf
    obtain ⟨_, _, t13⟩ := tgX10_s e12
    refine r_calli hW (pext e12) (run_V (b := x0) (As := [.int v2]) (rest := [.ref (ρ v11), .int (1 : Int32)]) C hW (metX10_s l G ρ e12) ⟨rfl, rfl⟩ kcX10_s (tq q_907 rfl) kiX10_s ksX10_s knX10_s kdX10_s t13 rfl rfl ⟨Nat.le_of_ble_eq_true rfl, Nat.le_of_ble_eq_true rfl⟩ hl.1 (Nat.le_of_ble_eq_true rfl) (room_of hW (pext e12) ((pext hf).tr hX)) dX10_boundaryOf_28 rfl) (fun H locs c1 s1 hW => ?_)
    obtain ⟨v14, e14, hf⟩ := pb_rd (rd_lI _ _ _) hf
    refine r_iald C hW e14 dX10_boundaryOf_31 ?_
    refine lv_iload_n hx hb dX10_boundaryOf_32 rfl (lv_at hl 2 rfl) ?_
    refine lv_icmp_ne (tgt := 40) hx hb dX10_boundaryOf_33 (by decide) (fun c15 => ?_) (fun c15 => ?_)
    · rw [if_neg c15] at hf
      refine lv_iconst (v := 0) hx hb dX10_boundaryOf_40 (by decide) ?_
      refine lv_isub hx hb dX10_boundaryOf_41 ?_
      obtain ⟨rfl, rfl⟩ := pp_some hf
      exact r_iret C hW dX10_boundaryOf_42
    · rw [if_pos c15] at hf
      refine lv_iconst (v := 1) hx hb dX10_boundaryOf_36 (by decide) ?_
      refine lv_goto (tgt := 41) hx hb dX10_boundaryOf_37 (by decide) ?_
      refine lv_isub hx hb dX10_boundaryOf_41 ?_
      obtain ⟨rfl, rfl⟩ := pp_some hf
      exact r_iret C hW dX10_boundaryOf_42

theorem dX10_takesOff_0 : decode cX10_takesOff 0 = .ok (.iconst 0, 1) := by decide +kernel
theorem dX10_takesOff_1 : decode cX10_takesOff 1 = .ok (.istore 7, 2) := by decide +kernel
theorem dX10_takesOff_3 : decode cX10_takesOff 3 = .ok (.iload 7, 2) := by decide +kernel
theorem dX10_takesOff_5 : decode cX10_takesOff 5 = .ok (.aload_n 0, 1) := by decide +kernel
theorem dX10_takesOff_6 : decode cX10_takesOff 6 = .ok (.getfield 192, 3) := by decide +kernel
theorem dX10_takesOff_9 : decode cX10_takesOff 9 = .ok (.if_icmp .ge 97, 3) := by decide +kernel
theorem dX10_takesOff_12 : decode cX10_takesOff 12 = .ok (.aload_n 0, 1) := by decide +kernel
theorem dX10_takesOff_13 : decode cX10_takesOff 13 = .ok (.aload_n 0, 1) := by decide +kernel
theorem dX10_takesOff_14 : decode cX10_takesOff 14 = .ok (.getfield 63, 3) := by decide +kernel
theorem dX10_takesOff_17 : decode cX10_takesOff 17 = .ok (.bipush 16, 2) := by decide +kernel
theorem dX10_takesOff_19 : decode cX10_takesOff 19 = .ok (.iload_n 1, 1) := by decide +kernel
theorem dX10_takesOff_20 : decode cX10_takesOff 20 = .ok (.imul, 1) := by decide +kernel
theorem dX10_takesOff_21 : decode cX10_takesOff 21 = .ok (.iload 7, 2) := by decide +kernel
theorem dX10_takesOff_23 : decode cX10_takesOff 23 = .ok (.iadd, 1) := by decide +kernel
theorem dX10_takesOff_24 : decode cX10_takesOff 24 = .ok (.laload, 1) := by decide +kernel
theorem dX10_takesOff_25 : decode cX10_takesOff 25 = .ok (.aload_n 0, 1) := by decide +kernel
theorem dX10_takesOff_26 : decode cX10_takesOff 26 = .ok (.getfield 66, 3) := by decide +kernel
theorem dX10_takesOff_29 : decode cX10_takesOff 29 = .ok (.bipush 16, 2) := by decide +kernel
theorem dX10_takesOff_31 : decode cX10_takesOff 31 = .ok (.iload_n 1, 1) := by decide +kernel
theorem dX10_takesOff_32 : decode cX10_takesOff 32 = .ok (.imul, 1) := by decide +kernel
theorem dX10_takesOff_33 : decode cX10_takesOff 33 = .ok (.iload 7, 2) := by decide +kernel
theorem dX10_takesOff_35 : decode cX10_takesOff 35 = .ok (.iadd, 1) := by decide +kernel
theorem dX10_takesOff_36 : decode cX10_takesOff 36 = .ok (.laload, 1) := by decide +kernel
theorem dX10_takesOff_37 : decode cX10_takesOff 37 = .ok (.lload_n 3, 1) := by decide +kernel
theorem dX10_takesOff_38 : decode cX10_takesOff 38 = .ok (.lneg, 1) := by decide +kernel
theorem dX10_takesOff_39 : decode cX10_takesOff 39 = .ok (.lload 5, 2) := by decide +kernel
theorem dX10_takesOff_41 : decode cX10_takesOff 41 = .ok (.aload_n 0, 1) := by decide +kernel
theorem dX10_takesOff_42 : decode cX10_takesOff 42 = .ok (.getfield 63, 3) := by decide +kernel
theorem dX10_takesOff_45 : decode cX10_takesOff 45 = .ok (.bipush 16, 2) := by decide +kernel
theorem dX10_takesOff_47 : decode cX10_takesOff 47 = .ok (.iload_n 2, 1) := by decide +kernel
theorem dX10_takesOff_48 : decode cX10_takesOff 48 = .ok (.imul, 1) := by decide +kernel
theorem dX10_takesOff_49 : decode cX10_takesOff 49 = .ok (.iload 7, 2) := by decide +kernel
theorem dX10_takesOff_51 : decode cX10_takesOff 51 = .ok (.iadd, 1) := by decide +kernel
theorem dX10_takesOff_52 : decode cX10_takesOff 52 = .ok (.laload, 1) := by decide +kernel
theorem dX10_takesOff_53 : decode cX10_takesOff 53 = .ok (.aload_n 0, 1) := by decide +kernel
theorem dX10_takesOff_54 : decode cX10_takesOff 54 = .ok (.getfield 66, 3) := by decide +kernel
theorem dX10_takesOff_57 : decode cX10_takesOff 57 = .ok (.bipush 16, 2) := by decide +kernel
theorem dX10_takesOff_59 : decode cX10_takesOff 59 = .ok (.iload_n 2, 1) := by decide +kernel
theorem dX10_takesOff_60 : decode cX10_takesOff 60 = .ok (.imul, 1) := by decide +kernel
theorem dX10_takesOff_61 : decode cX10_takesOff 61 = .ok (.iload 7, 2) := by decide +kernel
theorem dX10_takesOff_63 : decode cX10_takesOff 63 = .ok (.iadd, 1) := by decide +kernel
theorem dX10_takesOff_64 : decode cX10_takesOff 64 = .ok (.laload, 1) := by decide +kernel
theorem dX10_takesOff_65 : decode cX10_takesOff 65 = .ok (.invokevirtual 169, 3) := by decide +kernel
theorem dX10_takesOff_68 : decode cX10_takesOff 68 = .ok (.aload_n 0, 1) := by decide +kernel
theorem dX10_takesOff_69 : decode cX10_takesOff 69 = .ok (.getfield 63, 3) := by decide +kernel
theorem dX10_takesOff_72 : decode cX10_takesOff 72 = .ok (.bipush 16, 2) := by decide +kernel
theorem dX10_takesOff_74 : decode cX10_takesOff 74 = .ok (.iload_n 1, 1) := by decide +kernel
theorem dX10_takesOff_75 : decode cX10_takesOff 75 = .ok (.imul, 1) := by decide +kernel
theorem dX10_takesOff_76 : decode cX10_takesOff 76 = .ok (.iload 7, 2) := by decide +kernel
theorem dX10_takesOff_78 : decode cX10_takesOff 78 = .ok (.iadd, 1) := by decide +kernel
theorem dX10_takesOff_79 : decode cX10_takesOff 79 = .ok (.aload_n 0, 1) := by decide +kernel
theorem dX10_takesOff_80 : decode cX10_takesOff 80 = .ok (.getfield 133, 3) := by decide +kernel
theorem dX10_takesOff_83 : decode cX10_takesOff 83 = .ok (.lastore, 1) := by decide +kernel
theorem dX10_takesOff_84 : decode cX10_takesOff 84 = .ok (.aload_n 0, 1) := by decide +kernel
theorem dX10_takesOff_85 : decode cX10_takesOff 85 = .ok (.getfield 66, 3) := by decide +kernel
theorem dX10_takesOff_88 : decode cX10_takesOff 88 = .ok (.bipush 16, 2) := by decide +kernel
theorem dX10_takesOff_90 : decode cX10_takesOff 90 = .ok (.iload_n 1, 1) := by decide +kernel
theorem dX10_takesOff_91 : decode cX10_takesOff 91 = .ok (.imul, 1) := by decide +kernel
theorem dX10_takesOff_92 : decode cX10_takesOff 92 = .ok (.iload 7, 2) := by decide +kernel
theorem dX10_takesOff_94 : decode cX10_takesOff 94 = .ok (.iadd, 1) := by decide +kernel
theorem dX10_takesOff_95 : decode cX10_takesOff 95 = .ok (.aload_n 0, 1) := by decide +kernel
theorem dX10_takesOff_96 : decode cX10_takesOff 96 = .ok (.getfield 137, 3) := by decide +kernel
theorem dX10_takesOff_99 : decode cX10_takesOff 99 = .ok (.lastore, 1) := by decide +kernel
theorem dX10_takesOff_100 : decode cX10_takesOff 100 = .ok (.iinc 7 1, 3) := by decide +kernel
theorem dX10_takesOff_103 : decode cX10_takesOff 103 = .ok (.goto (-100), 3) := by decide +kernel
theorem dX10_takesOff_106 : decode cX10_takesOff 106 = .ok (.return_, 1) := by decide +kernel
theorem kcX10_takesOff : Cond.code yX10_takesOff cX10_takesOff 8 none ∈ tb := tq q_986 rfl
theorem knX10_takesOff : Cond.initialized yX10_takesOff.cls ∈ tb := (tq q_10 rfl)
theorem kdX10_takesOff : yX10_takesOff.cls ≠ "java/lang/invoke/MethodHandle" ∧ yX10_takesOff.cls ≠ "java/lang/invoke/VarHandle" ∧ (parseMethodDescriptor yX10_takesOff.desc).map (fun d => d.parameters.length) = some 4 := ⟨by decide +kernel, by decide +kernel, by decide +kernel⟩
theorem kiX10_takesOff : Cond.instanceMethod yX10_takesOff ∈ tb := (tq q_985 rfl)
theorem ksX10_takesOff : Cond.selects yX10_takesOff.cls yX10_takesOff yX10_takesOff ∈ tb := (tq z_55 rfl)
theorem tgX10_takesOff {x0 : Nat} {x1 : Int32} {x2 : Int32} {x3 : Int64} {x5 : Int64} {h : PH} {r : Unit × PH} (hf : (fX10_takesOff x0 x1 x2 x3 x5).1 h = some r) : ∃ n x, nth h x0 = some (9, n, x) := by
  obtain ⟨_, _, e, _⟩ := pb_some hf
  exact (chk_some e).2
set_option maxHeartbeats 4000000 in
set_option maxRecDepth 100000 in
theorem wX10_takesOff_B3 {p : Program} {l : Launch} {e : Env} {s : State} {m : MethodId} {args : Array Value} {below : List Frame} {meth : Method} {c : Code} {G : GG} {ρ : Nat → Nat} {h0 hE hB : PH} {Q : State → Prop} {x0 : Nat} {x1 : Int32} {x2 : Int32} {x3 : Int64} {x5 : Int64} (C : Cx G "PairSymbolsModel" cX10_takesOff 8 none "takesOff" p s m args meth c) {x7 : Int32} {h : PH} {H : Heap} {locs : List Loc} {cells slots : Nat} {ls : Array Slot} {r : (Int32) ⊕ (Unit)} (hf : (fX10_takesOff_b3 x0 x1 x2 x3 x5 x7).1 h = some (r, hB)) (hX : Ext hB hE) (hW : Wd G ρ h0.length (sl h0) s.heap h H locs cells slots) (hl : lv_has ls 8 [(0, .ref (ρ x0)), (1, .int x1), (2, .int x2), (3, .long x3), (5, .long x5), (7, .int x7)]) (kc : ∀ y : Int32, r = .inl y → ∀ (H : Heap) (locs : List Loc) (c1 s1 : Nat) (ls : Array Slot), Wd G ρ h0.length (sl h0) s.heap hB H locs c1 s1 → lv_has ls 8 [(0, .ref (ρ x0)), (1, .int x1), (2, .int x2), (3, .long x3), (5, .long x5), (7, .int y)] → W p l e (RM 4 115 h0 hE) s m args below meth c H locs c1 s1 Q (F0 m 3 ls [])) (ke : ∀ z : Unit, r = .inr z → ∀ (H : Heap) (locs : List Loc) (c1 s1 : Nat) (ls : Array Slot), Wd G ρ h0.length (sl h0) s.heap hB H locs c1 s1 → lv_has ls 8 [] → W p l e (RM 4 115 h0 hE) s m args below meth c H locs c1 s1 Q (F0 m 106 ls [])) : W p l e (RM 4 115 h0 hE) s m args below meth c H locs cells slots Q (F0 m 3 ls []) := by
  have hx := C.1
  have hb := C.2.1
  unfold fX10_takesOff_b3 at hf
  refine lv_iload hx hb dX10_takesOff_3 (lv_at hl 5 rfl) ?_
  refine lv_aload_n hx hb dX10_takesOff_5 rfl (lv_at hl 0 rfl) ?_
  obtain ⟨v1, e1, hf⟩ := pb_rd (rd_gI _ _ _) hf
  refine r_gI C hW e1 flX10_192 rfl dX10_takesOff_6 ?_
  refine lv_icmp_ge (tgt := 106) hx hb dX10_takesOff_9 (by decide) (fun c2 => ?_) (fun c2 => ?_)
  · rw [if_pos c2] at hf
    obtain ⟨rfl, rfl⟩ := pp_some hf
    exact ke _ rfl _ _ _ _ _ hW (lv_sub hl [] rfl)
  · rw [if_neg c2] at hf
    refine lv_aload_n hx hb dX10_takesOff_12 rfl (lv_at hl 0 rfl) ?_
    refine lv_aload_n hx hb dX10_takesOff_13 rfl (lv_at hl 0 rfl) ?_
    obtain ⟨v3, e3, hf⟩ := pb_rd (rd_gA _ _ _) hf
    refine r_gA C hW e3 flX10_63 rfl dX10_takesOff_14 ?_
    refine lv_bipush (v := 16) hx hb dX10_takesOff_17 (by decide) ?_
    refine lv_iload_n hx hb dX10_takesOff_19 rfl (lv_at hl 1 rfl) ?_
    refine lv_imul hx hb dX10_takesOff_20 ?_
    refine lv_iload hx hb dX10_takesOff_21 (lv_at hl 5 rfl) ?_
    refine lv_iadd hx hb dX10_takesOff_23 ?_
    obtain ⟨v4, e4, hf⟩ := pb_rd (rd_lJ _ _ _) hf
    refine r_lald C hW e4 dX10_takesOff_24 ?_
    refine lv_aload_n hx hb dX10_takesOff_25 rfl (lv_at hl 0 rfl) ?_
    obtain ⟨v5, e5, hf⟩ := pb_rd (rd_gA _ _ _) hf
    refine r_gA C hW e5 flX10_66 rfl dX10_takesOff_26 ?_
    refine lv_bipush (v := 16) hx hb dX10_takesOff_29 (by decide) ?_
    refine lv_iload_n hx hb dX10_takesOff_31 rfl (lv_at hl 1 rfl) ?_
    refine lv_imul hx hb dX10_takesOff_32 ?_
    refine lv_iload hx hb dX10_takesOff_33 (lv_at hl 5 rfl) ?_
    refine lv_iadd hx hb dX10_takesOff_35 ?_
    obtain ⟨v6, e6, hf⟩ := pb_rd (rd_lJ _ _ _) hf
    refine r_lald C hW e6 dX10_takesOff_36 ?_
    refine lv_lload_n hx hb dX10_takesOff_37 rfl (lv_at hl 3 rfl) ?_
    refine lv_lneg hx hb dX10_takesOff_38 ?_
    refine lv_lload hx hb dX10_takesOff_39 (lv_at hl 4 rfl) ?_
    refine lv_aload_n hx hb dX10_takesOff_41 rfl (lv_at hl 0 rfl) ?_
    obtain ⟨v7, e7, hf⟩ := pb_rd (rd_gA _ _ _) hf
    refine r_gA C hW e7 flX10_63 rfl dX10_takesOff_42 ?_
    refine lv_bipush (v := 16) hx hb dX10_takesOff_45 (by decide) ?_
    refine lv_iload_n hx hb dX10_takesOff_47 rfl (lv_at hl 2 rfl) ?_
    refine lv_imul hx hb dX10_takesOff_48 ?_
    refine lv_iload hx hb dX10_takesOff_49 (lv_at hl 5 rfl) ?_
    refine lv_iadd hx hb dX10_takesOff_51 ?_
    obtain ⟨v8, e8, hf⟩ := pb_rd (rd_lJ _ _ _) hf
    refine r_lald C hW e8 dX10_takesOff_52 ?_
    refine lv_aload_n hx hb dX10_takesOff_53 rfl (lv_at hl 0 rfl) ?_
    obtain ⟨v9, e9, hf⟩ := pb_rd (rd_gA _ _ _) hf
    refine r_gA C hW e9 flX10_66 rfl dX10_takesOff_54 ?_
    refine lv_bipush (v := 16) hx hb dX10_takesOff_57 (by decide) ?_
    refine lv_iload_n hx hb dX10_takesOff_59 rfl (lv_at hl 2 rfl) ?_
    refine lv_imul hx hb dX10_takesOff_60 ?_
    refine lv_iload hx hb dX10_takesOff_61 (lv_at hl 5 rfl) ?_
    refine lv_iadd hx hb dX10_takesOff_63 ?_
    obtain ⟨v10, e10, hf⟩ := pb_rd (rd_lJ _ _ _) hf
    refine r_lald C hW e10 dX10_takesOff_64 ?_
    obtain ⟨_, h11, e11, hf⟩ := pb_some hf
    obtain ⟨_, _, t12⟩ := tgX10_more e11
    refine r_callv hW (pext e11) (run_V (b := x0) (As := [.long v4, .long v6, .long (-x3), .long x5, .long v8, .long v10]) (rest := []) C hW (metX10_more l G ρ e11) ⟨rfl, rfl⟩ kcX10_more (tq q_919 rfl) kiX10_more ksX10_more knX10_more kdX10_more t12 rfl rfl ⟨Nat.le_of_ble_eq_true rfl, Nat.le_of_ble_eq_true rfl⟩ hl.1 (Nat.le_of_ble_eq_true rfl) (room_of hW (pext e11) ((pext hf).tr hX)) dX10_takesOff_65 rfl) (fun H locs c1 s1 hW => ?_)
    refine lv_aload_n hx hb dX10_takesOff_68 rfl (lv_at hl 0 rfl) ?_
    obtain ⟨v13, e13, hf⟩ := pb_rd (rd_gA _ _ _) hf
    refine r_gA C hW e13 flX10_63 rfl dX10_takesOff_69 ?_
    refine lv_bipush (v := 16) hx hb dX10_takesOff_72 (by decide) ?_
    refine lv_iload_n hx hb dX10_takesOff_74 rfl (lv_at hl 1 rfl) ?_
    refine lv_imul hx hb dX10_takesOff_75 ?_
    refine lv_iload hx hb dX10_takesOff_76 (lv_at hl 5 rfl) ?_
    refine lv_iadd hx hb dX10_takesOff_78 ?_
    refine lv_aload_n hx hb dX10_takesOff_79 rfl (lv_at hl 0 rfl) ?_
    obtain ⟨v14, e14, hf⟩ := pb_rd (rd_gJ _ _ _) hf
    refine r_gJ C hW e14 flX10_133 rfl dX10_takesOff_80 ?_
    obtain ⟨_, h15, e15, hf⟩ := pb_some hf
    refine r_last C hW e15 dX10_takesOff_83 (fun H locs hW => ?_)
    refine lv_aload_n hx hb dX10_takesOff_84 rfl (lv_at hl 0 rfl) ?_
    obtain ⟨v16, e16, hf⟩ := pb_rd (rd_gA _ _ _) hf
    refine r_gA C hW e16 flX10_66 rfl dX10_takesOff_85 ?_
    refine lv_bipush (v := 16) hx hb dX10_takesOff_88 (by decide) ?_
    refine lv_iload_n hx hb dX10_takesOff_90 rfl (lv_at hl 1 rfl) ?_
    refine lv_imul hx hb dX10_takesOff_91 ?_
    refine lv_iload hx hb dX10_takesOff_92 (lv_at hl 5 rfl) ?_
    refine lv_iadd hx hb dX10_takesOff_94 ?_
    refine lv_aload_n hx hb dX10_takesOff_95 rfl (lv_at hl 0 rfl) ?_
    obtain ⟨v17, e17, hf⟩ := pb_rd (rd_gJ _ _ _) hf
    refine r_gJ C hW e17 flX10_137 rfl dX10_takesOff_96 ?_
    obtain ⟨_, h18, e18, hf⟩ := pb_some hf
    refine r_last C hW e18 dX10_takesOff_99 (fun H locs hW => ?_)
    refine lv_iinc (v := (x7 + 1)) (lv' := [(7, .int (x7 + 1)), (0, .ref (ρ x0)), (1, .int x1), (2, .int x2), (3, .long x3), (5, .long x5)]) hx hb dX10_takesOff_100 hl (k := 5) rfl rfl (by decide) rfl (fun ls hl => ?_)
    refine lv_goto (tgt := 3) hx hb dX10_takesOff_103 (by decide) ?_
    obtain ⟨rfl, rfl⟩ := pp_some hf
    exact kc _ rfl _ _ _ _ _ hW (lv_sub hl [1, 2, 3, 4, 5, 0] rfl)
set_option maxHeartbeats 4000000 in
theorem wX10_takesOff_L3 {p : Program} {l : Launch} {e : Env} {s : State} {m : MethodId} {args : Array Value} {below : List Frame} {meth : Method} {c : Code} {G : GG} {ρ : Nat → Nat} {h0 hE hB : PH} {Q : State → Prop} {x0 : Nat} {x1 : Int32} {x2 : Int32} {x3 : Int64} {x5 : Int64} (C : Cx G "PairSymbolsModel" cX10_takesOff 8 none "takesOff" p s m args meth c) {z : (Unit)} (n : Nat) : ∀ (x : Int32) {h : PH} {H : Heap} {locs : List Loc} {cells slots : Nat} {ls : Array Slot}, (plo (fX10_takesOff_B3 x0 x1 x2 x3 x5) n x).1 h = some (z, hB) → Ext hB hE → Wd G ρ h0.length (sl h0) s.heap h H locs cells slots → lv_has ls 8 [(0, .ref (ρ x0)), (1, .int x1), (2, .int x2), (3, .long x3), (5, .long x5), (7, .int x)] → (ke : ∀ (H : Heap) (locs : List Loc) (c1 s1 : Nat) (ls : Array Slot), Wd G ρ h0.length (sl h0) s.heap hB H locs c1 s1 → lv_has ls 8 [] → W p l e (RM 4 115 h0 hE) s m args below meth c H locs c1 s1 Q (F0 m 106 ls [])) → W p l e (RM 4 115 h0 hE) s m args below meth c H locs cells slots Q (F0 m 3 ls []) := by
  induction n with
  | zero =>
    intro x h H locs cells slots ls hf
    rw [plo_0] at hf
    exact (pf_no hf).elim
  | succ n ih =>
    intro x h H locs cells slots ls hf hX hW hl ke
    rw [plo_s] at hf
    obtain ⟨r, h1, e1, hf⟩ := pb_some hf
    unfold fX10_takesOff_B3 at e1
    rw [frI_eq] at e1
    refine wX10_takesOff_B3 C e1 ((pext hf).tr hX) hW hl (fun y hr H locs c1 s1 ls hW hl => ?_) (fun y hr H locs c1 s1 ls hW hl => ?_)
    · subst hr
      exact ih y hf hX hW hl ke
    · subst hr
      obtain ⟨rfl, rfl⟩ := pp_some hf
      exact ke H locs c1 s1 ls hW hl
set_option maxHeartbeats 4000000 in
set_option maxRecDepth 100000 in
theorem metX10_takesOff (l : Launch) (G : GG) (ρ : Nat → Nat) {z : Nat} {x0 : Nat} {x1 : Int32} {x2 : Int32} {x3 : Int64} {x5 : Int64} {h hE : PH} {v : Unit} (hf : (fX10_takesOff x0 x1 x2 x3 x5).1 h = some (v, hE)) : Met l yX10_takesOff (wsY yX10_takesOff cX10_takesOff 8 none) (RM 4 115 h hE) (va_Pc [.ref (ρ x0), .int x1, .int x2, .long x3, .long x5] (PcB G ρ h z)) (QV G ρ hE h.length z) (DC h hE) (DS h hE) (Af ρ h.length z) := by
  refine met_start (by decide) (Nat.le_of_ble_eq_true rfl) ?_
  intro p e s m below meth c ls hz C hW hl
  subst hz
  have C : Cx G "PairSymbolsModel" cX10_takesOff 8 none "takesOff" p s m _ meth c := C
  have hx := C.1
  have hb := C.2.1
  have hX : Ext hE hE := Ext.rf hE
  have hl : lv_has ls 8 [(0, .ref (ρ x0)), (1, .int x1), (2, .int x2), (3, .long x3), (5, .long x5)] := hl
  have hW : Wd G ρ h.length (sl h) s.heap h s.heap [] 0 0 := hW
  unfold fX10_takesOff at hf
  obtain ⟨_, e0, hf⟩ := pb_rd (rd_chk _ _) hf
  refine lv_iconst (v := 0) hx hb dX10_takesOff_0 (by decide) ?_
  refine lv_istore (lv' := [(7, .int (0 : Int32)), (0, .ref (ρ x0)), (1, .int x1), (2, .int x2), (3, .long x3), (5, .long x5)]) hx hb dX10_takesOff_1 hl (by decide) rfl (fun ls hl => ?_)
  obtain ⟨z19, h19, e19, hf⟩ := pb_some hf
  refine wX10_takesOff_L3 C fu _ e19 ((pext hf).tr hX) hW (lv_sub hl [1, 2, 3, 4, 5, 0] rfl) (fun H locs c1 s1 ls hW hl => ?_)
  obtain ⟨rfl, rfl⟩ := pp_some hf
  exact r_vret C hW dX10_takesOff_106

theorem dX10_exchanges_0 : decode cX10_exchanges 0 = .ok (.iconst 0, 1) := by decide +kernel
theorem dX10_exchanges_1 : decode cX10_exchanges 1 = .ok (.istore_n 3, 1) := by decide +kernel
theorem dX10_exchanges_2 : decode cX10_exchanges 2 = .ok (.iload_n 3, 1) := by decide +kernel
theorem dX10_exchanges_3 : decode cX10_exchanges 3 = .ok (.aload_n 0, 1) := by decide +kernel
theorem dX10_exchanges_4 : decode cX10_exchanges 4 = .ok (.getfield 192, 3) := by decide +kernel
theorem dX10_exchanges_7 : decode cX10_exchanges 7 = .ok (.if_icmp .ge 105, 3) := by decide +kernel
theorem dX10_exchanges_10 : decode cX10_exchanges 10 = .ok (.aload_n 0, 1) := by decide +kernel
theorem dX10_exchanges_11 : decode cX10_exchanges 11 = .ok (.getfield 63, 3) := by decide +kernel
theorem dX10_exchanges_14 : decode cX10_exchanges 14 = .ok (.bipush 16, 2) := by decide +kernel
theorem dX10_exchanges_16 : decode cX10_exchanges 16 = .ok (.iload_n 1, 1) := by decide +kernel
theorem dX10_exchanges_17 : decode cX10_exchanges 17 = .ok (.imul, 1) := by decide +kernel
theorem dX10_exchanges_18 : decode cX10_exchanges 18 = .ok (.iload_n 3, 1) := by decide +kernel
theorem dX10_exchanges_19 : decode cX10_exchanges 19 = .ok (.iadd, 1) := by decide +kernel
theorem dX10_exchanges_20 : decode cX10_exchanges 20 = .ok (.laload, 1) := by decide +kernel
theorem dX10_exchanges_21 : decode cX10_exchanges 21 = .ok (.lstore 4, 2) := by decide +kernel
theorem dX10_exchanges_23 : decode cX10_exchanges 23 = .ok (.aload_n 0, 1) := by decide +kernel
theorem dX10_exchanges_24 : decode cX10_exchanges 24 = .ok (.getfield 63, 3) := by decide +kernel
theorem dX10_exchanges_27 : decode cX10_exchanges 27 = .ok (.bipush 16, 2) := by decide +kernel
theorem dX10_exchanges_29 : decode cX10_exchanges 29 = .ok (.iload_n 1, 1) := by decide +kernel
theorem dX10_exchanges_30 : decode cX10_exchanges 30 = .ok (.imul, 1) := by decide +kernel
theorem dX10_exchanges_31 : decode cX10_exchanges 31 = .ok (.iload_n 3, 1) := by decide +kernel
theorem dX10_exchanges_32 : decode cX10_exchanges 32 = .ok (.iadd, 1) := by decide +kernel
theorem dX10_exchanges_33 : decode cX10_exchanges 33 = .ok (.aload_n 0, 1) := by decide +kernel
theorem dX10_exchanges_34 : decode cX10_exchanges 34 = .ok (.getfield 63, 3) := by decide +kernel
theorem dX10_exchanges_37 : decode cX10_exchanges 37 = .ok (.bipush 16, 2) := by decide +kernel
theorem dX10_exchanges_39 : decode cX10_exchanges 39 = .ok (.iload_n 2, 1) := by decide +kernel
theorem dX10_exchanges_40 : decode cX10_exchanges 40 = .ok (.imul, 1) := by decide +kernel
theorem dX10_exchanges_41 : decode cX10_exchanges 41 = .ok (.iload_n 3, 1) := by decide +kernel
theorem dX10_exchanges_42 : decode cX10_exchanges 42 = .ok (.iadd, 1) := by decide +kernel
theorem dX10_exchanges_43 : decode cX10_exchanges 43 = .ok (.laload, 1) := by decide +kernel
theorem dX10_exchanges_44 : decode cX10_exchanges 44 = .ok (.lastore, 1) := by decide +kernel
theorem dX10_exchanges_45 : decode cX10_exchanges 45 = .ok (.aload_n 0, 1) := by decide +kernel
theorem dX10_exchanges_46 : decode cX10_exchanges 46 = .ok (.getfield 63, 3) := by decide +kernel
theorem dX10_exchanges_49 : decode cX10_exchanges 49 = .ok (.bipush 16, 2) := by decide +kernel
theorem dX10_exchanges_51 : decode cX10_exchanges 51 = .ok (.iload_n 2, 1) := by decide +kernel
theorem dX10_exchanges_52 : decode cX10_exchanges 52 = .ok (.imul, 1) := by decide +kernel
theorem dX10_exchanges_53 : decode cX10_exchanges 53 = .ok (.iload_n 3, 1) := by decide +kernel
theorem dX10_exchanges_54 : decode cX10_exchanges 54 = .ok (.iadd, 1) := by decide +kernel
theorem dX10_exchanges_55 : decode cX10_exchanges 55 = .ok (.lload 4, 2) := by decide +kernel
theorem dX10_exchanges_57 : decode cX10_exchanges 57 = .ok (.lastore, 1) := by decide +kernel
theorem dX10_exchanges_58 : decode cX10_exchanges 58 = .ok (.aload_n 0, 1) := by decide +kernel
theorem dX10_exchanges_59 : decode cX10_exchanges 59 = .ok (.getfield 66, 3) := by decide +kernel
theorem dX10_exchanges_62 : decode cX10_exchanges 62 = .ok (.bipush 16, 2) := by decide +kernel
theorem dX10_exchanges_64 : decode cX10_exchanges 64 = .ok (.iload_n 1, 1) := by decide +kernel
theorem dX10_exchanges_65 : decode cX10_exchanges 65 = .ok (.imul, 1) := by decide +kernel
theorem dX10_exchanges_66 : decode cX10_exchanges 66 = .ok (.iload_n 3, 1) := by decide +kernel
theorem dX10_exchanges_67 : decode cX10_exchanges 67 = .ok (.iadd, 1) := by decide +kernel
theorem dX10_exchanges_68 : decode cX10_exchanges 68 = .ok (.laload, 1) := by decide +kernel
theorem dX10_exchanges_69 : decode cX10_exchanges 69 = .ok (.lstore 4, 2) := by decide +kernel
theorem dX10_exchanges_71 : decode cX10_exchanges 71 = .ok (.aload_n 0, 1) := by decide +kernel
theorem dX10_exchanges_72 : decode cX10_exchanges 72 = .ok (.getfield 66, 3) := by decide +kernel
theorem dX10_exchanges_75 : decode cX10_exchanges 75 = .ok (.bipush 16, 2) := by decide +kernel
theorem dX10_exchanges_77 : decode cX10_exchanges 77 = .ok (.iload_n 1, 1) := by decide +kernel
theorem dX10_exchanges_78 : decode cX10_exchanges 78 = .ok (.imul, 1) := by decide +kernel
theorem dX10_exchanges_79 : decode cX10_exchanges 79 = .ok (.iload_n 3, 1) := by decide +kernel
theorem dX10_exchanges_80 : decode cX10_exchanges 80 = .ok (.iadd, 1) := by decide +kernel
theorem dX10_exchanges_81 : decode cX10_exchanges 81 = .ok (.aload_n 0, 1) := by decide +kernel
theorem dX10_exchanges_82 : decode cX10_exchanges 82 = .ok (.getfield 66, 3) := by decide +kernel
theorem dX10_exchanges_85 : decode cX10_exchanges 85 = .ok (.bipush 16, 2) := by decide +kernel
theorem dX10_exchanges_87 : decode cX10_exchanges 87 = .ok (.iload_n 2, 1) := by decide +kernel
theorem dX10_exchanges_88 : decode cX10_exchanges 88 = .ok (.imul, 1) := by decide +kernel
theorem dX10_exchanges_89 : decode cX10_exchanges 89 = .ok (.iload_n 3, 1) := by decide +kernel
theorem dX10_exchanges_90 : decode cX10_exchanges 90 = .ok (.iadd, 1) := by decide +kernel
theorem dX10_exchanges_91 : decode cX10_exchanges 91 = .ok (.laload, 1) := by decide +kernel
theorem dX10_exchanges_92 : decode cX10_exchanges 92 = .ok (.lastore, 1) := by decide +kernel
theorem dX10_exchanges_93 : decode cX10_exchanges 93 = .ok (.aload_n 0, 1) := by decide +kernel
theorem dX10_exchanges_94 : decode cX10_exchanges 94 = .ok (.getfield 66, 3) := by decide +kernel
theorem dX10_exchanges_97 : decode cX10_exchanges 97 = .ok (.bipush 16, 2) := by decide +kernel
theorem dX10_exchanges_99 : decode cX10_exchanges 99 = .ok (.iload_n 2, 1) := by decide +kernel
theorem dX10_exchanges_100 : decode cX10_exchanges 100 = .ok (.imul, 1) := by decide +kernel
theorem dX10_exchanges_101 : decode cX10_exchanges 101 = .ok (.iload_n 3, 1) := by decide +kernel
theorem dX10_exchanges_102 : decode cX10_exchanges 102 = .ok (.iadd, 1) := by decide +kernel
theorem dX10_exchanges_103 : decode cX10_exchanges 103 = .ok (.lload 4, 2) := by decide +kernel
theorem dX10_exchanges_105 : decode cX10_exchanges 105 = .ok (.lastore, 1) := by decide +kernel
theorem dX10_exchanges_106 : decode cX10_exchanges 106 = .ok (.iinc 3 1, 3) := by decide +kernel
theorem dX10_exchanges_109 : decode cX10_exchanges 109 = .ok (.goto (-107), 3) := by decide +kernel
theorem dX10_exchanges_112 : decode cX10_exchanges 112 = .ok (.return_, 1) := by decide +kernel
theorem kcX10_exchanges : Cond.code yX10_exchanges cX10_exchanges 6 none ∈ tb := tq q_978 rfl
theorem knX10_exchanges : Cond.initialized yX10_exchanges.cls ∈ tb := (tq q_10 rfl)
theorem kdX10_exchanges : yX10_exchanges.cls ≠ "java/lang/invoke/MethodHandle" ∧ yX10_exchanges.cls ≠ "java/lang/invoke/VarHandle" ∧ (parseMethodDescriptor yX10_exchanges.desc).map (fun d => d.parameters.length) = some 2 := ⟨by decide +kernel, by decide +kernel, by decide +kernel⟩
theorem kiX10_exchanges : Cond.instanceMethod yX10_exchanges ∈ tb := (tq q_977 rfl)
theorem ksX10_exchanges : Cond.selects yX10_exchanges.cls yX10_exchanges yX10_exchanges ∈ tb := (tq z_53 rfl)
theorem tgX10_exchanges {x0 : Nat} {x1 : Int32} {x2 : Int32} {h : PH} {r : Unit × PH} (hf : (fX10_exchanges x0 x1 x2).1 h = some r) : ∃ n x, nth h x0 = some (9, n, x) := by
  obtain ⟨_, _, e, _⟩ := pb_some hf
  exact (chk_some e).2
set_option maxHeartbeats 4000000 in
set_option maxRecDepth 100000 in
theorem wX10_exchanges_B2 {p : Program} {l : Launch} {e : Env} {s : State} {m : MethodId} {args : Array Value} {below : List Frame} {meth : Method} {c : Code} {G : GG} {ρ : Nat → Nat} {h0 hE hB : PH} {Q : State → Prop} {x0 : Nat} {x1 : Int32} {x2 : Int32} (C : Cx G "PairSymbolsModel" cX10_exchanges 6 none "exchanges" p s m args meth c) {x3 : Int32} {h : PH} {H : Heap} {locs : List Loc} {cells slots : Nat} {ls : Array Slot} {r : (Int32) ⊕ (Unit)} (hf : (fX10_exchanges_b2 x0 x1 x2 x3).1 h = some (r, hB)) (hX : Ext hB hE) (hW : Wd G ρ h0.length (sl h0) s.heap h H locs cells slots) (hl : lv_has ls 6 [(0, .ref (ρ x0)), (1, .int x1), (2, .int x2), (3, .int x3)]) (kc : ∀ y : Int32, r = .inl y → ∀ (H : Heap) (locs : List Loc) (c1 s1 : Nat) (ls : Array Slot), Wd G ρ h0.length (sl h0) s.heap hB H locs c1 s1 → lv_has ls 6 [(0, .ref (ρ x0)), (1, .int x1), (2, .int x2), (3, .int y)] → W p l e (RM 0 0 h0 hE) s m args below meth c H locs c1 s1 Q (F0 m 2 ls [])) (ke : ∀ z : Unit, r = .inr z → ∀ (H : Heap) (locs : List Loc) (c1 s1 : Nat) (ls : Array Slot), Wd G ρ h0.length (sl h0) s.heap hB H locs c1 s1 → lv_has ls 6 [] → W p l e (RM 0 0 h0 hE) s m args below meth c H locs c1 s1 Q (F0 m 112 ls [])) : W p l e (RM 0 0 h0 hE) s m args below meth c H locs cells slots Q (F0 m 2 ls []) := by
  have hx := C.1
  have hb := C.2.1
  unfold fX10_exchanges_b2 at hf
  refine lv_iload_n hx hb dX10_exchanges_2 rfl (lv_at hl 3 rfl) ?_
  refine lv_aload_n hx hb dX10_exchanges_3 rfl (lv_at hl 0 rfl) ?_
  obtain ⟨v1, e1, hf⟩ := pb_rd (rd_gI _ _ _) hf
  refine r_gI C hW e1 flX10_192 rfl dX10_exchanges_4 ?_
  refine lv_icmp_ge (tgt := 112) hx hb dX10_exchanges_7 (by decide) (fun c2 => ?_) (fun c2 => ?_)
  · rw [if_pos c2] at hf
    obtain ⟨rfl, rfl⟩ := pp_some hf
    exact ke _ rfl _ _ _ _ _ hW (lv_sub hl [] rfl)
  · rw [if_neg c2] at hf
    refine lv_aload_n hx hb dX10_exchanges_10 rfl (lv_at hl 0 rfl) ?_
    obtain ⟨v3, e3, hf⟩ := pb_rd (rd_gA _ _ _) hf
    refine r_gA C hW e3 flX10_63 rfl dX10_exchanges_11 ?_
    refine lv_bipush (v := 16) hx hb dX10_exchanges_14 (by decide) ?_
    refine lv_iload_n hx hb dX10_exchanges_16 rfl (lv_at hl 1 rfl) ?_
    refine lv_imul hx hb dX10_exchanges_17 ?_
    refine lv_iload_n hx hb dX10_exchanges_18 rfl (lv_at hl 3 rfl) ?_
    refine lv_iadd hx hb dX10_exchanges_19 ?_
    obtain ⟨v4, e4, hf⟩ := pb_rd (rd_lJ _ _ _) hf
    refine r_lald C hW e4 dX10_exchanges_20 ?_
    refine lv_lstore (lv' := [(4, .long v4), (0, .ref (ρ x0)), (1, .int x1), (2, .int x2), (3, .int x3)]) hx hb dX10_exchanges_21 hl (by decide) rfl (fun ls hl => ?_)
    refine lv_aload_n hx hb dX10_exchanges_23 rfl (lv_at hl 1 rfl) ?_
    obtain ⟨v5, e5, hf⟩ := pb_rd (rd_gA _ _ _) hf
    refine r_gA C hW e5 flX10_63 rfl dX10_exchanges_24 ?_
    refine lv_bipush (v := 16) hx hb dX10_exchanges_27 (by decide) ?_
    refine lv_iload_n hx hb dX10_exchanges_29 rfl (lv_at hl 2 rfl) ?_
    refine lv_imul hx hb dX10_exchanges_30 ?_
    refine lv_iload_n hx hb dX10_exchanges_31 rfl (lv_at hl 4 rfl) ?_
    refine lv_iadd hx hb dX10_exchanges_32 ?_
    refine lv_aload_n hx hb dX10_exchanges_33 rfl (lv_at hl 1 rfl) ?_
    obtain ⟨v6, e6, hf⟩ := pb_rd (rd_gA _ _ _) hf
    refine r_gA C hW e6 flX10_63 rfl dX10_exchanges_34 ?_
    refine lv_bipush (v := 16) hx hb dX10_exchanges_37 (by decide) ?_
    refine lv_iload_n hx hb dX10_exchanges_39 rfl (lv_at hl 3 rfl) ?_
    refine lv_imul hx hb dX10_exchanges_40 ?_
    refine lv_iload_n hx hb dX10_exchanges_41 rfl (lv_at hl 4 rfl) ?_
    refine lv_iadd hx hb dX10_exchanges_42 ?_
    obtain ⟨v7, e7, hf⟩ := pb_rd (rd_lJ _ _ _) hf
    refine r_lald C hW e7 dX10_exchanges_43 ?_
    obtain ⟨_, h8, e8, hf⟩ := pb_some hf
    refine r_last C hW e8 dX10_exchanges_44 (fun H locs hW => ?_)
    refine lv_aload_n hx hb dX10_exchanges_45 rfl (lv_at hl 1 rfl) ?_
    obtain ⟨v9, e9, hf⟩ := pb_rd (rd_gA _ _ _) hf
    refine r_gA C hW e9 flX10_63 rfl dX10_exchanges_46 ?_
    refine lv_bipush (v := 16) hx hb dX10_exchanges_49 (by decide) ?_
    refine lv_iload_n hx hb dX10_exchanges_51 rfl (lv_at hl 3 rfl) ?_
    refine lv_imul hx hb dX10_exchanges_52 ?_
    refine lv_iload_n hx hb dX10_exchanges_53 rfl (lv_at hl 4 rfl) ?_
    refine lv_iadd hx hb dX10_exchanges_54 ?_
    refine lv_lload hx hb dX10_exchanges_55 (lv_at hl 0 rfl) ?_
    obtain ⟨_, h10, e10, hf⟩ := pb_some hf
    refine r_last C hW e10 dX10_exchanges_57 (fun H locs hW => ?_)
    refine lv_aload_n hx hb dX10_exchanges_58 rfl (lv_at hl 1 rfl) ?_
    obtain ⟨v11, e11, hf⟩ := pb_rd (rd_gA _ _ _) hf
    refine r_gA C hW e11 flX10_66 rfl dX10_exchanges_59 ?_
    refine lv_bipush (v := 16) hx hb dX10_exchanges_62 (by decide) ?_
    refine lv_iload_n hx hb dX10_exchanges_64 rfl (lv_at hl 2 rfl) ?_
    refine lv_imul hx hb dX10_exchanges_65 ?_
    refine lv_iload_n hx hb dX10_exchanges_66 rfl (lv_at hl 4 rfl) ?_
    refine lv_iadd hx hb dX10_exchanges_67 ?_
    obtain ⟨v12, e12, hf⟩ := pb_rd (rd_lJ _ _ _) hf
    refine r_lald C hW e12 dX10_exchanges_68 ?_
    refine lv_lstore (lv' := [(4, .long v12), (0, .ref (ρ x0)), (1, .int x1), (2, .int x2), (3, .int x3)]) hx hb dX10_exchanges_69 hl (by decide) rfl (fun ls hl => ?_)
    refine lv_aload_n hx hb dX10_exchanges_71 rfl (lv_at hl 1 rfl) ?_
    obtain ⟨v13, e13, hf⟩ := pb_rd (rd_gA _ _ _) hf
    refine r_gA C hW e13 flX10_66 rfl dX10_exchanges_72 ?_
    refine lv_bipush (v := 16) hx hb dX10_exchanges_75 (by decide) ?_
    refine lv_iload_n hx hb dX10_exchanges_77 rfl (lv_at hl 2 rfl) ?_
    refine lv_imul hx hb dX10_exchanges_78 ?_
    refine lv_iload_n hx hb dX10_exchanges_79 rfl (lv_at hl 4 rfl) ?_
    refine lv_iadd hx hb dX10_exchanges_80 ?_
    refine lv_aload_n hx hb dX10_exchanges_81 rfl (lv_at hl 1 rfl) ?_
    obtain ⟨v14, e14, hf⟩ := pb_rd (rd_gA _ _ _) hf
    refine r_gA C hW e14 flX10_66 rfl dX10_exchanges_82 ?_
    refine lv_bipush (v := 16) hx hb dX10_exchanges_85 (by decide) ?_
    refine lv_iload_n hx hb dX10_exchanges_87 rfl (lv_at hl 3 rfl) ?_
    refine lv_imul hx hb dX10_exchanges_88 ?_
    refine lv_iload_n hx hb dX10_exchanges_89 rfl (lv_at hl 4 rfl) ?_
    refine lv_iadd hx hb dX10_exchanges_90 ?_
    obtain ⟨v15, e15, hf⟩ := pb_rd (rd_lJ _ _ _) hf
    refine r_lald C hW e15 dX10_exchanges_91 ?_
    obtain ⟨_, h16, e16, hf⟩ := pb_some hf
    refine r_last C hW e16 dX10_exchanges_92 (fun H locs hW => ?_)
    refine lv_aload_n hx hb dX10_exchanges_93 rfl (lv_at hl 1 rfl) ?_
    obtain ⟨v17, e17, hf⟩ := pb_rd (rd_gA _ _ _) hf
    refine r_gA C hW e17 flX10_66 rfl dX10_exchanges_94 ?_
    refine lv_bipush (v := 16) hx hb dX10_exchanges_97 (by decide) ?_
    refine lv_iload_n hx hb dX10_exchanges_99 rfl (lv_at hl 3 rfl) ?_
    refine lv_imul hx hb dX10_exchanges_100 ?_
    refine lv_iload_n hx hb dX10_exchanges_101 rfl (lv_at hl 4 rfl) ?_
    refine lv_iadd hx hb dX10_exchanges_102 ?_
    refine lv_lload hx hb dX10_exchanges_103 (lv_at hl 0 rfl) ?_
    obtain ⟨_, h18, e18, hf⟩ := pb_some hf
    refine r_last C hW e18 dX10_exchanges_105 (fun H locs hW => ?_)
    refine lv_iinc (v := (x3 + 1)) (lv' := [(3, .int (x3 + 1)), (4, .long v12), (0, .ref (ρ x0)), (1, .int x1), (2, .int x2)]) hx hb dX10_exchanges_106 hl (k := 4) rfl rfl (by decide) rfl (fun ls hl => ?_)
    refine lv_goto (tgt := 2) hx hb dX10_exchanges_109 (by decide) ?_
    obtain ⟨rfl, rfl⟩ := pp_some hf
    exact kc _ rfl _ _ _ _ _ hW (lv_sub hl [2, 3, 4, 0] rfl)
set_option maxHeartbeats 4000000 in
theorem wX10_exchanges_L2 {p : Program} {l : Launch} {e : Env} {s : State} {m : MethodId} {args : Array Value} {below : List Frame} {meth : Method} {c : Code} {G : GG} {ρ : Nat → Nat} {h0 hE hB : PH} {Q : State → Prop} {x0 : Nat} {x1 : Int32} {x2 : Int32} (C : Cx G "PairSymbolsModel" cX10_exchanges 6 none "exchanges" p s m args meth c) {z : (Unit)} (n : Nat) : ∀ (x : Int32) {h : PH} {H : Heap} {locs : List Loc} {cells slots : Nat} {ls : Array Slot}, (plo (fX10_exchanges_B2 x0 x1 x2) n x).1 h = some (z, hB) → Ext hB hE → Wd G ρ h0.length (sl h0) s.heap h H locs cells slots → lv_has ls 6 [(0, .ref (ρ x0)), (1, .int x1), (2, .int x2), (3, .int x)] → (ke : ∀ (H : Heap) (locs : List Loc) (c1 s1 : Nat) (ls : Array Slot), Wd G ρ h0.length (sl h0) s.heap hB H locs c1 s1 → lv_has ls 6 [] → W p l e (RM 0 0 h0 hE) s m args below meth c H locs c1 s1 Q (F0 m 112 ls [])) → W p l e (RM 0 0 h0 hE) s m args below meth c H locs cells slots Q (F0 m 2 ls []) := by
  induction n with
  | zero =>
    intro x h H locs cells slots ls hf
    rw [plo_0] at hf
    exact (pf_no hf).elim
  | succ n ih =>
    intro x h H locs cells slots ls hf hX hW hl ke
    rw [plo_s] at hf
    obtain ⟨r, h1, e1, hf⟩ := pb_some hf
    unfold fX10_exchanges_B2 at e1
    rw [frI_eq] at e1
    refine wX10_exchanges_B2 C e1 ((pext hf).tr hX) hW hl (fun y hr H locs c1 s1 ls hW hl => ?_) (fun y hr H locs c1 s1 ls hW hl => ?_)
    · subst hr
      exact ih y hf hX hW hl ke
    · subst hr
      obtain ⟨rfl, rfl⟩ := pp_some hf
      exact ke H locs c1 s1 ls hW hl
set_option maxHeartbeats 4000000 in
set_option maxRecDepth 100000 in
theorem metX10_exchanges (l : Launch) (G : GG) (ρ : Nat → Nat) {z : Nat} {x0 : Nat} {x1 : Int32} {x2 : Int32} {h hE : PH} {v : Unit} (hf : (fX10_exchanges x0 x1 x2).1 h = some (v, hE)) : Met l yX10_exchanges (wsY yX10_exchanges cX10_exchanges 6 none) (RM 0 0 h hE) (va_Pc [.ref (ρ x0), .int x1, .int x2] (PcB G ρ h z)) (QV G ρ hE h.length z) (DC h hE) (DS h hE) (Af ρ h.length z) := by
  refine met_start (by decide) (Nat.le_of_ble_eq_true rfl) ?_
  intro p e s m below meth c ls hz C hW hl
  subst hz
  have C : Cx G "PairSymbolsModel" cX10_exchanges 6 none "exchanges" p s m _ meth c := C
  have hx := C.1
  have hb := C.2.1
  have hX : Ext hE hE := Ext.rf hE
  have hl : lv_has ls 6 [(0, .ref (ρ x0)), (1, .int x1), (2, .int x2)] := hl
  have hW : Wd G ρ h.length (sl h) s.heap h s.heap [] 0 0 := hW
  unfold fX10_exchanges at hf
  obtain ⟨_, e0, hf⟩ := pb_rd (rd_chk _ _) hf
  refine lv_iconst (v := 0) hx hb dX10_exchanges_0 (by decide) ?_
  refine lv_istore_n (lv' := [(3, .int (0 : Int32)), (0, .ref (ρ x0)), (1, .int x1), (2, .int x2)]) hx hb dX10_exchanges_1 rfl hl (by decide) rfl (fun ls hl => ?_)
  obtain ⟨z19, h19, e19, hf⟩ := pb_some hf
  refine wX10_exchanges_L2 C fu _ e19 ((pext hf).tr hX) hW (lv_sub hl [1, 2, 3, 0] rfl) (fun H locs c1 s1 ls hW hl => ?_)
  obtain ⟨rfl, rfl⟩ := pp_some hf
  exact r_vret C hW dX10_exchanges_112
