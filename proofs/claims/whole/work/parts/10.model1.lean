theorem flX10_7 : FL "PairSymbolsModel" 7 9 0 true := ⟨_, CT9, by decide, (tq q_675 rfl), rfl, fun _ => Or.inr trivial⟩
theorem flX10_133 : FL "PairSymbolsModel" 133 9 5 false := ⟨_, CT9, by decide, (tq q_680 rfl), rfl, fun _ => Or.inr trivial⟩
theorem flX10_137 : FL "PairSymbolsModel" 137 9 6 false := ⟨_, CT9, by decide, (tq q_681 rfl), rfl, fun _ => Or.inr trivial⟩
theorem flX10_23 : FL "PairSymbolsModel" 23 9 9 true := ⟨_, CT9, by decide, (tq q_684 rfl), rfl, fun _ => Or.inr trivial⟩
theorem dX10_in_0 : decode cX10_in 0 = .ok (.lload_n 0, 1) := by decide +kernel
theorem dX10_in_1 : decode cX10_in 1 = .ok (.lload_n 2, 1) := by decide +kernel
theorem dX10_in_2 : decode cX10_in 2 = .ok (.lcmp, 1) := by decide +kernel
theorem dX10_in_3 : decode cX10_in 3 = .ok (.ifCond .lt 14, 3) := by decide +kernel
theorem dX10_in_6 : decode cX10_in 6 = .ok (.lload_n 0, 1) := by decide +kernel
theorem dX10_in_7 : decode cX10_in 7 = .ok (.lload 4, 2) := by decide +kernel
theorem dX10_in_9 : decode cX10_in 9 = .ok (.lcmp, 1) := by decide +kernel
theorem dX10_in_10 : decode cX10_in 10 = .ok (.ifCond .gt 7, 3) := by decide +kernel
theorem dX10_in_13 : decode cX10_in 13 = .ok (.iconst 1, 1) := by decide +kernel
theorem dX10_in_14 : decode cX10_in 14 = .ok (.goto 4, 3) := by decide +kernel
theorem dX10_in_17 : decode cX10_in 17 = .ok (.iconst 0, 1) := by decide +kernel
theorem dX10_in_18 : decode cX10_in 18 = .ok (.ireturn, 1) := by decide +kernel
theorem kcX10_in : Cond.code yX10_in cX10_in 6 (some .boolean) ∈ tb := tq q_836 rfl
theorem knX10_in : Cond.initialized yX10_in.cls ∈ tb := (tq q_10 rfl)
theorem kdX10_in : yX10_in.cls ≠ "java/lang/invoke/MethodHandle" ∧ yX10_in.cls ≠ "java/lang/invoke/VarHandle" ∧ (parseMethodDescriptor yX10_in.desc).map (fun d => d.parameters.length) = some 3 := ⟨by decide +kernel, by decide +kernel, by decide +kernel⟩
theorem kiX10_in : Cond.static yX10_in ∈ tb := (tq q_835 rfl)
noncomputable def fX10_in (x0 : Int64) (x2 : Int64) (x4 : Int64) : PM Int32 :=
  (if (lg_cmp x0 x2) < 0 then
    pp (0 : Int32)
  else
    (if 0 < (lg_cmp x0 x4) then
      pp (0 : Int32)
    else
      pp (1 : Int32)))
set_option maxHeartbeats 4000000 in
set_option maxRecDepth 100000 in
theorem metX10_in (l : Launch) (G : GG) (ρ : Nat → Nat) {z : Nat} {x0 : Int64} {x2 : Int64} {x4 : Int64} {h hE : PH} {v : Int32} (hf : (fX10_in x0 x2 x4).1 h = some (v, hE)) : Met l yX10_in (wsY yX10_in cX10_in 6 (some .boolean)) (RM 0 0 h hE) (va_Pc [.long x0, .long x2, .long x4] (PcB G ρ h z)) (QI G ρ v hE h.length z) (DC h hE) (DS h hE) (Af ρ h.length z) := by
  refine met_start (by decide) (Nat.le_of_ble_eq_true rfl) ?_
  intro p e s m below meth c ls hz C hW hl
  subst hz
  have C : Cx G "PairSymbolsModel" cX10_in 6 (some .boolean) "in" p s m _ meth c := C
  have hx := C.1
  have hb := C.2.1
  have hX : Ext hE hE := Ext.rf hE
  have hl : lv_has ls 6 [(0, .long x0), (2, .long x2), (4, .long x4)] := hl
  have hW : Wd G ρ h.length (sl h) s.heap h s.heap [] 0 0 := hW
  unfold fX10_in at hf
  refine lv_lload_n hx hb dX10_in_0 rfl (lv_at hl 0 rfl) ?_
  refine lv_lload_n hx hb dX10_in_1 rfl (lv_at hl 1 rfl) ?_
  refine W.lcmp hx hb dX10_in_2 ?_
  refine lv_if_lt (tgt := 17) hx hb dX10_in_3 (by decide) (fun c1 => ?_) (fun c1 => ?_)
  · rw [if_pos c1] at hf
    refine lv_iconst (v := 0) hx hb dX10_in_17 (by decide) ?_
    obtain ⟨rfl, rfl⟩ := pp_some hf
    exact r_zret C hW rfl dX10_in_18
  · rw [if_neg c1] at hf
    refine lv_lload_n hx hb dX10_in_6 rfl (lv_at hl 0 rfl) ?_
    refine lv_lload hx hb dX10_in_7 (lv_at hl 2 rfl) ?_
    refine W.lcmp hx hb dX10_in_9 ?_
    refine lv_if_gt (tgt := 17) hx hb dX10_in_10 (by decide) (fun c2 => ?_) (fun c2 => ?_)
    · rw [if_pos c2] at hf
      refine lv_iconst (v := 0) hx hb dX10_in_17 (by decide) ?_
      obtain ⟨rfl, rfl⟩ := pp_some hf
      exact r_zret C hW rfl dX10_in_18
    · rw [if_neg c2] at hf
      refine lv_iconst (v := 1) hx hb dX10_in_13 (by decide) ?_
      refine lv_goto (tgt := 18) hx hb dX10_in_14 (by decide) ?_
      obtain ⟨rfl, rfl⟩ := pp_some hf
      exact r_zret C hW rfl dX10_in_18

theorem dX10_levelHere_0 : decode cX10_levelHere 0 = .ok (.aload_n 0, 1) := by decide +kernel
theorem dX10_levelHere_1 : decode cX10_levelHere 1 = .ok (.getfield 7, 3) := by decide +kernel
theorem dX10_levelHere_4 : decode cX10_levelHere 4 = .ok (.iconst 0, 1) := by decide +kernel
theorem dX10_levelHere_5 : decode cX10_levelHere 5 = .ok (.laload, 1) := by decide +kernel
theorem dX10_levelHere_6 : decode cX10_levelHere 6 = .ok (.l2i, 1) := by decide +kernel
theorem dX10_levelHere_7 : decode cX10_levelHere 7 = .ok (.ireturn, 1) := by decide +kernel
theorem kcX10_levelHere : Cond.code yX10_levelHere cX10_levelHere 1 (some .int) ∈ tb := tq q_852 rfl
theorem knX10_levelHere : Cond.initialized yX10_levelHere.cls ∈ tb := (tq q_10 rfl)
theorem kdX10_levelHere : yX10_levelHere.cls ≠ "java/lang/invoke/MethodHandle" ∧ yX10_levelHere.cls ≠ "java/lang/invoke/VarHandle" ∧ (parseMethodDescriptor yX10_levelHere.desc).map (fun d => d.parameters.length) = some 0 := ⟨by decide +kernel, by decide +kernel, by decide +kernel⟩
theorem kiX10_levelHere : Cond.instanceMethod yX10_levelHere ∈ tb := (tq q_851 rfl)
theorem ksX10_levelHere : Cond.selects yX10_levelHere.cls yX10_levelHere yX10_levelHere ∈ tb := (tq z_28 rfl)
noncomputable def fX10_levelHere (x0 : Nat) : PM Int32 :=
  pb (chk 9 x0) fun _ =>
  pb (gA 9 0 x0) fun v1 =>
  pb (lJ 18 v1 (0 : Int32)) fun v2 =>
  pp v2.toInt32
theorem tgX10_levelHere {x0 : Nat} {h : PH} {r : Int32 × PH} (hf : (fX10_levelHere x0).1 h = some r) : ∃ n x, nth h x0 = some (9, n, x) := by
  obtain ⟨_, _, e, _⟩ := pb_some hf
  exact (chk_some e).2
set_option maxHeartbeats 4000000 in
set_option maxRecDepth 100000 in
theorem metX10_levelHere (l : Launch) (G : GG) (ρ : Nat → Nat) {z : Nat} {x0 : Nat} {h hE : PH} {v : Int32} (hf : (fX10_levelHere x0).1 h = some (v, hE)) : Met l yX10_levelHere (wsY yX10_levelHere cX10_levelHere 1 (some .int)) (RM 0 0 h hE) (va_Pc [.ref (ρ x0)] (PcB G ρ h z)) (QI G ρ v hE h.length z) (DC h hE) (DS h hE) (Af ρ h.length z) := by
  refine met_start (by decide) (Nat.le_of_ble_eq_true rfl) ?_
  intro p e s m below meth c ls hz C hW hl
  subst hz
  have C : Cx G "PairSymbolsModel" cX10_levelHere 1 (some .int) "levelHere" p s m _ meth c := C
  have hx := C.1
  have hb := C.2.1
  have hX : Ext hE hE := Ext.rf hE
  have hl : lv_has ls 1 [(0, .ref (ρ x0))] := hl
  have hW : Wd G ρ h.length (sl h) s.heap h s.heap [] 0 0 := hW
  unfold fX10_levelHere at hf
  obtain ⟨_, e0, hf⟩ := pb_rd (rd_chk _ _) hf
  refine lv_aload_n hx hb dX10_levelHere_0 rfl (lv_at hl 0 rfl) ?_
  obtain ⟨v1, e1, hf⟩ := pb_rd (rd_gA _ _ _) hf
  refine r_gA C hW e1 flX10_7 rfl dX10_levelHere_1 ?_
  refine lv_iconst (v := 0) hx hb dX10_levelHere_4 (by decide) ?_
  obtain ⟨v2, e2, hf⟩ := pb_rd (rd_lJ _ _ _) hf
  refine r_lald C hW e2 dX10_levelHere_5 ?_
  refine lv_l2i (v := v2.toInt32) hx hb dX10_levelHere_6 rfl ?_
  obtain ⟨rfl, rfl⟩ := pp_some hf
  exact r_iret C hW dX10_levelHere_7

theorem dX10_zeroes_0 : decode cX10_zeroes 0 = .ok (.iconst 0, 1) := by decide +kernel
theorem dX10_zeroes_1 : decode cX10_zeroes 1 = .ok (.istore_n 1, 1) := by decide +kernel
theorem dX10_zeroes_2 : decode cX10_zeroes 2 = .ok (.iload_n 1, 1) := by decide +kernel
theorem dX10_zeroes_3 : decode cX10_zeroes 3 = .ok (.bipush 16, 2) := by decide +kernel
theorem dX10_zeroes_5 : decode cX10_zeroes 5 = .ok (.if_icmp .ge 31, 3) := by decide +kernel
theorem dX10_zeroes_8 : decode cX10_zeroes 8 = .ok (.aload_n 0, 1) := by decide +kernel
theorem dX10_zeroes_9 : decode cX10_zeroes 9 = .ok (.getfield 7, 3) := by decide +kernel
theorem dX10_zeroes_12 : decode cX10_zeroes 12 = .ok (.iconst 1, 1) := by decide +kernel
theorem dX10_zeroes_13 : decode cX10_zeroes 13 = .ok (.iconst 2, 1) := by decide +kernel
theorem dX10_zeroes_14 : decode cX10_zeroes 14 = .ok (.iload_n 1, 1) := by decide +kernel
theorem dX10_zeroes_15 : decode cX10_zeroes 15 = .ok (.imul, 1) := by decide +kernel
theorem dX10_zeroes_16 : decode cX10_zeroes 16 = .ok (.iadd, 1) := by decide +kernel
theorem dX10_zeroes_17 : decode cX10_zeroes 17 = .ok (.lconst 0, 1) := by decide +kernel
theorem dX10_zeroes_18 : decode cX10_zeroes 18 = .ok (.lastore, 1) := by decide +kernel
theorem dX10_zeroes_19 : decode cX10_zeroes 19 = .ok (.aload_n 0, 1) := by decide +kernel
theorem dX10_zeroes_20 : decode cX10_zeroes 20 = .ok (.getfield 7, 3) := by decide +kernel
theorem dX10_zeroes_23 : decode cX10_zeroes 23 = .ok (.iconst 2, 1) := by decide +kernel
theorem dX10_zeroes_24 : decode cX10_zeroes 24 = .ok (.iconst 2, 1) := by decide +kernel
theorem dX10_zeroes_25 : decode cX10_zeroes 25 = .ok (.iload_n 1, 1) := by decide +kernel
theorem dX10_zeroes_26 : decode cX10_zeroes 26 = .ok (.imul, 1) := by decide +kernel
theorem dX10_zeroes_27 : decode cX10_zeroes 27 = .ok (.iadd, 1) := by decide +kernel
theorem dX10_zeroes_28 : decode cX10_zeroes 28 = .ok (.lconst 1, 1) := by decide +kernel
theorem dX10_zeroes_29 : decode cX10_zeroes 29 = .ok (.lastore, 1) := by decide +kernel
theorem dX10_zeroes_30 : decode cX10_zeroes 30 = .ok (.iinc 1 1, 3) := by decide +kernel
theorem dX10_zeroes_33 : decode cX10_zeroes 33 = .ok (.goto (-31), 3) := by decide +kernel
theorem dX10_zeroes_36 : decode cX10_zeroes 36 = .ok (.return_, 1) := by decide +kernel
theorem kcX10_zeroes : Cond.code yX10_zeroes cX10_zeroes 2 none ∈ tb := tq q_674 rfl
theorem knX10_zeroes : Cond.initialized yX10_zeroes.cls ∈ tb := (tq q_10 rfl)
theorem kdX10_zeroes : yX10_zeroes.cls ≠ "java/lang/invoke/MethodHandle" ∧ yX10_zeroes.cls ≠ "java/lang/invoke/VarHandle" ∧ (parseMethodDescriptor yX10_zeroes.desc).map (fun d => d.parameters.length) = some 0 := ⟨by decide +kernel, by decide +kernel, by decide +kernel⟩
theorem kiX10_zeroes : Cond.instanceMethod yX10_zeroes ∈ tb := (tq q_673 rfl)
theorem ksX10_zeroes : Cond.selects yX10_zeroes.cls yX10_zeroes yX10_zeroes ∈ tb := (tq z_24 rfl)
noncomputable def fX10_zeroes_b2 (x0 : Nat) (x1 : Int32) : PM ((Int32) ⊕ (Unit)) :=
  (if (16 : Int32) ≤ x1 then
    pp (.inr ())
  else
    pb (gA 9 0 x0) fun v2 =>
    pb (tJ 18 v2 ((1 : Int32) + ((2 : Int32) * x1)) (0 : Int64)) fun _ =>
    pb (gA 9 0 x0) fun v4 =>
    pb (tJ 18 v4 ((2 : Int32) + ((2 : Int32) * x1)) (1 : Int64)) fun _ =>
    pp (.inl (x1 + 1)))
noncomputable def fX10_zeroes_B2 (x0 : Nat) : (Int32) → PM ((Int32) ⊕ (Unit)) := fun (x : Int32) => fX10_zeroes_b2 x0 x
noncomputable def fX10_zeroes (x0 : Nat) : PM Unit :=
  pb (chk 9 x0) fun _ =>
  pb (plo (fX10_zeroes_B2 x0) fu (0 : Int32)) fun z6 =>
  pp ()
theorem tgX10_zeroes {x0 : Nat} {h : PH} {r : Unit × PH} (hf : (fX10_zeroes x0).1 h = some r) : ∃ n x, nth h x0 = some (9, n, x) := by
  obtain ⟨_, _, e, _⟩ := pb_some hf
  exact (chk_some e).2
set_option maxHeartbeats 4000000 in
set_option maxRecDepth 100000 in
theorem wX10_zeroes_B2 {p : Program} {l : Launch} {e : Env} {s : State} {m : MethodId} {args : Array Value} {below : List Frame} {meth : Method} {c : Code} {G : GG} {ρ : Nat → Nat} {h0 hE hB : PH} {Q : State → Prop} {x0 : Nat} (C : Cx G "PairSymbolsModel" cX10_zeroes 2 none "zeroes" p s m args meth c) {x1 : Int32} {h : PH} {H : Heap} {locs : List Loc} {cells slots : Nat} {ls : Array Slot} {r : (Int32) ⊕ (Unit)} (hf : (fX10_zeroes_b2 x0 x1).1 h = some (r, hB)) (hX : Ext hB hE) (hW : Wd G ρ h0.length (sl h0) s.heap h H locs cells slots) (hl : lv_has ls 2 [(0, .ref (ρ x0)), (1, .int x1)]) (kc : ∀ y : Int32, r = .inl y → ∀ (H : Heap) (locs : List Loc) (c1 s1 : Nat) (ls : Array Slot), Wd G ρ h0.length (sl h0) s.heap hB H locs c1 s1 → lv_has ls 2 [(0, .ref (ρ x0)), (1, .int y)] → W p l e (RM 0 0 h0 hE) s m args below meth c H locs c1 s1 Q (F0 m 2 ls [])) (ke : ∀ z : Unit, r = .inr z → ∀ (H : Heap) (locs : List Loc) (c1 s1 : Nat) (ls : Array Slot), Wd G ρ h0.length (sl h0) s.heap hB H locs c1 s1 → lv_has ls 2 [] → W p l e (RM 0 0 h0 hE) s m args below meth c H locs c1 s1 Q (F0 m 36 ls [])) : W p l e (RM 0 0 h0 hE) s m args below meth c H locs cells slots Q (F0 m 2 ls []) := by
  have hx := C.1
  have hb := C.2.1
  unfold fX10_zeroes_b2 at hf
  refine lv_iload_n hx hb dX10_zeroes_2 rfl (lv_at hl 1 rfl) ?_
  refine lv_bipush (v := 16) hx hb dX10_zeroes_3 (by decide) ?_
  refine lv_icmp_ge (tgt := 36) hx hb dX10_zeroes_5 (by decide) (fun c1 => ?_) (fun c1 => ?_)
  · rw [if_pos c1] at hf
    obtain ⟨rfl, rfl⟩ := pp_some hf
    exact ke _ rfl _ _ _ _ _ hW (lv_sub hl [] rfl)
  · rw [if_neg c1] at hf
    refine lv_aload_n hx hb dX10_zeroes_8 rfl (lv_at hl 0 rfl) ?_
    obtain ⟨v2, e2, hf⟩ := pb_rd (rd_gA _ _ _) hf
    refine r_gA C hW e2 flX10_7 rfl dX10_zeroes_9 ?_
    refine lv_iconst (v := 1) hx hb dX10_zeroes_12 (by decide) ?_
    refine lv_iconst (v := 2) hx hb dX10_zeroes_13 (by decide) ?_
    refine lv_iload_n hx hb dX10_zeroes_14 rfl (lv_at hl 1 rfl) ?_
    refine lv_imul hx hb dX10_zeroes_15 ?_
    refine lv_iadd hx hb dX10_zeroes_16 ?_
    refine lv_lconst (v := 0) hx hb dX10_zeroes_17 (by decide) ?_
    obtain ⟨_, h3, e3, hf⟩ := pb_some hf
    refine r_last C hW e3 dX10_zeroes_18 (fun H locs hW => ?_)
    refine lv_aload_n hx hb dX10_zeroes_19 rfl (lv_at hl 0 rfl) ?_
    obtain ⟨v4, e4, hf⟩ := pb_rd (rd_gA _ _ _) hf
    refine r_gA C hW e4 flX10_7 rfl dX10_zeroes_20 ?_
    refine lv_iconst (v := 2) hx hb dX10_zeroes_23 (by decide) ?_
    refine lv_iconst (v := 2) hx hb dX10_zeroes_24 (by decide) ?_
    refine lv_iload_n hx hb dX10_zeroes_25 rfl (lv_at hl 1 rfl) ?_
    refine lv_imul hx hb dX10_zeroes_26 ?_
    refine lv_iadd hx hb dX10_zeroes_27 ?_
    refine lv_lconst (v := 1) hx hb dX10_zeroes_28 (by decide) ?_
    obtain ⟨_, h5, e5, hf⟩ := pb_some hf
    refine r_last C hW e5 dX10_zeroes_29 (fun H locs hW => ?_)
    refine lv_iinc (v := (x1 + 1)) (lv' := [(1, .int (x1 + 1)), (0, .ref (ρ x0))]) hx hb dX10_zeroes_30 hl (k := 1) rfl rfl (by decide) rfl (fun ls hl => ?_)
    refine lv_goto (tgt := 2) hx hb dX10_zeroes_33 (by decide) ?_
    obtain ⟨rfl, rfl⟩ := pp_some hf
    exact kc _ rfl _ _ _ _ _ hW (lv_sub hl [1, 0] rfl)
set_option maxHeartbeats 4000000 in
theorem wX10_zeroes_L2 {p : Program} {l : Launch} {e : Env} {s : State} {m : MethodId} {args : Array Value} {below : List Frame} {meth : Method} {c : Code} {G : GG} {ρ : Nat → Nat} {h0 hE hB : PH} {Q : State → Prop} {x0 : Nat} (C : Cx G "PairSymbolsModel" cX10_zeroes 2 none "zeroes" p s m args meth c) {z : (Unit)} (n : Nat) : ∀ (x : Int32) {h : PH} {H : Heap} {locs : List Loc} {cells slots : Nat} {ls : Array Slot}, (plo (fX10_zeroes_B2 x0) n x).1 h = some (z, hB) → Ext hB hE → Wd G ρ h0.length (sl h0) s.heap h H locs cells slots → lv_has ls 2 [(0, .ref (ρ x0)), (1, .int x)] → (ke : ∀ (H : Heap) (locs : List Loc) (c1 s1 : Nat) (ls : Array Slot), Wd G ρ h0.length (sl h0) s.heap hB H locs c1 s1 → lv_has ls 2 [] → W p l e (RM 0 0 h0 hE) s m args below meth c H locs c1 s1 Q (F0 m 36 ls [])) → W p l e (RM 0 0 h0 hE) s m args below meth c H locs cells slots Q (F0 m 2 ls []) := by
  induction n with
  | zero =>
    intro x h H locs cells slots ls hf
    exact (pf_no hf).elim
  | succ n ih =>
    intro x h H locs cells slots ls hf hX hW hl ke
    obtain ⟨r, h1, e1, hf⟩ := pb_some hf
    refine wX10_zeroes_B2 C e1 ((pext hf).tr hX) hW hl (fun y hr H locs c1 s1 ls hW hl => ?_) (fun y hr H locs c1 s1 ls hW hl => ?_)
    · subst hr
      exact ih y hf hX hW hl ke
    · subst hr
      obtain ⟨rfl, rfl⟩ := pp_some hf
      exact ke H locs c1 s1 ls hW hl
set_option maxHeartbeats 4000000 in
set_option maxRecDepth 100000 in
theorem metX10_zeroes (l : Launch) (G : GG) (ρ : Nat → Nat) {z : Nat} {x0 : Nat} {h hE : PH} {v : Unit} (hf : (fX10_zeroes x0).1 h = some (v, hE)) : Met l yX10_zeroes (wsY yX10_zeroes cX10_zeroes 2 none) (RM 0 0 h hE) (va_Pc [.ref (ρ x0)] (PcB G ρ h z)) (QV G ρ hE h.length z) (DC h hE) (DS h hE) (Af ρ h.length z) := by
  refine met_start (by decide) (Nat.le_of_ble_eq_true rfl) ?_
  intro p e s m below meth c ls hz C hW hl
  subst hz
  have C : Cx G "PairSymbolsModel" cX10_zeroes 2 none "zeroes" p s m _ meth c := C
  have hx := C.1
  have hb := C.2.1
  have hX : Ext hE hE := Ext.rf hE
  have hl : lv_has ls 2 [(0, .ref (ρ x0))] := hl
  have hW : Wd G ρ h.length (sl h) s.heap h s.heap [] 0 0 := hW
  unfold fX10_zeroes at hf
  obtain ⟨_, e0, hf⟩ := pb_rd (rd_chk _ _) hf
  refine lv_iconst (v := 0) hx hb dX10_zeroes_0 (by decide) ?_
  refine lv_istore_n (lv' := [(1, .int (0 : Int32)), (0, .ref (ρ x0))]) hx hb dX10_zeroes_1 rfl hl (by decide) rfl (fun ls hl => ?_)
  obtain ⟨z6, h6, e6, hf⟩ := pb_some hf
  refine wX10_zeroes_L2 C fu _ e6 ((pext hf).tr hX) hW (lv_sub hl [1, 0] rfl) (fun H locs c1 s1 ls hW hl => ?_)
  obtain ⟨rfl, rfl⟩ := pp_some hf
  exact r_vret C hW dX10_zeroes_36

theorem dX10_divisor_0 : decode cX10_divisor 0 = .ok (.lload_n 0, 1) := by decide +kernel
theorem dX10_divisor_1 : decode cX10_divisor 1 = .ok (.lconst 0, 1) := by decide +kernel
theorem dX10_divisor_2 : decode cX10_divisor 2 = .ok (.lcmp, 1) := by decide +kernel
theorem dX10_divisor_3 : decode cX10_divisor 3 = .ok (.ifCond .ge 8, 3) := by decide +kernel
theorem dX10_divisor_6 : decode cX10_divisor 6 = .ok (.lload_n 0, 1) := by decide +kernel
theorem dX10_divisor_7 : decode cX10_divisor 7 = .ok (.lneg, 1) := by decide +kernel
theorem dX10_divisor_8 : decode cX10_divisor 8 = .ok (.goto 4, 3) := by decide +kernel
theorem dX10_divisor_11 : decode cX10_divisor 11 = .ok (.lload_n 0, 1) := by decide +kernel
theorem dX10_divisor_12 : decode cX10_divisor 12 = .ok (.lstore 4, 2) := by decide +kernel
theorem dX10_divisor_14 : decode cX10_divisor 14 = .ok (.lload_n 2, 1) := by decide +kernel
theorem dX10_divisor_15 : decode cX10_divisor 15 = .ok (.lconst 0, 1) := by decide +kernel
theorem dX10_divisor_16 : decode cX10_divisor 16 = .ok (.lcmp, 1) := by decide +kernel
theorem dX10_divisor_17 : decode cX10_divisor 17 = .ok (.ifCond .ge 8, 3) := by decide +kernel
theorem dX10_divisor_20 : decode cX10_divisor 20 = .ok (.lload_n 2, 1) := by decide +kernel
theorem dX10_divisor_21 : decode cX10_divisor 21 = .ok (.lneg, 1) := by decide +kernel
theorem dX10_divisor_22 : decode cX10_divisor 22 = .ok (.goto 4, 3) := by decide +kernel
theorem dX10_divisor_25 : decode cX10_divisor 25 = .ok (.lload_n 2, 1) := by decide +kernel
theorem dX10_divisor_26 : decode cX10_divisor 26 = .ok (.lstore 6, 2) := by decide +kernel
theorem dX10_divisor_28 : decode cX10_divisor 28 = .ok (.lload 6, 2) := by decide +kernel
theorem dX10_divisor_30 : decode cX10_divisor 30 = .ok (.lconst 0, 1) := by decide +kernel
theorem dX10_divisor_31 : decode cX10_divisor 31 = .ok (.lcmp, 1) := by decide +kernel
theorem dX10_divisor_32 : decode cX10_divisor 32 = .ok (.ifCond .eq 21, 3) := by decide +kernel
theorem dX10_divisor_35 : decode cX10_divisor 35 = .ok (.lload 4, 2) := by decide +kernel
theorem dX10_divisor_37 : decode cX10_divisor 37 = .ok (.lload 6, 2) := by decide +kernel
theorem dX10_divisor_39 : decode cX10_divisor 39 = .ok (.lrem, 1) := by decide +kernel
theorem dX10_divisor_40 : decode cX10_divisor 40 = .ok (.lstore 8, 2) := by decide +kernel
theorem dX10_divisor_42 : decode cX10_divisor 42 = .ok (.lload 6, 2) := by decide +kernel
theorem dX10_divisor_44 : decode cX10_divisor 44 = .ok (.lstore 4, 2) := by decide +kernel
theorem dX10_divisor_46 : decode cX10_divisor 46 = .ok (.lload 8, 2) := by decide +kernel
theorem dX10_divisor_48 : decode cX10_divisor 48 = .ok (.lstore 6, 2) := by decide +kernel
theorem dX10_divisor_50 : decode cX10_divisor 50 = .ok (.goto (-22), 3) := by decide +kernel
theorem dX10_divisor_53 : decode cX10_divisor 53 = .ok (.lload 4, 2) := by decide +kernel
theorem dX10_divisor_55 : decode cX10_divisor 55 = .ok (.lreturn, 1) := by decide +kernel
theorem kcX10_divisor : Cond.code yX10_divisor cX10_divisor 10 (some .long) ∈ tb := tq q_867 rfl
theorem knX10_divisor : Cond.initialized yX10_divisor.cls ∈ tb := (tq q_10 rfl)
theorem kdX10_divisor : yX10_divisor.cls ≠ "java/lang/invoke/MethodHandle" ∧ yX10_divisor.cls ≠ "java/lang/invoke/VarHandle" ∧ (parseMethodDescriptor yX10_divisor.desc).map (fun d => d.parameters.length) = some 2 := ⟨by decide +kernel, by decide +kernel, by decide +kernel⟩
theorem kiX10_divisor : Cond.static yX10_divisor ∈ tb := (tq q_866 rfl)
noncomputable def fX10_divisor_b28  (x4 : Int64) (x6 : Int64) : PM ((Int64 × Int64) ⊕ (Int64)) :=
  (if (lg_cmp x6 (0 : Int64)) = 0 then
    pp (.inr x4)
  else
    (if x6 = 0 then pf else
    pp (.inl (x6, (x4 - x4 / x6 * x6)))))
noncomputable def fX10_divisor_B28  : (Int64 × Int64) → PM ((Int64 × Int64) ⊕ (Int64)) := fun (x : Int64 × Int64) => fX10_divisor_b28  x.1 x.2
noncomputable def fX10_divisor (x0 : Int64) (x2 : Int64) : PM Int64 :=
  (if 0 ≤ (lg_cmp x0 (0 : Int64)) then
    (if 0 ≤ (lg_cmp x2 (0 : Int64)) then
      pb (plo (fX10_divisor_B28 ) fu (x0, x2)) fun z5 =>
      pp z5
    else
      pb (plo (fX10_divisor_B28 ) fu (x0, (-x2))) fun z6 =>
      pp z6)
  else
    (if 0 ≤ (lg_cmp x2 (0 : Int64)) then
      pb (plo (fX10_divisor_B28 ) fu ((-x0), x2)) fun z8 =>
      pp z8
    else
      pb (plo (fX10_divisor_B28 ) fu ((-x0), (-x2))) fun z9 =>
      pp z9))
set_option maxHeartbeats 4000000 in
set_option maxRecDepth 100000 in
theorem wX10_divisor_B28 {p : Program} {l : Launch} {e : Env} {s : State} {m : MethodId} {args : Array Value} {below : List Frame} {meth : Method} {c : Code} {G : GG} {ρ : Nat → Nat} {h0 hE hB : PH} {Q : State → Prop}  (C : Cx G "PairSymbolsModel" cX10_divisor 10 (some .long) "diviso\x72" p s m args meth c) {x4 : Int64} {x6 : Int64} {h : PH} {H : Heap} {locs : List Loc} {cells slots : Nat} {ls : Array Slot} {r : (Int64 × Int64) ⊕ (Int64)} (hf : (fX10_divisor_b28  x4 x6).1 h = some (r, hB)) (hX : Ext hB hE) (hW : Wd G ρ h0.length (sl h0) s.heap h H locs cells slots) (hl : lv_has ls 10 [(4, .long x4), (6, .long x6)]) (kc : ∀ y : Int64 × Int64, r = .inl y → ∀ (H : Heap) (locs : List Loc) (c1 s1 : Nat) (ls : Array Slot), Wd G ρ h0.length (sl h0) s.heap hB H locs c1 s1 → lv_has ls 10 [(4, .long y.1), (6, .long y.2)] → W p l e (RM 0 0 h0 hE) s m args below meth c H locs c1 s1 Q (F0 m 28 ls [])) (ke : ∀ z : Int64, r = .inr z → ∀ (H : Heap) (locs : List Loc) (c1 s1 : Nat) (ls : Array Slot), Wd G ρ h0.length (sl h0) s.heap hB H locs c1 s1 → lv_has ls 10 [(4, .long z)] → W p l e (RM 0 0 h0 hE) s m args below meth c H locs c1 s1 Q (F0 m 53 ls [])) : W p l e (RM 0 0 h0 hE) s m args below meth c H locs cells slots Q (F0 m 28 ls []) := by
  have hx := C.1
  have hb := C.2.1
  unfold fX10_divisor_b28 at hf
  refine lv_lload hx hb dX10_divisor_28 (lv_at hl 1 rfl) ?_
  refine lv_lconst (v := 0) hx hb dX10_divisor_30 (by decide) ?_
  refine W.lcmp hx hb dX10_divisor_31 ?_
  refine lv_if_eq (tgt := 53) hx hb dX10_divisor_32 (by decide) (fun c3 => ?_) (fun c3 => ?_)
  · rw [if_pos c3] at hf
    obtain ⟨rfl, rfl⟩ := pp_some hf
    exact ke _ rfl _ _ _ _ _ hW (lv_sub hl [0] rfl)
  · rw [if_neg c3] at hf
    refine lv_lload hx hb dX10_divisor_35 (lv_at hl 0 rfl) ?_
    refine lv_lload hx hb dX10_divisor_37 (lv_at hl 1 rfl) ?_
    by_cases c4 : x6 = 0
    · rw [if_pos c4] at hf
      exact (pf_no hf).elim
    rw [if_neg c4] at hf
    refine lv_lrem hx hb dX10_divisor_39 c4 ?_
    refine lv_lstore (lv' := [(8, .long (x4 - x4 / x6 * x6)), (4, .long x4), (6, .long x6)]) hx hb dX10_divisor_40 hl (by decide) rfl (fun ls hl => ?_)
    refine lv_lload hx hb dX10_divisor_42 (lv_at hl 2 rfl) ?_
    refine lv_lstore (lv' := [(4, .long x6), (8, .long (x4 - x4 / x6 * x6)), (6, .long x6)]) hx hb dX10_divisor_44 hl (by decide) rfl (fun ls hl => ?_)
    refine lv_lload hx hb dX10_divisor_46 (lv_at hl 1 rfl) ?_
    refine lv_lstore (lv' := [(6, .long (x4 - x4 / x6 * x6)), (4, .long x6), (8, .long (x4 - x4 / x6 * x6))]) hx hb dX10_divisor_48 hl (by decide) rfl (fun ls hl => ?_)
    refine lv_goto (tgt := 28) hx hb dX10_divisor_50 (by decide) ?_
    obtain ⟨rfl, rfl⟩ := pp_some hf
    exact kc _ rfl _ _ _ _ _ hW (lv_sub hl [1, 0] rfl)
set_option maxHeartbeats 4000000 in
theorem wX10_divisor_L28 {p : Program} {l : Launch} {e : Env} {s : State} {m : MethodId} {args : Array Value} {below : List Frame} {meth : Method} {c : Code} {G : GG} {ρ : Nat → Nat} {h0 hE hB : PH} {Q : State → Prop}  (C : Cx G "PairSymbolsModel" cX10_divisor 10 (some .long) "diviso\x72" p s m args meth c) {z : (Int64)} (n : Nat) : ∀ (x : Int64 × Int64) {h : PH} {H : Heap} {locs : List Loc} {cells slots : Nat} {ls : Array Slot}, (plo (fX10_divisor_B28 ) n x).1 h = some (z, hB) → Ext hB hE → Wd G ρ h0.length (sl h0) s.heap h H locs cells slots → lv_has ls 10 [(4, .long x.1), (6, .long x.2)] → (ke : ∀ (H : Heap) (locs : List Loc) (c1 s1 : Nat) (ls : Array Slot), Wd G ρ h0.length (sl h0) s.heap hB H locs c1 s1 → lv_has ls 10 [(4, .long z)] → W p l e (RM 0 0 h0 hE) s m args below meth c H locs c1 s1 Q (F0 m 53 ls [])) → W p l e (RM 0 0 h0 hE) s m args below meth c H locs cells slots Q (F0 m 28 ls []) := by
  induction n with
  | zero =>
    intro x h H locs cells slots ls hf
    exact (pf_no hf).elim
  | succ n ih =>
    intro x h H locs cells slots ls hf hX hW hl ke
    obtain ⟨r, h1, e1, hf⟩ := pb_some hf
    refine wX10_divisor_B28 C e1 ((pext hf).tr hX) hW hl (fun y hr H locs c1 s1 ls hW hl => ?_) (fun y hr H locs c1 s1 ls hW hl => ?_)
    · subst hr
      exact ih y hf hX hW hl ke
    · subst hr
      obtain ⟨rfl, rfl⟩ := pp_some hf
      exact ke H locs c1 s1 ls hW hl
set_option maxHeartbeats 4000000 in
set_option maxRecDepth 100000 in
theorem metX10_divisor (l : Launch) (G : GG) (ρ : Nat → Nat) {z : Nat} {x0 : Int64} {x2 : Int64} {h hE : PH} {v : Int64} (hf : (fX10_divisor x0 x2).1 h = some (v, hE)) : Met l yX10_divisor (wsY yX10_divisor cX10_divisor 10 (some .long)) (RM 0 0 h hE) (va_Pc [.long x0, .long x2] (PcB G ρ h z)) (QL G ρ v hE h.length z) (DC h hE) (DS h hE) (Af ρ h.length z) := by
  refine met_start (by decide) (Nat.le_of_ble_eq_true rfl) ?_
  intro p e s m below meth c ls hz C hW hl
  subst hz
  have C : Cx G "PairSymbolsModel" cX10_divisor 10 (some .long) "diviso\x72" p s m _ meth c := C
  have hx := C.1
  have hb := C.2.1
  have hX : Ext hE hE := Ext.rf hE
  have hl : lv_has ls 10 [(0, .long x0), (2, .long x2)] := hl
  have hW : Wd G ρ h.length (sl h) s.heap h s.heap [] 0 0 := hW
  unfold fX10_divisor at hf
  refine lv_lload_n hx hb dX10_divisor_0 rfl (lv_at hl 0 rfl) ?_
  refine lv_lconst (v := 0) hx hb dX10_divisor_1 (by decide) ?_
  refine W.lcmp hx hb dX10_divisor_2 ?_
  refine lv_if_ge (tgt := 11) hx hb dX10_divisor_3 (by decide) (fun c1 => ?_) (fun c1 => ?_)
  · rw [if_pos c1] at hf
    refine lv_lload_n hx hb dX10_divisor_11 rfl (lv_at hl 0 rfl) ?_
    refine lv_lstore (lv' := [(4, .long x0), (0, .long x0), (2, .long x2)]) hx hb dX10_divisor_12 hl (by decide) rfl (fun ls hl => ?_)
    refine lv_lload_n hx hb dX10_divisor_14 rfl (lv_at hl 2 rfl) ?_
    refine lv_lconst (v := 0) hx hb dX10_divisor_15 (by decide) ?_
    refine W.lcmp hx hb dX10_divisor_16 ?_
    refine lv_if_ge (tgt := 25) hx hb dX10_divisor_17 (by decide) (fun c2 => ?_) (fun c2 => ?_)
    · rw [if_pos c2] at hf
      refine lv_lload_n hx hb dX10_divisor_25 rfl (lv_at hl 2 rfl) ?_
      refine lv_lstore (lv' := [(6, .long x2), (4, .long x0), (0, .long x0), (2, .long x2)]) hx hb dX10_divisor_26 hl (by decide) rfl (fun ls hl => ?_)
      obtain ⟨z5, h5, e5, hf⟩ := pb_some hf
      refine wX10_divisor_L28 C fu _ e5 ((pext hf).tr hX) hW (lv_sub hl [1, 0] rfl) (fun H locs c1 s1 ls hW hl => ?_)
      refine lv_lload hx hb dX10_divisor_53 (lv_at hl 0 rfl) ?_
      obtain ⟨rfl, rfl⟩ := pp_some hf
      exact r_lret C hW dX10_divisor_55
    · rw [if_neg c2] at hf
      refine lv_lload_n hx hb dX10_divisor_20 rfl (lv_at hl 2 rfl) ?_
      refine lv_lneg hx hb dX10_divisor_21 ?_
      refine lv_goto (tgt := 26) hx hb dX10_divisor_22 (by decide) ?_
      refine lv_lstore (lv' := [(6, .long (-x2)), (4, .long x0), (0, .long x0), (2, .long x2)]) hx hb dX10_divisor_26 hl (by decide) rfl (fun ls hl => ?_)
      obtain ⟨z6, h6, e6, hf⟩ := pb_some hf
      refine wX10_divisor_L28 C fu _ e6 ((pext hf).tr hX) hW (lv_sub hl [1, 0] rfl) (fun H locs c1 s1 ls hW hl => ?_)
      refine lv_lload hx hb dX10_divisor_53 (lv_at hl 0 rfl) ?_
      obtain ⟨rfl, rfl⟩ := pp_some hf
      exact r_lret C hW dX10_divisor_55
  · rw [if_neg c1] at hf
    refine lv_lload_n hx hb dX10_divisor_6 rfl (lv_at hl 0 rfl) ?_
    refine lv_lneg hx hb dX10_divisor_7 ?_
    refine lv_goto (tgt := 12) hx hb dX10_divisor_8 (by decide) ?_
    refine lv_lstore (lv' := [(4, .long (-x0)), (0, .long x0), (2, .long x2)]) hx hb dX10_divisor_12 hl (by decide) rfl (fun ls hl => ?_)
    refine lv_lload_n hx hb dX10_divisor_14 rfl (lv_at hl 2 rfl) ?_
    refine lv_lconst (v := 0) hx hb dX10_divisor_15 (by decide) ?_
    refine W.lcmp hx hb dX10_divisor_16 ?_
    refine lv_if_ge (tgt := 25) hx hb dX10_divisor_17 (by decide) (fun c7 => ?_) (fun c7 => ?_)
    · rw [if_pos c7] at hf
      refine lv_lload_n hx hb dX10_divisor_25 rfl (lv_at hl 2 rfl) ?_
      refine lv_lstore (lv' := [(6, .long x2), (4, .long (-x0)), (0, .long x0), (2, .long x2)]) hx hb dX10_divisor_26 hl (by decide) rfl (fun ls hl => ?_)
      obtain ⟨z8, h8, e8, hf⟩ := pb_some hf
      refine wX10_divisor_L28 C fu _ e8 ((pext hf).tr hX) hW (lv_sub hl [1, 0] rfl) (fun H locs c1 s1 ls hW hl => ?_)
      refine lv_lload hx hb dX10_divisor_53 (lv_at hl 0 rfl) ?_
      obtain ⟨rfl, rfl⟩ := pp_some hf
      exact r_lret C hW dX10_divisor_55
    · rw [if_neg c7] at hf
      refine lv_lload_n hx hb dX10_divisor_20 rfl (lv_at hl 2 rfl) ?_
      refine lv_lneg hx hb dX10_divisor_21 ?_
      refine lv_goto (tgt := 26) hx hb dX10_divisor_22 (by decide) ?_
      refine lv_lstore (lv' := [(6, .long (-x2)), (4, .long (-x0)), (0, .long x0), (2, .long x2)]) hx hb dX10_divisor_26 hl (by decide) rfl (fun ls hl => ?_)
      obtain ⟨z9, h9, e9, hf⟩ := pb_some hf
      refine wX10_divisor_L28 C fu _ e9 ((pext hf).tr hX) hW (lv_sub hl [1, 0] rfl) (fun H locs c1 s1 ls hW hl => ?_)
      refine lv_lload hx hb dX10_divisor_53 (lv_at hl 0 rfl) ?_
      obtain ⟨rfl, rfl⟩ := pp_some hf
      exact r_lret C hW dX10_divisor_55

theorem dX10_lowest_0 : decode cX10_lowest 0 = .ok (.lload_n 1, 1) := by decide +kernel
theorem dX10_lowest_1 : decode cX10_lowest 1 = .ok (.lload_n 3, 1) := by decide +kernel
theorem dX10_lowest_2 : decode cX10_lowest 2 = .ok (.invokestatic 129, 3) := by decide +kernel
theorem dX10_lowest_5 : decode cX10_lowest 5 = .ok (.lstore 5, 2) := by decide +kernel
theorem dX10_lowest_7 : decode cX10_lowest 7 = .ok (.lload_n 3, 1) := by decide +kernel
theorem dX10_lowest_8 : decode cX10_lowest 8 = .ok (.lconst 0, 1) := by decide +kernel
theorem dX10_lowest_9 : decode cX10_lowest 9 = .ok (.lcmp, 1) := by decide +kernel
theorem dX10_lowest_10 : decode cX10_lowest 10 = .ok (.ifCond .ge 9, 3) := by decide +kernel
theorem dX10_lowest_13 : decode cX10_lowest 13 = .ok (.lload 5, 2) := by decide +kernel
theorem dX10_lowest_15 : decode cX10_lowest 15 = .ok (.lneg, 1) := by decide +kernel
theorem dX10_lowest_16 : decode cX10_lowest 16 = .ok (.goto 5, 3) := by decide +kernel
theorem dX10_lowest_19 : decode cX10_lowest 19 = .ok (.lload 5, 2) := by decide +kernel
theorem dX10_lowest_21 : decode cX10_lowest 21 = .ok (.lstore 5, 2) := by decide +kernel
theorem dX10_lowest_23 : decode cX10_lowest 23 = .ok (.aload_n 0, 1) := by decide +kernel
theorem dX10_lowest_24 : decode cX10_lowest 24 = .ok (.lload_n 1, 1) := by decide +kernel
theorem dX10_lowest_25 : decode cX10_lowest 25 = .ok (.lload 5, 2) := by decide +kernel
theorem dX10_lowest_27 : decode cX10_lowest 27 = .ok (.ldiv, 1) := by decide +kernel
theorem dX10_lowest_28 : decode cX10_lowest 28 = .ok (.putfield 133, 3) := by decide +kernel
theorem dX10_lowest_31 : decode cX10_lowest 31 = .ok (.aload_n 0, 1) := by decide +kernel
theorem dX10_lowest_32 : decode cX10_lowest 32 = .ok (.lload_n 3, 1) := by decide +kernel
theorem dX10_lowest_33 : decode cX10_lowest 33 = .ok (.lload 5, 2) := by decide +kernel
theorem dX10_lowest_35 : decode cX10_lowest 35 = .ok (.ldiv, 1) := by decide +kernel
theorem dX10_lowest_36 : decode cX10_lowest 36 = .ok (.putfield 137, 3) := by decide +kernel
theorem dX10_lowest_39 : decode cX10_lowest 39 = .ok (.return_, 1) := by decide +kernel
theorem kcX10_lowest : Cond.code yX10_lowest cX10_lowest 7 none ∈ tb := tq q_906 rfl
theorem knX10_lowest : Cond.initialized yX10_lowest.cls ∈ tb := (tq q_10 rfl)
theorem kdX10_lowest : yX10_lowest.cls ≠ "java/lang/invoke/MethodHandle" ∧ yX10_lowest.cls ≠ "java/lang/invoke/VarHandle" ∧ (parseMethodDescriptor yX10_lowest.desc).map (fun d => d.parameters.length) = some 2 := ⟨by decide +kernel, by decide +kernel, by decide +kernel⟩
theorem kiX10_lowest : Cond.instanceMethod yX10_lowest ∈ tb := (tq q_905 rfl)
theorem ksX10_lowest : Cond.selects yX10_lowest.cls yX10_lowest yX10_lowest ∈ tb := (tq z_39 rfl)
noncomputable def fX10_lowest (x0 : Nat) (x1 : Int64) (x3 : Int64) : PM Unit :=
  pb (chk 9 x0) fun _ =>
  pb (fX10_divisor x1 x3) fun v1 =>
  (if 0 ≤ (lg_cmp x3 (0 : Int64)) then
    (if v1 = 0 then pf else
    pb (sJ 9 5 x0 (x1 / v1)) fun _ =>
    (if v1 = 0 then pf else
    pb (sJ 9 6 x0 (x3 / v1)) fun _ =>
    pp ()))
  else
    (if (-v1) = 0 then pf else
    pb (sJ 9 5 x0 (x1 / (-v1))) fun _ =>
    (if (-v1) = 0 then pf else
    pb (sJ 9 6 x0 (x3 / (-v1))) fun _ =>
    pp ())))
theorem tgX10_lowest {x0 : Nat} {x1 : Int64} {x3 : Int64} {h : PH} {r : Unit × PH} (hf : (fX10_lowest x0 x1 x3).1 h = some r) : ∃ n x, nth h x0 = some (9, n, x) := by
  obtain ⟨_, _, e, _⟩ := pb_some hf
  exact (chk_some e).2
set_option maxHeartbeats 4000000 in
set_option maxRecDepth 100000 in
theorem metX10_lowest (l : Launch) (G : GG) (ρ : Nat → Nat) {z : Nat} {x0 : Nat} {x1 : Int64} {x3 : Int64} {h hE : PH} {v : Unit} (hf : (fX10_lowest x0 x1 x3).1 h = some (v, hE)) : Met l yX10_lowest (wsY yX10_lowest cX10_lowest 7 none) (RM 1 29 h hE) (va_Pc [.ref (ρ x0), .long x1, .long x3] (PcB G ρ h z)) (QV G ρ hE h.length z) (DC h hE) (DS h hE) (Af ρ h.length z) := by
  refine met_start (by decide) (Nat.le_of_ble_eq_true rfl) ?_
  intro p e s m below meth c ls hz C hW hl
  subst hz
  have C : Cx G "PairSymbolsModel" cX10_lowest 7 none "lowest" p s m _ meth c := C
  have hx := C.1
  have hb := C.2.1
  have hX : Ext hE hE := Ext.rf hE
  have hl : lv_has ls 7 [(0, .ref (ρ x0)), (1, .long x1), (3, .long x3)] := hl
  have hW : Wd G ρ h.length (sl h) s.heap h s.heap [] 0 0 := hW
  unfold fX10_lowest at hf
  obtain ⟨_, e0, hf⟩ := pb_rd (rd_chk _ _) hf
  refine lv_lload_n hx hb dX10_lowest_0 rfl (lv_at hl 1 rfl) ?_
  refine lv_lload_n hx hb dX10_lowest_1 rfl (lv_at hl 2 rfl) ?_
  obtain ⟨v1, h1, e1, hf⟩ := pb_some hf
  refine r_calll hW (pext e1) (run_S (As := [.long x1, .long x3]) (rest := []) C hW (metX10_divisor l G ρ e1) ⟨rfl, rfl⟩ kcX10_divisor (tq q_865 rfl) kiX10_divisor knX10_divisor kdX10_divisor ⟨Nat.le_of_ble_eq_true rfl, Nat.le_of_ble_eq_true rfl⟩ hl.1 (Nat.le_of_ble_eq_true rfl) (room_of hW (pext e1) ((pext hf).tr hX)) dX10_lowest_2 rfl) (fun H locs c1 s1 hW => ?_)
  refine lv_lstore (lv' := [(5, .long v1), (0, .ref (ρ x0)), (1, .long x1), (3, .long x3)]) hx hb dX10_lowest_5 hl (by decide) rfl (fun ls hl => ?_)
  refine lv_lload_n hx hb dX10_lowest_7 rfl (lv_at hl 3 rfl) ?_
  refine lv_lconst (v := 0) hx hb dX10_lowest_8 (by decide) ?_
  refine W.lcmp hx hb dX10_lowest_9 ?_
  refine lv_if_ge (tgt := 19) hx hb dX10_lowest_10 (by decide) (fun c2 => ?_) (fun c2 => ?_)
  · rw [if_pos c2] at hf
    refine lv_lload hx hb dX10_lowest_19 (lv_at hl 0 rfl) ?_
    refine lv_lstore (lv' := [(5, .long v1), (0, .ref (ρ x0)), (1, .long x1), (3, .long x3)]) hx hb dX10_lowest_21 hl (by decide) rfl (fun ls hl => ?_)
    refine lv_aload_n hx hb dX10_lowest_23 rfl (lv_at hl 1 rfl) ?_
    refine lv_lload_n hx hb dX10_lowest_24 rfl (lv_at hl 2 rfl) ?_
    refine lv_lload hx hb dX10_lowest_25 (lv_at hl 0 rfl) ?_
    by_cases c3 : v1 = 0
    · rw [if_pos c3] at hf
      exact (pf_no hf).elim
    rw [if_neg c3] at hf
    refine lv_ldiv hx hb dX10_lowest_27 c3 ?_
    obtain ⟨_, h4, e4, hf⟩ := pb_some hf
    refine r_sJ C hW e4 flX10_133 (Or.inl rfl) rfl dX10_lowest_28 (fun H locs hW => ?_)
    refine lv_aload_n hx hb dX10_lowest_31 rfl (lv_at hl 1 rfl) ?_
    refine lv_lload_n hx hb dX10_lowest_32 rfl (lv_at hl 3 rfl) ?_
    refine lv_lload hx hb dX10_lowest_33 (lv_at hl 0 rfl) ?_
    by_cases c5 : v1 = 0
    · rw [if_pos c5] at hf
      exact (pf_no hf).elim
    rw [if_neg c5] at hf
    refine lv_ldiv hx hb dX10_lowest_35 c5 ?_
    obtain ⟨_, h6, e6, hf⟩ := pb_some hf
    refine r_sJ C hW e6 flX10_137 (Or.inl rfl) rfl dX10_lowest_36 (fun H locs hW => ?_)
    obtain ⟨rfl, rfl⟩ := pp_some hf
    exact r_vret C hW dX10_lowest_39
  · rw [if_neg c2] at hf
    refine lv_lload hx hb dX10_lowest_13 (lv_at hl 0 rfl) ?_
    refine lv_lneg hx hb dX10_lowest_15 ?_
    refine lv_goto (tgt := 21) hx hb dX10_lowest_16 (by decide) ?_
    refine lv_lstore (lv' := [(5, .long (-v1)), (0, .ref (ρ x0)), (1, .long x1), (3, .long x3)]) hx hb dX10_lowest_21 hl (by decide) rfl (fun ls hl => ?_)
    refine lv_aload_n hx hb dX10_lowest_23 rfl (lv_at hl 1 rfl) ?_
    refine lv_lload_n hx hb dX10_lowest_24 rfl (lv_at hl 2 rfl) ?_
    refine lv_lload hx hb dX10_lowest_25 (lv_at hl 0 rfl) ?_
    by_cases c7 : (-v1) = 0
    · rw [if_pos c7] at hf
      exact (pf_no hf).elim
    rw [if_neg c7] at hf
    refine lv_ldiv hx hb dX10_lowest_27 c7 ?_
    obtain ⟨_, h8, e8, hf⟩ := pb_some hf
    refine r_sJ C hW e8 flX10_133 (Or.inl rfl) rfl dX10_lowest_28 (fun H locs hW => ?_)
    refine lv_aload_n hx hb dX10_lowest_31 rfl (lv_at hl 1 rfl) ?_
    refine lv_lload_n hx hb dX10_lowest_32 rfl (lv_at hl 3 rfl) ?_
    refine lv_lload hx hb dX10_lowest_33 (lv_at hl 0 rfl) ?_
    by_cases c9 : (-v1) = 0
    · rw [if_pos c9] at hf
      exact (pf_no hf).elim
    rw [if_neg c9] at hf
    refine lv_ldiv hx hb dX10_lowest_35 c9 ?_
    obtain ⟨_, h10, e10, hf⟩ := pb_some hf
    refine r_sJ C hW e10 flX10_137 (Or.inl rfl) rfl dX10_lowest_36 (fun H locs hW => ?_)
    obtain ⟨rfl, rfl⟩ := pp_some hf
    exact r_vret C hW dX10_lowest_39

theorem dX10_sumOf_0 : decode cX10_sumOf 0 = .ok (.aload_n 0, 1) := by decide +kernel
theorem dX10_sumOf_1 : decode cX10_sumOf 1 = .ok (.lload_n 1, 1) := by decide +kernel
theorem dX10_sumOf_2 : decode cX10_sumOf 2 = .ok (.lload 7, 2) := by decide +kernel
theorem dX10_sumOf_4 : decode cX10_sumOf 4 = .ok (.lmul, 1) := by decide +kernel
theorem dX10_sumOf_5 : decode cX10_sumOf 5 = .ok (.lload 5, 2) := by decide +kernel
theorem dX10_sumOf_7 : decode cX10_sumOf 7 = .ok (.lload_n 3, 1) := by decide +kernel
theorem dX10_sumOf_8 : decode cX10_sumOf 8 = .ok (.lmul, 1) := by decide +kernel
theorem dX10_sumOf_9 : decode cX10_sumOf 9 = .ok (.ladd, 1) := by decide +kernel
theorem dX10_sumOf_10 : decode cX10_sumOf 10 = .ok (.lload_n 3, 1) := by decide +kernel
theorem dX10_sumOf_11 : decode cX10_sumOf 11 = .ok (.lload 7, 2) := by decide +kernel
theorem dX10_sumOf_13 : decode cX10_sumOf 13 = .ok (.lmul, 1) := by decide +kernel
theorem dX10_sumOf_14 : decode cX10_sumOf 14 = .ok (.invokevirtual 140, 3) := by decide +kernel
theorem dX10_sumOf_17 : decode cX10_sumOf 17 = .ok (.return_, 1) := by decide +kernel
theorem kcX10_sumOf : Cond.code yX10_sumOf cX10_sumOf 9 none ∈ tb := tq q_902 rfl
theorem knX10_sumOf : Cond.initialized yX10_sumOf.cls ∈ tb := (tq q_10 rfl)
theorem kdX10_sumOf : yX10_sumOf.cls ≠ "java/lang/invoke/MethodHandle" ∧ yX10_sumOf.cls ≠ "java/lang/invoke/VarHandle" ∧ (parseMethodDescriptor yX10_sumOf.desc).map (fun d => d.parameters.length) = some 4 := ⟨by decide +kernel, by decide +kernel, by decide +kernel⟩
theorem kiX10_sumOf : Cond.instanceMethod yX10_sumOf ∈ tb := (tq q_901 rfl)
theorem ksX10_sumOf : Cond.selects yX10_sumOf.cls yX10_sumOf yX10_sumOf ∈ tb := (tq z_38 rfl)
noncomputable def fX10_sumOf (x0 : Nat) (x1 : Int64) (x3 : Int64) (x5 : Int64) (x7 : Int64) : PM Unit :=
  pb (chk 9 x0) fun _ =>
  pb (fX10_lowest x0 ((x1 * x7) + (x5 * x3)) (x3 * x7)) fun _ =>
  pp ()
theorem tgX10_sumOf {x0 : Nat} {x1 : Int64} {x3 : Int64} {x5 : Int64} {x7 : Int64} {h : PH} {r : Unit × PH} (hf : (fX10_sumOf x0 x1 x3 x5 x7).1 h = some r) : ∃ n x, nth h x0 = some (9, n, x) := by
  obtain ⟨_, _, e, _⟩ := pb_some hf
  exact (chk_some e).2
set_option maxHeartbeats 4000000 in
set_option maxRecDepth 100000 in
theorem metX10_sumOf (l : Launch) (G : GG) (ρ : Nat → Nat) {z : Nat} {x0 : Nat} {x1 : Int64} {x3 : Int64} {x5 : Int64} {x7 : Int64} {h hE : PH} {v : Unit} (hf : (fX10_sumOf x0 x1 x3 x5 x7).1 h = some (v, hE)) : Met l yX10_sumOf (wsY yX10_sumOf cX10_sumOf 9 none) (RM 2 55 h hE) (va_Pc [.ref (ρ x0), .long x1, .long x3, .long x5, .long x7] (PcB G ρ h z)) (QV G ρ hE h.length z) (DC h hE) (DS h hE) (Af ρ h.length z) := by
  refine met_start (by decide) (Nat.le_of_ble_eq_true rfl) ?_
  intro p e s m below meth c ls hz C hW hl
  subst hz
  have C : Cx G "PairSymbolsModel" cX10_sumOf 9 none "sumOf" p s m _ meth c := C
  have hx := C.1
  have hb := C.2.1
  have hX : Ext hE hE := Ext.rf hE
  have hl : lv_has ls 9 [(0, .ref (ρ x0)), (1, .long x1), (3, .long x3), (5, .long x5), (7, .long x7)] := hl
  have hW : Wd G ρ h.length (sl h) s.heap h s.heap [] 0 0 := hW
  unfold fX10_sumOf at hf
  obtain ⟨_, e0, hf⟩ := pb_rd (rd_chk _ _) hf
  refine lv_aload_n hx hb dX10_sumOf_0 rfl (lv_at hl 0 rfl) ?_
  refine lv_lload_n hx hb dX10_sumOf_1 rfl (lv_at hl 1 rfl) ?_
  refine lv_lload hx hb dX10_sumOf_2 (lv_at hl 4 rfl) ?_
  refine lv_lmul hx hb dX10_sumOf_4 ?_
  refine lv_lload hx hb dX10_sumOf_5 (lv_at hl 3 rfl) ?_
  refine lv_lload_n hx hb dX10_sumOf_7 rfl (lv_at hl 2 rfl) ?_
  refine lv_lmul hx hb dX10_sumOf_8 ?_
  refine lv_ladd hx hb dX10_sumOf_9 ?_
  refine lv_lload_n hx hb dX10_sumOf_10 rfl (lv_at hl 2 rfl) ?_
  refine lv_lload hx hb dX10_sumOf_11 (lv_at hl 4 rfl) ?_
  refine lv_lmul hx hb dX10_sumOf_13 ?_
  obtain ⟨_, h1, e1, hf⟩ := pb_some hf
  obtain ⟨_, _, t2⟩ := tgX10_lowest e1
  refine r_callv hW (pext e1) (run_V (b := x0) (As := [.long ((x1 * x7) + (x5 * x3)), .long (x3 * x7)]) (rest := []) C hW (metX10_lowest l G ρ e1) ⟨rfl, rfl⟩ kcX10_lowest (tq q_903 rfl) kiX10_lowest ksX10_lowest knX10_lowest kdX10_lowest t2 rfl rfl ⟨Nat.le_of_ble_eq_true rfl, Nat.le_of_ble_eq_true rfl⟩ hl.1 (Nat.le_of_ble_eq_true rfl) (room_of hW (pext e1) ((pext hf).tr hX)) dX10_sumOf_14 rfl) (fun H locs c1 s1 hW => ?_)
  obtain ⟨rfl, rfl⟩ := pp_some hf
  exact r_vret C hW dX10_sumOf_17

theorem dX10_more_0 : decode cX10_more 0 = .ok (.aload_n 0, 1) := by decide +kernel
theorem dX10_more_1 : decode cX10_more 1 = .ok (.lload 5, 2) := by decide +kernel
theorem dX10_more_3 : decode cX10_more 3 = .ok (.lload 9, 2) := by decide +kernel
theorem dX10_more_5 : decode cX10_more 5 = .ok (.lmul, 1) := by decide +kernel
theorem dX10_more_6 : decode cX10_more 6 = .ok (.lload 7, 2) := by decide +kernel
theorem dX10_more_8 : decode cX10_more 8 = .ok (.lload 11, 2) := by decide +kernel
theorem dX10_more_10 : decode cX10_more 10 = .ok (.lmul, 1) := by decide +kernel
theorem dX10_more_11 : decode cX10_more 11 = .ok (.invokevirtual 140, 3) := by decide +kernel
theorem dX10_more_14 : decode cX10_more 14 = .ok (.aload_n 0, 1) := by decide +kernel
theorem dX10_more_15 : decode cX10_more 15 = .ok (.lload_n 1, 1) := by decide +kernel
theorem dX10_more_16 : decode cX10_more 16 = .ok (.lload_n 3, 1) := by decide +kernel
theorem dX10_more_17 : decode cX10_more 17 = .ok (.aload_n 0, 1) := by decide +kernel
theorem dX10_more_18 : decode cX10_more 18 = .ok (.getfield 133, 3) := by decide +kernel
theorem dX10_more_21 : decode cX10_more 21 = .ok (.aload_n 0, 1) := by decide +kernel
theorem dX10_more_22 : decode cX10_more 22 = .ok (.getfield 137, 3) := by decide +kernel
theorem dX10_more_25 : decode cX10_more 25 = .ok (.invokevirtual 144, 3) := by decide +kernel
theorem dX10_more_28 : decode cX10_more 28 = .ok (.return_, 1) := by decide +kernel
theorem kcX10_more : Cond.code yX10_more cX10_more 13 none ∈ tb := tq q_922 rfl
theorem knX10_more : Cond.initialized yX10_more.cls ∈ tb := (tq q_10 rfl)
theorem kdX10_more : yX10_more.cls ≠ "java/lang/invoke/MethodHandle" ∧ yX10_more.cls ≠ "java/lang/invoke/VarHandle" ∧ (parseMethodDescriptor yX10_more.desc).map (fun d => d.parameters.length) = some 6 := ⟨by decide +kernel, by decide +kernel, by decide +kernel⟩
theorem kiX10_more : Cond.instanceMethod yX10_more ∈ tb := (tq q_921 rfl)
theorem ksX10_more : Cond.selects yX10_more.cls yX10_more yX10_more ∈ tb := (tq z_43 rfl)
noncomputable def fX10_more (x0 : Nat) (x1 : Int64) (x3 : Int64) (x5 : Int64) (x7 : Int64) (x9 : Int64) (x11 : Int64) : PM Unit :=
  pb (chk 9 x0) fun _ =>
  pb (fX10_lowest x0 (x5 * x9) (x7 * x11)) fun _ =>
  pb (gJ 9 5 x0) fun v3 =>
  pb (gJ 9 6 x0) fun v4 =>
  pb (fX10_sumOf x0 x1 x3 v3 v4) fun _ =>
  pp ()
theorem tgX10_more {x0 : Nat} {x1 : Int64} {x3 : Int64} {x5 : Int64} {x7 : Int64} {x9 : Int64} {x11 : Int64} {h : PH} {r : Unit × PH} (hf : (fX10_more x0 x1 x3 x5 x7 x9 x11).1 h = some r) : ∃ n x, nth h x0 = some (9, n, x) := by
  obtain ⟨_, _, e, _⟩ := pb_some hf
  exact (chk_some e).2
set_option maxHeartbeats 4000000 in
set_option maxRecDepth 100000 in
theorem metX10_more (l : Launch) (G : GG) (ρ : Nat → Nat) {z : Nat} {x0 : Nat} {x1 : Int64} {x3 : Int64} {x5 : Int64} {x7 : Int64} {x9 : Int64} {x11 : Int64} {h hE : PH} {v : Unit} (hf : (fX10_more x0 x1 x3 x5 x7 x9 x11).1 h = some (v, hE)) : Met l yX10_more (wsY yX10_more cX10_more 13 none) (RM 3 83 h hE) (va_Pc [.ref (ρ x0), .long x1, .long x3, .long x5, .long x7, .long x9, .long x11] (PcB G ρ h z)) (QV G ρ hE h.length z) (DC h hE) (DS h hE) (Af ρ h.length z) := by
  refine met_start (by decide) (Nat.le_of_ble_eq_true rfl) ?_
  intro p e s m below meth c ls hz C hW hl
  subst hz
  have C : Cx G "PairSymbolsModel" cX10_more 13 none "more" p s m _ meth c := C
  have hx := C.1
  have hb := C.2.1
  have hX : Ext hE hE := Ext.rf hE
  have hl : lv_has ls 13 [(0, .ref (ρ x0)), (1, .long x1), (3, .long x3), (5, .long x5), (7, .long x7), (9, .long x9), (11, .long x11)] := hl
  have hW : Wd G ρ h.length (sl h) s.heap h s.heap [] 0 0 := hW
  unfold fX10_more at hf
  obtain ⟨_, e0, hf⟩ := pb_rd (rd_chk _ _) hf
  refine lv_aload_n hx hb dX10_more_0 rfl (lv_at hl 0 rfl) ?_
  refine lv_lload hx hb dX10_more_1 (lv_at hl 3 rfl) ?_
  refine lv_lload hx hb dX10_more_3 (lv_at hl 5 rfl) ?_
  refine lv_lmul hx hb dX10_more_5 ?_
  refine lv_lload hx hb dX10_more_6 (lv_at hl 4 rfl) ?_
  refine lv_lload hx hb dX10_more_8 (lv_at hl 6 rfl) ?_
  refine lv_lmul hx hb dX10_more_10 ?_
  obtain ⟨_, h1, e1, hf⟩ := pb_some hf
  obtain ⟨_, _, t2⟩ := tgX10_lowest e1
  refine r_callv hW (pext e1) (run_V (b := x0) (As := [.long (x5 * x9), .long (x7 * x11)]) (rest := []) C hW (metX10_lowest l G ρ e1) ⟨rfl, rfl⟩ kcX10_lowest (tq q_903 rfl) kiX10_lowest ksX10_lowest knX10_lowest kdX10_lowest t2 rfl rfl ⟨Nat.le_of_ble_eq_true rfl, Nat.le_of_ble_eq_true rfl⟩ hl.1 (Nat.le_of_ble_eq_true rfl) (room_of hW (pext e1) ((pext hf).tr hX)) dX10_more_11 rfl) (fun H locs c1 s1 hW => ?_)
  refine lv_aload_n hx hb dX10_more_14 rfl (lv_at hl 0 rfl) ?_
  refine lv_lload_n hx hb dX10_more_15 rfl (lv_at hl 1 rfl) ?_
  refine lv_lload_n hx hb dX10_more_16 rfl (lv_at hl 2 rfl) ?_
  refine lv_aload_n hx hb dX10_more_17 rfl (lv_at hl 0 rfl) ?_
  obtain ⟨v3, e3, hf⟩ := pb_rd (rd_gJ _ _ _) hf
  refine r_gJ C hW e3 flX10_133 rfl dX10_more_18 ?_
  refine lv_aload_n hx hb dX10_more_21 rfl (lv_at hl 0 rfl) ?_
  obtain ⟨v4, e4, hf⟩ := pb_rd (rd_gJ _ _ _) hf
  refine r_gJ C hW e4 flX10_137 rfl dX10_more_22 ?_
  obtain ⟨_, h5, e5, hf⟩ := pb_some hf
  obtain ⟨_, _, t6⟩ := tgX10_sumOf e5
  refine r_callv hW (pext e5) (run_V (b := x0) (As := [.long x1, .long x3, .long v3, .long v4]) (rest := []) C hW (metX10_sumOf l G ρ e5) ⟨rfl, rfl⟩ kcX10_sumOf (tq q_899 rfl) kiX10_sumOf ksX10_sumOf knX10_sumOf kdX10_sumOf t6 rfl rfl ⟨Nat.le_of_ble_eq_true rfl, Nat.le_of_ble_eq_true rfl⟩ hl.1 (Nat.le_of_ble_eq_true rfl) (room_of hW (pext e5) ((pext hf).tr hX)) dX10_more_25 rfl) (fun H locs c1 s1 hW => ?_)
  obtain ⟨rfl, rfl⟩ := pp_some hf
  exact r_vret C hW dX10_more_28

theorem dX10_over_0 : decode cX10_over 0 = .ok (.iload_n 0, 1) := by decide +kernel
theorem dX10_over_1 : decode cX10_over 1 = .ok (.iload_n 1, 1) := by decide +kernel
theorem dX10_over_2 : decode cX10_over 2 = .ok (.irem, 1) := by decide +kernel
theorem dX10_over_3 : decode cX10_over 3 = .ok (.istore_n 2, 1) := by decide +kernel
theorem dX10_over_4 : decode cX10_over 4 = .ok (.iload_n 2, 1) := by decide +kernel
theorem dX10_over_5 : decode cX10_over 5 = .ok (.ifCond .ge 9, 3) := by decide +kernel
theorem dX10_over_8 : decode cX10_over 8 = .ok (.iload_n 2, 1) := by decide +kernel
theorem dX10_over_9 : decode cX10_over 9 = .ok (.iload_n 1, 1) := by decide +kernel
theorem dX10_over_10 : decode cX10_over 10 = .ok (.iadd, 1) := by decide +kernel
theorem dX10_over_11 : decode cX10_over 11 = .ok (.goto 4, 3) := by decide +kernel
theorem dX10_over_14 : decode cX10_over 14 = .ok (.iload_n 2, 1) := by decide +kernel
theorem dX10_over_15 : decode cX10_over 15 = .ok (.ireturn, 1) := by decide +kernel
theorem kcX10_over : Cond.code yX10_over cX10_over 3 (some .int) ∈ tb := tq q_874 rfl
theorem knX10_over : Cond.initialized yX10_over.cls ∈ tb := (tq q_10 rfl)
theorem kdX10_over : yX10_over.cls ≠ "java/lang/invoke/MethodHandle" ∧ yX10_over.cls ≠ "java/lang/invoke/VarHandle" ∧ (parseMethodDescriptor yX10_over.desc).map (fun d => d.parameters.length) = some 2 := ⟨by decide +kernel, by decide +kernel, by decide +kernel⟩
theorem kiX10_over : Cond.static yX10_over ∈ tb := (tq q_873 rfl)
noncomputable def fX10_over (x0 : Int32) (x1 : Int32) : PM Int32 :=
  (if x1 = 0 then pf else
  (if 0 ≤ (x0 - x0 / x1 * x1) then
    pp (x0 - x0 / x1 * x1)
  else
    pp ((x0 - x0 / x1 * x1) + x1)))
set_option maxHeartbeats 4000000 in
set_option maxRecDepth 100000 in
theorem metX10_over (l : Launch) (G : GG) (ρ : Nat → Nat) {z : Nat} {x0 : Int32} {x1 : Int32} {h hE : PH} {v : Int32} (hf : (fX10_over x0 x1).1 h = some (v, hE)) : Met l yX10_over (wsY yX10_over cX10_over 3 (some .int)) (RM 0 0 h hE) (va_Pc [.int x0, .int x1] (PcB G ρ h z)) (QI G ρ v hE h.length z) (DC h hE) (DS h hE) (Af ρ h.length z) := by
  refine met_start (by decide) (Nat.le_of_ble_eq_true rfl) ?_
  intro p e s m below meth c ls hz C hW hl
  subst hz
  have C : Cx G "PairSymbolsModel" cX10_over 3 (some .int) "ove\x72" p s m _ meth c := C
  have hx := C.1
  have hb := C.2.1
  have hX : Ext hE hE := Ext.rf hE
  have hl : lv_has ls 3 [(0, .int x0), (1, .int x1)] := hl
  have hW : Wd G ρ h.length (sl h) s.heap h s.heap [] 0 0 := hW
  unfold fX10_over at hf
  refine lv_iload_n hx hb dX10_over_0 rfl (lv_at hl 0 rfl) ?_
  refine lv_iload_n hx hb dX10_over_1 rfl (lv_at hl 1 rfl) ?_
  by_cases c1 : x1 = 0
  · rw [if_pos c1] at hf
    exact (pf_no hf).elim
  rw [if_neg c1] at hf
  refine lv_irem hx hb dX10_over_2 c1 ?_
  refine lv_istore_n (lv' := [(2, .int (x0 - x0 / x1 * x1)), (0, .int x0), (1, .int x1)]) hx hb dX10_over_3 rfl hl (by decide) rfl (fun ls hl => ?_)
  refine lv_iload_n hx hb dX10_over_4 rfl (lv_at hl 0 rfl) ?_
  refine lv_if_ge (tgt := 14) hx hb dX10_over_5 (by decide) (fun c2 => ?_) (fun c2 => ?_)
  · rw [if_pos c2] at hf
    refine lv_iload_n hx hb dX10_over_14 rfl (lv_at hl 0 rfl) ?_
    obtain ⟨rfl, rfl⟩ := pp_some hf
    exact r_iret C hW dX10_over_15
  · rw [if_neg c2] at hf
    refine lv_iload_n hx hb dX10_over_8 rfl (lv_at hl 0 rfl) ?_
    refine lv_iload_n hx hb dX10_over_9 rfl (lv_at hl 2 rfl) ?_
    refine lv_iadd hx hb dX10_over_10 ?_
    refine lv_goto (tgt := 15) hx hb dX10_over_11 (by decide) ?_
    obtain ⟨rfl, rfl⟩ := pp_some hf
    exact r_iret C hW dX10_over_15

theorem dX10_of_0 : decode cX10_of 0 = .ok (.aload_n 0, 1) := by decide +kernel
theorem dX10_of_1 : decode cX10_of 1 = .ok (.invokevirtual 148, 3) := by decide +kernel
theorem dX10_of_4 : decode cX10_of 4 = .ok (.istore_n 3, 1) := by decide +kernel
theorem dX10_of_5 : decode cX10_of 5 = .ok (.aload_n 0, 1) := by decide +kernel
theorem dX10_of_6 : decode cX10_of 6 = .ok (.getfield 23, 3) := by decide +kernel
theorem dX10_of_9 : decode cX10_of 9 = .ok (.bipush 25, 2) := by decide +kernel
theorem dX10_of_11 : decode cX10_of 11 = .ok (.iload_n 1, 1) := by decide +kernel
theorem dX10_of_12 : decode cX10_of 12 = .ok (.iload_n 3, 1) := by decide +kernel
theorem dX10_of_13 : decode cX10_of 13 = .ok (.invokestatic 152, 3) := by decide +kernel
theorem dX10_of_16 : decode cX10_of 16 = .ok (.imul, 1) := by decide +kernel
theorem dX10_of_17 : decode cX10_of 17 = .ok (.iload_n 2, 1) := by decide +kernel
theorem dX10_of_18 : decode cX10_of 18 = .ok (.iload_n 3, 1) := by decide +kernel
theorem dX10_of_19 : decode cX10_of 19 = .ok (.invokestatic 152, 3) := by decide +kernel
theorem dX10_of_22 : decode cX10_of 22 = .ok (.iadd, 1) := by decide +kernel
theorem dX10_of_23 : decode cX10_of 23 = .ok (.iaload, 1) := by decide +kernel
theorem dX10_of_24 : decode cX10_of 24 = .ok (.ireturn, 1) := by decide +kernel
theorem kcX10_of : Cond.code yX10_of cX10_of 4 (some .int) ∈ tb := tq q_871 rfl
theorem knX10_of : Cond.initialized yX10_of.cls ∈ tb := (tq q_10 rfl)
theorem kdX10_of : yX10_of.cls ≠ "java/lang/invoke/MethodHandle" ∧ yX10_of.cls ≠ "java/lang/invoke/VarHandle" ∧ (parseMethodDescriptor yX10_of.desc).map (fun d => d.parameters.length) = some 2 := ⟨by decide +kernel, by decide +kernel, by decide +kernel⟩
theorem kiX10_of : Cond.instanceMethod yX10_of ∈ tb := (tq q_870 rfl)
theorem ksX10_of : Cond.selects yX10_of.cls yX10_of yX10_of ∈ tb := (tq z_31 rfl)
noncomputable def fX10_of (x0 : Nat) (x1 : Int32) (x2 : Int32) : PM Int32 :=
  pb (chk 9 x0) fun _ =>
  pb (fX10_levelHere x0) fun v1 =>
  pb (gA 9 9 x0) fun v3 =>
  pb (fX10_over x1 v1) fun v4 =>
  pb (fX10_over x2 v1) fun v5 =>
  pb (lI 17 v3 (((25 : Int32) * v4) + v5)) fun v6 =>
  pp v6
theorem tgX10_of {x0 : Nat} {x1 : Int32} {x2 : Int32} {h : PH} {r : Int32 × PH} (hf : (fX10_of x0 x1 x2).1 h = some r) : ∃ n x, nth h x0 = some (9, n, x) := by
  obtain ⟨_, _, e, _⟩ := pb_some hf
  exact (chk_some e).2
set_option maxHeartbeats 4000000 in
set_option maxRecDepth 100000 in
theorem metX10_of (l : Launch) (G : GG) (ρ : Nat → Nat) {z : Nat} {x0 : Nat} {x1 : Int32} {x2 : Int32} {h hE : PH} {v : Int32} (hf : (fX10_of x0 x1 x2).1 h = some (v, hE)) : Met l yX10_of (wsY yX10_of cX10_of 4 (some .int)) (RM 1 22 h hE) (va_Pc [.ref (ρ x0), .int x1, .int x2] (PcB G ρ h z)) (QI G ρ v hE h.length z) (DC h hE) (DS h hE) (Af ρ h.length z) := by
  refine met_start (by decide) (Nat.le_of_ble_eq_true rfl) ?_
  intro p e s m below meth c ls hz C hW hl
  subst hz
  have C : Cx G "PairSymbolsModel" cX10_of 4 (some .int) "of" p s m _ meth c := C
  have hx := C.1
  have hb := C.2.1
  have hX : Ext hE hE := Ext.rf hE
  have hl : lv_has ls 4 [(0, .ref (ρ x0)), (1, .int x1), (2, .int x2)] := hl
  have hW : Wd G ρ h.length (sl h) s.heap h s.heap [] 0 0 := hW
  unfold fX10_of at hf
  obtain ⟨_, e0, hf⟩ := pb_rd (rd_chk _ _) hf
  refine lv_aload_n hx hb dX10_of_0 rfl (lv_at hl 0 rfl) ?_
  obtain ⟨v1, h1, e1, hf⟩ := pb_some hf
  obtain ⟨_, _, t2⟩ := tgX10_levelHere e1
  refine r_calli hW (pext e1) (run_V (b := x0) (As := []) (rest := []) C hW (metX10_levelHere l G ρ e1) ⟨rfl, rfl⟩ kcX10_levelHere (tq q_849 rfl) kiX10_levelHere ksX10_levelHere knX10_levelHere kdX10_levelHere t2 rfl rfl ⟨Nat.le_of_ble_eq_true rfl, Nat.le_of_ble_eq_true rfl⟩ hl.1 (Nat.le_of_ble_eq_true rfl) (room_of hW (pext e1) ((pext hf).tr hX)) dX10_of_1 rfl) (fun H locs c1 s1 hW => ?_)
  refine lv_istore_n (lv' := [(3, .int v1), (0, .ref (ρ x0)), (1, .int x1), (2, .int x2)]) hx hb dX10_of_4 rfl hl (by decide) rfl (fun ls hl => ?_)
  refine lv_aload_n hx hb dX10_of_5 rfl (lv_at hl 1 rfl) ?_
  obtain ⟨v3, e3, hf⟩ := pb_rd (rd_gA _ _ _) hf
  refine r_gA C hW e3 flX10_23 rfl dX10_of_6 ?_
  refine lv_bipush (v := 25) hx hb dX10_of_9 (by decide) ?_
  refine lv_iload_n hx hb dX10_of_11 rfl (lv_at hl 2 rfl) ?_
  refine lv_iload_n hx hb dX10_of_12 rfl (lv_at hl 0 rfl) ?_
  obtain ⟨v4, h4, e4, hf⟩ := pb_some hf
  refine r_calli hW (pext e4) (run_S (As := [.int x1, .int v1]) (rest := [.int (25 : Int32), .ref (ρ v3)]) C hW (metX10_over l G ρ e4) ⟨rfl, rfl⟩ kcX10_over (tq q_872 rfl) kiX10_over knX10_over kdX10_over ⟨Nat.le_of_ble_eq_true rfl, Nat.le_of_ble_eq_true rfl⟩ hl.1 (Nat.le_of_ble_eq_true rfl) (room_of hW (pext e4) ((pext hf).tr hX)) dX10_of_13 rfl) (fun H locs c1 s1 hW => ?_)
  refine lv_imul hx hb dX10_of_16 ?_
  refine lv_iload_n hx hb dX10_of_17 rfl (lv_at hl 3 rfl) ?_
  refine lv_iload_n hx hb dX10_of_18 rfl (lv_at hl 0 rfl) ?_
  obtain ⟨v5, h5, e5, hf⟩ := pb_some hf
  refine r_calli hW (pext e5) (run_S (As := [.int x2, .int v1]) (rest := [.int ((25 : Int32) * v4), .ref (ρ v3)]) C hW (metX10_over l G ρ e5) ⟨rfl, rfl⟩ kcX10_over (tq q_872 rfl) kiX10_over knX10_over kdX10_over ⟨Nat.le_of_ble_eq_true rfl, Nat.le_of_ble_eq_true rfl⟩ hl.1 (Nat.le_of_ble_eq_true rfl) (room_of hW (pext e5) ((pext hf).tr hX)) dX10_of_19 rfl) (fun H locs c1 s1 hW => ?_)
  refine lv_iadd hx hb dX10_of_22 ?_
  obtain ⟨v6, e6, hf⟩ := pb_rd (rd_lI _ _ _) hf
  refine r_iald C hW e6 dX10_of_23 ?_
  obtain ⟨rfl, rfl⟩ := pp_some hf
  exact r_iret C hW dX10_of_24

theorem dX10_isPair_0 : decode cX10_isPair 0 = .ok (.iload_n 1, 1) := by decide +kernel
theorem dX10_isPair_1 : decode cX10_isPair 1 = .ok (.i2l, 1) := by decide +kernel
theorem dX10_isPair_2 : decode cX10_isPair 2 = .ok (.iload_n 2, 1) := by decide +kernel
theorem dX10_isPair_3 : decode cX10_isPair 3 = .ok (.i2l, 1) := by decide +kernel
theorem dX10_isPair_4 : decode cX10_isPair 4 = .ok (.invokestatic 129, 3) := by decide +kernel
theorem dX10_isPair_7 : decode cX10_isPair 7 = .ok (.aload_n 0, 1) := by decide +kernel
theorem dX10_isPair_8 : decode cX10_isPair 8 = .ok (.invokevirtual 148, 3) := by decide +kernel
theorem dX10_isPair_11 : decode cX10_isPair 11 = .ok (.i2l, 1) := by decide +kernel
theorem dX10_isPair_12 : decode cX10_isPair 12 = .ok (.invokestatic 129, 3) := by decide +kernel
theorem dX10_isPair_15 : decode cX10_isPair 15 = .ok (.lconst 1, 1) := by decide +kernel
theorem dX10_isPair_16 : decode cX10_isPair 16 = .ok (.lcmp, 1) := by decide +kernel
theorem dX10_isPair_17 : decode cX10_isPair 17 = .ok (.ifCond .ne 7, 3) := by decide +kernel
theorem dX10_isPair_20 : decode cX10_isPair 20 = .ok (.iconst 1, 1) := by decide +kernel
theorem dX10_isPair_21 : decode cX10_isPair 21 = .ok (.goto 4, 3) := by decide +kernel
theorem dX10_isPair_24 : decode cX10_isPair 24 = .ok (.iconst 0, 1) := by decide +kernel
theorem dX10_isPair_25 : decode cX10_isPair 25 = .ok (.ireturn, 1) := by decide +kernel
theorem kcX10_isPair : Cond.code yX10_isPair cX10_isPair 3 (some .boolean) ∈ tb := tq q_864 rfl
theorem knX10_isPair : Cond.initialized yX10_isPair.cls ∈ tb := (tq q_10 rfl)
theorem kdX10_isPair : yX10_isPair.cls ≠ "java/lang/invoke/MethodHandle" ∧ yX10_isPair.cls ≠ "java/lang/invoke/VarHandle" ∧ (parseMethodDescriptor yX10_isPair.desc).map (fun d => d.parameters.length) = some 2 := ⟨by decide +kernel, by decide +kernel, by decide +kernel⟩
theorem kiX10_isPair : Cond.instanceMethod yX10_isPair ∈ tb := (tq q_863 rfl)
theorem ksX10_isPair : Cond.selects yX10_isPair.cls yX10_isPair yX10_isPair ∈ tb := (tq z_30 rfl)
noncomputable def fX10_isPair (x0 : Nat) (x1 : Int32) (x2 : Int32) : PM Int32 :=
  pb (chk 9 x0) fun _ =>
  pb (fX10_divisor x1.toInt64 x2.toInt64) fun v1 =>
  pb (fX10_levelHere x0) fun v2 =>
  pb (fX10_divisor v1 v2.toInt64) fun v4 =>
  (if (lg_cmp v4 (1 : Int64)) = 0 then
    pp (1 : Int32)
  else
    pp (0 : Int32))
theorem tgX10_isPair {x0 : Nat} {x1 : Int32} {x2 : Int32} {h : PH} {r : Int32 × PH} (hf : (fX10_isPair x0 x1 x2).1 h = some r) : ∃ n x, nth h x0 = some (9, n, x) := by
  obtain ⟨_, _, e, _⟩ := pb_some hf
  exact (chk_some e).2
set_option maxHeartbeats 4000000 in
set_option maxRecDepth 100000 in
theorem metX10_isPair (l : Launch) (G : GG) (ρ : Nat → Nat) {z : Nat} {x0 : Nat} {x1 : Int32} {x2 : Int32} {h hE : PH} {v : Int32} (hf : (fX10_isPair x0 x1 x2).1 h = some (v, hE)) : Met l yX10_isPair (wsY yX10_isPair cX10_isPair 3 (some .boolean)) (RM 1 29 h hE) (va_Pc [.ref (ρ x0), .int x1, .int x2] (PcB G ρ h z)) (QI G ρ v hE h.length z) (DC h hE) (DS h hE) (Af ρ h.length z) := by
  refine met_start (by decide) (Nat.le_of_ble_eq_true rfl) ?_
  intro p e s m below meth c ls hz C hW hl
  subst hz
  have C : Cx G "PairSymbolsModel" cX10_isPair 3 (some .boolean) "isPai\x72" p s m _ meth c := C
  have hx := C.1
  have hb := C.2.1
  have hX : Ext hE hE := Ext.rf hE
  have hl : lv_has ls 3 [(0, .ref (ρ x0)), (1, .int x1), (2, .int x2)] := hl
  have hW : Wd G ρ h.length (sl h) s.heap h s.heap [] 0 0 := hW
  unfold fX10_isPair at hf
  obtain ⟨_, e0, hf⟩ := pb_rd (rd_chk _ _) hf
  refine lv_iload_n hx hb dX10_isPair_0 rfl (lv_at hl 1 rfl) ?_
  refine lv_i2l (v := x1.toInt64) hx hb dX10_isPair_1 rfl ?_
  refine lv_iload_n hx hb dX10_isPair_2 rfl (lv_at hl 2 rfl) ?_
  refine lv_i2l (v := x2.toInt64) hx hb dX10_isPair_3 rfl ?_
  obtain ⟨v1, h1, e1, hf⟩ := pb_some hf
  refine r_calll hW (pext e1) (run_S (As := [.long x1.toInt64, .long x2.toInt64]) (rest := []) C hW (metX10_divisor l G ρ e1) ⟨rfl, rfl⟩ kcX10_divisor (tq q_865 rfl) kiX10_divisor knX10_divisor kdX10_divisor ⟨Nat.le_of_ble_eq_true rfl, Nat.le_of_ble_eq_true rfl⟩ hl.1 (Nat.le_of_ble_eq_true rfl) (room_of hW (pext e1) ((pext hf).tr hX)) dX10_isPair_4 rfl) (fun H locs c1 s1 hW => ?_)
  refine lv_aload_n hx hb dX10_isPair_7 rfl (lv_at hl 0 rfl) ?_
  obtain ⟨v2, h2, e2, hf⟩ := pb_some hf
  obtain ⟨_, _, t3⟩ := tgX10_levelHere e2
  refine r_calli hW (pext e2) (run_V (b := x0) (As := []) (rest := [.long v1]) C hW (metX10_levelHere l G ρ e2) ⟨rfl, rfl⟩ kcX10_levelHere (tq q_849 rfl) kiX10_levelHere ksX10_levelHere knX10_levelHere kdX10_levelHere t3 rfl rfl ⟨Nat.le_of_ble_eq_true rfl, Nat.le_of_ble_eq_true rfl⟩ hl.1 (Nat.le_of_ble_eq_true rfl) (room_of hW (pext e2) ((pext hf).tr hX)) dX10_isPair_8 rfl) (fun H locs c1 s1 hW => ?_)
  refine lv_i2l (v := v2.toInt64) hx hb dX10_isPair_11 rfl ?_
  obtain ⟨v4, h4, e4, hf⟩ := pb_some hf
  refine r_calll hW (pext e4) (run_S (As := [.long v1, .long v2.toInt64]) (rest := []) C hW (metX10_divisor l G ρ e4) ⟨rfl, rfl⟩ kcX10_divisor (tq q_865 rfl) kiX10_divisor knX10_divisor kdX10_divisor ⟨Nat.le_of_ble_eq_true rfl, Nat.le_of_ble_eq_true rfl⟩ hl.1 (Nat.le_of_ble_eq_true rfl) (room_of hW (pext e4) ((pext hf).tr hX)) dX10_isPair_12 rfl) (fun H locs c1 s1 hW => ?_)
  refine lv_lconst (v := 1) hx hb dX10_isPair_15 (by decide) ?_
  refine W.lcmp hx hb dX10_isPair_16 ?_
  refine lv_if_ne (tgt := 24) hx hb dX10_isPair_17 (by decide) (fun c5 => ?_) (fun c5 => ?_)
  · rw [if_neg c5] at hf
    refine lv_iconst (v := 0) hx hb dX10_isPair_24 (by decide) ?_
    obtain ⟨rfl, rfl⟩ := pp_some hf
    exact r_zret C hW rfl dX10_isPair_25
  · rw [if_pos c5] at hf
    refine lv_iconst (v := 1) hx hb dX10_isPair_20 (by decide) ?_
    refine lv_goto (tgt := 25) hx hb dX10_isPair_21 (by decide) ?_
    obtain ⟨rfl, rfl⟩ := pp_some hf
    exact r_zret C hW rfl dX10_isPair_25
