theorem flX5_75 : FL "PairSymbols$Operato\x72" 75 4 3 false := ⟨_, CT4, by decide, (tq q_423 rfl), rfl, fun _ => Or.inr trivial⟩
theorem flX5_84 : FL "PairSymbols$Operato\x72" 84 4 4 false := ⟨_, CT4, by decide, (tq q_424 rfl), rfl, fun _ => Or.inr trivial⟩
theorem flX8_63 : FL "PairSymbols$State" 63 3 12 true := ⟨_, CT3, by decide, (tq q_162 rfl), rfl, fun _ => Or.inr trivial⟩
theorem flX8_67 : FL "PairSymbols$State" 67 3 13 true := ⟨_, CT3, by decide, (tq q_165 rfl), rfl, fun _ => Or.inr trivial⟩
theorem dX5_wholeCoefficients_0 : decode cX5_wholeCoefficients 0 = .ok (.aload_n 0, 1) := by decide +kernel
theorem dX5_wholeCoefficients_1 : decode cX5_wholeCoefficients 1 = .ok (.getfield 75, 3) := by decide +kernel
theorem dX5_wholeCoefficients_4 : decode cX5_wholeCoefficients 4 = .ok (.ifnonnull 14, 3) := by decide +kernel
theorem dX5_wholeCoefficients_7 : decode cX5_wholeCoefficients 7 = .ok (.aload_n 0, 1) := by decide +kernel
theorem dX5_wholeCoefficients_8 : decode cX5_wholeCoefficients 8 = .ok (.aload_n 0, 1) := by decide +kernel
theorem dX5_wholeCoefficients_9 : decode cX5_wholeCoefficients 9 = .ok (.getfield 17, 3) := by decide +kernel
theorem dX5_wholeCoefficients_12 : decode cX5_wholeCoefficients 12 = .ok (.invokestatic 78, 3) := by decide +kernel
theorem dX5_wholeCoefficients_15 : decode cX5_wholeCoefficients 15 = .ok (.putfield 75, 3) := by decide +kernel
theorem dX5_wholeCoefficients_18 : decode cX5_wholeCoefficients 18 = .ok (.aload_n 0, 1) := by decide +kernel
theorem dX5_wholeCoefficients_19 : decode cX5_wholeCoefficients 19 = .ok (.getfield 75, 3) := by decide +kernel
theorem dX5_wholeCoefficients_22 : decode cX5_wholeCoefficients 22 = .ok (.areturn, 1) := by decide +kernel
theorem kcX5_wholeCoefficients : Cond.code yX5_wholeCoefficients cX5_wholeCoefficients 1 (some (.array .long)) ∈ tb := tq q_454 rfl
theorem knX5_wholeCoefficients : Cond.initialized yX5_wholeCoefficients.cls ∈ tb := (tq q_12 rfl)
theorem kdX5_wholeCoefficients : yX5_wholeCoefficients.cls ≠ "java/lang/invoke/MethodHandle" ∧ yX5_wholeCoefficients.cls ≠ "java/lang/invoke/VarHandle" ∧ (parseMethodDescriptor yX5_wholeCoefficients.desc).map (fun d => d.parameters.length) = some 0 := ⟨by decide +kernel, by decide +kernel, by decide +kernel⟩
theorem kiX5_wholeCoefficients : Cond.instanceMethod yX5_wholeCoefficients ∈ tb := (tq q_452 rfl)
theorem ksX5_wholeCoefficients : Cond.selects yX5_wholeCoefficients.cls yX5_wholeCoefficients yX5_wholeCoefficients ∈ tb := (tq q_453 rfl)
theorem tgX5_wholeCoefficients {x0 : Nat} {h : PH} {r : Nat × PH} (hf : (fX5_wholeCoefficients x0).1 h = some r) : ∃ n x, nth h x0 = some (4, n, x) := by
  obtain ⟨_, _, e, _⟩ := pb_some hf
  exact (chk_some e).2
set_option maxHeartbeats 4000000 in
set_option maxRecDepth 100000 in
theorem metX5_wholeCoefficients (l : Launch) (G : GG) (ρ : Nat → Nat) {z : Nat} {x0 : Nat} {h hE : PH} {v : Nat} (hf : (fX5_wholeCoefficients x0).1 h = some (v, hE)) : Met l yX5_wholeCoefficients (wsY yX5_wholeCoefficients cX5_wholeCoefficients 1 (some (.array .long))) (RM 2 56 h hE) (va_Pc [.ref (ρ x0)] (PcB G ρ h z)) (QA G ρ v hE h.length z) (DC h hE) (DS h hE) (Af ρ h.length z) := by
  refine met_start (by decide) (Nat.le_of_ble_eq_true rfl) ?_
  intro p e s m below meth c ls hz C hW hl
  subst hz
  have C : Cx G "PairSymbols$Operato\x72" cX5_wholeCoefficients 1 (some (.array .long)) "wholeCoefficients" p s m _ meth c := C
  have hx := C.1
  have hb := C.2.1
  have hX : Ext hE hE := Ext.rf hE
  have hl : lv_has ls 1 [(0, .ref (ρ x0))] := hl
  have hW : Wd G ρ h.length (sl h) s.heap h s.heap [] 0 0 := hW
  unfold fX5_wholeCoefficients at hf
  obtain ⟨_, e0, hf⟩ := pb_rd (rd_chk _ _) hf
  refine lv_aload_n hx hb dX5_wholeCoefficients_0 rfl (lv_at hl 0 rfl) ?_
  obtain ⟨v1, e1, hf⟩ := pb_rd (rd_gN _ _ _) hf
  refine r_gN C hW e1 flX5_75 rfl dX5_wholeCoefficients_1 ?_
  rcases v1 with _ | a2
  · have hl : lv_has ls 1 [(0, .ref (ρ x0))] := hl
    try dsimp only at hf
    refine lv_ifnonnullN hx hb dX5_wholeCoefficients_4 ?_
    refine lv_aload_n hx hb dX5_wholeCoefficients_7 rfl (lv_at hl 0 rfl) ?_
    refine lv_aload_n hx hb dX5_wholeCoefficients_8 rfl (lv_at hl 0 rfl) ?_
    obtain ⟨v3, e3, hf⟩ := pb_rd (rd_gA _ _ _) hf
    refine r_gA C hW e3 flX5_17 rfl dX5_wholeCoefficients_9 ?_
    obtain ⟨v4, h4, e4, hf⟩ := pb_some hf
    refine r_calla hW (pext e4) (run_S (As := [.ref (ρ v3)]) (rest := [.ref (ρ x0)]) C hW (metX4_characteristic l G ρ e4) ⟨rfl, rfl⟩ kcX4_characteristic (tq q_455 rfl) kiX4_characteristic knX4_characteristic kdX4_characteristic ⟨Nat.le_of_ble_eq_true rfl, Nat.le_of_ble_eq_true rfl⟩ hl.1 (Nat.le_of_ble_eq_true rfl) (room_of hW (pext e4) ((pext hf).tr hX)) dX5_wholeCoefficients_12 rfl) (fun H locs c1 s1 hW => ?_)
    obtain ⟨_, h5, e5, hf⟩ := pb_some hf
    refine r_sA C hW e5 flX5_75 (Or.inl rfl) rfl dX5_wholeCoefficients_15 (fun H locs hW => ?_)
    refine lv_aload_n hx hb dX5_wholeCoefficients_18 rfl (lv_at hl 0 rfl) ?_
    obtain ⟨v6, e6, hf⟩ := pb_rd (rd_gA _ _ _) hf
    refine r_gA C hW e6 flX5_75 rfl dX5_wholeCoefficients_19 ?_
    obtain ⟨rfl, rfl⟩ := pp_some hf
    exact r_aret C hW (Or.inr ⟨_, rfl⟩) dX5_wholeCoefficients_22
  · have hl : lv_has ls 1 [(0, .ref (ρ x0))] := hl
    try dsimp only at hf
    refine lv_ifnonnull (tgt := 18) hx hb dX5_wholeCoefficients_4 (by decide) ?_
    refine lv_aload_n hx hb dX5_wholeCoefficients_18 rfl (lv_at hl 0 rfl) ?_
    obtain ⟨v7, e7, hf⟩ := pb_rd (rd_gA _ _ _) hf
    refine r_gA C hW e7 flX5_75 rfl dX5_wholeCoefficients_19 ?_
    obtain ⟨rfl, rfl⟩ := pp_some hf
    exact r_aret C hW (Or.inr ⟨_, rfl⟩) dX5_wholeCoefficients_22

theorem dX5_cuspidalCoefficients_0 : decode cX5_cuspidalCoefficients 0 = .ok (.aload_n 0, 1) := by decide +kernel
theorem dX5_cuspidalCoefficients_1 : decode cX5_cuspidalCoefficients 1 = .ok (.getfield 84, 3) := by decide +kernel
theorem dX5_cuspidalCoefficients_4 : decode cX5_cuspidalCoefficients 4 = .ok (.ifnonnull 14, 3) := by decide +kernel
theorem dX5_cuspidalCoefficients_7 : decode cX5_cuspidalCoefficients 7 = .ok (.aload_n 0, 1) := by decide +kernel
theorem dX5_cuspidalCoefficients_8 : decode cX5_cuspidalCoefficients 8 = .ok (.aload_n 0, 1) := by decide +kernel
theorem dX5_cuspidalCoefficients_9 : decode cX5_cuspidalCoefficients 9 = .ok (.getfield 40, 3) := by decide +kernel
theorem dX5_cuspidalCoefficients_12 : decode cX5_cuspidalCoefficients 12 = .ok (.invokestatic 78, 3) := by decide +kernel
theorem dX5_cuspidalCoefficients_15 : decode cX5_cuspidalCoefficients 15 = .ok (.putfield 84, 3) := by decide +kernel
theorem dX5_cuspidalCoefficients_18 : decode cX5_cuspidalCoefficients 18 = .ok (.aload_n 0, 1) := by decide +kernel
theorem dX5_cuspidalCoefficients_19 : decode cX5_cuspidalCoefficients 19 = .ok (.getfield 84, 3) := by decide +kernel
theorem dX5_cuspidalCoefficients_22 : decode cX5_cuspidalCoefficients 22 = .ok (.areturn, 1) := by decide +kernel
theorem kcX5_cuspidalCoefficients : Cond.code yX5_cuspidalCoefficients cX5_cuspidalCoefficients 1 (some (.array .long)) ∈ tb := tq q_469 rfl
theorem knX5_cuspidalCoefficients : Cond.initialized yX5_cuspidalCoefficients.cls ∈ tb := (tq q_12 rfl)
theorem kdX5_cuspidalCoefficients : yX5_cuspidalCoefficients.cls ≠ "java/lang/invoke/MethodHandle" ∧ yX5_cuspidalCoefficients.cls ≠ "java/lang/invoke/VarHandle" ∧ (parseMethodDescriptor yX5_cuspidalCoefficients.desc).map (fun d => d.parameters.length) = some 0 := ⟨by decide +kernel, by decide +kernel, by decide +kernel⟩
theorem kiX5_cuspidalCoefficients : Cond.instanceMethod yX5_cuspidalCoefficients ∈ tb := (tq q_467 rfl)
theorem ksX5_cuspidalCoefficients : Cond.selects yX5_cuspidalCoefficients.cls yX5_cuspidalCoefficients yX5_cuspidalCoefficients ∈ tb := (tq q_468 rfl)
theorem tgX5_cuspidalCoefficients {x0 : Nat} {h : PH} {r : Nat × PH} (hf : (fX5_cuspidalCoefficients x0).1 h = some r) : ∃ n x, nth h x0 = some (4, n, x) := by
  obtain ⟨_, _, e, _⟩ := pb_some hf
  exact (chk_some e).2
set_option maxHeartbeats 4000000 in
set_option maxRecDepth 100000 in
theorem metX5_cuspidalCoefficients (l : Launch) (G : GG) (ρ : Nat → Nat) {z : Nat} {x0 : Nat} {h hE : PH} {v : Nat} (hf : (fX5_cuspidalCoefficients x0).1 h = some (v, hE)) : Met l yX5_cuspidalCoefficients (wsY yX5_cuspidalCoefficients cX5_cuspidalCoefficients 1 (some (.array .long))) (RM 2 56 h hE) (va_Pc [.ref (ρ x0)] (PcB G ρ h z)) (QA G ρ v hE h.length z) (DC h hE) (DS h hE) (Af ρ h.length z) := by
  refine met_start (by decide) (Nat.le_of_ble_eq_true rfl) ?_
  intro p e s m below meth c ls hz C hW hl
  subst hz
  have C : Cx G "PairSymbols$Operato\x72" cX5_cuspidalCoefficients 1 (some (.array .long)) "cuspidalCoefficients" p s m _ meth c := C
  have hx := C.1
  have hb := C.2.1
  have hX : Ext hE hE := Ext.rf hE
  have hl : lv_has ls 1 [(0, .ref (ρ x0))] := hl
  have hW : Wd G ρ h.length (sl h) s.heap h s.heap [] 0 0 := hW
  unfold fX5_cuspidalCoefficients at hf
  obtain ⟨_, e0, hf⟩ := pb_rd (rd_chk _ _) hf
  refine lv_aload_n hx hb dX5_cuspidalCoefficients_0 rfl (lv_at hl 0 rfl) ?_
  obtain ⟨v1, e1, hf⟩ := pb_rd (rd_gN _ _ _) hf
  refine r_gN C hW e1 flX5_84 rfl dX5_cuspidalCoefficients_1 ?_
  rcases v1 with _ | a2
  · have hl : lv_has ls 1 [(0, .ref (ρ x0))] := hl
    try dsimp only at hf
    refine lv_ifnonnullN hx hb dX5_cuspidalCoefficients_4 ?_
    refine lv_aload_n hx hb dX5_cuspidalCoefficients_7 rfl (lv_at hl 0 rfl) ?_
    refine lv_aload_n hx hb dX5_cuspidalCoefficients_8 rfl (lv_at hl 0 rfl) ?_
    obtain ⟨v3, e3, hf⟩ := pb_rd (rd_gA _ _ _) hf
    refine r_gA C hW e3 flX5_40 rfl dX5_cuspidalCoefficients_9 ?_
    obtain ⟨v4, h4, e4, hf⟩ := pb_some hf
    refine r_calla hW (pext e4) (run_S (As := [.ref (ρ v3)]) (rest := [.ref (ρ x0)]) C hW (metX4_characteristic l G ρ e4) ⟨rfl, rfl⟩ kcX4_characteristic (tq q_455 rfl) kiX4_characteristic knX4_characteristic kdX4_characteristic ⟨Nat.le_of_ble_eq_true rfl, Nat.le_of_ble_eq_true rfl⟩ hl.1 (Nat.le_of_ble_eq_true rfl) (room_of hW (pext e4) ((pext hf).tr hX)) dX5_cuspidalCoefficients_12 rfl) (fun H locs c1 s1 hW => ?_)
    obtain ⟨_, h5, e5, hf⟩ := pb_some hf
    refine r_sA C hW e5 flX5_84 (Or.inl rfl) rfl dX5_cuspidalCoefficients_15 (fun H locs hW => ?_)
    refine lv_aload_n hx hb dX5_cuspidalCoefficients_18 rfl (lv_at hl 0 rfl) ?_
    obtain ⟨v6, e6, hf⟩ := pb_rd (rd_gA _ _ _) hf
    refine r_gA C hW e6 flX5_84 rfl dX5_cuspidalCoefficients_19 ?_
    obtain ⟨rfl, rfl⟩ := pp_some hf
    exact r_aret C hW (Or.inr ⟨_, rfl⟩) dX5_cuspidalCoefficients_22
  · have hl : lv_has ls 1 [(0, .ref (ρ x0))] := hl
    try dsimp only at hf
    refine lv_ifnonnull (tgt := 18) hx hb dX5_cuspidalCoefficients_4 (by decide) ?_
    refine lv_aload_n hx hb dX5_cuspidalCoefficients_18 rfl (lv_at hl 0 rfl) ?_
    obtain ⟨v7, e7, hf⟩ := pb_rd (rd_gA _ _ _) hf
    refine r_gA C hW e7 flX5_84 rfl dX5_cuspidalCoefficients_19 ?_
    obtain ⟨rfl, rfl⟩ := pp_some hf
    exact r_aret C hW (Or.inr ⟨_, rfl⟩) dX5_cuspidalCoefficients_22

theorem dX9_polynomial_0 : decode cX9_polynomial 0 = .ok (.iload_n 1, 1) := by decide +kernel
theorem dX9_polynomial_1 : decode cX9_polynomial 1 = .ok (.iconst 1, 1) := by decide +kernel
theorem dX9_polynomial_2 : decode cX9_polynomial 2 = .ok (.bipush 7, 2) := by decide +kernel
theorem dX9_polynomial_4 : decode cX9_polynomial 4 = .ok (.invokestatic 99, 3) := by decide +kernel
theorem dX9_polynomial_7 : decode cX9_polynomial 7 = .ok (.ifCond .eq 16, 3) := by decide +kernel
theorem dX9_polynomial_10 : decode cX9_polynomial 10 = .ok (.iload_n 2, 1) := by decide +kernel
theorem dX9_polynomial_11 : decode cX9_polynomial 11 = .ok (.iconst 0, 1) := by decide +kernel
theorem dX9_polynomial_12 : decode cX9_polynomial 12 = .ok (.iconst 1, 1) := by decide +kernel
theorem dX9_polynomial_13 : decode cX9_polynomial 13 = .ok (.invokestatic 99, 3) := by decide +kernel
theorem dX9_polynomial_16 : decode cX9_polynomial 16 = .ok (.ifCond .eq 7, 3) := by decide +kernel
theorem dX9_polynomial_19 : decode cX9_polynomial 19 = .ok (.iload_n 3, 1) := by decide +kernel
theorem dX9_polynomial_20 : decode cX9_polynomial 20 = .ok (.ifCond .ge 14, 3) := by decide +kernel
theorem dX9_polynomial_23 : decode cX9_polynomial 23 = .ok (.aload_n 0, 1) := by decide +kernel
theorem dX9_polynomial_24 : decode cX9_polynomial 24 = .ok (.bipush (-2), 2) := by decide +kernel
theorem dX9_polynomial_26 : decode cX9_polynomial 26 = .ok (.invokevirtual 74, 3) := by decide +kernel
theorem dX9_polynomial_29 : decode cX9_polynomial 29 = .ok (.pop, 1) := by decide +kernel
theorem dX9_polynomial_30 : decode cX9_polynomial 30 = .ok (.ldc2_w 156, 3) := by decide +kernel
theorem dX9_polynomial_33 : decode cX9_polynomial 33 = .ok (.lreturn, 1) := by decide +kernel
theorem dX9_polynomial_34 : decode cX9_polynomial 34 = .ok (.aload_n 0, 1) := by decide +kernel
theorem dX9_polynomial_35 : decode cX9_polynomial 35 = .ok (.getfield 23, 3) := by decide +kernel
theorem dX9_polynomial_38 : decode cX9_polynomial 38 = .ok (.getfield 62, 3) := by decide +kernel
theorem dX9_polynomial_41 : decode cX9_polynomial 41 = .ok (.iload_n 1, 1) := by decide +kernel
theorem dX9_polynomial_42 : decode cX9_polynomial 42 = .ok (.invokevirtual 133, 3) := by decide +kernel
theorem dX9_polynomial_45 : decode cX9_polynomial 45 = .ok (.astore 4, 2) := by decide +kernel
theorem dX9_polynomial_47 : decode cX9_polynomial 47 = .ok (.aload 4, 2) := by decide +kernel
theorem dX9_polynomial_49 : decode cX9_polynomial 49 = .ok (.ifnonnull 14, 3) := by decide +kernel
theorem dX9_polynomial_52 : decode cX9_polynomial 52 = .ok (.aload_n 0, 1) := by decide +kernel
theorem dX9_polynomial_53 : decode cX9_polynomial 53 = .ok (.bipush (-3), 2) := by decide +kernel
theorem dX9_polynomial_55 : decode cX9_polynomial 55 = .ok (.invokevirtual 74, 3) := by decide +kernel
theorem dX9_polynomial_58 : decode cX9_polynomial 58 = .ok (.pop, 1) := by decide +kernel
theorem dX9_polynomial_59 : decode cX9_polynomial 59 = .ok (.ldc2_w 158, 3) := by decide +kernel
theorem dX9_polynomial_62 : decode cX9_polynomial 62 = .ok (.lreturn, 1) := by decide +kernel
theorem dX9_polynomial_63 : decode cX9_polynomial 63 = .ok (.iload_n 2, 1) := by decide +kernel
theorem dX9_polynomial_64 : decode cX9_polynomial 64 = .ok (.ifCond .ne 11, 3) := by decide +kernel
theorem dX9_polynomial_67 : decode cX9_polynomial 67 = .ok (.aload 4, 2) := by decide +kernel
theorem dX9_polynomial_69 : decode cX9_polynomial 69 = .ok (.invokevirtual 160, 3) := by decide +kernel
theorem dX9_polynomial_72 : decode cX9_polynomial 72 = .ok (.goto 8, 3) := by decide +kernel
theorem dX9_polynomial_75 : decode cX9_polynomial 75 = .ok (.aload 4, 2) := by decide +kernel
theorem dX9_polynomial_77 : decode cX9_polynomial 77 = .ok (.invokevirtual 164, 3) := by decide +kernel
theorem dX9_polynomial_80 : decode cX9_polynomial 80 = .ok (.astore 5, 2) := by decide +kernel
theorem dX9_polynomial_82 : decode cX9_polynomial 82 = .ok (.iload_n 3, 1) := by decide +kernel
theorem dX9_polynomial_83 : decode cX9_polynomial 83 = .ok (.aload 5, 2) := by decide +kernel
theorem dX9_polynomial_85 : decode cX9_polynomial 85 = .ok (.arraylength, 1) := by decide +kernel
theorem dX9_polynomial_86 : decode cX9_polynomial 86 = .ok (.if_icmp .ge 10, 3) := by decide +kernel
theorem dX9_polynomial_89 : decode cX9_polynomial 89 = .ok (.aload 5, 2) := by decide +kernel
theorem dX9_polynomial_91 : decode cX9_polynomial 91 = .ok (.iload_n 3, 1) := by decide +kernel
theorem dX9_polynomial_92 : decode cX9_polynomial 92 = .ok (.laload, 1) := by decide +kernel
theorem dX9_polynomial_93 : decode cX9_polynomial 93 = .ok (.goto 4, 3) := by decide +kernel
theorem dX9_polynomial_96 : decode cX9_polynomial 96 = .ok (.lconst 0, 1) := by decide +kernel
theorem dX9_polynomial_97 : decode cX9_polynomial 97 = .ok (.lreturn, 1) := by decide +kernel
theorem kcX9_polynomial : Cond.code yX9_polynomial cX9_polynomial 6 (some .long) ∈ tb := tq q_448 rfl
theorem knX9_polynomial : Cond.initialized yX9_polynomial.cls ∈ tb := (tq q_1 rfl)
theorem kdX9_polynomial : yX9_polynomial.cls ≠ "java/lang/invoke/MethodHandle" ∧ yX9_polynomial.cls ≠ "java/lang/invoke/VarHandle" ∧ (parseMethodDescriptor yX9_polynomial.desc).map (fun d => d.parameters.length) = some 3 := ⟨by decide +kernel, by decide +kernel, by decide +kernel⟩
theorem kiX9_polynomial : Cond.instanceMethod yX9_polynomial ∈ tb := (tq q_446 rfl)
theorem ksX9_polynomial : Cond.selects yX9_polynomial.cls yX9_polynomial yX9_polynomial ∈ tb := (tq q_447 rfl)
theorem tgX9_polynomial {x0 : Nat} {x1 : Int32} {x2 : Int32} {x3 : Int32} {h : PH} {r : Int64 × PH} (hf : (fX9_polynomial x0 x1 x2 x3).1 h = some r) : ∃ n x, nth h x0 = some (8, n, x) := by
  obtain ⟨_, _, e, _⟩ := pb_some hf
  exact (chk_some e).2
set_option maxHeartbeats 4000000 in
set_option maxRecDepth 100000 in
theorem metX9_polynomial (l : Launch) (G : GG) (ρ : Nat → Nat) {z : Nat} {x0 : Nat} {x1 : Int32} {x2 : Int32} {x3 : Int32} {h hE : PH} {v : Int64} (hf : (fX9_polynomial x0 x1 x2 x3).1 h = some (v, hE)) : Met l yX9_polynomial (wsY yX9_polynomial cX9_polynomial 6 (some .long)) (RM 5 125 h hE) (va_Pc [.ref (ρ x0), .int x1, .int x2, .int x3] (PcB G ρ h z)) (QL G ρ v hE h.length z) (DC h hE) (DS h hE) (Af ρ h.length z) := by
  refine met_start (by decide) (Nat.le_of_ble_eq_true rfl) ?_
  intro p e s m below meth c ls hz C hW hl
  subst hz
  have C : Cx G "PairSymbols" cX9_polynomial 6 (some .long) "polynomial" p s m _ meth c := C
  have hx := C.1
  have hb := C.2.1
  have hX : Ext hE hE := Ext.rf hE
  have hl : lv_has ls 6 [(0, .ref (ρ x0)), (1, .int x1), (2, .int x2), (3, .int x3)] := hl
  have hW : Wd G ρ h.length (sl h) s.heap h s.heap [] 0 0 := hW
  unfold fX9_polynomial at hf
  obtain ⟨_, e0, hf⟩ := pb_rd (rd_chk _ _) hf
  refine lv_iload_n hx hb dX9_polynomial_0 rfl (lv_at hl 1 rfl) ?_
  refine lv_iconst (v := 1) hx hb dX9_polynomial_1 (by decide) ?_
  refine lv_bipush (v := 7) hx hb dX9_polynomial_2 (by decide) ?_
  obtain ⟨v1, h1, e1, hf⟩ := pb_some hf
  refine r_calli hW (pext e1) (run_S (As := [.int x1, .int (1 : Int32), .int (7 : Int32)]) (rest := []) C hW (metX9_within l G ρ e1) ⟨rfl, rfl⟩ kcX9_within (tq q_329 rfl) kiX9_within knX9_within kdX9_within ⟨Nat.le_of_ble_eq_true rfl, Nat.le_of_ble_eq_true rfl⟩ hl.1 (Nat.le_of_ble_eq_true rfl) (room_of hW (pext e1) ((pext hf).tr hX)) dX9_polynomial_4 rfl) (fun H locs c1 s1 hW => ?_)
  refine lv_if_eq (tgt := 23) hx hb dX9_polynomial_7 (by decide) (fun c2 => ?_) (fun c2 => ?_)
  · rw [if_pos c2] at hf
    refine lv_aload_n hx hb dX9_polynomial_23 rfl (lv_at hl 0 rfl) ?_
    refine lv_bipush (v := -2) hx hb dX9_polynomial_24 (by decide) ?_
    obtain ⟨v3, h3, e3, hf⟩ := pb_some hf
    obtain ⟨_, _, t4⟩ := tgX9_refuse e3
    refine r_calli hW (pext e3) (run_V (b := x0) (As := [.int (-2 : Int32)]) (rest := []) C hW (metX9_refuse l G ρ e3) ⟨rfl, rfl⟩ kcX9_refuse (tq q_343 rfl) kiX9_refuse ksX9_refuse knX9_refuse kdX9_refuse t4 rfl rfl ⟨Nat.le_of_ble_eq_true rfl, Nat.le_of_ble_eq_true rfl⟩ hl.1 (Nat.le_of_ble_eq_true rfl) (room_of hW (pext e3) ((pext hf).tr hX)) dX9_polynomial_26 rfl) (fun H locs c1 s1 hW => ?_)
    refine lv_pop hx hb dX9_polynomial_29 rfl ?_
    refine r_ldc2 (v := -9223372036854775808) C (tq q_449 rfl) dX9_polynomial_30 ?_
    obtain ⟨rfl, rfl⟩ := pp_some hf
    exact r_lret C hW dX9_polynomial_33
  · rw [if_neg c2] at hf
    refine lv_iload_n hx hb dX9_polynomial_10 rfl (lv_at hl 2 rfl) ?_
    refine lv_iconst (v := 0) hx hb dX9_polynomial_11 (by decide) ?_
    refine lv_iconst (v := 1) hx hb dX9_polynomial_12 (by decide) ?_
    obtain ⟨v5, h5, e5, hf⟩ := pb_some hf
    refine r_calli hW (pext e5) (run_S (As := [.int x2, .int (0 : Int32), .int (1 : Int32)]) (rest := []) C hW (metX9_within l G ρ e5) ⟨rfl, rfl⟩ kcX9_within (tq q_329 rfl) kiX9_within knX9_within kdX9_within ⟨Nat.le_of_ble_eq_true rfl, Nat.le_of_ble_eq_true rfl⟩ hl.1 (Nat.le_of_ble_eq_true rfl) (room_of hW (pext e5) ((pext hf).tr hX)) dX9_polynomial_13 rfl) (fun H locs c1 s1 hW => ?_)
    refine lv_if_eq (tgt := 23) hx hb dX9_polynomial_16 (by decide) (fun c6 => ?_) (fun c6 => ?_)
    · rw [if_pos c6] at hf
      refine lv_aload_n hx hb dX9_polynomial_23 rfl (lv_at hl 0 rfl) ?_
      refine lv_bipush (v := -2) hx hb dX9_polynomial_24 (by decide) ?_
      obtain ⟨v7, h7, e7, hf⟩ := pb_some hf
      obtain ⟨_, _, t8⟩ := tgX9_refuse e7
      refine r_calli hW (pext e7) (run_V (b := x0) (As := [.int (-2 : Int32)]) (rest := []) C hW (metX9_refuse l G ρ e7) ⟨rfl, rfl⟩ kcX9_refuse (tq q_343 rfl) kiX9_refuse ksX9_refuse knX9_refuse kdX9_refuse t8 rfl rfl ⟨Nat.le_of_ble_eq_true rfl, Nat.le_of_ble_eq_true rfl⟩ hl.1 (Nat.le_of_ble_eq_true rfl) (room_of hW (pext e7) ((pext hf).tr hX)) dX9_polynomial_26 rfl) (fun H locs c1 s1 hW => ?_)
      refine lv_pop hx hb dX9_polynomial_29 rfl ?_
      refine r_ldc2 (v := -9223372036854775808) C (tq q_449 rfl) dX9_polynomial_30 ?_
      obtain ⟨rfl, rfl⟩ := pp_some hf
      exact r_lret C hW dX9_polynomial_33
    · rw [if_neg c6] at hf
      refine lv_iload_n hx hb dX9_polynomial_19 rfl (lv_at hl 3 rfl) ?_
      refine lv_if_ge (tgt := 34) hx hb dX9_polynomial_20 (by decide) (fun c9 => ?_) (fun c9 => ?_)
      · rw [if_pos c9] at hf
        refine lv_aload_n hx hb dX9_polynomial_34 rfl (lv_at hl 0 rfl) ?_
        obtain ⟨v10, e10, hf⟩ := pb_rd (rd_gA _ _ _) hf
        refine r_gA C hW e10 flX9_23 rfl dX9_polynomial_35 ?_
        obtain ⟨v11, e11, hf⟩ := pb_rd (rd_gA _ _ _) hf
        refine r_gA C hW e11 flX9_62 rfl dX9_polynomial_38 ?_
        refine lv_iload_n hx hb dX9_polynomial_41 rfl (lv_at hl 1 rfl) ?_
        obtain ⟨v12, h12, e12, hf⟩ := pb_some hf
        obtain ⟨_, _, t13⟩ := tgX3_operatorFor e12
        refine r_calln hW (pext e12) (run_V (b := v11) (As := [.int x1]) (rest := []) C hW (metX3_operatorFor l G ρ e12) ⟨rfl, rfl⟩ kcX3_operatorFor (tq q_393 rfl) kiX3_operatorFor ksX3_operatorFor knX3_operatorFor kdX3_operatorFor t13 rfl rfl ⟨Nat.le_of_ble_eq_true rfl, Nat.le_of_ble_eq_true rfl⟩ hl.1 (Nat.le_of_ble_eq_true rfl) (room_of hW (pext e12) ((pext hf).tr hX)) dX9_polynomial_42 rfl) (fun H locs c1 s1 hW => ?_)
        refine r_astQ (lv' := [(4, va_rf (Option.map ρ v12)), (0, .ref (ρ x0)), (1, .int x1), (2, .int x2), (3, .int x3)]) hx hb dX9_polynomial_45 hl (by decide) rfl (fun ls hl => ?_)
        refine r_aldQ hx hb dX9_polynomial_47 (lv_at hl 0 rfl) ?_
        rcases v12 with _ | a14
        · have hl : lv_has ls 6 [(4, .null), (0, .ref (ρ x0)), (1, .int x1), (2, .int x2), (3, .int x3)] := hl
          try dsimp only at hf
          refine lv_ifnonnullN hx hb dX9_polynomial_49 ?_
          refine lv_aload_n hx hb dX9_polynomial_52 rfl (lv_at hl 1 rfl) ?_
          refine lv_bipush (v := -3) hx hb dX9_polynomial_53 (by decide) ?_
          obtain ⟨v15, h15, e15, hf⟩ := pb_some hf
          obtain ⟨_, _, t16⟩ := tgX9_refuse e15
          refine r_calli hW (pext e15) (run_V (b := x0) (As := [.int (-3 : Int32)]) (rest := []) C hW (metX9_refuse l G ρ e15) ⟨rfl, rfl⟩ kcX9_refuse (tq q_343 rfl) kiX9_refuse ksX9_refuse knX9_refuse kdX9_refuse t16 rfl rfl ⟨Nat.le_of_ble_eq_true rfl, Nat.le_of_ble_eq_true rfl⟩ hl.1 (Nat.le_of_ble_eq_true rfl) (room_of hW (pext e15) ((pext hf).tr hX)) dX9_polynomial_55 rfl) (fun H locs c1 s1 hW => ?_)
          refine lv_pop hx hb dX9_polynomial_58 rfl ?_
          refine r_ldc2 (v := -9223372036854775807) C (tq q_450 rfl) dX9_polynomial_59 ?_
          obtain ⟨rfl, rfl⟩ := pp_some hf
          exact r_lret C hW dX9_polynomial_62
        · have hl : lv_has ls 6 [(4, .ref (ρ a14)), (0, .ref (ρ x0)), (1, .int x1), (2, .int x2), (3, .int x3)] := hl
          try dsimp only at hf
          refine lv_ifnonnull (tgt := 63) hx hb dX9_polynomial_49 (by decide) ?_
          refine lv_iload_n hx hb dX9_polynomial_63 rfl (lv_at hl 3 rfl) ?_
          refine lv_if_ne (tgt := 75) hx hb dX9_polynomial_64 (by decide) (fun c17 => ?_) (fun c17 => ?_)
          · rw [if_neg c17] at hf
            refine lv_aload hx hb dX9_polynomial_75 (lv_at hl 0 rfl) ?_
            obtain ⟨v18, h18, e18, hf⟩ := pb_some hf
            obtain ⟨_, _, t19⟩ := tgX5_cuspidalCoefficients e18
            refine r_calla hW (pext e18) (run_V (b := a14) (As := []) (rest := []) C hW (metX5_cuspidalCoefficients l G ρ e18) ⟨rfl, rfl⟩ kcX5_cuspidalCoefficients (tq q_466 rfl) kiX5_cuspidalCoefficients ksX5_cuspidalCoefficients knX5_cuspidalCoefficients kdX5_cuspidalCoefficients t19 rfl rfl ⟨Nat.le_of_ble_eq_true rfl, Nat.le_of_ble_eq_true rfl⟩ hl.1 (Nat.le_of_ble_eq_true rfl) (room_of hW (pext e18) ((pext hf).tr hX)) dX9_polynomial_77 rfl) (fun H locs c1 s1 hW => ?_)
            refine lv_astore (lv' := [(5, .ref (ρ v18)), (4, .ref (ρ a14)), (0, .ref (ρ x0)), (1, .int x1), (2, .int x2), (3, .int x3)]) hx hb dX9_polynomial_80 hl (by decide) rfl (fun ls hl => ?_)
            refine lv_iload_n hx hb dX9_polynomial_82 rfl (lv_at hl 5 rfl) ?_
            refine lv_aload hx hb dX9_polynomial_83 (lv_at hl 0 rfl) ?_
            obtain ⟨v20, e20, hf⟩ := pb_rd (rd_aln _) hf
            refine r_alen C hW e20 dX9_polynomial_85 ?_
            refine lv_icmp_ge (tgt := 96) hx hb dX9_polynomial_86 (by decide) (fun c21 => ?_) (fun c21 => ?_)
            · rw [if_pos c21] at hf
              refine lv_lconst (v := 0) hx hb dX9_polynomial_96 (by decide) ?_
              obtain ⟨rfl, rfl⟩ := pp_some hf
              exact r_lret C hW dX9_polynomial_97
            · rw [if_neg c21] at hf
              refine lv_aload hx hb dX9_polynomial_89 (lv_at hl 0 rfl) ?_
              refine lv_iload_n hx hb dX9_polynomial_91 rfl (lv_at hl 5 rfl) ?_
              obtain ⟨v22, e22, hf⟩ := pb_rd (rd_lJ _ _ _) hf
              refine r_lald C hW e22 dX9_polynomial_92 ?_
              refine lv_goto (tgt := 97) hx hb dX9_polynomial_93 (by decide) ?_
              obtain ⟨rfl, rfl⟩ := pp_some hf
              exact r_lret C hW dX9_polynomial_97
          · rw [if_pos c17] at hf
            refine lv_aload hx hb dX9_polynomial_67 (lv_at hl 0 rfl) ?_
            obtain ⟨v23, h23, e23, hf⟩ := pb_some hf
            obtain ⟨_, _, t24⟩ := tgX5_wholeCoefficients e23
            refine r_calla hW (pext e23) (run_V (b := a14) (As := []) (rest := []) C hW (metX5_wholeCoefficients l G ρ e23) ⟨rfl, rfl⟩ kcX5_wholeCoefficients (tq q_451 rfl) kiX5_wholeCoefficients ksX5_wholeCoefficients knX5_wholeCoefficients kdX5_wholeCoefficients t24 rfl rfl ⟨Nat.le_of_ble_eq_true rfl, Nat.le_of_ble_eq_true rfl⟩ hl.1 (Nat.le_of_ble_eq_true rfl) (room_of hW (pext e23) ((pext hf).tr hX)) dX9_polynomial_69 rfl) (fun H locs c1 s1 hW => ?_)
            refine lv_goto (tgt := 80) hx hb dX9_polynomial_72 (by decide) ?_
            refine lv_astore (lv' := [(5, .ref (ρ v23)), (4, .ref (ρ a14)), (0, .ref (ρ x0)), (1, .int x1), (2, .int x2), (3, .int x3)]) hx hb dX9_polynomial_80 hl (by decide) rfl (fun ls hl => ?_)
            refine lv_iload_n hx hb dX9_polynomial_82 rfl (lv_at hl 5 rfl) ?_
            refine lv_aload hx hb dX9_polynomial_83 (lv_at hl 0 rfl) ?_
            obtain ⟨v25, e25, hf⟩ := pb_rd (rd_aln _) hf
            refine r_alen C hW e25 dX9_polynomial_85 ?_
            refine lv_icmp_ge (tgt := 96) hx hb dX9_polynomial_86 (by decide) (fun c26 => ?_) (fun c26 => ?_)
            · rw [if_pos c26] at hf
              refine lv_lconst (v := 0) hx hb dX9_polynomial_96 (by decide) ?_
              obtain ⟨rfl, rfl⟩ := pp_some hf
              exact r_lret C hW dX9_polynomial_97
            · rw [if_neg c26] at hf
              refine lv_aload hx hb dX9_polynomial_89 (lv_at hl 0 rfl) ?_
              refine lv_iload_n hx hb dX9_polynomial_91 rfl (lv_at hl 5 rfl) ?_
              obtain ⟨v27, e27, hf⟩ := pb_rd (rd_lJ _ _ _) hf
              refine r_lald C hW e27 dX9_polynomial_92 ?_
              refine lv_goto (tgt := 97) hx hb dX9_polynomial_93 (by decide) ?_
              obtain ⟨rfl, rfl⟩ := pp_some hf
              exact r_lret C hW dX9_polynomial_97
      · rw [if_neg c9] at hf
        refine lv_aload_n hx hb dX9_polynomial_23 rfl (lv_at hl 0 rfl) ?_
        refine lv_bipush (v := -2) hx hb dX9_polynomial_24 (by decide) ?_
        obtain ⟨v28, h28, e28, hf⟩ := pb_some hf
        obtain ⟨_, _, t29⟩ := tgX9_refuse e28
        refine r_calli hW (pext e28) (run_V (b := x0) (As := [.int (-2 : Int32)]) (rest := []) C hW (metX9_refuse l G ρ e28) ⟨rfl, rfl⟩ kcX9_refuse (tq q_343 rfl) kiX9_refuse ksX9_refuse knX9_refuse kdX9_refuse t29 rfl rfl ⟨Nat.le_of_ble_eq_true rfl, Nat.le_of_ble_eq_true rfl⟩ hl.1 (Nat.le_of_ble_eq_true rfl) (room_of hW (pext e28) ((pext hf).tr hX)) dX9_polynomial_26 rfl) (fun H locs c1 s1 hW => ?_)
        refine lv_pop hx hb dX9_polynomial_29 rfl ?_
        refine r_ldc2 (v := -9223372036854775808) C (tq q_449 rfl) dX9_polynomial_30 ?_
        obtain ⟨rfl, rfl⟩ := pp_some hf
        exact r_lret C hW dX9_polynomial_33

theorem dJ7_copyOf_c38d5_0 : decode cJ7_copyOf_c38d5 0 = .ok (.iload_n 1, 1) := by decide +kernel
theorem dJ7_copyOf_c38d5_1 : decode cJ7_copyOf_c38d5 1 = .ok (.aload_n 0, 1) := by decide +kernel
theorem dJ7_copyOf_c38d5_2 : decode cJ7_copyOf_c38d5 2 = .ok (.arraylength, 1) := by decide +kernel
theorem dJ7_copyOf_c38d5_3 : decode cJ7_copyOf_c38d5 3 = .ok (.if_icmp .ne 11, 3) := by decide +kernel
theorem dJ7_copyOf_c38d5_6 : decode cJ7_copyOf_c38d5 6 = .ok (.aload_n 0, 1) := by decide +kernel
theorem dJ7_copyOf_c38d5_7 : decode cJ7_copyOf_c38d5 7 = .ok (.invokevirtual 319, 3) := by decide +kernel
theorem dJ7_copyOf_c38d5_10 : decode cJ7_copyOf_c38d5 10 = .ok (.checkcast 320, 3) := by decide +kernel
theorem dJ7_copyOf_c38d5_13 : decode cJ7_copyOf_c38d5 13 = .ok (.areturn, 1) := by decide +kernel
theorem dJ7_copyOf_c38d5_14 : decode cJ7_copyOf_c38d5 14 = .ok (.iload_n 1, 1) := by decide +kernel
theorem dJ7_copyOf_c38d5_15 : decode cJ7_copyOf_c38d5 15 = .ok (.newarray .long, 2) := by decide +kernel
theorem dJ7_copyOf_c38d5_17 : decode cJ7_copyOf_c38d5 17 = .ok (.astore_n 2, 1) := by decide +kernel
theorem dJ7_copyOf_c38d5_18 : decode cJ7_copyOf_c38d5 18 = .ok (.aload_n 0, 1) := by decide +kernel
theorem dJ7_copyOf_c38d5_19 : decode cJ7_copyOf_c38d5 19 = .ok (.iconst 0, 1) := by decide +kernel
theorem dJ7_copyOf_c38d5_20 : decode cJ7_copyOf_c38d5 20 = .ok (.aload_n 2, 1) := by decide +kernel
theorem dJ7_copyOf_c38d5_21 : decode cJ7_copyOf_c38d5 21 = .ok (.iconst 0, 1) := by decide +kernel
theorem dJ7_copyOf_c38d5_22 : decode cJ7_copyOf_c38d5 22 = .ok (.aload_n 0, 1) := by decide +kernel
theorem dJ7_copyOf_c38d5_23 : decode cJ7_copyOf_c38d5 23 = .ok (.arraylength, 1) := by decide +kernel
theorem dJ7_copyOf_c38d5_24 : decode cJ7_copyOf_c38d5 24 = .ok (.iload_n 1, 1) := by decide +kernel
theorem dJ7_copyOf_c38d5_25 : decode cJ7_copyOf_c38d5 25 = .ok (.invokestatic 304, 3) := by decide +kernel
theorem dJ7_copyOf_c38d5_28 : decode cJ7_copyOf_c38d5 28 = .ok (.invokestatic 150, 3) := by decide +kernel
theorem dJ7_copyOf_c38d5_31 : decode cJ7_copyOf_c38d5 31 = .ok (.aload_n 2, 1) := by decide +kernel
theorem dJ7_copyOf_c38d5_32 : decode cJ7_copyOf_c38d5 32 = .ok (.areturn, 1) := by decide +kernel
theorem kcJ7_copyOf_c38d5 : Cond.code yJ7_copyOf_c38d5 cJ7_copyOf_c38d5 3 (some (.array .long)) ∈ tb := tq q_479 rfl
theorem knJ7_copyOf_c38d5 : Cond.initialized yJ7_copyOf_c38d5.cls ∈ tb := (tq q_3 rfl)
theorem kdJ7_copyOf_c38d5 : yJ7_copyOf_c38d5.cls ≠ "java/lang/invoke/MethodHandle" ∧ yJ7_copyOf_c38d5.cls ≠ "java/lang/invoke/VarHandle" ∧ (parseMethodDescriptor yJ7_copyOf_c38d5.desc).map (fun d => d.parameters.length) = some 2 := ⟨by decide +kernel, by decide +kernel, by decide +kernel⟩
theorem kiJ7_copyOf_c38d5 : Cond.static yJ7_copyOf_c38d5 ∈ tb := (tq q_478 rfl)
set_option maxHeartbeats 4000000 in
set_option maxRecDepth 100000 in
theorem metJ7_copyOf_c38d5 (l : Launch) (G : GG) (ρ : Nat → Nat) {z : Nat} {x0 : Nat} {x1 : Int32} {h hE : PH} {v : Nat} (hf : (fJ7_copyOf_c38d5 x0 x1).1 h = some (v, hE)) : Met l yJ7_copyOf_c38d5 (wsY yJ7_copyOf_c38d5 cJ7_copyOf_c38d5 3 (some (.array .long))) (RM 1 80 h hE) (va_Pc [.ref (ρ x0), .int x1] (PcB G ρ h z)) (QA G ρ v hE h.length z) (DC h hE) (DS h hE) (Af ρ h.length z) := by
  refine met_start (by decide) (Nat.le_of_ble_eq_true rfl) ?_
  intro p e s m below meth c ls hz C hW hl
  subst hz
  have C : Cx G "java/util/Arrays" cJ7_copyOf_c38d5 3 (some (.array .long)) "copyOf" p s m _ meth c := C
  have hx := C.1
  have hb := C.2.1
  have hX : Ext hE hE := Ext.rf hE
  have hl : lv_has ls 3 [(0, .ref (ρ x0)), (1, .int x1)] := hl
  have hW : Wd G ρ h.length (sl h) s.heap h s.heap [] 0 0 := hW
  unfold fJ7_copyOf_c38d5 at hf
  obtain ⟨v1, e1, hf⟩ := pb_rd (rd_aln _) hf
  refine lv_iload_n hx hb dJ7_copyOf_c38d5_0 rfl (lv_at hl 1 rfl) ?_
  refine lv_aload_n hx hb dJ7_copyOf_c38d5_1 rfl (lv_at hl 0 rfl) ?_
  refine r_alen C hW e1 dJ7_copyOf_c38d5_2 ?_
  refine lv_icmp_ne (tgt := 14) hx hb dJ7_copyOf_c38d5_3 (by decide) (fun c1 => ?_) (fun c1 => ?_)
  · rw [if_neg c1] at hf
    exact (pf_no hf).elim
  · rw [if_pos c1] at hf
    obtain ⟨v2, h2, e2, hf⟩ := pb_some hf
    refine lv_aload_n hx hb dJ7_copyOf_c38d5_6 rfl (lv_at hl 0 rfl) ?_
    refine r_clone C hW e2 (tq q_480 rfl) (tq q_481 rfl) (tq q_482 rfl) (tq q_483 rfl) (tq q_484 rfl) (tq q_485 rfl) hl.1 (Nat.le_of_ble_eq_true rfl) (Nat.le_of_ble_eq_true rfl) (Nat.le_of_ble_eq_true rfl) (room_of hW (pext e2) ((pext hf).tr hX)) dJ7_copyOf_c38d5_7 (fun H c1 s1 hW => ?_)
    obtain ⟨n2, x2, k1, k2, k3⟩ := cln_some e2
    have k4 : nth h2 v2 = some (18, n2, x2) := by
      rw [k3, k2, nth_app_right (Nat.le_refl _), Nat.sub_self]
      rfl
    refine r_castJ C hW k4 (tq q_486 rfl) dJ7_copyOf_c38d5_10 ?_
    obtain ⟨rfl, rfl⟩ := pp_some hf
    exact r_aret C hW (Or.inr ⟨_, rfl⟩) dJ7_copyOf_c38d5_13

theorem dX4_multiplicity_0 : decode cX4_multiplicity 0 = .ok (.aload_n 0, 1) := by decide +kernel
theorem dX4_multiplicity_1 : decode cX4_multiplicity 1 = .ok (.arraylength, 1) := by decide +kernel
theorem dX4_multiplicity_2 : decode cX4_multiplicity 2 = .ok (.iconst 1, 1) := by decide +kernel
theorem dX4_multiplicity_3 : decode cX4_multiplicity 3 = .ok (.isub, 1) := by decide +kernel
theorem dX4_multiplicity_4 : decode cX4_multiplicity 4 = .ok (.istore_n 2, 1) := by decide +kernel
theorem dX4_multiplicity_5 : decode cX4_multiplicity 5 = .ok (.aload_n 0, 1) := by decide +kernel
theorem dX4_multiplicity_6 : decode cX4_multiplicity 6 = .ok (.aload_n 0, 1) := by decide +kernel
theorem dX4_multiplicity_7 : decode cX4_multiplicity 7 = .ok (.arraylength, 1) := by decide +kernel
theorem dX4_multiplicity_8 : decode cX4_multiplicity 8 = .ok (.invokestatic 23, 3) := by decide +kernel
theorem dX4_multiplicity_11 : decode cX4_multiplicity 11 = .ok (.astore_n 3, 1) := by decide +kernel
theorem dX4_multiplicity_12 : decode cX4_multiplicity 12 = .ok (.iconst 0, 1) := by decide +kernel
theorem dX4_multiplicity_13 : decode cX4_multiplicity 13 = .ok (.istore 4, 2) := by decide +kernel
theorem dX4_multiplicity_15 : decode cX4_multiplicity 15 = .ok (.iconst 0, 1) := by decide +kernel
theorem dX4_multiplicity_16 : decode cX4_multiplicity 16 = .ok (.istore 5, 2) := by decide +kernel
theorem dX4_multiplicity_18 : decode cX4_multiplicity 18 = .ok (.iload 5, 2) := by decide +kernel
theorem dX4_multiplicity_20 : decode cX4_multiplicity 20 = .ok (.iload_n 2, 1) := by decide +kernel
theorem dX4_multiplicity_21 : decode cX4_multiplicity 21 = .ok (.if_icmp .ge 58, 3) := by decide +kernel
theorem dX4_multiplicity_24 : decode cX4_multiplicity 24 = .ok (.iload_n 2, 1) := by decide +kernel
theorem dX4_multiplicity_25 : decode cX4_multiplicity 25 = .ok (.iconst 1, 1) := by decide +kernel
theorem dX4_multiplicity_26 : decode cX4_multiplicity 26 = .ok (.isub, 1) := by decide +kernel
theorem dX4_multiplicity_27 : decode cX4_multiplicity 27 = .ok (.istore 6, 2) := by decide +kernel
theorem dX4_multiplicity_29 : decode cX4_multiplicity 29 = .ok (.iload 6, 2) := by decide +kernel
theorem dX4_multiplicity_31 : decode cX4_multiplicity 31 = .ok (.iload 5, 2) := by decide +kernel
theorem dX4_multiplicity_33 : decode cX4_multiplicity 33 = .ok (.if_icmp .lt 25, 3) := by decide +kernel
theorem dX4_multiplicity_36 : decode cX4_multiplicity 36 = .ok (.aload_n 3, 1) := by decide +kernel
theorem dX4_multiplicity_37 : decode cX4_multiplicity 37 = .ok (.iload 6, 2) := by decide +kernel
theorem dX4_multiplicity_39 : decode cX4_multiplicity 39 = .ok (.dup2, 1) := by decide +kernel
theorem dX4_multiplicity_40 : decode cX4_multiplicity 40 = .ok (.laload, 1) := by decide +kernel
theorem dX4_multiplicity_41 : decode cX4_multiplicity 41 = .ok (.iload_n 1, 1) := by decide +kernel
theorem dX4_multiplicity_42 : decode cX4_multiplicity 42 = .ok (.i2l, 1) := by decide +kernel
theorem dX4_multiplicity_43 : decode cX4_multiplicity 43 = .ok (.aload_n 3, 1) := by decide +kernel
theorem dX4_multiplicity_44 : decode cX4_multiplicity 44 = .ok (.iload 6, 2) := by decide +kernel
theorem dX4_multiplicity_46 : decode cX4_multiplicity 46 = .ok (.iconst 1, 1) := by decide +kernel
theorem dX4_multiplicity_47 : decode cX4_multiplicity 47 = .ok (.iadd, 1) := by decide +kernel
theorem dX4_multiplicity_48 : decode cX4_multiplicity 48 = .ok (.laload, 1) := by decide +kernel
theorem dX4_multiplicity_49 : decode cX4_multiplicity 49 = .ok (.lmul, 1) := by decide +kernel
theorem dX4_multiplicity_50 : decode cX4_multiplicity 50 = .ok (.ladd, 1) := by decide +kernel
theorem dX4_multiplicity_51 : decode cX4_multiplicity 51 = .ok (.lastore, 1) := by decide +kernel
theorem dX4_multiplicity_52 : decode cX4_multiplicity 52 = .ok (.iinc 6 (-1), 3) := by decide +kernel
theorem dX4_multiplicity_55 : decode cX4_multiplicity 55 = .ok (.goto (-26), 3) := by decide +kernel
theorem dX4_multiplicity_58 : decode cX4_multiplicity 58 = .ok (.aload_n 3, 1) := by decide +kernel
theorem dX4_multiplicity_59 : decode cX4_multiplicity 59 = .ok (.iload 5, 2) := by decide +kernel
theorem dX4_multiplicity_61 : decode cX4_multiplicity 61 = .ok (.laload, 1) := by decide +kernel
theorem dX4_multiplicity_62 : decode cX4_multiplicity 62 = .ok (.lconst 0, 1) := by decide +kernel
theorem dX4_multiplicity_63 : decode cX4_multiplicity 63 = .ok (.lcmp, 1) := by decide +kernel
theorem dX4_multiplicity_64 : decode cX4_multiplicity 64 = .ok (.ifCond .eq 6, 3) := by decide +kernel
theorem dX4_multiplicity_67 : decode cX4_multiplicity 67 = .ok (.goto 12, 3) := by decide +kernel
theorem dX4_multiplicity_70 : decode cX4_multiplicity 70 = .ok (.iinc 4 1, 3) := by decide +kernel
theorem dX4_multiplicity_73 : decode cX4_multiplicity 73 = .ok (.iinc 5 1, 3) := by decide +kernel
theorem dX4_multiplicity_76 : decode cX4_multiplicity 76 = .ok (.goto (-58), 3) := by decide +kernel
theorem dX4_multiplicity_79 : decode cX4_multiplicity 79 = .ok (.iload 4, 2) := by decide +kernel
theorem dX4_multiplicity_81 : decode cX4_multiplicity 81 = .ok (.ireturn, 1) := by decide +kernel
theorem kcX4_multiplicity : Cond.code yX4_multiplicity cX4_multiplicity 7 (some .int) ∈ tb := tq q_476 rfl
theorem knX4_multiplicity : Cond.initialized yX4_multiplicity.cls ∈ tb := (tq q_13 rfl)
theorem kdX4_multiplicity : yX4_multiplicity.cls ≠ "java/lang/invoke/MethodHandle" ∧ yX4_multiplicity.cls ≠ "java/lang/invoke/VarHandle" ∧ (parseMethodDescriptor yX4_multiplicity.desc).map (fun d => d.parameters.length) = some 2 := ⟨by decide +kernel, by decide +kernel, by decide +kernel⟩
theorem kiX4_multiplicity : Cond.static yX4_multiplicity ∈ tb := (tq q_475 rfl)
set_option maxHeartbeats 4000000 in
set_option maxRecDepth 100000 in
theorem wX4_multiplicity_B29 {p : Program} {l : Launch} {e : Env} {s : State} {m : MethodId} {args : Array Value} {below : List Frame} {meth : Method} {c : Code} {G : GG} {ρ : Nat → Nat} {h0 hE hB : PH} {Q : State → Prop} {x1 : Int32} {x2 : Int32} {x3 : Nat} {x4 : Int32} {x5 : Int32} (C : Cx G "PairSymbols$Matrices" cX4_multiplicity 7 (some .int) "multiplicity" p s m args meth c) {x6 : Int32} {h : PH} {H : Heap} {locs : List Loc} {cells slots : Nat} {ls : Array Slot} {r : (Int32) ⊕ (Unit)} (hf : (fX4_multiplicity_b29 x1 x2 x3 x4 x5 x6).1 h = some (r, hB)) (hX : Ext hB hE) (hW : Wd G ρ h0.length (sl h0) s.heap h H locs cells slots) (hl : lv_has ls 7 [(1, .int x1), (2, .int x2), (3, .ref (ρ x3)), (4, .int x4), (5, .int x5), (6, .int x6)]) (kc : ∀ y : Int32, r = .inl y → ∀ (H : Heap) (locs : List Loc) (c1 s1 : Nat) (ls : Array Slot), Wd G ρ h0.length (sl h0) s.heap hB H locs c1 s1 → lv_has ls 7 [(1, .int x1), (2, .int x2), (3, .ref (ρ x3)), (4, .int x4), (5, .int x5), (6, .int y)] → W p l e (RM 2 102 h0 hE) s m args below meth c H locs c1 s1 Q (F0 m 29 ls [])) (ke : ∀ z : Unit, r = .inr z → ∀ (H : Heap) (locs : List Loc) (c1 s1 : Nat) (ls : Array Slot), Wd G ρ h0.length (sl h0) s.heap hB H locs c1 s1 → lv_has ls 7 [(1, .int x1), (2, .int x2), (3, .ref (ρ x3)), (4, .int x4), (5, .int x5)] → W p l e (RM 2 102 h0 hE) s m args below meth c H locs c1 s1 Q (F0 m 58 ls [])) : W p l e (RM 2 102 h0 hE) s m args below meth c H locs cells slots Q (F0 m 29 ls []) := by
  have hx := C.1
  have hb := C.2.1
  unfold fX4_multiplicity_b29 at hf
  refine lv_iload hx hb dX4_multiplicity_29 (lv_at hl 5 rfl) ?_
  refine lv_iload hx hb dX4_multiplicity_31 (lv_at hl 4 rfl) ?_
  refine lv_icmp_lt (tgt := 58) hx hb dX4_multiplicity_33 (by decide) (fun c5 => ?_) (fun c5 => ?_)
  · rw [if_pos c5] at hf
    obtain ⟨rfl, rfl⟩ := pp_some hf
    exact ke _ rfl _ _ _ _ _ hW (lv_sub hl [0, 1, 2, 3, 4] rfl)
  · rw [if_neg c5] at hf
    refine lv_aload_n hx hb dX4_multiplicity_36 rfl (lv_at hl 2 rfl) ?_
    refine lv_iload hx hb dX4_multiplicity_37 (lv_at hl 5 rfl) ?_
    refine lv_dup2_11 hx hb dX4_multiplicity_39 rfl rfl ?_
    obtain ⟨v6, e6, hf⟩ := pb_rd (rd_lJ _ _ _) hf
    refine r_lald C hW e6 dX4_multiplicity_40 ?_
    refine lv_iload_n hx hb dX4_multiplicity_41 rfl (lv_at hl 0 rfl) ?_
    refine lv_i2l (v := x1.toInt64) hx hb dX4_multiplicity_42 rfl ?_
    refine lv_aload_n hx hb dX4_multiplicity_43 rfl (lv_at hl 2 rfl) ?_
    refine lv_iload hx hb dX4_multiplicity_44 (lv_at hl 5 rfl) ?_
    refine lv_iconst (v := 1) hx hb dX4_multiplicity_46 (by decide) ?_
    refine lv_iadd hx hb dX4_multiplicity_47 ?_
    obtain ⟨v7, e7, hf⟩ := pb_rd (rd_lJ _ _ _) hf
    refine r_lald C hW e7 dX4_multiplicity_48 ?_
    refine lv_lmul hx hb dX4_multiplicity_49 ?_
    refine lv_ladd hx hb dX4_multiplicity_50 ?_
    obtain ⟨_, h8, e8, hf⟩ := pb_some hf
    refine r_last C hW e8 dX4_multiplicity_51 (fun H locs hW => ?_)
    refine lv_iinc (v := (x6 + (-1))) (lv' := [(6, .int (x6 + (-1))), (1, .int x1), (2, .int x2), (3, .ref (ρ x3)), (4, .int x4), (5, .int x5)]) hx hb dX4_multiplicity_52 hl (k := 5) rfl rfl (by decide) rfl (fun ls hl => ?_)
    refine lv_goto (tgt := 29) hx hb dX4_multiplicity_55 (by decide) ?_
    obtain ⟨rfl, rfl⟩ := pp_some hf
    exact kc _ rfl _ _ _ _ _ hW (lv_sub hl [1, 2, 3, 4, 5, 0] rfl)
set_option maxHeartbeats 4000000 in
theorem wX4_multiplicity_L29 {p : Program} {l : Launch} {e : Env} {s : State} {m : MethodId} {args : Array Value} {below : List Frame} {meth : Method} {c : Code} {G : GG} {ρ : Nat → Nat} {h0 hE hB : PH} {Q : State → Prop} {x1 : Int32} {x2 : Int32} {x3 : Nat} {x4 : Int32} {x5 : Int32} (C : Cx G "PairSymbols$Matrices" cX4_multiplicity 7 (some .int) "multiplicity" p s m args meth c) {z : (Unit)} (n : Nat) : ∀ (x : Int32) {h : PH} {H : Heap} {locs : List Loc} {cells slots : Nat} {ls : Array Slot}, (plo (fX4_multiplicity_B29 x1 x2 x3 x4 x5) n x).1 h = some (z, hB) → Ext hB hE → Wd G ρ h0.length (sl h0) s.heap h H locs cells slots → lv_has ls 7 [(1, .int x1), (2, .int x2), (3, .ref (ρ x3)), (4, .int x4), (5, .int x5), (6, .int x)] → (ke : ∀ (H : Heap) (locs : List Loc) (c1 s1 : Nat) (ls : Array Slot), Wd G ρ h0.length (sl h0) s.heap hB H locs c1 s1 → lv_has ls 7 [(1, .int x1), (2, .int x2), (3, .ref (ρ x3)), (4, .int x4), (5, .int x5)] → W p l e (RM 2 102 h0 hE) s m args below meth c H locs c1 s1 Q (F0 m 58 ls [])) → W p l e (RM 2 102 h0 hE) s m args below meth c H locs cells slots Q (F0 m 29 ls []) := by
  induction n with
  | zero =>
    intro x h H locs cells slots ls hf
    rw [plo_0] at hf
    exact (pf_no hf).elim
  | succ n ih =>
    intro x h H locs cells slots ls hf hX hW hl ke
    rw [plo_s] at hf
    obtain ⟨r, h1, e1, hf⟩ := pb_some hf
    unfold fX4_multiplicity_B29 at e1
    rw [frI_eq] at e1
    refine wX4_multiplicity_B29 C e1 ((pext hf).tr hX) hW hl (fun y hr H locs c1 s1 ls hW hl => ?_) (fun y hr H locs c1 s1 ls hW hl => ?_)
    · subst hr
      exact ih y hf hX hW hl ke
    · subst hr
      obtain ⟨rfl, rfl⟩ := pp_some hf
      exact ke H locs c1 s1 ls hW hl
set_option maxHeartbeats 4000000 in
set_option maxRecDepth 100000 in
theorem wX4_multiplicity_B18 {p : Program} {l : Launch} {e : Env} {s : State} {m : MethodId} {args : Array Value} {below : List Frame} {meth : Method} {c : Code} {G : GG} {ρ : Nat → Nat} {h0 hE hB : PH} {Q : State → Prop} {x1 : Int32} {x2 : Int32} {x3 : Nat} (C : Cx G "PairSymbols$Matrices" cX4_multiplicity 7 (some .int) "multiplicity" p s m args meth c) {x4 : Int32} {x5 : Int32} {h : PH} {H : Heap} {locs : List Loc} {cells slots : Nat} {ls : Array Slot} {r : (Int32 × Int32) ⊕ (Int32)} (hf : (fX4_multiplicity_b18 x1 x2 x3 x4 x5).1 h = some (r, hB)) (hX : Ext hB hE) (hW : Wd G ρ h0.length (sl h0) s.heap h H locs cells slots) (hl : lv_has ls 7 [(1, .int x1), (2, .int x2), (3, .ref (ρ x3)), (4, .int x4), (5, .int x5)]) (kc : ∀ y : Int32 × Int32, r = .inl y → ∀ (H : Heap) (locs : List Loc) (c1 s1 : Nat) (ls : Array Slot), Wd G ρ h0.length (sl h0) s.heap hB H locs c1 s1 → lv_has ls 7 [(1, .int x1), (2, .int x2), (3, .ref (ρ x3)), (4, .int y.1), (5, .int y.2)] → W p l e (RM 2 102 h0 hE) s m args below meth c H locs c1 s1 Q (F0 m 18 ls [])) (ke : ∀ z : Int32, r = .inr z → ∀ (H : Heap) (locs : List Loc) (c1 s1 : Nat) (ls : Array Slot), Wd G ρ h0.length (sl h0) s.heap hB H locs c1 s1 → lv_has ls 7 [(4, .int z)] → W p l e (RM 2 102 h0 hE) s m args below meth c H locs c1 s1 Q (F0 m 79 ls [])) : W p l e (RM 2 102 h0 hE) s m args below meth c H locs cells slots Q (F0 m 18 ls []) := by
  have hx := C.1
  have hb := C.2.1
  unfold fX4_multiplicity_b18 at hf
  refine lv_iload hx hb dX4_multiplicity_18 (lv_at hl 4 rfl) ?_
  refine lv_iload_n hx hb dX4_multiplicity_20 rfl (lv_at hl 1 rfl) ?_
  refine lv_icmp_ge (tgt := 79) hx hb dX4_multiplicity_21 (by decide) (fun c4 => ?_) (fun c4 => ?_)
  · rw [if_pos c4] at hf
    obtain ⟨rfl, rfl⟩ := pp_some hf
    exact ke _ rfl _ _ _ _ _ hW (lv_sub hl [3] rfl)
  · rw [if_neg c4] at hf
    refine lv_iload_n hx hb dX4_multiplicity_24 rfl (lv_at hl 1 rfl) ?_
    refine lv_iconst (v := 1) hx hb dX4_multiplicity_25 (by decide) ?_
    refine lv_isub hx hb dX4_multiplicity_26 ?_
    refine lv_istore (lv' := [(6, .int (x2 - (1 : Int32))), (1, .int x1), (2, .int x2), (3, .ref (ρ x3)), (4, .int x4), (5, .int x5)]) hx hb dX4_multiplicity_27 hl (by decide) rfl (fun ls hl => ?_)
    obtain ⟨z9, h9, e9, hf⟩ := pb_some hf
    refine wX4_multiplicity_L29 C fu _ e9 ((pext hf).tr hX) hW (lv_sub hl [1, 2, 3, 4, 5, 0] rfl) (fun H locs c1 s1 ls hW hl => ?_)
    refine lv_aload_n hx hb dX4_multiplicity_58 rfl (lv_at hl 2 rfl) ?_
    refine lv_iload hx hb dX4_multiplicity_59 (lv_at hl 4 rfl) ?_
    obtain ⟨v10, e10, hf⟩ := pb_rd (rd_lJ _ _ _) hf
    refine r_lald C hW e10 dX4_multiplicity_61 ?_
    refine lv_lconst (v := 0) hx hb dX4_multiplicity_62 (by decide) ?_
    refine W.lcmp hx hb dX4_multiplicity_63 ?_
    refine lv_if_eq (tgt := 70) hx hb dX4_multiplicity_64 (by decide) (fun c11 => ?_) (fun c11 => ?_)
    · rw [if_pos c11] at hf
      refine lv_iinc (v := (x4 + 1)) (lv' := [(4, .int (x4 + 1)), (1, .int x1), (2, .int x2), (3, .ref (ρ x3)), (5, .int x5)]) hx hb dX4_multiplicity_70 hl (k := 3) rfl rfl (by decide) rfl (fun ls hl => ?_)
      refine lv_iinc (v := (x5 + 1)) (lv' := [(5, .int (x5 + 1)), (4, .int (x4 + 1)), (1, .int x1), (2, .int x2), (3, .ref (ρ x3))]) hx hb dX4_multiplicity_73 hl (k := 4) rfl rfl (by decide) rfl (fun ls hl => ?_)
      refine lv_goto (tgt := 18) hx hb dX4_multiplicity_76 (by decide) ?_
      obtain ⟨rfl, rfl⟩ := pp_some hf
      exact kc _ rfl _ _ _ _ _ hW (lv_sub hl [2, 3, 4, 1, 0] rfl)
    · rw [if_neg c11] at hf
      refine lv_goto (tgt := 79) hx hb dX4_multiplicity_67 (by decide) ?_
      obtain ⟨rfl, rfl⟩ := pp_some hf
      exact ke _ rfl _ _ _ _ _ hW (lv_sub hl [3] rfl)
set_option maxHeartbeats 4000000 in
theorem wX4_multiplicity_L18 {p : Program} {l : Launch} {e : Env} {s : State} {m : MethodId} {args : Array Value} {below : List Frame} {meth : Method} {c : Code} {G : GG} {ρ : Nat → Nat} {h0 hE hB : PH} {Q : State → Prop} {x1 : Int32} {x2 : Int32} {x3 : Nat} (C : Cx G "PairSymbols$Matrices" cX4_multiplicity 7 (some .int) "multiplicity" p s m args meth c) {z : (Int32)} (n : Nat) : ∀ (x : Int32 × Int32) {h : PH} {H : Heap} {locs : List Loc} {cells slots : Nat} {ls : Array Slot}, (plo (fX4_multiplicity_B18 x1 x2 x3) n x).1 h = some (z, hB) → Ext hB hE → Wd G ρ h0.length (sl h0) s.heap h H locs cells slots → lv_has ls 7 [(1, .int x1), (2, .int x2), (3, .ref (ρ x3)), (4, .int x.1), (5, .int x.2)] → (ke : ∀ (H : Heap) (locs : List Loc) (c1 s1 : Nat) (ls : Array Slot), Wd G ρ h0.length (sl h0) s.heap hB H locs c1 s1 → lv_has ls 7 [(4, .int z)] → W p l e (RM 2 102 h0 hE) s m args below meth c H locs c1 s1 Q (F0 m 79 ls [])) → W p l e (RM 2 102 h0 hE) s m args below meth c H locs cells slots Q (F0 m 18 ls []) := by
  induction n with
  | zero =>
    intro x h H locs cells slots ls hf
    rw [plo_0] at hf
    exact (pf_no hf).elim
  | succ n ih =>
    intro x h H locs cells slots ls hf hX hW hl ke
    rw [plo_s] at hf
    obtain ⟨r, h1, e1, hf⟩ := pb_some hf
    unfold fX4_multiplicity_B18 at e1
    rw [frI_eq, frI_eq] at e1
    refine wX4_multiplicity_B18 C e1 ((pext hf).tr hX) hW hl (fun y hr H locs c1 s1 ls hW hl => ?_) (fun y hr H locs c1 s1 ls hW hl => ?_)
    · subst hr
      exact ih y hf hX hW hl ke
    · subst hr
      obtain ⟨rfl, rfl⟩ := pp_some hf
      exact ke H locs c1 s1 ls hW hl
set_option maxHeartbeats 4000000 in
set_option maxRecDepth 100000 in
theorem metX4_multiplicity (l : Launch) (G : GG) (ρ : Nat → Nat) {z : Nat} {x0 : Nat} {x1 : Int32} {h hE : PH} {v : Int32} (hf : (fX4_multiplicity x0 x1).1 h = some (v, hE)) : Met l yX4_multiplicity (wsY yX4_multiplicity cX4_multiplicity 7 (some .int)) (RM 2 102 h hE) (va_Pc [.ref (ρ x0), .int x1] (PcB G ρ h z)) (QI G ρ v hE h.length z) (DC h hE) (DS h hE) (Af ρ h.length z) := by
  refine met_start (by decide) (Nat.le_of_ble_eq_true rfl) ?_
  intro p e s m below meth c ls hz C hW hl
  subst hz
  have C : Cx G "PairSymbols$Matrices" cX4_multiplicity 7 (some .int) "multiplicity" p s m _ meth c := C
  have hx := C.1
  have hb := C.2.1
  have hX : Ext hE hE := Ext.rf hE
  have hl : lv_has ls 7 [(0, .ref (ρ x0)), (1, .int x1)] := hl
  have hW : Wd G ρ h.length (sl h) s.heap h s.heap [] 0 0 := hW
  unfold fX4_multiplicity at hf
  refine lv_aload_n hx hb dX4_multiplicity_0 rfl (lv_at hl 0 rfl) ?_
  obtain ⟨v1, e1, hf⟩ := pb_rd (rd_aln _) hf
  refine r_alen C hW e1 dX4_multiplicity_1 ?_
  refine lv_iconst (v := 1) hx hb dX4_multiplicity_2 (by decide) ?_
  refine lv_isub hx hb dX4_multiplicity_3 ?_
  refine lv_istore_n (lv' := [(2, .int (v1 - (1 : Int32))), (0, .ref (ρ x0)), (1, .int x1)]) hx hb dX4_multiplicity_4 rfl hl (by decide) rfl (fun ls hl => ?_)
  refine lv_aload_n hx hb dX4_multiplicity_5 rfl (lv_at hl 1 rfl) ?_
  refine lv_aload_n hx hb dX4_multiplicity_6 rfl (lv_at hl 1 rfl) ?_
  obtain ⟨v2, e2, hf⟩ := pb_rd (rd_aln _) hf
  refine r_alen C hW e2 dX4_multiplicity_7 ?_
  obtain ⟨v3, h3, e3, hf⟩ := pb_some hf
  refine r_calla hW (pext e3) (run_S (As := [.ref (ρ x0), .int v2]) (rest := []) C hW (metJ7_copyOf_c38d5 l G ρ e3) ⟨rfl, rfl⟩ kcJ7_copyOf_c38d5 (tq q_477 rfl) kiJ7_copyOf_c38d5 knJ7_copyOf_c38d5 kdJ7_copyOf_c38d5 ⟨Nat.le_of_ble_eq_true rfl, Nat.le_of_ble_eq_true rfl⟩ hl.1 (Nat.le_of_ble_eq_true rfl) (room_of hW (pext e3) ((pext hf).tr hX)) dX4_multiplicity_8 rfl) (fun H locs c1 s1 hW => ?_)
  refine lv_astore_n (lv' := [(3, .ref (ρ v3)), (2, .int (v1 - (1 : Int32))), (0, .ref (ρ x0)), (1, .int x1)]) hx hb dX4_multiplicity_11 rfl hl (by decide) rfl (fun ls hl => ?_)
  refine lv_iconst (v := 0) hx hb dX4_multiplicity_12 (by decide) ?_
  refine lv_istore (lv' := [(4, .int (0 : Int32)), (3, .ref (ρ v3)), (2, .int (v1 - (1 : Int32))), (0, .ref (ρ x0)), (1, .int x1)]) hx hb dX4_multiplicity_13 hl (by decide) rfl (fun ls hl => ?_)
  refine lv_iconst (v := 0) hx hb dX4_multiplicity_15 (by decide) ?_
  refine lv_istore (lv' := [(5, .int (0 : Int32)), (4, .int (0 : Int32)), (3, .ref (ρ v3)), (2, .int (v1 - (1 : Int32))), (0, .ref (ρ x0)), (1, .int x1)]) hx hb dX4_multiplicity_16 hl (by decide) rfl (fun ls hl => ?_)
  obtain ⟨z12, h12, e12, hf⟩ := pb_some hf
  refine wX4_multiplicity_L18 C fu _ e12 ((pext hf).tr hX) hW (lv_sub hl [5, 3, 2, 1, 0] rfl) (fun H locs c1 s1 ls hW hl => ?_)
  refine lv_iload hx hb dX4_multiplicity_79 (lv_at hl 0 rfl) ?_
  obtain ⟨rfl, rfl⟩ := pp_some hf
  exact r_iret C hW dX4_multiplicity_81

theorem dX9_root_0 : decode cX9_root 0 = .ok (.iload_n 1, 1) := by decide +kernel
theorem dX9_root_1 : decode cX9_root 1 = .ok (.iconst 1, 1) := by decide +kernel
theorem dX9_root_2 : decode cX9_root 2 = .ok (.bipush 7, 2) := by decide +kernel
theorem dX9_root_4 : decode cX9_root 4 = .ok (.invokestatic 99, 3) := by decide +kernel
theorem dX9_root_7 : decode cX9_root 7 = .ok (.ifCond .eq 14, 3) := by decide +kernel
theorem dX9_root_10 : decode cX9_root 10 = .ok (.iload_n 2, 1) := by decide +kernel
theorem dX9_root_11 : decode cX9_root 11 = .ok (.bipush (-8), 2) := by decide +kernel
theorem dX9_root_13 : decode cX9_root 13 = .ok (.bipush 8, 2) := by decide +kernel
theorem dX9_root_15 : decode cX9_root 15 = .ok (.invokestatic 99, 3) := by decide +kernel
theorem dX9_root_18 : decode cX9_root 18 = .ok (.ifCond .ne 10, 3) := by decide +kernel
theorem dX9_root_21 : decode cX9_root 21 = .ok (.aload_n 0, 1) := by decide +kernel
theorem dX9_root_22 : decode cX9_root 22 = .ok (.bipush (-2), 2) := by decide +kernel
theorem dX9_root_24 : decode cX9_root 24 = .ok (.invokevirtual 74, 3) := by decide +kernel
theorem dX9_root_27 : decode cX9_root 27 = .ok (.ireturn, 1) := by decide +kernel
theorem dX9_root_28 : decode cX9_root 28 = .ok (.aload_n 0, 1) := by decide +kernel
theorem dX9_root_29 : decode cX9_root 29 = .ok (.getfield 23, 3) := by decide +kernel
theorem dX9_root_32 : decode cX9_root 32 = .ok (.getfield 62, 3) := by decide +kernel
theorem dX9_root_35 : decode cX9_root 35 = .ok (.iload_n 1, 1) := by decide +kernel
theorem dX9_root_36 : decode cX9_root 36 = .ok (.invokevirtual 133, 3) := by decide +kernel
theorem dX9_root_39 : decode cX9_root 39 = .ok (.astore_n 3, 1) := by decide +kernel
theorem dX9_root_40 : decode cX9_root 40 = .ok (.aload_n 3, 1) := by decide +kernel
theorem dX9_root_41 : decode cX9_root 41 = .ok (.ifnonnull 10, 3) := by decide +kernel
theorem dX9_root_44 : decode cX9_root 44 = .ok (.aload_n 0, 1) := by decide +kernel
theorem dX9_root_45 : decode cX9_root 45 = .ok (.bipush (-3), 2) := by decide +kernel
theorem dX9_root_47 : decode cX9_root 47 = .ok (.invokevirtual 74, 3) := by decide +kernel
theorem dX9_root_50 : decode cX9_root 50 = .ok (.ireturn, 1) := by decide +kernel
theorem dX9_root_51 : decode cX9_root 51 = .ok (.aload_n 3, 1) := by decide +kernel
theorem dX9_root_52 : decode cX9_root 52 = .ok (.invokevirtual 164, 3) := by decide +kernel
theorem dX9_root_55 : decode cX9_root 55 = .ok (.iload_n 2, 1) := by decide +kernel
theorem dX9_root_56 : decode cX9_root 56 = .ok (.invokestatic 167, 3) := by decide +kernel
theorem dX9_root_59 : decode cX9_root 59 = .ok (.ireturn, 1) := by decide +kernel
theorem kcX9_root : Cond.code yX9_root cX9_root 4 (some .int) ∈ tb := tq q_473 rfl
theorem knX9_root : Cond.initialized yX9_root.cls ∈ tb := (tq q_1 rfl)
theorem kdX9_root : yX9_root.cls ≠ "java/lang/invoke/MethodHandle" ∧ yX9_root.cls ≠ "java/lang/invoke/VarHandle" ∧ (parseMethodDescriptor yX9_root.desc).map (fun d => d.parameters.length) = some 2 := ⟨by decide +kernel, by decide +kernel, by decide +kernel⟩
theorem kiX9_root : Cond.instanceMethod yX9_root ∈ tb := (tq q_471 rfl)
theorem ksX9_root : Cond.selects yX9_root.cls yX9_root yX9_root ∈ tb := (tq q_472 rfl)
theorem tgX9_root {x0 : Nat} {x1 : Int32} {x2 : Int32} {h : PH} {r : Int32 × PH} (hf : (fX9_root x0 x1 x2).1 h = some r) : ∃ n x, nth h x0 = some (8, n, x) := by
  obtain ⟨_, _, e, _⟩ := pb_some hf
  exact (chk_some e).2
set_option maxHeartbeats 4000000 in
set_option maxRecDepth 100000 in
theorem metX9_root (l : Launch) (G : GG) (ρ : Nat → Nat) {z : Nat} {x0 : Nat} {x1 : Int32} {x2 : Int32} {h hE : PH} {v : Int32} (hf : (fX9_root x0 x1 x2).1 h = some (v, hE)) : Met l yX9_root (wsY yX9_root cX9_root 4 (some .int)) (RM 5 128 h hE) (va_Pc [.ref (ρ x0), .int x1, .int x2] (PcB G ρ h z)) (QI G ρ v hE h.length z) (DC h hE) (DS h hE) (Af ρ h.length z) := by
  refine met_start (by decide) (Nat.le_of_ble_eq_true rfl) ?_
  intro p e s m below meth c ls hz C hW hl
  subst hz
  have C : Cx G "PairSymbols" cX9_root 4 (some .int) "root" p s m _ meth c := C
  have hx := C.1
  have hb := C.2.1
  have hX : Ext hE hE := Ext.rf hE
  have hl : lv_has ls 4 [(0, .ref (ρ x0)), (1, .int x1), (2, .int x2)] := hl
  have hW : Wd G ρ h.length (sl h) s.heap h s.heap [] 0 0 := hW
  unfold fX9_root at hf
  obtain ⟨_, e0, hf⟩ := pb_rd (rd_chk _ _) hf
  refine lv_iload_n hx hb dX9_root_0 rfl (lv_at hl 1 rfl) ?_
  refine lv_iconst (v := 1) hx hb dX9_root_1 (by decide) ?_
  refine lv_bipush (v := 7) hx hb dX9_root_2 (by decide) ?_
  obtain ⟨v1, h1, e1, hf⟩ := pb_some hf
  refine r_calli hW (pext e1) (run_S (As := [.int x1, .int (1 : Int32), .int (7 : Int32)]) (rest := []) C hW (metX9_within l G ρ e1) ⟨rfl, rfl⟩ kcX9_within (tq q_329 rfl) kiX9_within knX9_within kdX9_within ⟨Nat.le_of_ble_eq_true rfl, Nat.le_of_ble_eq_true rfl⟩ hl.1 (Nat.le_of_ble_eq_true rfl) (room_of hW (pext e1) ((pext hf).tr hX)) dX9_root_4 rfl) (fun H locs c1 s1 hW => ?_)
  refine lv_if_eq (tgt := 21) hx hb dX9_root_7 (by decide) (fun c2 => ?_) (fun c2 => ?_)
  · rw [if_pos c2] at hf
    refine lv_aload_n hx hb dX9_root_21 rfl (lv_at hl 0 rfl) ?_
    refine lv_bipush (v := -2) hx hb dX9_root_22 (by decide) ?_
    obtain ⟨v3, h3, e3, hf⟩ := pb_some hf
    obtain ⟨_, _, t4⟩ := tgX9_refuse e3
    refine r_calli hW (pext e3) (run_V (b := x0) (As := [.int (-2 : Int32)]) (rest := []) C hW (metX9_refuse l G ρ e3) ⟨rfl, rfl⟩ kcX9_refuse (tq q_343 rfl) kiX9_refuse ksX9_refuse knX9_refuse kdX9_refuse t4 rfl rfl ⟨Nat.le_of_ble_eq_true rfl, Nat.le_of_ble_eq_true rfl⟩ hl.1 (Nat.le_of_ble_eq_true rfl) (room_of hW (pext e3) ((pext hf).tr hX)) dX9_root_24 rfl) (fun H locs c1 s1 hW => ?_)
    obtain ⟨rfl, rfl⟩ := pp_some hf
    exact r_iret C hW dX9_root_27
  · rw [if_neg c2] at hf
    refine lv_iload_n hx hb dX9_root_10 rfl (lv_at hl 2 rfl) ?_
    refine lv_bipush (v := -8) hx hb dX9_root_11 (by decide) ?_
    refine lv_bipush (v := 8) hx hb dX9_root_13 (by decide) ?_
    obtain ⟨v5, h5, e5, hf⟩ := pb_some hf
    refine r_calli hW (pext e5) (run_S (As := [.int x2, .int (-8 : Int32), .int (8 : Int32)]) (rest := []) C hW (metX9_within l G ρ e5) ⟨rfl, rfl⟩ kcX9_within (tq q_329 rfl) kiX9_within knX9_within kdX9_within ⟨Nat.le_of_ble_eq_true rfl, Nat.le_of_ble_eq_true rfl⟩ hl.1 (Nat.le_of_ble_eq_true rfl) (room_of hW (pext e5) ((pext hf).tr hX)) dX9_root_15 rfl) (fun H locs c1 s1 hW => ?_)
    refine lv_if_ne (tgt := 28) hx hb dX9_root_18 (by decide) (fun c6 => ?_) (fun c6 => ?_)
    · rw [if_neg c6] at hf
      refine lv_aload_n hx hb dX9_root_28 rfl (lv_at hl 0 rfl) ?_
      obtain ⟨v7, e7, hf⟩ := pb_rd (rd_gA _ _ _) hf
      refine r_gA C hW e7 flX9_23 rfl dX9_root_29 ?_
      obtain ⟨v8, e8, hf⟩ := pb_rd (rd_gA _ _ _) hf
      refine r_gA C hW e8 flX9_62 rfl dX9_root_32 ?_
      refine lv_iload_n hx hb dX9_root_35 rfl (lv_at hl 1 rfl) ?_
      obtain ⟨v9, h9, e9, hf⟩ := pb_some hf
      obtain ⟨_, _, t10⟩ := tgX3_operatorFor e9
      refine r_calln hW (pext e9) (run_V (b := v8) (As := [.int x1]) (rest := []) C hW (metX3_operatorFor l G ρ e9) ⟨rfl, rfl⟩ kcX3_operatorFor (tq q_393 rfl) kiX3_operatorFor ksX3_operatorFor knX3_operatorFor kdX3_operatorFor t10 rfl rfl ⟨Nat.le_of_ble_eq_true rfl, Nat.le_of_ble_eq_true rfl⟩ hl.1 (Nat.le_of_ble_eq_true rfl) (room_of hW (pext e9) ((pext hf).tr hX)) dX9_root_36 rfl) (fun H locs c1 s1 hW => ?_)
      refine r_astQn (lv' := [(3, va_rf (Option.map ρ v9)), (0, .ref (ρ x0)), (1, .int x1), (2, .int x2)]) hx hb dX9_root_39 rfl hl (by decide) rfl (fun ls hl => ?_)
      refine r_aldQn hx hb dX9_root_40 rfl (lv_at hl 0 rfl) ?_
      rcases v9 with _ | a11
      · have hl : lv_has ls 4 [(3, .null), (0, .ref (ρ x0)), (1, .int x1), (2, .int x2)] := hl
        try dsimp only at hf
        refine lv_ifnonnullN hx hb dX9_root_41 ?_
        refine lv_aload_n hx hb dX9_root_44 rfl (lv_at hl 1 rfl) ?_
        refine lv_bipush (v := -3) hx hb dX9_root_45 (by decide) ?_
        obtain ⟨v12, h12, e12, hf⟩ := pb_some hf
        obtain ⟨_, _, t13⟩ := tgX9_refuse e12
        refine r_calli hW (pext e12) (run_V (b := x0) (As := [.int (-3 : Int32)]) (rest := []) C hW (metX9_refuse l G ρ e12) ⟨rfl, rfl⟩ kcX9_refuse (tq q_343 rfl) kiX9_refuse ksX9_refuse knX9_refuse kdX9_refuse t13 rfl rfl ⟨Nat.le_of_ble_eq_true rfl, Nat.le_of_ble_eq_true rfl⟩ hl.1 (Nat.le_of_ble_eq_true rfl) (room_of hW (pext e12) ((pext hf).tr hX)) dX9_root_47 rfl) (fun H locs c1 s1 hW => ?_)
        obtain ⟨rfl, rfl⟩ := pp_some hf
        exact r_iret C hW dX9_root_50
      · have hl : lv_has ls 4 [(3, .ref (ρ a11)), (0, .ref (ρ x0)), (1, .int x1), (2, .int x2)] := hl
        try dsimp only at hf
        refine lv_ifnonnull (tgt := 51) hx hb dX9_root_41 (by decide) ?_
        refine lv_aload_n hx hb dX9_root_51 rfl (lv_at hl 0 rfl) ?_
        obtain ⟨v14, h14, e14, hf⟩ := pb_some hf
        obtain ⟨_, _, t15⟩ := tgX5_cuspidalCoefficients e14
        refine r_calla hW (pext e14) (run_V (b := a11) (As := []) (rest := []) C hW (metX5_cuspidalCoefficients l G ρ e14) ⟨rfl, rfl⟩ kcX5_cuspidalCoefficients (tq q_466 rfl) kiX5_cuspidalCoefficients ksX5_cuspidalCoefficients knX5_cuspidalCoefficients kdX5_cuspidalCoefficients t15 rfl rfl ⟨Nat.le_of_ble_eq_true rfl, Nat.le_of_ble_eq_true rfl⟩ hl.1 (Nat.le_of_ble_eq_true rfl) (room_of hW (pext e14) ((pext hf).tr hX)) dX9_root_52 rfl) (fun H locs c1 s1 hW => ?_)
        refine lv_iload_n hx hb dX9_root_55 rfl (lv_at hl 3 rfl) ?_
        obtain ⟨v16, h16, e16, hf⟩ := pb_some hf
        refine r_calli hW (pext e16) (run_S (As := [.ref (ρ v14), .int x2]) (rest := []) C hW (metX4_multiplicity l G ρ e16) ⟨rfl, rfl⟩ kcX4_multiplicity (tq q_474 rfl) kiX4_multiplicity knX4_multiplicity kdX4_multiplicity ⟨Nat.le_of_ble_eq_true rfl, Nat.le_of_ble_eq_true rfl⟩ hl.1 (Nat.le_of_ble_eq_true rfl) (room_of hW (pext e16) ((pext hf).tr hX)) dX9_root_56 rfl) (fun H locs c1 s1 hW => ?_)
        obtain ⟨rfl, rfl⟩ := pp_some hf
        exact r_iret C hW dX9_root_59
    · rw [if_pos c6] at hf
      refine lv_aload_n hx hb dX9_root_21 rfl (lv_at hl 0 rfl) ?_
      refine lv_bipush (v := -2) hx hb dX9_root_22 (by decide) ?_
      obtain ⟨v17, h17, e17, hf⟩ := pb_some hf
      obtain ⟨_, _, t18⟩ := tgX9_refuse e17
      refine r_calli hW (pext e17) (run_V (b := x0) (As := [.int (-2 : Int32)]) (rest := []) C hW (metX9_refuse l G ρ e17) ⟨rfl, rfl⟩ kcX9_refuse (tq q_343 rfl) kiX9_refuse ksX9_refuse knX9_refuse kdX9_refuse t18 rfl rfl ⟨Nat.le_of_ble_eq_true rfl, Nat.le_of_ble_eq_true rfl⟩ hl.1 (Nat.le_of_ble_eq_true rfl) (room_of hW (pext e17) ((pext hf).tr hX)) dX9_root_24 rfl) (fun H locs c1 s1 hW => ?_)
      obtain ⟨rfl, rfl⟩ := pp_some hf
      exact r_iret C hW dX9_root_27

theorem dX1_divisors_0 : decode cX1_divisors 0 = .ok (.iconst 0, 1) := by decide +kernel
theorem dX1_divisors_1 : decode cX1_divisors 1 = .ok (.istore_n 1, 1) := by decide +kernel
theorem dX1_divisors_2 : decode cX1_divisors 2 = .ok (.iconst 1, 1) := by decide +kernel
theorem dX1_divisors_3 : decode cX1_divisors 3 = .ok (.istore_n 2, 1) := by decide +kernel
theorem dX1_divisors_4 : decode cX1_divisors 4 = .ok (.iload_n 2, 1) := by decide +kernel
theorem dX1_divisors_5 : decode cX1_divisors 5 = .ok (.iload_n 0, 1) := by decide +kernel
theorem dX1_divisors_6 : decode cX1_divisors 6 = .ok (.if_icmp .gt 18, 3) := by decide +kernel
theorem dX1_divisors_9 : decode cX1_divisors 9 = .ok (.iload_n 0, 1) := by decide +kernel
theorem dX1_divisors_10 : decode cX1_divisors 10 = .ok (.iload_n 2, 1) := by decide +kernel
theorem dX1_divisors_11 : decode cX1_divisors 11 = .ok (.irem, 1) := by decide +kernel
theorem dX1_divisors_12 : decode cX1_divisors 12 = .ok (.ifCond .ne 6, 3) := by decide +kernel
theorem dX1_divisors_15 : decode cX1_divisors 15 = .ok (.iinc 1 1, 3) := by decide +kernel
theorem dX1_divisors_18 : decode cX1_divisors 18 = .ok (.iinc 2 1, 3) := by decide +kernel
theorem dX1_divisors_21 : decode cX1_divisors 21 = .ok (.goto (-17), 3) := by decide +kernel
theorem dX1_divisors_24 : decode cX1_divisors 24 = .ok (.iload_n 1, 1) := by decide +kernel
theorem dX1_divisors_25 : decode cX1_divisors 25 = .ok (.ireturn, 1) := by decide +kernel
theorem kcX1_divisors : Cond.code yX1_divisors cX1_divisors 3 (some .int) ∈ tb := tq q_503 rfl
theorem knX1_divisors : Cond.initialized yX1_divisors.cls ∈ tb := (tq q_9 rfl)
theorem kdX1_divisors : yX1_divisors.cls ≠ "java/lang/invoke/MethodHandle" ∧ yX1_divisors.cls ≠ "java/lang/invoke/VarHandle" ∧ (parseMethodDescriptor yX1_divisors.desc).map (fun d => d.parameters.length) = some 1 := ⟨by decide +kernel, by decide +kernel, by decide +kernel⟩
theorem kiX1_divisors : Cond.static yX1_divisors ∈ tb := (tq q_502 rfl)
set_option maxHeartbeats 4000000 in
set_option maxRecDepth 100000 in
theorem wX1_divisors_B4 {p : Program} {l : Launch} {e : Env} {s : State} {m : MethodId} {args : Array Value} {below : List Frame} {meth : Method} {c : Code} {G : GG} {ρ : Nat → Nat} {h0 hE hB : PH} {Q : State → Prop} {x0 : Int32} (C : Cx G "PairSymbols$Formulas" cX1_divisors 3 (some .int) "divisors" p s m args meth c) {x1 : Int32} {x2 : Int32} {h : PH} {H : Heap} {locs : List Loc} {cells slots : Nat} {ls : Array Slot} {r : (Int32 × Int32) ⊕ (Int32)} (hf : (fX1_divisors_b4 x0 x1 x2).1 h = some (r, hB)) (hX : Ext hB hE) (hW : Wd G ρ h0.length (sl h0) s.heap h H locs cells slots) (hl : lv_has ls 3 [(0, .int x0), (1, .int x1), (2, .int x2)]) (kc : ∀ y : Int32 × Int32, r = .inl y → ∀ (H : Heap) (locs : List Loc) (c1 s1 : Nat) (ls : Array Slot), Wd G ρ h0.length (sl h0) s.heap hB H locs c1 s1 → lv_has ls 3 [(0, .int x0), (1, .int y.1), (2, .int y.2)] → W p l e (RM 0 0 h0 hE) s m args below meth c H locs c1 s1 Q (F0 m 4 ls [])) (ke : ∀ z : Int32, r = .inr z → ∀ (H : Heap) (locs : List Loc) (c1 s1 : Nat) (ls : Array Slot), Wd G ρ h0.length (sl h0) s.heap hB H locs c1 s1 → lv_has ls 3 [(1, .int z)] → W p l e (RM 0 0 h0 hE) s m args below meth c H locs c1 s1 Q (F0 m 24 ls [])) : W p l e (RM 0 0 h0 hE) s m args below meth c H locs cells slots Q (F0 m 4 ls []) := by
  have hx := C.1
  have hb := C.2.1
  unfold fX1_divisors_b4 at hf
  refine lv_iload_n hx hb dX1_divisors_4 rfl (lv_at hl 2 rfl) ?_
  refine lv_iload_n hx hb dX1_divisors_5 rfl (lv_at hl 0 rfl) ?_
  refine lv_icmp_gt (tgt := 24) hx hb dX1_divisors_6 (by decide) (fun c1 => ?_) (fun c1 => ?_)
  · rw [if_pos c1] at hf
    obtain ⟨rfl, rfl⟩ := pp_some hf
    exact ke _ rfl _ _ _ _ _ hW (lv_sub hl [1] rfl)
  · rw [if_neg c1] at hf
    refine lv_iload_n hx hb dX1_divisors_9 rfl (lv_at hl 0 rfl) ?_
    refine lv_iload_n hx hb dX1_divisors_10 rfl (lv_at hl 2 rfl) ?_
    by_cases c2 : x2 = 0
    · rw [if_pos c2] at hf
      exact (pf_no hf).elim
    rw [if_neg c2] at hf
    refine lv_irem hx hb dX1_divisors_11 c2 ?_
    refine lv_if_ne (tgt := 18) hx hb dX1_divisors_12 (by decide) (fun c3 => ?_) (fun c3 => ?_)
    · rw [if_neg c3] at hf
      refine lv_iinc (v := (x2 + 1)) (lv' := [(2, .int (x2 + 1)), (0, .int x0), (1, .int x1)]) hx hb dX1_divisors_18 hl (k := 2) rfl rfl (by decide) rfl (fun ls hl => ?_)
      refine lv_goto (tgt := 4) hx hb dX1_divisors_21 (by decide) ?_
      obtain ⟨rfl, rfl⟩ := pp_some hf
      exact kc _ rfl _ _ _ _ _ hW (lv_sub hl [1, 2, 0] rfl)
    · rw [if_pos c3] at hf
      refine lv_iinc (v := (x1 + 1)) (lv' := [(1, .int (x1 + 1)), (0, .int x0), (2, .int x2)]) hx hb dX1_divisors_15 hl (k := 1) rfl rfl (by decide) rfl (fun ls hl => ?_)
      refine lv_iinc (v := (x2 + 1)) (lv' := [(2, .int (x2 + 1)), (1, .int (x1 + 1)), (0, .int x0)]) hx hb dX1_divisors_18 hl (k := 2) rfl rfl (by decide) rfl (fun ls hl => ?_)
      refine lv_goto (tgt := 4) hx hb dX1_divisors_21 (by decide) ?_
      obtain ⟨rfl, rfl⟩ := pp_some hf
      exact kc _ rfl _ _ _ _ _ hW (lv_sub hl [2, 1, 0] rfl)
set_option maxHeartbeats 4000000 in
theorem wX1_divisors_L4 {p : Program} {l : Launch} {e : Env} {s : State} {m : MethodId} {args : Array Value} {below : List Frame} {meth : Method} {c : Code} {G : GG} {ρ : Nat → Nat} {h0 hE hB : PH} {Q : State → Prop} {x0 : Int32} (C : Cx G "PairSymbols$Formulas" cX1_divisors 3 (some .int) "divisors" p s m args meth c) {z : (Int32)} (n : Nat) : ∀ (x : Int32 × Int32) {h : PH} {H : Heap} {locs : List Loc} {cells slots : Nat} {ls : Array Slot}, (plo (fX1_divisors_B4 x0) n x).1 h = some (z, hB) → Ext hB hE → Wd G ρ h0.length (sl h0) s.heap h H locs cells slots → lv_has ls 3 [(0, .int x0), (1, .int x.1), (2, .int x.2)] → (ke : ∀ (H : Heap) (locs : List Loc) (c1 s1 : Nat) (ls : Array Slot), Wd G ρ h0.length (sl h0) s.heap hB H locs c1 s1 → lv_has ls 3 [(1, .int z)] → W p l e (RM 0 0 h0 hE) s m args below meth c H locs c1 s1 Q (F0 m 24 ls [])) → W p l e (RM 0 0 h0 hE) s m args below meth c H locs cells slots Q (F0 m 4 ls []) := by
  induction n with
  | zero =>
    intro x h H locs cells slots ls hf
    rw [plo_0] at hf
    exact (pf_no hf).elim
  | succ n ih =>
    intro x h H locs cells slots ls hf hX hW hl ke
    rw [plo_s] at hf
    obtain ⟨r, h1, e1, hf⟩ := pb_some hf
    unfold fX1_divisors_B4 at e1
    rw [frI_eq, frI_eq] at e1
    refine wX1_divisors_B4 C e1 ((pext hf).tr hX) hW hl (fun y hr H locs c1 s1 ls hW hl => ?_) (fun y hr H locs c1 s1 ls hW hl => ?_)
    · subst hr
      exact ih y hf hX hW hl ke
    · subst hr
      obtain ⟨rfl, rfl⟩ := pp_some hf
      exact ke H locs c1 s1 ls hW hl
set_option maxHeartbeats 4000000 in
set_option maxRecDepth 100000 in
theorem metX1_divisors (l : Launch) (G : GG) (ρ : Nat → Nat) {z : Nat} {x0 : Int32} {h hE : PH} {v : Int32} (hf : (fX1_divisors x0).1 h = some (v, hE)) : Met l yX1_divisors (wsY yX1_divisors cX1_divisors 3 (some .int)) (RM 0 0 h hE) (va_Pc [.int x0] (PcB G ρ h z)) (QI G ρ v hE h.length z) (DC h hE) (DS h hE) (Af ρ h.length z) := by
  refine met_start (by decide) (Nat.le_of_ble_eq_true rfl) ?_
  intro p e s m below meth c ls hz C hW hl
  subst hz
  have C : Cx G "PairSymbols$Formulas" cX1_divisors 3 (some .int) "divisors" p s m _ meth c := C
  have hx := C.1
  have hb := C.2.1
  have hX : Ext hE hE := Ext.rf hE
  have hl : lv_has ls 3 [(0, .int x0)] := hl
  have hW : Wd G ρ h.length (sl h) s.heap h s.heap [] 0 0 := hW
  unfold fX1_divisors at hf
  refine lv_iconst (v := 0) hx hb dX1_divisors_0 (by decide) ?_
  refine lv_istore_n (lv' := [(1, .int (0 : Int32)), (0, .int x0)]) hx hb dX1_divisors_1 rfl hl (by decide) rfl (fun ls hl => ?_)
  refine lv_iconst (v := 1) hx hb dX1_divisors_2 (by decide) ?_
  refine lv_istore_n (lv' := [(2, .int (1 : Int32)), (1, .int (0 : Int32)), (0, .int x0)]) hx hb dX1_divisors_3 rfl hl (by decide) rfl (fun ls hl => ?_)
  obtain ⟨z4, h4, e4, hf⟩ := pb_some hf
  refine wX1_divisors_L4 C fu _ e4 ((pext hf).tr hX) hW (lv_sub hl [2, 1, 0] rfl) (fun H locs c1 s1 ls hW hl => ?_)
  refine lv_iload_n hx hb dX1_divisors_24 rfl (lv_at hl 0 rfl) ?_
  obtain ⟨rfl, rfl⟩ := pp_some hf
  exact r_iret C hW dX1_divisors_25

theorem dX1_primeDivides_0 : decode cX1_primeDivides 0 = .ok (.iload_n 1, 1) := by decide +kernel
theorem dX1_primeDivides_1 : decode cX1_primeDivides 1 = .ok (.iload_n 0, 1) := by decide +kernel
theorem dX1_primeDivides_2 : decode cX1_primeDivides 2 = .ok (.irem, 1) := by decide +kernel
theorem dX1_primeDivides_3 : decode cX1_primeDivides 3 = .ok (.ifCond .ne 15, 3) := by decide +kernel
theorem dX1_primeDivides_6 : decode cX1_primeDivides 6 = .ok (.iload_n 0, 1) := by decide +kernel
theorem dX1_primeDivides_7 : decode cX1_primeDivides 7 = .ok (.invokestatic 51, 3) := by decide +kernel
theorem dX1_primeDivides_10 : decode cX1_primeDivides 10 = .ok (.iconst 2, 1) := by decide +kernel
theorem dX1_primeDivides_11 : decode cX1_primeDivides 11 = .ok (.if_icmp .ne 7, 3) := by decide +kernel
theorem dX1_primeDivides_14 : decode cX1_primeDivides 14 = .ok (.iconst 1, 1) := by decide +kernel
theorem dX1_primeDivides_15 : decode cX1_primeDivides 15 = .ok (.goto 4, 3) := by decide +kernel
theorem dX1_primeDivides_18 : decode cX1_primeDivides 18 = .ok (.iconst 0, 1) := by decide +kernel
theorem dX1_primeDivides_19 : decode cX1_primeDivides 19 = .ok (.ireturn, 1) := by decide +kernel
theorem kcX1_primeDivides : Cond.code yX1_primeDivides cX1_primeDivides 2 (some .boolean) ∈ tb := tq q_500 rfl
theorem knX1_primeDivides : Cond.initialized yX1_primeDivides.cls ∈ tb := (tq q_9 rfl)
theorem kdX1_primeDivides : yX1_primeDivides.cls ≠ "java/lang/invoke/MethodHandle" ∧ yX1_primeDivides.cls ≠ "java/lang/invoke/VarHandle" ∧ (parseMethodDescriptor yX1_primeDivides.desc).map (fun d => d.parameters.length) = some 2 := ⟨by decide +kernel, by decide +kernel, by decide +kernel⟩
theorem kiX1_primeDivides : Cond.static yX1_primeDivides ∈ tb := (tq q_499 rfl)
set_option maxHeartbeats 4000000 in
set_option maxRecDepth 100000 in
theorem metX1_primeDivides (l : Launch) (G : GG) (ρ : Nat → Nat) {z : Nat} {x0 : Int32} {x1 : Int32} {h hE : PH} {v : Int32} (hf : (fX1_primeDivides x0 x1).1 h = some (v, hE)) : Met l yX1_primeDivides (wsY yX1_primeDivides cX1_primeDivides 2 (some .boolean)) (RM 1 22 h hE) (va_Pc [.int x0, .int x1] (PcB G ρ h z)) (QI G ρ v hE h.length z) (DC h hE) (DS h hE) (Af ρ h.length z) := by
  refine met_start (by decide) (Nat.le_of_ble_eq_true rfl) ?_
  intro p e s m below meth c ls hz C hW hl
  subst hz
  have C : Cx G "PairSymbols$Formulas" cX1_primeDivides 2 (some .boolean) "primeDivides" p s m _ meth c := C
  have hx := C.1
  have hb := C.2.1
  have hX : Ext hE hE := Ext.rf hE
  have hl : lv_has ls 2 [(0, .int x0), (1, .int x1)] := hl
  have hW : Wd G ρ h.length (sl h) s.heap h s.heap [] 0 0 := hW
  unfold fX1_primeDivides at hf
  refine lv_iload_n hx hb dX1_primeDivides_0 rfl (lv_at hl 1 rfl) ?_
  refine lv_iload_n hx hb dX1_primeDivides_1 rfl (lv_at hl 0 rfl) ?_
  by_cases c1 : x0 = 0
  · rw [if_pos c1] at hf
    exact (pf_no hf).elim
  rw [if_neg c1] at hf
  refine lv_irem hx hb dX1_primeDivides_2 c1 ?_
  refine lv_if_ne (tgt := 18) hx hb dX1_primeDivides_3 (by decide) (fun c2 => ?_) (fun c2 => ?_)
  · rw [if_neg c2] at hf
    refine lv_iconst (v := 0) hx hb dX1_primeDivides_18 (by decide) ?_
    obtain ⟨rfl, rfl⟩ := pp_some hf
    exact r_zret C hW rfl dX1_primeDivides_19
  · rw [if_pos c2] at hf
    refine lv_iload_n hx hb dX1_primeDivides_6 rfl (lv_at hl 0 rfl) ?_
    obtain ⟨v3, h3, e3, hf⟩ := pb_some hf
    refine r_calli hW (pext e3) (run_S (As := [.int x0]) (rest := []) C hW (metX1_divisors l G ρ e3) ⟨rfl, rfl⟩ kcX1_divisors (tq q_501 rfl) kiX1_divisors knX1_divisors kdX1_divisors ⟨Nat.le_of_ble_eq_true rfl, Nat.le_of_ble_eq_true rfl⟩ hl.1 (Nat.le_of_ble_eq_true rfl) (room_of hW (pext e3) ((pext hf).tr hX)) dX1_primeDivides_7 rfl) (fun H locs c1 s1 hW => ?_)
    refine lv_iconst (v := 2) hx hb dX1_primeDivides_10 (by decide) ?_
    refine lv_icmp_ne (tgt := 18) hx hb dX1_primeDivides_11 (by decide) (fun c4 => ?_) (fun c4 => ?_)
    · rw [if_neg c4] at hf
      refine lv_iconst (v := 0) hx hb dX1_primeDivides_18 (by decide) ?_
      obtain ⟨rfl, rfl⟩ := pp_some hf
      exact r_zret C hW rfl dX1_primeDivides_19
    · rw [if_pos c4] at hf
      refine lv_iconst (v := 1) hx hb dX1_primeDivides_14 (by decide) ?_
      refine lv_goto (tgt := 19) hx hb dX1_primeDivides_15 (by decide) ?_
      obtain ⟨rfl, rfl⟩ := pp_some hf
      exact r_zret C hW rfl dX1_primeDivides_19

theorem dX1_index_0 : decode cX1_index 0 = .ok (.iload_n 0, 1) := by decide +kernel
theorem dX1_index_1 : decode cX1_index 1 = .ok (.istore_n 1, 1) := by decide +kernel
theorem dX1_index_2 : decode cX1_index 2 = .ok (.iconst 2, 1) := by decide +kernel
theorem dX1_index_3 : decode cX1_index 3 = .ok (.istore_n 2, 1) := by decide +kernel
theorem dX1_index_4 : decode cX1_index 4 = .ok (.iload_n 2, 1) := by decide +kernel
theorem dX1_index_5 : decode cX1_index 5 = .ok (.iload_n 0, 1) := by decide +kernel
theorem dX1_index_6 : decode cX1_index 6 = .ok (.if_icmp .gt 25, 3) := by decide +kernel
theorem dX1_index_9 : decode cX1_index 9 = .ok (.iload_n 2, 1) := by decide +kernel
theorem dX1_index_10 : decode cX1_index 10 = .ok (.iload_n 0, 1) := by decide +kernel
theorem dX1_index_11 : decode cX1_index 11 = .ok (.invokestatic 21, 3) := by decide +kernel
theorem dX1_index_14 : decode cX1_index 14 = .ok (.ifCond .eq 11, 3) := by decide +kernel
theorem dX1_index_17 : decode cX1_index 17 = .ok (.iload_n 1, 1) := by decide +kernel
theorem dX1_index_18 : decode cX1_index 18 = .ok (.iload_n 2, 1) := by decide +kernel
theorem dX1_index_19 : decode cX1_index 19 = .ok (.idiv, 1) := by decide +kernel
theorem dX1_index_20 : decode cX1_index 20 = .ok (.iload_n 2, 1) := by decide +kernel
theorem dX1_index_21 : decode cX1_index 21 = .ok (.iconst 1, 1) := by decide +kernel
theorem dX1_index_22 : decode cX1_index 22 = .ok (.iadd, 1) := by decide +kernel
theorem dX1_index_23 : decode cX1_index 23 = .ok (.imul, 1) := by decide +kernel
theorem dX1_index_24 : decode cX1_index 24 = .ok (.istore_n 1, 1) := by decide +kernel
theorem dX1_index_25 : decode cX1_index 25 = .ok (.iinc 2 1, 3) := by decide +kernel
theorem dX1_index_28 : decode cX1_index 28 = .ok (.goto (-24), 3) := by decide +kernel
theorem dX1_index_31 : decode cX1_index 31 = .ok (.iload_n 1, 1) := by decide +kernel
theorem dX1_index_32 : decode cX1_index 32 = .ok (.ireturn, 1) := by decide +kernel
theorem kcX1_index : Cond.code yX1_index cX1_index 3 (some .int) ∈ tb := tq q_497 rfl
theorem knX1_index : Cond.initialized yX1_index.cls ∈ tb := (tq q_9 rfl)
theorem kdX1_index : yX1_index.cls ≠ "java/lang/invoke/MethodHandle" ∧ yX1_index.cls ≠ "java/lang/invoke/VarHandle" ∧ (parseMethodDescriptor yX1_index.desc).map (fun d => d.parameters.length) = some 1 := ⟨by decide +kernel, by decide +kernel, by decide +kernel⟩
theorem kiX1_index : Cond.static yX1_index ∈ tb := (tq q_496 rfl)
set_option maxHeartbeats 4000000 in
set_option maxRecDepth 100000 in
theorem wX1_index_B4 {p : Program} {l : Launch} {e : Env} {s : State} {m : MethodId} {args : Array Value} {below : List Frame} {meth : Method} {c : Code} {G : GG} {ρ : Nat → Nat} {h0 hE hB : PH} {Q : State → Prop} {x0 : Int32} (C : Cx G "PairSymbols$Formulas" cX1_index 3 (some .int) "index" p s m args meth c) {x1 : Int32} {x2 : Int32} {h : PH} {H : Heap} {locs : List Loc} {cells slots : Nat} {ls : Array Slot} {r : (Int32 × Int32) ⊕ (Int32)} (hf : (fX1_index_b4 x0 x1 x2).1 h = some (r, hB)) (hX : Ext hB hE) (hW : Wd G ρ h0.length (sl h0) s.heap h H locs cells slots) (hl : lv_has ls 3 [(0, .int x0), (1, .int x1), (2, .int x2)]) (kc : ∀ y : Int32 × Int32, r = .inl y → ∀ (H : Heap) (locs : List Loc) (c1 s1 : Nat) (ls : Array Slot), Wd G ρ h0.length (sl h0) s.heap hB H locs c1 s1 → lv_has ls 3 [(0, .int x0), (1, .int y.1), (2, .int y.2)] → W p l e (RM 2 43 h0 hE) s m args below meth c H locs c1 s1 Q (F0 m 4 ls [])) (ke : ∀ z : Int32, r = .inr z → ∀ (H : Heap) (locs : List Loc) (c1 s1 : Nat) (ls : Array Slot), Wd G ρ h0.length (sl h0) s.heap hB H locs c1 s1 → lv_has ls 3 [(1, .int z)] → W p l e (RM 2 43 h0 hE) s m args below meth c H locs c1 s1 Q (F0 m 31 ls [])) : W p l e (RM 2 43 h0 hE) s m args below meth c H locs cells slots Q (F0 m 4 ls []) := by
  have hx := C.1
  have hb := C.2.1
  unfold fX1_index_b4 at hf
  refine lv_iload_n hx hb dX1_index_4 rfl (lv_at hl 2 rfl) ?_
  refine lv_iload_n hx hb dX1_index_5 rfl (lv_at hl 0 rfl) ?_
  refine lv_icmp_gt (tgt := 31) hx hb dX1_index_6 (by decide) (fun c1 => ?_) (fun c1 => ?_)
  · rw [if_pos c1] at hf
    obtain ⟨rfl, rfl⟩ := pp_some hf
    exact ke _ rfl _ _ _ _ _ hW (lv_sub hl [1] rfl)
  · rw [if_neg c1] at hf
    refine lv_iload_n hx hb dX1_index_9 rfl (lv_at hl 2 rfl) ?_
    refine lv_iload_n hx hb dX1_index_10 rfl (lv_at hl 0 rfl) ?_
    obtain ⟨v2, h2, e2, hf⟩ := pb_some hf
    refine r_calli hW (pext e2) (run_S (As := [.int x2, .int x0]) (rest := []) C hW (metX1_primeDivides l G ρ e2) ⟨rfl, rfl⟩ kcX1_primeDivides (tq q_498 rfl) kiX1_primeDivides knX1_primeDivides kdX1_primeDivides ⟨Nat.le_of_ble_eq_true rfl, Nat.le_of_ble_eq_true rfl⟩ hl.1 (Nat.le_of_ble_eq_true rfl) (room_of hW (pext e2) ((pext hf).tr hX)) dX1_index_11 rfl) (fun H locs c1 s1 hW => ?_)
    refine lv_if_eq (tgt := 25) hx hb dX1_index_14 (by decide) (fun c3 => ?_) (fun c3 => ?_)
    · rw [if_pos c3] at hf
      refine lv_iinc (v := (x2 + 1)) (lv' := [(2, .int (x2 + 1)), (0, .int x0), (1, .int x1)]) hx hb dX1_index_25 hl (k := 2) rfl rfl (by decide) rfl (fun ls hl => ?_)
      refine lv_goto (tgt := 4) hx hb dX1_index_28 (by decide) ?_
      obtain ⟨rfl, rfl⟩ := pp_some hf
      exact kc _ rfl _ _ _ _ _ hW (lv_sub hl [1, 2, 0] rfl)
    · rw [if_neg c3] at hf
      refine lv_iload_n hx hb dX1_index_17 rfl (lv_at hl 1 rfl) ?_
      refine lv_iload_n hx hb dX1_index_18 rfl (lv_at hl 2 rfl) ?_
      by_cases c4 : x2 = 0
      · rw [if_pos c4] at hf
        exact (pf_no hf).elim
      rw [if_neg c4] at hf
      refine lv_idiv hx hb dX1_index_19 c4 ?_
      refine lv_iload_n hx hb dX1_index_20 rfl (lv_at hl 2 rfl) ?_
      refine lv_iconst (v := 1) hx hb dX1_index_21 (by decide) ?_
      refine lv_iadd hx hb dX1_index_22 ?_
      refine lv_imul hx hb dX1_index_23 ?_
      refine lv_istore_n (lv' := [(1, .int ((x1 / x2) * (x2 + (1 : Int32)))), (0, .int x0), (2, .int x2)]) hx hb dX1_index_24 rfl hl (by decide) rfl (fun ls hl => ?_)
      refine lv_iinc (v := (x2 + 1)) (lv' := [(2, .int (x2 + 1)), (1, .int ((x1 / x2) * (x2 + (1 : Int32)))), (0, .int x0)]) hx hb dX1_index_25 hl (k := 2) rfl rfl (by decide) rfl (fun ls hl => ?_)
      refine lv_goto (tgt := 4) hx hb dX1_index_28 (by decide) ?_
      obtain ⟨rfl, rfl⟩ := pp_some hf
      exact kc _ rfl _ _ _ _ _ hW (lv_sub hl [2, 1, 0] rfl)
set_option maxHeartbeats 4000000 in
theorem wX1_index_L4 {p : Program} {l : Launch} {e : Env} {s : State} {m : MethodId} {args : Array Value} {below : List Frame} {meth : Method} {c : Code} {G : GG} {ρ : Nat → Nat} {h0 hE hB : PH} {Q : State → Prop} {x0 : Int32} (C : Cx G "PairSymbols$Formulas" cX1_index 3 (some .int) "index" p s m args meth c) {z : (Int32)} (n : Nat) : ∀ (x : Int32 × Int32) {h : PH} {H : Heap} {locs : List Loc} {cells slots : Nat} {ls : Array Slot}, (plo (fX1_index_B4 x0) n x).1 h = some (z, hB) → Ext hB hE → Wd G ρ h0.length (sl h0) s.heap h H locs cells slots → lv_has ls 3 [(0, .int x0), (1, .int x.1), (2, .int x.2)] → (ke : ∀ (H : Heap) (locs : List Loc) (c1 s1 : Nat) (ls : Array Slot), Wd G ρ h0.length (sl h0) s.heap hB H locs c1 s1 → lv_has ls 3 [(1, .int z)] → W p l e (RM 2 43 h0 hE) s m args below meth c H locs c1 s1 Q (F0 m 31 ls [])) → W p l e (RM 2 43 h0 hE) s m args below meth c H locs cells slots Q (F0 m 4 ls []) := by
  induction n with
  | zero =>
    intro x h H locs cells slots ls hf
    rw [plo_0] at hf
    exact (pf_no hf).elim
  | succ n ih =>
    intro x h H locs cells slots ls hf hX hW hl ke
    rw [plo_s] at hf
    obtain ⟨r, h1, e1, hf⟩ := pb_some hf
    unfold fX1_index_B4 at e1
    rw [frI_eq, frI_eq] at e1
    refine wX1_index_B4 C e1 ((pext hf).tr hX) hW hl (fun y hr H locs c1 s1 ls hW hl => ?_) (fun y hr H locs c1 s1 ls hW hl => ?_)
    · subst hr
      exact ih y hf hX hW hl ke
    · subst hr
      obtain ⟨rfl, rfl⟩ := pp_some hf
      exact ke H locs c1 s1 ls hW hl
set_option maxHeartbeats 4000000 in
set_option maxRecDepth 100000 in
theorem metX1_index (l : Launch) (G : GG) (ρ : Nat → Nat) {z : Nat} {x0 : Int32} {h hE : PH} {v : Int32} (hf : (fX1_index x0).1 h = some (v, hE)) : Met l yX1_index (wsY yX1_index cX1_index 3 (some .int)) (RM 2 43 h hE) (va_Pc [.int x0] (PcB G ρ h z)) (QI G ρ v hE h.length z) (DC h hE) (DS h hE) (Af ρ h.length z) := by
  refine met_start (by decide) (Nat.le_of_ble_eq_true rfl) ?_
  intro p e s m below meth c ls hz C hW hl
  subst hz
  have C : Cx G "PairSymbols$Formulas" cX1_index 3 (some .int) "index" p s m _ meth c := C
  have hx := C.1
  have hb := C.2.1
  have hX : Ext hE hE := Ext.rf hE
  have hl : lv_has ls 3 [(0, .int x0)] := hl
  have hW : Wd G ρ h.length (sl h) s.heap h s.heap [] 0 0 := hW
  unfold fX1_index at hf
  refine lv_iload_n hx hb dX1_index_0 rfl (lv_at hl 0 rfl) ?_
  refine lv_istore_n (lv' := [(1, .int x0), (0, .int x0)]) hx hb dX1_index_1 rfl hl (by decide) rfl (fun ls hl => ?_)
  refine lv_iconst (v := 2) hx hb dX1_index_2 (by decide) ?_
  refine lv_istore_n (lv' := [(2, .int (2 : Int32)), (1, .int x0), (0, .int x0)]) hx hb dX1_index_3 rfl hl (by decide) rfl (fun ls hl => ?_)
  obtain ⟨z5, h5, e5, hf⟩ := pb_some hf
  refine wX1_index_L4 C fu _ e5 ((pext hf).tr hX) hW (lv_sub hl [2, 1, 0] rfl) (fun H locs c1 s1 ls hW hl => ?_)
  refine lv_iload_n hx hb dX1_index_31 rfl (lv_at hl 0 rfl) ?_
  obtain ⟨rfl, rfl⟩ := pp_some hf
  exact r_iret C hW dX1_index_32

theorem dX1_orderTwo_0 : decode cX1_orderTwo 0 = .ok (.iload_n 0, 1) := by decide +kernel
theorem dX1_orderTwo_1 : decode cX1_orderTwo 1 = .ok (.iconst 4, 1) := by decide +kernel
theorem dX1_orderTwo_2 : decode cX1_orderTwo 2 = .ok (.irem, 1) := by decide +kernel
theorem dX1_orderTwo_3 : decode cX1_orderTwo 3 = .ok (.ifCond .ne 7, 3) := by decide +kernel
theorem dX1_orderTwo_6 : decode cX1_orderTwo 6 = .ok (.iconst 0, 1) := by decide +kernel
theorem dX1_orderTwo_7 : decode cX1_orderTwo 7 = .ok (.goto 4, 3) := by decide +kernel
theorem dX1_orderTwo_10 : decode cX1_orderTwo 10 = .ok (.iconst 1, 1) := by decide +kernel
theorem dX1_orderTwo_11 : decode cX1_orderTwo 11 = .ok (.istore_n 1, 1) := by decide +kernel
theorem dX1_orderTwo_12 : decode cX1_orderTwo 12 = .ok (.iconst 3, 1) := by decide +kernel
theorem dX1_orderTwo_13 : decode cX1_orderTwo 13 = .ok (.istore_n 2, 1) := by decide +kernel
theorem dX1_orderTwo_14 : decode cX1_orderTwo 14 = .ok (.iload_n 2, 1) := by decide +kernel
theorem dX1_orderTwo_15 : decode cX1_orderTwo 15 = .ok (.iload_n 0, 1) := by decide +kernel
theorem dX1_orderTwo_16 : decode cX1_orderTwo 16 = .ok (.if_icmp .gt 32, 3) := by decide +kernel
theorem dX1_orderTwo_19 : decode cX1_orderTwo 19 = .ok (.iload_n 2, 1) := by decide +kernel
theorem dX1_orderTwo_20 : decode cX1_orderTwo 20 = .ok (.iload_n 0, 1) := by decide +kernel
theorem dX1_orderTwo_21 : decode cX1_orderTwo 21 = .ok (.invokestatic 21, 3) := by decide +kernel
theorem dX1_orderTwo_24 : decode cX1_orderTwo 24 = .ok (.ifCond .eq 18, 3) := by decide +kernel
theorem dX1_orderTwo_27 : decode cX1_orderTwo 27 = .ok (.iload_n 1, 1) := by decide +kernel
theorem dX1_orderTwo_28 : decode cX1_orderTwo 28 = .ok (.iload_n 2, 1) := by decide +kernel
theorem dX1_orderTwo_29 : decode cX1_orderTwo 29 = .ok (.iconst 4, 1) := by decide +kernel
theorem dX1_orderTwo_30 : decode cX1_orderTwo 30 = .ok (.irem, 1) := by decide +kernel
theorem dX1_orderTwo_31 : decode cX1_orderTwo 31 = .ok (.iconst 1, 1) := by decide +kernel
theorem dX1_orderTwo_32 : decode cX1_orderTwo 32 = .ok (.if_icmp .ne 7, 3) := by decide +kernel
theorem dX1_orderTwo_35 : decode cX1_orderTwo 35 = .ok (.iconst 2, 1) := by decide +kernel
theorem dX1_orderTwo_36 : decode cX1_orderTwo 36 = .ok (.goto 4, 3) := by decide +kernel
theorem dX1_orderTwo_39 : decode cX1_orderTwo 39 = .ok (.iconst 0, 1) := by decide +kernel
theorem dX1_orderTwo_40 : decode cX1_orderTwo 40 = .ok (.imul, 1) := by decide +kernel
theorem dX1_orderTwo_41 : decode cX1_orderTwo 41 = .ok (.istore_n 1, 1) := by decide +kernel
theorem dX1_orderTwo_42 : decode cX1_orderTwo 42 = .ok (.iinc 2 1, 3) := by decide +kernel
theorem dX1_orderTwo_45 : decode cX1_orderTwo 45 = .ok (.goto (-31), 3) := by decide +kernel
theorem dX1_orderTwo_48 : decode cX1_orderTwo 48 = .ok (.iload_n 1, 1) := by decide +kernel
theorem dX1_orderTwo_49 : decode cX1_orderTwo 49 = .ok (.ireturn, 1) := by decide +kernel
theorem kcX1_orderTwo : Cond.code yX1_orderTwo cX1_orderTwo 3 (some .int) ∈ tb := tq q_506 rfl
theorem knX1_orderTwo : Cond.initialized yX1_orderTwo.cls ∈ tb := (tq q_9 rfl)
theorem kdX1_orderTwo : yX1_orderTwo.cls ≠ "java/lang/invoke/MethodHandle" ∧ yX1_orderTwo.cls ≠ "java/lang/invoke/VarHandle" ∧ (parseMethodDescriptor yX1_orderTwo.desc).map (fun d => d.parameters.length) = some 1 := ⟨by decide +kernel, by decide +kernel, by decide +kernel⟩
theorem kiX1_orderTwo : Cond.static yX1_orderTwo ∈ tb := (tq q_505 rfl)
set_option maxHeartbeats 4000000 in
set_option maxRecDepth 100000 in
theorem wX1_orderTwo_B14 {p : Program} {l : Launch} {e : Env} {s : State} {m : MethodId} {args : Array Value} {below : List Frame} {meth : Method} {c : Code} {G : GG} {ρ : Nat → Nat} {h0 hE hB : PH} {Q : State → Prop} {x0 : Int32} (C : Cx G "PairSymbols$Formulas" cX1_orderTwo 3 (some .int) "orderTwo" p s m args meth c) {x1 : Int32} {x2 : Int32} {h : PH} {H : Heap} {locs : List Loc} {cells slots : Nat} {ls : Array Slot} {r : (Int32 × Int32) ⊕ (Int32)} (hf : (fX1_orderTwo_b14 x0 x1 x2).1 h = some (r, hB)) (hX : Ext hB hE) (hW : Wd G ρ h0.length (sl h0) s.heap h H locs cells slots) (hl : lv_has ls 3 [(0, .int x0), (1, .int x1), (2, .int x2)]) (kc : ∀ y : Int32 × Int32, r = .inl y → ∀ (H : Heap) (locs : List Loc) (c1 s1 : Nat) (ls : Array Slot), Wd G ρ h0.length (sl h0) s.heap hB H locs c1 s1 → lv_has ls 3 [(0, .int x0), (1, .int y.1), (2, .int y.2)] → W p l e (RM 2 43 h0 hE) s m args below meth c H locs c1 s1 Q (F0 m 14 ls [])) (ke : ∀ z : Int32, r = .inr z → ∀ (H : Heap) (locs : List Loc) (c1 s1 : Nat) (ls : Array Slot), Wd G ρ h0.length (sl h0) s.heap hB H locs c1 s1 → lv_has ls 3 [(1, .int z)] → W p l e (RM 2 43 h0 hE) s m args below meth c H locs c1 s1 Q (F0 m 48 ls [])) : W p l e (RM 2 43 h0 hE) s m args below meth c H locs cells slots Q (F0 m 14 ls []) := by
  have hx := C.1
  have hb := C.2.1
  unfold fX1_orderTwo_b14 at hf
  refine lv_iload_n hx hb dX1_orderTwo_14 rfl (lv_at hl 2 rfl) ?_
  refine lv_iload_n hx hb dX1_orderTwo_15 rfl (lv_at hl 0 rfl) ?_
  refine lv_icmp_gt (tgt := 48) hx hb dX1_orderTwo_16 (by decide) (fun c2 => ?_) (fun c2 => ?_)
  · rw [if_pos c2] at hf
    obtain ⟨rfl, rfl⟩ := pp_some hf
    exact ke _ rfl _ _ _ _ _ hW (lv_sub hl [1] rfl)
  · rw [if_neg c2] at hf
    refine lv_iload_n hx hb dX1_orderTwo_19 rfl (lv_at hl 2 rfl) ?_
    refine lv_iload_n hx hb dX1_orderTwo_20 rfl (lv_at hl 0 rfl) ?_
    obtain ⟨v3, h3, e3, hf⟩ := pb_some hf
    refine r_calli hW (pext e3) (run_S (As := [.int x2, .int x0]) (rest := []) C hW (metX1_primeDivides l G ρ e3) ⟨rfl, rfl⟩ kcX1_primeDivides (tq q_498 rfl) kiX1_primeDivides knX1_primeDivides kdX1_primeDivides ⟨Nat.le_of_ble_eq_true rfl, Nat.le_of_ble_eq_true rfl⟩ hl.1 (Nat.le_of_ble_eq_true rfl) (room_of hW (pext e3) ((pext hf).tr hX)) dX1_orderTwo_21 rfl) (fun H locs c1 s1 hW => ?_)
    refine lv_if_eq (tgt := 42) hx hb dX1_orderTwo_24 (by decide) (fun c4 => ?_) (fun c4 => ?_)
    · rw [if_pos c4] at hf
      refine lv_iinc (v := (x2 + 1)) (lv' := [(2, .int (x2 + 1)), (0, .int x0), (1, .int x1)]) hx hb dX1_orderTwo_42 hl (k := 2) rfl rfl (by decide) rfl (fun ls hl => ?_)
      refine lv_goto (tgt := 14) hx hb dX1_orderTwo_45 (by decide) ?_
      obtain ⟨rfl, rfl⟩ := pp_some hf
      exact kc _ rfl _ _ _ _ _ hW (lv_sub hl [1, 2, 0] rfl)
    · rw [if_neg c4] at hf
      refine lv_iload_n hx hb dX1_orderTwo_27 rfl (lv_at hl 1 rfl) ?_
      refine lv_iload_n hx hb dX1_orderTwo_28 rfl (lv_at hl 2 rfl) ?_
      refine lv_iconst (v := 4) hx hb dX1_orderTwo_29 (by decide) ?_
      refine lv_irem hx hb dX1_orderTwo_30 (by decide) ?_
      refine lv_iconst (v := 1) hx hb dX1_orderTwo_31 (by decide) ?_
      refine lv_icmp_ne (tgt := 39) hx hb dX1_orderTwo_32 (by decide) (fun c5 => ?_) (fun c5 => ?_)
      · rw [if_neg c5] at hf
        refine lv_iconst (v := 0) hx hb dX1_orderTwo_39 (by decide) ?_
        refine lv_imul hx hb dX1_orderTwo_40 ?_
        refine lv_istore_n (lv' := [(1, .int (x1 * (0 : Int32))), (0, .int x0), (2, .int x2)]) hx hb dX1_orderTwo_41 rfl hl (by decide) rfl (fun ls hl => ?_)
        refine lv_iinc (v := (x2 + 1)) (lv' := [(2, .int (x2 + 1)), (1, .int (x1 * (0 : Int32))), (0, .int x0)]) hx hb dX1_orderTwo_42 hl (k := 2) rfl rfl (by decide) rfl (fun ls hl => ?_)
        refine lv_goto (tgt := 14) hx hb dX1_orderTwo_45 (by decide) ?_
        obtain ⟨rfl, rfl⟩ := pp_some hf
        exact kc _ rfl _ _ _ _ _ hW (lv_sub hl [2, 1, 0] rfl)
      · rw [if_pos c5] at hf
        refine lv_iconst (v := 2) hx hb dX1_orderTwo_35 (by decide) ?_
        refine lv_goto (tgt := 40) hx hb dX1_orderTwo_36 (by decide) ?_
        refine lv_imul hx hb dX1_orderTwo_40 ?_
        refine lv_istore_n (lv' := [(1, .int (x1 * (2 : Int32))), (0, .int x0), (2, .int x2)]) hx hb dX1_orderTwo_41 rfl hl (by decide) rfl (fun ls hl => ?_)
        refine lv_iinc (v := (x2 + 1)) (lv' := [(2, .int (x2 + 1)), (1, .int (x1 * (2 : Int32))), (0, .int x0)]) hx hb dX1_orderTwo_42 hl (k := 2) rfl rfl (by decide) rfl (fun ls hl => ?_)
        refine lv_goto (tgt := 14) hx hb dX1_orderTwo_45 (by decide) ?_
        obtain ⟨rfl, rfl⟩ := pp_some hf
        exact kc _ rfl _ _ _ _ _ hW (lv_sub hl [2, 1, 0] rfl)
set_option maxHeartbeats 4000000 in
theorem wX1_orderTwo_L14 {p : Program} {l : Launch} {e : Env} {s : State} {m : MethodId} {args : Array Value} {below : List Frame} {meth : Method} {c : Code} {G : GG} {ρ : Nat → Nat} {h0 hE hB : PH} {Q : State → Prop} {x0 : Int32} (C : Cx G "PairSymbols$Formulas" cX1_orderTwo 3 (some .int) "orderTwo" p s m args meth c) {z : (Int32)} (n : Nat) : ∀ (x : Int32 × Int32) {h : PH} {H : Heap} {locs : List Loc} {cells slots : Nat} {ls : Array Slot}, (plo (fX1_orderTwo_B14 x0) n x).1 h = some (z, hB) → Ext hB hE → Wd G ρ h0.length (sl h0) s.heap h H locs cells slots → lv_has ls 3 [(0, .int x0), (1, .int x.1), (2, .int x.2)] → (ke : ∀ (H : Heap) (locs : List Loc) (c1 s1 : Nat) (ls : Array Slot), Wd G ρ h0.length (sl h0) s.heap hB H locs c1 s1 → lv_has ls 3 [(1, .int z)] → W p l e (RM 2 43 h0 hE) s m args below meth c H locs c1 s1 Q (F0 m 48 ls [])) → W p l e (RM 2 43 h0 hE) s m args below meth c H locs cells slots Q (F0 m 14 ls []) := by
  induction n with
  | zero =>
    intro x h H locs cells slots ls hf
    rw [plo_0] at hf
    exact (pf_no hf).elim
  | succ n ih =>
    intro x h H locs cells slots ls hf hX hW hl ke
    rw [plo_s] at hf
    obtain ⟨r, h1, e1, hf⟩ := pb_some hf
    unfold fX1_orderTwo_B14 at e1
    rw [frI_eq, frI_eq] at e1
    refine wX1_orderTwo_B14 C e1 ((pext hf).tr hX) hW hl (fun y hr H locs c1 s1 ls hW hl => ?_) (fun y hr H locs c1 s1 ls hW hl => ?_)
    · subst hr
      exact ih y hf hX hW hl ke
    · subst hr
      obtain ⟨rfl, rfl⟩ := pp_some hf
      exact ke H locs c1 s1 ls hW hl
set_option maxHeartbeats 4000000 in
set_option maxRecDepth 100000 in
theorem metX1_orderTwo (l : Launch) (G : GG) (ρ : Nat → Nat) {z : Nat} {x0 : Int32} {h hE : PH} {v : Int32} (hf : (fX1_orderTwo x0).1 h = some (v, hE)) : Met l yX1_orderTwo (wsY yX1_orderTwo cX1_orderTwo 3 (some .int)) (RM 2 43 h hE) (va_Pc [.int x0] (PcB G ρ h z)) (QI G ρ v hE h.length z) (DC h hE) (DS h hE) (Af ρ h.length z) := by
  refine met_start (by decide) (Nat.le_of_ble_eq_true rfl) ?_
  intro p e s m below meth c ls hz C hW hl
  subst hz
  have C : Cx G "PairSymbols$Formulas" cX1_orderTwo 3 (some .int) "orderTwo" p s m _ meth c := C
  have hx := C.1
  have hb := C.2.1
  have hX : Ext hE hE := Ext.rf hE
  have hl : lv_has ls 3 [(0, .int x0)] := hl
  have hW : Wd G ρ h.length (sl h) s.heap h s.heap [] 0 0 := hW
  unfold fX1_orderTwo at hf
  refine lv_iload_n hx hb dX1_orderTwo_0 rfl (lv_at hl 0 rfl) ?_
  refine lv_iconst (v := 4) hx hb dX1_orderTwo_1 (by decide) ?_
  refine lv_irem hx hb dX1_orderTwo_2 (by decide) ?_
  refine lv_if_ne (tgt := 10) hx hb dX1_orderTwo_3 (by decide) (fun c1 => ?_) (fun c1 => ?_)
  · rw [if_neg c1] at hf
    refine lv_iconst (v := 1) hx hb dX1_orderTwo_10 (by decide) ?_
    refine lv_istore_n (lv' := [(1, .int (1 : Int32)), (0, .int x0)]) hx hb dX1_orderTwo_11 rfl hl (by decide) rfl (fun ls hl => ?_)
    refine lv_iconst (v := 3) hx hb dX1_orderTwo_12 (by decide) ?_
    refine lv_istore_n (lv' := [(2, .int (3 : Int32)), (1, .int (1 : Int32)), (0, .int x0)]) hx hb dX1_orderTwo_13 rfl hl (by decide) rfl (fun ls hl => ?_)
    obtain ⟨z6, h6, e6, hf⟩ := pb_some hf
    refine wX1_orderTwo_L14 C fu _ e6 ((pext hf).tr hX) hW (lv_sub hl [2, 1, 0] rfl) (fun H locs c1 s1 ls hW hl => ?_)
    refine lv_iload_n hx hb dX1_orderTwo_48 rfl (lv_at hl 0 rfl) ?_
    obtain ⟨rfl, rfl⟩ := pp_some hf
    exact r_iret C hW dX1_orderTwo_49
  · rw [if_pos c1] at hf
    refine lv_iconst (v := 0) hx hb dX1_orderTwo_6 (by decide) ?_
    refine lv_goto (tgt := 11) hx hb dX1_orderTwo_7 (by decide) ?_
    refine lv_istore_n (lv' := [(1, .int (0 : Int32)), (0, .int x0)]) hx hb dX1_orderTwo_11 rfl hl (by decide) rfl (fun ls hl => ?_)
    refine lv_iconst (v := 3) hx hb dX1_orderTwo_12 (by decide) ?_
    refine lv_istore_n (lv' := [(2, .int (3 : Int32)), (1, .int (0 : Int32)), (0, .int x0)]) hx hb dX1_orderTwo_13 rfl hl (by decide) rfl (fun ls hl => ?_)
    obtain ⟨z7, h7, e7, hf⟩ := pb_some hf
    refine wX1_orderTwo_L14 C fu _ e7 ((pext hf).tr hX) hW (lv_sub hl [2, 1, 0] rfl) (fun H locs c1 s1 ls hW hl => ?_)
    refine lv_iload_n hx hb dX1_orderTwo_48 rfl (lv_at hl 0 rfl) ?_
    obtain ⟨rfl, rfl⟩ := pp_some hf
    exact r_iret C hW dX1_orderTwo_49

theorem dX1_orderThree_0 : decode cX1_orderThree 0 = .ok (.iload_n 0, 1) := by decide +kernel
theorem dX1_orderThree_1 : decode cX1_orderThree 1 = .ok (.bipush 9, 2) := by decide +kernel
theorem dX1_orderThree_3 : decode cX1_orderThree 3 = .ok (.irem, 1) := by decide +kernel
theorem dX1_orderThree_4 : decode cX1_orderThree 4 = .ok (.ifCond .ne 7, 3) := by decide +kernel
theorem dX1_orderThree_7 : decode cX1_orderThree 7 = .ok (.iconst 0, 1) := by decide +kernel
theorem dX1_orderThree_8 : decode cX1_orderThree 8 = .ok (.goto 4, 3) := by decide +kernel
theorem dX1_orderThree_11 : decode cX1_orderThree 11 = .ok (.iconst 1, 1) := by decide +kernel
theorem dX1_orderThree_12 : decode cX1_orderThree 12 = .ok (.istore_n 1, 1) := by decide +kernel
theorem dX1_orderThree_13 : decode cX1_orderThree 13 = .ok (.iconst 2, 1) := by decide +kernel
theorem dX1_orderThree_14 : decode cX1_orderThree 14 = .ok (.istore_n 2, 1) := by decide +kernel
theorem dX1_orderThree_15 : decode cX1_orderThree 15 = .ok (.iload_n 2, 1) := by decide +kernel
theorem dX1_orderThree_16 : decode cX1_orderThree 16 = .ok (.iload_n 0, 1) := by decide +kernel
theorem dX1_orderThree_17 : decode cX1_orderThree 17 = .ok (.if_icmp .gt 37, 3) := by decide +kernel
theorem dX1_orderThree_20 : decode cX1_orderThree 20 = .ok (.iload_n 2, 1) := by decide +kernel
theorem dX1_orderThree_21 : decode cX1_orderThree 21 = .ok (.iconst 3, 1) := by decide +kernel
theorem dX1_orderThree_22 : decode cX1_orderThree 22 = .ok (.if_icmp .eq 26, 3) := by decide +kernel
theorem dX1_orderThree_25 : decode cX1_orderThree 25 = .ok (.iload_n 2, 1) := by decide +kernel
theorem dX1_orderThree_26 : decode cX1_orderThree 26 = .ok (.iload_n 0, 1) := by decide +kernel
theorem dX1_orderThree_27 : decode cX1_orderThree 27 = .ok (.invokestatic 21, 3) := by decide +kernel
theorem dX1_orderThree_30 : decode cX1_orderThree 30 = .ok (.ifCond .eq 18, 3) := by decide +kernel
theorem dX1_orderThree_33 : decode cX1_orderThree 33 = .ok (.iload_n 1, 1) := by decide +kernel
theorem dX1_orderThree_34 : decode cX1_orderThree 34 = .ok (.iload_n 2, 1) := by decide +kernel
theorem dX1_orderThree_35 : decode cX1_orderThree 35 = .ok (.iconst 3, 1) := by decide +kernel
theorem dX1_orderThree_36 : decode cX1_orderThree 36 = .ok (.irem, 1) := by decide +kernel
theorem dX1_orderThree_37 : decode cX1_orderThree 37 = .ok (.iconst 1, 1) := by decide +kernel
theorem dX1_orderThree_38 : decode cX1_orderThree 38 = .ok (.if_icmp .ne 7, 3) := by decide +kernel
theorem dX1_orderThree_41 : decode cX1_orderThree 41 = .ok (.iconst 2, 1) := by decide +kernel
theorem dX1_orderThree_42 : decode cX1_orderThree 42 = .ok (.goto 4, 3) := by decide +kernel
theorem dX1_orderThree_45 : decode cX1_orderThree 45 = .ok (.iconst 0, 1) := by decide +kernel
theorem dX1_orderThree_46 : decode cX1_orderThree 46 = .ok (.imul, 1) := by decide +kernel
theorem dX1_orderThree_47 : decode cX1_orderThree 47 = .ok (.istore_n 1, 1) := by decide +kernel
theorem dX1_orderThree_48 : decode cX1_orderThree 48 = .ok (.iinc 2 1, 3) := by decide +kernel
theorem dX1_orderThree_51 : decode cX1_orderThree 51 = .ok (.goto (-36), 3) := by decide +kernel
theorem dX1_orderThree_54 : decode cX1_orderThree 54 = .ok (.iload_n 1, 1) := by decide +kernel
theorem dX1_orderThree_55 : decode cX1_orderThree 55 = .ok (.ireturn, 1) := by decide +kernel
theorem kcX1_orderThree : Cond.code yX1_orderThree cX1_orderThree 3 (some .int) ∈ tb := tq q_509 rfl
theorem knX1_orderThree : Cond.initialized yX1_orderThree.cls ∈ tb := (tq q_9 rfl)
theorem kdX1_orderThree : yX1_orderThree.cls ≠ "java/lang/invoke/MethodHandle" ∧ yX1_orderThree.cls ≠ "java/lang/invoke/VarHandle" ∧ (parseMethodDescriptor yX1_orderThree.desc).map (fun d => d.parameters.length) = some 1 := ⟨by decide +kernel, by decide +kernel, by decide +kernel⟩
theorem kiX1_orderThree : Cond.static yX1_orderThree ∈ tb := (tq q_508 rfl)
set_option maxHeartbeats 4000000 in
set_option maxRecDepth 100000 in
theorem wX1_orderThree_B15 {p : Program} {l : Launch} {e : Env} {s : State} {m : MethodId} {args : Array Value} {below : List Frame} {meth : Method} {c : Code} {G : GG} {ρ : Nat → Nat} {h0 hE hB : PH} {Q : State → Prop} {x0 : Int32} (C : Cx G "PairSymbols$Formulas" cX1_orderThree 3 (some .int) "orderThree" p s m args meth c) {x1 : Int32} {x2 : Int32} {h : PH} {H : Heap} {locs : List Loc} {cells slots : Nat} {ls : Array Slot} {r : (Int32 × Int32) ⊕ (Int32)} (hf : (fX1_orderThree_b15 x0 x1 x2).1 h = some (r, hB)) (hX : Ext hB hE) (hW : Wd G ρ h0.length (sl h0) s.heap h H locs cells slots) (hl : lv_has ls 3 [(0, .int x0), (1, .int x1), (2, .int x2)]) (kc : ∀ y : Int32 × Int32, r = .inl y → ∀ (H : Heap) (locs : List Loc) (c1 s1 : Nat) (ls : Array Slot), Wd G ρ h0.length (sl h0) s.heap hB H locs c1 s1 → lv_has ls 3 [(0, .int x0), (1, .int y.1), (2, .int y.2)] → W p l e (RM 2 43 h0 hE) s m args below meth c H locs c1 s1 Q (F0 m 15 ls [])) (ke : ∀ z : Int32, r = .inr z → ∀ (H : Heap) (locs : List Loc) (c1 s1 : Nat) (ls : Array Slot), Wd G ρ h0.length (sl h0) s.heap hB H locs c1 s1 → lv_has ls 3 [(1, .int z)] → W p l e (RM 2 43 h0 hE) s m args below meth c H locs c1 s1 Q (F0 m 54 ls [])) : W p l e (RM 2 43 h0 hE) s m args below meth c H locs cells slots Q (F0 m 15 ls []) := by
  have hx := C.1
  have hb := C.2.1
  unfold fX1_orderThree_b15 at hf
  refine lv_iload_n hx hb dX1_orderThree_15 rfl (lv_at hl 2 rfl) ?_
  refine lv_iload_n hx hb dX1_orderThree_16 rfl (lv_at hl 0 rfl) ?_
  refine lv_icmp_gt (tgt := 54) hx hb dX1_orderThree_17 (by decide) (fun c2 => ?_) (fun c2 => ?_)
  · rw [if_pos c2] at hf
    obtain ⟨rfl, rfl⟩ := pp_some hf
    exact ke _ rfl _ _ _ _ _ hW (lv_sub hl [1] rfl)
  · rw [if_neg c2] at hf
    refine lv_iload_n hx hb dX1_orderThree_20 rfl (lv_at hl 2 rfl) ?_
    refine lv_iconst (v := 3) hx hb dX1_orderThree_21 (by decide) ?_
    refine lv_icmp_eq (tgt := 48) hx hb dX1_orderThree_22 (by decide) (fun c3 => ?_) (fun c3 => ?_)
    · rw [if_pos c3] at hf
      refine lv_iinc (v := (x2 + 1)) (lv' := [(2, .int (x2 + 1)), (0, .int x0), (1, .int x1)]) hx hb dX1_orderThree_48 hl (k := 2) rfl rfl (by decide) rfl (fun ls hl => ?_)
      refine lv_goto (tgt := 15) hx hb dX1_orderThree_51 (by decide) ?_
      obtain ⟨rfl, rfl⟩ := pp_some hf
      exact kc _ rfl _ _ _ _ _ hW (lv_sub hl [1, 2, 0] rfl)
    · rw [if_neg c3] at hf
      refine lv_iload_n hx hb dX1_orderThree_25 rfl (lv_at hl 2 rfl) ?_
      refine lv_iload_n hx hb dX1_orderThree_26 rfl (lv_at hl 0 rfl) ?_
      obtain ⟨v4, h4, e4, hf⟩ := pb_some hf
      refine r_calli hW (pext e4) (run_S (As := [.int x2, .int x0]) (rest := []) C hW (metX1_primeDivides l G ρ e4) ⟨rfl, rfl⟩ kcX1_primeDivides (tq q_498 rfl) kiX1_primeDivides knX1_primeDivides kdX1_primeDivides ⟨Nat.le_of_ble_eq_true rfl, Nat.le_of_ble_eq_true rfl⟩ hl.1 (Nat.le_of_ble_eq_true rfl) (room_of hW (pext e4) ((pext hf).tr hX)) dX1_orderThree_27 rfl) (fun H locs c1 s1 hW => ?_)
      refine lv_if_eq (tgt := 48) hx hb dX1_orderThree_30 (by decide) (fun c5 => ?_) (fun c5 => ?_)
      · rw [if_pos c5] at hf
        refine lv_iinc (v := (x2 + 1)) (lv' := [(2, .int (x2 + 1)), (0, .int x0), (1, .int x1)]) hx hb dX1_orderThree_48 hl (k := 2) rfl rfl (by decide) rfl (fun ls hl => ?_)
        refine lv_goto (tgt := 15) hx hb dX1_orderThree_51 (by decide) ?_
        obtain ⟨rfl, rfl⟩ := pp_some hf
        exact kc _ rfl _ _ _ _ _ hW (lv_sub hl [1, 2, 0] rfl)
      · rw [if_neg c5] at hf
        refine lv_iload_n hx hb dX1_orderThree_33 rfl (lv_at hl 1 rfl) ?_
        refine lv_iload_n hx hb dX1_orderThree_34 rfl (lv_at hl 2 rfl) ?_
        refine lv_iconst (v := 3) hx hb dX1_orderThree_35 (by decide) ?_
        refine lv_irem hx hb dX1_orderThree_36 (by decide) ?_
        refine lv_iconst (v := 1) hx hb dX1_orderThree_37 (by decide) ?_
        refine lv_icmp_ne (tgt := 45) hx hb dX1_orderThree_38 (by decide) (fun c6 => ?_) (fun c6 => ?_)
        · rw [if_neg c6] at hf
          refine lv_iconst (v := 0) hx hb dX1_orderThree_45 (by decide) ?_
          refine lv_imul hx hb dX1_orderThree_46 ?_
          refine lv_istore_n (lv' := [(1, .int (x1 * (0 : Int32))), (0, .int x0), (2, .int x2)]) hx hb dX1_orderThree_47 rfl hl (by decide) rfl (fun ls hl => ?_)
          refine lv_iinc (v := (x2 + 1)) (lv' := [(2, .int (x2 + 1)), (1, .int (x1 * (0 : Int32))), (0, .int x0)]) hx hb dX1_orderThree_48 hl (k := 2) rfl rfl (by decide) rfl (fun ls hl => ?_)
          refine lv_goto (tgt := 15) hx hb dX1_orderThree_51 (by decide) ?_
          obtain ⟨rfl, rfl⟩ := pp_some hf
          exact kc _ rfl _ _ _ _ _ hW (lv_sub hl [2, 1, 0] rfl)
        · rw [if_pos c6] at hf
          refine lv_iconst (v := 2) hx hb dX1_orderThree_41 (by decide) ?_
          refine lv_goto (tgt := 46) hx hb dX1_orderThree_42 (by decide) ?_
          refine lv_imul hx hb dX1_orderThree_46 ?_
          refine lv_istore_n (lv' := [(1, .int (x1 * (2 : Int32))), (0, .int x0), (2, .int x2)]) hx hb dX1_orderThree_47 rfl hl (by decide) rfl (fun ls hl => ?_)
          refine lv_iinc (v := (x2 + 1)) (lv' := [(2, .int (x2 + 1)), (1, .int (x1 * (2 : Int32))), (0, .int x0)]) hx hb dX1_orderThree_48 hl (k := 2) rfl rfl (by decide) rfl (fun ls hl => ?_)
          refine lv_goto (tgt := 15) hx hb dX1_orderThree_51 (by decide) ?_
          obtain ⟨rfl, rfl⟩ := pp_some hf
          exact kc _ rfl _ _ _ _ _ hW (lv_sub hl [2, 1, 0] rfl)
set_option maxHeartbeats 4000000 in
theorem wX1_orderThree_L15 {p : Program} {l : Launch} {e : Env} {s : State} {m : MethodId} {args : Array Value} {below : List Frame} {meth : Method} {c : Code} {G : GG} {ρ : Nat → Nat} {h0 hE hB : PH} {Q : State → Prop} {x0 : Int32} (C : Cx G "PairSymbols$Formulas" cX1_orderThree 3 (some .int) "orderThree" p s m args meth c) {z : (Int32)} (n : Nat) : ∀ (x : Int32 × Int32) {h : PH} {H : Heap} {locs : List Loc} {cells slots : Nat} {ls : Array Slot}, (plo (fX1_orderThree_B15 x0) n x).1 h = some (z, hB) → Ext hB hE → Wd G ρ h0.length (sl h0) s.heap h H locs cells slots → lv_has ls 3 [(0, .int x0), (1, .int x.1), (2, .int x.2)] → (ke : ∀ (H : Heap) (locs : List Loc) (c1 s1 : Nat) (ls : Array Slot), Wd G ρ h0.length (sl h0) s.heap hB H locs c1 s1 → lv_has ls 3 [(1, .int z)] → W p l e (RM 2 43 h0 hE) s m args below meth c H locs c1 s1 Q (F0 m 54 ls [])) → W p l e (RM 2 43 h0 hE) s m args below meth c H locs cells slots Q (F0 m 15 ls []) := by
  induction n with
  | zero =>
    intro x h H locs cells slots ls hf
    rw [plo_0] at hf
    exact (pf_no hf).elim
  | succ n ih =>
    intro x h H locs cells slots ls hf hX hW hl ke
    rw [plo_s] at hf
    obtain ⟨r, h1, e1, hf⟩ := pb_some hf
    unfold fX1_orderThree_B15 at e1
    rw [frI_eq, frI_eq] at e1
    refine wX1_orderThree_B15 C e1 ((pext hf).tr hX) hW hl (fun y hr H locs c1 s1 ls hW hl => ?_) (fun y hr H locs c1 s1 ls hW hl => ?_)
    · subst hr
      exact ih y hf hX hW hl ke
    · subst hr
      obtain ⟨rfl, rfl⟩ := pp_some hf
      exact ke H locs c1 s1 ls hW hl
set_option maxHeartbeats 4000000 in
set_option maxRecDepth 100000 in
theorem metX1_orderThree (l : Launch) (G : GG) (ρ : Nat → Nat) {z : Nat} {x0 : Int32} {h hE : PH} {v : Int32} (hf : (fX1_orderThree x0).1 h = some (v, hE)) : Met l yX1_orderThree (wsY yX1_orderThree cX1_orderThree 3 (some .int)) (RM 2 43 h hE) (va_Pc [.int x0] (PcB G ρ h z)) (QI G ρ v hE h.length z) (DC h hE) (DS h hE) (Af ρ h.length z) := by
  refine met_start (by decide) (Nat.le_of_ble_eq_true rfl) ?_
  intro p e s m below meth c ls hz C hW hl
  subst hz
  have C : Cx G "PairSymbols$Formulas" cX1_orderThree 3 (some .int) "orderThree" p s m _ meth c := C
  have hx := C.1
  have hb := C.2.1
  have hX : Ext hE hE := Ext.rf hE
  have hl : lv_has ls 3 [(0, .int x0)] := hl
  have hW : Wd G ρ h.length (sl h) s.heap h s.heap [] 0 0 := hW
  unfold fX1_orderThree at hf
  refine lv_iload_n hx hb dX1_orderThree_0 rfl (lv_at hl 0 rfl) ?_
  refine lv_bipush (v := 9) hx hb dX1_orderThree_1 (by decide) ?_
  refine lv_irem hx hb dX1_orderThree_3 (by decide) ?_
  refine lv_if_ne (tgt := 11) hx hb dX1_orderThree_4 (by decide) (fun c1 => ?_) (fun c1 => ?_)
  · rw [if_neg c1] at hf
    refine lv_iconst (v := 1) hx hb dX1_orderThree_11 (by decide) ?_
    refine lv_istore_n (lv' := [(1, .int (1 : Int32)), (0, .int x0)]) hx hb dX1_orderThree_12 rfl hl (by decide) rfl (fun ls hl => ?_)
    refine lv_iconst (v := 2) hx hb dX1_orderThree_13 (by decide) ?_
    refine lv_istore_n (lv' := [(2, .int (2 : Int32)), (1, .int (1 : Int32)), (0, .int x0)]) hx hb dX1_orderThree_14 rfl hl (by decide) rfl (fun ls hl => ?_)
    obtain ⟨z7, h7, e7, hf⟩ := pb_some hf
    refine wX1_orderThree_L15 C fu _ e7 ((pext hf).tr hX) hW (lv_sub hl [2, 1, 0] rfl) (fun H locs c1 s1 ls hW hl => ?_)
    refine lv_iload_n hx hb dX1_orderThree_54 rfl (lv_at hl 0 rfl) ?_
    obtain ⟨rfl, rfl⟩ := pp_some hf
    exact r_iret C hW dX1_orderThree_55
  · rw [if_pos c1] at hf
    refine lv_iconst (v := 0) hx hb dX1_orderThree_7 (by decide) ?_
    refine lv_goto (tgt := 12) hx hb dX1_orderThree_8 (by decide) ?_
    refine lv_istore_n (lv' := [(1, .int (0 : Int32)), (0, .int x0)]) hx hb dX1_orderThree_12 rfl hl (by decide) rfl (fun ls hl => ?_)
    refine lv_iconst (v := 2) hx hb dX1_orderThree_13 (by decide) ?_
    refine lv_istore_n (lv' := [(2, .int (2 : Int32)), (1, .int (0 : Int32)), (0, .int x0)]) hx hb dX1_orderThree_14 rfl hl (by decide) rfl (fun ls hl => ?_)
    obtain ⟨z8, h8, e8, hf⟩ := pb_some hf
    refine wX1_orderThree_L15 C fu _ e8 ((pext hf).tr hX) hW (lv_sub hl [2, 1, 0] rfl) (fun H locs c1 s1 ls hW hl => ?_)
    refine lv_iload_n hx hb dX1_orderThree_54 rfl (lv_at hl 0 rfl) ?_
    obtain ⟨rfl, rfl⟩ := pp_some hf
    exact r_iret C hW dX1_orderThree_55

theorem dX1_coprimes_0 : decode cX1_coprimes 0 = .ok (.iconst 0, 1) := by decide +kernel
theorem dX1_coprimes_1 : decode cX1_coprimes 1 = .ok (.istore_n 1, 1) := by decide +kernel
theorem dX1_coprimes_2 : decode cX1_coprimes 2 = .ok (.iconst 1, 1) := by decide +kernel
theorem dX1_coprimes_3 : decode cX1_coprimes 3 = .ok (.istore_n 2, 1) := by decide +kernel
theorem dX1_coprimes_4 : decode cX1_coprimes 4 = .ok (.iload_n 2, 1) := by decide +kernel
theorem dX1_coprimes_5 : decode cX1_coprimes 5 = .ok (.iload_n 0, 1) := by decide +kernel
theorem dX1_coprimes_6 : decode cX1_coprimes 6 = .ok (.if_icmp .gt 21, 3) := by decide +kernel
theorem dX1_coprimes_9 : decode cX1_coprimes 9 = .ok (.iload_n 2, 1) := by decide +kernel
theorem dX1_coprimes_10 : decode cX1_coprimes 10 = .ok (.iload_n 0, 1) := by decide +kernel
theorem dX1_coprimes_11 : decode cX1_coprimes 11 = .ok (.invokestatic 25, 3) := by decide +kernel
theorem dX1_coprimes_14 : decode cX1_coprimes 14 = .ok (.iconst 1, 1) := by decide +kernel
theorem dX1_coprimes_15 : decode cX1_coprimes 15 = .ok (.if_icmp .ne 6, 3) := by decide +kernel
theorem dX1_coprimes_18 : decode cX1_coprimes 18 = .ok (.iinc 1 1, 3) := by decide +kernel
theorem dX1_coprimes_21 : decode cX1_coprimes 21 = .ok (.iinc 2 1, 3) := by decide +kernel
theorem dX1_coprimes_24 : decode cX1_coprimes 24 = .ok (.goto (-20), 3) := by decide +kernel
theorem dX1_coprimes_27 : decode cX1_coprimes 27 = .ok (.iload_n 1, 1) := by decide +kernel
theorem dX1_coprimes_28 : decode cX1_coprimes 28 = .ok (.ireturn, 1) := by decide +kernel
theorem kcX1_coprimes : Cond.code yX1_coprimes cX1_coprimes 3 (some .int) ∈ tb := tq q_516 rfl
theorem knX1_coprimes : Cond.initialized yX1_coprimes.cls ∈ tb := (tq q_9 rfl)
theorem kdX1_coprimes : yX1_coprimes.cls ≠ "java/lang/invoke/MethodHandle" ∧ yX1_coprimes.cls ≠ "java/lang/invoke/VarHandle" ∧ (parseMethodDescriptor yX1_coprimes.desc).map (fun d => d.parameters.length) = some 1 := ⟨by decide +kernel, by decide +kernel, by decide +kernel⟩
theorem kiX1_coprimes : Cond.static yX1_coprimes ∈ tb := (tq q_515 rfl)
set_option maxHeartbeats 4000000 in
set_option maxRecDepth 100000 in
theorem wX1_coprimes_B4 {p : Program} {l : Launch} {e : Env} {s : State} {m : MethodId} {args : Array Value} {below : List Frame} {meth : Method} {c : Code} {G : GG} {ρ : Nat → Nat} {h0 hE hB : PH} {Q : State → Prop} {x0 : Int32} (C : Cx G "PairSymbols$Formulas" cX1_coprimes 3 (some .int) "coprimes" p s m args meth c) {x1 : Int32} {x2 : Int32} {h : PH} {H : Heap} {locs : List Loc} {cells slots : Nat} {ls : Array Slot} {r : (Int32 × Int32) ⊕ (Int32)} (hf : (fX1_coprimes_b4 x0 x1 x2).1 h = some (r, hB)) (hX : Ext hB hE) (hW : Wd G ρ h0.length (sl h0) s.heap h H locs cells slots) (hl : lv_has ls 3 [(0, .int x0), (1, .int x1), (2, .int x2)]) (kc : ∀ y : Int32 × Int32, r = .inl y → ∀ (H : Heap) (locs : List Loc) (c1 s1 : Nat) (ls : Array Slot), Wd G ρ h0.length (sl h0) s.heap hB H locs c1 s1 → lv_has ls 3 [(0, .int x0), (1, .int y.1), (2, .int y.2)] → W p l e (RM 1 25 h0 hE) s m args below meth c H locs c1 s1 Q (F0 m 4 ls [])) (ke : ∀ z : Int32, r = .inr z → ∀ (H : Heap) (locs : List Loc) (c1 s1 : Nat) (ls : Array Slot), Wd G ρ h0.length (sl h0) s.heap hB H locs c1 s1 → lv_has ls 3 [(1, .int z)] → W p l e (RM 1 25 h0 hE) s m args below meth c H locs c1 s1 Q (F0 m 27 ls [])) : W p l e (RM 1 25 h0 hE) s m args below meth c H locs cells slots Q (F0 m 4 ls []) := by
  have hx := C.1
  have hb := C.2.1
  unfold fX1_coprimes_b4 at hf
  refine lv_iload_n hx hb dX1_coprimes_4 rfl (lv_at hl 2 rfl) ?_
  refine lv_iload_n hx hb dX1_coprimes_5 rfl (lv_at hl 0 rfl) ?_
  refine lv_icmp_gt (tgt := 27) hx hb dX1_coprimes_6 (by decide) (fun c1 => ?_) (fun c1 => ?_)
  · rw [if_pos c1] at hf
    obtain ⟨rfl, rfl⟩ := pp_some hf
    exact ke _ rfl _ _ _ _ _ hW (lv_sub hl [1] rfl)
  · rw [if_neg c1] at hf
    refine lv_iload_n hx hb dX1_coprimes_9 rfl (lv_at hl 2 rfl) ?_
    refine lv_iload_n hx hb dX1_coprimes_10 rfl (lv_at hl 0 rfl) ?_
    obtain ⟨v2, h2, e2, hf⟩ := pb_some hf
    refine r_calli hW (pext e2) (run_SN (As := [.int x2, .int x0]) (rest := []) C hW (metX9_gcd l G ρ e2) ⟨rfl, rfl⟩ kcX9_gcd (tq q_513 rfl) kiX9_gcd knX9_gcd kdX9_gcd ⟨Nat.le_of_ble_eq_true rfl, Nat.le_of_ble_eq_true rfl⟩ hl.1 (Nat.le_of_ble_eq_true rfl) (room_of hW (pext e2) ((pext hf).tr hX)) dX1_coprimes_11 rfl) (fun H locs c1 s1 hW => ?_)
    refine lv_iconst (v := 1) hx hb dX1_coprimes_14 (by decide) ?_
    refine lv_icmp_ne (tgt := 21) hx hb dX1_coprimes_15 (by decide) (fun c3 => ?_) (fun c3 => ?_)
    · rw [if_neg c3] at hf
      refine lv_iinc (v := (x2 + 1)) (lv' := [(2, .int (x2 + 1)), (0, .int x0), (1, .int x1)]) hx hb dX1_coprimes_21 hl (k := 2) rfl rfl (by decide) rfl (fun ls hl => ?_)
      refine lv_goto (tgt := 4) hx hb dX1_coprimes_24 (by decide) ?_
      obtain ⟨rfl, rfl⟩ := pp_some hf
      exact kc _ rfl _ _ _ _ _ hW (lv_sub hl [1, 2, 0] rfl)
    · rw [if_pos c3] at hf
      refine lv_iinc (v := (x1 + 1)) (lv' := [(1, .int (x1 + 1)), (0, .int x0), (2, .int x2)]) hx hb dX1_coprimes_18 hl (k := 1) rfl rfl (by decide) rfl (fun ls hl => ?_)
      refine lv_iinc (v := (x2 + 1)) (lv' := [(2, .int (x2 + 1)), (1, .int (x1 + 1)), (0, .int x0)]) hx hb dX1_coprimes_21 hl (k := 2) rfl rfl (by decide) rfl (fun ls hl => ?_)
      refine lv_goto (tgt := 4) hx hb dX1_coprimes_24 (by decide) ?_
      obtain ⟨rfl, rfl⟩ := pp_some hf
      exact kc _ rfl _ _ _ _ _ hW (lv_sub hl [2, 1, 0] rfl)
set_option maxHeartbeats 4000000 in
theorem wX1_coprimes_L4 {p : Program} {l : Launch} {e : Env} {s : State} {m : MethodId} {args : Array Value} {below : List Frame} {meth : Method} {c : Code} {G : GG} {ρ : Nat → Nat} {h0 hE hB : PH} {Q : State → Prop} {x0 : Int32} (C : Cx G "PairSymbols$Formulas" cX1_coprimes 3 (some .int) "coprimes" p s m args meth c) {z : (Int32)} (n : Nat) : ∀ (x : Int32 × Int32) {h : PH} {H : Heap} {locs : List Loc} {cells slots : Nat} {ls : Array Slot}, (plo (fX1_coprimes_B4 x0) n x).1 h = some (z, hB) → Ext hB hE → Wd G ρ h0.length (sl h0) s.heap h H locs cells slots → lv_has ls 3 [(0, .int x0), (1, .int x.1), (2, .int x.2)] → (ke : ∀ (H : Heap) (locs : List Loc) (c1 s1 : Nat) (ls : Array Slot), Wd G ρ h0.length (sl h0) s.heap hB H locs c1 s1 → lv_has ls 3 [(1, .int z)] → W p l e (RM 1 25 h0 hE) s m args below meth c H locs c1 s1 Q (F0 m 27 ls [])) → W p l e (RM 1 25 h0 hE) s m args below meth c H locs cells slots Q (F0 m 4 ls []) := by
  induction n with
  | zero =>
    intro x h H locs cells slots ls hf
    rw [plo_0] at hf
    exact (pf_no hf).elim
  | succ n ih =>
    intro x h H locs cells slots ls hf hX hW hl ke
    rw [plo_s] at hf
    obtain ⟨r, h1, e1, hf⟩ := pb_some hf
    unfold fX1_coprimes_B4 at e1
    rw [frI_eq, frI_eq] at e1
    refine wX1_coprimes_B4 C e1 ((pext hf).tr hX) hW hl (fun y hr H locs c1 s1 ls hW hl => ?_) (fun y hr H locs c1 s1 ls hW hl => ?_)
    · subst hr
      exact ih y hf hX hW hl ke
    · subst hr
      obtain ⟨rfl, rfl⟩ := pp_some hf
      exact ke H locs c1 s1 ls hW hl
set_option maxHeartbeats 4000000 in
set_option maxRecDepth 100000 in
theorem metX1_coprimes (l : Launch) (G : GG) (ρ : Nat → Nat) {z : Nat} {x0 : Int32} {h hE : PH} {v : Int32} (hf : (fX1_coprimes x0).1 h = some (v, hE)) : Met l yX1_coprimes (wsY yX1_coprimes cX1_coprimes 3 (some .int)) (RM 1 25 h hE) (va_Pc [.int x0] (PcB G ρ h z)) (QI G ρ v hE h.length z) (DC h hE) (DS h hE) (Af ρ h.length z) := by
  refine met_start (by decide) (Nat.le_of_ble_eq_true rfl) ?_
  intro p e s m below meth c ls hz C hW hl
  subst hz
  have C : Cx G "PairSymbols$Formulas" cX1_coprimes 3 (some .int) "coprimes" p s m _ meth c := C
  have hx := C.1
  have hb := C.2.1
  have hX : Ext hE hE := Ext.rf hE
  have hl : lv_has ls 3 [(0, .int x0)] := hl
  have hW : Wd G ρ h.length (sl h) s.heap h s.heap [] 0 0 := hW
  unfold fX1_coprimes at hf
  refine lv_iconst (v := 0) hx hb dX1_coprimes_0 (by decide) ?_
  refine lv_istore_n (lv' := [(1, .int (0 : Int32)), (0, .int x0)]) hx hb dX1_coprimes_1 rfl hl (by decide) rfl (fun ls hl => ?_)
  refine lv_iconst (v := 1) hx hb dX1_coprimes_2 (by decide) ?_
  refine lv_istore_n (lv' := [(2, .int (1 : Int32)), (1, .int (0 : Int32)), (0, .int x0)]) hx hb dX1_coprimes_3 rfl hl (by decide) rfl (fun ls hl => ?_)
  obtain ⟨z4, h4, e4, hf⟩ := pb_some hf
  refine wX1_coprimes_L4 C fu _ e4 ((pext hf).tr hX) hW (lv_sub hl [2, 1, 0] rfl) (fun H locs c1 s1 ls hW hl => ?_)
  refine lv_iload_n hx hb dX1_coprimes_27 rfl (lv_at hl 0 rfl) ?_
  obtain ⟨rfl, rfl⟩ := pp_some hf
  exact r_iret C hW dX1_coprimes_28

theorem dX1_ends_0 : decode cX1_ends 0 = .ok (.iconst 0, 1) := by decide +kernel
theorem dX1_ends_1 : decode cX1_ends 1 = .ok (.istore_n 1, 1) := by decide +kernel
theorem dX1_ends_2 : decode cX1_ends 2 = .ok (.iconst 1, 1) := by decide +kernel
theorem dX1_ends_3 : decode cX1_ends 3 = .ok (.istore_n 2, 1) := by decide +kernel
theorem dX1_ends_4 : decode cX1_ends 4 = .ok (.iload_n 2, 1) := by decide +kernel
theorem dX1_ends_5 : decode cX1_ends 5 = .ok (.iload_n 0, 1) := by decide +kernel
theorem dX1_ends_6 : decode cX1_ends 6 = .ok (.if_icmp .gt 28, 3) := by decide +kernel
theorem dX1_ends_9 : decode cX1_ends 9 = .ok (.iload_n 0, 1) := by decide +kernel
theorem dX1_ends_10 : decode cX1_ends 10 = .ok (.iload_n 2, 1) := by decide +kernel
theorem dX1_ends_11 : decode cX1_ends 11 = .ok (.irem, 1) := by decide +kernel
theorem dX1_ends_12 : decode cX1_ends 12 = .ok (.ifCond .ne 16, 3) := by decide +kernel
theorem dX1_ends_15 : decode cX1_ends 15 = .ok (.iload_n 1, 1) := by decide +kernel
theorem dX1_ends_16 : decode cX1_ends 16 = .ok (.iload_n 2, 1) := by decide +kernel
theorem dX1_ends_17 : decode cX1_ends 17 = .ok (.iload_n 0, 1) := by decide +kernel
theorem dX1_ends_18 : decode cX1_ends 18 = .ok (.iload_n 2, 1) := by decide +kernel
theorem dX1_ends_19 : decode cX1_ends 19 = .ok (.idiv, 1) := by decide +kernel
theorem dX1_ends_20 : decode cX1_ends 20 = .ok (.invokestatic 25, 3) := by decide +kernel
theorem dX1_ends_23 : decode cX1_ends 23 = .ok (.invokestatic 29, 3) := by decide +kernel
theorem dX1_ends_26 : decode cX1_ends 26 = .ok (.iadd, 1) := by decide +kernel
theorem dX1_ends_27 : decode cX1_ends 27 = .ok (.istore_n 1, 1) := by decide +kernel
theorem dX1_ends_28 : decode cX1_ends 28 = .ok (.iinc 2 1, 3) := by decide +kernel
theorem dX1_ends_31 : decode cX1_ends 31 = .ok (.goto (-27), 3) := by decide +kernel
theorem dX1_ends_34 : decode cX1_ends 34 = .ok (.iload_n 1, 1) := by decide +kernel
theorem dX1_ends_35 : decode cX1_ends 35 = .ok (.ireturn, 1) := by decide +kernel
theorem kcX1_ends : Cond.code yX1_ends cX1_ends 3 (some .int) ∈ tb := tq q_512 rfl
theorem knX1_ends : Cond.initialized yX1_ends.cls ∈ tb := (tq q_9 rfl)
theorem kdX1_ends : yX1_ends.cls ≠ "java/lang/invoke/MethodHandle" ∧ yX1_ends.cls ≠ "java/lang/invoke/VarHandle" ∧ (parseMethodDescriptor yX1_ends.desc).map (fun d => d.parameters.length) = some 1 := ⟨by decide +kernel, by decide +kernel, by decide +kernel⟩
theorem kiX1_ends : Cond.static yX1_ends ∈ tb := (tq q_511 rfl)
set_option maxHeartbeats 4000000 in
set_option maxRecDepth 100000 in
theorem wX1_ends_B4 {p : Program} {l : Launch} {e : Env} {s : State} {m : MethodId} {args : Array Value} {below : List Frame} {meth : Method} {c : Code} {G : GG} {ρ : Nat → Nat} {h0 hE hB : PH} {Q : State → Prop} {x0 : Int32} (C : Cx G "PairSymbols$Formulas" cX1_ends 3 (some .int) "ends" p s m args meth c) {x1 : Int32} {x2 : Int32} {h : PH} {H : Heap} {locs : List Loc} {cells slots : Nat} {ls : Array Slot} {r : (Int32 × Int32) ⊕ (Int32)} (hf : (fX1_ends_b4 x0 x1 x2).1 h = some (r, hB)) (hX : Ext hB hE) (hW : Wd G ρ h0.length (sl h0) s.heap h H locs cells slots) (hl : lv_has ls 3 [(0, .int x0), (1, .int x1), (2, .int x2)]) (kc : ∀ y : Int32 × Int32, r = .inl y → ∀ (H : Heap) (locs : List Loc) (c1 s1 : Nat) (ls : Array Slot), Wd G ρ h0.length (sl h0) s.heap hB H locs c1 s1 → lv_has ls 3 [(0, .int x0), (1, .int y.1), (2, .int y.2)] → W p l e (RM 2 47 h0 hE) s m args below meth c H locs c1 s1 Q (F0 m 4 ls [])) (ke : ∀ z : Int32, r = .inr z → ∀ (H : Heap) (locs : List Loc) (c1 s1 : Nat) (ls : Array Slot), Wd G ρ h0.length (sl h0) s.heap hB H locs c1 s1 → lv_has ls 3 [(1, .int z)] → W p l e (RM 2 47 h0 hE) s m args below meth c H locs c1 s1 Q (F0 m 34 ls [])) : W p l e (RM 2 47 h0 hE) s m args below meth c H locs cells slots Q (F0 m 4 ls []) := by
  have hx := C.1
  have hb := C.2.1
  unfold fX1_ends_b4 at hf
  refine lv_iload_n hx hb dX1_ends_4 rfl (lv_at hl 2 rfl) ?_
  refine lv_iload_n hx hb dX1_ends_5 rfl (lv_at hl 0 rfl) ?_
  refine lv_icmp_gt (tgt := 34) hx hb dX1_ends_6 (by decide) (fun c1 => ?_) (fun c1 => ?_)
  · rw [if_pos c1] at hf
    obtain ⟨rfl, rfl⟩ := pp_some hf
    exact ke _ rfl _ _ _ _ _ hW (lv_sub hl [1] rfl)
  · rw [if_neg c1] at hf
    refine lv_iload_n hx hb dX1_ends_9 rfl (lv_at hl 0 rfl) ?_
    refine lv_iload_n hx hb dX1_ends_10 rfl (lv_at hl 2 rfl) ?_
    by_cases c2 : x2 = 0
    · rw [if_pos c2] at hf
      exact (pf_no hf).elim
    rw [if_neg c2] at hf
    refine lv_irem hx hb dX1_ends_11 c2 ?_
    refine lv_if_ne (tgt := 28) hx hb dX1_ends_12 (by decide) (fun c3 => ?_) (fun c3 => ?_)
    · rw [if_neg c3] at hf
      refine lv_iinc (v := (x2 + 1)) (lv' := [(2, .int (x2 + 1)), (0, .int x0), (1, .int x1)]) hx hb dX1_ends_28 hl (k := 2) rfl rfl (by decide) rfl (fun ls hl => ?_)
      refine lv_goto (tgt := 4) hx hb dX1_ends_31 (by decide) ?_
      obtain ⟨rfl, rfl⟩ := pp_some hf
      exact kc _ rfl _ _ _ _ _ hW (lv_sub hl [1, 2, 0] rfl)
    · rw [if_pos c3] at hf
      refine lv_iload_n hx hb dX1_ends_15 rfl (lv_at hl 1 rfl) ?_
      refine lv_iload_n hx hb dX1_ends_16 rfl (lv_at hl 2 rfl) ?_
      refine lv_iload_n hx hb dX1_ends_17 rfl (lv_at hl 0 rfl) ?_
      refine lv_iload_n hx hb dX1_ends_18 rfl (lv_at hl 2 rfl) ?_
      by_cases c4 : x2 = 0
      · rw [if_pos c4] at hf
        exact (pf_no hf).elim
      rw [if_neg c4] at hf
      refine lv_idiv hx hb dX1_ends_19 c4 ?_
      obtain ⟨v5, h5, e5, hf⟩ := pb_some hf
      refine r_calli hW (pext e5) (run_SN (As := [.int x2, .int (x0 / x2)]) (rest := [.int x1]) C hW (metX9_gcd l G ρ e5) ⟨rfl, rfl⟩ kcX9_gcd (tq q_513 rfl) kiX9_gcd knX9_gcd kdX9_gcd ⟨Nat.le_of_ble_eq_true rfl, Nat.le_of_ble_eq_true rfl⟩ hl.1 (Nat.le_of_ble_eq_true rfl) (room_of hW (pext e5) ((pext hf).tr hX)) dX1_ends_20 rfl) (fun H locs c1 s1 hW => ?_)
      obtain ⟨v6, h6, e6, hf⟩ := pb_some hf
      refine r_calli hW (pext e6) (run_S (As := [.int v5]) (rest := [.int x1]) C hW (metX1_coprimes l G ρ e6) ⟨rfl, rfl⟩ kcX1_coprimes (tq q_514 rfl) kiX1_coprimes knX1_coprimes kdX1_coprimes ⟨Nat.le_of_ble_eq_true rfl, Nat.le_of_ble_eq_true rfl⟩ hl.1 (Nat.le_of_ble_eq_true rfl) (room_of hW (pext e6) ((pext hf).tr hX)) dX1_ends_23 rfl) (fun H locs c1 s1 hW => ?_)
      refine lv_iadd hx hb dX1_ends_26 ?_
      refine lv_istore_n (lv' := [(1, .int (x1 + v6)), (0, .int x0), (2, .int x2)]) hx hb dX1_ends_27 rfl hl (by decide) rfl (fun ls hl => ?_)
      refine lv_iinc (v := (x2 + 1)) (lv' := [(2, .int (x2 + 1)), (1, .int (x1 + v6)), (0, .int x0)]) hx hb dX1_ends_28 hl (k := 2) rfl rfl (by decide) rfl (fun ls hl => ?_)
      refine lv_goto (tgt := 4) hx hb dX1_ends_31 (by decide) ?_
      obtain ⟨rfl, rfl⟩ := pp_some hf
      exact kc _ rfl _ _ _ _ _ hW (lv_sub hl [2, 1, 0] rfl)
set_option maxHeartbeats 4000000 in
theorem wX1_ends_L4 {p : Program} {l : Launch} {e : Env} {s : State} {m : MethodId} {args : Array Value} {below : List Frame} {meth : Method} {c : Code} {G : GG} {ρ : Nat → Nat} {h0 hE hB : PH} {Q : State → Prop} {x0 : Int32} (C : Cx G "PairSymbols$Formulas" cX1_ends 3 (some .int) "ends" p s m args meth c) {z : (Int32)} (n : Nat) : ∀ (x : Int32 × Int32) {h : PH} {H : Heap} {locs : List Loc} {cells slots : Nat} {ls : Array Slot}, (plo (fX1_ends_B4 x0) n x).1 h = some (z, hB) → Ext hB hE → Wd G ρ h0.length (sl h0) s.heap h H locs cells slots → lv_has ls 3 [(0, .int x0), (1, .int x.1), (2, .int x.2)] → (ke : ∀ (H : Heap) (locs : List Loc) (c1 s1 : Nat) (ls : Array Slot), Wd G ρ h0.length (sl h0) s.heap hB H locs c1 s1 → lv_has ls 3 [(1, .int z)] → W p l e (RM 2 47 h0 hE) s m args below meth c H locs c1 s1 Q (F0 m 34 ls [])) → W p l e (RM 2 47 h0 hE) s m args below meth c H locs cells slots Q (F0 m 4 ls []) := by
  induction n with
  | zero =>
    intro x h H locs cells slots ls hf
    rw [plo_0] at hf
    exact (pf_no hf).elim
  | succ n ih =>
    intro x h H locs cells slots ls hf hX hW hl ke
    rw [plo_s] at hf
    obtain ⟨r, h1, e1, hf⟩ := pb_some hf
    unfold fX1_ends_B4 at e1
    rw [frI_eq, frI_eq] at e1
    refine wX1_ends_B4 C e1 ((pext hf).tr hX) hW hl (fun y hr H locs c1 s1 ls hW hl => ?_) (fun y hr H locs c1 s1 ls hW hl => ?_)
    · subst hr
      exact ih y hf hX hW hl ke
    · subst hr
      obtain ⟨rfl, rfl⟩ := pp_some hf
      exact ke H locs c1 s1 ls hW hl
set_option maxHeartbeats 4000000 in
set_option maxRecDepth 100000 in
theorem metX1_ends (l : Launch) (G : GG) (ρ : Nat → Nat) {z : Nat} {x0 : Int32} {h hE : PH} {v : Int32} (hf : (fX1_ends x0).1 h = some (v, hE)) : Met l yX1_ends (wsY yX1_ends cX1_ends 3 (some .int)) (RM 2 47 h hE) (va_Pc [.int x0] (PcB G ρ h z)) (QI G ρ v hE h.length z) (DC h hE) (DS h hE) (Af ρ h.length z) := by
  refine met_start (by decide) (Nat.le_of_ble_eq_true rfl) ?_
  intro p e s m below meth c ls hz C hW hl
  subst hz
  have C : Cx G "PairSymbols$Formulas" cX1_ends 3 (some .int) "ends" p s m _ meth c := C
  have hx := C.1
  have hb := C.2.1
  have hX : Ext hE hE := Ext.rf hE
  have hl : lv_has ls 3 [(0, .int x0)] := hl
  have hW : Wd G ρ h.length (sl h) s.heap h s.heap [] 0 0 := hW
  unfold fX1_ends at hf
  refine lv_iconst (v := 0) hx hb dX1_ends_0 (by decide) ?_
  refine lv_istore_n (lv' := [(1, .int (0 : Int32)), (0, .int x0)]) hx hb dX1_ends_1 rfl hl (by decide) rfl (fun ls hl => ?_)
  refine lv_iconst (v := 1) hx hb dX1_ends_2 (by decide) ?_
  refine lv_istore_n (lv' := [(2, .int (1 : Int32)), (1, .int (0 : Int32)), (0, .int x0)]) hx hb dX1_ends_3 rfl hl (by decide) rfl (fun ls hl => ?_)
  obtain ⟨z7, h7, e7, hf⟩ := pb_some hf
  refine wX1_ends_L4 C fu _ e7 ((pext hf).tr hX) hW (lv_sub hl [2, 1, 0] rfl) (fun H locs c1 s1 ls hW hl => ?_)
  refine lv_iload_n hx hb dX1_ends_34 rfl (lv_at hl 0 rfl) ?_
  obtain ⟨rfl, rfl⟩ := pp_some hf
  exact r_iret C hW dX1_ends_35

theorem dX1_forms_0 : decode cX1_forms 0 = .ok (.iconst 1, 1) := by decide +kernel
theorem dX1_forms_1 : decode cX1_forms 1 = .ok (.iload_n 0, 1) := by decide +kernel
theorem dX1_forms_2 : decode cX1_forms 2 = .ok (.invokestatic 33, 3) := by decide +kernel
theorem dX1_forms_5 : decode cX1_forms 5 = .ok (.iconst 3, 1) := by decide +kernel
theorem dX1_forms_6 : decode cX1_forms 6 = .ok (.iload_n 0, 1) := by decide +kernel
theorem dX1_forms_7 : decode cX1_forms 7 = .ok (.invokestatic 36, 3) := by decide +kernel
theorem dX1_forms_10 : decode cX1_forms 10 = .ok (.imul, 1) := by decide +kernel
theorem dX1_forms_11 : decode cX1_forms 11 = .ok (.isub, 1) := by decide +kernel
theorem dX1_forms_12 : decode cX1_forms 12 = .ok (.iconst 4, 1) := by decide +kernel
theorem dX1_forms_13 : decode cX1_forms 13 = .ok (.iload_n 0, 1) := by decide +kernel
theorem dX1_forms_14 : decode cX1_forms 14 = .ok (.invokestatic 39, 3) := by decide +kernel
theorem dX1_forms_17 : decode cX1_forms 17 = .ok (.imul, 1) := by decide +kernel
theorem dX1_forms_18 : decode cX1_forms 18 = .ok (.isub, 1) := by decide +kernel
theorem dX1_forms_19 : decode cX1_forms 19 = .ok (.bipush 6, 2) := by decide +kernel
theorem dX1_forms_21 : decode cX1_forms 21 = .ok (.iload_n 0, 1) := by decide +kernel
theorem dX1_forms_22 : decode cX1_forms 22 = .ok (.invokestatic 42, 3) := by decide +kernel
theorem dX1_forms_25 : decode cX1_forms 25 = .ok (.imul, 1) := by decide +kernel
theorem dX1_forms_26 : decode cX1_forms 26 = .ok (.isub, 1) := by decide +kernel
theorem dX1_forms_27 : decode cX1_forms 27 = .ok (.bipush 12, 2) := by decide +kernel
theorem dX1_forms_29 : decode cX1_forms 29 = .ok (.idiv, 1) := by decide +kernel
theorem dX1_forms_30 : decode cX1_forms 30 = .ok (.iadd, 1) := by decide +kernel
theorem dX1_forms_31 : decode cX1_forms 31 = .ok (.ireturn, 1) := by decide +kernel
theorem kcX1_forms : Cond.code yX1_forms cX1_forms 1 (some .int) ∈ tb := tq q_519 rfl
theorem knX1_forms : Cond.initialized yX1_forms.cls ∈ tb := (tq q_9 rfl)
theorem kdX1_forms : yX1_forms.cls ≠ "java/lang/invoke/MethodHandle" ∧ yX1_forms.cls ≠ "java/lang/invoke/VarHandle" ∧ (parseMethodDescriptor yX1_forms.desc).map (fun d => d.parameters.length) = some 1 := ⟨by decide +kernel, by decide +kernel, by decide +kernel⟩
theorem kiX1_forms : Cond.static yX1_forms ∈ tb := (tq q_518 rfl)
set_option maxHeartbeats 4000000 in
set_option maxRecDepth 100000 in
theorem metX1_forms (l : Launch) (G : GG) (ρ : Nat → Nat) {z : Nat} {x0 : Int32} {h hE : PH} {v : Int32} (hf : (fX1_forms x0).1 h = some (v, hE)) : Met l yX1_forms (wsY yX1_forms cX1_forms 1 (some .int)) (RM 3 69 h hE) (va_Pc [.int x0] (PcB G ρ h z)) (QI G ρ v hE h.length z) (DC h hE) (DS h hE) (Af ρ h.length z) := by
  refine met_start (by decide) (Nat.le_of_ble_eq_true rfl) ?_
  intro p e s m below meth c ls hz C hW hl
  subst hz
  have C : Cx G "PairSymbols$Formulas" cX1_forms 1 (some .int) "forms" p s m _ meth c := C
  have hx := C.1
  have hb := C.2.1
  have hX : Ext hE hE := Ext.rf hE
  have hl : lv_has ls 1 [(0, .int x0)] := hl
  have hW : Wd G ρ h.length (sl h) s.heap h s.heap [] 0 0 := hW
  unfold fX1_forms at hf
  refine lv_iconst (v := 1) hx hb dX1_forms_0 (by decide) ?_
  refine lv_iload_n hx hb dX1_forms_1 rfl (lv_at hl 0 rfl) ?_
  obtain ⟨v1, h1, e1, hf⟩ := pb_some hf
  refine r_calli hW (pext e1) (run_S (As := [.int x0]) (rest := [.int (1 : Int32)]) C hW (metX1_index l G ρ e1) ⟨rfl, rfl⟩ kcX1_index (tq q_520 rfl) kiX1_index knX1_index kdX1_index ⟨Nat.le_of_ble_eq_true rfl, Nat.le_of_ble_eq_true rfl⟩ hl.1 (Nat.le_of_ble_eq_true rfl) (room_of hW (pext e1) ((pext hf).tr hX)) dX1_forms_2 rfl) (fun H locs c1 s1 hW => ?_)
  refine lv_iconst (v := 3) hx hb dX1_forms_5 (by decide) ?_
  refine lv_iload_n hx hb dX1_forms_6 rfl (lv_at hl 0 rfl) ?_
  obtain ⟨v2, h2, e2, hf⟩ := pb_some hf
  refine r_calli hW (pext e2) (run_S (As := [.int x0]) (rest := [.int (3 : Int32), .int v1, .int (1 : Int32)]) C hW (metX1_orderTwo l G ρ e2) ⟨rfl, rfl⟩ kcX1_orderTwo (tq q_521 rfl) kiX1_orderTwo knX1_orderTwo kdX1_orderTwo ⟨Nat.le_of_ble_eq_true rfl, Nat.le_of_ble_eq_true rfl⟩ hl.1 (Nat.le_of_ble_eq_true rfl) (room_of hW (pext e2) ((pext hf).tr hX)) dX1_forms_7 rfl) (fun H locs c1 s1 hW => ?_)
  refine lv_imul hx hb dX1_forms_10 ?_
  refine lv_isub hx hb dX1_forms_11 ?_
  refine lv_iconst (v := 4) hx hb dX1_forms_12 (by decide) ?_
  refine lv_iload_n hx hb dX1_forms_13 rfl (lv_at hl 0 rfl) ?_
  obtain ⟨v3, h3, e3, hf⟩ := pb_some hf
  refine r_calli hW (pext e3) (run_S (As := [.int x0]) (rest := [.int (4 : Int32), .int (v1 - ((3 : Int32) * v2)), .int (1 : Int32)]) C hW (metX1_orderThree l G ρ e3) ⟨rfl, rfl⟩ kcX1_orderThree (tq q_522 rfl) kiX1_orderThree knX1_orderThree kdX1_orderThree ⟨Nat.le_of_ble_eq_true rfl, Nat.le_of_ble_eq_true rfl⟩ hl.1 (Nat.le_of_ble_eq_true rfl) (room_of hW (pext e3) ((pext hf).tr hX)) dX1_forms_14 rfl) (fun H locs c1 s1 hW => ?_)
  refine lv_imul hx hb dX1_forms_17 ?_
  refine lv_isub hx hb dX1_forms_18 ?_
  refine lv_bipush (v := 6) hx hb dX1_forms_19 (by decide) ?_
  refine lv_iload_n hx hb dX1_forms_21 rfl (lv_at hl 0 rfl) ?_
  obtain ⟨v4, h4, e4, hf⟩ := pb_some hf
  refine r_calli hW (pext e4) (run_S (As := [.int x0]) (rest := [.int (6 : Int32), .int ((v1 - ((3 : Int32) * v2)) - ((4 : Int32) * v3)), .int (1 : Int32)]) C hW (metX1_ends l G ρ e4) ⟨rfl, rfl⟩ kcX1_ends (tq q_523 rfl) kiX1_ends knX1_ends kdX1_ends ⟨Nat.le_of_ble_eq_true rfl, Nat.le_of_ble_eq_true rfl⟩ hl.1 (Nat.le_of_ble_eq_true rfl) (room_of hW (pext e4) ((pext hf).tr hX)) dX1_forms_22 rfl) (fun H locs c1 s1 hW => ?_)
  refine lv_imul hx hb dX1_forms_25 ?_
  refine lv_isub hx hb dX1_forms_26 ?_
  refine lv_bipush (v := 12) hx hb dX1_forms_27 (by decide) ?_
  refine lv_idiv hx hb dX1_forms_29 (by decide) ?_
  refine lv_iadd hx hb dX1_forms_30 ?_
  obtain ⟨rfl, rfl⟩ := pp_some hf
  exact r_iret C hW dX1_forms_31

theorem dX1_oldForms_0 : decode cX1_oldForms 0 = .ok (.iconst 0, 1) := by decide +kernel
theorem dX1_oldForms_1 : decode cX1_oldForms 1 = .ok (.istore_n 2, 1) := by decide +kernel
theorem dX1_oldForms_2 : decode cX1_oldForms 2 = .ok (.iconst 1, 1) := by decide +kernel
theorem dX1_oldForms_3 : decode cX1_oldForms 3 = .ok (.istore_n 3, 1) := by decide +kernel
theorem dX1_oldForms_4 : decode cX1_oldForms 4 = .ok (.iload_n 3, 1) := by decide +kernel
theorem dX1_oldForms_5 : decode cX1_oldForms 5 = .ok (.iload_n 1, 1) := by decide +kernel
theorem dX1_oldForms_6 : decode cX1_oldForms 6 = .ok (.if_icmp .ge 31, 3) := by decide +kernel
theorem dX1_oldForms_9 : decode cX1_oldForms 9 = .ok (.iload_n 1, 1) := by decide +kernel
theorem dX1_oldForms_10 : decode cX1_oldForms 10 = .ok (.iload_n 3, 1) := by decide +kernel
theorem dX1_oldForms_11 : decode cX1_oldForms 11 = .ok (.irem, 1) := by decide +kernel
theorem dX1_oldForms_12 : decode cX1_oldForms 12 = .ok (.ifCond .ne 19, 3) := by decide +kernel
theorem dX1_oldForms_15 : decode cX1_oldForms 15 = .ok (.iload_n 2, 1) := by decide +kernel
theorem dX1_oldForms_16 : decode cX1_oldForms 16 = .ok (.aload_n 0, 1) := by decide +kernel
theorem dX1_oldForms_17 : decode cX1_oldForms 17 = .ok (.getfield 9, 3) := by decide +kernel
theorem dX1_oldForms_20 : decode cX1_oldForms 20 = .ok (.iload_n 3, 1) := by decide +kernel
theorem dX1_oldForms_21 : decode cX1_oldForms 21 = .ok (.iaload, 1) := by decide +kernel
theorem dX1_oldForms_22 : decode cX1_oldForms 22 = .ok (.iload_n 1, 1) := by decide +kernel
theorem dX1_oldForms_23 : decode cX1_oldForms 23 = .ok (.iload_n 3, 1) := by decide +kernel
theorem dX1_oldForms_24 : decode cX1_oldForms 24 = .ok (.idiv, 1) := by decide +kernel
theorem dX1_oldForms_25 : decode cX1_oldForms 25 = .ok (.invokestatic 51, 3) := by decide +kernel
theorem dX1_oldForms_28 : decode cX1_oldForms 28 = .ok (.imul, 1) := by decide +kernel
theorem dX1_oldForms_29 : decode cX1_oldForms 29 = .ok (.iadd, 1) := by decide +kernel
theorem dX1_oldForms_30 : decode cX1_oldForms 30 = .ok (.istore_n 2, 1) := by decide +kernel
theorem dX1_oldForms_31 : decode cX1_oldForms 31 = .ok (.iinc 3 1, 3) := by decide +kernel
theorem dX1_oldForms_34 : decode cX1_oldForms 34 = .ok (.goto (-30), 3) := by decide +kernel
theorem dX1_oldForms_37 : decode cX1_oldForms 37 = .ok (.iload_n 2, 1) := by decide +kernel
theorem dX1_oldForms_38 : decode cX1_oldForms 38 = .ok (.ireturn, 1) := by decide +kernel
theorem kcX1_oldForms : Cond.code yX1_oldForms cX1_oldForms 4 (some .int) ∈ tb := tq q_532 rfl
theorem knX1_oldForms : Cond.initialized yX1_oldForms.cls ∈ tb := (tq q_9 rfl)
theorem kdX1_oldForms : yX1_oldForms.cls ≠ "java/lang/invoke/MethodHandle" ∧ yX1_oldForms.cls ≠ "java/lang/invoke/VarHandle" ∧ (parseMethodDescriptor yX1_oldForms.desc).map (fun d => d.parameters.length) = some 1 := ⟨by decide +kernel, by decide +kernel, by decide +kernel⟩
theorem kiX1_oldForms : Cond.instanceMethod yX1_oldForms ∈ tb := (tq q_531 rfl)
theorem ksX1_oldForms : Cond.selects yX1_oldForms.cls yX1_oldForms yX1_oldForms ∈ tb := (tq z_15 rfl)
theorem tgX1_oldForms {x0 : Nat} {x1 : Int32} {h : PH} {r : Int32 × PH} (hf : (fX1_oldForms x0 x1).1 h = some r) : ∃ n x, nth h x0 = some (1, n, x) := by
  obtain ⟨_, _, e, _⟩ := pb_some hf
  exact (chk_some e).2
set_option maxHeartbeats 4000000 in
set_option maxRecDepth 100000 in
theorem wX1_oldForms_B4 {p : Program} {l : Launch} {e : Env} {s : State} {m : MethodId} {args : Array Value} {below : List Frame} {meth : Method} {c : Code} {G : GG} {ρ : Nat → Nat} {h0 hE hB : PH} {Q : State → Prop} {x0 : Nat} {x1 : Int32} (C : Cx G "PairSymbols$Formulas" cX1_oldForms 4 (some .int) "oldForms" p s m args meth c) {x2 : Int32} {x3 : Int32} {h : PH} {H : Heap} {locs : List Loc} {cells slots : Nat} {ls : Array Slot} {r : (Int32 × Int32) ⊕ (Int32)} (hf : (fX1_oldForms_b4 x0 x1 x2 x3).1 h = some (r, hB)) (hX : Ext hB hE) (hW : Wd G ρ h0.length (sl h0) s.heap h H locs cells slots) (hl : lv_has ls 4 [(0, .ref (ρ x0)), (1, .int x1), (2, .int x2), (3, .int x3)]) (kc : ∀ y : Int32 × Int32, r = .inl y → ∀ (H : Heap) (locs : List Loc) (c1 s1 : Nat) (ls : Array Slot), Wd G ρ h0.length (sl h0) s.heap hB H locs c1 s1 → lv_has ls 4 [(0, .ref (ρ x0)), (1, .int x1), (2, .int y.1), (3, .int y.2)] → W p l e (RM 1 22 h0 hE) s m args below meth c H locs c1 s1 Q (F0 m 4 ls [])) (ke : ∀ z : Int32, r = .inr z → ∀ (H : Heap) (locs : List Loc) (c1 s1 : Nat) (ls : Array Slot), Wd G ρ h0.length (sl h0) s.heap hB H locs c1 s1 → lv_has ls 4 [(2, .int z)] → W p l e (RM 1 22 h0 hE) s m args below meth c H locs c1 s1 Q (F0 m 37 ls [])) : W p l e (RM 1 22 h0 hE) s m args below meth c H locs cells slots Q (F0 m 4 ls []) := by
  have hx := C.1
  have hb := C.2.1
  unfold fX1_oldForms_b4 at hf
  refine lv_iload_n hx hb dX1_oldForms_4 rfl (lv_at hl 3 rfl) ?_
  refine lv_iload_n hx hb dX1_oldForms_5 rfl (lv_at hl 1 rfl) ?_
  refine lv_icmp_ge (tgt := 37) hx hb dX1_oldForms_6 (by decide) (fun c1 => ?_) (fun c1 => ?_)
  · rw [if_pos c1] at hf
    obtain ⟨rfl, rfl⟩ := pp_some hf
    exact ke _ rfl _ _ _ _ _ hW (lv_sub hl [2] rfl)
  · rw [if_neg c1] at hf
    refine lv_iload_n hx hb dX1_oldForms_9 rfl (lv_at hl 1 rfl) ?_
    refine lv_iload_n hx hb dX1_oldForms_10 rfl (lv_at hl 3 rfl) ?_
    by_cases c2 : x3 = 0
    · rw [if_pos c2] at hf
      exact (pf_no hf).elim
    rw [if_neg c2] at hf
    refine lv_irem hx hb dX1_oldForms_11 c2 ?_
    refine lv_if_ne (tgt := 31) hx hb dX1_oldForms_12 (by decide) (fun c3 => ?_) (fun c3 => ?_)
    · rw [if_neg c3] at hf
      refine lv_iinc (v := (x3 + 1)) (lv' := [(3, .int (x3 + 1)), (0, .ref (ρ x0)), (1, .int x1), (2, .int x2)]) hx hb dX1_oldForms_31 hl (k := 3) rfl rfl (by decide) rfl (fun ls hl => ?_)
      refine lv_goto (tgt := 4) hx hb dX1_oldForms_34 (by decide) ?_
      obtain ⟨rfl, rfl⟩ := pp_some hf
      exact kc _ rfl _ _ _ _ _ hW (lv_sub hl [1, 2, 3, 0] rfl)
    · rw [if_pos c3] at hf
      refine lv_iload_n hx hb dX1_oldForms_15 rfl (lv_at hl 2 rfl) ?_
      refine lv_aload_n hx hb dX1_oldForms_16 rfl (lv_at hl 0 rfl) ?_
      obtain ⟨v4, e4, hf⟩ := pb_rd (rd_gA _ _ _) hf
      refine r_gA C hW e4 flX1_9 rfl dX1_oldForms_17 ?_
      refine lv_iload_n hx hb dX1_oldForms_20 rfl (lv_at hl 3 rfl) ?_
      obtain ⟨v5, e5, hf⟩ := pb_rd (rd_lI _ _ _) hf
      refine r_iald C hW e5 dX1_oldForms_21 ?_
      refine lv_iload_n hx hb dX1_oldForms_22 rfl (lv_at hl 1 rfl) ?_
      refine lv_iload_n hx hb dX1_oldForms_23 rfl (lv_at hl 3 rfl) ?_
      by_cases c6 : x3 = 0
      · rw [if_pos c6] at hf
        exact (pf_no hf).elim
      rw [if_neg c6] at hf
      refine lv_idiv hx hb dX1_oldForms_24 c6 ?_
      obtain ⟨v7, h7, e7, hf⟩ := pb_some hf
      refine r_calli hW (pext e7) (run_S (As := [.int (x1 / x3)]) (rest := [.int v5, .int x2]) C hW (metX1_divisors l G ρ e7) ⟨rfl, rfl⟩ kcX1_divisors (tq q_501 rfl) kiX1_divisors knX1_divisors kdX1_divisors ⟨Nat.le_of_ble_eq_true rfl, Nat.le_of_ble_eq_true rfl⟩ hl.1 (Nat.le_of_ble_eq_true rfl) (room_of hW (pext e7) ((pext hf).tr hX)) dX1_oldForms_25 rfl) (fun H locs c1 s1 hW => ?_)
      refine lv_imul hx hb dX1_oldForms_28 ?_
      refine lv_iadd hx hb dX1_oldForms_29 ?_
      refine lv_istore_n (lv' := [(2, .int (x2 + (v5 * v7))), (0, .ref (ρ x0)), (1, .int x1), (3, .int x3)]) hx hb dX1_oldForms_30 rfl hl (by decide) rfl (fun ls hl => ?_)
      refine lv_iinc (v := (x3 + 1)) (lv' := [(3, .int (x3 + 1)), (2, .int (x2 + (v5 * v7))), (0, .ref (ρ x0)), (1, .int x1)]) hx hb dX1_oldForms_31 hl (k := 3) rfl rfl (by decide) rfl (fun ls hl => ?_)
      refine lv_goto (tgt := 4) hx hb dX1_oldForms_34 (by decide) ?_
      obtain ⟨rfl, rfl⟩ := pp_some hf
      exact kc _ rfl _ _ _ _ _ hW (lv_sub hl [2, 3, 1, 0] rfl)
set_option maxHeartbeats 4000000 in
theorem wX1_oldForms_L4 {p : Program} {l : Launch} {e : Env} {s : State} {m : MethodId} {args : Array Value} {below : List Frame} {meth : Method} {c : Code} {G : GG} {ρ : Nat → Nat} {h0 hE hB : PH} {Q : State → Prop} {x0 : Nat} {x1 : Int32} (C : Cx G "PairSymbols$Formulas" cX1_oldForms 4 (some .int) "oldForms" p s m args meth c) {z : (Int32)} (n : Nat) : ∀ (x : Int32 × Int32) {h : PH} {H : Heap} {locs : List Loc} {cells slots : Nat} {ls : Array Slot}, (plo (fX1_oldForms_B4 x0 x1) n x).1 h = some (z, hB) → Ext hB hE → Wd G ρ h0.length (sl h0) s.heap h H locs cells slots → lv_has ls 4 [(0, .ref (ρ x0)), (1, .int x1), (2, .int x.1), (3, .int x.2)] → (ke : ∀ (H : Heap) (locs : List Loc) (c1 s1 : Nat) (ls : Array Slot), Wd G ρ h0.length (sl h0) s.heap hB H locs c1 s1 → lv_has ls 4 [(2, .int z)] → W p l e (RM 1 22 h0 hE) s m args below meth c H locs c1 s1 Q (F0 m 37 ls [])) → W p l e (RM 1 22 h0 hE) s m args below meth c H locs cells slots Q (F0 m 4 ls []) := by
  induction n with
  | zero =>
    intro x h H locs cells slots ls hf
    rw [plo_0] at hf
    exact (pf_no hf).elim
  | succ n ih =>
    intro x h H locs cells slots ls hf hX hW hl ke
    rw [plo_s] at hf
    obtain ⟨r, h1, e1, hf⟩ := pb_some hf
    unfold fX1_oldForms_B4 at e1
    rw [frI_eq, frI_eq] at e1
    refine wX1_oldForms_B4 C e1 ((pext hf).tr hX) hW hl (fun y hr H locs c1 s1 ls hW hl => ?_) (fun y hr H locs c1 s1 ls hW hl => ?_)
    · subst hr
      exact ih y hf hX hW hl ke
    · subst hr
      obtain ⟨rfl, rfl⟩ := pp_some hf
      exact ke H locs c1 s1 ls hW hl
set_option maxHeartbeats 4000000 in
set_option maxRecDepth 100000 in
theorem metX1_oldForms (l : Launch) (G : GG) (ρ : Nat → Nat) {z : Nat} {x0 : Nat} {x1 : Int32} {h hE : PH} {v : Int32} (hf : (fX1_oldForms x0 x1).1 h = some (v, hE)) : Met l yX1_oldForms (wsY yX1_oldForms cX1_oldForms 4 (some .int)) (RM 1 22 h hE) (va_Pc [.ref (ρ x0), .int x1] (PcB G ρ h z)) (QI G ρ v hE h.length z) (DC h hE) (DS h hE) (Af ρ h.length z) := by
  refine met_start (by decide) (Nat.le_of_ble_eq_true rfl) ?_
  intro p e s m below meth c ls hz C hW hl
  subst hz
  have C : Cx G "PairSymbols$Formulas" cX1_oldForms 4 (some .int) "oldForms" p s m _ meth c := C
  have hx := C.1
  have hb := C.2.1
  have hX : Ext hE hE := Ext.rf hE
  have hl : lv_has ls 4 [(0, .ref (ρ x0)), (1, .int x1)] := hl
  have hW : Wd G ρ h.length (sl h) s.heap h s.heap [] 0 0 := hW
  unfold fX1_oldForms at hf
  obtain ⟨_, e0, hf⟩ := pb_rd (rd_chk _ _) hf
  refine lv_iconst (v := 0) hx hb dX1_oldForms_0 (by decide) ?_
  refine lv_istore_n (lv' := [(2, .int (0 : Int32)), (0, .ref (ρ x0)), (1, .int x1)]) hx hb dX1_oldForms_1 rfl hl (by decide) rfl (fun ls hl => ?_)
  refine lv_iconst (v := 1) hx hb dX1_oldForms_2 (by decide) ?_
  refine lv_istore_n (lv' := [(3, .int (1 : Int32)), (2, .int (0 : Int32)), (0, .ref (ρ x0)), (1, .int x1)]) hx hb dX1_oldForms_3 rfl hl (by decide) rfl (fun ls hl => ?_)
  obtain ⟨z8, h8, e8, hf⟩ := pb_some hf
  refine wX1_oldForms_L4 C fu _ e8 ((pext hf).tr hX) hW (lv_sub hl [2, 3, 1, 0] rfl) (fun H locs c1 s1 ls hW hl => ?_)
  refine lv_iload_n hx hb dX1_oldForms_37 rfl (lv_at hl 0 rfl) ?_
  obtain ⟨rfl, rfl⟩ := pp_some hf
  exact r_iret C hW dX1_oldForms_38

theorem dX1_newForms_0 : decode cX1_newForms 0 = .ok (.iconst 1, 1) := by decide +kernel
theorem dX1_newForms_1 : decode cX1_newForms 1 = .ok (.istore_n 2, 1) := by decide +kernel
theorem dX1_newForms_2 : decode cX1_newForms 2 = .ok (.iload_n 2, 1) := by decide +kernel
theorem dX1_newForms_3 : decode cX1_newForms 3 = .ok (.iload_n 1, 1) := by decide +kernel
theorem dX1_newForms_4 : decode cX1_newForms 4 = .ok (.if_icmp .gt 41, 3) := by decide +kernel
theorem dX1_newForms_7 : decode cX1_newForms 7 = .ok (.iload_n 1, 1) := by decide +kernel
theorem dX1_newForms_8 : decode cX1_newForms 8 = .ok (.iload_n 2, 1) := by decide +kernel
theorem dX1_newForms_9 : decode cX1_newForms 9 = .ok (.irem, 1) := by decide +kernel
theorem dX1_newForms_10 : decode cX1_newForms 10 = .ok (.ifCond .ne 29, 3) := by decide +kernel
theorem dX1_newForms_13 : decode cX1_newForms 13 = .ok (.aload_n 0, 1) := by decide +kernel
theorem dX1_newForms_14 : decode cX1_newForms 14 = .ok (.getfield 9, 3) := by decide +kernel
theorem dX1_newForms_17 : decode cX1_newForms 17 = .ok (.iload_n 2, 1) := by decide +kernel
theorem dX1_newForms_18 : decode cX1_newForms 18 = .ok (.iaload, 1) := by decide +kernel
theorem dX1_newForms_19 : decode cX1_newForms 19 = .ok (.iconst (-1), 1) := by decide +kernel
theorem dX1_newForms_20 : decode cX1_newForms 20 = .ok (.if_icmp .ne 19, 3) := by decide +kernel
theorem dX1_newForms_23 : decode cX1_newForms 23 = .ok (.aload_n 0, 1) := by decide +kernel
theorem dX1_newForms_24 : decode cX1_newForms 24 = .ok (.getfield 9, 3) := by decide +kernel
theorem dX1_newForms_27 : decode cX1_newForms 27 = .ok (.iload_n 2, 1) := by decide +kernel
theorem dX1_newForms_28 : decode cX1_newForms 28 = .ok (.iload_n 2, 1) := by decide +kernel
theorem dX1_newForms_29 : decode cX1_newForms 29 = .ok (.invokestatic 45, 3) := by decide +kernel
theorem dX1_newForms_32 : decode cX1_newForms 32 = .ok (.aload_n 0, 1) := by decide +kernel
theorem dX1_newForms_33 : decode cX1_newForms 33 = .ok (.iload_n 2, 1) := by decide +kernel
theorem dX1_newForms_34 : decode cX1_newForms 34 = .ok (.invokevirtual 48, 3) := by decide +kernel
theorem dX1_newForms_37 : decode cX1_newForms 37 = .ok (.isub, 1) := by decide +kernel
theorem dX1_newForms_38 : decode cX1_newForms 38 = .ok (.iastore, 1) := by decide +kernel
theorem dX1_newForms_39 : decode cX1_newForms 39 = .ok (.iinc 2 1, 3) := by decide +kernel
theorem dX1_newForms_42 : decode cX1_newForms 42 = .ok (.goto (-40), 3) := by decide +kernel
theorem dX1_newForms_45 : decode cX1_newForms 45 = .ok (.aload_n 0, 1) := by decide +kernel
theorem dX1_newForms_46 : decode cX1_newForms 46 = .ok (.getfield 9, 3) := by decide +kernel
theorem dX1_newForms_49 : decode cX1_newForms 49 = .ok (.iload_n 1, 1) := by decide +kernel
theorem dX1_newForms_50 : decode cX1_newForms 50 = .ok (.iaload, 1) := by decide +kernel
theorem dX1_newForms_51 : decode cX1_newForms 51 = .ok (.ireturn, 1) := by decide +kernel
theorem kcX1_newForms : Cond.code yX1_newForms cX1_newForms 3 (some .int) ∈ tb := tq q_527 rfl
theorem knX1_newForms : Cond.initialized yX1_newForms.cls ∈ tb := (tq q_9 rfl)
theorem kdX1_newForms : yX1_newForms.cls ≠ "java/lang/invoke/MethodHandle" ∧ yX1_newForms.cls ≠ "java/lang/invoke/VarHandle" ∧ (parseMethodDescriptor yX1_newForms.desc).map (fun d => d.parameters.length) = some 1 := ⟨by decide +kernel, by decide +kernel, by decide +kernel⟩
theorem kiX1_newForms : Cond.instanceMethod yX1_newForms ∈ tb := (tq q_525 rfl)
theorem ksX1_newForms : Cond.selects yX1_newForms.cls yX1_newForms yX1_newForms ∈ tb := (tq q_526 rfl)
theorem tgX1_newForms {x0 : Nat} {x1 : Int32} {h : PH} {r : Int32 × PH} (hf : (fX1_newForms x0 x1).1 h = some r) : ∃ n x, nth h x0 = some (1, n, x) := by
  obtain ⟨_, _, e, _⟩ := pb_some hf
  exact (chk_some e).2
set_option maxHeartbeats 4000000 in
set_option maxRecDepth 100000 in
theorem wX1_newForms_B2 {p : Program} {l : Launch} {e : Env} {s : State} {m : MethodId} {args : Array Value} {below : List Frame} {meth : Method} {c : Code} {G : GG} {ρ : Nat → Nat} {h0 hE hB : PH} {Q : State → Prop} {x0 : Nat} {x1 : Int32} (C : Cx G "PairSymbols$Formulas" cX1_newForms 3 (some .int) "newForms" p s m args meth c) {x2 : Int32} {h : PH} {H : Heap} {locs : List Loc} {cells slots : Nat} {ls : Array Slot} {r : (Int32) ⊕ (Unit)} (hf : (fX1_newForms_b2 x0 x1 x2).1 h = some (r, hB)) (hX : Ext hB hE) (hW : Wd G ρ h0.length (sl h0) s.heap h H locs cells slots) (hl : lv_has ls 3 [(0, .ref (ρ x0)), (1, .int x1), (2, .int x2)]) (kc : ∀ y : Int32, r = .inl y → ∀ (H : Heap) (locs : List Loc) (c1 s1 : Nat) (ls : Array Slot), Wd G ρ h0.length (sl h0) s.heap hB H locs c1 s1 → lv_has ls 3 [(0, .ref (ρ x0)), (1, .int x1), (2, .int y)] → W p l e (RM 4 89 h0 hE) s m args below meth c H locs c1 s1 Q (F0 m 2 ls [])) (ke : ∀ z : Unit, r = .inr z → ∀ (H : Heap) (locs : List Loc) (c1 s1 : Nat) (ls : Array Slot), Wd G ρ h0.length (sl h0) s.heap hB H locs c1 s1 → lv_has ls 3 [(0, .ref (ρ x0)), (1, .int x1)] → W p l e (RM 4 89 h0 hE) s m args below meth c H locs c1 s1 Q (F0 m 45 ls [])) : W p l e (RM 4 89 h0 hE) s m args below meth c H locs cells slots Q (F0 m 2 ls []) := by
  have hx := C.1
  have hb := C.2.1
  unfold fX1_newForms_b2 at hf
  refine lv_iload_n hx hb dX1_newForms_2 rfl (lv_at hl 2 rfl) ?_
  refine lv_iload_n hx hb dX1_newForms_3 rfl (lv_at hl 1 rfl) ?_
  refine lv_icmp_gt (tgt := 45) hx hb dX1_newForms_4 (by decide) (fun c1 => ?_) (fun c1 => ?_)
  · rw [if_pos c1] at hf
    obtain ⟨rfl, rfl⟩ := pp_some hf
    exact ke _ rfl _ _ _ _ _ hW (lv_sub hl [0, 1] rfl)
  · rw [if_neg c1] at hf
    refine lv_iload_n hx hb dX1_newForms_7 rfl (lv_at hl 1 rfl) ?_
    refine lv_iload_n hx hb dX1_newForms_8 rfl (lv_at hl 2 rfl) ?_
    by_cases c2 : x2 = 0
    · rw [if_pos c2] at hf
      exact (pf_no hf).elim
    rw [if_neg c2] at hf
    refine lv_irem hx hb dX1_newForms_9 c2 ?_
    refine lv_if_ne (tgt := 39) hx hb dX1_newForms_10 (by decide) (fun c3 => ?_) (fun c3 => ?_)
    · rw [if_neg c3] at hf
      refine lv_iinc (v := (x2 + 1)) (lv' := [(2, .int (x2 + 1)), (0, .ref (ρ x0)), (1, .int x1)]) hx hb dX1_newForms_39 hl (k := 2) rfl rfl (by decide) rfl (fun ls hl => ?_)
      refine lv_goto (tgt := 2) hx hb dX1_newForms_42 (by decide) ?_
      obtain ⟨rfl, rfl⟩ := pp_some hf
      exact kc _ rfl _ _ _ _ _ hW (lv_sub hl [1, 2, 0] rfl)
    · rw [if_pos c3] at hf
      refine lv_aload_n hx hb dX1_newForms_13 rfl (lv_at hl 0 rfl) ?_
      obtain ⟨v4, e4, hf⟩ := pb_rd (rd_gA _ _ _) hf
      refine r_gA C hW e4 flX1_9 rfl dX1_newForms_14 ?_
      refine lv_iload_n hx hb dX1_newForms_17 rfl (lv_at hl 2 rfl) ?_
      obtain ⟨v5, e5, hf⟩ := pb_rd (rd_lI _ _ _) hf
      refine r_iald C hW e5 dX1_newForms_18 ?_
      refine lv_iconst (v := -1) hx hb dX1_newForms_19 (by decide) ?_
      refine lv_icmp_ne (tgt := 39) hx hb dX1_newForms_20 (by decide) (fun c6 => ?_) (fun c6 => ?_)
      · rw [if_neg c6] at hf
        refine lv_iinc (v := (x2 + 1)) (lv' := [(2, .int (x2 + 1)), (0, .ref (ρ x0)), (1, .int x1)]) hx hb dX1_newForms_39 hl (k := 2) rfl rfl (by decide) rfl (fun ls hl => ?_)
        refine lv_goto (tgt := 2) hx hb dX1_newForms_42 (by decide) ?_
        obtain ⟨rfl, rfl⟩ := pp_some hf
        exact kc _ rfl _ _ _ _ _ hW (lv_sub hl [1, 2, 0] rfl)
      · rw [if_pos c6] at hf
        refine lv_aload_n hx hb dX1_newForms_23 rfl (lv_at hl 0 rfl) ?_
        obtain ⟨v7, e7, hf⟩ := pb_rd (rd_gA _ _ _) hf
        refine r_gA C hW e7 flX1_9 rfl dX1_newForms_24 ?_
        refine lv_iload_n hx hb dX1_newForms_27 rfl (lv_at hl 2 rfl) ?_
        refine lv_iload_n hx hb dX1_newForms_28 rfl (lv_at hl 2 rfl) ?_
        obtain ⟨v8, h8, e8, hf⟩ := pb_some hf
        refine r_calli hW (pext e8) (run_S (As := [.int x2]) (rest := [.int x2, .ref (ρ v7)]) C hW (metX1_forms l G ρ e8) ⟨rfl, rfl⟩ kcX1_forms (tq q_528 rfl) kiX1_forms knX1_forms kdX1_forms ⟨Nat.le_of_ble_eq_true rfl, Nat.le_of_ble_eq_true rfl⟩ hl.1 (Nat.le_of_ble_eq_true rfl) (room_of hW (pext e8) ((pext hf).tr hX)) dX1_newForms_29 rfl) (fun H locs c1 s1 hW => ?_)
        refine lv_aload_n hx hb dX1_newForms_32 rfl (lv_at hl 0 rfl) ?_
        refine lv_iload_n hx hb dX1_newForms_33 rfl (lv_at hl 2 rfl) ?_
        obtain ⟨v9, h9, e9, hf⟩ := pb_some hf
        obtain ⟨_, _, t10⟩ := tgX1_oldForms e9
        refine r_calli hW (pext e9) (run_V (b := x0) (As := [.int x2]) (rest := [.int v8, .int x2, .ref (ρ v7)]) C hW (metX1_oldForms l G ρ e9) ⟨rfl, rfl⟩ kcX1_oldForms (tq q_529 rfl) kiX1_oldForms ksX1_oldForms knX1_oldForms kdX1_oldForms t10 rfl rfl ⟨Nat.le_of_ble_eq_true rfl, Nat.le_of_ble_eq_true rfl⟩ hl.1 (Nat.le_of_ble_eq_true rfl) (room_of hW (pext e9) ((pext hf).tr hX)) dX1_newForms_34 rfl) (fun H locs c1 s1 hW => ?_)
        refine lv_isub hx hb dX1_newForms_37 ?_
        obtain ⟨_, h11, e11, hf⟩ := pb_some hf
        refine r_iast C hW e11 dX1_newForms_38 (fun H locs hW => ?_)
        refine lv_iinc (v := (x2 + 1)) (lv' := [(2, .int (x2 + 1)), (0, .ref (ρ x0)), (1, .int x1)]) hx hb dX1_newForms_39 hl (k := 2) rfl rfl (by decide) rfl (fun ls hl => ?_)
        refine lv_goto (tgt := 2) hx hb dX1_newForms_42 (by decide) ?_
        obtain ⟨rfl, rfl⟩ := pp_some hf
        exact kc _ rfl _ _ _ _ _ hW (lv_sub hl [1, 2, 0] rfl)
set_option maxHeartbeats 4000000 in
theorem wX1_newForms_L2 {p : Program} {l : Launch} {e : Env} {s : State} {m : MethodId} {args : Array Value} {below : List Frame} {meth : Method} {c : Code} {G : GG} {ρ : Nat → Nat} {h0 hE hB : PH} {Q : State → Prop} {x0 : Nat} {x1 : Int32} (C : Cx G "PairSymbols$Formulas" cX1_newForms 3 (some .int) "newForms" p s m args meth c) {z : (Unit)} (n : Nat) : ∀ (x : Int32) {h : PH} {H : Heap} {locs : List Loc} {cells slots : Nat} {ls : Array Slot}, (plo (fX1_newForms_B2 x0 x1) n x).1 h = some (z, hB) → Ext hB hE → Wd G ρ h0.length (sl h0) s.heap h H locs cells slots → lv_has ls 3 [(0, .ref (ρ x0)), (1, .int x1), (2, .int x)] → (ke : ∀ (H : Heap) (locs : List Loc) (c1 s1 : Nat) (ls : Array Slot), Wd G ρ h0.length (sl h0) s.heap hB H locs c1 s1 → lv_has ls 3 [(0, .ref (ρ x0)), (1, .int x1)] → W p l e (RM 4 89 h0 hE) s m args below meth c H locs c1 s1 Q (F0 m 45 ls [])) → W p l e (RM 4 89 h0 hE) s m args below meth c H locs cells slots Q (F0 m 2 ls []) := by
  induction n with
  | zero =>
    intro x h H locs cells slots ls hf
    rw [plo_0] at hf
    exact (pf_no hf).elim
  | succ n ih =>
    intro x h H locs cells slots ls hf hX hW hl ke
    rw [plo_s] at hf
    obtain ⟨r, h1, e1, hf⟩ := pb_some hf
    unfold fX1_newForms_B2 at e1
    rw [frI_eq] at e1
    refine wX1_newForms_B2 C e1 ((pext hf).tr hX) hW hl (fun y hr H locs c1 s1 ls hW hl => ?_) (fun y hr H locs c1 s1 ls hW hl => ?_)
    · subst hr
      exact ih y hf hX hW hl ke
    · subst hr
      obtain ⟨rfl, rfl⟩ := pp_some hf
      exact ke H locs c1 s1 ls hW hl
set_option maxHeartbeats 4000000 in
set_option maxRecDepth 100000 in
theorem metX1_newForms (l : Launch) (G : GG) (ρ : Nat → Nat) {z : Nat} {x0 : Nat} {x1 : Int32} {h hE : PH} {v : Int32} (hf : (fX1_newForms x0 x1).1 h = some (v, hE)) : Met l yX1_newForms (wsY yX1_newForms cX1_newForms 3 (some .int)) (RM 4 89 h hE) (va_Pc [.ref (ρ x0), .int x1] (PcB G ρ h z)) (QI G ρ v hE h.length z) (DC h hE) (DS h hE) (Af ρ h.length z) := by
  refine met_start (by decide) (Nat.le_of_ble_eq_true rfl) ?_
  intro p e s m below meth c ls hz C hW hl
  subst hz
  have C : Cx G "PairSymbols$Formulas" cX1_newForms 3 (some .int) "newForms" p s m _ meth c := C
  have hx := C.1
  have hb := C.2.1
  have hX : Ext hE hE := Ext.rf hE
  have hl : lv_has ls 3 [(0, .ref (ρ x0)), (1, .int x1)] := hl
  have hW : Wd G ρ h.length (sl h) s.heap h s.heap [] 0 0 := hW
  unfold fX1_newForms at hf
  obtain ⟨_, e0, hf⟩ := pb_rd (rd_chk _ _) hf
  refine lv_iconst (v := 1) hx hb dX1_newForms_0 (by decide) ?_
  refine lv_istore_n (lv' := [(2, .int (1 : Int32)), (0, .ref (ρ x0)), (1, .int x1)]) hx hb dX1_newForms_1 rfl hl (by decide) rfl (fun ls hl => ?_)
  obtain ⟨z12, h12, e12, hf⟩ := pb_some hf
  refine wX1_newForms_L2 C fu _ e12 ((pext hf).tr hX) hW (lv_sub hl [1, 2, 0] rfl) (fun H locs c1 s1 ls hW hl => ?_)
  refine lv_aload_n hx hb dX1_newForms_45 rfl (lv_at hl 0 rfl) ?_
  obtain ⟨v13, e13, hf⟩ := pb_rd (rd_gA _ _ _) hf
  refine r_gA C hW e13 flX1_9 rfl dX1_newForms_46 ?_
  refine lv_iload_n hx hb dX1_newForms_49 rfl (lv_at hl 1 rfl) ?_
  obtain ⟨v14, e14, hf⟩ := pb_rd (rd_lI _ _ _) hf
  refine r_iald C hW e14 dX1_newForms_50 ?_
  obtain ⟨rfl, rfl⟩ := pp_some hf
  exact r_iret C hW dX1_newForms_51

theorem dX9_formula_0 : decode cX9_formula 0 = .ok (.iload_n 1, 1) := by decide +kernel
theorem dX9_formula_1 : decode cX9_formula 1 = .ok (.iconst 1, 1) := by decide +kernel
theorem dX9_formula_2 : decode cX9_formula 2 = .ok (.bipush 60, 2) := by decide +kernel
theorem dX9_formula_4 : decode cX9_formula 4 = .ok (.invokestatic 99, 3) := by decide +kernel
theorem dX9_formula_7 : decode cX9_formula 7 = .ok (.ifCond .ne 10, 3) := by decide +kernel
theorem dX9_formula_10 : decode cX9_formula 10 = .ok (.aload_n 0, 1) := by decide +kernel
theorem dX9_formula_11 : decode cX9_formula 11 = .ok (.bipush (-2), 2) := by decide +kernel
theorem dX9_formula_13 : decode cX9_formula 13 = .ok (.invokevirtual 74, 3) := by decide +kernel
theorem dX9_formula_16 : decode cX9_formula 16 = .ok (.ireturn, 1) := by decide +kernel
theorem dX9_formula_17 : decode cX9_formula 17 = .ok (.iload_n 2, 1) := by decide +kernel
theorem dX9_formula_18 : decode cX9_formula 18 = .ok (.tableswitch 72 0 5 #[38, 43, 48, 53, 58, 63], 38) := by decide +kernel
theorem dX9_formula_56 : decode cX9_formula 56 = .ok (.iload_n 1, 1) := by decide +kernel
theorem dX9_formula_57 : decode cX9_formula 57 = .ok (.invokestatic 171, 3) := by decide +kernel
theorem dX9_formula_60 : decode cX9_formula 60 = .ok (.ireturn, 1) := by decide +kernel
theorem dX9_formula_61 : decode cX9_formula 61 = .ok (.iload_n 1, 1) := by decide +kernel
theorem dX9_formula_62 : decode cX9_formula 62 = .ok (.invokestatic 174, 3) := by decide +kernel
theorem dX9_formula_65 : decode cX9_formula 65 = .ok (.ireturn, 1) := by decide +kernel
theorem dX9_formula_66 : decode cX9_formula 66 = .ok (.iload_n 1, 1) := by decide +kernel
theorem dX9_formula_67 : decode cX9_formula 67 = .ok (.invokestatic 177, 3) := by decide +kernel
theorem dX9_formula_70 : decode cX9_formula 70 = .ok (.ireturn, 1) := by decide +kernel
theorem dX9_formula_71 : decode cX9_formula 71 = .ok (.iload_n 1, 1) := by decide +kernel
theorem dX9_formula_72 : decode cX9_formula 72 = .ok (.invokestatic 180, 3) := by decide +kernel
theorem dX9_formula_75 : decode cX9_formula 75 = .ok (.ireturn, 1) := by decide +kernel
theorem dX9_formula_76 : decode cX9_formula 76 = .ok (.iload_n 1, 1) := by decide +kernel
theorem dX9_formula_77 : decode cX9_formula 77 = .ok (.invokestatic 183, 3) := by decide +kernel
theorem dX9_formula_80 : decode cX9_formula 80 = .ok (.ireturn, 1) := by decide +kernel
theorem dX9_formula_81 : decode cX9_formula 81 = .ok (.aload_n 0, 1) := by decide +kernel
theorem dX9_formula_82 : decode cX9_formula 82 = .ok (.getfield 47, 3) := by decide +kernel
theorem dX9_formula_85 : decode cX9_formula 85 = .ok (.iload_n 1, 1) := by decide +kernel
theorem dX9_formula_86 : decode cX9_formula 86 = .ok (.invokevirtual 186, 3) := by decide +kernel
theorem dX9_formula_89 : decode cX9_formula 89 = .ok (.ireturn, 1) := by decide +kernel
theorem dX9_formula_90 : decode cX9_formula 90 = .ok (.aload_n 0, 1) := by decide +kernel
theorem dX9_formula_91 : decode cX9_formula 91 = .ok (.bipush (-2), 2) := by decide +kernel
theorem dX9_formula_93 : decode cX9_formula 93 = .ok (.invokevirtual 74, 3) := by decide +kernel
theorem dX9_formula_96 : decode cX9_formula 96 = .ok (.ireturn, 1) := by decide +kernel
theorem kcX9_formula : Cond.code yX9_formula cX9_formula 3 (some .int) ∈ tb := tq q_494 rfl
theorem knX9_formula : Cond.initialized yX9_formula.cls ∈ tb := (tq q_1 rfl)
theorem kdX9_formula : yX9_formula.cls ≠ "java/lang/invoke/MethodHandle" ∧ yX9_formula.cls ≠ "java/lang/invoke/VarHandle" ∧ (parseMethodDescriptor yX9_formula.desc).map (fun d => d.parameters.length) = some 2 := ⟨by decide +kernel, by decide +kernel, by decide +kernel⟩
theorem kiX9_formula : Cond.instanceMethod yX9_formula ∈ tb := (tq q_492 rfl)
theorem ksX9_formula : Cond.selects yX9_formula.cls yX9_formula yX9_formula ∈ tb := (tq q_493 rfl)
theorem tgX9_formula {x0 : Nat} {x1 : Int32} {x2 : Int32} {h : PH} {r : Int32 × PH} (hf : (fX9_formula x0 x1 x2).1 h = some r) : ∃ n x, nth h x0 = some (8, n, x) := by
  obtain ⟨_, _, e, _⟩ := pb_some hf
  exact (chk_some e).2
set_option maxHeartbeats 4000000 in
set_option maxRecDepth 100000 in
theorem metX9_formula (l : Launch) (G : GG) (ρ : Nat → Nat) {z : Nat} {x0 : Nat} {x1 : Int32} {x2 : Int32} {h hE : PH} {v : Int32} (hf : (fX9_formula x0 x1 x2).1 h = some (v, hE)) : Met l yX9_formula (wsY yX9_formula cX9_formula 3 (some .int)) (RM 5 111 h hE) (va_Pc [.ref (ρ x0), .int x1, .int x2] (PcB G ρ h z)) (QI G ρ v hE h.length z) (DC h hE) (DS h hE) (Af ρ h.length z) := by
  refine met_start (by decide) (Nat.le_of_ble_eq_true rfl) ?_
  intro p e s m below meth c ls hz C hW hl
  subst hz
  have C : Cx G "PairSymbols" cX9_formula 3 (some .int) "formula" p s m _ meth c := C
  have hx := C.1
  have hb := C.2.1
  have hX : Ext hE hE := Ext.rf hE
  have hl : lv_has ls 3 [(0, .ref (ρ x0)), (1, .int x1), (2, .int x2)] := hl
  have hW : Wd G ρ h.length (sl h) s.heap h s.heap [] 0 0 := hW
  unfold fX9_formula at hf
  obtain ⟨_, e0, hf⟩ := pb_rd (rd_chk _ _) hf
  refine lv_iload_n hx hb dX9_formula_0 rfl (lv_at hl 1 rfl) ?_
  refine lv_iconst (v := 1) hx hb dX9_formula_1 (by decide) ?_
  refine lv_bipush (v := 60) hx hb dX9_formula_2 (by decide) ?_
  obtain ⟨v1, h1, e1, hf⟩ := pb_some hf
  refine r_calli hW (pext e1) (run_S (As := [.int x1, .int (1 : Int32), .int (60 : Int32)]) (rest := []) C hW (metX9_within l G ρ e1) ⟨rfl, rfl⟩ kcX9_within (tq q_329 rfl) kiX9_within knX9_within kdX9_within ⟨Nat.le_of_ble_eq_true rfl, Nat.le_of_ble_eq_true rfl⟩ hl.1 (Nat.le_of_ble_eq_true rfl) (room_of hW (pext e1) ((pext hf).tr hX)) dX9_formula_4 rfl) (fun H locs c1 s1 hW => ?_)
  refine lv_if_ne (tgt := 17) hx hb dX9_formula_7 (by decide) (fun c2 => ?_) (fun c2 => ?_)
  · rw [if_neg c2] at hf
    refine lv_iload_n hx hb dX9_formula_17 rfl (lv_at hl 2 rfl) ?_
    by_cases c3 : x2 = 0
    · rw [if_pos c3] at hf
      refine lv_tableIn (off := 38) (tgt := 56) hx hb dX9_formula_18 (by rw [c3]; decide) (by rw [c3]; decide) (by rw [c3]; decide) (by decide) ?_
      refine lv_iload_n hx hb dX9_formula_56 rfl (lv_at hl 1 rfl) ?_
      obtain ⟨v4, h4, e4, hf⟩ := pb_some hf
      refine r_calli hW (pext e4) (run_S (As := [.int x1]) (rest := []) C hW (metX1_index l G ρ e4) ⟨rfl, rfl⟩ kcX1_index (tq q_495 rfl) kiX1_index knX1_index kdX1_index ⟨Nat.le_of_ble_eq_true rfl, Nat.le_of_ble_eq_true rfl⟩ hl.1 (Nat.le_of_ble_eq_true rfl) (room_of hW (pext e4) ((pext hf).tr hX)) dX9_formula_57 rfl) (fun H locs c1 s1 hW => ?_)
      obtain ⟨rfl, rfl⟩ := pp_some hf
      exact r_iret C hW dX9_formula_60
    rw [if_neg c3] at hf
    by_cases c5 : x2 = 1
    · rw [if_pos c5] at hf
      refine lv_tableIn (off := 43) (tgt := 61) hx hb dX9_formula_18 (by rw [c5]; decide) (by rw [c5]; decide) (by rw [c5]; decide) (by decide) ?_
      refine lv_iload_n hx hb dX9_formula_61 rfl (lv_at hl 1 rfl) ?_
      obtain ⟨v6, h6, e6, hf⟩ := pb_some hf
      refine r_calli hW (pext e6) (run_S (As := [.int x1]) (rest := []) C hW (metX1_orderTwo l G ρ e6) ⟨rfl, rfl⟩ kcX1_orderTwo (tq q_504 rfl) kiX1_orderTwo knX1_orderTwo kdX1_orderTwo ⟨Nat.le_of_ble_eq_true rfl, Nat.le_of_ble_eq_true rfl⟩ hl.1 (Nat.le_of_ble_eq_true rfl) (room_of hW (pext e6) ((pext hf).tr hX)) dX9_formula_62 rfl) (fun H locs c1 s1 hW => ?_)
      obtain ⟨rfl, rfl⟩ := pp_some hf
      exact r_iret C hW dX9_formula_65
    rw [if_neg c5] at hf
    by_cases c7 : x2 = 2
    · rw [if_pos c7] at hf
      refine lv_tableIn (off := 48) (tgt := 66) hx hb dX9_formula_18 (by rw [c7]; decide) (by rw [c7]; decide) (by rw [c7]; decide) (by decide) ?_
      refine lv_iload_n hx hb dX9_formula_66 rfl (lv_at hl 1 rfl) ?_
      obtain ⟨v8, h8, e8, hf⟩ := pb_some hf
      refine r_calli hW (pext e8) (run_S (As := [.int x1]) (rest := []) C hW (metX1_orderThree l G ρ e8) ⟨rfl, rfl⟩ kcX1_orderThree (tq q_507 rfl) kiX1_orderThree knX1_orderThree kdX1_orderThree ⟨Nat.le_of_ble_eq_true rfl, Nat.le_of_ble_eq_true rfl⟩ hl.1 (Nat.le_of_ble_eq_true rfl) (room_of hW (pext e8) ((pext hf).tr hX)) dX9_formula_67 rfl) (fun H locs c1 s1 hW => ?_)
      obtain ⟨rfl, rfl⟩ := pp_some hf
      exact r_iret C hW dX9_formula_70
    rw [if_neg c7] at hf
    by_cases c9 : x2 = 3
    · rw [if_pos c9] at hf
      refine lv_tableIn (off := 53) (tgt := 71) hx hb dX9_formula_18 (by rw [c9]; decide) (by rw [c9]; decide) (by rw [c9]; decide) (by decide) ?_
      refine lv_iload_n hx hb dX9_formula_71 rfl (lv_at hl 1 rfl) ?_
      obtain ⟨v10, h10, e10, hf⟩ := pb_some hf
      refine r_calli hW (pext e10) (run_S (As := [.int x1]) (rest := []) C hW (metX1_ends l G ρ e10) ⟨rfl, rfl⟩ kcX1_ends (tq q_510 rfl) kiX1_ends knX1_ends kdX1_ends ⟨Nat.le_of_ble_eq_true rfl, Nat.le_of_ble_eq_true rfl⟩ hl.1 (Nat.le_of_ble_eq_true rfl) (room_of hW (pext e10) ((pext hf).tr hX)) dX9_formula_72 rfl) (fun H locs c1 s1 hW => ?_)
      obtain ⟨rfl, rfl⟩ := pp_some hf
      exact r_iret C hW dX9_formula_75
    rw [if_neg c9] at hf
    by_cases c11 : x2 = 4
    · rw [if_pos c11] at hf
      refine lv_tableIn (off := 58) (tgt := 76) hx hb dX9_formula_18 (by rw [c11]; decide) (by rw [c11]; decide) (by rw [c11]; decide) (by decide) ?_
      refine lv_iload_n hx hb dX9_formula_76 rfl (lv_at hl 1 rfl) ?_
      obtain ⟨v12, h12, e12, hf⟩ := pb_some hf
      refine r_calli hW (pext e12) (run_S (As := [.int x1]) (rest := []) C hW (metX1_forms l G ρ e12) ⟨rfl, rfl⟩ kcX1_forms (tq q_517 rfl) kiX1_forms knX1_forms kdX1_forms ⟨Nat.le_of_ble_eq_true rfl, Nat.le_of_ble_eq_true rfl⟩ hl.1 (Nat.le_of_ble_eq_true rfl) (room_of hW (pext e12) ((pext hf).tr hX)) dX9_formula_77 rfl) (fun H locs c1 s1 hW => ?_)
      obtain ⟨rfl, rfl⟩ := pp_some hf
      exact r_iret C hW dX9_formula_80
    rw [if_neg c11] at hf
    by_cases c13 : x2 = 5
    · rw [if_pos c13] at hf
      refine lv_tableIn (off := 63) (tgt := 81) hx hb dX9_formula_18 (by rw [c13]; decide) (by rw [c13]; decide) (by rw [c13]; decide) (by decide) ?_
      refine lv_aload_n hx hb dX9_formula_81 rfl (lv_at hl 0 rfl) ?_
      obtain ⟨v14, e14, hf⟩ := pb_rd (rd_gA _ _ _) hf
      refine r_gA C hW e14 flX9_47 rfl dX9_formula_82 ?_
      refine lv_iload_n hx hb dX9_formula_85 rfl (lv_at hl 1 rfl) ?_
      obtain ⟨v15, h15, e15, hf⟩ := pb_some hf
      obtain ⟨_, _, t16⟩ := tgX1_newForms e15
      refine r_calli hW (pext e15) (run_V (b := v14) (As := [.int x1]) (rest := []) C hW (metX1_newForms l G ρ e15) ⟨rfl, rfl⟩ kcX1_newForms (tq q_524 rfl) kiX1_newForms ksX1_newForms knX1_newForms kdX1_newForms t16 rfl rfl ⟨Nat.le_of_ble_eq_true rfl, Nat.le_of_ble_eq_true rfl⟩ hl.1 (Nat.le_of_ble_eq_true rfl) (room_of hW (pext e15) ((pext hf).tr hX)) dX9_formula_86 rfl) (fun H locs c1 s1 hW => ?_)
      obtain ⟨rfl, rfl⟩ := pp_some hf
      exact r_iret C hW dX9_formula_89
    rw [if_neg c13] at hf
    refine lv_tableOut (tgt := 90) hx hb dX9_formula_18 (sw_out [0, 1, 2, 3, 4, 5] (List.forall_mem_cons.mpr ⟨c3, List.forall_mem_cons.mpr ⟨c5, List.forall_mem_cons.mpr ⟨c7, List.forall_mem_cons.mpr ⟨c9, List.forall_mem_cons.mpr ⟨c11, List.forall_mem_cons.mpr ⟨c13, fun _ h => absurd h List.not_mem_nil⟩⟩⟩⟩⟩⟩) (by decide)) (by decide) ?_
    refine lv_aload_n hx hb dX9_formula_90 rfl (lv_at hl 0 rfl) ?_
    refine lv_bipush (v := -2) hx hb dX9_formula_91 (by decide) ?_
    obtain ⟨v17, h17, e17, hf⟩ := pb_some hf
    obtain ⟨_, _, t18⟩ := tgX9_refuse e17
    refine r_calli hW (pext e17) (run_V (b := x0) (As := [.int (-2 : Int32)]) (rest := []) C hW (metX9_refuse l G ρ e17) ⟨rfl, rfl⟩ kcX9_refuse (tq q_343 rfl) kiX9_refuse ksX9_refuse knX9_refuse kdX9_refuse t18 rfl rfl ⟨Nat.le_of_ble_eq_true rfl, Nat.le_of_ble_eq_true rfl⟩ hl.1 (Nat.le_of_ble_eq_true rfl) (room_of hW (pext e17) ((pext hf).tr hX)) dX9_formula_93 rfl) (fun H locs c1 s1 hW => ?_)
    obtain ⟨rfl, rfl⟩ := pp_some hf
    exact r_iret C hW dX9_formula_96
  · rw [if_pos c2] at hf
    refine lv_aload_n hx hb dX9_formula_10 rfl (lv_at hl 0 rfl) ?_
    refine lv_bipush (v := -2) hx hb dX9_formula_11 (by decide) ?_
    obtain ⟨v19, h19, e19, hf⟩ := pb_some hf
    obtain ⟨_, _, t20⟩ := tgX9_refuse e19
    refine r_calli hW (pext e19) (run_V (b := x0) (As := [.int (-2 : Int32)]) (rest := []) C hW (metX9_refuse l G ρ e19) ⟨rfl, rfl⟩ kcX9_refuse (tq q_343 rfl) kiX9_refuse ksX9_refuse knX9_refuse kdX9_refuse t20 rfl rfl ⟨Nat.le_of_ble_eq_true rfl, Nat.le_of_ble_eq_true rfl⟩ hl.1 (Nat.le_of_ble_eq_true rfl) (room_of hW (pext e19) ((pext hf).tr hX)) dX9_formula_13 rfl) (fun H locs c1 s1 hW => ?_)
    obtain ⟨rfl, rfl⟩ := pp_some hf
    exact r_iret C hW dX9_formula_16

theorem dX8_addSymbol_0 : decode cX8_addSymbol 0 = .ok (.aload_n 0, 1) := by decide +kernel
theorem dX8_addSymbol_1 : decode cX8_addSymbol 1 = .ok (.getfield 9, 3) := by decide +kernel
theorem dX8_addSymbol_4 : decode cX8_addSymbol 4 = .ok (.iload_n 1, 1) := by decide +kernel
theorem dX8_addSymbol_5 : decode cX8_addSymbol 5 = .ok (.invokevirtual 31, 3) := by decide +kernel
theorem dX8_addSymbol_8 : decode cX8_addSymbol 8 = .ok (.ifCond .ne 4, 3) := by decide +kernel
theorem dX8_addSymbol_11 : decode cX8_addSymbol 11 = .ok (.return_, 1) := by decide +kernel
theorem dX8_addSymbol_12 : decode cX8_addSymbol 12 = .ok (.iconst 0, 1) := by decide +kernel
theorem dX8_addSymbol_13 : decode cX8_addSymbol 13 = .ok (.istore_n 3, 1) := by decide +kernel
theorem dX8_addSymbol_14 : decode cX8_addSymbol 14 = .ok (.iload_n 3, 1) := by decide +kernel
theorem dX8_addSymbol_15 : decode cX8_addSymbol 15 = .ok (.aload_n 0, 1) := by decide +kernel
theorem dX8_addSymbol_16 : decode cX8_addSymbol 16 = .ok (.getfield 9, 3) := by decide +kernel
theorem dX8_addSymbol_19 : decode cX8_addSymbol 19 = .ok (.getfield 63, 3) := by decide +kernel
theorem dX8_addSymbol_22 : decode cX8_addSymbol 22 = .ok (.if_icmp .ge 33, 3) := by decide +kernel
theorem dX8_addSymbol_25 : decode cX8_addSymbol 25 = .ok (.aload_n 0, 1) := by decide +kernel
theorem dX8_addSymbol_26 : decode cX8_addSymbol 26 = .ok (.getfield 15, 3) := by decide +kernel
theorem dX8_addSymbol_29 : decode cX8_addSymbol 29 = .ok (.iload_n 3, 1) := by decide +kernel
theorem dX8_addSymbol_30 : decode cX8_addSymbol 30 = .ok (.dup2, 1) := by decide +kernel
theorem dX8_addSymbol_31 : decode cX8_addSymbol 31 = .ok (.laload, 1) := by decide +kernel
theorem dX8_addSymbol_32 : decode cX8_addSymbol 32 = .ok (.iload_n 2, 1) := by decide +kernel
theorem dX8_addSymbol_33 : decode cX8_addSymbol 33 = .ok (.i2l, 1) := by decide +kernel
theorem dX8_addSymbol_34 : decode cX8_addSymbol 34 = .ok (.aload_n 0, 1) := by decide +kernel
theorem dX8_addSymbol_35 : decode cX8_addSymbol 35 = .ok (.getfield 9, 3) := by decide +kernel
theorem dX8_addSymbol_38 : decode cX8_addSymbol 38 = .ok (.getfield 67, 3) := by decide +kernel
theorem dX8_addSymbol_41 : decode cX8_addSymbol 41 = .ok (.iload_n 1, 1) := by decide +kernel
theorem dX8_addSymbol_42 : decode cX8_addSymbol 42 = .ok (.aaload, 1) := by decide +kernel
theorem dX8_addSymbol_43 : decode cX8_addSymbol 43 = .ok (.iload_n 3, 1) := by decide +kernel
theorem dX8_addSymbol_44 : decode cX8_addSymbol 44 = .ok (.iaload, 1) := by decide +kernel
theorem dX8_addSymbol_45 : decode cX8_addSymbol 45 = .ok (.i2l, 1) := by decide +kernel
theorem dX8_addSymbol_46 : decode cX8_addSymbol 46 = .ok (.lmul, 1) := by decide +kernel
theorem dX8_addSymbol_47 : decode cX8_addSymbol 47 = .ok (.ladd, 1) := by decide +kernel
theorem dX8_addSymbol_48 : decode cX8_addSymbol 48 = .ok (.lastore, 1) := by decide +kernel
theorem dX8_addSymbol_49 : decode cX8_addSymbol 49 = .ok (.iinc 3 1, 3) := by decide +kernel
theorem dX8_addSymbol_52 : decode cX8_addSymbol 52 = .ok (.goto (-38), 3) := by decide +kernel
theorem dX8_addSymbol_55 : decode cX8_addSymbol 55 = .ok (.return_, 1) := by decide +kernel
theorem kcX8_addSymbol : Cond.code yX8_addSymbol cX8_addSymbol 4 none ∈ tb := tq q_546 rfl
theorem knX8_addSymbol : Cond.initialized yX8_addSymbol.cls ∈ tb := (tq q_6 rfl)
theorem kdX8_addSymbol : yX8_addSymbol.cls ≠ "java/lang/invoke/MethodHandle" ∧ yX8_addSymbol.cls ≠ "java/lang/invoke/VarHandle" ∧ (parseMethodDescriptor yX8_addSymbol.desc).map (fun d => d.parameters.length) = some 2 := ⟨by decide +kernel, by decide +kernel, by decide +kernel⟩
theorem kiX8_addSymbol : Cond.instanceMethod yX8_addSymbol ∈ tb := (tq q_545 rfl)
theorem ksX8_addSymbol : Cond.selects yX8_addSymbol.cls yX8_addSymbol yX8_addSymbol ∈ tb := (tq z_16 rfl)
theorem tgX8_addSymbol {x0 : Nat} {x1 : Int32} {x2 : Int32} {h : PH} {r : Unit × PH} (hf : (fX8_addSymbol x0 x1 x2).1 h = some r) : ∃ n x, nth h x0 = some (7, n, x) := by
  obtain ⟨_, _, e, _⟩ := pb_some hf
  exact (chk_some e).2
set_option maxHeartbeats 4000000 in
set_option maxRecDepth 100000 in
theorem wX8_addSymbol_B14 {p : Program} {l : Launch} {e : Env} {s : State} {m : MethodId} {args : Array Value} {below : List Frame} {meth : Method} {c : Code} {G : GG} {ρ : Nat → Nat} {h0 hE hB : PH} {Q : State → Prop} {x0 : Nat} {x1 : Int32} {x2 : Int32} (C : Cx G "PairSymbols$State" cX8_addSymbol 4 none "addSymbol" p s m args meth c) {x3 : Int32} {h : PH} {H : Heap} {locs : List Loc} {cells slots : Nat} {ls : Array Slot} {r : (Int32) ⊕ (Unit)} (hf : (fX8_addSymbol_b14 x0 x1 x2 x3).1 h = some (r, hB)) (hX : Ext hB hE) (hW : Wd G ρ h0.length (sl h0) s.heap h H locs cells slots) (hl : lv_has ls 4 [(0, .ref (ρ x0)), (1, .int x1), (2, .int x2), (3, .int x3)]) (kc : ∀ y : Int32, r = .inl y → ∀ (H : Heap) (locs : List Loc) (c1 s1 : Nat) (ls : Array Slot), Wd G ρ h0.length (sl h0) s.heap hB H locs c1 s1 → lv_has ls 4 [(0, .ref (ρ x0)), (1, .int x1), (2, .int x2), (3, .int y)] → W p l e (RM 1 21 h0 hE) s m args below meth c H locs c1 s1 Q (F0 m 14 ls [])) (ke : ∀ z : Unit, r = .inr z → ∀ (H : Heap) (locs : List Loc) (c1 s1 : Nat) (ls : Array Slot), Wd G ρ h0.length (sl h0) s.heap hB H locs c1 s1 → lv_has ls 4 [] → W p l e (RM 1 21 h0 hE) s m args below meth c H locs c1 s1 Q (F0 m 55 ls [])) : W p l e (RM 1 21 h0 hE) s m args below meth c H locs cells slots Q (F0 m 14 ls []) := by
  have hx := C.1
  have hb := C.2.1
  unfold fX8_addSymbol_b14 at hf
  refine lv_iload_n hx hb dX8_addSymbol_14 rfl (lv_at hl 3 rfl) ?_
  refine lv_aload_n hx hb dX8_addSymbol_15 rfl (lv_at hl 0 rfl) ?_
  obtain ⟨v5, e5, hf⟩ := pb_rd (rd_gA _ _ _) hf
  refine r_gA C hW e5 flX8_9 rfl dX8_addSymbol_16 ?_
  obtain ⟨v6, e6, hf⟩ := pb_rd (rd_gI _ _ _) hf
  refine r_gI C hW e6 flX8_63 rfl dX8_addSymbol_19 ?_
  refine lv_icmp_ge (tgt := 55) hx hb dX8_addSymbol_22 (by decide) (fun c7 => ?_) (fun c7 => ?_)
  · rw [if_pos c7] at hf
    obtain ⟨rfl, rfl⟩ := pp_some hf
    exact ke _ rfl _ _ _ _ _ hW (lv_sub hl [] rfl)
  · rw [if_neg c7] at hf
    refine lv_aload_n hx hb dX8_addSymbol_25 rfl (lv_at hl 0 rfl) ?_
    obtain ⟨v8, e8, hf⟩ := pb_rd (rd_gA _ _ _) hf
    refine r_gA C hW e8 flX8_15 rfl dX8_addSymbol_26 ?_
    refine lv_iload_n hx hb dX8_addSymbol_29 rfl (lv_at hl 3 rfl) ?_
    refine lv_dup2_11 hx hb dX8_addSymbol_30 rfl rfl ?_
    obtain ⟨v9, e9, hf⟩ := pb_rd (rd_lJ _ _ _) hf
    refine r_lald C hW e9 dX8_addSymbol_31 ?_
    refine lv_iload_n hx hb dX8_addSymbol_32 rfl (lv_at hl 2 rfl) ?_
    refine lv_i2l (v := x2.toInt64) hx hb dX8_addSymbol_33 rfl ?_
    refine lv_aload_n hx hb dX8_addSymbol_34 rfl (lv_at hl 0 rfl) ?_
    obtain ⟨v10, e10, hf⟩ := pb_rd (rd_gA _ _ _) hf
    refine r_gA C hW e10 flX8_9 rfl dX8_addSymbol_35 ?_
    obtain ⟨v11, e11, hf⟩ := pb_rd (rd_gA _ _ _) hf
    refine r_gA C hW e11 flX8_67 rfl dX8_addSymbol_38 ?_
    refine lv_iload_n hx hb dX8_addSymbol_41 rfl (lv_at hl 1 rfl) ?_
    obtain ⟨v12, e12, hf⟩ := pb_rd (rd_lA _ _ _) hf
    refine r_aald C hW e12 (by decide) (by decide) dX8_addSymbol_42 ?_
    refine lv_iload_n hx hb dX8_addSymbol_43 rfl (lv_at hl 3 rfl) ?_
    obtain ⟨v13, e13, hf⟩ := pb_rd (rd_lI _ _ _) hf
    refine r_iald C hW e13 dX8_addSymbol_44 ?_
    refine lv_i2l (v := v13.toInt64) hx hb dX8_addSymbol_45 rfl ?_
    refine lv_lmul hx hb dX8_addSymbol_46 ?_
    refine lv_ladd hx hb dX8_addSymbol_47 ?_
    obtain ⟨_, h14, e14, hf⟩ := pb_some hf
    refine r_last C hW e14 dX8_addSymbol_48 (fun H locs hW => ?_)
    refine lv_iinc (v := (x3 + 1)) (lv' := [(3, .int (x3 + 1)), (0, .ref (ρ x0)), (1, .int x1), (2, .int x2)]) hx hb dX8_addSymbol_49 hl (k := 3) rfl rfl (by decide) rfl (fun ls hl => ?_)
    refine lv_goto (tgt := 14) hx hb dX8_addSymbol_52 (by decide) ?_
    obtain ⟨rfl, rfl⟩ := pp_some hf
    exact kc _ rfl _ _ _ _ _ hW (lv_sub hl [1, 2, 3, 0] rfl)
set_option maxHeartbeats 4000000 in
theorem wX8_addSymbol_L14 {p : Program} {l : Launch} {e : Env} {s : State} {m : MethodId} {args : Array Value} {below : List Frame} {meth : Method} {c : Code} {G : GG} {ρ : Nat → Nat} {h0 hE hB : PH} {Q : State → Prop} {x0 : Nat} {x1 : Int32} {x2 : Int32} (C : Cx G "PairSymbols$State" cX8_addSymbol 4 none "addSymbol" p s m args meth c) {z : (Unit)} (n : Nat) : ∀ (x : Int32) {h : PH} {H : Heap} {locs : List Loc} {cells slots : Nat} {ls : Array Slot}, (plo (fX8_addSymbol_B14 x0 x1 x2) n x).1 h = some (z, hB) → Ext hB hE → Wd G ρ h0.length (sl h0) s.heap h H locs cells slots → lv_has ls 4 [(0, .ref (ρ x0)), (1, .int x1), (2, .int x2), (3, .int x)] → (ke : ∀ (H : Heap) (locs : List Loc) (c1 s1 : Nat) (ls : Array Slot), Wd G ρ h0.length (sl h0) s.heap hB H locs c1 s1 → lv_has ls 4 [] → W p l e (RM 1 21 h0 hE) s m args below meth c H locs c1 s1 Q (F0 m 55 ls [])) → W p l e (RM 1 21 h0 hE) s m args below meth c H locs cells slots Q (F0 m 14 ls []) := by
  induction n with
  | zero =>
    intro x h H locs cells slots ls hf
    rw [plo_0] at hf
    exact (pf_no hf).elim
  | succ n ih =>
    intro x h H locs cells slots ls hf hX hW hl ke
    rw [plo_s] at hf
    obtain ⟨r, h1, e1, hf⟩ := pb_some hf
    unfold fX8_addSymbol_B14 at e1
    rw [frI_eq] at e1
    refine wX8_addSymbol_B14 C e1 ((pext hf).tr hX) hW hl (fun y hr H locs c1 s1 ls hW hl => ?_) (fun y hr H locs c1 s1 ls hW hl => ?_)
    · subst hr
      exact ih y hf hX hW hl ke
    · subst hr
      obtain ⟨rfl, rfl⟩ := pp_some hf
      exact ke H locs c1 s1 ls hW hl
set_option maxHeartbeats 4000000 in
set_option maxRecDepth 100000 in
theorem metX8_addSymbol (l : Launch) (G : GG) (ρ : Nat → Nat) {z : Nat} {x0 : Nat} {x1 : Int32} {x2 : Int32} {h hE : PH} {v : Unit} (hf : (fX8_addSymbol x0 x1 x2).1 h = some (v, hE)) : Met l yX8_addSymbol (wsY yX8_addSymbol cX8_addSymbol 4 none) (RM 1 21 h hE) (va_Pc [.ref (ρ x0), .int x1, .int x2] (PcB G ρ h z)) (QV G ρ hE h.length z) (DC h hE) (DS h hE) (Af ρ h.length z) := by
  refine met_start (by decide) (Nat.le_of_ble_eq_true rfl) ?_
  intro p e s m below meth c ls hz C hW hl
  subst hz
  have C : Cx G "PairSymbols$State" cX8_addSymbol 4 none "addSymbol" p s m _ meth c := C
  have hx := C.1
  have hb := C.2.1
  have hX : Ext hE hE := Ext.rf hE
  have hl : lv_has ls 4 [(0, .ref (ρ x0)), (1, .int x1), (2, .int x2)] := hl
  have hW : Wd G ρ h.length (sl h) s.heap h s.heap [] 0 0 := hW
  unfold fX8_addSymbol at hf
  obtain ⟨_, e0, hf⟩ := pb_rd (rd_chk _ _) hf
  refine lv_aload_n hx hb dX8_addSymbol_0 rfl (lv_at hl 0 rfl) ?_
  obtain ⟨v1, e1, hf⟩ := pb_rd (rd_gA _ _ _) hf
  refine r_gA C hW e1 flX8_9 rfl dX8_addSymbol_1 ?_
  refine lv_iload_n hx hb dX8_addSymbol_4 rfl (lv_at hl 1 rfl) ?_
  obtain ⟨v2, h2, e2, hf⟩ := pb_some hf
  obtain ⟨_, _, t3⟩ := tgX3_hasSymbol e2
  refine r_calli hW (pext e2) (run_V (b := v1) (As := [.int x1]) (rest := []) C hW (metX3_hasSymbol l G ρ e2) ⟨rfl, rfl⟩ kcX3_hasSymbol (tq q_541 rfl) kiX3_hasSymbol ksX3_hasSymbol knX3_hasSymbol kdX3_hasSymbol t3 rfl rfl ⟨Nat.le_of_ble_eq_true rfl, Nat.le_of_ble_eq_true rfl⟩ hl.1 (Nat.le_of_ble_eq_true rfl) (room_of hW (pext e2) ((pext hf).tr hX)) dX8_addSymbol_5 rfl) (fun H locs c1 s1 hW => ?_)
  refine lv_if_ne (tgt := 12) hx hb dX8_addSymbol_8 (by decide) (fun c4 => ?_) (fun c4 => ?_)
  · rw [if_neg c4] at hf
    refine lv_iconst (v := 0) hx hb dX8_addSymbol_12 (by decide) ?_
    refine lv_istore_n (lv' := [(3, .int (0 : Int32)), (0, .ref (ρ x0)), (1, .int x1), (2, .int x2)]) hx hb dX8_addSymbol_13 rfl hl (by decide) rfl (fun ls hl => ?_)
    obtain ⟨z15, h15, e15, hf⟩ := pb_some hf
    refine wX8_addSymbol_L14 C fu _ e15 ((pext hf).tr hX) hW (lv_sub hl [1, 2, 3, 0] rfl) (fun H locs c1 s1 ls hW hl => ?_)
    obtain ⟨rfl, rfl⟩ := pp_some hf
    exact r_vret C hW dX8_addSymbol_55
  · rw [if_pos c4] at hf
    obtain ⟨rfl, rfl⟩ := pp_some hf
    exact r_vret C hW dX8_addSymbol_11

theorem dX8_verdict_0 : decode cX8_verdict 0 = .ok (.iconst 0, 1) := by decide +kernel
theorem dX8_verdict_1 : decode cX8_verdict 1 = .ok (.istore_n 1, 1) := by decide +kernel
theorem dX8_verdict_2 : decode cX8_verdict 2 = .ok (.iconst 0, 1) := by decide +kernel
theorem dX8_verdict_3 : decode cX8_verdict 3 = .ok (.istore_n 2, 1) := by decide +kernel
theorem dX8_verdict_4 : decode cX8_verdict 4 = .ok (.iload_n 2, 1) := by decide +kernel
theorem dX8_verdict_5 : decode cX8_verdict 5 = .ok (.aload_n 0, 1) := by decide +kernel
theorem dX8_verdict_6 : decode cX8_verdict 6 = .ok (.getfield 9, 3) := by decide +kernel
theorem dX8_verdict_9 : decode cX8_verdict 9 = .ok (.getfield 63, 3) := by decide +kernel
theorem dX8_verdict_12 : decode cX8_verdict 12 = .ok (.if_icmp .ge 52, 3) := by decide +kernel
theorem dX8_verdict_15 : decode cX8_verdict 15 = .ok (.aload_n 0, 1) := by decide +kernel
theorem dX8_verdict_16 : decode cX8_verdict 16 = .ok (.getfield 15, 3) := by decide +kernel
theorem dX8_verdict_19 : decode cX8_verdict 19 = .ok (.iload_n 2, 1) := by decide +kernel
theorem dX8_verdict_20 : decode cX8_verdict 20 = .ok (.laload, 1) := by decide +kernel
theorem dX8_verdict_21 : decode cX8_verdict 21 = .ok (.ldc2_w 71, 3) := by decide +kernel
theorem dX8_verdict_24 : decode cX8_verdict 24 = .ok (.lcmp, 1) := by decide +kernel
theorem dX8_verdict_25 : decode cX8_verdict 25 = .ok (.ifCond .gt 16, 3) := by decide +kernel
theorem dX8_verdict_28 : decode cX8_verdict 28 = .ok (.aload_n 0, 1) := by decide +kernel
theorem dX8_verdict_29 : decode cX8_verdict 29 = .ok (.getfield 15, 3) := by decide +kernel
theorem dX8_verdict_32 : decode cX8_verdict 32 = .ok (.iload_n 2, 1) := by decide +kernel
theorem dX8_verdict_33 : decode cX8_verdict 33 = .ok (.laload, 1) := by decide +kernel
theorem dX8_verdict_34 : decode cX8_verdict 34 = .ok (.ldc2_w 73, 3) := by decide +kernel
theorem dX8_verdict_37 : decode cX8_verdict 37 = .ok (.lcmp, 1) := by decide +kernel
theorem dX8_verdict_38 : decode cX8_verdict 38 = .ok (.ifCond .ge 6, 3) := by decide +kernel
theorem dX8_verdict_41 : decode cX8_verdict 41 = .ok (.bipush (-3), 2) := by decide +kernel
theorem dX8_verdict_43 : decode cX8_verdict 43 = .ok (.ireturn, 1) := by decide +kernel
theorem dX8_verdict_44 : decode cX8_verdict 44 = .ok (.aload_n 0, 1) := by decide +kernel
theorem dX8_verdict_45 : decode cX8_verdict 45 = .ok (.getfield 15, 3) := by decide +kernel
theorem dX8_verdict_48 : decode cX8_verdict 48 = .ok (.iload_n 2, 1) := by decide +kernel
theorem dX8_verdict_49 : decode cX8_verdict 49 = .ok (.laload, 1) := by decide +kernel
theorem dX8_verdict_50 : decode cX8_verdict 50 = .ok (.lconst 0, 1) := by decide +kernel
theorem dX8_verdict_51 : decode cX8_verdict 51 = .ok (.lcmp, 1) := by decide +kernel
theorem dX8_verdict_52 : decode cX8_verdict 52 = .ok (.ifCond .eq 6, 3) := by decide +kernel
theorem dX8_verdict_55 : decode cX8_verdict 55 = .ok (.iinc 1 1, 3) := by decide +kernel
theorem dX8_verdict_58 : decode cX8_verdict 58 = .ok (.iinc 2 1, 3) := by decide +kernel
theorem dX8_verdict_61 : decode cX8_verdict 61 = .ok (.goto (-57), 3) := by decide +kernel
theorem dX8_verdict_64 : decode cX8_verdict 64 = .ok (.iload_n 1, 1) := by decide +kernel
theorem dX8_verdict_65 : decode cX8_verdict 65 = .ok (.ireturn, 1) := by decide +kernel
theorem kcX8_verdict : Cond.code yX8_verdict cX8_verdict 3 (some .int) ∈ tb := tq q_550 rfl
theorem knX8_verdict : Cond.initialized yX8_verdict.cls ∈ tb := (tq q_6 rfl)
theorem kdX8_verdict : yX8_verdict.cls ≠ "java/lang/invoke/MethodHandle" ∧ yX8_verdict.cls ≠ "java/lang/invoke/VarHandle" ∧ (parseMethodDescriptor yX8_verdict.desc).map (fun d => d.parameters.length) = some 0 := ⟨by decide +kernel, by decide +kernel, by decide +kernel⟩
theorem kiX8_verdict : Cond.instanceMethod yX8_verdict ∈ tb := (tq q_549 rfl)
theorem ksX8_verdict : Cond.selects yX8_verdict.cls yX8_verdict yX8_verdict ∈ tb := (tq z_17 rfl)
theorem tgX8_verdict {x0 : Nat} {h : PH} {r : Int32 × PH} (hf : (fX8_verdict x0).1 h = some r) : ∃ n x, nth h x0 = some (7, n, x) := by
  obtain ⟨_, _, e, _⟩ := pb_some hf
  exact (chk_some e).2
set_option maxHeartbeats 4000000 in
set_option maxRecDepth 100000 in
theorem wX8_verdict_B4 {p : Program} {l : Launch} {e : Env} {s : State} {m : MethodId} {args : Array Value} {below : List Frame} {meth : Method} {c : Code} {G : GG} {ρ : Nat → Nat} {h0 hE hB : PH} {Q : State → Prop} {x0 : Nat} (C : Cx G "PairSymbols$State" cX8_verdict 3 (some .int) "verdict" p s m args meth c) {x1 : Int32} {x2 : Int32} {h : PH} {H : Heap} {locs : List Loc} {cells slots : Nat} {ls : Array Slot} {r : (Int32 × Int32) ⊕ (Int32 ⊕ (Int32))} (hf : (fX8_verdict_b4 x0 x1 x2).1 h = some (r, hB)) (hX : Ext hB hE) (hW : Wd G ρ h0.length (sl h0) s.heap h H locs cells slots) (hl : lv_has ls 3 [(0, .ref (ρ x0)), (1, .int x1), (2, .int x2)]) (kc : ∀ y : Int32 × Int32, r = .inl y → ∀ (H : Heap) (locs : List Loc) (c1 s1 : Nat) (ls : Array Slot), Wd G ρ h0.length (sl h0) s.heap hB H locs c1 s1 → lv_has ls 3 [(0, .ref (ρ x0)), (1, .int y.1), (2, .int y.2)] → W p l e (RM 0 0 h0 hE) s m args below meth c H locs c1 s1 Q (F0 m 4 ls [])) (kr : ∀ v : Int32, r = .inr (.inl v) → ∀ (H : Heap) (locs : List Loc) (c1 s1 : Nat) (ls : Array Slot) (pc : Nat), Wd G ρ h0.length (sl h0) s.heap hB H locs c1 s1 → decode cX8_verdict pc = .ok (.ireturn, 1) → W p l e (RM 0 0 h0 hE) s m args below meth c H locs c1 s1 Q (F0 m pc ls [.int v])) (ke : ∀ z : Int32, r = .inr (.inr z) → ∀ (H : Heap) (locs : List Loc) (c1 s1 : Nat) (ls : Array Slot), Wd G ρ h0.length (sl h0) s.heap hB H locs c1 s1 → lv_has ls 3 [(1, .int z)] → W p l e (RM 0 0 h0 hE) s m args below meth c H locs c1 s1 Q (F0 m 64 ls [])) : W p l e (RM 0 0 h0 hE) s m args below meth c H locs cells slots Q (F0 m 4 ls []) := by
  have hx := C.1
  have hb := C.2.1
  unfold fX8_verdict_b4 at hf
  refine lv_iload_n hx hb dX8_verdict_4 rfl (lv_at hl 2 rfl) ?_
  refine lv_aload_n hx hb dX8_verdict_5 rfl (lv_at hl 0 rfl) ?_
  obtain ⟨v1, e1, hf⟩ := pb_rd (rd_gA _ _ _) hf
  refine r_gA C hW e1 flX8_9 rfl dX8_verdict_6 ?_
  obtain ⟨v2, e2, hf⟩ := pb_rd (rd_gI _ _ _) hf
  refine r_gI C hW e2 flX8_63 rfl dX8_verdict_9 ?_
  refine lv_icmp_ge (tgt := 64) hx hb dX8_verdict_12 (by decide) (fun c3 => ?_) (fun c3 => ?_)
  · rw [if_pos c3] at hf
    obtain ⟨rfl, rfl⟩ := pp_some hf
    exact ke _ rfl _ _ _ _ _ hW (lv_sub hl [1] rfl)
  · rw [if_neg c3] at hf
    refine lv_aload_n hx hb dX8_verdict_15 rfl (lv_at hl 0 rfl) ?_
    obtain ⟨v4, e4, hf⟩ := pb_rd (rd_gA _ _ _) hf
    refine r_gA C hW e4 flX8_15 rfl dX8_verdict_16 ?_
    refine lv_iload_n hx hb dX8_verdict_19 rfl (lv_at hl 2 rfl) ?_
    obtain ⟨v5, e5, hf⟩ := pb_rd (rd_lJ _ _ _) hf
    refine r_lald C hW e5 dX8_verdict_20 ?_
    refine r_ldc2 (v := 1000000000000) C (tq q_551 rfl) dX8_verdict_21 ?_
    refine W.lcmp hx hb dX8_verdict_24 ?_
    refine lv_if_gt (tgt := 41) hx hb dX8_verdict_25 (by decide) (fun c6 => ?_) (fun c6 => ?_)
    · rw [if_pos c6] at hf
      refine lv_bipush (v := -3) hx hb dX8_verdict_41 (by decide) ?_
      obtain ⟨rfl, rfl⟩ := pp_some hf
      exact kr _ rfl _ _ _ _ _ _ hW dX8_verdict_43
    · rw [if_neg c6] at hf
      refine lv_aload_n hx hb dX8_verdict_28 rfl (lv_at hl 0 rfl) ?_
      obtain ⟨v7, e7, hf⟩ := pb_rd (rd_gA _ _ _) hf
      refine r_gA C hW e7 flX8_15 rfl dX8_verdict_29 ?_
      refine lv_iload_n hx hb dX8_verdict_32 rfl (lv_at hl 2 rfl) ?_
      obtain ⟨v8, e8, hf⟩ := pb_rd (rd_lJ _ _ _) hf
      refine r_lald C hW e8 dX8_verdict_33 ?_
      refine r_ldc2 (v := -1000000000000) C (tq q_552 rfl) dX8_verdict_34 ?_
      refine W.lcmp hx hb dX8_verdict_37 ?_
      refine lv_if_ge (tgt := 44) hx hb dX8_verdict_38 (by decide) (fun c9 => ?_) (fun c9 => ?_)
      · rw [if_pos c9] at hf
        refine lv_aload_n hx hb dX8_verdict_44 rfl (lv_at hl 0 rfl) ?_
        obtain ⟨v10, e10, hf⟩ := pb_rd (rd_gA _ _ _) hf
        refine r_gA C hW e10 flX8_15 rfl dX8_verdict_45 ?_
        refine lv_iload_n hx hb dX8_verdict_48 rfl (lv_at hl 2 rfl) ?_
        obtain ⟨v11, e11, hf⟩ := pb_rd (rd_lJ _ _ _) hf
        refine r_lald C hW e11 dX8_verdict_49 ?_
        refine lv_lconst (v := 0) hx hb dX8_verdict_50 (by decide) ?_
        refine W.lcmp hx hb dX8_verdict_51 ?_
        refine lv_if_eq (tgt := 58) hx hb dX8_verdict_52 (by decide) (fun c12 => ?_) (fun c12 => ?_)
        · rw [if_pos c12] at hf
          refine lv_iinc (v := (x2 + 1)) (lv' := [(2, .int (x2 + 1)), (0, .ref (ρ x0)), (1, .int x1)]) hx hb dX8_verdict_58 hl (k := 2) rfl rfl (by decide) rfl (fun ls hl => ?_)
          refine lv_goto (tgt := 4) hx hb dX8_verdict_61 (by decide) ?_
          obtain ⟨rfl, rfl⟩ := pp_some hf
          exact kc _ rfl _ _ _ _ _ hW (lv_sub hl [1, 2, 0] rfl)
        · rw [if_neg c12] at hf
          refine lv_iinc (v := (x1 + 1)) (lv' := [(1, .int (x1 + 1)), (0, .ref (ρ x0)), (2, .int x2)]) hx hb dX8_verdict_55 hl (k := 1) rfl rfl (by decide) rfl (fun ls hl => ?_)
          refine lv_iinc (v := (x2 + 1)) (lv' := [(2, .int (x2 + 1)), (1, .int (x1 + 1)), (0, .ref (ρ x0))]) hx hb dX8_verdict_58 hl (k := 2) rfl rfl (by decide) rfl (fun ls hl => ?_)
          refine lv_goto (tgt := 4) hx hb dX8_verdict_61 (by decide) ?_
          obtain ⟨rfl, rfl⟩ := pp_some hf
          exact kc _ rfl _ _ _ _ _ hW (lv_sub hl [2, 1, 0] rfl)
      · rw [if_neg c9] at hf
        refine lv_bipush (v := -3) hx hb dX8_verdict_41 (by decide) ?_
        obtain ⟨rfl, rfl⟩ := pp_some hf
        exact kr _ rfl _ _ _ _ _ _ hW dX8_verdict_43
set_option maxHeartbeats 4000000 in
theorem wX8_verdict_L4 {p : Program} {l : Launch} {e : Env} {s : State} {m : MethodId} {args : Array Value} {below : List Frame} {meth : Method} {c : Code} {G : GG} {ρ : Nat → Nat} {h0 hE hB : PH} {Q : State → Prop} {x0 : Nat} (C : Cx G "PairSymbols$State" cX8_verdict 3 (some .int) "verdict" p s m args meth c) {z : (Int32 ⊕ (Int32))} (n : Nat) : ∀ (x : Int32 × Int32) {h : PH} {H : Heap} {locs : List Loc} {cells slots : Nat} {ls : Array Slot}, (plo (fX8_verdict_B4 x0) n x).1 h = some (z, hB) → Ext hB hE → Wd G ρ h0.length (sl h0) s.heap h H locs cells slots → lv_has ls 3 [(0, .ref (ρ x0)), (1, .int x.1), (2, .int x.2)] → (kr : ∀ v : Int32, z = .inl v → ∀ (H : Heap) (locs : List Loc) (c1 s1 : Nat) (ls : Array Slot) (pc : Nat), Wd G ρ h0.length (sl h0) s.heap hB H locs c1 s1 → decode cX8_verdict pc = .ok (.ireturn, 1) → W p l e (RM 0 0 h0 hE) s m args below meth c H locs c1 s1 Q (F0 m pc ls [.int v])) → (ke : ∀ y : Int32, z = .inr y → ∀ (H : Heap) (locs : List Loc) (c1 s1 : Nat) (ls : Array Slot), Wd G ρ h0.length (sl h0) s.heap hB H locs c1 s1 → lv_has ls 3 [(1, .int y)] → W p l e (RM 0 0 h0 hE) s m args below meth c H locs c1 s1 Q (F0 m 64 ls [])) → W p l e (RM 0 0 h0 hE) s m args below meth c H locs cells slots Q (F0 m 4 ls []) := by
  induction n with
  | zero =>
    intro x h H locs cells slots ls hf
    rw [plo_0] at hf
    exact (pf_no hf).elim
  | succ n ih =>
    intro x h H locs cells slots ls hf hX hW hl kr ke
    rw [plo_s] at hf
    obtain ⟨r, h1, e1, hf⟩ := pb_some hf
    unfold fX8_verdict_B4 at e1
    rw [frI_eq, frI_eq] at e1
    refine wX8_verdict_B4 C e1 ((pext hf).tr hX) hW hl (fun y hr H locs c1 s1 ls hW hl => ?_) (fun v hr H locs c1 s1 ls pc hW hd => ?_) (fun y hr H locs c1 s1 ls hW hl => ?_)
    · subst hr
      exact ih y hf hX hW hl kr ke
    · subst hr
      obtain ⟨rfl, rfl⟩ := pp_some hf
      exact kr v rfl H locs c1 s1 ls pc hW hd
    · subst hr
      obtain ⟨rfl, rfl⟩ := pp_some hf
      exact ke y rfl H locs c1 s1 ls hW hl
set_option maxHeartbeats 4000000 in
set_option maxRecDepth 100000 in
theorem metX8_verdict (l : Launch) (G : GG) (ρ : Nat → Nat) {z : Nat} {x0 : Nat} {h hE : PH} {v : Int32} (hf : (fX8_verdict x0).1 h = some (v, hE)) : Met l yX8_verdict (wsY yX8_verdict cX8_verdict 3 (some .int)) (RM 0 0 h hE) (va_Pc [.ref (ρ x0)] (PcB G ρ h z)) (QI G ρ v hE h.length z) (DC h hE) (DS h hE) (Af ρ h.length z) := by
  refine met_start (by decide) (Nat.le_of_ble_eq_true rfl) ?_
  intro p e s m below meth c ls hz C hW hl
  subst hz
  have C : Cx G "PairSymbols$State" cX8_verdict 3 (some .int) "verdict" p s m _ meth c := C
  have hx := C.1
  have hb := C.2.1
  have hX : Ext hE hE := Ext.rf hE
  have hl : lv_has ls 3 [(0, .ref (ρ x0))] := hl
  have hW : Wd G ρ h.length (sl h) s.heap h s.heap [] 0 0 := hW
  unfold fX8_verdict at hf
  obtain ⟨_, e0, hf⟩ := pb_rd (rd_chk _ _) hf
  refine lv_iconst (v := 0) hx hb dX8_verdict_0 (by decide) ?_
  refine lv_istore_n (lv' := [(1, .int (0 : Int32)), (0, .ref (ρ x0))]) hx hb dX8_verdict_1 rfl hl (by decide) rfl (fun ls hl => ?_)
  refine lv_iconst (v := 0) hx hb dX8_verdict_2 (by decide) ?_
  refine lv_istore_n (lv' := [(2, .int (0 : Int32)), (1, .int (0 : Int32)), (0, .ref (ρ x0))]) hx hb dX8_verdict_3 rfl hl (by decide) rfl (fun ls hl => ?_)
  obtain ⟨z13, h13, e13, hf⟩ := pb_some hf
  refine wX8_verdict_L4 C fu _ e13 ((pext hf).tr hX) hW (lv_sub hl [2, 1, 0] rfl) (fun v13 hz H locs c1 s1 ls pc hW hd => ?_) (fun z14 hz H locs c1 s1 ls hW hl => ?_)
  · subst hz
    obtain ⟨rfl, rfl⟩ := pp_some hf
    exact r_iret C hW hd
  · subst hz
    try dsimp only at hf
    refine lv_iload_n hx hb dX8_verdict_64 rfl (lv_at hl 0 rfl) ?_
    obtain ⟨rfl, rfl⟩ := pp_some hf
    exact r_iret C hW dX8_verdict_65

theorem dX8_addMultiple_0 : decode cX8_addMultiple 0 = .ok (.aload_n 0, 1) := by decide +kernel
theorem dX8_addMultiple_1 : decode cX8_addMultiple 1 = .ok (.getfield 9, 3) := by decide +kernel
theorem dX8_addMultiple_4 : decode cX8_addMultiple 4 = .ok (.iload_n 1, 1) := by decide +kernel
theorem dX8_addMultiple_5 : decode cX8_addMultiple 5 = .ok (.invokevirtual 31, 3) := by decide +kernel
theorem dX8_addMultiple_8 : decode cX8_addMultiple 8 = .ok (.ifCond .eq 16, 3) := by decide +kernel
theorem dX8_addMultiple_11 : decode cX8_addMultiple 11 = .ok (.iload_n 2, 1) := by decide +kernel
theorem dX8_addMultiple_12 : decode cX8_addMultiple 12 = .ok (.sipush (-999), 3) := by decide +kernel
theorem dX8_addMultiple_15 : decode cX8_addMultiple 15 = .ok (.sipush 999, 3) := by decide +kernel
theorem dX8_addMultiple_18 : decode cX8_addMultiple 18 = .ok (.invokestatic 37, 3) := by decide +kernel
theorem dX8_addMultiple_21 : decode cX8_addMultiple 21 = .ok (.ifCond .ne 6, 3) := by decide +kernel
theorem dX8_addMultiple_24 : decode cX8_addMultiple 24 = .ok (.bipush (-2), 2) := by decide +kernel
theorem dX8_addMultiple_26 : decode cX8_addMultiple 26 = .ok (.ireturn, 1) := by decide +kernel
theorem dX8_addMultiple_27 : decode cX8_addMultiple 27 = .ok (.aload_n 0, 1) := by decide +kernel
theorem dX8_addMultiple_28 : decode cX8_addMultiple 28 = .ok (.iload_n 1, 1) := by decide +kernel
theorem dX8_addMultiple_29 : decode cX8_addMultiple 29 = .ok (.iload_n 2, 1) := by decide +kernel
theorem dX8_addMultiple_30 : decode cX8_addMultiple 30 = .ok (.invokevirtual 41, 3) := by decide +kernel
theorem dX8_addMultiple_33 : decode cX8_addMultiple 33 = .ok (.aload_n 0, 1) := by decide +kernel
theorem dX8_addMultiple_34 : decode cX8_addMultiple 34 = .ok (.invokevirtual 45, 3) := by decide +kernel
theorem dX8_addMultiple_37 : decode cX8_addMultiple 37 = .ok (.ireturn, 1) := by decide +kernel
theorem kcX8_addMultiple : Cond.code yX8_addMultiple cX8_addMultiple 3 (some .int) ∈ tb := tq q_540 rfl
theorem knX8_addMultiple : Cond.initialized yX8_addMultiple.cls ∈ tb := (tq q_6 rfl)
theorem kdX8_addMultiple : yX8_addMultiple.cls ≠ "java/lang/invoke/MethodHandle" ∧ yX8_addMultiple.cls ≠ "java/lang/invoke/VarHandle" ∧ (parseMethodDescriptor yX8_addMultiple.desc).map (fun d => d.parameters.length) = some 2 := ⟨by decide +kernel, by decide +kernel, by decide +kernel⟩
theorem kiX8_addMultiple : Cond.instanceMethod yX8_addMultiple ∈ tb := (tq q_538 rfl)
theorem ksX8_addMultiple : Cond.selects yX8_addMultiple.cls yX8_addMultiple yX8_addMultiple ∈ tb := (tq q_539 rfl)
theorem tgX8_addMultiple {x0 : Nat} {x1 : Int32} {x2 : Int32} {h : PH} {r : Int32 × PH} (hf : (fX8_addMultiple x0 x1 x2).1 h = some r) : ∃ n x, nth h x0 = some (7, n, x) := by
  obtain ⟨_, _, e, _⟩ := pb_some hf
  exact (chk_some e).2
set_option maxHeartbeats 4000000 in
set_option maxRecDepth 100000 in
theorem metX8_addMultiple (l : Launch) (G : GG) (ρ : Nat → Nat) {z : Nat} {x0 : Nat} {x1 : Int32} {x2 : Int32} {h hE : PH} {v : Int32} (hf : (fX8_addMultiple x0 x1 x2).1 h = some (v, hE)) : Met l yX8_addMultiple (wsY yX8_addMultiple cX8_addMultiple 3 (some .int)) (RM 2 44 h hE) (va_Pc [.ref (ρ x0), .int x1, .int x2] (PcB G ρ h z)) (QI G ρ v hE h.length z) (DC h hE) (DS h hE) (Af ρ h.length z) := by
  refine met_start (by decide) (Nat.le_of_ble_eq_true rfl) ?_
  intro p e s m below meth c ls hz C hW hl
  subst hz
  have C : Cx G "PairSymbols$State" cX8_addMultiple 3 (some .int) "addMultiple" p s m _ meth c := C
  have hx := C.1
  have hb := C.2.1
  have hX : Ext hE hE := Ext.rf hE
  have hl : lv_has ls 3 [(0, .ref (ρ x0)), (1, .int x1), (2, .int x2)] := hl
  have hW : Wd G ρ h.length (sl h) s.heap h s.heap [] 0 0 := hW
  unfold fX8_addMultiple at hf
  obtain ⟨_, e0, hf⟩ := pb_rd (rd_chk _ _) hf
  refine lv_aload_n hx hb dX8_addMultiple_0 rfl (lv_at hl 0 rfl) ?_
  obtain ⟨v1, e1, hf⟩ := pb_rd (rd_gA _ _ _) hf
  refine r_gA C hW e1 flX8_9 rfl dX8_addMultiple_1 ?_
  refine lv_iload_n hx hb dX8_addMultiple_4 rfl (lv_at hl 1 rfl) ?_
  obtain ⟨v2, h2, e2, hf⟩ := pb_some hf
  obtain ⟨_, _, t3⟩ := tgX3_hasSymbol e2
  refine r_calli hW (pext e2) (run_V (b := v1) (As := [.int x1]) (rest := []) C hW (metX3_hasSymbol l G ρ e2) ⟨rfl, rfl⟩ kcX3_hasSymbol (tq q_541 rfl) kiX3_hasSymbol ksX3_hasSymbol knX3_hasSymbol kdX3_hasSymbol t3 rfl rfl ⟨Nat.le_of_ble_eq_true rfl, Nat.le_of_ble_eq_true rfl⟩ hl.1 (Nat.le_of_ble_eq_true rfl) (room_of hW (pext e2) ((pext hf).tr hX)) dX8_addMultiple_5 rfl) (fun H locs c1 s1 hW => ?_)
  refine lv_if_eq (tgt := 24) hx hb dX8_addMultiple_8 (by decide) (fun c4 => ?_) (fun c4 => ?_)
  · rw [if_pos c4] at hf
    refine lv_bipush (v := -2) hx hb dX8_addMultiple_24 (by decide) ?_
    obtain ⟨rfl, rfl⟩ := pp_some hf
    exact r_iret C hW dX8_addMultiple_26
  · rw [if_neg c4] at hf
    refine lv_iload_n hx hb dX8_addMultiple_11 rfl (lv_at hl 2 rfl) ?_
    refine lv_sipush (v := -999) hx hb dX8_addMultiple_12 (by decide) ?_
    refine lv_sipush (v := 999) hx hb dX8_addMultiple_15 (by decide) ?_
    obtain ⟨v5, h5, e5, hf⟩ := pb_some hf
    refine r_calli hW (pext e5) (run_SN (As := [.int x2, .int (-999 : Int32), .int (999 : Int32)]) (rest := []) C hW (metX9_within l G ρ e5) ⟨rfl, rfl⟩ kcX9_within (tq q_542 rfl) kiX9_within knX9_within kdX9_within ⟨Nat.le_of_ble_eq_true rfl, Nat.le_of_ble_eq_true rfl⟩ hl.1 (Nat.le_of_ble_eq_true rfl) (room_of hW (pext e5) ((pext hf).tr hX)) dX8_addMultiple_18 rfl) (fun H locs c1 s1 hW => ?_)
    refine lv_if_ne (tgt := 27) hx hb dX8_addMultiple_21 (by decide) (fun c6 => ?_) (fun c6 => ?_)
    · rw [if_neg c6] at hf
      refine lv_aload_n hx hb dX8_addMultiple_27 rfl (lv_at hl 0 rfl) ?_
      refine lv_iload_n hx hb dX8_addMultiple_28 rfl (lv_at hl 1 rfl) ?_
      refine lv_iload_n hx hb dX8_addMultiple_29 rfl (lv_at hl 2 rfl) ?_
      obtain ⟨_, h7, e7, hf⟩ := pb_some hf
      obtain ⟨_, _, t8⟩ := tgX8_addSymbol e7
      refine r_callv hW (pext e7) (run_V (b := x0) (As := [.int x1, .int x2]) (rest := []) C hW (metX8_addSymbol l G ρ e7) ⟨rfl, rfl⟩ kcX8_addSymbol (tq q_543 rfl) kiX8_addSymbol ksX8_addSymbol knX8_addSymbol kdX8_addSymbol t8 rfl rfl ⟨Nat.le_of_ble_eq_true rfl, Nat.le_of_ble_eq_true rfl⟩ hl.1 (Nat.le_of_ble_eq_true rfl) (room_of hW (pext e7) ((pext hf).tr hX)) dX8_addMultiple_30 rfl) (fun H locs c1 s1 hW => ?_)
      refine lv_aload_n hx hb dX8_addMultiple_33 rfl (lv_at hl 0 rfl) ?_
      obtain ⟨v9, h9, e9, hf⟩ := pb_some hf
      obtain ⟨_, _, t10⟩ := tgX8_verdict e9
      refine r_calli hW (pext e9) (run_V (b := x0) (As := []) (rest := []) C hW (metX8_verdict l G ρ e9) ⟨rfl, rfl⟩ kcX8_verdict (tq q_547 rfl) kiX8_verdict ksX8_verdict knX8_verdict kdX8_verdict t10 rfl rfl ⟨Nat.le_of_ble_eq_true rfl, Nat.le_of_ble_eq_true rfl⟩ hl.1 (Nat.le_of_ble_eq_true rfl) (room_of hW (pext e9) ((pext hf).tr hX)) dX8_addMultiple_34 rfl) (fun H locs c1 s1 hW => ?_)
      obtain ⟨rfl, rfl⟩ := pp_some hf
      exact r_iret C hW dX8_addMultiple_37
    · rw [if_pos c6] at hf
      refine lv_bipush (v := -2) hx hb dX8_addMultiple_24 (by decide) ?_
      obtain ⟨rfl, rfl⟩ := pp_some hf
      exact r_iret C hW dX8_addMultiple_26

theorem dX9_adds_0 : decode cX9_adds 0 = .ok (.aload_n 0, 1) := by decide +kernel
theorem dX9_adds_1 : decode cX9_adds 1 = .ok (.getfield 27, 3) := by decide +kernel
theorem dX9_adds_4 : decode cX9_adds 4 = .ok (.aload_n 0, 1) := by decide +kernel
theorem dX9_adds_5 : decode cX9_adds 5 = .ok (.getfield 23, 3) := by decide +kernel
theorem dX9_adds_8 : decode cX9_adds 8 = .ok (.invokevirtual 51, 3) := by decide +kernel
theorem dX9_adds_11 : decode cX9_adds 11 = .ok (.aload_n 0, 1) := by decide +kernel
theorem dX9_adds_12 : decode cX9_adds 12 = .ok (.aload_n 0, 1) := by decide +kernel
theorem dX9_adds_13 : decode cX9_adds 13 = .ok (.getfield 27, 3) := by decide +kernel
theorem dX9_adds_16 : decode cX9_adds 16 = .ok (.iload_n 1, 1) := by decide +kernel
theorem dX9_adds_17 : decode cX9_adds 17 = .ok (.iload_n 2, 1) := by decide +kernel
theorem dX9_adds_18 : decode cX9_adds 18 = .ok (.invokevirtual 189, 3) := by decide +kernel
theorem dX9_adds_21 : decode cX9_adds 21 = .ok (.invokevirtual 59, 3) := by decide +kernel
theorem dX9_adds_24 : decode cX9_adds 24 = .ok (.ireturn, 1) := by decide +kernel
theorem kcX9_adds : Cond.code yX9_adds cX9_adds 3 (some .int) ∈ tb := tq q_536 rfl
theorem knX9_adds : Cond.initialized yX9_adds.cls ∈ tb := (tq q_1 rfl)
theorem kdX9_adds : yX9_adds.cls ≠ "java/lang/invoke/MethodHandle" ∧ yX9_adds.cls ≠ "java/lang/invoke/VarHandle" ∧ (parseMethodDescriptor yX9_adds.desc).map (fun d => d.parameters.length) = some 2 := ⟨by decide +kernel, by decide +kernel, by decide +kernel⟩
theorem kiX9_adds : Cond.instanceMethod yX9_adds ∈ tb := (tq q_534 rfl)
theorem ksX9_adds : Cond.selects yX9_adds.cls yX9_adds yX9_adds ∈ tb := (tq q_535 rfl)
theorem tgX9_adds {x0 : Nat} {x1 : Int32} {x2 : Int32} {h : PH} {r : Int32 × PH} (hf : (fX9_adds x0 x1 x2).1 h = some r) : ∃ n x, nth h x0 = some (8, n, x) := by
  obtain ⟨_, _, e, _⟩ := pb_some hf
  exact (chk_some e).2
set_option maxHeartbeats 4000000 in
set_option maxRecDepth 100000 in
theorem metX9_adds (l : Launch) (G : GG) (ρ : Nat → Nat) {z : Nat} {x0 : Nat} {x1 : Int32} {x2 : Int32} {h hE : PH} {v : Int32} (hf : (fX9_adds x0 x1 x2).1 h = some (v, hE)) : Met l yX9_adds (wsY yX9_adds cX9_adds 3 (some .int)) (RM 4 143 h hE) (va_Pc [.ref (ρ x0), .int x1, .int x2] (PcB G ρ h z)) (QI G ρ v hE h.length z) (DC h hE) (DS h hE) (Af ρ h.length z) := by
  refine met_start (by decide) (Nat.le_of_ble_eq_true rfl) ?_
  intro p e s m below meth c ls hz C hW hl
  subst hz
  have C : Cx G "PairSymbols" cX9_adds 3 (some .int) "adds" p s m _ meth c := C
  have hx := C.1
  have hb := C.2.1
  have hX : Ext hE hE := Ext.rf hE
  have hl : lv_has ls 3 [(0, .ref (ρ x0)), (1, .int x1), (2, .int x2)] := hl
  have hW : Wd G ρ h.length (sl h) s.heap h s.heap [] 0 0 := hW
  unfold fX9_adds at hf
  obtain ⟨_, e0, hf⟩ := pb_rd (rd_chk _ _) hf
  refine lv_aload_n hx hb dX9_adds_0 rfl (lv_at hl 0 rfl) ?_
  obtain ⟨v1, e1, hf⟩ := pb_rd (rd_gA _ _ _) hf
  refine r_gA C hW e1 flX9_27 rfl dX9_adds_1 ?_
  refine lv_aload_n hx hb dX9_adds_4 rfl (lv_at hl 0 rfl) ?_
  obtain ⟨v2, e2, hf⟩ := pb_rd (rd_gA _ _ _) hf
  refine r_gA C hW e2 flX9_23 rfl dX9_adds_5 ?_
  obtain ⟨_, h3, e3, hf⟩ := pb_some hf
  obtain ⟨_, _, t4⟩ := tgX8_copyFrom e3
  refine r_callv hW (pext e3) (run_V (b := v1) (As := [.ref (ρ v2)]) (rest := []) C hW (metX8_copyFrom l G ρ e3) ⟨rfl, rfl⟩ kcX8_copyFrom (tq q_318 rfl) kiX8_copyFrom ksX8_copyFrom knX8_copyFrom kdX8_copyFrom t4 rfl rfl ⟨Nat.le_of_ble_eq_true rfl, Nat.le_of_ble_eq_true rfl⟩ hl.1 (Nat.le_of_ble_eq_true rfl) (room_of hW (pext e3) ((pext hf).tr hX)) dX9_adds_8 rfl) (fun H locs c1 s1 hW => ?_)
  refine lv_aload_n hx hb dX9_adds_11 rfl (lv_at hl 0 rfl) ?_
  refine lv_aload_n hx hb dX9_adds_12 rfl (lv_at hl 0 rfl) ?_
  obtain ⟨v5, e5, hf⟩ := pb_rd (rd_gA _ _ _) hf
  refine r_gA C hW e5 flX9_27 rfl dX9_adds_13 ?_
  refine lv_iload_n hx hb dX9_adds_16 rfl (lv_at hl 1 rfl) ?_
  refine lv_iload_n hx hb dX9_adds_17 rfl (lv_at hl 2 rfl) ?_
  obtain ⟨v6, h6, e6, hf⟩ := pb_some hf
  obtain ⟨_, _, t7⟩ := tgX8_addMultiple e6
  refine r_calli hW (pext e6) (run_V (b := v5) (As := [.int x1, .int x2]) (rest := [.ref (ρ x0)]) C hW (metX8_addMultiple l G ρ e6) ⟨rfl, rfl⟩ kcX8_addMultiple (tq q_537 rfl) kiX8_addMultiple ksX8_addMultiple knX8_addMultiple kdX8_addMultiple t7 rfl rfl ⟨Nat.le_of_ble_eq_true rfl, Nat.le_of_ble_eq_true rfl⟩ hl.1 (Nat.le_of_ble_eq_true rfl) (room_of hW (pext e6) ((pext hf).tr hX)) dX9_adds_18 rfl) (fun H locs c1 s1 hW => ?_)
  obtain ⟨v8, h8, e8, hf⟩ := pb_some hf
  obtain ⟨_, _, t9⟩ := tgX9_settle e8
  refine r_calli hW (pext e8) (run_V (b := x0) (As := [.int v6]) (rest := []) C hW (metX9_settle l G ρ e8) ⟨rfl, rfl⟩ kcX9_settle (tq q_339 rfl) kiX9_settle ksX9_settle knX9_settle kdX9_settle t9 rfl rfl ⟨Nat.le_of_ble_eq_true rfl, Nat.le_of_ble_eq_true rfl⟩ hl.1 (Nat.le_of_ble_eq_true rfl) (room_of hW (pext e8) ((pext hf).tr hX)) dX9_adds_21 rfl) (fun H locs c1 s1 hW => ?_)
  obtain ⟨rfl, rfl⟩ := pp_some hf
  exact r_iret C hW dX9_adds_24
