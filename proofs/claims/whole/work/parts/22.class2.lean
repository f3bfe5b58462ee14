theorem flX3_69 : FL "PairSymbols$Level" 69 3 10 true := ⟨_, CT3, by decide, (tq q_155 rfl), rfl, fun _ => Or.inr trivial⟩
theorem flX3_72 : FL "PairSymbols$Level" 72 3 12 true := ⟨_, CT3, by decide, (tq q_160 rfl), rfl, fun _ => Or.inr trivial⟩
theorem flX3_53 : FL "PairSymbols$Level" 53 3 9 true := ⟨_, CT3, by decide, (tq q_153 rfl), rfl, fun _ => Or.inr trivial⟩
theorem flX0_13 : FL "PairSymbols$Cycles" 13 0 0 true := ⟨_, CT0, by decide, (tq q_122 rfl), rfl, fun _ => Or.inr trivial⟩
theorem flX0_23 : FL "PairSymbols$Cycles" 23 0 1 true := ⟨_, CT0, by decide, (tq q_125 rfl), rfl, fun _ => Or.inr trivial⟩
theorem flX3_79 : FL "PairSymbols$Level" 79 3 13 true := ⟨_, CT3, by decide, (tq q_163 rfl), rfl, fun _ => Or.inr trivial⟩
theorem flX3_83 : FL "PairSymbols$Level" 83 3 11 true := ⟨_, CT3, by decide, (tq q_157 rfl), rfl, fun _ => Or.inr trivial⟩
theorem flX3_99 : FL "PairSymbols$Level" 99 3 14 true := ⟨_, CT3, by decide, (tq q_168 rfl), rfl, fun _ => Or.inr trivial⟩
theorem flX3_105 : FL "PairSymbols$Level" 105 3 15 true := ⟨_, CT3, by decide, (tq q_170 rfl), rfl, fun _ => Or.inr trivial⟩
theorem flX8_9 : FL "PairSymbols$State" 9 7 0 false := ⟨_, CT7, by decide, (tq q_211 rfl), rfl, fun _ => Or.inr trivial⟩
theorem flX8_15 : FL "PairSymbols$State" 15 7 1 true := ⟨_, CT7, by decide, (tq q_213 rfl), rfl, fun _ => Or.inr trivial⟩
theorem flX2_11 : FL "PairSymbols$History" 11 2 0 true := ⟨_, CT2, by decide, (tq q_230 rfl), rfl, fun _ => Or.inr trivial⟩
theorem flX7_9 : FL "PairSymbols$Script" 9 6 0 true := ⟨_, CT6, by decide, (tq q_244 rfl), rfl, fun _ => Or.inr trivial⟩
theorem flX7_15 : FL "PairSymbols$Script" 15 6 2 true := ⟨_, CT6, by decide, (tq q_247 rfl), rfl, fun _ => Or.inr trivial⟩
theorem flX7_19 : FL "PairSymbols$Script" 19 6 3 true := ⟨_, CT6, by decide, (tq q_249 rfl), rfl, fun _ => Or.inr trivial⟩
theorem flX7_22 : FL "PairSymbols$Script" 22 6 4 true := ⟨_, CT6, by decide, (tq q_251 rfl), rfl, fun _ => Or.inr trivial⟩
theorem flX1_9 : FL "PairSymbols$Formulas" 9 1 0 true := ⟨_, CT1, by decide, (tq q_282 rfl), rfl, fun _ => Or.inr trivial⟩
theorem flX9_14 : FL "PairSymbols" 14 8 0 true := ⟨_, CT8, by decide, (tq q_286 rfl), rfl, fun _ => Or.inr trivial⟩
theorem flX9_23 : FL "PairSymbols" 23 8 1 true := ⟨_, CT8, by decide, (tq q_287 rfl), rfl, fun _ => Or.inr trivial⟩
theorem flX9_27 : FL "PairSymbols" 27 8 2 true := ⟨_, CT8, by decide, (tq q_288 rfl), rfl, fun _ => Or.inr trivial⟩
theorem flX9_33 : FL "PairSymbols" 33 8 3 true := ⟨_, CT8, by decide, (tq q_289 rfl), rfl, fun _ => Or.inr trivial⟩
theorem flX9_40 : FL "PairSymbols" 40 8 4 true := ⟨_, CT8, by decide, (tq q_290 rfl), rfl, fun _ => Or.inr trivial⟩
theorem flX9_47 : FL "PairSymbols" 47 8 5 true := ⟨_, CT8, by decide, (tq q_291 rfl), rfl, fun _ => Or.inr trivial⟩
theorem flX9_62 : FL "PairSymbols" 62 7 0 false := ⟨_, CT7, by decide, (tq q_212 rfl), rfl, fun _ => Or.inr trivial⟩
theorem flX9_234 : FL "PairSymbols" 234 3 0 true := ⟨_, CT3, by decide, (tq q_135 rfl), rfl, fun _ => Or.inr trivial⟩
theorem flX9_231 : FL "PairSymbols" 231 8 8 false := ⟨_, CT8, by decide, (tq q_294 rfl), rfl, fun _ => Or.inr trivial⟩
theorem flX9_228 : FL "PairSymbols" 228 8 7 false := ⟨_, CT8, by decide, (tq q_293 rfl), rfl, fun _ => Or.inr trivial⟩
theorem flX9_225 : FL "PairSymbols" 225 8 6 false := ⟨_, CT8, by decide, (tq q_292 rfl), rfl, fun _ => Or.inr trivial⟩
theorem flX2_20 : FL "PairSymbols$History" 20 2 1 false := ⟨_, CT2, by decide, (tq q_231 rfl), rfl, fun _ => Or.inr trivial⟩
theorem flX9_66 : FL "PairSymbols" 66 3 2 true := ⟨_, CT3, by decide, (tq q_138 rfl), rfl, fun _ => Or.inr trivial⟩
theorem flX9_77 : FL "PairSymbols" 77 3 3 true := ⟨_, CT3, by decide, (tq q_141 rfl), rfl, fun _ => Or.inr trivial⟩
theorem flX9_81 : FL "PairSymbols" 81 3 4 true := ⟨_, CT3, by decide, (tq q_144 rfl), rfl, fun _ => Or.inr trivial⟩
theorem flX9_84 : FL "PairSymbols" 84 3 5 true := ⟨_, CT3, by decide, (tq q_146 rfl), rfl, fun _ => Or.inr trivial⟩
theorem flX9_87 : FL "PairSymbols" 87 3 6 true := ⟨_, CT3, by decide, (tq q_148 rfl), rfl, fun _ => Or.inr trivial⟩
theorem flX9_90 : FL "PairSymbols" 90 3 7 true := ⟨_, CT3, by decide, (tq q_150 rfl), rfl, fun _ => Or.inr trivial⟩
theorem flX9_93 : FL "PairSymbols" 93 3 8 true := ⟨_, CT3, by decide, (tq q_152 rfl), rfl, fun _ => Or.inr trivial⟩
theorem flX9_96 : FL "PairSymbols" 96 3 11 true := ⟨_, CT3, by decide, (tq q_158 rfl), rfl, fun _ => Or.inr trivial⟩
theorem dX3_edge_0 : decode cX3_edge 0 = .ok (.aload_n 0, 1) := by decide +kernel
theorem dX3_edge_1 : decode cX3_edge 1 = .ok (.getfield 69, 3) := by decide +kernel
theorem dX3_edge_4 : decode cX3_edge 4 = .ok (.iload_n 1, 1) := by decide +kernel
theorem dX3_edge_5 : decode cX3_edge 5 = .ok (.iaload, 1) := by decide +kernel
theorem dX3_edge_6 : decode cX3_edge 6 = .ok (.istore_n 3, 1) := by decide +kernel
theorem dX3_edge_7 : decode cX3_edge 7 = .ok (.aload_n 0, 1) := by decide +kernel
theorem dX3_edge_8 : decode cX3_edge 8 = .ok (.getfield 47, 3) := by decide +kernel
theorem dX3_edge_11 : decode cX3_edge 11 = .ok (.iload_n 3, 1) := by decide +kernel
theorem dX3_edge_12 : decode cX3_edge 12 = .ok (.iaload, 1) := by decide +kernel
theorem dX3_edge_13 : decode cX3_edge 13 = .ok (.iload_n 2, 1) := by decide +kernel
theorem dX3_edge_14 : decode cX3_edge 14 = .ok (.if_icmp .ne 7, 3) := by decide +kernel
theorem dX3_edge_17 : decode cX3_edge 17 = .ok (.iconst 1, 1) := by decide +kernel
theorem dX3_edge_18 : decode cX3_edge 18 = .ok (.goto 4, 3) := by decide +kernel
theorem dX3_edge_21 : decode cX3_edge 21 = .ok (.iconst 0, 1) := by decide +kernel
theorem dX3_edge_22 : decode cX3_edge 22 = .ok (.istore 4, 2) := by decide +kernel
theorem dX3_edge_24 : decode cX3_edge 24 = .ok (.aload_n 0, 1) := by decide +kernel
theorem dX3_edge_25 : decode cX3_edge 25 = .ok (.getfield 47, 3) := by decide +kernel
theorem dX3_edge_28 : decode cX3_edge 28 = .ok (.aload_n 0, 1) := by decide +kernel
theorem dX3_edge_29 : decode cX3_edge 29 = .ok (.getfield 32, 3) := by decide +kernel
theorem dX3_edge_32 : decode cX3_edge 32 = .ok (.iload_n 3, 1) := by decide +kernel
theorem dX3_edge_33 : decode cX3_edge 33 = .ok (.iaload, 1) := by decide +kernel
theorem dX3_edge_34 : decode cX3_edge 34 = .ok (.iaload, 1) := by decide +kernel
theorem dX3_edge_35 : decode cX3_edge 35 = .ok (.iload_n 2, 1) := by decide +kernel
theorem dX3_edge_36 : decode cX3_edge 36 = .ok (.if_icmp .ne 7, 3) := by decide +kernel
theorem dX3_edge_39 : decode cX3_edge 39 = .ok (.iconst 1, 1) := by decide +kernel
theorem dX3_edge_40 : decode cX3_edge 40 = .ok (.goto 4, 3) := by decide +kernel
theorem dX3_edge_43 : decode cX3_edge 43 = .ok (.iconst 0, 1) := by decide +kernel
theorem dX3_edge_44 : decode cX3_edge 44 = .ok (.istore 5, 2) := by decide +kernel
theorem dX3_edge_46 : decode cX3_edge 46 = .ok (.iload 4, 2) := by decide +kernel
theorem dX3_edge_48 : decode cX3_edge 48 = .ok (.iload 5, 2) := by decide +kernel
theorem dX3_edge_50 : decode cX3_edge 50 = .ok (.isub, 1) := by decide +kernel
theorem dX3_edge_51 : decode cX3_edge 51 = .ok (.ireturn, 1) := by decide +kernel
theorem kcX3_edge : Cond.code yX3_edge cX3_edge 6 (some .int) ∈ tb := tq q_113 rfl
theorem knX3_edge : Cond.initialized yX3_edge.cls ∈ tb := (tq q_2 rfl)
theorem kdX3_edge : yX3_edge.cls ≠ "java/lang/invoke/MethodHandle" ∧ yX3_edge.cls ≠ "java/lang/invoke/VarHandle" ∧ (parseMethodDescriptor yX3_edge.desc).map (fun d => d.parameters.length) = some 2 := ⟨by decide +kernel, by decide +kernel, by decide +kernel⟩
theorem kiX3_edge : Cond.instanceMethod yX3_edge ∈ tb := (tq q_111 rfl)
theorem ksX3_edge : Cond.selects yX3_edge.cls yX3_edge yX3_edge ∈ tb := (tq q_112 rfl)
theorem tgX3_edge {x0 : Nat} {x1 : Int32} {x2 : Int32} {h : PH} {r : Int32 × PH} (hf : (fX3_edge x0 x1 x2).1 h = some r) : ∃ n x, nth h x0 = some (3, n, x) := by
  obtain ⟨_, _, e, _⟩ := pb_some hf
  exact (chk_some e).2
set_option maxHeartbeats 4000000 in
set_option maxRecDepth 100000 in
theorem metX3_edge (l : Launch) (G : GG) (ρ : Nat → Nat) {z : Nat} {x0 : Nat} {x1 : Int32} {x2 : Int32} {h hE : PH} {v : Int32} (hf : (fX3_edge x0 x1 x2).1 h = some (v, hE)) : Met l yX3_edge (wsY yX3_edge cX3_edge 6 (some .int)) (RM 0 0 h hE) (va_Pc [.ref (ρ x0), .int x1, .int x2] (PcB G ρ h z)) (QI G ρ v hE h.length z) (DC h hE) (DS h hE) (Af ρ h.length z) := by
  refine met_start (by decide) (Nat.le_of_ble_eq_true rfl) ?_
  intro p e s m below meth c ls hz C hW hl
  subst hz
  have C : Cx G "PairSymbols$Level" cX3_edge 6 (some .int) "edge" p s m _ meth c := C
  have hx := C.1
  have hb := C.2.1
  have hX : Ext hE hE := Ext.rf hE
  have hl : lv_has ls 6 [(0, .ref (ρ x0)), (1, .int x1), (2, .int x2)] := hl
  have hW : Wd G ρ h.length (sl h) s.heap h s.heap [] 0 0 := hW
  unfold fX3_edge at hf
  obtain ⟨_, e0, hf⟩ := pb_rd (rd_chk _ _) hf
  refine lv_aload_n hx hb dX3_edge_0 rfl (lv_at hl 0 rfl) ?_
  obtain ⟨v1, e1, hf⟩ := pb_rd (rd_gA _ _ _) hf
  refine r_gA C hW e1 flX3_69 rfl dX3_edge_1 ?_
  refine lv_iload_n hx hb dX3_edge_4 rfl (lv_at hl 1 rfl) ?_
  obtain ⟨v2, e2, hf⟩ := pb_rd (rd_lI _ _ _) hf
  refine r_iald C hW e2 dX3_edge_5 ?_
  refine lv_istore_n (lv' := [(3, .int v2), (0, .ref (ρ x0)), (1, .int x1), (2, .int x2)]) hx hb dX3_edge_6 rfl hl (by decide) rfl (fun ls hl => ?_)
  refine lv_aload_n hx hb dX3_edge_7 rfl (lv_at hl 1 rfl) ?_
  obtain ⟨v3, e3, hf⟩ := pb_rd (rd_gA _ _ _) hf
  refine r_gA C hW e3 flX3_47 rfl dX3_edge_8 ?_
  refine lv_iload_n hx hb dX3_edge_11 rfl (lv_at hl 0 rfl) ?_
  obtain ⟨v4, e4, hf⟩ := pb_rd (rd_lI _ _ _) hf
  refine r_iald C hW e4 dX3_edge_12 ?_
  refine lv_iload_n hx hb dX3_edge_13 rfl (lv_at hl 3 rfl) ?_
  refine lv_icmp_ne (tgt := 21) hx hb dX3_edge_14 (by decide) (fun c5 => ?_) (fun c5 => ?_)
  · rw [if_neg c5] at hf
    refine lv_iconst (v := 0) hx hb dX3_edge_21 (by decide) ?_
    refine lv_istore (lv' := [(4, .int (0 : Int32)), (3, .int v2), (0, .ref (ρ x0)), (1, .int x1), (2, .int x2)]) hx hb dX3_edge_22 hl (by decide) rfl (fun ls hl => ?_)
    refine lv_aload_n hx hb dX3_edge_24 rfl (lv_at hl 2 rfl) ?_
    obtain ⟨v6, e6, hf⟩ := pb_rd (rd_gA _ _ _) hf
    refine r_gA C hW e6 flX3_47 rfl dX3_edge_25 ?_
    refine lv_aload_n hx hb dX3_edge_28 rfl (lv_at hl 2 rfl) ?_
    obtain ⟨v7, e7, hf⟩ := pb_rd (rd_gA _ _ _) hf
    refine r_gA C hW e7 flX3_32 rfl dX3_edge_29 ?_
    refine lv_iload_n hx hb dX3_edge_32 rfl (lv_at hl 1 rfl) ?_
    obtain ⟨v8, e8, hf⟩ := pb_rd (rd_lI _ _ _) hf
    refine r_iald C hW e8 dX3_edge_33 ?_
    obtain ⟨v9, e9, hf⟩ := pb_rd (rd_lI _ _ _) hf
    refine r_iald C hW e9 dX3_edge_34 ?_
    refine lv_iload_n hx hb dX3_edge_35 rfl (lv_at hl 4 rfl) ?_
    refine lv_icmp_ne (tgt := 43) hx hb dX3_edge_36 (by decide) (fun c10 => ?_) (fun c10 => ?_)
    · rw [if_neg c10] at hf
      refine lv_iconst (v := 0) hx hb dX3_edge_43 (by decide) ?_
      refine lv_istore (lv' := [(5, .int (0 : Int32)), (4, .int (0 : Int32)), (3, .int v2), (0, .ref (ρ x0)), (1, .int x1), (2, .int x2)]) hx hb dX3_edge_44 hl (by decide) rfl (fun ls hl => ?_)
      refine lv_iload hx hb dX3_edge_46 (lv_at hl 1 rfl) ?_
      refine lv_iload hx hb dX3_edge_48 (lv_at hl 0 rfl) ?_
      refine lv_isub hx hb dX3_edge_50 ?_
      obtain ⟨rfl, rfl⟩ := pp_some hf
      exact r_iret C hW dX3_edge_51
    · rw [if_pos c10] at hf
      refine lv_iconst (v := 1) hx hb dX3_edge_39 (by decide) ?_
      refine lv_goto (tgt := 44) hx hb dX3_edge_40 (by decide) ?_
      refine lv_istore (lv' := [(5, .int (1 : Int32)), (4, .int (0 : Int32)), (3, .int v2), (0, .ref (ρ x0)), (1, .int x1), (2, .int x2)]) hx hb dX3_edge_44 hl (by decide) rfl (fun ls hl => ?_)
      refine lv_iload hx hb dX3_edge_46 (lv_at hl 1 rfl) ?_
      refine lv_iload hx hb dX3_edge_48 (lv_at hl 0 rfl) ?_
      refine lv_isub hx hb dX3_edge_50 ?_
      obtain ⟨rfl, rfl⟩ := pp_some hf
      exact r_iret C hW dX3_edge_51
  · rw [if_pos c5] at hf
    refine lv_iconst (v := 1) hx hb dX3_edge_17 (by decide) ?_
    refine lv_goto (tgt := 22) hx hb dX3_edge_18 (by decide) ?_
    refine lv_istore (lv' := [(4, .int (1 : Int32)), (3, .int v2), (0, .ref (ρ x0)), (1, .int x1), (2, .int x2)]) hx hb dX3_edge_22 hl (by decide) rfl (fun ls hl => ?_)
    refine lv_aload_n hx hb dX3_edge_24 rfl (lv_at hl 2 rfl) ?_
    obtain ⟨v11, e11, hf⟩ := pb_rd (rd_gA _ _ _) hf
    refine r_gA C hW e11 flX3_47 rfl dX3_edge_25 ?_
    refine lv_aload_n hx hb dX3_edge_28 rfl (lv_at hl 2 rfl) ?_
    obtain ⟨v12, e12, hf⟩ := pb_rd (rd_gA _ _ _) hf
    refine r_gA C hW e12 flX3_32 rfl dX3_edge_29 ?_
    refine lv_iload_n hx hb dX3_edge_32 rfl (lv_at hl 1 rfl) ?_
    obtain ⟨v13, e13, hf⟩ := pb_rd (rd_lI _ _ _) hf
    refine r_iald C hW e13 dX3_edge_33 ?_
    obtain ⟨v14, e14, hf⟩ := pb_rd (rd_lI _ _ _) hf
    refine r_iald C hW e14 dX3_edge_34 ?_
    refine lv_iload_n hx hb dX3_edge_35 rfl (lv_at hl 4 rfl) ?_
    refine lv_icmp_ne (tgt := 43) hx hb dX3_edge_36 (by decide) (fun c15 => ?_) (fun c15 => ?_)
    · rw [if_neg c15] at hf
      refine lv_iconst (v := 0) hx hb dX3_edge_43 (by decide) ?_
      refine lv_istore (lv' := [(5, .int (0 : Int32)), (4, .int (1 : Int32)), (3, .int v2), (0, .ref (ρ x0)), (1, .int x1), (2, .int x2)]) hx hb dX3_edge_44 hl (by decide) rfl (fun ls hl => ?_)
      refine lv_iload hx hb dX3_edge_46 (lv_at hl 1 rfl) ?_
      refine lv_iload hx hb dX3_edge_48 (lv_at hl 0 rfl) ?_
      refine lv_isub hx hb dX3_edge_50 ?_
      obtain ⟨rfl, rfl⟩ := pp_some hf
      exact r_iret C hW dX3_edge_51
    · rw [if_pos c15] at hf
      refine lv_iconst (v := 1) hx hb dX3_edge_39 (by decide) ?_
      refine lv_goto (tgt := 44) hx hb dX3_edge_40 (by decide) ?_
      refine lv_istore (lv' := [(5, .int (1 : Int32)), (4, .int (1 : Int32)), (3, .int v2), (0, .ref (ρ x0)), (1, .int x1), (2, .int x2)]) hx hb dX3_edge_44 hl (by decide) rfl (fun ls hl => ?_)
      refine lv_iload hx hb dX3_edge_46 (lv_at hl 1 rfl) ?_
      refine lv_iload hx hb dX3_edge_48 (lv_at hl 0 rfl) ?_
      refine lv_isub hx hb dX3_edge_50 ?_
      obtain ⟨rfl, rfl⟩ := pp_some hf
      exact r_iret C hW dX3_edge_51

theorem dX3_relateCoordinates_0 : decode cX3_relateCoordinates 0 = .ok (.aload_n 0, 1) := by decide +kernel
theorem dX3_relateCoordinates_1 : decode cX3_relateCoordinates 1 = .ok (.getfield 72, 3) := by decide +kernel
theorem dX3_relateCoordinates_4 : decode cX3_relateCoordinates 4 = .ok (.newarray .int, 2) := by decide +kernel
theorem dX3_relateCoordinates_6 : decode cX3_relateCoordinates 6 = .ok (.astore_n 2, 1) := by decide +kernel
theorem dX3_relateCoordinates_7 : decode cX3_relateCoordinates 7 = .ok (.iconst 0, 1) := by decide +kernel
theorem dX3_relateCoordinates_8 : decode cX3_relateCoordinates 8 = .ok (.istore_n 3, 1) := by decide +kernel
theorem dX3_relateCoordinates_9 : decode cX3_relateCoordinates 9 = .ok (.iload_n 3, 1) := by decide +kernel
theorem dX3_relateCoordinates_10 : decode cX3_relateCoordinates 10 = .ok (.aload_n 0, 1) := by decide +kernel
theorem dX3_relateCoordinates_11 : decode cX3_relateCoordinates 11 = .ok (.getfield 53, 3) := by decide +kernel
theorem dX3_relateCoordinates_14 : decode cX3_relateCoordinates 14 = .ok (.if_icmp .ge 43, 3) := by decide +kernel
theorem dX3_relateCoordinates_17 : decode cX3_relateCoordinates 17 = .ok (.iconst 0, 1) := by decide +kernel
theorem dX3_relateCoordinates_18 : decode cX3_relateCoordinates 18 = .ok (.istore 4, 2) := by decide +kernel
theorem dX3_relateCoordinates_20 : decode cX3_relateCoordinates 20 = .ok (.iload 4, 2) := by decide +kernel
theorem dX3_relateCoordinates_22 : decode cX3_relateCoordinates 22 = .ok (.aload_n 0, 1) := by decide +kernel
theorem dX3_relateCoordinates_23 : decode cX3_relateCoordinates 23 = .ok (.getfield 72, 3) := by decide +kernel
theorem dX3_relateCoordinates_26 : decode cX3_relateCoordinates 26 = .ok (.if_icmp .ge 20, 3) := by decide +kernel
theorem dX3_relateCoordinates_29 : decode cX3_relateCoordinates 29 = .ok (.aload_n 2, 1) := by decide +kernel
theorem dX3_relateCoordinates_30 : decode cX3_relateCoordinates 30 = .ok (.iload 4, 2) := by decide +kernel
theorem dX3_relateCoordinates_32 : decode cX3_relateCoordinates 32 = .ok (.aload_n 0, 1) := by decide +kernel
theorem dX3_relateCoordinates_33 : decode cX3_relateCoordinates 33 = .ok (.iload 4, 2) := by decide +kernel
theorem dX3_relateCoordinates_35 : decode cX3_relateCoordinates 35 = .ok (.iload_n 3, 1) := by decide +kernel
theorem dX3_relateCoordinates_36 : decode cX3_relateCoordinates 36 = .ok (.invokevirtual 124, 3) := by decide +kernel
theorem dX3_relateCoordinates_39 : decode cX3_relateCoordinates 39 = .ok (.iastore, 1) := by decide +kernel
theorem dX3_relateCoordinates_40 : decode cX3_relateCoordinates 40 = .ok (.iinc 4 1, 3) := by decide +kernel
theorem dX3_relateCoordinates_43 : decode cX3_relateCoordinates 43 = .ok (.goto (-23), 3) := by decide +kernel
theorem dX3_relateCoordinates_46 : decode cX3_relateCoordinates 46 = .ok (.aload_n 1, 1) := by decide +kernel
theorem dX3_relateCoordinates_47 : decode cX3_relateCoordinates 47 = .ok (.aload_n 2, 1) := by decide +kernel
theorem dX3_relateCoordinates_48 : decode cX3_relateCoordinates 48 = .ok (.invokevirtual 120, 3) := by decide +kernel
theorem dX3_relateCoordinates_51 : decode cX3_relateCoordinates 51 = .ok (.iinc 3 1, 3) := by decide +kernel
theorem dX3_relateCoordinates_54 : decode cX3_relateCoordinates 54 = .ok (.goto (-45), 3) := by decide +kernel
theorem dX3_relateCoordinates_57 : decode cX3_relateCoordinates 57 = .ok (.return_, 1) := by decide +kernel
theorem kcX3_relateCoordinates : Cond.code yX3_relateCoordinates cX3_relateCoordinates 5 none ∈ tb := tq q_109 rfl
theorem knX3_relateCoordinates : Cond.initialized yX3_relateCoordinates.cls ∈ tb := (tq q_2 rfl)
theorem kdX3_relateCoordinates : yX3_relateCoordinates.cls ≠ "java/lang/invoke/MethodHandle" ∧ yX3_relateCoordinates.cls ≠ "java/lang/invoke/VarHandle" ∧ (parseMethodDescriptor yX3_relateCoordinates.desc).map (fun d => d.parameters.length) = some 1 := ⟨by decide +kernel, by decide +kernel, by decide +kernel⟩
theorem kiX3_relateCoordinates : Cond.instanceMethod yX3_relateCoordinates ∈ tb := (tq q_108 rfl)
theorem ksX3_relateCoordinates : Cond.selects yX3_relateCoordinates.cls yX3_relateCoordinates yX3_relateCoordinates ∈ tb := (tq z_7 rfl)
theorem tgX3_relateCoordinates {x0 : Nat} {x1 : Nat} {h : PH} {r : Unit × PH} (hf : (fX3_relateCoordinates x0 x1).1 h = some r) : ∃ n x, nth h x0 = some (3, n, x) := by
  obtain ⟨_, _, e, _⟩ := pb_some hf
  exact (chk_some e).2
set_option maxHeartbeats 4000000 in
set_option maxRecDepth 100000 in
theorem wX3_relateCoordinates_B20 {p : Program} {l : Launch} {e : Env} {s : State} {m : MethodId} {args : Array Value} {below : List Frame} {meth : Method} {c : Code} {G : GG} {ρ : Nat → Nat} {h0 hE hB : PH} {Q : State → Prop} {x0 : Nat} {x1 : Nat} {x2 : Nat} {x3 : Int32} (C : Cx G "PairSymbols$Level" cX3_relateCoordinates 5 none "relateCoordinates" p s m args meth c) {x4 : Int32} {h : PH} {H : Heap} {locs : List Loc} {cells slots : Nat} {ls : Array Slot} {r : (Int32) ⊕ (Unit)} (hf : (fX3_relateCoordinates_b20 x0 x1 x2 x3 x4).1 h = some (r, hB)) (hX : Ext hB hE) (hW : Wd G ρ h0.length (sl h0) s.heap h H locs cells slots) (hl : lv_has ls 5 [(0, .ref (ρ x0)), (1, .ref (ρ x1)), (2, .ref (ρ x2)), (3, .int x3), (4, .int x4)]) (kc : ∀ y : Int32, r = .inl y → ∀ (H : Heap) (locs : List Loc) (c1 s1 : Nat) (ls : Array Slot), Wd G ρ h0.length (sl h0) s.heap hB H locs c1 s1 → lv_has ls 5 [(0, .ref (ρ x0)), (1, .ref (ρ x1)), (2, .ref (ρ x2)), (3, .int x3), (4, .int y)] → W p l e (RM 2 46 h0 hE) s m args below meth c H locs c1 s1 Q (F0 m 20 ls [])) (ke : ∀ z : Unit, r = .inr z → ∀ (H : Heap) (locs : List Loc) (c1 s1 : Nat) (ls : Array Slot), Wd G ρ h0.length (sl h0) s.heap hB H locs c1 s1 → lv_has ls 5 [(0, .ref (ρ x0)), (1, .ref (ρ x1)), (2, .ref (ρ x2)), (3, .int x3)] → W p l e (RM 2 46 h0 hE) s m args below meth c H locs c1 s1 Q (F0 m 46 ls [])) : W p l e (RM 2 46 h0 hE) s m args below meth c H locs cells slots Q (F0 m 20 ls []) := by
  have hx := C.1
  have hb := C.2.1
  unfold fX3_relateCoordinates_b20 at hf
  refine lv_iload hx hb dX3_relateCoordinates_20 (lv_at hl 4 rfl) ?_
  refine lv_aload_n hx hb dX3_relateCoordinates_22 rfl (lv_at hl 0 rfl) ?_
  obtain ⟨v5, e5, hf⟩ := pb_rd (rd_gI _ _ _) hf
  refine r_gI C hW e5 flX3_72 rfl dX3_relateCoordinates_23 ?_
  refine lv_icmp_ge (tgt := 46) hx hb dX3_relateCoordinates_26 (by decide) (fun c6 => ?_) (fun c6 => ?_)
  · rw [if_pos c6] at hf
    obtain ⟨rfl, rfl⟩ := pp_some hf
    exact ke _ rfl _ _ _ _ _ hW (lv_sub hl [0, 1, 2, 3] rfl)
  · rw [if_neg c6] at hf
    refine lv_aload_n hx hb dX3_relateCoordinates_29 rfl (lv_at hl 2 rfl) ?_
    refine lv_iload hx hb dX3_relateCoordinates_30 (lv_at hl 4 rfl) ?_
    refine lv_aload_n hx hb dX3_relateCoordinates_32 rfl (lv_at hl 0 rfl) ?_
    refine lv_iload hx hb dX3_relateCoordinates_33 (lv_at hl 4 rfl) ?_
    refine lv_iload_n hx hb dX3_relateCoordinates_35 rfl (lv_at hl 3 rfl) ?_
    obtain ⟨v7, h7, e7, hf⟩ := pb_some hf
    obtain ⟨_, _, t8⟩ := tgX3_edge e7
    refine r_calli hW (pext e7) (run_V (b := x0) (As := [.int x4, .int x3]) (rest := [.int x4, .ref (ρ x2)]) C hW (metX3_edge l G ρ e7) ⟨rfl, rfl⟩ kcX3_edge (tq q_110 rfl) kiX3_edge ksX3_edge knX3_edge kdX3_edge t8 rfl rfl ⟨Nat.le_of_ble_eq_true rfl, Nat.le_of_ble_eq_true rfl⟩ hl.1 (Nat.le_of_ble_eq_true rfl) (room_of hW (pext e7) ((pext hf).tr hX)) dX3_relateCoordinates_36 rfl) (fun H locs c1 s1 hW => ?_)
    obtain ⟨_, h9, e9, hf⟩ := pb_some hf
    refine r_iast C hW e9 dX3_relateCoordinates_39 (fun H locs hW => ?_)
    refine lv_iinc (v := (x4 + 1)) (lv' := [(4, .int (x4 + 1)), (0, .ref (ρ x0)), (1, .ref (ρ x1)), (2, .ref (ρ x2)), (3, .int x3)]) hx hb dX3_relateCoordinates_40 hl (k := 4) rfl rfl (by decide) rfl (fun ls hl => ?_)
    refine lv_goto (tgt := 20) hx hb dX3_relateCoordinates_43 (by decide) ?_
    obtain ⟨rfl, rfl⟩ := pp_some hf
    exact kc _ rfl _ _ _ _ _ hW (lv_sub hl [1, 2, 3, 4, 0] rfl)
set_option maxHeartbeats 4000000 in
theorem wX3_relateCoordinates_L20 {p : Program} {l : Launch} {e : Env} {s : State} {m : MethodId} {args : Array Value} {below : List Frame} {meth : Method} {c : Code} {G : GG} {ρ : Nat → Nat} {h0 hE hB : PH} {Q : State → Prop} {x0 : Nat} {x1 : Nat} {x2 : Nat} {x3 : Int32} (C : Cx G "PairSymbols$Level" cX3_relateCoordinates 5 none "relateCoordinates" p s m args meth c) {z : (Unit)} (n : Nat) : ∀ (x : Int32) {h : PH} {H : Heap} {locs : List Loc} {cells slots : Nat} {ls : Array Slot}, (plo (fX3_relateCoordinates_B20 x0 x1 x2 x3) n x).1 h = some (z, hB) → Ext hB hE → Wd G ρ h0.length (sl h0) s.heap h H locs cells slots → lv_has ls 5 [(0, .ref (ρ x0)), (1, .ref (ρ x1)), (2, .ref (ρ x2)), (3, .int x3), (4, .int x)] → (ke : ∀ (H : Heap) (locs : List Loc) (c1 s1 : Nat) (ls : Array Slot), Wd G ρ h0.length (sl h0) s.heap hB H locs c1 s1 → lv_has ls 5 [(0, .ref (ρ x0)), (1, .ref (ρ x1)), (2, .ref (ρ x2)), (3, .int x3)] → W p l e (RM 2 46 h0 hE) s m args below meth c H locs c1 s1 Q (F0 m 46 ls [])) → W p l e (RM 2 46 h0 hE) s m args below meth c H locs cells slots Q (F0 m 20 ls []) := by
  induction n with
  | zero =>
    intro x h H locs cells slots ls hf
    rw [plo_0] at hf
    exact (pf_no hf).elim
  | succ n ih =>
    intro x h H locs cells slots ls hf hX hW hl ke
    rw [plo_s] at hf
    obtain ⟨r, h1, e1, hf⟩ := pb_some hf
    unfold fX3_relateCoordinates_B20 at e1
    rw [frI_eq] at e1
    refine wX3_relateCoordinates_B20 C e1 ((pext hf).tr hX) hW hl (fun y hr H locs c1 s1 ls hW hl => ?_) (fun y hr H locs c1 s1 ls hW hl => ?_)
    · subst hr
      exact ih y hf hX hW hl ke
    · subst hr
      obtain ⟨rfl, rfl⟩ := pp_some hf
      exact ke H locs c1 s1 ls hW hl
set_option maxHeartbeats 4000000 in
set_option maxRecDepth 100000 in
theorem wX3_relateCoordinates_B9 {p : Program} {l : Launch} {e : Env} {s : State} {m : MethodId} {args : Array Value} {below : List Frame} {meth : Method} {c : Code} {G : GG} {ρ : Nat → Nat} {h0 hE hB : PH} {Q : State → Prop} {x0 : Nat} {x1 : Nat} {x2 : Nat} (C : Cx G "PairSymbols$Level" cX3_relateCoordinates 5 none "relateCoordinates" p s m args meth c) {x3 : Int32} {h : PH} {H : Heap} {locs : List Loc} {cells slots : Nat} {ls : Array Slot} {r : (Int32) ⊕ (Unit)} (hf : (fX3_relateCoordinates_b9 x0 x1 x2 x3).1 h = some (r, hB)) (hX : Ext hB hE) (hW : Wd G ρ h0.length (sl h0) s.heap h H locs cells slots) (hl : lv_has ls 5 [(0, .ref (ρ x0)), (1, .ref (ρ x1)), (2, .ref (ρ x2)), (3, .int x3)]) (kc : ∀ y : Int32, r = .inl y → ∀ (H : Heap) (locs : List Loc) (c1 s1 : Nat) (ls : Array Slot), Wd G ρ h0.length (sl h0) s.heap hB H locs c1 s1 → lv_has ls 5 [(0, .ref (ρ x0)), (1, .ref (ρ x1)), (2, .ref (ρ x2)), (3, .int y)] → W p l e (RM 2 46 h0 hE) s m args below meth c H locs c1 s1 Q (F0 m 9 ls [])) (ke : ∀ z : Unit, r = .inr z → ∀ (H : Heap) (locs : List Loc) (c1 s1 : Nat) (ls : Array Slot), Wd G ρ h0.length (sl h0) s.heap hB H locs c1 s1 → lv_has ls 5 [] → W p l e (RM 2 46 h0 hE) s m args below meth c H locs c1 s1 Q (F0 m 57 ls [])) : W p l e (RM 2 46 h0 hE) s m args below meth c H locs cells slots Q (F0 m 9 ls []) := by
  have hx := C.1
  have hb := C.2.1
  unfold fX3_relateCoordinates_b9 at hf
  refine lv_iload_n hx hb dX3_relateCoordinates_9 rfl (lv_at hl 3 rfl) ?_
  refine lv_aload_n hx hb dX3_relateCoordinates_10 rfl (lv_at hl 0 rfl) ?_
  obtain ⟨v3, e3, hf⟩ := pb_rd (rd_gI _ _ _) hf
  refine r_gI C hW e3 flX3_53 rfl dX3_relateCoordinates_11 ?_
  refine lv_icmp_ge (tgt := 57) hx hb dX3_relateCoordinates_14 (by decide) (fun c4 => ?_) (fun c4 => ?_)
  · rw [if_pos c4] at hf
    obtain ⟨rfl, rfl⟩ := pp_some hf
    exact ke _ rfl _ _ _ _ _ hW (lv_sub hl [] rfl)
  · rw [if_neg c4] at hf
    refine lv_iconst (v := 0) hx hb dX3_relateCoordinates_17 (by decide) ?_
    refine lv_istore (lv' := [(4, .int (0 : Int32)), (0, .ref (ρ x0)), (1, .ref (ρ x1)), (2, .ref (ρ x2)), (3, .int x3)]) hx hb dX3_relateCoordinates_18 hl (by decide) rfl (fun ls hl => ?_)
    obtain ⟨z10, h10, e10, hf⟩ := pb_some hf
    refine wX3_relateCoordinates_L20 C fu _ e10 ((pext hf).tr hX) hW (lv_sub hl [1, 2, 3, 4, 0] rfl) (fun H locs c1 s1 ls hW hl => ?_)
    refine lv_aload_n hx hb dX3_relateCoordinates_46 rfl (lv_at hl 1 rfl) ?_
    refine lv_aload_n hx hb dX3_relateCoordinates_47 rfl (lv_at hl 2 rfl) ?_
    obtain ⟨_, h11, e11, hf⟩ := pb_some hf
    obtain ⟨_, _, t12⟩ := tgX6_impose e11
    refine r_callv hW (pext e11) (run_V (b := x1) (As := [.ref (ρ x2)]) (rest := []) C hW (metX6_impose l G ρ e11) ⟨rfl, rfl⟩ kcX6_impose (tq q_86 rfl) kiX6_impose ksX6_impose knX6_impose kdX6_impose t12 rfl rfl ⟨Nat.le_of_ble_eq_true rfl, Nat.le_of_ble_eq_true rfl⟩ hl.1 (Nat.le_of_ble_eq_true rfl) (room_of hW (pext e11) ((pext hf).tr hX)) dX3_relateCoordinates_48 rfl) (fun H locs c1 s1 hW => ?_)
    refine lv_iinc (v := (x3 + 1)) (lv' := [(3, .int (x3 + 1)), (0, .ref (ρ x0)), (1, .ref (ρ x1)), (2, .ref (ρ x2))]) hx hb dX3_relateCoordinates_51 hl (k := 3) rfl rfl (by decide) rfl (fun ls hl => ?_)
    refine lv_goto (tgt := 9) hx hb dX3_relateCoordinates_54 (by decide) ?_
    obtain ⟨rfl, rfl⟩ := pp_some hf
    exact kc _ rfl _ _ _ _ _ hW (lv_sub hl [1, 2, 3, 0] rfl)
set_option maxHeartbeats 4000000 in
theorem wX3_relateCoordinates_L9 {p : Program} {l : Launch} {e : Env} {s : State} {m : MethodId} {args : Array Value} {below : List Frame} {meth : Method} {c : Code} {G : GG} {ρ : Nat → Nat} {h0 hE hB : PH} {Q : State → Prop} {x0 : Nat} {x1 : Nat} {x2 : Nat} (C : Cx G "PairSymbols$Level" cX3_relateCoordinates 5 none "relateCoordinates" p s m args meth c) {z : (Unit)} (n : Nat) : ∀ (x : Int32) {h : PH} {H : Heap} {locs : List Loc} {cells slots : Nat} {ls : Array Slot}, (plo (fX3_relateCoordinates_B9 x0 x1 x2) n x).1 h = some (z, hB) → Ext hB hE → Wd G ρ h0.length (sl h0) s.heap h H locs cells slots → lv_has ls 5 [(0, .ref (ρ x0)), (1, .ref (ρ x1)), (2, .ref (ρ x2)), (3, .int x)] → (ke : ∀ (H : Heap) (locs : List Loc) (c1 s1 : Nat) (ls : Array Slot), Wd G ρ h0.length (sl h0) s.heap hB H locs c1 s1 → lv_has ls 5 [] → W p l e (RM 2 46 h0 hE) s m args below meth c H locs c1 s1 Q (F0 m 57 ls [])) → W p l e (RM 2 46 h0 hE) s m args below meth c H locs cells slots Q (F0 m 9 ls []) := by
  induction n with
  | zero =>
    intro x h H locs cells slots ls hf
    rw [plo_0] at hf
    exact (pf_no hf).elim
  | succ n ih =>
    intro x h H locs cells slots ls hf hX hW hl ke
    rw [plo_s] at hf
    obtain ⟨r, h1, e1, hf⟩ := pb_some hf
    unfold fX3_relateCoordinates_B9 at e1
    rw [frI_eq] at e1
    refine wX3_relateCoordinates_B9 C e1 ((pext hf).tr hX) hW hl (fun y hr H locs c1 s1 ls hW hl => ?_) (fun y hr H locs c1 s1 ls hW hl => ?_)
    · subst hr
      exact ih y hf hX hW hl ke
    · subst hr
      obtain ⟨rfl, rfl⟩ := pp_some hf
      exact ke H locs c1 s1 ls hW hl
set_option maxHeartbeats 4000000 in
set_option maxRecDepth 100000 in
theorem metX3_relateCoordinates (l : Launch) (G : GG) (ρ : Nat → Nat) {z : Nat} {x0 : Nat} {x1 : Nat} {h hE : PH} {v : Unit} (hf : (fX3_relateCoordinates x0 x1).1 h = some (v, hE)) : Met l yX3_relateCoordinates (wsY yX3_relateCoordinates cX3_relateCoordinates 5 none) (RM 2 46 h hE) (va_Pc [.ref (ρ x0), .ref (ρ x1)] (PcB G ρ h z)) (QV G ρ hE h.length z) (DC h hE) (DS h hE) (Af ρ h.length z) := by
  refine met_start (by decide) (Nat.le_of_ble_eq_true rfl) ?_
  intro p e s m below meth c ls hz C hW hl
  subst hz
  have C : Cx G "PairSymbols$Level" cX3_relateCoordinates 5 none "relateCoordinates" p s m _ meth c := C
  have hx := C.1
  have hb := C.2.1
  have hX : Ext hE hE := Ext.rf hE
  have hl : lv_has ls 5 [(0, .ref (ρ x0)), (1, .ref (ρ x1))] := hl
  have hW : Wd G ρ h.length (sl h) s.heap h s.heap [] 0 0 := hW
  unfold fX3_relateCoordinates at hf
  obtain ⟨_, e0, hf⟩ := pb_rd (rd_chk _ _) hf
  refine lv_aload_n hx hb dX3_relateCoordinates_0 rfl (lv_at hl 0 rfl) ?_
  obtain ⟨v1, e1, hf⟩ := pb_rd (rd_gI _ _ _) hf
  refine r_gI C hW e1 flX3_72 rfl dX3_relateCoordinates_1 ?_
  obtain ⟨v2, h2, e2, hf⟩ := pb_some hf
  refine r_newa (t0 := 1) C hW .int e2 (by decide) rfl rfl (fun _ => rfl) (by decide) (fun q => q) (tq q_80 rfl) (room_of hW (pext e2) ((pext hf).tr hX)) dX3_relateCoordinates_4 (fun H c1 s1 hW => ?_)
  refine lv_astore_n (lv' := [(2, .ref (ρ v2)), (0, .ref (ρ x0)), (1, .ref (ρ x1))]) hx hb dX3_relateCoordinates_6 rfl hl (by decide) rfl (fun ls hl => ?_)
  refine lv_iconst (v := 0) hx hb dX3_relateCoordinates_7 (by decide) ?_
  refine lv_istore_n (lv' := [(3, .int (0 : Int32)), (2, .ref (ρ v2)), (0, .ref (ρ x0)), (1, .ref (ρ x1))]) hx hb dX3_relateCoordinates_8 rfl hl (by decide) rfl (fun ls hl => ?_)
  obtain ⟨z13, h13, e13, hf⟩ := pb_some hf
  refine wX3_relateCoordinates_L9 C fu _ e13 ((pext hf).tr hX) hW (lv_sub hl [2, 3, 1, 0] rfl) (fun H locs c1 s1 ls hW hl => ?_)
  obtain ⟨rfl, rfl⟩ := pp_some hf
  exact r_vret C hW dX3_relateCoordinates_57

theorem dX0_init_0 : decode cX0_init 0 = .ok (.aload_n 0, 1) := by decide +kernel
theorem dX0_init_1 : decode cX0_init 1 = .ok (.invokespecial 1, 3) := by decide +kernel
theorem dX0_init_4 : decode cX0_init 4 = .ok (.aload_n 0, 1) := by decide +kernel
theorem dX0_init_5 : decode cX0_init 5 = .ok (.aload_n 1, 1) := by decide +kernel
theorem dX0_init_6 : decode cX0_init 6 = .ok (.invokevirtual 7, 3) := by decide +kernel
theorem dX0_init_9 : decode cX0_init 9 = .ok (.putfield 13, 3) := by decide +kernel
theorem dX0_init_12 : decode cX0_init 12 = .ok (.aload_n 0, 1) := by decide +kernel
theorem dX0_init_13 : decode cX0_init 13 = .ok (.aload_n 1, 1) := by decide +kernel
theorem dX0_init_14 : decode cX0_init 14 = .ok (.aload_n 0, 1) := by decide +kernel
theorem dX0_init_15 : decode cX0_init 15 = .ok (.getfield 13, 3) := by decide +kernel
theorem dX0_init_18 : decode cX0_init 18 = .ok (.invokevirtual 19, 3) := by decide +kernel
theorem dX0_init_21 : decode cX0_init 21 = .ok (.putfield 23, 3) := by decide +kernel
theorem dX0_init_24 : decode cX0_init 24 = .ok (.return_, 1) := by decide +kernel
theorem kcX0_init : Cond.code yX0_init cX0_init 2 none ∈ tb := tq q_118 rfl
theorem knX0_init : Cond.initialized yX0_init.cls ∈ tb := (tq q_5 rfl)
theorem kdX0_init : yX0_init.cls ≠ "java/lang/invoke/MethodHandle" ∧ yX0_init.cls ≠ "java/lang/invoke/VarHandle" ∧ (parseMethodDescriptor yX0_init.desc).map (fun d => d.parameters.length) = some 1 := ⟨by decide +kernel, by decide +kernel, by decide +kernel⟩
theorem kiX0_init : Cond.instanceMethod yX0_init ∈ tb := (tq q_117 rfl)
theorem tgX0_init {x0 : Nat} {x1 : Nat} {h : PH} {r : Unit × PH} (hf : (fX0_init x0 x1).1 h = some r) : ∃ n x, nth h x0 = some (0, n, x) := by
  obtain ⟨_, _, e, _⟩ := pb_some hf
  exact (chk_some e).2
set_option maxHeartbeats 4000000 in
set_option maxRecDepth 100000 in
theorem metX0_init (l : Launch) (G : GG) (ρ : Nat → Nat) {z : Nat} {x0 : Nat} {x1 : Nat} {h hE : PH} {v : Unit} (hf : (fX0_init x0 x1).1 h = some (v, hE)) : Met l yX0_init (wsY yX0_init cX0_init 2 none) (RM 2 47 h hE) (va_Pc [.ref (ρ x0), .ref (ρ x1)] (PcB G ρ h z)) (QV G ρ hE h.length z) (DC h hE) (DS h hE) (Af ρ h.length z) := by
  refine met_start (by decide) (Nat.le_of_ble_eq_true rfl) ?_
  intro p e s m below meth c ls hz C hW hl
  subst hz
  have C : Cx G "PairSymbols$Cycles" cX0_init 2 none "<init>" p s m _ meth c := C
  have hx := C.1
  have hb := C.2.1
  have hX : Ext hE hE := Ext.rf hE
  have hl : lv_has ls 2 [(0, .ref (ρ x0)), (1, .ref (ρ x1))] := hl
  have hW : Wd G ρ h.length (sl h) s.heap h s.heap [] 0 0 := hW
  unfold fX0_init at hf
  obtain ⟨_, e0, hf⟩ := pb_rd (rd_chk _ _) hf
  refine lv_aload_n hx hb dX0_init_0 rfl (lv_at hl 0 rfl) ?_
  refine r_obj C (tq q_119 rfl) hl.1 (Nat.le_of_ble_eq_true rfl) (Nat.le_of_ble_eq_true rfl) (Nat.le_of_ble_eq_true rfl) (tq q_21 rfl) (tq q_22 rfl) dX0_init_1 ?_
  refine lv_aload_n hx hb dX0_init_4 rfl (lv_at hl 0 rfl) ?_
  refine lv_aload_n hx hb dX0_init_5 rfl (lv_at hl 1 rfl) ?_
  obtain ⟨v1, h1, e1, hf⟩ := pb_some hf
  obtain ⟨_, _, t2⟩ := tgX6_freeColumns e1
  refine r_calla hW (pext e1) (run_V (b := x1) (As := []) (rest := [.ref (ρ x0)]) C hW (metX6_freeColumns l G ρ e1) ⟨rfl, rfl⟩ kcX6_freeColumns (tq q_120 rfl) kiX6_freeColumns ksX6_freeColumns knX6_freeColumns kdX6_freeColumns t2 rfl rfl ⟨Nat.le_of_ble_eq_true rfl, Nat.le_of_ble_eq_true rfl⟩ hl.1 (Nat.le_of_ble_eq_true rfl) (room_of hW (pext e1) ((pext hf).tr hX)) dX0_init_6 rfl) (fun H locs c1 s1 hW => ?_)
  obtain ⟨_, h3, e3, hf⟩ := pb_some hf
  refine r_sA C hW e3 flX0_13 (Or.inr ⟨rfl, _, rfl, rfl⟩) rfl dX0_init_9 (fun H locs hW => ?_)
  refine lv_aload_n hx hb dX0_init_12 rfl (lv_at hl 0 rfl) ?_
  refine lv_aload_n hx hb dX0_init_13 rfl (lv_at hl 1 rfl) ?_
  refine lv_aload_n hx hb dX0_init_14 rfl (lv_at hl 0 rfl) ?_
  obtain ⟨v4, e4, hf⟩ := pb_rd (rd_gA _ _ _) hf
  refine r_gA C hW e4 flX0_13 rfl dX0_init_15 ?_
  obtain ⟨v5, h5, e5, hf⟩ := pb_some hf
  obtain ⟨_, _, t6⟩ := tgX6_coordinatesIn e5
  refine r_calla hW (pext e5) (run_V (b := x1) (As := [.ref (ρ v4)]) (rest := [.ref (ρ x0)]) C hW (metX6_coordinatesIn l G ρ e5) ⟨rfl, rfl⟩ kcX6_coordinatesIn (tq q_121 rfl) kiX6_coordinatesIn ksX6_coordinatesIn knX6_coordinatesIn kdX6_coordinatesIn t6 rfl rfl ⟨Nat.le_of_ble_eq_true rfl, Nat.le_of_ble_eq_true rfl⟩ hl.1 (Nat.le_of_ble_eq_true rfl) (room_of hW (pext e5) ((pext hf).tr hX)) dX0_init_18 rfl) (fun H locs c1 s1 hW => ?_)
  obtain ⟨_, h7, e7, hf⟩ := pb_some hf
  refine r_sA C hW e7 flX0_23 (Or.inr ⟨rfl, _, rfl, rfl⟩) rfl dX0_init_21 (fun H locs hW => ?_)
  obtain ⟨rfl, rfl⟩ := pp_some hf
  exact r_vret C hW dX0_init_24

theorem dX3_init_0 : decode cX3_init 0 = .ok (.aload_n 0, 1) := by decide +kernel
theorem dX3_init_1 : decode cX3_init 1 = .ok (.invokespecial 3, 3) := by decide +kernel
theorem dX3_init_4 : decode cX3_init 4 = .ok (.aload_n 0, 1) := by decide +kernel
theorem dX3_init_5 : decode cX3_init 5 = .ok (.iload_n 1, 1) := by decide +kernel
theorem dX3_init_6 : decode cX3_init 6 = .ok (.putfield 9, 3) := by decide +kernel
theorem dX3_init_9 : decode cX3_init 9 = .ok (.aload_n 0, 1) := by decide +kernel
theorem dX3_init_10 : decode cX3_init 10 = .ok (.iload_n 1, 1) := by decide +kernel
theorem dX3_init_11 : decode cX3_init 11 = .ok (.iload_n 1, 1) := by decide +kernel
theorem dX3_init_12 : decode cX3_init 12 = .ok (.imul, 1) := by decide +kernel
theorem dX3_init_13 : decode cX3_init 13 = .ok (.newarray .int, 2) := by decide +kernel
theorem dX3_init_15 : decode cX3_init 15 = .ok (.putfield 15, 3) := by decide +kernel
theorem dX3_init_18 : decode cX3_init 18 = .ok (.aload_n 0, 1) := by decide +kernel
theorem dX3_init_19 : decode cX3_init 19 = .ok (.aload_n 0, 1) := by decide +kernel
theorem dX3_init_20 : decode cX3_init 20 = .ok (.invokevirtual 19, 3) := by decide +kernel
theorem dX3_init_23 : decode cX3_init 23 = .ok (.putfield 23, 3) := by decide +kernel
theorem dX3_init_26 : decode cX3_init 26 = .ok (.aload_n 0, 1) := by decide +kernel
theorem dX3_init_27 : decode cX3_init 27 = .ok (.aload_n 0, 1) := by decide +kernel
theorem dX3_init_28 : decode cX3_init 28 = .ok (.getfield 23, 3) := by decide +kernel
theorem dX3_init_31 : decode cX3_init 31 = .ok (.newarray .int, 2) := by decide +kernel
theorem dX3_init_33 : decode cX3_init 33 = .ok (.putfield 26, 3) := by decide +kernel
theorem dX3_init_36 : decode cX3_init 36 = .ok (.aload_n 0, 1) := by decide +kernel
theorem dX3_init_37 : decode cX3_init 37 = .ok (.aload_n 0, 1) := by decide +kernel
theorem dX3_init_38 : decode cX3_init 38 = .ok (.getfield 23, 3) := by decide +kernel
theorem dX3_init_41 : decode cX3_init 41 = .ok (.newarray .int, 2) := by decide +kernel
theorem dX3_init_43 : decode cX3_init 43 = .ok (.putfield 29, 3) := by decide +kernel
theorem dX3_init_46 : decode cX3_init 46 = .ok (.aload_n 0, 1) := by decide +kernel
theorem dX3_init_47 : decode cX3_init 47 = .ok (.aload_n 0, 1) := by decide +kernel
theorem dX3_init_48 : decode cX3_init 48 = .ok (.getfield 23, 3) := by decide +kernel
theorem dX3_init_51 : decode cX3_init 51 = .ok (.newarray .int, 2) := by decide +kernel
theorem dX3_init_53 : decode cX3_init 53 = .ok (.putfield 32, 3) := by decide +kernel
theorem dX3_init_56 : decode cX3_init 56 = .ok (.aload_n 0, 1) := by decide +kernel
theorem dX3_init_57 : decode cX3_init 57 = .ok (.aload_n 0, 1) := by decide +kernel
theorem dX3_init_58 : decode cX3_init 58 = .ok (.getfield 23, 3) := by decide +kernel
theorem dX3_init_61 : decode cX3_init 61 = .ok (.newarray .int, 2) := by decide +kernel
theorem dX3_init_63 : decode cX3_init 63 = .ok (.putfield 35, 3) := by decide +kernel
theorem dX3_init_66 : decode cX3_init 66 = .ok (.aload_n 0, 1) := by decide +kernel
theorem dX3_init_67 : decode cX3_init 67 = .ok (.aload_n 0, 1) := by decide +kernel
theorem dX3_init_68 : decode cX3_init 68 = .ok (.getfield 23, 3) := by decide +kernel
theorem dX3_init_71 : decode cX3_init 71 = .ok (.newarray .int, 2) := by decide +kernel
theorem dX3_init_73 : decode cX3_init 73 = .ok (.putfield 38, 3) := by decide +kernel
theorem dX3_init_76 : decode cX3_init 76 = .ok (.aload_n 0, 1) := by decide +kernel
theorem dX3_init_77 : decode cX3_init 77 = .ok (.invokevirtual 41, 3) := by decide +kernel
theorem dX3_init_80 : decode cX3_init 80 = .ok (.aload_n 0, 1) := by decide +kernel
theorem dX3_init_81 : decode cX3_init 81 = .ok (.invokevirtual 44, 3) := by decide +kernel
theorem dX3_init_84 : decode cX3_init 84 = .ok (.aload_n 0, 1) := by decide +kernel
theorem dX3_init_85 : decode cX3_init 85 = .ok (.aload_n 0, 1) := by decide +kernel
theorem dX3_init_86 : decode cX3_init 86 = .ok (.getfield 23, 3) := by decide +kernel
theorem dX3_init_89 : decode cX3_init 89 = .ok (.newarray .int, 2) := by decide +kernel
theorem dX3_init_91 : decode cX3_init 91 = .ok (.putfield 47, 3) := by decide +kernel
theorem dX3_init_94 : decode cX3_init 94 = .ok (.aload_n 0, 1) := by decide +kernel
theorem dX3_init_95 : decode cX3_init 95 = .ok (.aload_n 0, 1) := by decide +kernel
theorem dX3_init_96 : decode cX3_init 96 = .ok (.invokevirtual 50, 3) := by decide +kernel
theorem dX3_init_99 : decode cX3_init 99 = .ok (.putfield 53, 3) := by decide +kernel
theorem dX3_init_102 : decode cX3_init 102 = .ok (.new 56, 3) := by decide +kernel
theorem dX3_init_105 : decode cX3_init 105 = .ok (.dup, 1) := by decide +kernel
theorem dX3_init_106 : decode cX3_init 106 = .ok (.aload_n 0, 1) := by decide +kernel
theorem dX3_init_107 : decode cX3_init 107 = .ok (.getfield 23, 3) := by decide +kernel
theorem dX3_init_110 : decode cX3_init 110 = .ok (.invokespecial 58, 3) := by decide +kernel
theorem dX3_init_113 : decode cX3_init 113 = .ok (.astore_n 2, 1) := by decide +kernel
theorem dX3_init_114 : decode cX3_init 114 = .ok (.aload_n 0, 1) := by decide +kernel
theorem dX3_init_115 : decode cX3_init 115 = .ok (.aload_n 2, 1) := by decide +kernel
theorem dX3_init_116 : decode cX3_init 116 = .ok (.invokevirtual 61, 3) := by decide +kernel
theorem dX3_init_119 : decode cX3_init 119 = .ok (.aload_n 0, 1) := by decide +kernel
theorem dX3_init_120 : decode cX3_init 120 = .ok (.aload_n 2, 1) := by decide +kernel
theorem dX3_init_121 : decode cX3_init 121 = .ok (.invokevirtual 65, 3) := by decide +kernel
theorem dX3_init_124 : decode cX3_init 124 = .ok (.putfield 69, 3) := by decide +kernel
theorem dX3_init_127 : decode cX3_init 127 = .ok (.aload_n 0, 1) := by decide +kernel
theorem dX3_init_128 : decode cX3_init 128 = .ok (.aload_n 0, 1) := by decide +kernel
theorem dX3_init_129 : decode cX3_init 129 = .ok (.getfield 69, 3) := by decide +kernel
theorem dX3_init_132 : decode cX3_init 132 = .ok (.arraylength, 1) := by decide +kernel
theorem dX3_init_133 : decode cX3_init 133 = .ok (.putfield 72, 3) := by decide +kernel
theorem dX3_init_136 : decode cX3_init 136 = .ok (.aload_n 0, 1) := by decide +kernel
theorem dX3_init_137 : decode cX3_init 137 = .ok (.aload_n 2, 1) := by decide +kernel
theorem dX3_init_138 : decode cX3_init 138 = .ok (.aload_n 0, 1) := by decide +kernel
theorem dX3_init_139 : decode cX3_init 139 = .ok (.getfield 69, 3) := by decide +kernel
theorem dX3_init_142 : decode cX3_init 142 = .ok (.invokevirtual 75, 3) := by decide +kernel
theorem dX3_init_145 : decode cX3_init 145 = .ok (.putfield 79, 3) := by decide +kernel
theorem dX3_init_148 : decode cX3_init 148 = .ok (.aload_n 0, 1) := by decide +kernel
theorem dX3_init_149 : decode cX3_init 149 = .ok (.aload_n 0, 1) := by decide +kernel
theorem dX3_init_150 : decode cX3_init 150 = .ok (.getfield 23, 3) := by decide +kernel
theorem dX3_init_153 : decode cX3_init 153 = .ok (.newarray .int, 2) := by decide +kernel
theorem dX3_init_155 : decode cX3_init 155 = .ok (.putfield 83, 3) := by decide +kernel
theorem dX3_init_158 : decode cX3_init 158 = .ok (.aload_n 0, 1) := by decide +kernel
theorem dX3_init_159 : decode cX3_init 159 = .ok (.getfield 83, 3) := by decide +kernel
theorem dX3_init_162 : decode cX3_init 162 = .ok (.iconst (-1), 1) := by decide +kernel
theorem dX3_init_163 : decode cX3_init 163 = .ok (.invokestatic 86, 3) := by decide +kernel
theorem dX3_init_166 : decode cX3_init 166 = .ok (.iconst 0, 1) := by decide +kernel
theorem dX3_init_167 : decode cX3_init 167 = .ok (.istore_n 3, 1) := by decide +kernel
theorem dX3_init_168 : decode cX3_init 168 = .ok (.iload_n 3, 1) := by decide +kernel
theorem dX3_init_169 : decode cX3_init 169 = .ok (.aload_n 0, 1) := by decide +kernel
theorem dX3_init_170 : decode cX3_init 170 = .ok (.getfield 72, 3) := by decide +kernel
theorem dX3_init_173 : decode cX3_init 173 = .ok (.if_icmp .ge 21, 3) := by decide +kernel
theorem dX3_init_176 : decode cX3_init 176 = .ok (.aload_n 0, 1) := by decide +kernel
theorem dX3_init_177 : decode cX3_init 177 = .ok (.getfield 83, 3) := by decide +kernel
theorem dX3_init_180 : decode cX3_init 180 = .ok (.aload_n 0, 1) := by decide +kernel
theorem dX3_init_181 : decode cX3_init 181 = .ok (.getfield 69, 3) := by decide +kernel
theorem dX3_init_184 : decode cX3_init 184 = .ok (.iload_n 3, 1) := by decide +kernel
theorem dX3_init_185 : decode cX3_init 185 = .ok (.iaload, 1) := by decide +kernel
theorem dX3_init_186 : decode cX3_init 186 = .ok (.iload_n 3, 1) := by decide +kernel
theorem dX3_init_187 : decode cX3_init 187 = .ok (.iastore, 1) := by decide +kernel
theorem dX3_init_188 : decode cX3_init 188 = .ok (.iinc 3 1, 3) := by decide +kernel
theorem dX3_init_191 : decode cX3_init 191 = .ok (.goto (-23), 3) := by decide +kernel
theorem dX3_init_194 : decode cX3_init 194 = .ok (.new 56, 3) := by decide +kernel
theorem dX3_init_197 : decode cX3_init 197 = .ok (.dup, 1) := by decide +kernel
theorem dX3_init_198 : decode cX3_init 198 = .ok (.aload_n 0, 1) := by decide +kernel
theorem dX3_init_199 : decode cX3_init 199 = .ok (.getfield 72, 3) := by decide +kernel
theorem dX3_init_202 : decode cX3_init 202 = .ok (.invokespecial 58, 3) := by decide +kernel
theorem dX3_init_205 : decode cX3_init 205 = .ok (.astore_n 3, 1) := by decide +kernel
theorem dX3_init_206 : decode cX3_init 206 = .ok (.aload_n 0, 1) := by decide +kernel
theorem dX3_init_207 : decode cX3_init 207 = .ok (.aload_n 3, 1) := by decide +kernel
theorem dX3_init_208 : decode cX3_init 208 = .ok (.invokevirtual 92, 3) := by decide +kernel
theorem dX3_init_211 : decode cX3_init 211 = .ok (.aload_n 0, 1) := by decide +kernel
theorem dX3_init_212 : decode cX3_init 212 = .ok (.new 95, 3) := by decide +kernel
theorem dX3_init_215 : decode cX3_init 215 = .ok (.dup, 1) := by decide +kernel
theorem dX3_init_216 : decode cX3_init 216 = .ok (.aload_n 3, 1) := by decide +kernel
theorem dX3_init_217 : decode cX3_init 217 = .ok (.invokespecial 97, 3) := by decide +kernel
theorem dX3_init_220 : decode cX3_init 220 = .ok (.putfield 99, 3) := by decide +kernel
theorem dX3_init_223 : decode cX3_init 223 = .ok (.aload_n 0, 1) := by decide +kernel
theorem dX3_init_224 : decode cX3_init 224 = .ok (.bipush 8, 2) := by decide +kernel
theorem dX3_init_226 : decode cX3_init 226 = .ok (.anewarray 103, 3) := by decide +kernel
theorem dX3_init_229 : decode cX3_init 229 = .ok (.putfield 105, 3) := by decide +kernel
theorem dX3_init_232 : decode cX3_init 232 = .ok (.return_, 1) := by decide +kernel
theorem kcX3_init : Cond.code yX3_init cX3_init 4 none ∈ tb := tq q_27 rfl
theorem knX3_init : Cond.initialized yX3_init.cls ∈ tb := (tq q_2 rfl)
theorem kdX3_init : yX3_init.cls ≠ "java/lang/invoke/MethodHandle" ∧ yX3_init.cls ≠ "java/lang/invoke/VarHandle" ∧ (parseMethodDescriptor yX3_init.desc).map (fun d => d.parameters.length) = some 1 := ⟨by decide +kernel, by decide +kernel, by decide +kernel⟩
theorem kiX3_init : Cond.instanceMethod yX3_init ∈ tb := (tq q_26 rfl)
theorem tgX3_init {x0 : Nat} {x1 : Int32} {h : PH} {r : Unit × PH} (hf : (fX3_init x0 x1).1 h = some r) : ∃ n x, nth h x0 = some (3, n, x) := by
  obtain ⟨_, _, e, _⟩ := pb_some hf
  exact (chk_some e).2
set_option maxHeartbeats 4000000 in
set_option maxRecDepth 100000 in
theorem wX3_init_B168 {p : Program} {l : Launch} {e : Env} {s : State} {m : MethodId} {args : Array Value} {below : List Frame} {meth : Method} {c : Code} {G : GG} {ρ : Nat → Nat} {h0 hE hB : PH} {Q : State → Prop} {x0 : Nat} (C : Cx G "PairSymbols$Level" cX3_init 4 none "<init>" p s m args meth c) {x3 : Int32} {h : PH} {H : Heap} {locs : List Loc} {cells slots : Nat} {ls : Array Slot} {r : (Int32) ⊕ (Unit)} (hf : (fX3_init_b168 x0 x3).1 h = some (r, hB)) (hX : Ext hB hE) (hW : Wd G ρ h0.length (sl h0) s.heap h H locs cells slots) (hl : lv_has ls 4 [(0, .ref (ρ x0)), (3, .int x3)]) (kc : ∀ y : Int32, r = .inl y → ∀ (H : Heap) (locs : List Loc) (c1 s1 : Nat) (ls : Array Slot), Wd G ρ h0.length (sl h0) s.heap hB H locs c1 s1 → lv_has ls 4 [(0, .ref (ρ x0)), (3, .int y)] → W p l e (RM 3 72 h0 hE) s m args below meth c H locs c1 s1 Q (F0 m 168 ls [])) (ke : ∀ z : Unit, r = .inr z → ∀ (H : Heap) (locs : List Loc) (c1 s1 : Nat) (ls : Array Slot), Wd G ρ h0.length (sl h0) s.heap hB H locs c1 s1 → lv_has ls 4 [(0, .ref (ρ x0))] → W p l e (RM 3 72 h0 hE) s m args below meth c H locs c1 s1 Q (F0 m 194 ls [])) : W p l e (RM 3 72 h0 hE) s m args below meth c H locs cells slots Q (F0 m 168 ls []) := by
  have hx := C.1
  have hb := C.2.1
  unfold fX3_init_b168 at hf
  refine lv_iload_n hx hb dX3_init_168 rfl (lv_at hl 1 rfl) ?_
  refine lv_aload_n hx hb dX3_init_169 rfl (lv_at hl 0 rfl) ?_
  obtain ⟨v52, e52, hf⟩ := pb_rd (rd_gI _ _ _) hf
  refine r_gI C hW e52 flX3_72 rfl dX3_init_170 ?_
  refine lv_icmp_ge (tgt := 194) hx hb dX3_init_173 (by decide) (fun c53 => ?_) (fun c53 => ?_)
  · rw [if_pos c53] at hf
    obtain ⟨rfl, rfl⟩ := pp_some hf
    exact ke _ rfl _ _ _ _ _ hW (lv_sub hl [0] rfl)
  · rw [if_neg c53] at hf
    refine lv_aload_n hx hb dX3_init_176 rfl (lv_at hl 0 rfl) ?_
    obtain ⟨v54, e54, hf⟩ := pb_rd (rd_gA _ _ _) hf
    refine r_gA C hW e54 flX3_83 rfl dX3_init_177 ?_
    refine lv_aload_n hx hb dX3_init_180 rfl (lv_at hl 0 rfl) ?_
    obtain ⟨v55, e55, hf⟩ := pb_rd (rd_gA _ _ _) hf
    refine r_gA C hW e55 flX3_69 rfl dX3_init_181 ?_
    refine lv_iload_n hx hb dX3_init_184 rfl (lv_at hl 1 rfl) ?_
    obtain ⟨v56, e56, hf⟩ := pb_rd (rd_lI _ _ _) hf
    refine r_iald C hW e56 dX3_init_185 ?_
    refine lv_iload_n hx hb dX3_init_186 rfl (lv_at hl 1 rfl) ?_
    obtain ⟨_, h57, e57, hf⟩ := pb_some hf
    refine r_iast C hW e57 dX3_init_187 (fun H locs hW => ?_)
    refine lv_iinc (v := (x3 + 1)) (lv' := [(3, .int (x3 + 1)), (0, .ref (ρ x0))]) hx hb dX3_init_188 hl (k := 1) rfl rfl (by decide) rfl (fun ls hl => ?_)
    refine lv_goto (tgt := 168) hx hb dX3_init_191 (by decide) ?_
    obtain ⟨rfl, rfl⟩ := pp_some hf
    exact kc _ rfl _ _ _ _ _ hW (lv_sub hl [1, 0] rfl)
set_option maxHeartbeats 4000000 in
theorem wX3_init_L168 {p : Program} {l : Launch} {e : Env} {s : State} {m : MethodId} {args : Array Value} {below : List Frame} {meth : Method} {c : Code} {G : GG} {ρ : Nat → Nat} {h0 hE hB : PH} {Q : State → Prop} {x0 : Nat} (C : Cx G "PairSymbols$Level" cX3_init 4 none "<init>" p s m args meth c) {z : (Unit)} (n : Nat) : ∀ (x : Int32) {h : PH} {H : Heap} {locs : List Loc} {cells slots : Nat} {ls : Array Slot}, (plo (fX3_init_B168 x0) n x).1 h = some (z, hB) → Ext hB hE → Wd G ρ h0.length (sl h0) s.heap h H locs cells slots → lv_has ls 4 [(0, .ref (ρ x0)), (3, .int x)] → (ke : ∀ (H : Heap) (locs : List Loc) (c1 s1 : Nat) (ls : Array Slot), Wd G ρ h0.length (sl h0) s.heap hB H locs c1 s1 → lv_has ls 4 [(0, .ref (ρ x0))] → W p l e (RM 3 72 h0 hE) s m args below meth c H locs c1 s1 Q (F0 m 194 ls [])) → W p l e (RM 3 72 h0 hE) s m args below meth c H locs cells slots Q (F0 m 168 ls []) := by
  induction n with
  | zero =>
    intro x h H locs cells slots ls hf
    rw [plo_0] at hf
    exact (pf_no hf).elim
  | succ n ih =>
    intro x h H locs cells slots ls hf hX hW hl ke
    rw [plo_s] at hf
    obtain ⟨r, h1, e1, hf⟩ := pb_some hf
    unfold fX3_init_B168 at e1
    rw [frI_eq] at e1
    refine wX3_init_B168 C e1 ((pext hf).tr hX) hW hl (fun y hr H locs c1 s1 ls hW hl => ?_) (fun y hr H locs c1 s1 ls hW hl => ?_)
    · subst hr
      exact ih y hf hX hW hl ke
    · subst hr
      obtain ⟨rfl, rfl⟩ := pp_some hf
      exact ke H locs c1 s1 ls hW hl
set_option maxHeartbeats 4000000 in
set_option maxRecDepth 100000 in
theorem metX3_init (l : Launch) (G : GG) (ρ : Nat → Nat) {z : Nat} {x0 : Nat} {x1 : Int32} {h hE : PH} {v : Unit} (hf : (fX3_init x0 x1).1 h = some (v, hE)) : Met l yX3_init (wsY yX3_init cX3_init 4 none) (RM 3 72 h hE) (va_Pc [.ref (ρ x0), .int x1] (PcB G ρ h z)) (QV G ρ hE h.length z) (DC h hE) (DS h hE) (Af ρ h.length z) := by
  refine met_start (by decide) (Nat.le_of_ble_eq_true rfl) ?_
  intro p e s m below meth c ls hz C hW hl
  subst hz
  have C : Cx G "PairSymbols$Level" cX3_init 4 none "<init>" p s m _ meth c := C
  have hx := C.1
  have hb := C.2.1
  have hX : Ext hE hE := Ext.rf hE
  have hl : lv_has ls 4 [(0, .ref (ρ x0)), (1, .int x1)] := hl
  have hW : Wd G ρ h.length (sl h) s.heap h s.heap [] 0 0 := hW
  unfold fX3_init at hf
  obtain ⟨_, e0, hf⟩ := pb_rd (rd_chk _ _) hf
  refine lv_aload_n hx hb dX3_init_0 rfl (lv_at hl 0 rfl) ?_
  refine r_obj C (tq q_28 rfl) hl.1 (Nat.le_of_ble_eq_true rfl) (Nat.le_of_ble_eq_true rfl) (Nat.le_of_ble_eq_true rfl) (tq q_21 rfl) (tq q_22 rfl) dX3_init_1 ?_
  refine lv_aload_n hx hb dX3_init_4 rfl (lv_at hl 0 rfl) ?_
  refine lv_iload_n hx hb dX3_init_5 rfl (lv_at hl 1 rfl) ?_
  obtain ⟨_, h1, e1, hf⟩ := pb_some hf
  refine r_sI C hW e1 flX3_9 (Or.inr ⟨rfl, _, rfl, rfl⟩) rfl dX3_init_6 (fun H locs hW => ?_)
  refine lv_aload_n hx hb dX3_init_9 rfl (lv_at hl 0 rfl) ?_
  refine lv_iload_n hx hb dX3_init_10 rfl (lv_at hl 1 rfl) ?_
  refine lv_iload_n hx hb dX3_init_11 rfl (lv_at hl 1 rfl) ?_
  refine lv_imul hx hb dX3_init_12 ?_
  obtain ⟨v2, h2, e2, hf⟩ := pb_some hf
  refine r_newa (t0 := 1) C hW .int e2 (by decide) rfl rfl (fun _ => rfl) (by decide) (fun q => q) (tq q_80 rfl) (room_of hW (pext e2) ((pext hf).tr hX)) dX3_init_13 (fun H c1 s1 hW => ?_)
  obtain ⟨_, h3, e3, hf⟩ := pb_some hf
  refine r_sA C hW e3 flX3_15 (Or.inr ⟨rfl, _, rfl, rfl⟩) rfl dX3_init_15 (fun H locs hW => ?_)
  refine lv_aload_n hx hb dX3_init_18 rfl (lv_at hl 0 rfl) ?_
  refine lv_aload_n hx hb dX3_init_19 rfl (lv_at hl 0 rfl) ?_
  obtain ⟨v4, h4, e4, hf⟩ := pb_some hf
  obtain ⟨_, _, t5⟩ := tgX3_numberPairs e4
  refine r_calli hW (pext e4) (run_V (b := x0) (As := []) (rest := [.ref (ρ x0)]) C hW (metX3_numberPairs l G ρ e4) ⟨rfl, rfl⟩ kcX3_numberPairs (tq q_29 rfl) kiX3_numberPairs ksX3_numberPairs knX3_numberPairs kdX3_numberPairs t5 rfl rfl ⟨Nat.le_of_ble_eq_true rfl, Nat.le_of_ble_eq_true rfl⟩ hl.1 (Nat.le_of_ble_eq_true rfl) (room_of hW (pext e4) ((pext hf).tr hX)) dX3_init_20 rfl) (fun H locs c1 s1 hW => ?_)
  obtain ⟨_, h6, e6, hf⟩ := pb_some hf
  refine r_sI C hW e6 flX3_23 (Or.inr ⟨rfl, _, rfl, rfl⟩) rfl dX3_init_23 (fun H locs hW => ?_)
  refine lv_aload_n hx hb dX3_init_26 rfl (lv_at hl 0 rfl) ?_
  refine lv_aload_n hx hb dX3_init_27 rfl (lv_at hl 0 rfl) ?_
  obtain ⟨v7, e7, hf⟩ := pb_rd (rd_gI _ _ _) hf
  refine r_gI C hW e7 flX3_23 rfl dX3_init_28 ?_
  obtain ⟨v8, h8, e8, hf⟩ := pb_some hf
  refine r_newa (t0 := 1) C hW .int e8 (by decide) rfl rfl (fun _ => rfl) (by decide) (fun q => q) (tq q_80 rfl) (room_of hW (pext e8) ((pext hf).tr hX)) dX3_init_31 (fun H c1 s1 hW => ?_)
  obtain ⟨_, h9, e9, hf⟩ := pb_some hf
  refine r_sA C hW e9 flX3_26 (Or.inr ⟨rfl, _, rfl, rfl⟩) rfl dX3_init_33 (fun H locs hW => ?_)
  refine lv_aload_n hx hb dX3_init_36 rfl (lv_at hl 0 rfl) ?_
  refine lv_aload_n hx hb dX3_init_37 rfl (lv_at hl 0 rfl) ?_
  obtain ⟨v10, e10, hf⟩ := pb_rd (rd_gI _ _ _) hf
  refine r_gI C hW e10 flX3_23 rfl dX3_init_38 ?_
  obtain ⟨v11, h11, e11, hf⟩ := pb_some hf
  refine r_newa (t0 := 1) C hW .int e11 (by decide) rfl rfl (fun _ => rfl) (by decide) (fun q => q) (tq q_80 rfl) (room_of hW (pext e11) ((pext hf).tr hX)) dX3_init_41 (fun H c1 s1 hW => ?_)
  obtain ⟨_, h12, e12, hf⟩ := pb_some hf
  refine r_sA C hW e12 flX3_29 (Or.inr ⟨rfl, _, rfl, rfl⟩) rfl dX3_init_43 (fun H locs hW => ?_)
  refine lv_aload_n hx hb dX3_init_46 rfl (lv_at hl 0 rfl) ?_
  refine lv_aload_n hx hb dX3_init_47 rfl (lv_at hl 0 rfl) ?_
  obtain ⟨v13, e13, hf⟩ := pb_rd (rd_gI _ _ _) hf
  refine r_gI C hW e13 flX3_23 rfl dX3_init_48 ?_
  obtain ⟨v14, h14, e14, hf⟩ := pb_some hf
  refine r_newa (t0 := 1) C hW .int e14 (by decide) rfl rfl (fun _ => rfl) (by decide) (fun q => q) (tq q_80 rfl) (room_of hW (pext e14) ((pext hf).tr hX)) dX3_init_51 (fun H c1 s1 hW => ?_)
  obtain ⟨_, h15, e15, hf⟩ := pb_some hf
  refine r_sA C hW e15 flX3_32 (Or.inr ⟨rfl, _, rfl, rfl⟩) rfl dX3_init_53 (fun H locs hW => ?_)
  refine lv_aload_n hx hb dX3_init_56 rfl (lv_at hl 0 rfl) ?_
  refine lv_aload_n hx hb dX3_init_57 rfl (lv_at hl 0 rfl) ?_
  obtain ⟨v16, e16, hf⟩ := pb_rd (rd_gI _ _ _) hf
  refine r_gI C hW e16 flX3_23 rfl dX3_init_58 ?_
  obtain ⟨v17, h17, e17, hf⟩ := pb_some hf
  refine r_newa (t0 := 1) C hW .int e17 (by decide) rfl rfl (fun _ => rfl) (by decide) (fun q => q) (tq q_80 rfl) (room_of hW (pext e17) ((pext hf).tr hX)) dX3_init_61 (fun H c1 s1 hW => ?_)
  obtain ⟨_, h18, e18, hf⟩ := pb_some hf
  refine r_sA C hW e18 flX3_35 (Or.inr ⟨rfl, _, rfl, rfl⟩) rfl dX3_init_63 (fun H locs hW => ?_)
  refine lv_aload_n hx hb dX3_init_66 rfl (lv_at hl 0 rfl) ?_
  refine lv_aload_n hx hb dX3_init_67 rfl (lv_at hl 0 rfl) ?_
  obtain ⟨v19, e19, hf⟩ := pb_rd (rd_gI _ _ _) hf
  refine r_gI C hW e19 flX3_23 rfl dX3_init_68 ?_
  obtain ⟨v20, h20, e20, hf⟩ := pb_some hf
  refine r_newa (t0 := 1) C hW .int e20 (by decide) rfl rfl (fun _ => rfl) (by decide) (fun q => q) (tq q_80 rfl) (room_of hW (pext e20) ((pext hf).tr hX)) dX3_init_71 (fun H c1 s1 hW => ?_)
  obtain ⟨_, h21, e21, hf⟩ := pb_some hf
  refine r_sA C hW e21 flX3_38 (Or.inr ⟨rfl, _, rfl, rfl⟩) rfl dX3_init_73 (fun H locs hW => ?_)
  refine lv_aload_n hx hb dX3_init_76 rfl (lv_at hl 0 rfl) ?_
  obtain ⟨_, h22, e22, hf⟩ := pb_some hf
  obtain ⟨_, _, t23⟩ := tgX3_listPairs e22
  refine r_callv hW (pext e22) (run_V (b := x0) (As := []) (rest := []) C hW (metX3_listPairs l G ρ e22) ⟨rfl, rfl⟩ kcX3_listPairs (tq q_43 rfl) kiX3_listPairs ksX3_listPairs knX3_listPairs kdX3_listPairs t23 rfl rfl ⟨Nat.le_of_ble_eq_true rfl, Nat.le_of_ble_eq_true rfl⟩ hl.1 (Nat.le_of_ble_eq_true rfl) (room_of hW (pext e22) ((pext hf).tr hX)) dX3_init_77 rfl) (fun H locs c1 s1 hW => ?_)
  refine lv_aload_n hx hb dX3_init_80 rfl (lv_at hl 0 rfl) ?_
  obtain ⟨_, h24, e24, hf⟩ := pb_some hf
  obtain ⟨_, _, t25⟩ := tgX3_listMaps e24
  refine r_callv hW (pext e24) (run_V (b := x0) (As := []) (rest := []) C hW (metX3_listMaps l G ρ e24) ⟨rfl, rfl⟩ kcX3_listMaps (tq q_47 rfl) kiX3_listMaps ksX3_listMaps knX3_listMaps kdX3_listMaps t25 rfl rfl ⟨Nat.le_of_ble_eq_true rfl, Nat.le_of_ble_eq_true rfl⟩ hl.1 (Nat.le_of_ble_eq_true rfl) (room_of hW (pext e24) ((pext hf).tr hX)) dX3_init_81 rfl) (fun H locs c1 s1 hW => ?_)
  refine lv_aload_n hx hb dX3_init_84 rfl (lv_at hl 0 rfl) ?_
  refine lv_aload_n hx hb dX3_init_85 rfl (lv_at hl 0 rfl) ?_
  obtain ⟨v26, e26, hf⟩ := pb_rd (rd_gI _ _ _) hf
  refine r_gI C hW e26 flX3_23 rfl dX3_init_86 ?_
  obtain ⟨v27, h27, e27, hf⟩ := pb_some hf
  refine r_newa (t0 := 1) C hW .int e27 (by decide) rfl rfl (fun _ => rfl) (by decide) (fun q => q) (tq q_80 rfl) (room_of hW (pext e27) ((pext hf).tr hX)) dX3_init_89 (fun H c1 s1 hW => ?_)
  obtain ⟨_, h28, e28, hf⟩ := pb_some hf
  refine r_sA C hW e28 flX3_47 (Or.inr ⟨rfl, _, rfl, rfl⟩) rfl dX3_init_91 (fun H locs hW => ?_)
  refine lv_aload_n hx hb dX3_init_94 rfl (lv_at hl 0 rfl) ?_
  refine lv_aload_n hx hb dX3_init_95 rfl (lv_at hl 0 rfl) ?_
  obtain ⟨v29, h29, e29, hf⟩ := pb_some hf
  obtain ⟨_, _, t30⟩ := tgX3_numberCusps e29
  refine r_calli hW (pext e29) (run_V (b := x0) (As := []) (rest := [.ref (ρ x0)]) C hW (metX3_numberCusps l G ρ e29) ⟨rfl, rfl⟩ kcX3_numberCusps (tq q_55 rfl) kiX3_numberCusps ksX3_numberCusps knX3_numberCusps kdX3_numberCusps t30 rfl rfl ⟨Nat.le_of_ble_eq_true rfl, Nat.le_of_ble_eq_true rfl⟩ hl.1 (Nat.le_of_ble_eq_true rfl) (room_of hW (pext e29) ((pext hf).tr hX)) dX3_init_96 rfl) (fun H locs c1 s1 hW => ?_)
  obtain ⟨_, h31, e31, hf⟩ := pb_some hf
  refine r_sI C hW e31 flX3_53 (Or.inr ⟨rfl, _, rfl, rfl⟩) rfl dX3_init_99 (fun H locs hW => ?_)
  obtain ⟨v32, h32, e32, hf⟩ := pb_some hf
  refine r_new C hW e32 CT5 rfl (tq q_59 rfl) (tq q_60 rfl) (tq q_4 rfl) (room_of hW (pext e32) ((pext hf).tr hX)) dX3_init_102 (fun H c1 s1 hW => ?_)
  refine lv_dup hx hb dX3_init_105 rfl ?_
  refine lv_aload_n hx hb dX3_init_106 rfl (lv_at hl 0 rfl) ?_
  obtain ⟨v33, e33, hf⟩ := pb_rd (rd_gI _ _ _) hf
  refine r_gI C hW e33 flX3_23 rfl dX3_init_107 ?_
  obtain ⟨_, h34, e34, hf⟩ := pb_some hf
  refine r_callv hW (pext e34) (run_I (b := v32) (As := [.int v33]) (rest := [.ref (ρ v32)]) C hW (metX6_init l G ρ e34) ⟨rfl, rfl⟩ kcX6_init (tq q_61 rfl) kiX6_init knX6_init rfl kdX6_init ⟨Nat.le_of_ble_eq_true rfl, Nat.le_of_ble_eq_true rfl⟩ hl.1 (Nat.le_of_ble_eq_true rfl) (room_of hW (pext e34) ((pext hf).tr hX)) dX3_init_110 rfl) (fun H locs c1 s1 hW => ?_)
  refine lv_astore_n (lv' := [(2, .ref (ρ v32)), (0, .ref (ρ x0)), (1, .int x1)]) hx hb dX3_init_113 rfl hl (by decide) rfl (fun ls hl => ?_)
  refine lv_aload_n hx hb dX3_init_114 rfl (lv_at hl 1 rfl) ?_
  refine lv_aload_n hx hb dX3_init_115 rfl (lv_at hl 0 rfl) ?_
  obtain ⟨_, h35, e35, hf⟩ := pb_some hf
  obtain ⟨_, _, t36⟩ := tgX3_relateSymbols e35
  refine r_callv hW (pext e35) (run_V (b := x0) (As := [.ref (ρ v32)]) (rest := []) C hW (metX3_relateSymbols l G ρ e35) ⟨rfl, rfl⟩ kcX3_relateSymbols (tq q_82 rfl) kiX3_relateSymbols ksX3_relateSymbols knX3_relateSymbols kdX3_relateSymbols t36 rfl rfl ⟨Nat.le_of_ble_eq_true rfl, Nat.le_of_ble_eq_true rfl⟩ hl.1 (Nat.le_of_ble_eq_true rfl) (room_of hW (pext e35) ((pext hf).tr hX)) dX3_init_116 rfl) (fun H locs c1 s1 hW => ?_)
  refine lv_aload_n hx hb dX3_init_119 rfl (lv_at hl 1 rfl) ?_
  refine lv_aload_n hx hb dX3_init_120 rfl (lv_at hl 0 rfl) ?_
  obtain ⟨v37, h37, e37, hf⟩ := pb_some hf
  obtain ⟨_, _, t38⟩ := tgX6_freeColumns e37
  refine r_calla hW (pext e37) (run_V (b := v32) (As := []) (rest := [.ref (ρ x0)]) C hW (metX6_freeColumns l G ρ e37) ⟨rfl, rfl⟩ kcX6_freeColumns (tq q_98 rfl) kiX6_freeColumns ksX6_freeColumns knX6_freeColumns kdX6_freeColumns t38 rfl rfl ⟨Nat.le_of_ble_eq_true rfl, Nat.le_of_ble_eq_true rfl⟩ hl.1 (Nat.le_of_ble_eq_true rfl) (room_of hW (pext e37) ((pext hf).tr hX)) dX3_init_121 rfl) (fun H locs c1 s1 hW => ?_)
  obtain ⟨_, h39, e39, hf⟩ := pb_some hf
  refine r_sA C hW e39 flX3_69 (Or.inr ⟨rfl, _, rfl, rfl⟩) rfl dX3_init_124 (fun H locs hW => ?_)
  refine lv_aload_n hx hb dX3_init_127 rfl (lv_at hl 1 rfl) ?_
  refine lv_aload_n hx hb dX3_init_128 rfl (lv_at hl 1 rfl) ?_
  obtain ⟨v40, e40, hf⟩ := pb_rd (rd_gA _ _ _) hf
  refine r_gA C hW e40 flX3_69 rfl dX3_init_129 ?_
  obtain ⟨v41, e41, hf⟩ := pb_rd (rd_aln _) hf
  refine r_alen C hW e41 dX3_init_132 ?_
  obtain ⟨_, h42, e42, hf⟩ := pb_some hf
  refine r_sI C hW e42 flX3_72 (Or.inr ⟨rfl, _, rfl, rfl⟩) rfl dX3_init_133 (fun H locs hW => ?_)
  refine lv_aload_n hx hb dX3_init_136 rfl (lv_at hl 1 rfl) ?_
  refine lv_aload_n hx hb dX3_init_137 rfl (lv_at hl 0 rfl) ?_
  refine lv_aload_n hx hb dX3_init_138 rfl (lv_at hl 1 rfl) ?_
  obtain ⟨v43, e43, hf⟩ := pb_rd (rd_gA _ _ _) hf
  refine r_gA C hW e43 flX3_69 rfl dX3_init_139 ?_
  obtain ⟨v44, h44, e44, hf⟩ := pb_some hf
  obtain ⟨_, _, t45⟩ := tgX6_coordinatesIn e44
  refine r_calla hW (pext e44) (run_V (b := v32) (As := [.ref (ρ v43)]) (rest := [.ref (ρ x0)]) C hW (metX6_coordinatesIn l G ρ e44) ⟨rfl, rfl⟩ kcX6_coordinatesIn (tq q_102 rfl) kiX6_coordinatesIn ksX6_coordinatesIn knX6_coordinatesIn kdX6_coordinatesIn t45 rfl rfl ⟨Nat.le_of_ble_eq_true rfl, Nat.le_of_ble_eq_true rfl⟩ hl.1 (Nat.le_of_ble_eq_true rfl) (room_of hW (pext e44) ((pext hf).tr hX)) dX3_init_142 rfl) (fun H locs c1 s1 hW => ?_)
  obtain ⟨_, h46, e46, hf⟩ := pb_some hf
  refine r_sA C hW e46 flX3_79 (Or.inr ⟨rfl, _, rfl, rfl⟩) rfl dX3_init_145 (fun H locs hW => ?_)
  refine lv_aload_n hx hb dX3_init_148 rfl (lv_at hl 1 rfl) ?_
  refine lv_aload_n hx hb dX3_init_149 rfl (lv_at hl 1 rfl) ?_
  obtain ⟨v47, e47, hf⟩ := pb_rd (rd_gI _ _ _) hf
  refine r_gI C hW e47 flX3_23 rfl dX3_init_150 ?_
  obtain ⟨v48, h48, e48, hf⟩ := pb_some hf
  refine r_newa (t0 := 1) C hW .int e48 (by decide) rfl rfl (fun _ => rfl) (by decide) (fun q => q) (tq q_80 rfl) (room_of hW (pext e48) ((pext hf).tr hX)) dX3_init_153 (fun H c1 s1 hW => ?_)
  obtain ⟨_, h49, e49, hf⟩ := pb_some hf
  refine r_sA C hW e49 flX3_83 (Or.inr ⟨rfl, _, rfl, rfl⟩) rfl dX3_init_155 (fun H locs hW => ?_)
  refine lv_aload_n hx hb dX3_init_158 rfl (lv_at hl 1 rfl) ?_
  obtain ⟨v50, e50, hf⟩ := pb_rd (rd_gA _ _ _) hf
  refine r_gA C hW e50 flX3_83 rfl dX3_init_159 ?_
  refine lv_iconst (v := -1) hx hb dX3_init_162 (by decide) ?_
  obtain ⟨_, h51, e51, hf⟩ := pb_some hf
  refine r_callv hW (pext e51) (run_S (As := [.ref (ρ v50), .int (-1 : Int32)]) (rest := []) C hW (metJ7_fill_53178 l G ρ e51) ⟨rfl, rfl⟩ kcJ7_fill_53178 (tq q_33 rfl) kiJ7_fill_53178 knJ7_fill_53178 kdJ7_fill_53178 ⟨Nat.le_of_ble_eq_true rfl, Nat.le_of_ble_eq_true rfl⟩ hl.1 (Nat.le_of_ble_eq_true rfl) (room_of hW (pext e51) ((pext hf).tr hX)) dX3_init_163 rfl) (fun H locs c1 s1 hW => ?_)
  refine lv_iconst (v := 0) hx hb dX3_init_166 (by decide) ?_
  refine lv_istore_n (lv' := [(3, .int (0 : Int32)), (2, .ref (ρ v32)), (0, .ref (ρ x0)), (1, .int x1)]) hx hb dX3_init_167 rfl hl (by decide) rfl (fun ls hl => ?_)
  obtain ⟨z58, h58, e58, hf⟩ := pb_some hf
  refine wX3_init_L168 C fu _ e58 ((pext hf).tr hX) hW (lv_sub hl [2, 0] rfl) (fun H locs c1 s1 ls hW hl => ?_)
  obtain ⟨v59, h59, e59, hf⟩ := pb_some hf
  refine r_new C hW e59 CT5 rfl (tq q_59 rfl) (tq q_60 rfl) (tq q_4 rfl) (room_of hW (pext e59) ((pext hf).tr hX)) dX3_init_194 (fun H c1 s1 hW => ?_)
  refine lv_dup hx hb dX3_init_197 rfl ?_
  refine lv_aload_n hx hb dX3_init_198 rfl (lv_at hl 0 rfl) ?_
  obtain ⟨v60, e60, hf⟩ := pb_rd (rd_gI _ _ _) hf
  refine r_gI C hW e60 flX3_72 rfl dX3_init_199 ?_
  obtain ⟨_, h61, e61, hf⟩ := pb_some hf
  refine r_callv hW (pext e61) (run_I (b := v59) (As := [.int v60]) (rest := [.ref (ρ v59)]) C hW (metX6_init l G ρ e61) ⟨rfl, rfl⟩ kcX6_init (tq q_61 rfl) kiX6_init knX6_init rfl kdX6_init ⟨Nat.le_of_ble_eq_true rfl, Nat.le_of_ble_eq_true rfl⟩ hl.1 (Nat.le_of_ble_eq_true rfl) (room_of hW (pext e61) ((pext hf).tr hX)) dX3_init_202 rfl) (fun H locs c1 s1 hW => ?_)
  refine lv_astore_n (lv' := [(3, .ref (ρ v59)), (0, .ref (ρ x0))]) hx hb dX3_init_205 rfl hl (by decide) rfl (fun ls hl => ?_)
  refine lv_aload_n hx hb dX3_init_206 rfl (lv_at hl 1 rfl) ?_
  refine lv_aload_n hx hb dX3_init_207 rfl (lv_at hl 0 rfl) ?_
  obtain ⟨_, h62, e62, hf⟩ := pb_some hf
  obtain ⟨_, _, t63⟩ := tgX3_relateCoordinates e62
  refine r_callv hW (pext e62) (run_V (b := x0) (As := [.ref (ρ v59)]) (rest := []) C hW (metX3_relateCoordinates l G ρ e62) ⟨rfl, rfl⟩ kcX3_relateCoordinates (tq q_106 rfl) kiX3_relateCoordinates ksX3_relateCoordinates knX3_relateCoordinates kdX3_relateCoordinates t63 rfl rfl ⟨Nat.le_of_ble_eq_true rfl, Nat.le_of_ble_eq_true rfl⟩ hl.1 (Nat.le_of_ble_eq_true rfl) (room_of hW (pext e62) ((pext hf).tr hX)) dX3_init_208 rfl) (fun H locs c1 s1 hW => ?_)
  refine lv_aload_n hx hb dX3_init_211 rfl (lv_at hl 1 rfl) ?_
  obtain ⟨v64, h64, e64, hf⟩ := pb_some hf
  refine r_new C hW e64 CT0 rfl (tq q_114 rfl) (tq q_115 rfl) (tq q_5 rfl) (room_of hW (pext e64) ((pext hf).tr hX)) dX3_init_212 (fun H c1 s1 hW => ?_)
  refine lv_dup hx hb dX3_init_215 rfl ?_
  refine lv_aload_n hx hb dX3_init_216 rfl (lv_at hl 0 rfl) ?_
  obtain ⟨_, h65, e65, hf⟩ := pb_some hf
  refine r_callv hW (pext e65) (run_I (b := v64) (As := [.ref (ρ v59)]) (rest := [.ref (ρ v64), .ref (ρ x0)]) C hW (metX0_init l G ρ e65) ⟨rfl, rfl⟩ kcX0_init (tq q_116 rfl) kiX0_init knX0_init rfl kdX0_init ⟨Nat.le_of_ble_eq_true rfl, Nat.le_of_ble_eq_true rfl⟩ hl.1 (Nat.le_of_ble_eq_true rfl) (room_of hW (pext e65) ((pext hf).tr hX)) dX3_init_217 rfl) (fun H locs c1 s1 hW => ?_)
  obtain ⟨_, h66, e66, hf⟩ := pb_some hf
  refine r_sA C hW e66 flX3_99 (Or.inr ⟨rfl, _, rfl, rfl⟩) rfl dX3_init_220 (fun H locs hW => ?_)
  refine lv_aload_n hx hb dX3_init_223 rfl (lv_at hl 1 rfl) ?_
  refine lv_bipush (v := 8) hx hb dX3_init_224 (by decide) ?_
  obtain ⟨v67, h67, e67, hf⟩ := pb_some hf
  refine r_newq (t0 := 5) C hW e67 (by decide) rfl (tq q_132 rfl) (tq q_133 rfl) (room_of hW (pext e67) ((pext hf).tr hX)) dX3_init_226 (fun H c1 s1 hW => ?_)
  obtain ⟨_, h68, e68, hf⟩ := pb_some hf
  refine r_sA C hW e68 flX3_105 (Or.inr ⟨rfl, _, rfl, rfl⟩) rfl dX3_init_229 (fun H locs hW => ?_)
  obtain ⟨rfl, rfl⟩ := pp_some hf
  exact r_vret C hW dX3_init_232

theorem dX8_init_0 : decode cX8_init 0 = .ok (.aload_n 0, 1) := by decide +kernel
theorem dX8_init_1 : decode cX8_init 1 = .ok (.invokespecial 3, 3) := by decide +kernel
theorem dX8_init_4 : decode cX8_init 4 = .ok (.aload_n 0, 1) := by decide +kernel
theorem dX8_init_5 : decode cX8_init 5 = .ok (.aload_n 1, 1) := by decide +kernel
theorem dX8_init_6 : decode cX8_init 6 = .ok (.putfield 9, 3) := by decide +kernel
theorem dX8_init_9 : decode cX8_init 9 = .ok (.aload_n 0, 1) := by decide +kernel
theorem dX8_init_10 : decode cX8_init 10 = .ok (.bipush 9, 2) := by decide +kernel
theorem dX8_init_12 : decode cX8_init 12 = .ok (.newarray .long, 2) := by decide +kernel
theorem dX8_init_14 : decode cX8_init 14 = .ok (.putfield 15, 3) := by decide +kernel
theorem dX8_init_17 : decode cX8_init 17 = .ok (.return_, 1) := by decide +kernel
theorem kcX8_init : Cond.code yX8_init cX8_init 2 none ∈ tb := tq q_209 rfl
theorem knX8_init : Cond.initialized yX8_init.cls ∈ tb := (tq q_6 rfl)
theorem kdX8_init : yX8_init.cls ≠ "java/lang/invoke/MethodHandle" ∧ yX8_init.cls ≠ "java/lang/invoke/VarHandle" ∧ (parseMethodDescriptor yX8_init.desc).map (fun d => d.parameters.length) = some 1 := ⟨by decide +kernel, by decide +kernel, by decide +kernel⟩
theorem kiX8_init : Cond.instanceMethod yX8_init ∈ tb := (tq q_208 rfl)
theorem tgX8_init {x0 : Nat} {x1 : Nat} {h : PH} {r : Unit × PH} (hf : (fX8_init x0 x1).1 h = some r) : ∃ n x, nth h x0 = some (7, n, x) := by
  obtain ⟨_, _, e, _⟩ := pb_some hf
  exact (chk_some e).2
set_option maxHeartbeats 4000000 in
set_option maxRecDepth 100000 in
theorem metX8_init (l : Launch) (G : GG) (ρ : Nat → Nat) {z : Nat} {x0 : Nat} {x1 : Nat} {h hE : PH} {v : Unit} (hf : (fX8_init x0 x1).1 h = some (v, hE)) : Met l yX8_init (wsY yX8_init cX8_init 2 none) (RM 1 20 h hE) (va_Pc [.ref (ρ x0), .ref (ρ x1)] (PcB G ρ h z)) (QV G ρ hE h.length z) (DC h hE) (DS h hE) (Af ρ h.length z) := by
  refine met_start (by decide) (Nat.le_of_ble_eq_true rfl) ?_
  intro p e s m below meth c ls hz C hW hl
  subst hz
  have C : Cx G "PairSymbols$State" cX8_init 2 none "<init>" p s m _ meth c := C
  have hx := C.1
  have hb := C.2.1
  have hX : Ext hE hE := Ext.rf hE
  have hl : lv_has ls 2 [(0, .ref (ρ x0)), (1, .ref (ρ x1))] := hl
  have hW : Wd G ρ h.length (sl h) s.heap h s.heap [] 0 0 := hW
  unfold fX8_init at hf
  obtain ⟨_, e0, hf⟩ := pb_rd (rd_chk _ _) hf
  refine lv_aload_n hx hb dX8_init_0 rfl (lv_at hl 0 rfl) ?_
  refine r_obj C (tq q_210 rfl) hl.1 (Nat.le_of_ble_eq_true rfl) (Nat.le_of_ble_eq_true rfl) (Nat.le_of_ble_eq_true rfl) (tq q_21 rfl) (tq q_22 rfl) dX8_init_1 ?_
  refine lv_aload_n hx hb dX8_init_4 rfl (lv_at hl 0 rfl) ?_
  refine lv_aload_n hx hb dX8_init_5 rfl (lv_at hl 1 rfl) ?_
  obtain ⟨_, h1, e1, hf⟩ := pb_some hf
  refine r_sA C hW e1 flX8_9 (Or.inl rfl) rfl dX8_init_6 (fun H locs hW => ?_)
  refine lv_aload_n hx hb dX8_init_9 rfl (lv_at hl 0 rfl) ?_
  refine lv_bipush (v := 9) hx hb dX8_init_10 (by decide) ?_
  obtain ⟨v2, h2, e2, hf⟩ := pb_some hf
  refine r_newa (t0 := 2) C hW .long e2 (by decide) rfl rfl (fun _ => rfl) (by decide) (fun q => q) (tq q_220 rfl) (room_of hW (pext e2) ((pext hf).tr hX)) dX8_init_12 (fun H c1 s1 hW => ?_)
  obtain ⟨_, h3, e3, hf⟩ := pb_some hf
  refine r_sA C hW e3 flX8_15 (Or.inr ⟨rfl, _, rfl, rfl⟩) rfl dX8_init_14 (fun H locs hW => ?_)
  obtain ⟨rfl, rfl⟩ := pp_some hf
  exact r_vret C hW dX8_init_17

theorem dX2_init_0 : decode cX2_init 0 = .ok (.aload_n 0, 1) := by decide +kernel
theorem dX2_init_1 : decode cX2_init 1 = .ok (.invokespecial 3, 3) := by decide +kernel
theorem dX2_init_4 : decode cX2_init 4 = .ok (.aload_n 0, 1) := by decide +kernel
theorem dX2_init_5 : decode cX2_init 5 = .ok (.bipush 6, 2) := by decide +kernel
theorem dX2_init_7 : decode cX2_init 7 = .ok (.anewarray 9, 3) := by decide +kernel
theorem dX2_init_10 : decode cX2_init 10 = .ok (.putfield 11, 3) := by decide +kernel
theorem dX2_init_13 : decode cX2_init 13 = .ok (.iconst 0, 1) := by decide +kernel
theorem dX2_init_14 : decode cX2_init 14 = .ok (.istore_n 2, 1) := by decide +kernel
theorem dX2_init_15 : decode cX2_init 15 = .ok (.iload_n 2, 1) := by decide +kernel
theorem dX2_init_16 : decode cX2_init 16 = .ok (.bipush 6, 2) := by decide +kernel
theorem dX2_init_18 : decode cX2_init 18 = .ok (.if_icmp .ge 23, 3) := by decide +kernel
theorem dX2_init_21 : decode cX2_init 21 = .ok (.aload_n 0, 1) := by decide +kernel
theorem dX2_init_22 : decode cX2_init 22 = .ok (.getfield 11, 3) := by decide +kernel
theorem dX2_init_25 : decode cX2_init 25 = .ok (.iload_n 2, 1) := by decide +kernel
theorem dX2_init_26 : decode cX2_init 26 = .ok (.new 9, 3) := by decide +kernel
theorem dX2_init_29 : decode cX2_init 29 = .ok (.dup, 1) := by decide +kernel
theorem dX2_init_30 : decode cX2_init 30 = .ok (.aload_n 1, 1) := by decide +kernel
theorem dX2_init_31 : decode cX2_init 31 = .ok (.invokespecial 17, 3) := by decide +kernel
theorem dX2_init_34 : decode cX2_init 34 = .ok (.aastore, 1) := by decide +kernel
theorem dX2_init_35 : decode cX2_init 35 = .ok (.iinc 2 1, 3) := by decide +kernel
theorem dX2_init_38 : decode cX2_init 38 = .ok (.goto (-23), 3) := by decide +kernel
theorem dX2_init_41 : decode cX2_init 41 = .ok (.return_, 1) := by decide +kernel
theorem kcX2_init : Cond.code yX2_init cX2_init 3 none ∈ tb := tq q_225 rfl
theorem knX2_init : Cond.initialized yX2_init.cls ∈ tb := (tq q_7 rfl)
theorem kdX2_init : yX2_init.cls ≠ "java/lang/invoke/MethodHandle" ∧ yX2_init.cls ≠ "java/lang/invoke/VarHandle" ∧ (parseMethodDescriptor yX2_init.desc).map (fun d => d.parameters.length) = some 1 := ⟨by decide +kernel, by decide +kernel, by decide +kernel⟩
theorem kiX2_init : Cond.instanceMethod yX2_init ∈ tb := (tq q_224 rfl)
theorem tgX2_init {x0 : Nat} {x1 : Nat} {h : PH} {r : Unit × PH} (hf : (fX2_init x0 x1).1 h = some r) : ∃ n x, nth h x0 = some (2, n, x) := by
  obtain ⟨_, _, e, _⟩ := pb_some hf
  exact (chk_some e).2
set_option maxHeartbeats 4000000 in
set_option maxRecDepth 100000 in
theorem wX2_init_B15 {p : Program} {l : Launch} {e : Env} {s : State} {m : MethodId} {args : Array Value} {below : List Frame} {meth : Method} {c : Code} {G : GG} {ρ : Nat → Nat} {h0 hE hB : PH} {Q : State → Prop} {x0 : Nat} {x1 : Nat} (C : Cx G "PairSymbols$History" cX2_init 3 none "<init>" p s m args meth c) {x2 : Int32} {h : PH} {H : Heap} {locs : List Loc} {cells slots : Nat} {ls : Array Slot} {r : (Int32) ⊕ (Unit)} (hf : (fX2_init_b15 x0 x1 x2).1 h = some (r, hB)) (hX : Ext hB hE) (hW : Wd G ρ h0.length (sl h0) s.heap h H locs cells slots) (hl : lv_has ls 3 [(0, .ref (ρ x0)), (1, .ref (ρ x1)), (2, .int x2)]) (kc : ∀ y : Int32, r = .inl y → ∀ (H : Heap) (locs : List Loc) (c1 s1 : Nat) (ls : Array Slot), Wd G ρ h0.length (sl h0) s.heap hB H locs c1 s1 → lv_has ls 3 [(0, .ref (ρ x0)), (1, .ref (ρ x1)), (2, .int y)] → W p l e (RM 2 41 h0 hE) s m args below meth c H locs c1 s1 Q (F0 m 15 ls [])) (ke : ∀ z : Unit, r = .inr z → ∀ (H : Heap) (locs : List Loc) (c1 s1 : Nat) (ls : Array Slot), Wd G ρ h0.length (sl h0) s.heap hB H locs c1 s1 → lv_has ls 3 [] → W p l e (RM 2 41 h0 hE) s m args below meth c H locs c1 s1 Q (F0 m 41 ls [])) : W p l e (RM 2 41 h0 hE) s m args below meth c H locs cells slots Q (F0 m 15 ls []) := by
  have hx := C.1
  have hb := C.2.1
  unfold fX2_init_b15 at hf
  refine lv_iload_n hx hb dX2_init_15 rfl (lv_at hl 2 rfl) ?_
  refine lv_bipush (v := 6) hx hb dX2_init_16 (by decide) ?_
  refine lv_icmp_ge (tgt := 41) hx hb dX2_init_18 (by decide) (fun c3 => ?_) (fun c3 => ?_)
  · rw [if_pos c3] at hf
    obtain ⟨rfl, rfl⟩ := pp_some hf
    exact ke _ rfl _ _ _ _ _ hW (lv_sub hl [] rfl)
  · rw [if_neg c3] at hf
    refine lv_aload_n hx hb dX2_init_21 rfl (lv_at hl 0 rfl) ?_
    obtain ⟨v4, e4, hf⟩ := pb_rd (rd_gA _ _ _) hf
    refine r_gA C hW e4 flX2_11 rfl dX2_init_22 ?_
    refine lv_iload_n hx hb dX2_init_25 rfl (lv_at hl 2 rfl) ?_
    obtain ⟨v5, h5, e5, hf⟩ := pb_some hf
    refine r_new C hW e5 CT7 rfl (tq q_227 rfl) (tq q_206 rfl) (tq q_6 rfl) (room_of hW (pext e5) ((pext hf).tr hX)) dX2_init_26 (fun H c1 s1 hW => ?_)
    refine lv_dup hx hb dX2_init_29 rfl ?_
    refine lv_aload_n hx hb dX2_init_30 rfl (lv_at hl 1 rfl) ?_
    obtain ⟨_, h6, e6, hf⟩ := pb_some hf
    refine r_callv hW (pext e6) (run_I (b := v5) (As := [.ref (ρ x1)]) (rest := [.ref (ρ v5), .int x2, .ref (ρ v4)]) C hW (metX8_init l G ρ e6) ⟨rfl, rfl⟩ kcX8_init (tq q_229 rfl) kiX8_init knX8_init rfl kdX8_init ⟨Nat.le_of_ble_eq_true rfl, Nat.le_of_ble_eq_true rfl⟩ hl.1 (Nat.le_of_ble_eq_true rfl) (room_of hW (pext e6) ((pext hf).tr hX)) dX2_init_31 rfl) (fun H locs c1 s1 hW => ?_)
    obtain ⟨_, h7, e7, hf⟩ := pb_some hf
    refine r_aast (t0 := 6) C hW e7 rfl (by decide) rfl dX2_init_34 (fun H locs hW => ?_)
    refine lv_iinc (v := (x2 + 1)) (lv' := [(2, .int (x2 + 1)), (0, .ref (ρ x0)), (1, .ref (ρ x1))]) hx hb dX2_init_35 hl (k := 2) rfl rfl (by decide) rfl (fun ls hl => ?_)
    refine lv_goto (tgt := 15) hx hb dX2_init_38 (by decide) ?_
    obtain ⟨rfl, rfl⟩ := pp_some hf
    exact kc _ rfl _ _ _ _ _ hW (lv_sub hl [1, 2, 0] rfl)
set_option maxHeartbeats 4000000 in
theorem wX2_init_L15 {p : Program} {l : Launch} {e : Env} {s : State} {m : MethodId} {args : Array Value} {below : List Frame} {meth : Method} {c : Code} {G : GG} {ρ : Nat → Nat} {h0 hE hB : PH} {Q : State → Prop} {x0 : Nat} {x1 : Nat} (C : Cx G "PairSymbols$History" cX2_init 3 none "<init>" p s m args meth c) {z : (Unit)} (n : Nat) : ∀ (x : Int32) {h : PH} {H : Heap} {locs : List Loc} {cells slots : Nat} {ls : Array Slot}, (plo (fX2_init_B15 x0 x1) n x).1 h = some (z, hB) → Ext hB hE → Wd G ρ h0.length (sl h0) s.heap h H locs cells slots → lv_has ls 3 [(0, .ref (ρ x0)), (1, .ref (ρ x1)), (2, .int x)] → (ke : ∀ (H : Heap) (locs : List Loc) (c1 s1 : Nat) (ls : Array Slot), Wd G ρ h0.length (sl h0) s.heap hB H locs c1 s1 → lv_has ls 3 [] → W p l e (RM 2 41 h0 hE) s m args below meth c H locs c1 s1 Q (F0 m 41 ls [])) → W p l e (RM 2 41 h0 hE) s m args below meth c H locs cells slots Q (F0 m 15 ls []) := by
  induction n with
  | zero =>
    intro x h H locs cells slots ls hf
    rw [plo_0] at hf
    exact (pf_no hf).elim
  | succ n ih =>
    intro x h H locs cells slots ls hf hX hW hl ke
    rw [plo_s] at hf
    obtain ⟨r, h1, e1, hf⟩ := pb_some hf
    unfold fX2_init_B15 at e1
    rw [frI_eq] at e1
    refine wX2_init_B15 C e1 ((pext hf).tr hX) hW hl (fun y hr H locs c1 s1 ls hW hl => ?_) (fun y hr H locs c1 s1 ls hW hl => ?_)
    · subst hr
      exact ih y hf hX hW hl ke
    · subst hr
      obtain ⟨rfl, rfl⟩ := pp_some hf
      exact ke H locs c1 s1 ls hW hl
set_option maxHeartbeats 4000000 in
set_option maxRecDepth 100000 in
theorem metX2_init (l : Launch) (G : GG) (ρ : Nat → Nat) {z : Nat} {x0 : Nat} {x1 : Nat} {h hE : PH} {v : Unit} (hf : (fX2_init x0 x1).1 h = some (v, hE)) : Met l yX2_init (wsY yX2_init cX2_init 3 none) (RM 2 41 h hE) (va_Pc [.ref (ρ x0), .ref (ρ x1)] (PcB G ρ h z)) (QV G ρ hE h.length z) (DC h hE) (DS h hE) (Af ρ h.length z) := by
  refine met_start (by decide) (Nat.le_of_ble_eq_true rfl) ?_
  intro p e s m below meth c ls hz C hW hl
  subst hz
  have C : Cx G "PairSymbols$History" cX2_init 3 none "<init>" p s m _ meth c := C
  have hx := C.1
  have hb := C.2.1
  have hX : Ext hE hE := Ext.rf hE
  have hl : lv_has ls 3 [(0, .ref (ρ x0)), (1, .ref (ρ x1))] := hl
  have hW : Wd G ρ h.length (sl h) s.heap h s.heap [] 0 0 := hW
  unfold fX2_init at hf
  obtain ⟨_, e0, hf⟩ := pb_rd (rd_chk _ _) hf
  refine lv_aload_n hx hb dX2_init_0 rfl (lv_at hl 0 rfl) ?_
  refine r_obj C (tq q_226 rfl) hl.1 (Nat.le_of_ble_eq_true rfl) (Nat.le_of_ble_eq_true rfl) (Nat.le_of_ble_eq_true rfl) (tq q_21 rfl) (tq q_22 rfl) dX2_init_1 ?_
  refine lv_aload_n hx hb dX2_init_4 rfl (lv_at hl 0 rfl) ?_
  refine lv_bipush (v := 6) hx hb dX2_init_5 (by decide) ?_
  obtain ⟨v1, h1, e1, hf⟩ := pb_some hf
  refine r_newq (t0 := 6) C hW e1 (by decide) rfl (tq q_227 rfl) (tq q_228 rfl) (room_of hW (pext e1) ((pext hf).tr hX)) dX2_init_7 (fun H c1 s1 hW => ?_)
  obtain ⟨_, h2, e2, hf⟩ := pb_some hf
  refine r_sA C hW e2 flX2_11 (Or.inr ⟨rfl, _, rfl, rfl⟩) rfl dX2_init_10 (fun H locs hW => ?_)
  refine lv_iconst (v := 0) hx hb dX2_init_13 (by decide) ?_
  refine lv_istore_n (lv' := [(2, .int (0 : Int32)), (0, .ref (ρ x0)), (1, .ref (ρ x1))]) hx hb dX2_init_14 rfl hl (by decide) rfl (fun ls hl => ?_)
  obtain ⟨z8, h8, e8, hf⟩ := pb_some hf
  refine wX2_init_L15 C fu _ e8 ((pext hf).tr hX) hW (lv_sub hl [1, 2, 0] rfl) (fun H locs c1 s1 ls hW hl => ?_)
  obtain ⟨rfl, rfl⟩ := pp_some hf
  exact r_vret C hW dX2_init_41

theorem dX7_init_0 : decode cX7_init 0 = .ok (.aload_n 0, 1) := by decide +kernel
theorem dX7_init_1 : decode cX7_init 1 = .ok (.invokespecial 3, 3) := by decide +kernel
theorem dX7_init_4 : decode cX7_init 4 = .ok (.aload_n 0, 1) := by decide +kernel
theorem dX7_init_5 : decode cX7_init 5 = .ok (.bipush 120, 2) := by decide +kernel
theorem dX7_init_7 : decode cX7_init 7 = .ok (.newarray .byte, 2) := by decide +kernel
theorem dX7_init_9 : decode cX7_init 9 = .ok (.putfield 9, 3) := by decide +kernel
theorem dX7_init_12 : decode cX7_init 12 = .ok (.aload_n 0, 1) := by decide +kernel
theorem dX7_init_13 : decode cX7_init 13 = .ok (.bipush 60, 2) := by decide +kernel
theorem dX7_init_15 : decode cX7_init 15 = .ok (.newarray .int, 2) := by decide +kernel
theorem dX7_init_17 : decode cX7_init 17 = .ok (.putfield 15, 3) := by decide +kernel
theorem dX7_init_20 : decode cX7_init 20 = .ok (.aload_n 0, 1) := by decide +kernel
theorem dX7_init_21 : decode cX7_init 21 = .ok (.bipush 60, 2) := by decide +kernel
theorem dX7_init_23 : decode cX7_init 23 = .ok (.newarray .int, 2) := by decide +kernel
theorem dX7_init_25 : decode cX7_init 25 = .ok (.putfield 19, 3) := by decide +kernel
theorem dX7_init_28 : decode cX7_init 28 = .ok (.aload_n 0, 1) := by decide +kernel
theorem dX7_init_29 : decode cX7_init 29 = .ok (.bipush 60, 2) := by decide +kernel
theorem dX7_init_31 : decode cX7_init 31 = .ok (.newarray .int, 2) := by decide +kernel
theorem dX7_init_33 : decode cX7_init 33 = .ok (.putfield 22, 3) := by decide +kernel
theorem dX7_init_36 : decode cX7_init 36 = .ok (.return_, 1) := by decide +kernel
theorem kcX7_init : Cond.code yX7_init cX7_init 1 none ∈ tb := tq q_242 rfl
theorem knX7_init : Cond.initialized yX7_init.cls ∈ tb := (tq q_8 rfl)
theorem kdX7_init : yX7_init.cls ≠ "java/lang/invoke/MethodHandle" ∧ yX7_init.cls ≠ "java/lang/invoke/VarHandle" ∧ (parseMethodDescriptor yX7_init.desc).map (fun d => d.parameters.length) = some 0 := ⟨by decide +kernel, by decide +kernel, by decide +kernel⟩
theorem kiX7_init : Cond.instanceMethod yX7_init ∈ tb := (tq q_241 rfl)
theorem tgX7_init {x0 : Nat} {h : PH} {r : Unit × PH} (hf : (fX7_init x0).1 h = some r) : ∃ n x, nth h x0 = some (6, n, x) := by
  obtain ⟨_, _, e, _⟩ := pb_some hf
  exact (chk_some e).2
set_option maxHeartbeats 4000000 in
set_option maxRecDepth 100000 in
theorem metX7_init (l : Launch) (G : GG) (ρ : Nat → Nat) {z : Nat} {x0 : Nat} {h hE : PH} {v : Unit} (hf : (fX7_init x0).1 h = some (v, hE)) : Met l yX7_init (wsY yX7_init cX7_init 1 none) (RM 1 20 h hE) (va_Pc [.ref (ρ x0)] (PcB G ρ h z)) (QV G ρ hE h.length z) (DC h hE) (DS h hE) (Af ρ h.length z) := by
  refine met_start (by decide) (Nat.le_of_ble_eq_true rfl) ?_
  intro p e s m below meth c ls hz C hW hl
  subst hz
  have C : Cx G "PairSymbols$Script" cX7_init 1 none "<init>" p s m _ meth c := C
  have hx := C.1
  have hb := C.2.1
  have hX : Ext hE hE := Ext.rf hE
  have hl : lv_has ls 1 [(0, .ref (ρ x0))] := hl
  have hW : Wd G ρ h.length (sl h) s.heap h s.heap [] 0 0 := hW
  unfold fX7_init at hf
  obtain ⟨_, e0, hf⟩ := pb_rd (rd_chk _ _) hf
  refine lv_aload_n hx hb dX7_init_0 rfl (lv_at hl 0 rfl) ?_
  refine r_obj C (tq q_243 rfl) hl.1 (Nat.le_of_ble_eq_true rfl) (Nat.le_of_ble_eq_true rfl) (Nat.le_of_ble_eq_true rfl) (tq q_21 rfl) (tq q_22 rfl) dX7_init_1 ?_
  refine lv_aload_n hx hb dX7_init_4 rfl (lv_at hl 0 rfl) ?_
  refine lv_bipush (v := 120) hx hb dX7_init_5 (by decide) ?_
  obtain ⟨v1, h1, e1, hf⟩ := pb_some hf
  refine r_newa (t0 := 0) C hW .byte e1 (by decide) rfl rfl (fun _ => rfl) (by decide) (fun q => q) (tq q_274 rfl) (room_of hW (pext e1) ((pext hf).tr hX)) dX7_init_7 (fun H c1 s1 hW => ?_)
  obtain ⟨_, h2, e2, hf⟩ := pb_some hf
  refine r_sA C hW e2 flX7_9 (Or.inr ⟨rfl, _, rfl, rfl⟩) rfl dX7_init_9 (fun H locs hW => ?_)
  refine lv_aload_n hx hb dX7_init_12 rfl (lv_at hl 0 rfl) ?_
  refine lv_bipush (v := 60) hx hb dX7_init_13 (by decide) ?_
  obtain ⟨v3, h3, e3, hf⟩ := pb_some hf
  refine r_newa (t0 := 1) C hW .int e3 (by decide) rfl rfl (fun _ => rfl) (by decide) (fun q => q) (tq q_80 rfl) (room_of hW (pext e3) ((pext hf).tr hX)) dX7_init_15 (fun H c1 s1 hW => ?_)
  obtain ⟨_, h4, e4, hf⟩ := pb_some hf
  refine r_sA C hW e4 flX7_15 (Or.inr ⟨rfl, _, rfl, rfl⟩) rfl dX7_init_17 (fun H locs hW => ?_)
  refine lv_aload_n hx hb dX7_init_20 rfl (lv_at hl 0 rfl) ?_
  refine lv_bipush (v := 60) hx hb dX7_init_21 (by decide) ?_
  obtain ⟨v5, h5, e5, hf⟩ := pb_some hf
  refine r_newa (t0 := 1) C hW .int e5 (by decide) rfl rfl (fun _ => rfl) (by decide) (fun q => q) (tq q_80 rfl) (room_of hW (pext e5) ((pext hf).tr hX)) dX7_init_23 (fun H c1 s1 hW => ?_)
  obtain ⟨_, h6, e6, hf⟩ := pb_some hf
  refine r_sA C hW e6 flX7_19 (Or.inr ⟨rfl, _, rfl, rfl⟩) rfl dX7_init_25 (fun H locs hW => ?_)
  refine lv_aload_n hx hb dX7_init_28 rfl (lv_at hl 0 rfl) ?_
  refine lv_bipush (v := 60) hx hb dX7_init_29 (by decide) ?_
  obtain ⟨v7, h7, e7, hf⟩ := pb_some hf
  refine r_newa (t0 := 1) C hW .int e7 (by decide) rfl rfl (fun _ => rfl) (by decide) (fun q => q) (tq q_80 rfl) (room_of hW (pext e7) ((pext hf).tr hX)) dX7_init_31 (fun H c1 s1 hW => ?_)
  obtain ⟨_, h8, e8, hf⟩ := pb_some hf
  refine r_sA C hW e8 flX7_22 (Or.inr ⟨rfl, _, rfl, rfl⟩) rfl dX7_init_33 (fun H locs hW => ?_)
  obtain ⟨rfl, rfl⟩ := pp_some hf
  exact r_vret C hW dX7_init_36

theorem dX1_init_0 : decode cX1_init 0 = .ok (.aload_n 0, 1) := by decide +kernel
theorem dX1_init_1 : decode cX1_init 1 = .ok (.invokespecial 3, 3) := by decide +kernel
theorem dX1_init_4 : decode cX1_init 4 = .ok (.aload_n 0, 1) := by decide +kernel
theorem dX1_init_5 : decode cX1_init 5 = .ok (.bipush 61, 2) := by decide +kernel
theorem dX1_init_7 : decode cX1_init 7 = .ok (.newarray .int, 2) := by decide +kernel
theorem dX1_init_9 : decode cX1_init 9 = .ok (.putfield 9, 3) := by decide +kernel
theorem dX1_init_12 : decode cX1_init 12 = .ok (.aload_n 0, 1) := by decide +kernel
theorem dX1_init_13 : decode cX1_init 13 = .ok (.getfield 9, 3) := by decide +kernel
theorem dX1_init_16 : decode cX1_init 16 = .ok (.iconst (-1), 1) := by decide +kernel
theorem dX1_init_17 : decode cX1_init 17 = .ok (.invokestatic 15, 3) := by decide +kernel
theorem dX1_init_20 : decode cX1_init 20 = .ok (.return_, 1) := by decide +kernel
theorem kcX1_init : Cond.code yX1_init cX1_init 1 none ∈ tb := tq q_279 rfl
theorem knX1_init : Cond.initialized yX1_init.cls ∈ tb := (tq q_9 rfl)
theorem kdX1_init : yX1_init.cls ≠ "java/lang/invoke/MethodHandle" ∧ yX1_init.cls ≠ "java/lang/invoke/VarHandle" ∧ (parseMethodDescriptor yX1_init.desc).map (fun d => d.parameters.length) = some 0 := ⟨by decide +kernel, by decide +kernel, by decide +kernel⟩
theorem kiX1_init : Cond.instanceMethod yX1_init ∈ tb := (tq q_278 rfl)
theorem tgX1_init {x0 : Nat} {h : PH} {r : Unit × PH} (hf : (fX1_init x0).1 h = some r) : ∃ n x, nth h x0 = some (1, n, x) := by
  obtain ⟨_, _, e, _⟩ := pb_some hf
  exact (chk_some e).2
set_option maxHeartbeats 4000000 in
set_option maxRecDepth 100000 in
theorem metX1_init (l : Launch) (G : GG) (ρ : Nat → Nat) {z : Nat} {x0 : Nat} {h hE : PH} {v : Unit} (hf : (fX1_init x0).1 h = some (v, hE)) : Met l yX1_init (wsY yX1_init cX1_init 1 none) (RM 1 23 h hE) (va_Pc [.ref (ρ x0)] (PcB G ρ h z)) (QV G ρ hE h.length z) (DC h hE) (DS h hE) (Af ρ h.length z) := by
  refine met_start (by decide) (Nat.le_of_ble_eq_true rfl) ?_
  intro p e s m below meth c ls hz C hW hl
  subst hz
  have C : Cx G "PairSymbols$Formulas" cX1_init 1 none "<init>" p s m _ meth c := C
  have hx := C.1
  have hb := C.2.1
  have hX : Ext hE hE := Ext.rf hE
  have hl : lv_has ls 1 [(0, .ref (ρ x0))] := hl
  have hW : Wd G ρ h.length (sl h) s.heap h s.heap [] 0 0 := hW
  unfold fX1_init at hf
  obtain ⟨_, e0, hf⟩ := pb_rd (rd_chk _ _) hf
  refine lv_aload_n hx hb dX1_init_0 rfl (lv_at hl 0 rfl) ?_
  refine r_obj C (tq q_280 rfl) hl.1 (Nat.le_of_ble_eq_true rfl) (Nat.le_of_ble_eq_true rfl) (Nat.le_of_ble_eq_true rfl) (tq q_21 rfl) (tq q_22 rfl) dX1_init_1 ?_
  refine lv_aload_n hx hb dX1_init_4 rfl (lv_at hl 0 rfl) ?_
  refine lv_bipush (v := 61) hx hb dX1_init_5 (by decide) ?_
  obtain ⟨v1, h1, e1, hf⟩ := pb_some hf
  refine r_newa (t0 := 1) C hW .int e1 (by decide) rfl rfl (fun _ => rfl) (by decide) (fun q => q) (tq q_80 rfl) (room_of hW (pext e1) ((pext hf).tr hX)) dX1_init_7 (fun H c1 s1 hW => ?_)
  obtain ⟨_, h2, e2, hf⟩ := pb_some hf
  refine r_sA C hW e2 flX1_9 (Or.inr ⟨rfl, _, rfl, rfl⟩) rfl dX1_init_9 (fun H locs hW => ?_)
  refine lv_aload_n hx hb dX1_init_12 rfl (lv_at hl 0 rfl) ?_
  obtain ⟨v3, e3, hf⟩ := pb_rd (rd_gA _ _ _) hf
  refine r_gA C hW e3 flX1_9 rfl dX1_init_13 ?_
  refine lv_iconst (v := -1) hx hb dX1_init_16 (by decide) ?_
  obtain ⟨_, h4, e4, hf⟩ := pb_some hf
  refine r_callv hW (pext e4) (run_S (As := [.ref (ρ v3), .int (-1 : Int32)]) (rest := []) C hW (metJ7_fill_53178 l G ρ e4) ⟨rfl, rfl⟩ kcJ7_fill_53178 (tq q_281 rfl) kiJ7_fill_53178 knJ7_fill_53178 kdJ7_fill_53178 ⟨Nat.le_of_ble_eq_true rfl, Nat.le_of_ble_eq_true rfl⟩ hl.1 (Nat.le_of_ble_eq_true rfl) (room_of hW (pext e4) ((pext hf).tr hX)) dX1_init_17 rfl) (fun H locs c1 s1 hW => ?_)
  obtain ⟨rfl, rfl⟩ := pp_some hf
  exact r_vret C hW dX1_init_20

theorem dX9_init_0 : decode cX9_init 0 = .ok (.aload_n 0, 1) := by decide +kernel
theorem dX9_init_1 : decode cX9_init 1 = .ok (.invokespecial 1, 3) := by decide +kernel
theorem dX9_init_4 : decode cX9_init 4 = .ok (.new 7, 3) := by decide +kernel
theorem dX9_init_7 : decode cX9_init 7 = .ok (.dup, 1) := by decide +kernel
theorem dX9_init_8 : decode cX9_init 8 = .ok (.bipush 11, 2) := by decide +kernel
theorem dX9_init_10 : decode cX9_init 10 = .ok (.invokespecial 11, 3) := by decide +kernel
theorem dX9_init_13 : decode cX9_init 13 = .ok (.astore_n 1, 1) := by decide +kernel
theorem dX9_init_14 : decode cX9_init 14 = .ok (.aload_n 0, 1) := by decide +kernel
theorem dX9_init_15 : decode cX9_init 15 = .ok (.bipush 26, 2) := by decide +kernel
theorem dX9_init_17 : decode cX9_init 17 = .ok (.anewarray 7, 3) := by decide +kernel
theorem dX9_init_20 : decode cX9_init 20 = .ok (.putfield 14, 3) := by decide +kernel
theorem dX9_init_23 : decode cX9_init 23 = .ok (.aload_n 0, 1) := by decide +kernel
theorem dX9_init_24 : decode cX9_init 24 = .ok (.getfield 14, 3) := by decide +kernel
theorem dX9_init_27 : decode cX9_init 27 = .ok (.bipush 11, 2) := by decide +kernel
theorem dX9_init_29 : decode cX9_init 29 = .ok (.aload_n 1, 1) := by decide +kernel
theorem dX9_init_30 : decode cX9_init 30 = .ok (.aastore, 1) := by decide +kernel
theorem dX9_init_31 : decode cX9_init 31 = .ok (.aload_n 0, 1) := by decide +kernel
theorem dX9_init_32 : decode cX9_init 32 = .ok (.new 18, 3) := by decide +kernel
theorem dX9_init_35 : decode cX9_init 35 = .ok (.dup, 1) := by decide +kernel
theorem dX9_init_36 : decode cX9_init 36 = .ok (.aload_n 1, 1) := by decide +kernel
theorem dX9_init_37 : decode cX9_init 37 = .ok (.invokespecial 20, 3) := by decide +kernel
theorem dX9_init_40 : decode cX9_init 40 = .ok (.putfield 23, 3) := by decide +kernel
theorem dX9_init_43 : decode cX9_init 43 = .ok (.aload_n 0, 1) := by decide +kernel
theorem dX9_init_44 : decode cX9_init 44 = .ok (.new 18, 3) := by decide +kernel
theorem dX9_init_47 : decode cX9_init 47 = .ok (.dup, 1) := by decide +kernel
theorem dX9_init_48 : decode cX9_init 48 = .ok (.aload_n 1, 1) := by decide +kernel
theorem dX9_init_49 : decode cX9_init 49 = .ok (.invokespecial 20, 3) := by decide +kernel
theorem dX9_init_52 : decode cX9_init 52 = .ok (.putfield 27, 3) := by decide +kernel
theorem dX9_init_55 : decode cX9_init 55 = .ok (.aload_n 0, 1) := by decide +kernel
theorem dX9_init_56 : decode cX9_init 56 = .ok (.new 30, 3) := by decide +kernel
theorem dX9_init_59 : decode cX9_init 59 = .ok (.dup, 1) := by decide +kernel
theorem dX9_init_60 : decode cX9_init 60 = .ok (.aload_n 1, 1) := by decide +kernel
theorem dX9_init_61 : decode cX9_init 61 = .ok (.invokespecial 32, 3) := by decide +kernel
theorem dX9_init_64 : decode cX9_init 64 = .ok (.putfield 33, 3) := by decide +kernel
theorem dX9_init_67 : decode cX9_init 67 = .ok (.aload_n 0, 1) := by decide +kernel
theorem dX9_init_68 : decode cX9_init 68 = .ok (.new 37, 3) := by decide +kernel
theorem dX9_init_71 : decode cX9_init 71 = .ok (.dup, 1) := by decide +kernel
theorem dX9_init_72 : decode cX9_init 72 = .ok (.invokespecial 39, 3) := by decide +kernel
theorem dX9_init_75 : decode cX9_init 75 = .ok (.putfield 40, 3) := by decide +kernel
theorem dX9_init_78 : decode cX9_init 78 = .ok (.aload_n 0, 1) := by decide +kernel
theorem dX9_init_79 : decode cX9_init 79 = .ok (.new 44, 3) := by decide +kernel
theorem dX9_init_82 : decode cX9_init 82 = .ok (.dup, 1) := by decide +kernel
theorem dX9_init_83 : decode cX9_init 83 = .ok (.invokespecial 46, 3) := by decide +kernel
theorem dX9_init_86 : decode cX9_init 86 = .ok (.putfield 47, 3) := by decide +kernel
theorem dX9_init_89 : decode cX9_init 89 = .ok (.return_, 1) := by decide +kernel
theorem kcX9_init : Cond.code yX9_init cX9_init 2 none ∈ tb := tq q_19 rfl
theorem knX9_init : Cond.initialized yX9_init.cls ∈ tb := (tq q_1 rfl)
theorem kdX9_init : yX9_init.cls ≠ "java/lang/invoke/MethodHandle" ∧ yX9_init.cls ≠ "java/lang/invoke/VarHandle" ∧ (parseMethodDescriptor yX9_init.desc).map (fun d => d.parameters.length) = some 0 := ⟨by decide +kernel, by decide +kernel, by decide +kernel⟩
theorem kiX9_init : Cond.instanceMethod yX9_init ∈ tb := (tq q_18 rfl)
theorem tgX9_init {x0 : Nat} {h : PH} {r : Unit × PH} (hf : (fX9_init x0).1 h = some r) : ∃ n x, nth h x0 = some (8, n, x) := by
  obtain ⟨_, _, e, _⟩ := pb_some hf
  exact (chk_some e).2
set_option maxHeartbeats 4000000 in
set_option maxRecDepth 100000 in
theorem metX9_init (l : Launch) (G : GG) (ρ : Nat → Nat) {z : Nat} {x0 : Nat} {h hE : PH} {v : Unit} (hf : (fX9_init x0).1 h = some (v, hE)) : Met l yX9_init (wsY yX9_init cX9_init 2 none) (RM 4 95 h hE) (va_Pc [.ref (ρ x0)] (PcB G ρ h z)) (QV G ρ hE h.length z) (DC h hE) (DS h hE) (Af ρ h.length z) := by
  refine met_start (by decide) (Nat.le_of_ble_eq_true rfl) ?_
  intro p e s m below meth c ls hz C hW hl
  subst hz
  have C : Cx G "PairSymbols" cX9_init 2 none "<init>" p s m _ meth c := C
  have hx := C.1
  have hb := C.2.1
  have hX : Ext hE hE := Ext.rf hE
  have hl : lv_has ls 2 [(0, .ref (ρ x0))] := hl
  have hW : Wd G ρ h.length (sl h) s.heap h s.heap [] 0 0 := hW
  unfold fX9_init at hf
  obtain ⟨_, e0, hf⟩ := pb_rd (rd_chk _ _) hf
  refine lv_aload_n hx hb dX9_init_0 rfl (lv_at hl 0 rfl) ?_
  refine r_obj C (tq q_20 rfl) hl.1 (Nat.le_of_ble_eq_true rfl) (Nat.le_of_ble_eq_true rfl) (Nat.le_of_ble_eq_true rfl) (tq q_21 rfl) (tq q_22 rfl) dX9_init_1 ?_
  obtain ⟨v1, h1, e1, hf⟩ := pb_some hf
  refine r_new C hW e1 CT3 rfl (tq q_23 rfl) (tq q_24 rfl) (tq q_2 rfl) (room_of hW (pext e1) ((pext hf).tr hX)) dX9_init_4 (fun H c1 s1 hW => ?_)
  refine lv_dup hx hb dX9_init_7 rfl ?_
  refine lv_bipush (v := 11) hx hb dX9_init_8 (by decide) ?_
  obtain ⟨_, h2, e2, hf⟩ := pb_some hf
  refine r_callv hW (pext e2) (run_I (b := v1) (As := [.int (11 : Int32)]) (rest := [.ref (ρ v1)]) C hW (metX3_init l G ρ e2) ⟨rfl, rfl⟩ kcX3_init (tq q_25 rfl) kiX3_init knX3_init rfl kdX3_init ⟨Nat.le_of_ble_eq_true rfl, Nat.le_of_ble_eq_true rfl⟩ hl.1 (Nat.le_of_ble_eq_true rfl) (room_of hW (pext e2) ((pext hf).tr hX)) dX9_init_10 rfl) (fun H locs c1 s1 hW => ?_)
  refine lv_astore_n (lv' := [(1, .ref (ρ v1)), (0, .ref (ρ x0))]) hx hb dX9_init_13 rfl hl (by decide) rfl (fun ls hl => ?_)
  refine lv_aload_n hx hb dX9_init_14 rfl (lv_at hl 1 rfl) ?_
  refine lv_bipush (v := 26) hx hb dX9_init_15 (by decide) ?_
  obtain ⟨v3, h3, e3, hf⟩ := pb_some hf
  refine r_newq (t0 := 4) C hW e3 (by decide) rfl (tq q_23 rfl) (tq q_204 rfl) (room_of hW (pext e3) ((pext hf).tr hX)) dX9_init_17 (fun H c1 s1 hW => ?_)
  obtain ⟨_, h4, e4, hf⟩ := pb_some hf
  refine r_sA C hW e4 flX9_14 (Or.inr ⟨rfl, _, rfl, rfl⟩) rfl dX9_init_20 (fun H locs hW => ?_)
  refine lv_aload_n hx hb dX9_init_23 rfl (lv_at hl 1 rfl) ?_
  obtain ⟨v5, e5, hf⟩ := pb_rd (rd_gA _ _ _) hf
  refine r_gA C hW e5 flX9_14 rfl dX9_init_24 ?_
  refine lv_bipush (v := 11) hx hb dX9_init_27 (by decide) ?_
  refine lv_aload_n hx hb dX9_init_29 rfl (lv_at hl 0 rfl) ?_
  obtain ⟨_, h6, e6, hf⟩ := pb_some hf
  refine r_aast (t0 := 4) C hW e6 rfl (by decide) rfl dX9_init_30 (fun H locs hW => ?_)
  refine lv_aload_n hx hb dX9_init_31 rfl (lv_at hl 1 rfl) ?_
  obtain ⟨v7, h7, e7, hf⟩ := pb_some hf
  refine r_new C hW e7 CT7 rfl (tq q_205 rfl) (tq q_206 rfl) (tq q_6 rfl) (room_of hW (pext e7) ((pext hf).tr hX)) dX9_init_32 (fun H c1 s1 hW => ?_)
  refine lv_dup hx hb dX9_init_35 rfl ?_
  refine lv_aload_n hx hb dX9_init_36 rfl (lv_at hl 0 rfl) ?_
  obtain ⟨_, h8, e8, hf⟩ := pb_some hf
  refine r_callv hW (pext e8) (run_I (b := v7) (As := [.ref (ρ v1)]) (rest := [.ref (ρ v7), .ref (ρ x0)]) C hW (metX8_init l G ρ e8) ⟨rfl, rfl⟩ kcX8_init (tq q_207 rfl) kiX8_init knX8_init rfl kdX8_init ⟨Nat.le_of_ble_eq_true rfl, Nat.le_of_ble_eq_true rfl⟩ hl.1 (Nat.le_of_ble_eq_true rfl) (room_of hW (pext e8) ((pext hf).tr hX)) dX9_init_37 rfl) (fun H locs c1 s1 hW => ?_)
  obtain ⟨_, h9, e9, hf⟩ := pb_some hf
  refine r_sA C hW e9 flX9_23 (Or.inr ⟨rfl, _, rfl, rfl⟩) rfl dX9_init_40 (fun H locs hW => ?_)
  refine lv_aload_n hx hb dX9_init_43 rfl (lv_at hl 1 rfl) ?_
  obtain ⟨v10, h10, e10, hf⟩ := pb_some hf
  refine r_new C hW e10 CT7 rfl (tq q_205 rfl) (tq q_206 rfl) (tq q_6 rfl) (room_of hW (pext e10) ((pext hf).tr hX)) dX9_init_44 (fun H c1 s1 hW => ?_)
  refine lv_dup hx hb dX9_init_47 rfl ?_
  refine lv_aload_n hx hb dX9_init_48 rfl (lv_at hl 0 rfl) ?_
  obtain ⟨_, h11, e11, hf⟩ := pb_some hf
  refine r_callv hW (pext e11) (run_I (b := v10) (As := [.ref (ρ v1)]) (rest := [.ref (ρ v10), .ref (ρ x0)]) C hW (metX8_init l G ρ e11) ⟨rfl, rfl⟩ kcX8_init (tq q_207 rfl) kiX8_init knX8_init rfl kdX8_init ⟨Nat.le_of_ble_eq_true rfl, Nat.le_of_ble_eq_true rfl⟩ hl.1 (Nat.le_of_ble_eq_true rfl) (room_of hW (pext e11) ((pext hf).tr hX)) dX9_init_49 rfl) (fun H locs c1 s1 hW => ?_)
  obtain ⟨_, h12, e12, hf⟩ := pb_some hf
  refine r_sA C hW e12 flX9_27 (Or.inr ⟨rfl, _, rfl, rfl⟩) rfl dX9_init_52 (fun H locs hW => ?_)
  refine lv_aload_n hx hb dX9_init_55 rfl (lv_at hl 1 rfl) ?_
  obtain ⟨v13, h13, e13, hf⟩ := pb_some hf
  refine r_new C hW e13 CT2 rfl (tq q_221 rfl) (tq q_222 rfl) (tq q_7 rfl) (room_of hW (pext e13) ((pext hf).tr hX)) dX9_init_56 (fun H c1 s1 hW => ?_)
  refine lv_dup hx hb dX9_init_59 rfl ?_
  refine lv_aload_n hx hb dX9_init_60 rfl (lv_at hl 0 rfl) ?_
  obtain ⟨_, h14, e14, hf⟩ := pb_some hf
  refine r_callv hW (pext e14) (run_I (b := v13) (As := [.ref (ρ v1)]) (rest := [.ref (ρ v13), .ref (ρ x0)]) C hW (metX2_init l G ρ e14) ⟨rfl, rfl⟩ kcX2_init (tq q_223 rfl) kiX2_init knX2_init rfl kdX2_init ⟨Nat.le_of_ble_eq_true rfl, Nat.le_of_ble_eq_true rfl⟩ hl.1 (Nat.le_of_ble_eq_true rfl) (room_of hW (pext e14) ((pext hf).tr hX)) dX9_init_61 rfl) (fun H locs c1 s1 hW => ?_)
  obtain ⟨_, h15, e15, hf⟩ := pb_some hf
  refine r_sA C hW e15 flX9_33 (Or.inr ⟨rfl, _, rfl, rfl⟩) rfl dX9_init_64 (fun H locs hW => ?_)
  refine lv_aload_n hx hb dX9_init_67 rfl (lv_at hl 1 rfl) ?_
  obtain ⟨v16, h16, e16, hf⟩ := pb_some hf
  refine r_new C hW e16 CT6 rfl (tq q_238 rfl) (tq q_239 rfl) (tq q_8 rfl) (room_of hW (pext e16) ((pext hf).tr hX)) dX9_init_68 (fun H c1 s1 hW => ?_)
  refine lv_dup hx hb dX9_init_71 rfl ?_
  obtain ⟨_, h17, e17, hf⟩ := pb_some hf
  refine r_callv hW (pext e17) (run_I (b := v16) (As := []) (rest := [.ref (ρ v16), .ref (ρ x0)]) C hW (metX7_init l G ρ e17) ⟨rfl, rfl⟩ kcX7_init (tq q_240 rfl) kiX7_init knX7_init rfl kdX7_init ⟨Nat.le_of_ble_eq_true rfl, Nat.le_of_ble_eq_true rfl⟩ hl.1 (Nat.le_of_ble_eq_true rfl) (room_of hW (pext e17) ((pext hf).tr hX)) dX9_init_72 rfl) (fun H locs c1 s1 hW => ?_)
  obtain ⟨_, h18, e18, hf⟩ := pb_some hf
  refine r_sA C hW e18 flX9_40 (Or.inr ⟨rfl, _, rfl, rfl⟩) rfl dX9_init_75 (fun H locs hW => ?_)
  refine lv_aload_n hx hb dX9_init_78 rfl (lv_at hl 1 rfl) ?_
  obtain ⟨v19, h19, e19, hf⟩ := pb_some hf
  refine r_new C hW e19 CT1 rfl (tq q_275 rfl) (tq q_276 rfl) (tq q_9 rfl) (room_of hW (pext e19) ((pext hf).tr hX)) dX9_init_79 (fun H c1 s1 hW => ?_)
  refine lv_dup hx hb dX9_init_82 rfl ?_
  obtain ⟨_, h20, e20, hf⟩ := pb_some hf
  refine r_callv hW (pext e20) (run_I (b := v19) (As := []) (rest := [.ref (ρ v19), .ref (ρ x0)]) C hW (metX1_init l G ρ e20) ⟨rfl, rfl⟩ kcX1_init (tq q_277 rfl) kiX1_init knX1_init rfl kdX1_init ⟨Nat.le_of_ble_eq_true rfl, Nat.le_of_ble_eq_true rfl⟩ hl.1 (Nat.le_of_ble_eq_true rfl) (room_of hW (pext e20) ((pext hf).tr hX)) dX9_init_83 rfl) (fun H locs c1 s1 hW => ?_)
  obtain ⟨_, h21, e21, hf⟩ := pb_some hf
  refine r_sA C hW e21 flX9_47 (Or.inr ⟨rfl, _, rfl, rfl⟩) rfl dX9_init_86 (fun H locs hW => ?_)
  obtain ⟨rfl, rfl⟩ := pp_some hf
  exact r_vret C hW dX9_init_89

theorem dX8_copyFrom_0 : decode cX8_copyFrom 0 = .ok (.aload_n 0, 1) := by decide +kernel
theorem dX8_copyFrom_1 : decode cX8_copyFrom 1 = .ok (.aload_n 1, 1) := by decide +kernel
theorem dX8_copyFrom_2 : decode cX8_copyFrom 2 = .ok (.getfield 9, 3) := by decide +kernel
theorem dX8_copyFrom_5 : decode cX8_copyFrom 5 = .ok (.putfield 9, 3) := by decide +kernel
theorem dX8_copyFrom_8 : decode cX8_copyFrom 8 = .ok (.aload_n 1, 1) := by decide +kernel
theorem dX8_copyFrom_9 : decode cX8_copyFrom 9 = .ok (.getfield 15, 3) := by decide +kernel
theorem dX8_copyFrom_12 : decode cX8_copyFrom 12 = .ok (.iconst 0, 1) := by decide +kernel
theorem dX8_copyFrom_13 : decode cX8_copyFrom 13 = .ok (.aload_n 0, 1) := by decide +kernel
theorem dX8_copyFrom_14 : decode cX8_copyFrom 14 = .ok (.getfield 15, 3) := by decide +kernel
theorem dX8_copyFrom_17 : decode cX8_copyFrom 17 = .ok (.iconst 0, 1) := by decide +kernel
theorem dX8_copyFrom_18 : decode cX8_copyFrom 18 = .ok (.bipush 9, 2) := by decide +kernel
theorem dX8_copyFrom_20 : decode cX8_copyFrom 20 = .ok (.invokestatic 19, 3) := by decide +kernel
theorem dX8_copyFrom_23 : decode cX8_copyFrom 23 = .ok (.return_, 1) := by decide +kernel
theorem kcX8_copyFrom : Cond.code yX8_copyFrom cX8_copyFrom 2 none ∈ tb := tq q_321 rfl
theorem knX8_copyFrom : Cond.initialized yX8_copyFrom.cls ∈ tb := (tq q_6 rfl)
theorem kdX8_copyFrom : yX8_copyFrom.cls ≠ "java/lang/invoke/MethodHandle" ∧ yX8_copyFrom.cls ≠ "java/lang/invoke/VarHandle" ∧ (parseMethodDescriptor yX8_copyFrom.desc).map (fun d => d.parameters.length) = some 1 := ⟨by decide +kernel, by decide +kernel, by decide +kernel⟩
theorem kiX8_copyFrom : Cond.instanceMethod yX8_copyFrom ∈ tb := (tq q_319 rfl)
theorem ksX8_copyFrom : Cond.selects yX8_copyFrom.cls yX8_copyFrom yX8_copyFrom ∈ tb := (tq q_320 rfl)
theorem tgX8_copyFrom {x0 : Nat} {x1 : Nat} {h : PH} {r : Unit × PH} (hf : (fX8_copyFrom x0 x1).1 h = some r) : ∃ n x, nth h x0 = some (7, n, x) := by
  obtain ⟨_, _, e, _⟩ := pb_some hf
  exact (chk_some e).2
set_option maxHeartbeats 4000000 in
set_option maxRecDepth 100000 in
theorem metX8_copyFrom (l : Launch) (G : GG) (ρ : Nat → Nat) {z : Nat} {x0 : Nat} {x1 : Nat} {h hE : PH} {v : Unit} (hf : (fX8_copyFrom x0 x1).1 h = some (v, hE)) : Met l yX8_copyFrom (wsY yX8_copyFrom cX8_copyFrom 2 none) (RM 1 80 h hE) (va_Pc [.ref (ρ x0), .ref (ρ x1)] (PcB G ρ h z)) (QV G ρ hE h.length z) (DC h hE) (DS h hE) (Af ρ h.length z) := by
  refine met_start (by decide) (Nat.le_of_ble_eq_true rfl) ?_
  intro p e s m below meth c ls hz C hW hl
  subst hz
  have C : Cx G "PairSymbols$State" cX8_copyFrom 2 none "copyFrom" p s m _ meth c := C
  have hx := C.1
  have hb := C.2.1
  have hX : Ext hE hE := Ext.rf hE
  have hl : lv_has ls 2 [(0, .ref (ρ x0)), (1, .ref (ρ x1))] := hl
  have hW : Wd G ρ h.length (sl h) s.heap h s.heap [] 0 0 := hW
  unfold fX8_copyFrom at hf
  obtain ⟨_, e0, hf⟩ := pb_rd (rd_chk _ _) hf
  refine lv_aload_n hx hb dX8_copyFrom_0 rfl (lv_at hl 0 rfl) ?_
  refine lv_aload_n hx hb dX8_copyFrom_1 rfl (lv_at hl 1 rfl) ?_
  obtain ⟨v1, e1, hf⟩ := pb_rd (rd_gA _ _ _) hf
  refine r_gA C hW e1 flX8_9 rfl dX8_copyFrom_2 ?_
  obtain ⟨_, h2, e2, hf⟩ := pb_some hf
  refine r_sA C hW e2 flX8_9 (Or.inl rfl) rfl dX8_copyFrom_5 (fun H locs hW => ?_)
  refine lv_aload_n hx hb dX8_copyFrom_8 rfl (lv_at hl 1 rfl) ?_
  obtain ⟨v3, e3, hf⟩ := pb_rd (rd_gA _ _ _) hf
  refine r_gA C hW e3 flX8_15 rfl dX8_copyFrom_9 ?_
  refine lv_iconst (v := 0) hx hb dX8_copyFrom_12 (by decide) ?_
  refine lv_aload_n hx hb dX8_copyFrom_13 rfl (lv_at hl 0 rfl) ?_
  obtain ⟨v4, e4, hf⟩ := pb_rd (rd_gA _ _ _) hf
  refine r_gA C hW e4 flX8_15 rfl dX8_copyFrom_14 ?_
  refine lv_iconst (v := 0) hx hb dX8_copyFrom_17 (by decide) ?_
  refine lv_bipush (v := 9) hx hb dX8_copyFrom_18 (by decide) ?_
  obtain ⟨_, h5, e5, hf⟩ := pb_some hf
  refine r_acp C hW e5 (tq q_322 rfl) (tq q_324 rfl) (tq q_323 rfl) (tq q_11 rfl) hl.1 (Nat.le_of_ble_eq_true rfl) (Nat.le_of_ble_eq_true rfl) (Nat.le_of_ble_eq_true rfl) dX8_copyFrom_20 (fun H locs hW => ?_)
  obtain ⟨rfl, rfl⟩ := pp_some hf
  exact r_vret C hW dX8_copyFrom_23

theorem dX9_within_0 : decode cX9_within 0 = .ok (.iload_n 0, 1) := by decide +kernel
theorem dX9_within_1 : decode cX9_within 1 = .ok (.iload_n 1, 1) := by decide +kernel
theorem dX9_within_2 : decode cX9_within 2 = .ok (.if_icmp .lt 12, 3) := by decide +kernel
theorem dX9_within_5 : decode cX9_within 5 = .ok (.iload_n 0, 1) := by decide +kernel
theorem dX9_within_6 : decode cX9_within 6 = .ok (.iload_n 2, 1) := by decide +kernel
theorem dX9_within_7 : decode cX9_within 7 = .ok (.if_icmp .gt 7, 3) := by decide +kernel
theorem dX9_within_10 : decode cX9_within 10 = .ok (.iconst 1, 1) := by decide +kernel
theorem dX9_within_11 : decode cX9_within 11 = .ok (.goto 4, 3) := by decide +kernel
theorem dX9_within_14 : decode cX9_within 14 = .ok (.iconst 0, 1) := by decide +kernel
theorem dX9_within_15 : decode cX9_within 15 = .ok (.ireturn, 1) := by decide +kernel
theorem kcX9_within : Cond.code yX9_within cX9_within 3 (some .boolean) ∈ tb := tq q_331 rfl
theorem knX9_within : Cond.initialized yX9_within.cls ∈ tb := (tq q_1 rfl)
theorem kdX9_within : yX9_within.cls ≠ "java/lang/invoke/MethodHandle" ∧ yX9_within.cls ≠ "java/lang/invoke/VarHandle" ∧ (parseMethodDescriptor yX9_within.desc).map (fun d => d.parameters.length) = some 3 := ⟨by decide +kernel, by decide +kernel, by decide +kernel⟩
theorem kiX9_within : Cond.static yX9_within ∈ tb := (tq q_330 rfl)
set_option maxHeartbeats 4000000 in
set_option maxRecDepth 100000 in
theorem metX9_within (l : Launch) (G : GG) (ρ : Nat → Nat) {z : Nat} {x0 : Int32} {x1 : Int32} {x2 : Int32} {h hE : PH} {v : Int32} (hf : (fX9_within x0 x1 x2).1 h = some (v, hE)) : Met l yX9_within (wsY yX9_within cX9_within 3 (some .boolean)) (RM 0 0 h hE) (va_Pc [.int x0, .int x1, .int x2] (PcB G ρ h z)) (QI G ρ v hE h.length z) (DC h hE) (DS h hE) (Af ρ h.length z) := by
  refine met_start (by decide) (Nat.le_of_ble_eq_true rfl) ?_
  intro p e s m below meth c ls hz C hW hl
  subst hz
  have C : Cx G "PairSymbols" cX9_within 3 (some .boolean) "within" p s m _ meth c := C
  have hx := C.1
  have hb := C.2.1
  have hX : Ext hE hE := Ext.rf hE
  have hl : lv_has ls 3 [(0, .int x0), (1, .int x1), (2, .int x2)] := hl
  have hW : Wd G ρ h.length (sl h) s.heap h s.heap [] 0 0 := hW
  unfold fX9_within at hf
  refine lv_iload_n hx hb dX9_within_0 rfl (lv_at hl 0 rfl) ?_
  refine lv_iload_n hx hb dX9_within_1 rfl (lv_at hl 1 rfl) ?_
  refine lv_icmp_lt (tgt := 14) hx hb dX9_within_2 (by decide) (fun c1 => ?_) (fun c1 => ?_)
  · rw [if_pos c1] at hf
    refine lv_iconst (v := 0) hx hb dX9_within_14 (by decide) ?_
    obtain ⟨rfl, rfl⟩ := pp_some hf
    exact r_zret C hW rfl dX9_within_15
  · rw [if_neg c1] at hf
    refine lv_iload_n hx hb dX9_within_5 rfl (lv_at hl 0 rfl) ?_
    refine lv_iload_n hx hb dX9_within_6 rfl (lv_at hl 2 rfl) ?_
    refine lv_icmp_gt (tgt := 14) hx hb dX9_within_7 (by decide) (fun c2 => ?_) (fun c2 => ?_)
    · rw [if_pos c2] at hf
      refine lv_iconst (v := 0) hx hb dX9_within_14 (by decide) ?_
      obtain ⟨rfl, rfl⟩ := pp_some hf
      exact r_zret C hW rfl dX9_within_15
    · rw [if_neg c2] at hf
      refine lv_iconst (v := 1) hx hb dX9_within_10 (by decide) ?_
      refine lv_goto (tgt := 15) hx hb dX9_within_11 (by decide) ?_
      obtain ⟨rfl, rfl⟩ := pp_some hf
      exact r_zret C hW rfl dX9_within_15

theorem dJ7_fill_d0a16_0 : decode cJ7_fill_d0a16 0 = .ok (.iconst 0, 1) := by decide +kernel
theorem dJ7_fill_d0a16_1 : decode cJ7_fill_d0a16 1 = .ok (.istore_n 3, 1) := by decide +kernel
theorem dJ7_fill_d0a16_2 : decode cJ7_fill_d0a16 2 = .ok (.aload_n 0, 1) := by decide +kernel
theorem dJ7_fill_d0a16_3 : decode cJ7_fill_d0a16 3 = .ok (.arraylength, 1) := by decide +kernel
theorem dJ7_fill_d0a16_4 : decode cJ7_fill_d0a16 4 = .ok (.istore 4, 2) := by decide +kernel
theorem dJ7_fill_d0a16_6 : decode cJ7_fill_d0a16 6 = .ok (.iload_n 3, 1) := by decide +kernel
theorem dJ7_fill_d0a16_7 : decode cJ7_fill_d0a16 7 = .ok (.iload 4, 2) := by decide +kernel
theorem dJ7_fill_d0a16_9 : decode cJ7_fill_d0a16 9 = .ok (.if_icmp .ge 13, 3) := by decide +kernel
theorem dJ7_fill_d0a16_12 : decode cJ7_fill_d0a16 12 = .ok (.aload_n 0, 1) := by decide +kernel
theorem dJ7_fill_d0a16_13 : decode cJ7_fill_d0a16 13 = .ok (.iload_n 3, 1) := by decide +kernel
theorem dJ7_fill_d0a16_14 : decode cJ7_fill_d0a16 14 = .ok (.lload_n 1, 1) := by decide +kernel
theorem dJ7_fill_d0a16_15 : decode cJ7_fill_d0a16 15 = .ok (.lastore, 1) := by decide +kernel
theorem dJ7_fill_d0a16_16 : decode cJ7_fill_d0a16 16 = .ok (.iinc 3 1, 3) := by decide +kernel
theorem dJ7_fill_d0a16_19 : decode cJ7_fill_d0a16 19 = .ok (.goto (-13), 3) := by decide +kernel
theorem dJ7_fill_d0a16_22 : decode cJ7_fill_d0a16 22 = .ok (.return_, 1) := by decide +kernel
theorem kcJ7_fill_d0a16 : Cond.code yJ7_fill_d0a16 cJ7_fill_d0a16 5 none ∈ tb := tq q_338 rfl
theorem knJ7_fill_d0a16 : Cond.initialized yJ7_fill_d0a16.cls ∈ tb := (tq q_3 rfl)
theorem kdJ7_fill_d0a16 : yJ7_fill_d0a16.cls ≠ "java/lang/invoke/MethodHandle" ∧ yJ7_fill_d0a16.cls ≠ "java/lang/invoke/VarHandle" ∧ (parseMethodDescriptor yJ7_fill_d0a16.desc).map (fun d => d.parameters.length) = some 2 := ⟨by decide +kernel, by decide +kernel, by decide +kernel⟩
theorem kiJ7_fill_d0a16 : Cond.static yJ7_fill_d0a16 ∈ tb := (tq q_337 rfl)
set_option maxHeartbeats 4000000 in
set_option maxRecDepth 100000 in
theorem wJ7_fill_d0a16_B6 {p : Program} {l : Launch} {e : Env} {s : State} {m : MethodId} {args : Array Value} {below : List Frame} {meth : Method} {c : Code} {G : GG} {ρ : Nat → Nat} {h0 hE hB : PH} {Q : State → Prop} {x0 : Nat} {x1 : Int64} {x4 : Int32} (C : Cx G "java/util/Arrays" cJ7_fill_d0a16 5 none "fill" p s m args meth c) {x3 : Int32} {h : PH} {H : Heap} {locs : List Loc} {cells slots : Nat} {ls : Array Slot} {r : (Int32) ⊕ (Unit)} (hf : (fJ7_fill_d0a16_b6 x0 x1 x4 x3).1 h = some (r, hB)) (hX : Ext hB hE) (hW : Wd G ρ h0.length (sl h0) s.heap h H locs cells slots) (hl : lv_has ls 5 [(0, .ref (ρ x0)), (1, .long x1), (3, .int x3), (4, .int x4)]) (kc : ∀ y : Int32, r = .inl y → ∀ (H : Heap) (locs : List Loc) (c1 s1 : Nat) (ls : Array Slot), Wd G ρ h0.length (sl h0) s.heap hB H locs c1 s1 → lv_has ls 5 [(0, .ref (ρ x0)), (1, .long x1), (3, .int y), (4, .int x4)] → W p l e (RM 0 0 h0 hE) s m args below meth c H locs c1 s1 Q (F0 m 6 ls [])) (ke : ∀ z : Unit, r = .inr z → ∀ (H : Heap) (locs : List Loc) (c1 s1 : Nat) (ls : Array Slot), Wd G ρ h0.length (sl h0) s.heap hB H locs c1 s1 → lv_has ls 5 [] → W p l e (RM 0 0 h0 hE) s m args below meth c H locs c1 s1 Q (F0 m 22 ls [])) : W p l e (RM 0 0 h0 hE) s m args below meth c H locs cells slots Q (F0 m 6 ls []) := by
  have hx := C.1
  have hb := C.2.1
  unfold fJ7_fill_d0a16_b6 at hf
  refine lv_iload_n hx hb dJ7_fill_d0a16_6 rfl (lv_at hl 2 rfl) ?_
  refine lv_iload hx hb dJ7_fill_d0a16_7 (lv_at hl 3 rfl) ?_
  refine lv_icmp_ge (tgt := 22) hx hb dJ7_fill_d0a16_9 (by decide) (fun c2 => ?_) (fun c2 => ?_)
  · rw [if_pos c2] at hf
    obtain ⟨rfl, rfl⟩ := pp_some hf
    exact ke _ rfl _ _ _ _ _ hW (lv_sub hl [] rfl)
  · rw [if_neg c2] at hf
    refine lv_aload_n hx hb dJ7_fill_d0a16_12 rfl (lv_at hl 0 rfl) ?_
    refine lv_iload_n hx hb dJ7_fill_d0a16_13 rfl (lv_at hl 2 rfl) ?_
    refine lv_lload_n hx hb dJ7_fill_d0a16_14 rfl (lv_at hl 1 rfl) ?_
    obtain ⟨_, h3, e3, hf⟩ := pb_some hf
    refine r_last C hW e3 dJ7_fill_d0a16_15 (fun H locs hW => ?_)
    refine lv_iinc (v := (x3 + 1)) (lv' := [(3, .int (x3 + 1)), (0, .ref (ρ x0)), (1, .long x1), (4, .int x4)]) hx hb dJ7_fill_d0a16_16 hl (k := 2) rfl rfl (by decide) rfl (fun ls hl => ?_)
    refine lv_goto (tgt := 6) hx hb dJ7_fill_d0a16_19 (by decide) ?_
    obtain ⟨rfl, rfl⟩ := pp_some hf
    exact kc _ rfl _ _ _ _ _ hW (lv_sub hl [1, 2, 0, 3] rfl)
set_option maxHeartbeats 4000000 in
theorem wJ7_fill_d0a16_L6 {p : Program} {l : Launch} {e : Env} {s : State} {m : MethodId} {args : Array Value} {below : List Frame} {meth : Method} {c : Code} {G : GG} {ρ : Nat → Nat} {h0 hE hB : PH} {Q : State → Prop} {x0 : Nat} {x1 : Int64} {x4 : Int32} (C : Cx G "java/util/Arrays" cJ7_fill_d0a16 5 none "fill" p s m args meth c) {z : (Unit)} (n : Nat) : ∀ (x : Int32) {h : PH} {H : Heap} {locs : List Loc} {cells slots : Nat} {ls : Array Slot}, (plo (fJ7_fill_d0a16_B6 x0 x1 x4) n x).1 h = some (z, hB) → Ext hB hE → Wd G ρ h0.length (sl h0) s.heap h H locs cells slots → lv_has ls 5 [(0, .ref (ρ x0)), (1, .long x1), (3, .int x), (4, .int x4)] → (ke : ∀ (H : Heap) (locs : List Loc) (c1 s1 : Nat) (ls : Array Slot), Wd G ρ h0.length (sl h0) s.heap hB H locs c1 s1 → lv_has ls 5 [] → W p l e (RM 0 0 h0 hE) s m args below meth c H locs c1 s1 Q (F0 m 22 ls [])) → W p l e (RM 0 0 h0 hE) s m args below meth c H locs cells slots Q (F0 m 6 ls []) := by
  induction n with
  | zero =>
    intro x h H locs cells slots ls hf
    rw [plo_0] at hf
    exact (pf_no hf).elim
  | succ n ih =>
    intro x h H locs cells slots ls hf hX hW hl ke
    rw [plo_s] at hf
    obtain ⟨r, h1, e1, hf⟩ := pb_some hf
    unfold fJ7_fill_d0a16_B6 at e1
    rw [frI_eq] at e1
    refine wJ7_fill_d0a16_B6 C e1 ((pext hf).tr hX) hW hl (fun y hr H locs c1 s1 ls hW hl => ?_) (fun y hr H locs c1 s1 ls hW hl => ?_)
    · subst hr
      exact ih y hf hX hW hl ke
    · subst hr
      obtain ⟨rfl, rfl⟩ := pp_some hf
      exact ke H locs c1 s1 ls hW hl
set_option maxHeartbeats 4000000 in
set_option maxRecDepth 100000 in
theorem metJ7_fill_d0a16 (l : Launch) (G : GG) (ρ : Nat → Nat) {z : Nat} {x0 : Nat} {x1 : Int64} {h hE : PH} {v : Unit} (hf : (fJ7_fill_d0a16 x0 x1).1 h = some (v, hE)) : Met l yJ7_fill_d0a16 (wsY yJ7_fill_d0a16 cJ7_fill_d0a16 5 none) (RM 0 0 h hE) (va_Pc [.ref (ρ x0), .long x1] (PcB G ρ h z)) (QV G ρ hE h.length z) (DC h hE) (DS h hE) (Af ρ h.length z) := by
  refine met_start (by decide) (Nat.le_of_ble_eq_true rfl) ?_
  intro p e s m below meth c ls hz C hW hl
  subst hz
  have C : Cx G "java/util/Arrays" cJ7_fill_d0a16 5 none "fill" p s m _ meth c := C
  have hx := C.1
  have hb := C.2.1
  have hX : Ext hE hE := Ext.rf hE
  have hl : lv_has ls 5 [(0, .ref (ρ x0)), (1, .long x1)] := hl
  have hW : Wd G ρ h.length (sl h) s.heap h s.heap [] 0 0 := hW
  unfold fJ7_fill_d0a16 at hf
  refine lv_iconst (v := 0) hx hb dJ7_fill_d0a16_0 (by decide) ?_
  refine lv_istore_n (lv' := [(3, .int (0 : Int32)), (0, .ref (ρ x0)), (1, .long x1)]) hx hb dJ7_fill_d0a16_1 rfl hl (by decide) rfl (fun ls hl => ?_)
  refine lv_aload_n hx hb dJ7_fill_d0a16_2 rfl (lv_at hl 1 rfl) ?_
  obtain ⟨v1, e1, hf⟩ := pb_rd (rd_aln _) hf
  refine r_alen C hW e1 dJ7_fill_d0a16_3 ?_
  refine lv_istore (lv' := [(4, .int v1), (3, .int (0 : Int32)), (0, .ref (ρ x0)), (1, .long x1)]) hx hb dJ7_fill_d0a16_4 hl (by decide) rfl (fun ls hl => ?_)
  obtain ⟨z4, h4, e4, hf⟩ := pb_some hf
  refine wJ7_fill_d0a16_L6 C fu _ e4 ((pext hf).tr hX) hW (lv_sub hl [2, 3, 1, 0] rfl) (fun H locs c1 s1 ls hW hl => ?_)
  obtain ⟨rfl, rfl⟩ := pp_some hf
  exact r_vret C hW dJ7_fill_d0a16_22

theorem dX8_becomeZero_0 : decode cX8_becomeZero 0 = .ok (.aload_n 0, 1) := by decide +kernel
theorem dX8_becomeZero_1 : decode cX8_becomeZero 1 = .ok (.getfield 15, 3) := by decide +kernel
theorem dX8_becomeZero_4 : decode cX8_becomeZero 4 = .ok (.lconst 0, 1) := by decide +kernel
theorem dX8_becomeZero_5 : decode cX8_becomeZero 5 = .ok (.invokestatic 25, 3) := by decide +kernel
theorem dX8_becomeZero_8 : decode cX8_becomeZero 8 = .ok (.iconst 0, 1) := by decide +kernel
theorem dX8_becomeZero_9 : decode cX8_becomeZero 9 = .ok (.ireturn, 1) := by decide +kernel
theorem kcX8_becomeZero : Cond.code yX8_becomeZero cX8_becomeZero 1 (some .int) ∈ tb := tq q_335 rfl
theorem knX8_becomeZero : Cond.initialized yX8_becomeZero.cls ∈ tb := (tq q_6 rfl)
theorem kdX8_becomeZero : yX8_becomeZero.cls ≠ "java/lang/invoke/MethodHandle" ∧ yX8_becomeZero.cls ≠ "java/lang/invoke/VarHandle" ∧ (parseMethodDescriptor yX8_becomeZero.desc).map (fun d => d.parameters.length) = some 0 := ⟨by decide +kernel, by decide +kernel, by decide +kernel⟩
theorem kiX8_becomeZero : Cond.instanceMethod yX8_becomeZero ∈ tb := (tq q_333 rfl)
theorem ksX8_becomeZero : Cond.selects yX8_becomeZero.cls yX8_becomeZero yX8_becomeZero ∈ tb := (tq q_334 rfl)
theorem tgX8_becomeZero {x0 : Nat} {h : PH} {r : Int32 × PH} (hf : (fX8_becomeZero x0).1 h = some r) : ∃ n x, nth h x0 = some (7, n, x) := by
  obtain ⟨_, _, e, _⟩ := pb_some hf
  exact (chk_some e).2
set_option maxHeartbeats 4000000 in
set_option maxRecDepth 100000 in
theorem metX8_becomeZero (l : Launch) (G : GG) (ρ : Nat → Nat) {z : Nat} {x0 : Nat} {h hE : PH} {v : Int32} (hf : (fX8_becomeZero x0).1 h = some (v, hE)) : Met l yX8_becomeZero (wsY yX8_becomeZero cX8_becomeZero 1 (some .int)) (RM 1 24 h hE) (va_Pc [.ref (ρ x0)] (PcB G ρ h z)) (QI G ρ v hE h.length z) (DC h hE) (DS h hE) (Af ρ h.length z) := by
  refine met_start (by decide) (Nat.le_of_ble_eq_true rfl) ?_
  intro p e s m below meth c ls hz C hW hl
  subst hz
  have C : Cx G "PairSymbols$State" cX8_becomeZero 1 (some .int) "becomeZero" p s m _ meth c := C
  have hx := C.1
  have hb := C.2.1
  have hX : Ext hE hE := Ext.rf hE
  have hl : lv_has ls 1 [(0, .ref (ρ x0))] := hl
  have hW : Wd G ρ h.length (sl h) s.heap h s.heap [] 0 0 := hW
  unfold fX8_becomeZero at hf
  obtain ⟨_, e0, hf⟩ := pb_rd (rd_chk _ _) hf
  refine lv_aload_n hx hb dX8_becomeZero_0 rfl (lv_at hl 0 rfl) ?_
  obtain ⟨v1, e1, hf⟩ := pb_rd (rd_gA _ _ _) hf
  refine r_gA C hW e1 flX8_15 rfl dX8_becomeZero_1 ?_
  refine lv_lconst (v := 0) hx hb dX8_becomeZero_4 (by decide) ?_
  obtain ⟨_, h2, e2, hf⟩ := pb_some hf
  refine r_callv hW (pext e2) (run_S (As := [.ref (ρ v1), .long (0 : Int64)]) (rest := []) C hW (metJ7_fill_d0a16 l G ρ e2) ⟨rfl, rfl⟩ kcJ7_fill_d0a16 (tq q_336 rfl) kiJ7_fill_d0a16 knJ7_fill_d0a16 kdJ7_fill_d0a16 ⟨Nat.le_of_ble_eq_true rfl, Nat.le_of_ble_eq_true rfl⟩ hl.1 (Nat.le_of_ble_eq_true rfl) (room_of hW (pext e2) ((pext hf).tr hX)) dX8_becomeZero_5 rfl) (fun H locs c1 s1 hW => ?_)
  refine lv_iconst (v := 0) hx hb dX8_becomeZero_8 (by decide) ?_
  obtain ⟨rfl, rfl⟩ := pp_some hf
  exact r_iret C hW dX8_becomeZero_9

theorem dX9_enter_0 : decode cX9_enter 0 = .ok (.iload_n 1, 1) := by decide +kernel
theorem dX9_enter_1 : decode cX9_enter 1 = .ok (.iconst 1, 1) := by decide +kernel
theorem dX9_enter_2 : decode cX9_enter 2 = .ok (.bipush 25, 2) := by decide +kernel
theorem dX9_enter_4 : decode cX9_enter 4 = .ok (.invokestatic 99, 3) := by decide +kernel
theorem dX9_enter_7 : decode cX9_enter 7 = .ok (.ifCond .ne 6, 3) := by decide +kernel
theorem dX9_enter_10 : decode cX9_enter 10 = .ok (.bipush (-2), 2) := by decide +kernel
theorem dX9_enter_12 : decode cX9_enter 12 = .ok (.ireturn, 1) := by decide +kernel
theorem dX9_enter_13 : decode cX9_enter 13 = .ok (.aload_n 0, 1) := by decide +kernel
theorem dX9_enter_14 : decode cX9_enter 14 = .ok (.getfield 14, 3) := by decide +kernel
theorem dX9_enter_17 : decode cX9_enter 17 = .ok (.iload_n 1, 1) := by decide +kernel
theorem dX9_enter_18 : decode cX9_enter 18 = .ok (.aaload, 1) := by decide +kernel
theorem dX9_enter_19 : decode cX9_enter 19 = .ok (.astore_n 2, 1) := by decide +kernel
theorem dX9_enter_20 : decode cX9_enter 20 = .ok (.aload_n 2, 1) := by decide +kernel
theorem dX9_enter_21 : decode cX9_enter 21 = .ok (.ifnonnull 19, 3) := by decide +kernel
theorem dX9_enter_24 : decode cX9_enter 24 = .ok (.new 7, 3) := by decide +kernel
theorem dX9_enter_27 : decode cX9_enter 27 = .ok (.dup, 1) := by decide +kernel
theorem dX9_enter_28 : decode cX9_enter 28 = .ok (.iload_n 1, 1) := by decide +kernel
theorem dX9_enter_29 : decode cX9_enter 29 = .ok (.invokespecial 11, 3) := by decide +kernel
theorem dX9_enter_32 : decode cX9_enter 32 = .ok (.astore_n 2, 1) := by decide +kernel
theorem dX9_enter_33 : decode cX9_enter 33 = .ok (.aload_n 0, 1) := by decide +kernel
theorem dX9_enter_34 : decode cX9_enter 34 = .ok (.getfield 14, 3) := by decide +kernel
theorem dX9_enter_37 : decode cX9_enter 37 = .ok (.iload_n 1, 1) := by decide +kernel
theorem dX9_enter_38 : decode cX9_enter 38 = .ok (.aload_n 2, 1) := by decide +kernel
theorem dX9_enter_39 : decode cX9_enter 39 = .ok (.aastore, 1) := by decide +kernel
theorem dX9_enter_40 : decode cX9_enter 40 = .ok (.aload_n 0, 1) := by decide +kernel
theorem dX9_enter_41 : decode cX9_enter 41 = .ok (.getfield 27, 3) := by decide +kernel
theorem dX9_enter_44 : decode cX9_enter 44 = .ok (.getfield 62, 3) := by decide +kernel
theorem dX9_enter_47 : decode cX9_enter 47 = .ok (.getfield 234, 3) := by decide +kernel
theorem dX9_enter_50 : decode cX9_enter 50 = .ok (.istore_n 3, 1) := by decide +kernel
theorem dX9_enter_51 : decode cX9_enter 51 = .ok (.aload_n 0, 1) := by decide +kernel
theorem dX9_enter_52 : decode cX9_enter 52 = .ok (.getfield 27, 3) := by decide +kernel
theorem dX9_enter_55 : decode cX9_enter 55 = .ok (.aload_n 2, 1) := by decide +kernel
theorem dX9_enter_56 : decode cX9_enter 56 = .ok (.putfield 62, 3) := by decide +kernel
theorem dX9_enter_59 : decode cX9_enter 59 = .ok (.aload_n 0, 1) := by decide +kernel
theorem dX9_enter_60 : decode cX9_enter 60 = .ok (.getfield 27, 3) := by decide +kernel
theorem dX9_enter_63 : decode cX9_enter 63 = .ok (.invokevirtual 260, 3) := by decide +kernel
theorem dX9_enter_66 : decode cX9_enter 66 = .ok (.pop, 1) := by decide +kernel
theorem dX9_enter_67 : decode cX9_enter 67 = .ok (.iload_n 3, 1) := by decide +kernel
theorem dX9_enter_68 : decode cX9_enter 68 = .ok (.ireturn, 1) := by decide +kernel
theorem kcX9_enter : Cond.code yX9_enter cX9_enter 4 (some .int) ∈ tb := tq q_328 rfl
theorem knX9_enter : Cond.initialized yX9_enter.cls ∈ tb := (tq q_1 rfl)
theorem kdX9_enter : yX9_enter.cls ≠ "java/lang/invoke/MethodHandle" ∧ yX9_enter.cls ≠ "java/lang/invoke/VarHandle" ∧ (parseMethodDescriptor yX9_enter.desc).map (fun d => d.parameters.length) = some 1 := ⟨by decide +kernel, by decide +kernel, by decide +kernel⟩
theorem kiX9_enter : Cond.instanceMethod yX9_enter ∈ tb := (tq q_327 rfl)
theorem ksX9_enter : Cond.selects yX9_enter.cls yX9_enter yX9_enter ∈ tb := (tq z_8 rfl)
theorem tgX9_enter {x0 : Nat} {x1 : Int32} {h : PH} {r : Int32 × PH} (hf : (fX9_enter x0 x1).1 h = some r) : ∃ n x, nth h x0 = some (8, n, x) := by
  obtain ⟨_, _, e, _⟩ := pb_some hf
  exact (chk_some e).2
set_option maxHeartbeats 4000000 in
set_option maxRecDepth 100000 in
theorem metX9_enter (l : Launch) (G : GG) (ρ : Nat → Nat) {z : Nat} {x0 : Nat} {x1 : Int32} {h hE : PH} {v : Int32} (hf : (fX9_enter x0 x1).1 h = some (v, hE)) : Met l yX9_enter (wsY yX9_enter cX9_enter 4 (some .int)) (RM 4 95 h hE) (va_Pc [.ref (ρ x0), .int x1] (PcB G ρ h z)) (QI G ρ v hE h.length z) (DC h hE) (DS h hE) (Af ρ h.length z) := by
  refine met_start (by decide) (Nat.le_of_ble_eq_true rfl) ?_
  intro p e s m below meth c ls hz C hW hl
  subst hz
  have C : Cx G "PairSymbols" cX9_enter 4 (some .int) "ente\x72" p s m _ meth c := C
  have hx := C.1
  have hb := C.2.1
  have hX : Ext hE hE := Ext.rf hE
  have hl : lv_has ls 4 [(0, .ref (ρ x0)), (1, .int x1)] := hl
  have hW : Wd G ρ h.length (sl h) s.heap h s.heap [] 0 0 := hW
  unfold fX9_enter at hf
  obtain ⟨_, e0, hf⟩ := pb_rd (rd_chk _ _) hf
  refine lv_iload_n hx hb dX9_enter_0 rfl (lv_at hl 1 rfl) ?_
  refine lv_iconst (v := 1) hx hb dX9_enter_1 (by decide) ?_
  refine lv_bipush (v := 25) hx hb dX9_enter_2 (by decide) ?_
  obtain ⟨v1, h1, e1, hf⟩ := pb_some hf
  refine r_calli hW (pext e1) (run_S (As := [.int x1, .int (1 : Int32), .int (25 : Int32)]) (rest := []) C hW (metX9_within l G ρ e1) ⟨rfl, rfl⟩ kcX9_within (tq q_329 rfl) kiX9_within knX9_within kdX9_within ⟨Nat.le_of_ble_eq_true rfl, Nat.le_of_ble_eq_true rfl⟩ hl.1 (Nat.le_of_ble_eq_true rfl) (room_of hW (pext e1) ((pext hf).tr hX)) dX9_enter_4 rfl) (fun H locs c1 s1 hW => ?_)
  refine lv_if_ne (tgt := 13) hx hb dX9_enter_7 (by decide) (fun c2 => ?_) (fun c2 => ?_)
  · rw [if_neg c2] at hf
    refine lv_aload_n hx hb dX9_enter_13 rfl (lv_at hl 0 rfl) ?_
    obtain ⟨v3, e3, hf⟩ := pb_rd (rd_gA _ _ _) hf
    refine r_gA C hW e3 flX9_14 rfl dX9_enter_14 ?_
    refine lv_iload_n hx hb dX9_enter_17 rfl (lv_at hl 1 rfl) ?_
    obtain ⟨v4, e4, hf⟩ := pb_rd (rd_lN _ _ _) hf
    refine r_aaldN C hW e4 (by decide) (by decide) dX9_enter_18 ?_
    refine r_astQn (lv' := [(2, va_rf (Option.map ρ v4)), (0, .ref (ρ x0)), (1, .int x1)]) hx hb dX9_enter_19 rfl hl (by decide) rfl (fun ls hl => ?_)
    refine r_aldQn hx hb dX9_enter_20 rfl (lv_at hl 0 rfl) ?_
    rcases v4 with _ | a5
    · have hl : lv_has ls 4 [(2, .null), (0, .ref (ρ x0)), (1, .int x1)] := hl
      try dsimp only at hf
      refine lv_ifnonnullN hx hb dX9_enter_21 ?_
      obtain ⟨v6, h6, e6, hf⟩ := pb_some hf
      refine r_new C hW e6 CT3 rfl (tq q_23 rfl) (tq q_24 rfl) (tq q_2 rfl) (room_of hW (pext e6) ((pext hf).tr hX)) dX9_enter_24 (fun H c1 s1 hW => ?_)
      refine lv_dup hx hb dX9_enter_27 rfl ?_
      refine lv_iload_n hx hb dX9_enter_28 rfl (lv_at hl 2 rfl) ?_
      obtain ⟨_, h7, e7, hf⟩ := pb_some hf
      refine r_callv hW (pext e7) (run_I (b := v6) (As := [.int x1]) (rest := [.ref (ρ v6)]) C hW (metX3_init l G ρ e7) ⟨rfl, rfl⟩ kcX3_init (tq q_25 rfl) kiX3_init knX3_init rfl kdX3_init ⟨Nat.le_of_ble_eq_true rfl, Nat.le_of_ble_eq_true rfl⟩ hl.1 (Nat.le_of_ble_eq_true rfl) (room_of hW (pext e7) ((pext hf).tr hX)) dX9_enter_29 rfl) (fun H locs c1 s1 hW => ?_)
      refine lv_astore_n (lv' := [(2, .ref (ρ v6)), (0, .ref (ρ x0)), (1, .int x1)]) hx hb dX9_enter_32 rfl hl (by decide) rfl (fun ls hl => ?_)
      refine lv_aload_n hx hb dX9_enter_33 rfl (lv_at hl 1 rfl) ?_
      obtain ⟨v8, e8, hf⟩ := pb_rd (rd_gA _ _ _) hf
      refine r_gA C hW e8 flX9_14 rfl dX9_enter_34 ?_
      refine lv_iload_n hx hb dX9_enter_37 rfl (lv_at hl 2 rfl) ?_
      refine lv_aload_n hx hb dX9_enter_38 rfl (lv_at hl 0 rfl) ?_
      obtain ⟨_, h9, e9, hf⟩ := pb_some hf
      refine r_aast (t0 := 4) C hW e9 rfl (by decide) rfl dX9_enter_39 (fun H locs hW => ?_)
      refine lv_aload_n hx hb dX9_enter_40 rfl (lv_at hl 1 rfl) ?_
      obtain ⟨v10, e10, hf⟩ := pb_rd (rd_gA _ _ _) hf
      refine r_gA C hW e10 flX9_27 rfl dX9_enter_41 ?_
      obtain ⟨v11, e11, hf⟩ := pb_rd (rd_gA _ _ _) hf
      refine r_gA C hW e11 flX9_62 rfl dX9_enter_44 ?_
      obtain ⟨v12, e12, hf⟩ := pb_rd (rd_gI _ _ _) hf
      refine r_gI C hW e12 flX9_234 rfl dX9_enter_47 ?_
      refine lv_istore_n (lv' := [(3, .int v12), (2, .ref (ρ v6)), (0, .ref (ρ x0)), (1, .int x1)]) hx hb dX9_enter_50 rfl hl (by decide) rfl (fun ls hl => ?_)
      refine lv_aload_n hx hb dX9_enter_51 rfl (lv_at hl 2 rfl) ?_
      obtain ⟨v13, e13, hf⟩ := pb_rd (rd_gA _ _ _) hf
      refine r_gA C hW e13 flX9_27 rfl dX9_enter_52 ?_
      refine lv_aload_n hx hb dX9_enter_55 rfl (lv_at hl 1 rfl) ?_
      obtain ⟨_, h14, e14, hf⟩ := pb_some hf
      refine r_sA C hW e14 flX9_62 (Or.inl rfl) rfl dX9_enter_56 (fun H locs hW => ?_)
      refine lv_aload_n hx hb dX9_enter_59 rfl (lv_at hl 2 rfl) ?_
      obtain ⟨v15, e15, hf⟩ := pb_rd (rd_gA _ _ _) hf
      refine r_gA C hW e15 flX9_27 rfl dX9_enter_60 ?_
      obtain ⟨v16, h16, e16, hf⟩ := pb_some hf
      obtain ⟨_, _, t17⟩ := tgX8_becomeZero e16
      refine r_calli hW (pext e16) (run_V (b := v15) (As := []) (rest := []) C hW (metX8_becomeZero l G ρ e16) ⟨rfl, rfl⟩ kcX8_becomeZero (tq q_332 rfl) kiX8_becomeZero ksX8_becomeZero knX8_becomeZero kdX8_becomeZero t17 rfl rfl ⟨Nat.le_of_ble_eq_true rfl, Nat.le_of_ble_eq_true rfl⟩ hl.1 (Nat.le_of_ble_eq_true rfl) (room_of hW (pext e16) ((pext hf).tr hX)) dX9_enter_63 rfl) (fun H locs c1 s1 hW => ?_)
      refine lv_pop hx hb dX9_enter_66 rfl ?_
      refine lv_iload_n hx hb dX9_enter_67 rfl (lv_at hl 0 rfl) ?_
      obtain ⟨rfl, rfl⟩ := pp_some hf
      exact r_iret C hW dX9_enter_68
    · have hl : lv_has ls 4 [(2, .ref (ρ a5)), (0, .ref (ρ x0)), (1, .int x1)] := hl
      try dsimp only at hf
      refine lv_ifnonnull (tgt := 40) hx hb dX9_enter_21 (by decide) ?_
      refine lv_aload_n hx hb dX9_enter_40 rfl (lv_at hl 1 rfl) ?_
      obtain ⟨v18, e18, hf⟩ := pb_rd (rd_gA _ _ _) hf
      refine r_gA C hW e18 flX9_27 rfl dX9_enter_41 ?_
      obtain ⟨v19, e19, hf⟩ := pb_rd (rd_gA _ _ _) hf
      refine r_gA C hW e19 flX9_62 rfl dX9_enter_44 ?_
      obtain ⟨v20, e20, hf⟩ := pb_rd (rd_gI _ _ _) hf
      refine r_gI C hW e20 flX9_234 rfl dX9_enter_47 ?_
      refine lv_istore_n (lv' := [(3, .int v20), (2, .ref (ρ a5)), (0, .ref (ρ x0)), (1, .int x1)]) hx hb dX9_enter_50 rfl hl (by decide) rfl (fun ls hl => ?_)
      refine lv_aload_n hx hb dX9_enter_51 rfl (lv_at hl 2 rfl) ?_
      obtain ⟨v21, e21, hf⟩ := pb_rd (rd_gA _ _ _) hf
      refine r_gA C hW e21 flX9_27 rfl dX9_enter_52 ?_
      refine lv_aload_n hx hb dX9_enter_55 rfl (lv_at hl 1 rfl) ?_
      obtain ⟨_, h22, e22, hf⟩ := pb_some hf
      refine r_sA C hW e22 flX9_62 (Or.inl rfl) rfl dX9_enter_56 (fun H locs hW => ?_)
      refine lv_aload_n hx hb dX9_enter_59 rfl (lv_at hl 2 rfl) ?_
      obtain ⟨v23, e23, hf⟩ := pb_rd (rd_gA _ _ _) hf
      refine r_gA C hW e23 flX9_27 rfl dX9_enter_60 ?_
      obtain ⟨v24, h24, e24, hf⟩ := pb_some hf
      obtain ⟨_, _, t25⟩ := tgX8_becomeZero e24
      refine r_calli hW (pext e24) (run_V (b := v23) (As := []) (rest := []) C hW (metX8_becomeZero l G ρ e24) ⟨rfl, rfl⟩ kcX8_becomeZero (tq q_332 rfl) kiX8_becomeZero ksX8_becomeZero knX8_becomeZero kdX8_becomeZero t25 rfl rfl ⟨Nat.le_of_ble_eq_true rfl, Nat.le_of_ble_eq_true rfl⟩ hl.1 (Nat.le_of_ble_eq_true rfl) (room_of hW (pext e24) ((pext hf).tr hX)) dX9_enter_63 rfl) (fun H locs c1 s1 hW => ?_)
      refine lv_pop hx hb dX9_enter_66 rfl ?_
      refine lv_iload_n hx hb dX9_enter_67 rfl (lv_at hl 0 rfl) ?_
      obtain ⟨rfl, rfl⟩ := pp_some hf
      exact r_iret C hW dX9_enter_68
  · rw [if_pos c2] at hf
    refine lv_bipush (v := -2) hx hb dX9_enter_10 (by decide) ?_
    obtain ⟨rfl, rfl⟩ := pp_some hf
    exact r_iret C hW dX9_enter_12

theorem dX9_refuse_0 : decode cX9_refuse 0 = .ok (.iload_n 1, 1) := by decide +kernel
theorem dX9_refuse_1 : decode cX9_refuse 1 = .ok (.bipush (-2), 2) := by decide +kernel
theorem dX9_refuse_3 : decode cX9_refuse 3 = .ok (.if_icmp .ne 16, 3) := by decide +kernel
theorem dX9_refuse_6 : decode cX9_refuse 6 = .ok (.aload_n 0, 1) := by decide +kernel
theorem dX9_refuse_7 : decode cX9_refuse 7 = .ok (.dup, 1) := by decide +kernel
theorem dX9_refuse_8 : decode cX9_refuse 8 = .ok (.getfield 225, 3) := by decide +kernel
theorem dX9_refuse_11 : decode cX9_refuse 11 = .ok (.iconst 1, 1) := by decide +kernel
theorem dX9_refuse_12 : decode cX9_refuse 12 = .ok (.iadd, 1) := by decide +kernel
theorem dX9_refuse_13 : decode cX9_refuse 13 = .ok (.putfield 225, 3) := by decide +kernel
theorem dX9_refuse_16 : decode cX9_refuse 16 = .ok (.goto 38, 3) := by decide +kernel
theorem dX9_refuse_19 : decode cX9_refuse 19 = .ok (.iload_n 1, 1) := by decide +kernel
theorem dX9_refuse_20 : decode cX9_refuse 20 = .ok (.bipush (-3), 2) := by decide +kernel
theorem dX9_refuse_22 : decode cX9_refuse 22 = .ok (.if_icmp .ne 16, 3) := by decide +kernel
theorem dX9_refuse_25 : decode cX9_refuse 25 = .ok (.aload_n 0, 1) := by decide +kernel
theorem dX9_refuse_26 : decode cX9_refuse 26 = .ok (.dup, 1) := by decide +kernel
theorem dX9_refuse_27 : decode cX9_refuse 27 = .ok (.getfield 228, 3) := by decide +kernel
theorem dX9_refuse_30 : decode cX9_refuse 30 = .ok (.iconst 1, 1) := by decide +kernel
theorem dX9_refuse_31 : decode cX9_refuse 31 = .ok (.iadd, 1) := by decide +kernel
theorem dX9_refuse_32 : decode cX9_refuse 32 = .ok (.putfield 228, 3) := by decide +kernel
theorem dX9_refuse_35 : decode cX9_refuse 35 = .ok (.goto 19, 3) := by decide +kernel
theorem dX9_refuse_38 : decode cX9_refuse 38 = .ok (.iload_n 1, 1) := by decide +kernel
theorem dX9_refuse_39 : decode cX9_refuse 39 = .ok (.bipush (-4), 2) := by decide +kernel
theorem dX9_refuse_41 : decode cX9_refuse 41 = .ok (.if_icmp .ne 13, 3) := by decide +kernel
theorem dX9_refuse_44 : decode cX9_refuse 44 = .ok (.aload_n 0, 1) := by decide +kernel
theorem dX9_refuse_45 : decode cX9_refuse 45 = .ok (.dup, 1) := by decide +kernel
theorem dX9_refuse_46 : decode cX9_refuse 46 = .ok (.getfield 231, 3) := by decide +kernel
theorem dX9_refuse_49 : decode cX9_refuse 49 = .ok (.iconst 1, 1) := by decide +kernel
theorem dX9_refuse_50 : decode cX9_refuse 50 = .ok (.iadd, 1) := by decide +kernel
theorem dX9_refuse_51 : decode cX9_refuse 51 = .ok (.putfield 231, 3) := by decide +kernel
theorem dX9_refuse_54 : decode cX9_refuse 54 = .ok (.iload_n 1, 1) := by decide +kernel
theorem dX9_refuse_55 : decode cX9_refuse 55 = .ok (.ireturn, 1) := by decide +kernel
theorem kcX9_refuse : Cond.code yX9_refuse cX9_refuse 2 (some .int) ∈ tb := tq q_346 rfl
theorem knX9_refuse : Cond.initialized yX9_refuse.cls ∈ tb := (tq q_1 rfl)
theorem kdX9_refuse : yX9_refuse.cls ≠ "java/lang/invoke/MethodHandle" ∧ yX9_refuse.cls ≠ "java/lang/invoke/VarHandle" ∧ (parseMethodDescriptor yX9_refuse.desc).map (fun d => d.parameters.length) = some 1 := ⟨by decide +kernel, by decide +kernel, by decide +kernel⟩
theorem kiX9_refuse : Cond.instanceMethod yX9_refuse ∈ tb := (tq q_345 rfl)
theorem ksX9_refuse : Cond.selects yX9_refuse.cls yX9_refuse yX9_refuse ∈ tb := (tq z_10 rfl)
theorem tgX9_refuse {x0 : Nat} {x1 : Int32} {h : PH} {r : Int32 × PH} (hf : (fX9_refuse x0 x1).1 h = some r) : ∃ n x, nth h x0 = some (8, n, x) := by
  obtain ⟨_, _, e, _⟩ := pb_some hf
  exact (chk_some e).2
set_option maxHeartbeats 4000000 in
set_option maxRecDepth 100000 in
theorem metX9_refuse (l : Launch) (G : GG) (ρ : Nat → Nat) {z : Nat} {x0 : Nat} {x1 : Int32} {h hE : PH} {v : Int32} (hf : (fX9_refuse x0 x1).1 h = some (v, hE)) : Met l yX9_refuse (wsY yX9_refuse cX9_refuse 2 (some .int)) (RM 0 0 h hE) (va_Pc [.ref (ρ x0), .int x1] (PcB G ρ h z)) (QI G ρ v hE h.length z) (DC h hE) (DS h hE) (Af ρ h.length z) := by
  refine met_start (by decide) (Nat.le_of_ble_eq_true rfl) ?_
  intro p e s m below meth c ls hz C hW hl
  subst hz
  have C : Cx G "PairSymbols" cX9_refuse 2 (some .int) "refuse" p s m _ meth c := C
  have hx := C.1
  have hb := C.2.1
  have hX : Ext hE hE := Ext.rf hE
  have hl : lv_has ls 2 [(0, .ref (ρ x0)), (1, .int x1)] := hl
  have hW : Wd G ρ h.length (sl h) s.heap h s.heap [] 0 0 := hW
  unfold fX9_refuse at hf
  obtain ⟨_, e0, hf⟩ := pb_rd (rd_chk _ _) hf
  refine lv_iload_n hx hb dX9_refuse_0 rfl (lv_at hl 1 rfl) ?_
  refine lv_bipush (v := -2) hx hb dX9_refuse_1 (by decide) ?_
  refine lv_icmp_ne (tgt := 19) hx hb dX9_refuse_3 (by decide) (fun c1 => ?_) (fun c1 => ?_)
  · rw [if_neg c1] at hf
    refine lv_iload_n hx hb dX9_refuse_19 rfl (lv_at hl 1 rfl) ?_
    refine lv_bipush (v := -3) hx hb dX9_refuse_20 (by decide) ?_
    refine lv_icmp_ne (tgt := 38) hx hb dX9_refuse_22 (by decide) (fun c2 => ?_) (fun c2 => ?_)
    · rw [if_neg c2] at hf
      refine lv_iload_n hx hb dX9_refuse_38 rfl (lv_at hl 1 rfl) ?_
      refine lv_bipush (v := -4) hx hb dX9_refuse_39 (by decide) ?_
      refine lv_icmp_ne (tgt := 54) hx hb dX9_refuse_41 (by decide) (fun c3 => ?_) (fun c3 => ?_)
      · rw [if_neg c3] at hf
        refine lv_iload_n hx hb dX9_refuse_54 rfl (lv_at hl 1 rfl) ?_
        obtain ⟨rfl, rfl⟩ := pp_some hf
        exact r_iret C hW dX9_refuse_55
      · rw [if_pos c3] at hf
        refine lv_aload_n hx hb dX9_refuse_44 rfl (lv_at hl 0 rfl) ?_
        refine lv_dup hx hb dX9_refuse_45 rfl ?_
        obtain ⟨v4, e4, hf⟩ := pb_rd (rd_gI _ _ _) hf
        refine r_gI C hW e4 flX9_231 rfl dX9_refuse_46 ?_
        refine lv_iconst (v := 1) hx hb dX9_refuse_49 (by decide) ?_
        refine lv_iadd hx hb dX9_refuse_50 ?_
        obtain ⟨_, h5, e5, hf⟩ := pb_some hf
        refine r_sI C hW e5 flX9_231 (Or.inl rfl) rfl dX9_refuse_51 (fun H locs hW => ?_)
        refine lv_iload_n hx hb dX9_refuse_54 rfl (lv_at hl 1 rfl) ?_
        obtain ⟨rfl, rfl⟩ := pp_some hf
        exact r_iret C hW dX9_refuse_55
    · rw [if_pos c2] at hf
      refine lv_aload_n hx hb dX9_refuse_25 rfl (lv_at hl 0 rfl) ?_
      refine lv_dup hx hb dX9_refuse_26 rfl ?_
      obtain ⟨v6, e6, hf⟩ := pb_rd (rd_gI _ _ _) hf
      refine r_gI C hW e6 flX9_228 rfl dX9_refuse_27 ?_
      refine lv_iconst (v := 1) hx hb dX9_refuse_30 (by decide) ?_
      refine lv_iadd hx hb dX9_refuse_31 ?_
      obtain ⟨_, h7, e7, hf⟩ := pb_some hf
      refine r_sI C hW e7 flX9_228 (Or.inl rfl) rfl dX9_refuse_32 (fun H locs hW => ?_)
      refine lv_goto (tgt := 54) hx hb dX9_refuse_35 (by decide) ?_
      refine lv_iload_n hx hb dX9_refuse_54 rfl (lv_at hl 1 rfl) ?_
      obtain ⟨rfl, rfl⟩ := pp_some hf
      exact r_iret C hW dX9_refuse_55
  · rw [if_pos c1] at hf
    refine lv_aload_n hx hb dX9_refuse_6 rfl (lv_at hl 0 rfl) ?_
    refine lv_dup hx hb dX9_refuse_7 rfl ?_
    obtain ⟨v8, e8, hf⟩ := pb_rd (rd_gI _ _ _) hf
    refine r_gI C hW e8 flX9_225 rfl dX9_refuse_8 ?_
    refine lv_iconst (v := 1) hx hb dX9_refuse_11 (by decide) ?_
    refine lv_iadd hx hb dX9_refuse_12 ?_
    obtain ⟨_, h9, e9, hf⟩ := pb_some hf
    refine r_sI C hW e9 flX9_225 (Or.inl rfl) rfl dX9_refuse_13 (fun H locs hW => ?_)
    refine lv_goto (tgt := 54) hx hb dX9_refuse_16 (by decide) ?_
    refine lv_iload_n hx hb dX9_refuse_54 rfl (lv_at hl 1 rfl) ?_
    obtain ⟨rfl, rfl⟩ := pp_some hf
    exact r_iret C hW dX9_refuse_55

theorem dX2_forgetOldest_0 : decode cX2_forgetOldest 0 = .ok (.aload_n 0, 1) := by decide +kernel
theorem dX2_forgetOldest_1 : decode cX2_forgetOldest 1 = .ok (.getfield 11, 3) := by decide +kernel
theorem dX2_forgetOldest_4 : decode cX2_forgetOldest 4 = .ok (.iconst 0, 1) := by decide +kernel
theorem dX2_forgetOldest_5 : decode cX2_forgetOldest 5 = .ok (.aaload, 1) := by decide +kernel
theorem dX2_forgetOldest_6 : decode cX2_forgetOldest 6 = .ok (.astore_n 1, 1) := by decide +kernel
theorem dX2_forgetOldest_7 : decode cX2_forgetOldest 7 = .ok (.iconst 1, 1) := by decide +kernel
theorem dX2_forgetOldest_8 : decode cX2_forgetOldest 8 = .ok (.istore_n 2, 1) := by decide +kernel
theorem dX2_forgetOldest_9 : decode cX2_forgetOldest 9 = .ok (.iload_n 2, 1) := by decide +kernel
theorem dX2_forgetOldest_10 : decode cX2_forgetOldest 10 = .ok (.bipush 6, 2) := by decide +kernel
theorem dX2_forgetOldest_12 : decode cX2_forgetOldest 12 = .ok (.if_icmp .ge 23, 3) := by decide +kernel
theorem dX2_forgetOldest_15 : decode cX2_forgetOldest 15 = .ok (.aload_n 0, 1) := by decide +kernel
theorem dX2_forgetOldest_16 : decode cX2_forgetOldest 16 = .ok (.getfield 11, 3) := by decide +kernel
theorem dX2_forgetOldest_19 : decode cX2_forgetOldest 19 = .ok (.iload_n 2, 1) := by decide +kernel
theorem dX2_forgetOldest_20 : decode cX2_forgetOldest 20 = .ok (.iconst 1, 1) := by decide +kernel
theorem dX2_forgetOldest_21 : decode cX2_forgetOldest 21 = .ok (.isub, 1) := by decide +kernel
theorem dX2_forgetOldest_22 : decode cX2_forgetOldest 22 = .ok (.aload_n 0, 1) := by decide +kernel
theorem dX2_forgetOldest_23 : decode cX2_forgetOldest 23 = .ok (.getfield 11, 3) := by decide +kernel
theorem dX2_forgetOldest_26 : decode cX2_forgetOldest 26 = .ok (.iload_n 2, 1) := by decide +kernel
theorem dX2_forgetOldest_27 : decode cX2_forgetOldest 27 = .ok (.aaload, 1) := by decide +kernel
theorem dX2_forgetOldest_28 : decode cX2_forgetOldest 28 = .ok (.aastore, 1) := by decide +kernel
theorem dX2_forgetOldest_29 : decode cX2_forgetOldest 29 = .ok (.iinc 2 1, 3) := by decide +kernel
theorem dX2_forgetOldest_32 : decode cX2_forgetOldest 32 = .ok (.goto (-23), 3) := by decide +kernel
theorem dX2_forgetOldest_35 : decode cX2_forgetOldest 35 = .ok (.aload_n 0, 1) := by decide +kernel
theorem dX2_forgetOldest_36 : decode cX2_forgetOldest 36 = .ok (.getfield 11, 3) := by decide +kernel
theorem dX2_forgetOldest_39 : decode cX2_forgetOldest 39 = .ok (.iconst 5, 1) := by decide +kernel
theorem dX2_forgetOldest_40 : decode cX2_forgetOldest 40 = .ok (.aload_n 1, 1) := by decide +kernel
theorem dX2_forgetOldest_41 : decode cX2_forgetOldest 41 = .ok (.aastore, 1) := by decide +kernel
theorem dX2_forgetOldest_42 : decode cX2_forgetOldest 42 = .ok (.aload_n 0, 1) := by decide +kernel
theorem dX2_forgetOldest_43 : decode cX2_forgetOldest 43 = .ok (.dup, 1) := by decide +kernel
theorem dX2_forgetOldest_44 : decode cX2_forgetOldest 44 = .ok (.getfield 20, 3) := by decide +kernel
theorem dX2_forgetOldest_47 : decode cX2_forgetOldest 47 = .ok (.iconst 1, 1) := by decide +kernel
theorem dX2_forgetOldest_48 : decode cX2_forgetOldest 48 = .ok (.isub, 1) := by decide +kernel
theorem dX2_forgetOldest_49 : decode cX2_forgetOldest 49 = .ok (.putfield 20, 3) := by decide +kernel
theorem dX2_forgetOldest_52 : decode cX2_forgetOldest 52 = .ok (.return_, 1) := by decide +kernel
theorem kcX2_forgetOldest : Cond.code yX2_forgetOldest cX2_forgetOldest 3 none ∈ tb := tq q_354 rfl
theorem knX2_forgetOldest : Cond.initialized yX2_forgetOldest.cls ∈ tb := (tq q_7 rfl)
theorem kdX2_forgetOldest : yX2_forgetOldest.cls ≠ "java/lang/invoke/MethodHandle" ∧ yX2_forgetOldest.cls ≠ "java/lang/invoke/VarHandle" ∧ (parseMethodDescriptor yX2_forgetOldest.desc).map (fun d => d.parameters.length) = some 0 := ⟨by decide +kernel, by decide +kernel, by decide +kernel⟩
theorem kiX2_forgetOldest : Cond.instanceMethod yX2_forgetOldest ∈ tb := (tq q_353 rfl)
theorem ksX2_forgetOldest : Cond.selects yX2_forgetOldest.cls yX2_forgetOldest yX2_forgetOldest ∈ tb := (tq z_11 rfl)
theorem tgX2_forgetOldest {x0 : Nat} {h : PH} {r : Unit × PH} (hf : (fX2_forgetOldest x0).1 h = some r) : ∃ n x, nth h x0 = some (2, n, x) := by
  obtain ⟨_, _, e, _⟩ := pb_some hf
  exact (chk_some e).2
set_option maxHeartbeats 4000000 in
set_option maxRecDepth 100000 in
theorem wX2_forgetOldest_B9 {p : Program} {l : Launch} {e : Env} {s : State} {m : MethodId} {args : Array Value} {below : List Frame} {meth : Method} {c : Code} {G : GG} {ρ : Nat → Nat} {h0 hE hB : PH} {Q : State → Prop} {x0 : Nat} {x1 : Nat} (C : Cx G "PairSymbols$History" cX2_forgetOldest 3 none "forgetOldest" p s m args meth c) {x2 : Int32} {h : PH} {H : Heap} {locs : List Loc} {cells slots : Nat} {ls : Array Slot} {r : (Int32) ⊕ (Unit)} (hf : (fX2_forgetOldest_b9 x0 x1 x2).1 h = some (r, hB)) (hX : Ext hB hE) (hW : Wd G ρ h0.length (sl h0) s.heap h H locs cells slots) (hl : lv_has ls 3 [(0, .ref (ρ x0)), (1, .ref (ρ x1)), (2, .int x2)]) (kc : ∀ y : Int32, r = .inl y → ∀ (H : Heap) (locs : List Loc) (c1 s1 : Nat) (ls : Array Slot), Wd G ρ h0.length (sl h0) s.heap hB H locs c1 s1 → lv_has ls 3 [(0, .ref (ρ x0)), (1, .ref (ρ x1)), (2, .int y)] → W p l e (RM 0 0 h0 hE) s m args below meth c H locs c1 s1 Q (F0 m 9 ls [])) (ke : ∀ z : Unit, r = .inr z → ∀ (H : Heap) (locs : List Loc) (c1 s1 : Nat) (ls : Array Slot), Wd G ρ h0.length (sl h0) s.heap hB H locs c1 s1 → lv_has ls 3 [(0, .ref (ρ x0)), (1, .ref (ρ x1))] → W p l e (RM 0 0 h0 hE) s m args below meth c H locs c1 s1 Q (F0 m 35 ls [])) : W p l e (RM 0 0 h0 hE) s m args below meth c H locs cells slots Q (F0 m 9 ls []) := by
  have hx := C.1
  have hb := C.2.1
  unfold fX2_forgetOldest_b9 at hf
  refine lv_iload_n hx hb dX2_forgetOldest_9 rfl (lv_at hl 2 rfl) ?_
  refine lv_bipush (v := 6) hx hb dX2_forgetOldest_10 (by decide) ?_
  refine lv_icmp_ge (tgt := 35) hx hb dX2_forgetOldest_12 (by decide) (fun c3 => ?_) (fun c3 => ?_)
  · rw [if_pos c3] at hf
    obtain ⟨rfl, rfl⟩ := pp_some hf
    exact ke _ rfl _ _ _ _ _ hW (lv_sub hl [0, 1] rfl)
  · rw [if_neg c3] at hf
    refine lv_aload_n hx hb dX2_forgetOldest_15 rfl (lv_at hl 0 rfl) ?_
    obtain ⟨v4, e4, hf⟩ := pb_rd (rd_gA _ _ _) hf
    refine r_gA C hW e4 flX2_11 rfl dX2_forgetOldest_16 ?_
    refine lv_iload_n hx hb dX2_forgetOldest_19 rfl (lv_at hl 2 rfl) ?_
    refine lv_iconst (v := 1) hx hb dX2_forgetOldest_20 (by decide) ?_
    refine lv_isub hx hb dX2_forgetOldest_21 ?_
    refine lv_aload_n hx hb dX2_forgetOldest_22 rfl (lv_at hl 0 rfl) ?_
    obtain ⟨v5, e5, hf⟩ := pb_rd (rd_gA _ _ _) hf
    refine r_gA C hW e5 flX2_11 rfl dX2_forgetOldest_23 ?_
    refine lv_iload_n hx hb dX2_forgetOldest_26 rfl (lv_at hl 2 rfl) ?_
    obtain ⟨v6, e6, hf⟩ := pb_rd (rd_lA _ _ _) hf
    refine r_aald C hW e6 (by decide) (by decide) dX2_forgetOldest_27 ?_
    obtain ⟨_, h7, e7, hf⟩ := pb_some hf
    refine r_aast (t0 := 6) C hW e7 rfl (by decide) rfl dX2_forgetOldest_28 (fun H locs hW => ?_)
    refine lv_iinc (v := (x2 + 1)) (lv' := [(2, .int (x2 + 1)), (0, .ref (ρ x0)), (1, .ref (ρ x1))]) hx hb dX2_forgetOldest_29 hl (k := 2) rfl rfl (by decide) rfl (fun ls hl => ?_)
    refine lv_goto (tgt := 9) hx hb dX2_forgetOldest_32 (by decide) ?_
    obtain ⟨rfl, rfl⟩ := pp_some hf
    exact kc _ rfl _ _ _ _ _ hW (lv_sub hl [1, 2, 0] rfl)
set_option maxHeartbeats 4000000 in
theorem wX2_forgetOldest_L9 {p : Program} {l : Launch} {e : Env} {s : State} {m : MethodId} {args : Array Value} {below : List Frame} {meth : Method} {c : Code} {G : GG} {ρ : Nat → Nat} {h0 hE hB : PH} {Q : State → Prop} {x0 : Nat} {x1 : Nat} (C : Cx G "PairSymbols$History" cX2_forgetOldest 3 none "forgetOldest" p s m args meth c) {z : (Unit)} (n : Nat) : ∀ (x : Int32) {h : PH} {H : Heap} {locs : List Loc} {cells slots : Nat} {ls : Array Slot}, (plo (fX2_forgetOldest_B9 x0 x1) n x).1 h = some (z, hB) → Ext hB hE → Wd G ρ h0.length (sl h0) s.heap h H locs cells slots → lv_has ls 3 [(0, .ref (ρ x0)), (1, .ref (ρ x1)), (2, .int x)] → (ke : ∀ (H : Heap) (locs : List Loc) (c1 s1 : Nat) (ls : Array Slot), Wd G ρ h0.length (sl h0) s.heap hB H locs c1 s1 → lv_has ls 3 [(0, .ref (ρ x0)), (1, .ref (ρ x1))] → W p l e (RM 0 0 h0 hE) s m args below meth c H locs c1 s1 Q (F0 m 35 ls [])) → W p l e (RM 0 0 h0 hE) s m args below meth c H locs cells slots Q (F0 m 9 ls []) := by
  induction n with
  | zero =>
    intro x h H locs cells slots ls hf
    rw [plo_0] at hf
    exact (pf_no hf).elim
  | succ n ih =>
    intro x h H locs cells slots ls hf hX hW hl ke
    rw [plo_s] at hf
    obtain ⟨r, h1, e1, hf⟩ := pb_some hf
    unfold fX2_forgetOldest_B9 at e1
    rw [frI_eq] at e1
    refine wX2_forgetOldest_B9 C e1 ((pext hf).tr hX) hW hl (fun y hr H locs c1 s1 ls hW hl => ?_) (fun y hr H locs c1 s1 ls hW hl => ?_)
    · subst hr
      exact ih y hf hX hW hl ke
    · subst hr
      obtain ⟨rfl, rfl⟩ := pp_some hf
      exact ke H locs c1 s1 ls hW hl
set_option maxHeartbeats 4000000 in
set_option maxRecDepth 100000 in
theorem metX2_forgetOldest (l : Launch) (G : GG) (ρ : Nat → Nat) {z : Nat} {x0 : Nat} {h hE : PH} {v : Unit} (hf : (fX2_forgetOldest x0).1 h = some (v, hE)) : Met l yX2_forgetOldest (wsY yX2_forgetOldest cX2_forgetOldest 3 none) (RM 0 0 h hE) (va_Pc [.ref (ρ x0)] (PcB G ρ h z)) (QV G ρ hE h.length z) (DC h hE) (DS h hE) (Af ρ h.length z) := by
  refine met_start (by decide) (Nat.le_of_ble_eq_true rfl) ?_
  intro p e s m below meth c ls hz C hW hl
  subst hz
  have C : Cx G "PairSymbols$History" cX2_forgetOldest 3 none "forgetOldest" p s m _ meth c := C
  have hx := C.1
  have hb := C.2.1
  have hX : Ext hE hE := Ext.rf hE
  have hl : lv_has ls 3 [(0, .ref (ρ x0))] := hl
  have hW : Wd G ρ h.length (sl h) s.heap h s.heap [] 0 0 := hW
  unfold fX2_forgetOldest at hf
  obtain ⟨_, e0, hf⟩ := pb_rd (rd_chk _ _) hf
  refine lv_aload_n hx hb dX2_forgetOldest_0 rfl (lv_at hl 0 rfl) ?_
  obtain ⟨v1, e1, hf⟩ := pb_rd (rd_gA _ _ _) hf
  refine r_gA C hW e1 flX2_11 rfl dX2_forgetOldest_1 ?_
  refine lv_iconst (v := 0) hx hb dX2_forgetOldest_4 (by decide) ?_
  obtain ⟨v2, e2, hf⟩ := pb_rd (rd_lA _ _ _) hf
  refine r_aald C hW e2 (by decide) (by decide) dX2_forgetOldest_5 ?_
  refine lv_astore_n (lv' := [(1, .ref (ρ v2)), (0, .ref (ρ x0))]) hx hb dX2_forgetOldest_6 rfl hl (by decide) rfl (fun ls hl => ?_)
  refine lv_iconst (v := 1) hx hb dX2_forgetOldest_7 (by decide) ?_
  refine lv_istore_n (lv' := [(2, .int (1 : Int32)), (1, .ref (ρ v2)), (0, .ref (ρ x0))]) hx hb dX2_forgetOldest_8 rfl hl (by decide) rfl (fun ls hl => ?_)
  obtain ⟨z8, h8, e8, hf⟩ := pb_some hf
  refine wX2_forgetOldest_L9 C fu _ e8 ((pext hf).tr hX) hW (lv_sub hl [2, 1, 0] rfl) (fun H locs c1 s1 ls hW hl => ?_)
  refine lv_aload_n hx hb dX2_forgetOldest_35 rfl (lv_at hl 0 rfl) ?_
  obtain ⟨v9, e9, hf⟩ := pb_rd (rd_gA _ _ _) hf
  refine r_gA C hW e9 flX2_11 rfl dX2_forgetOldest_36 ?_
  refine lv_iconst (v := 5) hx hb dX2_forgetOldest_39 (by decide) ?_
  refine lv_aload_n hx hb dX2_forgetOldest_40 rfl (lv_at hl 1 rfl) ?_
  obtain ⟨_, h10, e10, hf⟩ := pb_some hf
  refine r_aast (t0 := 6) C hW e10 rfl (by decide) rfl dX2_forgetOldest_41 (fun H locs hW => ?_)
  refine lv_aload_n hx hb dX2_forgetOldest_42 rfl (lv_at hl 0 rfl) ?_
  refine lv_dup hx hb dX2_forgetOldest_43 rfl ?_
  obtain ⟨v11, e11, hf⟩ := pb_rd (rd_gI _ _ _) hf
  refine r_gI C hW e11 flX2_20 rfl dX2_forgetOldest_44 ?_
  refine lv_iconst (v := 1) hx hb dX2_forgetOldest_47 (by decide) ?_
  refine lv_isub hx hb dX2_forgetOldest_48 ?_
  obtain ⟨_, h12, e12, hf⟩ := pb_some hf
  refine r_sI C hW e12 flX2_20 (Or.inl rfl) rfl dX2_forgetOldest_49 (fun H locs hW => ?_)
  obtain ⟨rfl, rfl⟩ := pp_some hf
  exact r_vret C hW dX2_forgetOldest_52

theorem dX2_keep_0 : decode cX2_keep 0 = .ok (.aload_n 0, 1) := by decide +kernel
theorem dX2_keep_1 : decode cX2_keep 1 = .ok (.getfield 20, 3) := by decide +kernel
theorem dX2_keep_4 : decode cX2_keep 4 = .ok (.bipush 6, 2) := by decide +kernel
theorem dX2_keep_6 : decode cX2_keep 6 = .ok (.if_icmp .ne 7, 3) := by decide +kernel
theorem dX2_keep_9 : decode cX2_keep 9 = .ok (.aload_n 0, 1) := by decide +kernel
theorem dX2_keep_10 : decode cX2_keep 10 = .ok (.invokevirtual 24, 3) := by decide +kernel
theorem dX2_keep_13 : decode cX2_keep 13 = .ok (.aload_n 0, 1) := by decide +kernel
theorem dX2_keep_14 : decode cX2_keep 14 = .ok (.getfield 11, 3) := by decide +kernel
theorem dX2_keep_17 : decode cX2_keep 17 = .ok (.aload_n 0, 1) := by decide +kernel
theorem dX2_keep_18 : decode cX2_keep 18 = .ok (.getfield 20, 3) := by decide +kernel
theorem dX2_keep_21 : decode cX2_keep 21 = .ok (.aaload, 1) := by decide +kernel
theorem dX2_keep_22 : decode cX2_keep 22 = .ok (.aload_n 1, 1) := by decide +kernel
theorem dX2_keep_23 : decode cX2_keep 23 = .ok (.invokevirtual 27, 3) := by decide +kernel
theorem dX2_keep_26 : decode cX2_keep 26 = .ok (.aload_n 0, 1) := by decide +kernel
theorem dX2_keep_27 : decode cX2_keep 27 = .ok (.dup, 1) := by decide +kernel
theorem dX2_keep_28 : decode cX2_keep 28 = .ok (.getfield 20, 3) := by decide +kernel
theorem dX2_keep_31 : decode cX2_keep 31 = .ok (.iconst 1, 1) := by decide +kernel
theorem dX2_keep_32 : decode cX2_keep 32 = .ok (.iadd, 1) := by decide +kernel
theorem dX2_keep_33 : decode cX2_keep 33 = .ok (.putfield 20, 3) := by decide +kernel
theorem dX2_keep_36 : decode cX2_keep 36 = .ok (.return_, 1) := by decide +kernel
theorem kcX2_keep : Cond.code yX2_keep cX2_keep 2 none ∈ tb := tq q_350 rfl
theorem knX2_keep : Cond.initialized yX2_keep.cls ∈ tb := (tq q_7 rfl)
theorem kdX2_keep : yX2_keep.cls ≠ "java/lang/invoke/MethodHandle" ∧ yX2_keep.cls ≠ "java/lang/invoke/VarHandle" ∧ (parseMethodDescriptor yX2_keep.desc).map (fun d => d.parameters.length) = some 1 := ⟨by decide +kernel, by decide +kernel, by decide +kernel⟩
theorem kiX2_keep : Cond.instanceMethod yX2_keep ∈ tb := (tq q_348 rfl)
theorem ksX2_keep : Cond.selects yX2_keep.cls yX2_keep yX2_keep ∈ tb := (tq q_349 rfl)
theorem tgX2_keep {x0 : Nat} {x1 : Nat} {h : PH} {r : Unit × PH} (hf : (fX2_keep x0 x1).1 h = some r) : ∃ n x, nth h x0 = some (2, n, x) := by
  obtain ⟨_, _, e, _⟩ := pb_some hf
  exact (chk_some e).2
set_option maxHeartbeats 4000000 in
set_option maxRecDepth 100000 in
theorem metX2_keep (l : Launch) (G : GG) (ρ : Nat → Nat) {z : Nat} {x0 : Nat} {x1 : Nat} {h hE : PH} {v : Unit} (hf : (fX2_keep x0 x1).1 h = some (v, hE)) : Met l yX2_keep (wsY yX2_keep cX2_keep 2 none) (RM 2 101 h hE) (va_Pc [.ref (ρ x0), .ref (ρ x1)] (PcB G ρ h z)) (QV G ρ hE h.length z) (DC h hE) (DS h hE) (Af ρ h.length z) := by
  refine met_start (by decide) (Nat.le_of_ble_eq_true rfl) ?_
  intro p e s m below meth c ls hz C hW hl
  subst hz
  have C : Cx G "PairSymbols$History" cX2_keep 2 none "keep" p s m _ meth c := C
  have hx := C.1
  have hb := C.2.1
  have hX : Ext hE hE := Ext.rf hE
  have hl : lv_has ls 2 [(0, .ref (ρ x0)), (1, .ref (ρ x1))] := hl
  have hW : Wd G ρ h.length (sl h) s.heap h s.heap [] 0 0 := hW
  unfold fX2_keep at hf
  obtain ⟨_, e0, hf⟩ := pb_rd (rd_chk _ _) hf
  refine lv_aload_n hx hb dX2_keep_0 rfl (lv_at hl 0 rfl) ?_
  obtain ⟨v1, e1, hf⟩ := pb_rd (rd_gI _ _ _) hf
  refine r_gI C hW e1 flX2_20 rfl dX2_keep_1 ?_
  refine lv_bipush (v := 6) hx hb dX2_keep_4 (by decide) ?_
  refine lv_icmp_ne (tgt := 13) hx hb dX2_keep_6 (by decide) (fun c2 => ?_) (fun c2 => ?_)
  · rw [if_neg c2] at hf
    refine lv_aload_n hx hb dX2_keep_13 rfl (lv_at hl 0 rfl) ?_
    obtain ⟨v3, e3, hf⟩ := pb_rd (rd_gA _ _ _) hf
    refine r_gA C hW e3 flX2_11 rfl dX2_keep_14 ?_
    refine lv_aload_n hx hb dX2_keep_17 rfl (lv_at hl 0 rfl) ?_
    obtain ⟨v4, e4, hf⟩ := pb_rd (rd_gI _ _ _) hf
    refine r_gI C hW e4 flX2_20 rfl dX2_keep_18 ?_
    obtain ⟨v5, e5, hf⟩ := pb_rd (rd_lA _ _ _) hf
    refine r_aald C hW e5 (by decide) (by decide) dX2_keep_21 ?_
    refine lv_aload_n hx hb dX2_keep_22 rfl (lv_at hl 1 rfl) ?_
    obtain ⟨_, h6, e6, hf⟩ := pb_some hf
    obtain ⟨_, _, t7⟩ := tgX8_copyFrom e6
    refine r_callv hW (pext e6) (run_V (b := v5) (As := [.ref (ρ x1)]) (rest := []) C hW (metX8_copyFrom l G ρ e6) ⟨rfl, rfl⟩ kcX8_copyFrom (tq q_355 rfl) kiX8_copyFrom ksX8_copyFrom knX8_copyFrom kdX8_copyFrom t7 rfl rfl ⟨Nat.le_of_ble_eq_true rfl, Nat.le_of_ble_eq_true rfl⟩ hl.1 (Nat.le_of_ble_eq_true rfl) (room_of hW (pext e6) ((pext hf).tr hX)) dX2_keep_23 rfl) (fun H locs c1 s1 hW => ?_)
    refine lv_aload_n hx hb dX2_keep_26 rfl (lv_at hl 0 rfl) ?_
    refine lv_dup hx hb dX2_keep_27 rfl ?_
    obtain ⟨v8, e8, hf⟩ := pb_rd (rd_gI _ _ _) hf
    refine r_gI C hW e8 flX2_20 rfl dX2_keep_28 ?_
    refine lv_iconst (v := 1) hx hb dX2_keep_31 (by decide) ?_
    refine lv_iadd hx hb dX2_keep_32 ?_
    obtain ⟨_, h9, e9, hf⟩ := pb_some hf
    refine r_sI C hW e9 flX2_20 (Or.inl rfl) rfl dX2_keep_33 (fun H locs hW => ?_)
    obtain ⟨rfl, rfl⟩ := pp_some hf
    exact r_vret C hW dX2_keep_36
  · rw [if_pos c2] at hf
    refine lv_aload_n hx hb dX2_keep_9 rfl (lv_at hl 0 rfl) ?_
    obtain ⟨_, h10, e10, hf⟩ := pb_some hf
    obtain ⟨_, _, t11⟩ := tgX2_forgetOldest e10
    refine r_callv hW (pext e10) (run_V (b := x0) (As := []) (rest := []) C hW (metX2_forgetOldest l G ρ e10) ⟨rfl, rfl⟩ kcX2_forgetOldest (tq q_351 rfl) kiX2_forgetOldest ksX2_forgetOldest knX2_forgetOldest kdX2_forgetOldest t11 rfl rfl ⟨Nat.le_of_ble_eq_true rfl, Nat.le_of_ble_eq_true rfl⟩ hl.1 (Nat.le_of_ble_eq_true rfl) (room_of hW (pext e10) ((pext hf).tr hX)) dX2_keep_10 rfl) (fun H locs c1 s1 hW => ?_)
    refine lv_aload_n hx hb dX2_keep_13 rfl (lv_at hl 0 rfl) ?_
    obtain ⟨v12, e12, hf⟩ := pb_rd (rd_gA _ _ _) hf
    refine r_gA C hW e12 flX2_11 rfl dX2_keep_14 ?_
    refine lv_aload_n hx hb dX2_keep_17 rfl (lv_at hl 0 rfl) ?_
    obtain ⟨v13, e13, hf⟩ := pb_rd (rd_gI _ _ _) hf
    refine r_gI C hW e13 flX2_20 rfl dX2_keep_18 ?_
    obtain ⟨v14, e14, hf⟩ := pb_rd (rd_lA _ _ _) hf
    refine r_aald C hW e14 (by decide) (by decide) dX2_keep_21 ?_
    refine lv_aload_n hx hb dX2_keep_22 rfl (lv_at hl 1 rfl) ?_
    obtain ⟨_, h15, e15, hf⟩ := pb_some hf
    obtain ⟨_, _, t16⟩ := tgX8_copyFrom e15
    refine r_callv hW (pext e15) (run_V (b := v14) (As := [.ref (ρ x1)]) (rest := []) C hW (metX8_copyFrom l G ρ e15) ⟨rfl, rfl⟩ kcX8_copyFrom (tq q_355 rfl) kiX8_copyFrom ksX8_copyFrom knX8_copyFrom kdX8_copyFrom t16 rfl rfl ⟨Nat.le_of_ble_eq_true rfl, Nat.le_of_ble_eq_true rfl⟩ hl.1 (Nat.le_of_ble_eq_true rfl) (room_of hW (pext e15) ((pext hf).tr hX)) dX2_keep_23 rfl) (fun H locs c1 s1 hW => ?_)
    refine lv_aload_n hx hb dX2_keep_26 rfl (lv_at hl 0 rfl) ?_
    refine lv_dup hx hb dX2_keep_27 rfl ?_
    obtain ⟨v17, e17, hf⟩ := pb_rd (rd_gI _ _ _) hf
    refine r_gI C hW e17 flX2_20 rfl dX2_keep_28 ?_
    refine lv_iconst (v := 1) hx hb dX2_keep_31 (by decide) ?_
    refine lv_iadd hx hb dX2_keep_32 ?_
    obtain ⟨_, h18, e18, hf⟩ := pb_some hf
    refine r_sI C hW e18 flX2_20 (Or.inl rfl) rfl dX2_keep_33 (fun H locs hW => ?_)
    obtain ⟨rfl, rfl⟩ := pp_some hf
    exact r_vret C hW dX2_keep_36

theorem dX9_settle_0 : decode cX9_settle 0 = .ok (.iload_n 1, 1) := by decide +kernel
theorem dX9_settle_1 : decode cX9_settle 1 = .ok (.ifCond .ge 9, 3) := by decide +kernel
theorem dX9_settle_4 : decode cX9_settle 4 = .ok (.aload_n 0, 1) := by decide +kernel
theorem dX9_settle_5 : decode cX9_settle 5 = .ok (.iload_n 1, 1) := by decide +kernel
theorem dX9_settle_6 : decode cX9_settle 6 = .ok (.invokevirtual 74, 3) := by decide +kernel
theorem dX9_settle_9 : decode cX9_settle 9 = .ok (.ireturn, 1) := by decide +kernel
theorem dX9_settle_10 : decode cX9_settle 10 = .ok (.aload_n 0, 1) := by decide +kernel
theorem dX9_settle_11 : decode cX9_settle 11 = .ok (.getfield 33, 3) := by decide +kernel
theorem dX9_settle_14 : decode cX9_settle 14 = .ok (.aload_n 0, 1) := by decide +kernel
theorem dX9_settle_15 : decode cX9_settle 15 = .ok (.getfield 23, 3) := by decide +kernel
theorem dX9_settle_18 : decode cX9_settle 18 = .ok (.invokevirtual 257, 3) := by decide +kernel
theorem dX9_settle_21 : decode cX9_settle 21 = .ok (.aload_n 0, 1) := by decide +kernel
theorem dX9_settle_22 : decode cX9_settle 22 = .ok (.getfield 23, 3) := by decide +kernel
theorem dX9_settle_25 : decode cX9_settle 25 = .ok (.aload_n 0, 1) := by decide +kernel
theorem dX9_settle_26 : decode cX9_settle 26 = .ok (.getfield 27, 3) := by decide +kernel
theorem dX9_settle_29 : decode cX9_settle 29 = .ok (.invokevirtual 51, 3) := by decide +kernel
theorem dX9_settle_32 : decode cX9_settle 32 = .ok (.iload_n 1, 1) := by decide +kernel
theorem dX9_settle_33 : decode cX9_settle 33 = .ok (.ireturn, 1) := by decide +kernel
theorem kcX9_settle : Cond.code yX9_settle cX9_settle 2 (some .int) ∈ tb := tq q_342 rfl
theorem knX9_settle : Cond.initialized yX9_settle.cls ∈ tb := (tq q_1 rfl)
theorem kdX9_settle : yX9_settle.cls ≠ "java/lang/invoke/MethodHandle" ∧ yX9_settle.cls ≠ "java/lang/invoke/VarHandle" ∧ (parseMethodDescriptor yX9_settle.desc).map (fun d => d.parameters.length) = some 1 := ⟨by decide +kernel, by decide +kernel, by decide +kernel⟩
theorem kiX9_settle : Cond.instanceMethod yX9_settle ∈ tb := (tq q_341 rfl)
theorem ksX9_settle : Cond.selects yX9_settle.cls yX9_settle yX9_settle ∈ tb := (tq z_9 rfl)
theorem tgX9_settle {x0 : Nat} {x1 : Int32} {h : PH} {r : Int32 × PH} (hf : (fX9_settle x0 x1).1 h = some r) : ∃ n x, nth h x0 = some (8, n, x) := by
  obtain ⟨_, _, e, _⟩ := pb_some hf
  exact (chk_some e).2
set_option maxHeartbeats 4000000 in
set_option maxRecDepth 100000 in
theorem metX9_settle (l : Launch) (G : GG) (ρ : Nat → Nat) {z : Nat} {x0 : Nat} {x1 : Int32} {h hE : PH} {v : Int32} (hf : (fX9_settle x0 x1).1 h = some (v, hE)) : Met l yX9_settle (wsY yX9_settle cX9_settle 2 (some .int)) (RM 3 122 h hE) (va_Pc [.ref (ρ x0), .int x1] (PcB G ρ h z)) (QI G ρ v hE h.length z) (DC h hE) (DS h hE) (Af ρ h.length z) := by
  refine met_start (by decide) (Nat.le_of_ble_eq_true rfl) ?_
  intro p e s m below meth c ls hz C hW hl
  subst hz
  have C : Cx G "PairSymbols" cX9_settle 2 (some .int) "settle" p s m _ meth c := C
  have hx := C.1
  have hb := C.2.1
  have hX : Ext hE hE := Ext.rf hE
  have hl : lv_has ls 2 [(0, .ref (ρ x0)), (1, .int x1)] := hl
  have hW : Wd G ρ h.length (sl h) s.heap h s.heap [] 0 0 := hW
  unfold fX9_settle at hf
  obtain ⟨_, e0, hf⟩ := pb_rd (rd_chk _ _) hf
  refine lv_iload_n hx hb dX9_settle_0 rfl (lv_at hl 1 rfl) ?_
  refine lv_if_ge (tgt := 10) hx hb dX9_settle_1 (by decide) (fun c1 => ?_) (fun c1 => ?_)
  · rw [if_pos c1] at hf
    refine lv_aload_n hx hb dX9_settle_10 rfl (lv_at hl 0 rfl) ?_
    obtain ⟨v2, e2, hf⟩ := pb_rd (rd_gA _ _ _) hf
    refine r_gA C hW e2 flX9_33 rfl dX9_settle_11 ?_
    refine lv_aload_n hx hb dX9_settle_14 rfl (lv_at hl 0 rfl) ?_
    obtain ⟨v3, e3, hf⟩ := pb_rd (rd_gA _ _ _) hf
    refine r_gA C hW e3 flX9_23 rfl dX9_settle_15 ?_
    obtain ⟨_, h4, e4, hf⟩ := pb_some hf
    obtain ⟨_, _, t5⟩ := tgX2_keep e4
    refine r_callv hW (pext e4) (run_V (b := v2) (As := [.ref (ρ v3)]) (rest := []) C hW (metX2_keep l G ρ e4) ⟨rfl, rfl⟩ kcX2_keep (tq q_347 rfl) kiX2_keep ksX2_keep knX2_keep kdX2_keep t5 rfl rfl ⟨Nat.le_of_ble_eq_true rfl, Nat.le_of_ble_eq_true rfl⟩ hl.1 (Nat.le_of_ble_eq_true rfl) (room_of hW (pext e4) ((pext hf).tr hX)) dX9_settle_18 rfl) (fun H locs c1 s1 hW => ?_)
    refine lv_aload_n hx hb dX9_settle_21 rfl (lv_at hl 0 rfl) ?_
    obtain ⟨v6, e6, hf⟩ := pb_rd (rd_gA _ _ _) hf
    refine r_gA C hW e6 flX9_23 rfl dX9_settle_22 ?_
    refine lv_aload_n hx hb dX9_settle_25 rfl (lv_at hl 0 rfl) ?_
    obtain ⟨v7, e7, hf⟩ := pb_rd (rd_gA _ _ _) hf
    refine r_gA C hW e7 flX9_27 rfl dX9_settle_26 ?_
    obtain ⟨_, h8, e8, hf⟩ := pb_some hf
    obtain ⟨_, _, t9⟩ := tgX8_copyFrom e8
    refine r_callv hW (pext e8) (run_V (b := v6) (As := [.ref (ρ v7)]) (rest := []) C hW (metX8_copyFrom l G ρ e8) ⟨rfl, rfl⟩ kcX8_copyFrom (tq q_318 rfl) kiX8_copyFrom ksX8_copyFrom knX8_copyFrom kdX8_copyFrom t9 rfl rfl ⟨Nat.le_of_ble_eq_true rfl, Nat.le_of_ble_eq_true rfl⟩ hl.1 (Nat.le_of_ble_eq_true rfl) (room_of hW (pext e8) ((pext hf).tr hX)) dX9_settle_29 rfl) (fun H locs c1 s1 hW => ?_)
    refine lv_iload_n hx hb dX9_settle_32 rfl (lv_at hl 1 rfl) ?_
    obtain ⟨rfl, rfl⟩ := pp_some hf
    exact r_iret C hW dX9_settle_33
  · rw [if_neg c1] at hf
    refine lv_aload_n hx hb dX9_settle_4 rfl (lv_at hl 0 rfl) ?_
    refine lv_iload_n hx hb dX9_settle_5 rfl (lv_at hl 1 rfl) ?_
    obtain ⟨v10, h10, e10, hf⟩ := pb_some hf
    obtain ⟨_, _, t11⟩ := tgX9_refuse e10
    refine r_calli hW (pext e10) (run_V (b := x0) (As := [.int x1]) (rest := []) C hW (metX9_refuse l G ρ e10) ⟨rfl, rfl⟩ kcX9_refuse (tq q_343 rfl) kiX9_refuse ksX9_refuse knX9_refuse kdX9_refuse t11 rfl rfl ⟨Nat.le_of_ble_eq_true rfl, Nat.le_of_ble_eq_true rfl⟩ hl.1 (Nat.le_of_ble_eq_true rfl) (room_of hW (pext e10) ((pext hf).tr hX)) dX9_settle_6 rfl) (fun H locs c1 s1 hW => ?_)
    obtain ⟨rfl, rfl⟩ := pp_some hf
    exact r_iret C hW dX9_settle_9

theorem dX9_level_0 : decode cX9_level 0 = .ok (.aload_n 0, 1) := by decide +kernel
theorem dX9_level_1 : decode cX9_level 1 = .ok (.getfield 27, 3) := by decide +kernel
theorem dX9_level_4 : decode cX9_level 4 = .ok (.aload_n 0, 1) := by decide +kernel
theorem dX9_level_5 : decode cX9_level 5 = .ok (.getfield 23, 3) := by decide +kernel
theorem dX9_level_8 : decode cX9_level 8 = .ok (.invokevirtual 51, 3) := by decide +kernel
theorem dX9_level_11 : decode cX9_level 11 = .ok (.aload_n 0, 1) := by decide +kernel
theorem dX9_level_12 : decode cX9_level 12 = .ok (.aload_n 0, 1) := by decide +kernel
theorem dX9_level_13 : decode cX9_level 13 = .ok (.iload_n 1, 1) := by decide +kernel
theorem dX9_level_14 : decode cX9_level 14 = .ok (.invokevirtual 55, 3) := by decide +kernel
theorem dX9_level_17 : decode cX9_level 17 = .ok (.invokevirtual 59, 3) := by decide +kernel
theorem dX9_level_20 : decode cX9_level 20 = .ok (.ireturn, 1) := by decide +kernel
theorem kcX9_level : Cond.code yX9_level cX9_level 2 (some .int) ∈ tb := tq q_317 rfl
theorem knX9_level : Cond.initialized yX9_level.cls ∈ tb := (tq q_1 rfl)
theorem kdX9_level : yX9_level.cls ≠ "java/lang/invoke/MethodHandle" ∧ yX9_level.cls ≠ "java/lang/invoke/VarHandle" ∧ (parseMethodDescriptor yX9_level.desc).map (fun d => d.parameters.length) = some 1 := ⟨by decide +kernel, by decide +kernel, by decide +kernel⟩
theorem kiX9_level : Cond.instanceMethod yX9_level ∈ tb := (tq q_315 rfl)
theorem ksX9_level : Cond.selects yX9_level.cls yX9_level yX9_level ∈ tb := (tq q_316 rfl)
theorem tgX9_level {x0 : Nat} {x1 : Int32} {h : PH} {r : Int32 × PH} (hf : (fX9_level x0 x1).1 h = some r) : ∃ n x, nth h x0 = some (8, n, x) := by
  obtain ⟨_, _, e, _⟩ := pb_some hf
  exact (chk_some e).2
set_option maxHeartbeats 4000000 in
set_option maxRecDepth 100000 in
theorem metX9_level (l : Launch) (G : GG) (ρ : Nat → Nat) {z : Nat} {x0 : Nat} {x1 : Int32} {h hE : PH} {v : Int32} (hf : (fX9_level x0 x1).1 h = some (v, hE)) : Met l yX9_level (wsY yX9_level cX9_level 2 (some .int)) (RM 5 143 h hE) (va_Pc [.ref (ρ x0), .int x1] (PcB G ρ h z)) (QI G ρ v hE h.length z) (DC h hE) (DS h hE) (Af ρ h.length z) := by
  refine met_start (by decide) (Nat.le_of_ble_eq_true rfl) ?_
  intro p e s m below meth c ls hz C hW hl
  subst hz
  have C : Cx G "PairSymbols" cX9_level 2 (some .int) "level" p s m _ meth c := C
  have hx := C.1
  have hb := C.2.1
  have hX : Ext hE hE := Ext.rf hE
  have hl : lv_has ls 2 [(0, .ref (ρ x0)), (1, .int x1)] := hl
  have hW : Wd G ρ h.length (sl h) s.heap h s.heap [] 0 0 := hW
  unfold fX9_level at hf
  obtain ⟨_, e0, hf⟩ := pb_rd (rd_chk _ _) hf
  refine lv_aload_n hx hb dX9_level_0 rfl (lv_at hl 0 rfl) ?_
  obtain ⟨v1, e1, hf⟩ := pb_rd (rd_gA _ _ _) hf
  refine r_gA C hW e1 flX9_27 rfl dX9_level_1 ?_
  refine lv_aload_n hx hb dX9_level_4 rfl (lv_at hl 0 rfl) ?_
  obtain ⟨v2, e2, hf⟩ := pb_rd (rd_gA _ _ _) hf
  refine r_gA C hW e2 flX9_23 rfl dX9_level_5 ?_
  obtain ⟨_, h3, e3, hf⟩ := pb_some hf
  obtain ⟨_, _, t4⟩ := tgX8_copyFrom e3
  refine r_callv hW (pext e3) (run_V (b := v1) (As := [.ref (ρ v2)]) (rest := []) C hW (metX8_copyFrom l G ρ e3) ⟨rfl, rfl⟩ kcX8_copyFrom (tq q_318 rfl) kiX8_copyFrom ksX8_copyFrom knX8_copyFrom kdX8_copyFrom t4 rfl rfl ⟨Nat.le_of_ble_eq_true rfl, Nat.le_of_ble_eq_true rfl⟩ hl.1 (Nat.le_of_ble_eq_true rfl) (room_of hW (pext e3) ((pext hf).tr hX)) dX9_level_8 rfl) (fun H locs c1 s1 hW => ?_)
  refine lv_aload_n hx hb dX9_level_11 rfl (lv_at hl 0 rfl) ?_
  refine lv_aload_n hx hb dX9_level_12 rfl (lv_at hl 0 rfl) ?_
  refine lv_iload_n hx hb dX9_level_13 rfl (lv_at hl 1 rfl) ?_
  obtain ⟨v5, h5, e5, hf⟩ := pb_some hf
  obtain ⟨_, _, t6⟩ := tgX9_enter e5
  refine r_calli hW (pext e5) (run_V (b := x0) (As := [.int x1]) (rest := [.ref (ρ x0)]) C hW (metX9_enter l G ρ e5) ⟨rfl, rfl⟩ kcX9_enter (tq q_325 rfl) kiX9_enter ksX9_enter knX9_enter kdX9_enter t6 rfl rfl ⟨Nat.le_of_ble_eq_true rfl, Nat.le_of_ble_eq_true rfl⟩ hl.1 (Nat.le_of_ble_eq_true rfl) (room_of hW (pext e5) ((pext hf).tr hX)) dX9_level_14 rfl) (fun H locs c1 s1 hW => ?_)
  obtain ⟨v7, h7, e7, hf⟩ := pb_some hf
  obtain ⟨_, _, t8⟩ := tgX9_settle e7
  refine r_calli hW (pext e7) (run_V (b := x0) (As := [.int v5]) (rest := []) C hW (metX9_settle l G ρ e7) ⟨rfl, rfl⟩ kcX9_settle (tq q_339 rfl) kiX9_settle ksX9_settle knX9_settle kdX9_settle t8 rfl rfl ⟨Nat.le_of_ble_eq_true rfl, Nat.le_of_ble_eq_true rfl⟩ hl.1 (Nat.le_of_ble_eq_true rfl) (room_of hW (pext e7) ((pext hf).tr hX)) dX9_level_17 rfl) (fun H locs c1 s1 hW => ?_)
  obtain ⟨rfl, rfl⟩ := pp_some hf
  exact r_iret C hW dX9_level_20

theorem dX9_symbols_0 : decode cX9_symbols 0 = .ok (.aload_n 0, 1) := by decide +kernel
theorem dX9_symbols_1 : decode cX9_symbols 1 = .ok (.getfield 23, 3) := by decide +kernel
theorem dX9_symbols_4 : decode cX9_symbols 4 = .ok (.getfield 62, 3) := by decide +kernel
theorem dX9_symbols_7 : decode cX9_symbols 7 = .ok (.getfield 66, 3) := by decide +kernel
theorem dX9_symbols_10 : decode cX9_symbols 10 = .ok (.ireturn, 1) := by decide +kernel
theorem kcX9_symbols : Cond.code yX9_symbols cX9_symbols 1 (some .int) ∈ tb := tq q_359 rfl
theorem knX9_symbols : Cond.initialized yX9_symbols.cls ∈ tb := (tq q_1 rfl)
theorem kdX9_symbols : yX9_symbols.cls ≠ "java/lang/invoke/MethodHandle" ∧ yX9_symbols.cls ≠ "java/lang/invoke/VarHandle" ∧ (parseMethodDescriptor yX9_symbols.desc).map (fun d => d.parameters.length) = some 0 := ⟨by decide +kernel, by decide +kernel, by decide +kernel⟩
theorem kiX9_symbols : Cond.instanceMethod yX9_symbols ∈ tb := (tq q_357 rfl)
theorem ksX9_symbols : Cond.selects yX9_symbols.cls yX9_symbols yX9_symbols ∈ tb := (tq q_358 rfl)
theorem tgX9_symbols {x0 : Nat} {h : PH} {r : Int32 × PH} (hf : (fX9_symbols x0).1 h = some r) : ∃ n x, nth h x0 = some (8, n, x) := by
  obtain ⟨_, _, e, _⟩ := pb_some hf
  exact (chk_some e).2
set_option maxHeartbeats 4000000 in
set_option maxRecDepth 100000 in
theorem metX9_symbols (l : Launch) (G : GG) (ρ : Nat → Nat) {z : Nat} {x0 : Nat} {h hE : PH} {v : Int32} (hf : (fX9_symbols x0).1 h = some (v, hE)) : Met l yX9_symbols (wsY yX9_symbols cX9_symbols 1 (some .int)) (RM 0 0 h hE) (va_Pc [.ref (ρ x0)] (PcB G ρ h z)) (QI G ρ v hE h.length z) (DC h hE) (DS h hE) (Af ρ h.length z) := by
  refine met_start (by decide) (Nat.le_of_ble_eq_true rfl) ?_
  intro p e s m below meth c ls hz C hW hl
  subst hz
  have C : Cx G "PairSymbols" cX9_symbols 1 (some .int) "symbols" p s m _ meth c := C
  have hx := C.1
  have hb := C.2.1
  have hX : Ext hE hE := Ext.rf hE
  have hl : lv_has ls 1 [(0, .ref (ρ x0))] := hl
  have hW : Wd G ρ h.length (sl h) s.heap h s.heap [] 0 0 := hW
  unfold fX9_symbols at hf
  obtain ⟨_, e0, hf⟩ := pb_rd (rd_chk _ _) hf
  refine lv_aload_n hx hb dX9_symbols_0 rfl (lv_at hl 0 rfl) ?_
  obtain ⟨v1, e1, hf⟩ := pb_rd (rd_gA _ _ _) hf
  refine r_gA C hW e1 flX9_23 rfl dX9_symbols_1 ?_
  obtain ⟨v2, e2, hf⟩ := pb_rd (rd_gA _ _ _) hf
  refine r_gA C hW e2 flX9_62 rfl dX9_symbols_4 ?_
  obtain ⟨v3, e3, hf⟩ := pb_rd (rd_gI _ _ _) hf
  refine r_gI C hW e3 flX9_66 rfl dX9_symbols_7 ?_
  obtain ⟨rfl, rfl⟩ := pp_some hf
  exact r_iret C hW dX9_symbols_10

theorem dX3_hasSymbol_0 : decode cX3_hasSymbol 0 = .ok (.iload_n 1, 1) := by decide +kernel
theorem dX3_hasSymbol_1 : decode cX3_hasSymbol 1 = .ok (.ifCond .lt 15, 3) := by decide +kernel
theorem dX3_hasSymbol_4 : decode cX3_hasSymbol 4 = .ok (.iload_n 1, 1) := by decide +kernel
theorem dX3_hasSymbol_5 : decode cX3_hasSymbol 5 = .ok (.aload_n 0, 1) := by decide +kernel
theorem dX3_hasSymbol_6 : decode cX3_hasSymbol 6 = .ok (.getfield 23, 3) := by decide +kernel
theorem dX3_hasSymbol_9 : decode cX3_hasSymbol 9 = .ok (.if_icmp .ge 7, 3) := by decide +kernel
theorem dX3_hasSymbol_12 : decode cX3_hasSymbol 12 = .ok (.iconst 1, 1) := by decide +kernel
theorem dX3_hasSymbol_13 : decode cX3_hasSymbol 13 = .ok (.goto 4, 3) := by decide +kernel
theorem dX3_hasSymbol_16 : decode cX3_hasSymbol 16 = .ok (.iconst 0, 1) := by decide +kernel
theorem dX3_hasSymbol_17 : decode cX3_hasSymbol 17 = .ok (.ireturn, 1) := by decide +kernel
theorem kcX3_hasSymbol : Cond.code yX3_hasSymbol cX3_hasSymbol 2 (some .boolean) ∈ tb := tq q_367 rfl
theorem knX3_hasSymbol : Cond.initialized yX3_hasSymbol.cls ∈ tb := (tq q_2 rfl)
theorem kdX3_hasSymbol : yX3_hasSymbol.cls ≠ "java/lang/invoke/MethodHandle" ∧ yX3_hasSymbol.cls ≠ "java/lang/invoke/VarHandle" ∧ (parseMethodDescriptor yX3_hasSymbol.desc).map (fun d => d.parameters.length) = some 1 := ⟨by decide +kernel, by decide +kernel, by decide +kernel⟩
theorem kiX3_hasSymbol : Cond.instanceMethod yX3_hasSymbol ∈ tb := (tq q_365 rfl)
theorem ksX3_hasSymbol : Cond.selects yX3_hasSymbol.cls yX3_hasSymbol yX3_hasSymbol ∈ tb := (tq q_366 rfl)
theorem tgX3_hasSymbol {x0 : Nat} {x1 : Int32} {h : PH} {r : Int32 × PH} (hf : (fX3_hasSymbol x0 x1).1 h = some r) : ∃ n x, nth h x0 = some (3, n, x) := by
  obtain ⟨_, _, e, _⟩ := pb_some hf
  exact (chk_some e).2
set_option maxHeartbeats 4000000 in
set_option maxRecDepth 100000 in
theorem metX3_hasSymbol (l : Launch) (G : GG) (ρ : Nat → Nat) {z : Nat} {x0 : Nat} {x1 : Int32} {h hE : PH} {v : Int32} (hf : (fX3_hasSymbol x0 x1).1 h = some (v, hE)) : Met l yX3_hasSymbol (wsY yX3_hasSymbol cX3_hasSymbol 2 (some .boolean)) (RM 0 0 h hE) (va_Pc [.ref (ρ x0), .int x1] (PcB G ρ h z)) (QI G ρ v hE h.length z) (DC h hE) (DS h hE) (Af ρ h.length z) := by
  refine met_start (by decide) (Nat.le_of_ble_eq_true rfl) ?_
  intro p e s m below meth c ls hz C hW hl
  subst hz
  have C : Cx G "PairSymbols$Level" cX3_hasSymbol 2 (some .boolean) "hasSymbol" p s m _ meth c := C
  have hx := C.1
  have hb := C.2.1
  have hX : Ext hE hE := Ext.rf hE
  have hl : lv_has ls 2 [(0, .ref (ρ x0)), (1, .int x1)] := hl
  have hW : Wd G ρ h.length (sl h) s.heap h s.heap [] 0 0 := hW
  unfold fX3_hasSymbol at hf
  obtain ⟨_, e0, hf⟩ := pb_rd (rd_chk _ _) hf
  refine lv_iload_n hx hb dX3_hasSymbol_0 rfl (lv_at hl 1 rfl) ?_
  refine lv_if_lt (tgt := 16) hx hb dX3_hasSymbol_1 (by decide) (fun c1 => ?_) (fun c1 => ?_)
  · rw [if_pos c1] at hf
    refine lv_iconst (v := 0) hx hb dX3_hasSymbol_16 (by decide) ?_
    obtain ⟨rfl, rfl⟩ := pp_some hf
    exact r_zret C hW rfl dX3_hasSymbol_17
  · rw [if_neg c1] at hf
    refine lv_iload_n hx hb dX3_hasSymbol_4 rfl (lv_at hl 1 rfl) ?_
    refine lv_aload_n hx hb dX3_hasSymbol_5 rfl (lv_at hl 0 rfl) ?_
    obtain ⟨v2, e2, hf⟩ := pb_rd (rd_gI _ _ _) hf
    refine r_gI C hW e2 flX3_23 rfl dX3_hasSymbol_6 ?_
    refine lv_icmp_ge (tgt := 16) hx hb dX3_hasSymbol_9 (by decide) (fun c3 => ?_) (fun c3 => ?_)
    · rw [if_pos c3] at hf
      refine lv_iconst (v := 0) hx hb dX3_hasSymbol_16 (by decide) ?_
      obtain ⟨rfl, rfl⟩ := pp_some hf
      exact r_zret C hW rfl dX3_hasSymbol_17
    · rw [if_neg c3] at hf
      refine lv_iconst (v := 1) hx hb dX3_hasSymbol_12 (by decide) ?_
      refine lv_goto (tgt := 17) hx hb dX3_hasSymbol_13 (by decide) ?_
      obtain ⟨rfl, rfl⟩ := pp_some hf
      exact r_zret C hW rfl dX3_hasSymbol_17

theorem dX9_symbol_0 : decode cX9_symbol 0 = .ok (.aload_n 0, 1) := by decide +kernel
theorem dX9_symbol_1 : decode cX9_symbol 1 = .ok (.getfield 23, 3) := by decide +kernel
theorem dX9_symbol_4 : decode cX9_symbol 4 = .ok (.getfield 62, 3) := by decide +kernel
theorem dX9_symbol_7 : decode cX9_symbol 7 = .ok (.astore_n 3, 1) := by decide +kernel
theorem dX9_symbol_8 : decode cX9_symbol 8 = .ok (.aload_n 3, 1) := by decide +kernel
theorem dX9_symbol_9 : decode cX9_symbol 9 = .ok (.iload_n 1, 1) := by decide +kernel
theorem dX9_symbol_10 : decode cX9_symbol 10 = .ok (.invokevirtual 70, 3) := by decide +kernel
theorem dX9_symbol_13 : decode cX9_symbol 13 = .ok (.ifCond .ne 10, 3) := by decide +kernel
theorem dX9_symbol_16 : decode cX9_symbol 16 = .ok (.aload_n 0, 1) := by decide +kernel
theorem dX9_symbol_17 : decode cX9_symbol 17 = .ok (.bipush (-2), 2) := by decide +kernel
theorem dX9_symbol_19 : decode cX9_symbol 19 = .ok (.invokevirtual 74, 3) := by decide +kernel
theorem dX9_symbol_22 : decode cX9_symbol 22 = .ok (.ireturn, 1) := by decide +kernel
theorem dX9_symbol_23 : decode cX9_symbol 23 = .ok (.iload_n 2, 1) := by decide +kernel
theorem dX9_symbol_24 : decode cX9_symbol 24 = .ok (.tableswitch 93 0 6 #[44, 51, 58, 65, 72, 79, 86], 44) := by decide +kernel
theorem dX9_symbol_68 : decode cX9_symbol 68 = .ok (.aload_n 3, 1) := by decide +kernel
theorem dX9_symbol_69 : decode cX9_symbol 69 = .ok (.getfield 77, 3) := by decide +kernel
theorem dX9_symbol_72 : decode cX9_symbol 72 = .ok (.iload_n 1, 1) := by decide +kernel
theorem dX9_symbol_73 : decode cX9_symbol 73 = .ok (.iaload, 1) := by decide +kernel
theorem dX9_symbol_74 : decode cX9_symbol 74 = .ok (.ireturn, 1) := by decide +kernel
theorem dX9_symbol_75 : decode cX9_symbol 75 = .ok (.aload_n 3, 1) := by decide +kernel
theorem dX9_symbol_76 : decode cX9_symbol 76 = .ok (.getfield 81, 3) := by decide +kernel
theorem dX9_symbol_79 : decode cX9_symbol 79 = .ok (.iload_n 1, 1) := by decide +kernel
theorem dX9_symbol_80 : decode cX9_symbol 80 = .ok (.iaload, 1) := by decide +kernel
theorem dX9_symbol_81 : decode cX9_symbol 81 = .ok (.ireturn, 1) := by decide +kernel
theorem dX9_symbol_82 : decode cX9_symbol 82 = .ok (.aload_n 3, 1) := by decide +kernel
theorem dX9_symbol_83 : decode cX9_symbol 83 = .ok (.getfield 84, 3) := by decide +kernel
theorem dX9_symbol_86 : decode cX9_symbol 86 = .ok (.iload_n 1, 1) := by decide +kernel
theorem dX9_symbol_87 : decode cX9_symbol 87 = .ok (.iaload, 1) := by decide +kernel
theorem dX9_symbol_88 : decode cX9_symbol 88 = .ok (.ireturn, 1) := by decide +kernel
theorem dX9_symbol_89 : decode cX9_symbol 89 = .ok (.aload_n 3, 1) := by decide +kernel
theorem dX9_symbol_90 : decode cX9_symbol 90 = .ok (.getfield 87, 3) := by decide +kernel
theorem dX9_symbol_93 : decode cX9_symbol 93 = .ok (.iload_n 1, 1) := by decide +kernel
theorem dX9_symbol_94 : decode cX9_symbol 94 = .ok (.iaload, 1) := by decide +kernel
theorem dX9_symbol_95 : decode cX9_symbol 95 = .ok (.ireturn, 1) := by decide +kernel
theorem dX9_symbol_96 : decode cX9_symbol 96 = .ok (.aload_n 3, 1) := by decide +kernel
theorem dX9_symbol_97 : decode cX9_symbol 97 = .ok (.getfield 90, 3) := by decide +kernel
theorem dX9_symbol_100 : decode cX9_symbol 100 = .ok (.iload_n 1, 1) := by decide +kernel
theorem dX9_symbol_101 : decode cX9_symbol 101 = .ok (.iaload, 1) := by decide +kernel
theorem dX9_symbol_102 : decode cX9_symbol 102 = .ok (.ireturn, 1) := by decide +kernel
theorem dX9_symbol_103 : decode cX9_symbol 103 = .ok (.aload_n 3, 1) := by decide +kernel
theorem dX9_symbol_104 : decode cX9_symbol 104 = .ok (.getfield 93, 3) := by decide +kernel
theorem dX9_symbol_107 : decode cX9_symbol 107 = .ok (.iload_n 1, 1) := by decide +kernel
theorem dX9_symbol_108 : decode cX9_symbol 108 = .ok (.iaload, 1) := by decide +kernel
theorem dX9_symbol_109 : decode cX9_symbol 109 = .ok (.ireturn, 1) := by decide +kernel
theorem dX9_symbol_110 : decode cX9_symbol 110 = .ok (.aload_n 3, 1) := by decide +kernel
theorem dX9_symbol_111 : decode cX9_symbol 111 = .ok (.getfield 96, 3) := by decide +kernel
theorem dX9_symbol_114 : decode cX9_symbol 114 = .ok (.iload_n 1, 1) := by decide +kernel
theorem dX9_symbol_115 : decode cX9_symbol 115 = .ok (.iaload, 1) := by decide +kernel
theorem dX9_symbol_116 : decode cX9_symbol 116 = .ok (.ireturn, 1) := by decide +kernel
theorem dX9_symbol_117 : decode cX9_symbol 117 = .ok (.aload_n 0, 1) := by decide +kernel
theorem dX9_symbol_118 : decode cX9_symbol 118 = .ok (.bipush (-2), 2) := by decide +kernel
theorem dX9_symbol_120 : decode cX9_symbol 120 = .ok (.invokevirtual 74, 3) := by decide +kernel
theorem dX9_symbol_123 : decode cX9_symbol 123 = .ok (.ireturn, 1) := by decide +kernel
theorem kcX9_symbol : Cond.code yX9_symbol cX9_symbol 4 (some .int) ∈ tb := tq q_363 rfl
theorem knX9_symbol : Cond.initialized yX9_symbol.cls ∈ tb := (tq q_1 rfl)
theorem kdX9_symbol : yX9_symbol.cls ≠ "java/lang/invoke/MethodHandle" ∧ yX9_symbol.cls ≠ "java/lang/invoke/VarHandle" ∧ (parseMethodDescriptor yX9_symbol.desc).map (fun d => d.parameters.length) = some 2 := ⟨by decide +kernel, by decide +kernel, by decide +kernel⟩
theorem kiX9_symbol : Cond.instanceMethod yX9_symbol ∈ tb := (tq q_361 rfl)
theorem ksX9_symbol : Cond.selects yX9_symbol.cls yX9_symbol yX9_symbol ∈ tb := (tq q_362 rfl)
theorem tgX9_symbol {x0 : Nat} {x1 : Int32} {x2 : Int32} {h : PH} {r : Int32 × PH} (hf : (fX9_symbol x0 x1 x2).1 h = some r) : ∃ n x, nth h x0 = some (8, n, x) := by
  obtain ⟨_, _, e, _⟩ := pb_some hf
  exact (chk_some e).2
set_option maxHeartbeats 4000000 in
set_option maxRecDepth 100000 in
theorem metX9_symbol (l : Launch) (G : GG) (ρ : Nat → Nat) {z : Nat} {x0 : Nat} {x1 : Int32} {x2 : Int32} {h hE : PH} {v : Int32} (hf : (fX9_symbol x0 x1 x2).1 h = some (v, hE)) : Met l yX9_symbol (wsY yX9_symbol cX9_symbol 4 (some .int)) (RM 1 21 h hE) (va_Pc [.ref (ρ x0), .int x1, .int x2] (PcB G ρ h z)) (QI G ρ v hE h.length z) (DC h hE) (DS h hE) (Af ρ h.length z) := by
  refine met_start (by decide) (Nat.le_of_ble_eq_true rfl) ?_
  intro p e s m below meth c ls hz C hW hl
  subst hz
  have C : Cx G "PairSymbols" cX9_symbol 4 (some .int) "symbol" p s m _ meth c := C
  have hx := C.1
  have hb := C.2.1
  have hX : Ext hE hE := Ext.rf hE
  have hl : lv_has ls 4 [(0, .ref (ρ x0)), (1, .int x1), (2, .int x2)] := hl
  have hW : Wd G ρ h.length (sl h) s.heap h s.heap [] 0 0 := hW
  unfold fX9_symbol at hf
  obtain ⟨_, e0, hf⟩ := pb_rd (rd_chk _ _) hf
  refine lv_aload_n hx hb dX9_symbol_0 rfl (lv_at hl 0 rfl) ?_
  obtain ⟨v1, e1, hf⟩ := pb_rd (rd_gA _ _ _) hf
  refine r_gA C hW e1 flX9_23 rfl dX9_symbol_1 ?_
  obtain ⟨v2, e2, hf⟩ := pb_rd (rd_gA _ _ _) hf
  refine r_gA C hW e2 flX9_62 rfl dX9_symbol_4 ?_
  refine lv_astore_n (lv' := [(3, .ref (ρ v2)), (0, .ref (ρ x0)), (1, .int x1), (2, .int x2)]) hx hb dX9_symbol_7 rfl hl (by decide) rfl (fun ls hl => ?_)
  refine lv_aload_n hx hb dX9_symbol_8 rfl (lv_at hl 0 rfl) ?_
  refine lv_iload_n hx hb dX9_symbol_9 rfl (lv_at hl 2 rfl) ?_
  obtain ⟨v3, h3, e3, hf⟩ := pb_some hf
  obtain ⟨_, _, t4⟩ := tgX3_hasSymbol e3
  refine r_calli hW (pext e3) (run_V (b := v2) (As := [.int x1]) (rest := []) C hW (metX3_hasSymbol l G ρ e3) ⟨rfl, rfl⟩ kcX3_hasSymbol (tq q_364 rfl) kiX3_hasSymbol ksX3_hasSymbol knX3_hasSymbol kdX3_hasSymbol t4 rfl rfl ⟨Nat.le_of_ble_eq_true rfl, Nat.le_of_ble_eq_true rfl⟩ hl.1 (Nat.le_of_ble_eq_true rfl) (room_of hW (pext e3) ((pext hf).tr hX)) dX9_symbol_10 rfl) (fun H locs c1 s1 hW => ?_)
  refine lv_if_ne (tgt := 23) hx hb dX9_symbol_13 (by decide) (fun c5 => ?_) (fun c5 => ?_)
  · rw [if_neg c5] at hf
    refine lv_iload_n hx hb dX9_symbol_23 rfl (lv_at hl 3 rfl) ?_
    by_cases c6 : x2 = 0
    · rw [if_pos c6] at hf
      refine lv_tableIn (off := 44) (tgt := 68) hx hb dX9_symbol_24 (by rw [c6]; decide) (by rw [c6]; decide) (by rw [c6]; decide) (by decide) ?_
      refine lv_aload_n hx hb dX9_symbol_68 rfl (lv_at hl 0 rfl) ?_
      obtain ⟨v7, e7, hf⟩ := pb_rd (rd_gA _ _ _) hf
      refine r_gA C hW e7 flX9_77 rfl dX9_symbol_69 ?_
      refine lv_iload_n hx hb dX9_symbol_72 rfl (lv_at hl 2 rfl) ?_
      obtain ⟨v8, e8, hf⟩ := pb_rd (rd_lI _ _ _) hf
      refine r_iald C hW e8 dX9_symbol_73 ?_
      obtain ⟨rfl, rfl⟩ := pp_some hf
      exact r_iret C hW dX9_symbol_74
    rw [if_neg c6] at hf
    by_cases c9 : x2 = 1
    · rw [if_pos c9] at hf
      refine lv_tableIn (off := 51) (tgt := 75) hx hb dX9_symbol_24 (by rw [c9]; decide) (by rw [c9]; decide) (by rw [c9]; decide) (by decide) ?_
      refine lv_aload_n hx hb dX9_symbol_75 rfl (lv_at hl 0 rfl) ?_
      obtain ⟨v10, e10, hf⟩ := pb_rd (rd_gA _ _ _) hf
      refine r_gA C hW e10 flX9_81 rfl dX9_symbol_76 ?_
      refine lv_iload_n hx hb dX9_symbol_79 rfl (lv_at hl 2 rfl) ?_
      obtain ⟨v11, e11, hf⟩ := pb_rd (rd_lI _ _ _) hf
      refine r_iald C hW e11 dX9_symbol_80 ?_
      obtain ⟨rfl, rfl⟩ := pp_some hf
      exact r_iret C hW dX9_symbol_81
    rw [if_neg c9] at hf
    by_cases c12 : x2 = 2
    · rw [if_pos c12] at hf
      refine lv_tableIn (off := 58) (tgt := 82) hx hb dX9_symbol_24 (by rw [c12]; decide) (by rw [c12]; decide) (by rw [c12]; decide) (by decide) ?_
      refine lv_aload_n hx hb dX9_symbol_82 rfl (lv_at hl 0 rfl) ?_
      obtain ⟨v13, e13, hf⟩ := pb_rd (rd_gA _ _ _) hf
      refine r_gA C hW e13 flX9_84 rfl dX9_symbol_83 ?_
      refine lv_iload_n hx hb dX9_symbol_86 rfl (lv_at hl 2 rfl) ?_
      obtain ⟨v14, e14, hf⟩ := pb_rd (rd_lI _ _ _) hf
      refine r_iald C hW e14 dX9_symbol_87 ?_
      obtain ⟨rfl, rfl⟩ := pp_some hf
      exact r_iret C hW dX9_symbol_88
    rw [if_neg c12] at hf
    by_cases c15 : x2 = 3
    · rw [if_pos c15] at hf
      refine lv_tableIn (off := 65) (tgt := 89) hx hb dX9_symbol_24 (by rw [c15]; decide) (by rw [c15]; decide) (by rw [c15]; decide) (by decide) ?_
      refine lv_aload_n hx hb dX9_symbol_89 rfl (lv_at hl 0 rfl) ?_
      obtain ⟨v16, e16, hf⟩ := pb_rd (rd_gA _ _ _) hf
      refine r_gA C hW e16 flX9_87 rfl dX9_symbol_90 ?_
      refine lv_iload_n hx hb dX9_symbol_93 rfl (lv_at hl 2 rfl) ?_
      obtain ⟨v17, e17, hf⟩ := pb_rd (rd_lI _ _ _) hf
      refine r_iald C hW e17 dX9_symbol_94 ?_
      obtain ⟨rfl, rfl⟩ := pp_some hf
      exact r_iret C hW dX9_symbol_95
    rw [if_neg c15] at hf
    by_cases c18 : x2 = 4
    · rw [if_pos c18] at hf
      refine lv_tableIn (off := 72) (tgt := 96) hx hb dX9_symbol_24 (by rw [c18]; decide) (by rw [c18]; decide) (by rw [c18]; decide) (by decide) ?_
      refine lv_aload_n hx hb dX9_symbol_96 rfl (lv_at hl 0 rfl) ?_
      obtain ⟨v19, e19, hf⟩ := pb_rd (rd_gA _ _ _) hf
      refine r_gA C hW e19 flX9_90 rfl dX9_symbol_97 ?_
      refine lv_iload_n hx hb dX9_symbol_100 rfl (lv_at hl 2 rfl) ?_
      obtain ⟨v20, e20, hf⟩ := pb_rd (rd_lI _ _ _) hf
      refine r_iald C hW e20 dX9_symbol_101 ?_
      obtain ⟨rfl, rfl⟩ := pp_some hf
      exact r_iret C hW dX9_symbol_102
    rw [if_neg c18] at hf
    by_cases c21 : x2 = 5
    · rw [if_pos c21] at hf
      refine lv_tableIn (off := 79) (tgt := 103) hx hb dX9_symbol_24 (by rw [c21]; decide) (by rw [c21]; decide) (by rw [c21]; decide) (by decide) ?_
      refine lv_aload_n hx hb dX9_symbol_103 rfl (lv_at hl 0 rfl) ?_
      obtain ⟨v22, e22, hf⟩ := pb_rd (rd_gA _ _ _) hf
      refine r_gA C hW e22 flX9_93 rfl dX9_symbol_104 ?_
      refine lv_iload_n hx hb dX9_symbol_107 rfl (lv_at hl 2 rfl) ?_
      obtain ⟨v23, e23, hf⟩ := pb_rd (rd_lI _ _ _) hf
      refine r_iald C hW e23 dX9_symbol_108 ?_
      obtain ⟨rfl, rfl⟩ := pp_some hf
      exact r_iret C hW dX9_symbol_109
    rw [if_neg c21] at hf
    by_cases c24 : x2 = 6
    · rw [if_pos c24] at hf
      refine lv_tableIn (off := 86) (tgt := 110) hx hb dX9_symbol_24 (by rw [c24]; decide) (by rw [c24]; decide) (by rw [c24]; decide) (by decide) ?_
      refine lv_aload_n hx hb dX9_symbol_110 rfl (lv_at hl 0 rfl) ?_
      obtain ⟨v25, e25, hf⟩ := pb_rd (rd_gA _ _ _) hf
      refine r_gA C hW e25 flX9_96 rfl dX9_symbol_111 ?_
      refine lv_iload_n hx hb dX9_symbol_114 rfl (lv_at hl 2 rfl) ?_
      obtain ⟨v26, e26, hf⟩ := pb_rd (rd_lI _ _ _) hf
      refine r_iald C hW e26 dX9_symbol_115 ?_
      obtain ⟨rfl, rfl⟩ := pp_some hf
      exact r_iret C hW dX9_symbol_116
    rw [if_neg c24] at hf
    refine lv_tableOut (tgt := 117) hx hb dX9_symbol_24 (sw_out [0, 1, 2, 3, 4, 5, 6] (List.forall_mem_cons.mpr ⟨c6, List.forall_mem_cons.mpr ⟨c9, List.forall_mem_cons.mpr ⟨c12, List.forall_mem_cons.mpr ⟨c15, List.forall_mem_cons.mpr ⟨c18, List.forall_mem_cons.mpr ⟨c21, List.forall_mem_cons.mpr ⟨c24, fun _ h => absurd h List.not_mem_nil⟩⟩⟩⟩⟩⟩⟩) (by decide)) (by decide) ?_
    refine lv_aload_n hx hb dX9_symbol_117 rfl (lv_at hl 1 rfl) ?_
    refine lv_bipush (v := -2) hx hb dX9_symbol_118 (by decide) ?_
    obtain ⟨v27, h27, e27, hf⟩ := pb_some hf
    obtain ⟨_, _, t28⟩ := tgX9_refuse e27
    refine r_calli hW (pext e27) (run_V (b := x0) (As := [.int (-2 : Int32)]) (rest := []) C hW (metX9_refuse l G ρ e27) ⟨rfl, rfl⟩ kcX9_refuse (tq q_343 rfl) kiX9_refuse ksX9_refuse knX9_refuse kdX9_refuse t28 rfl rfl ⟨Nat.le_of_ble_eq_true rfl, Nat.le_of_ble_eq_true rfl⟩ hl.1 (Nat.le_of_ble_eq_true rfl) (room_of hW (pext e27) ((pext hf).tr hX)) dX9_symbol_120 rfl) (fun H locs c1 s1 hW => ?_)
    obtain ⟨rfl, rfl⟩ := pp_some hf
    exact r_iret C hW dX9_symbol_123
  · rw [if_pos c5] at hf
    refine lv_aload_n hx hb dX9_symbol_16 rfl (lv_at hl 1 rfl) ?_
    refine lv_bipush (v := -2) hx hb dX9_symbol_17 (by decide) ?_
    obtain ⟨v29, h29, e29, hf⟩ := pb_some hf
    obtain ⟨_, _, t30⟩ := tgX9_refuse e29
    refine r_calli hW (pext e29) (run_V (b := x0) (As := [.int (-2 : Int32)]) (rest := []) C hW (metX9_refuse l G ρ e29) ⟨rfl, rfl⟩ kcX9_refuse (tq q_343 rfl) kiX9_refuse ksX9_refuse knX9_refuse kdX9_refuse t30 rfl rfl ⟨Nat.le_of_ble_eq_true rfl, Nat.le_of_ble_eq_true rfl⟩ hl.1 (Nat.le_of_ble_eq_true rfl) (room_of hW (pext e29) ((pext hf).tr hX)) dX9_symbol_19 rfl) (fun H locs c1 s1 hW => ?_)
    obtain ⟨rfl, rfl⟩ := pp_some hf
    exact r_iret C hW dX9_symbol_22
