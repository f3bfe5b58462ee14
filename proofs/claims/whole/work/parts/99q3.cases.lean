/-! THE LAW'S CASES -/
theorem lg_cmp_self (a : Int64) : lg_cmp a a = 0 := (cmp_eq a a).mpr rfl
theorem txt_rg {bu : Nat} {h : PH} {st : St} (q : CR bu h st) : ∀ c ∈ st.2.2.1, rg c 0 127 := by
  intro c hc
  obtain ⟨i, hi, e⟩ := List.getElem_of_mem hc
  have k := (q.2.2.2.2.2.2.1.2.2 i hi).2
  have e2 : st.2.2.1.getD i 0 = c := by
    rw [List.getD_eq_getElem?_getD, List.getElem?_eq_getElem hi, ← e]
    rfl
  rw [← e2]
  exact k
theorem l_arg {p : Program} {l : Launch} {e : Env} {R : Room} {s : State} {m : MethodId} {below : List Frame} {meth : Method} {c : Code} {G : GG} {nm : String} {b L : Nat} {xs : Nat → Int32} (C : Cx G "PairSymbolsLaw" code 4 ret nm p s m #[Value.ref b] meth c) (hX : va_X b L xs s s.heap) (hbl : b < s.heap.size) (hL : L ≤ 2560) {k : Nat} (hk : 5 * k + 4 < L) {A1 A2 : Nat} {H : Heap} {locs : List Loc} {cells slots : Nat} {ls : Array Slot} {Q : State → Prop} {pc : Nat} {rest : List Value} {j : Nat} {n : Int} (hj : j ≤ 4) (hn : Int32.ofInt n = nI j) (hl : lv_has ls 4 [(0, .ref b), (1, .ref A1), (2, .ref A2), (3, .int (nI (5 * k)))]) (hS : va_S (fun q : Nat => s.heap.size ≤ q) s.heap H locs)
    (d0 : decode code pc = .ok (.aload_n 0, 1)) (d1 : decode code (pc + 1) = .ok (.iload_n 3, 1)) (d2 : decode code (pc + 2) = .ok (.iconst n, 1)) (d3 : decode code (pc + 3) = .ok (.iadd, 1)) (d4 : decode code (pc + 4) = .ok (.iaload, 1))
    (kk : W p l e R s m #[Value.ref b] below meth c H locs cells slots Q (F0 m (pc + 5) ls (.int (xs (5 * k + j)) :: rest))) : W p l e R s m #[Value.ref b] below meth c H locs cells slots Q (F0 m pc ls rest) := by
  obtain ⟨hx, hb, -⟩ := id C
  have hbA : ¬ (fun q : Nat => s.heap.size ≤ q) b := Nat.not_le.mpr hbl
  refine lv_aload_n hx hb d0 rfl (lv_at hl 0 rfl) ?_
  refine lv_iload_n hx hb d1 rfl (lv_at hl 3 rfl) ?_
  refine lv_iconst (v := nI j) hx hb d2 hn ?_
  refine lv_iadd hx hb d3 ?_
  have e1 : nI (5 * k) + nI j = nI (5 * k + j) := nI_add _ _
  rw [e1]
  refine va_sld hx hb hX hbl hbA hS (i := nI (5 * k + j)) (vp_in_nI (by omega) (by omega)) d4 ?_
  have e2 : (nI (5 * k + j)).toNatClampNeg = 5 * k + j := nI_clamp (by omega)
  rw [e2]
  exact kk

set_option maxHeartbeats 4000000 in
theorem lwc_level {p : Program} {l : Launch} {e : Env} {s : State} {m : MethodId} {below : List Frame} {meth : Method} {c : Code} {G : GG} {nm : String} {b L : Nat} {xs : Nat → Int32} (C : Cx G "PairSymbolsLaw" code 4 ret nm p s m #[Value.ref b] meth c) (hX : va_X b L xs s s.heap) (hbl : b < s.heap.size) (hL : L ≤ 2560) {k : Nat} (hk : 5 * k + 4 < L) {ρc ρm : Nat → Nat} {hc hm : PH} {H : Heap} {locs : List Loc} {st : St} {ls : Array Slot} {Q : State → Prop} (hl : lv_has ls 4 [(0, .ref b), (1, .ref (ρc 0)), (2, .ref (ρm 0)), (3, .int (nI (5 * k)))]) (q : CR (20 * k) hc st) (qm : MR hm st) (w : LW G s ρc hc ρm hm H locs) (nx : ∀ (H1 : Heap) (locs1 : List Loc) (ρm1 : Nat → Nat) (hc1 hm1 : PH) (st1 : St), CR (20 * (k + 1)) hc1 st1 → MR hm1 st1 → LW G s ρc hc1 ρm1 hm1 H1 locs1 → ρm1 0 = ρm 0 → W p l e room_1 s m #[Value.ref b] below meth c H1 locs1 (hc1.length + 37) (sl hc1 + slM) Q (F0 m 776 ls [])) : W p l e room_1 s m #[Value.ref b] below meth c H locs (hc.length + 37) (sl hc + slM) Q (F0 m 140 ls []) := by
  obtain ⟨hx, hb, -⟩ := id C
  have hbk : 20 * k ≤ 90000 := by omega
  refine lv_aload_n hx hb dL_140 rfl (lv_at hl 1 rfl) ?_
  refine l_arg (j := 1) C hX hbl hL hk (by decide) (by decide) hl w.2.2.2.2.2 dL_141 dL_142 dL_143 dL_144 dL_145 ?_
  refine l_ci (bu' := 20 * (k + 1)) (As := [.int (xs (5 * k + 1))]) (rest := []) (a := (q_level (xs (5 * k + 1)) st).1) (st' := (q_level (xs (5 * k + 1)) st).2) C w q qm (T_mono (C_level (by omega) (xs (5 * k + 1)) q) fun v h' pp => ⟨pp.1, pp.2.mono (by omega)⟩) (by omega) (fun v hE hf => metX9_level l G ρc hf) kcX9_level (tq q_314 rfl) kiX9_level ksX9_level knX9_level kdX9_level rfl rfl ⟨Nat.le_of_ble_eq_true rfl, Nat.le_of_ble_eq_true rfl⟩ hl.1 (Nat.le_of_ble_eq_true rfl) dL_146 rfl (fun H1 locs1 ρm1 hc1 q1 w1 e0 => ?_)
  have hl2 : lv_has ls 4 [(0, .ref b), (1, .ref (ρc 0)), (2, .ref (ρm1 0)), (3, .int (nI (5 * k)))] := by rw [e0]; exact hl
  refine lv_aload_n hx hb dL_149 rfl (lv_at hl2 2 rfl) ?_
  refine l_arg (j := 1) C hX hbl hL hk (by decide) (by decide) hl2 w1.2.2.2.2.2 dL_150 dL_151 dL_152 dL_153 dL_154 ?_
  refine l_mi (As := [.int (xs (5 * k + 1))]) (rest := [.int (q_level (xs (5 * k + 1)) st).1]) (a := (q_level (xs (5 * k + 1)) st).1) (st' := (q_level (xs (5 * k + 1)) st).2) C w1 (q1.room (by omega)) qm (M_level (xs (5 * k + 1)) qm) (fun v hE hf => metX10_level l G ρm1 hf) kcX10_level (tq q_829 rfl) kiX10_level ksX10_level knX10_level kdX10_level rfl rfl ⟨Nat.le_of_ble_eq_true rfl, Nat.le_of_ble_eq_true rfl⟩ hl.1 (Nat.le_of_ble_eq_true rfl) dL_155 rfl (fun H2 locs2 hm2 qm2 w2 => ?_)
  refine lv_icmp_eq (tgt := 776) hx hb dL_158 (by decide) (fun c0 => ?_) (fun c0 => absurd rfl c0)
  exact nx H2 locs2 ρm1 hc1 hm2 _ q1 qm2 w2 e0
set_option maxHeartbeats 4000000 in
theorem lwc_symbols {p : Program} {l : Launch} {e : Env} {s : State} {m : MethodId} {below : List Frame} {meth : Method} {c : Code} {G : GG} {nm : String} {b L : Nat} {xs : Nat → Int32} (C : Cx G "PairSymbolsLaw" code 4 ret nm p s m #[Value.ref b] meth c) (hX : va_X b L xs s s.heap) (hbl : b < s.heap.size) (hL : L ≤ 2560) {k : Nat} (hk : 5 * k + 4 < L) {ρc ρm : Nat → Nat} {hc hm : PH} {H : Heap} {locs : List Loc} {st : St} {ls : Array Slot} {Q : State → Prop} (hl : lv_has ls 4 [(0, .ref b), (1, .ref (ρc 0)), (2, .ref (ρm 0)), (3, .int (nI (5 * k)))]) (q : CR (20 * k) hc st) (qm : MR hm st) (w : LW G s ρc hc ρm hm H locs) (nx : ∀ (H1 : Heap) (locs1 : List Loc) (ρm1 : Nat → Nat) (hc1 hm1 : PH) (st1 : St), CR (20 * (k + 1)) hc1 st1 → MR hm1 st1 → LW G s ρc hc1 ρm1 hm1 H1 locs1 → ρm1 0 = ρm 0 → W p l e room_1 s m #[Value.ref b] below meth c H1 locs1 (hc1.length + 37) (sl hc1 + slM) Q (F0 m 776 ls [])) : W p l e room_1 s m #[Value.ref b] below meth c H locs (hc.length + 37) (sl hc + slM) Q (F0 m 163 ls []) := by
  obtain ⟨hx, hb, -⟩ := id C
  have hbk : 20 * k ≤ 90000 := by omega
  refine lv_aload_n hx hb dL_163 rfl (lv_at hl 1 rfl) ?_
  refine l_ci (bu' := 20 * (k + 1)) (As := []) (rest := []) (a := (q_symbols st).1) (st' := (q_symbols st).2) C w q qm (T_mono (C_symbols  q) fun v h' pp => ⟨pp.1, pp.2.mono (by omega)⟩) (by omega) (fun v hE hf => metX9_symbols l G ρc hf) kcX9_symbols (tq q_356 rfl) kiX9_symbols ksX9_symbols knX9_symbols kdX9_symbols rfl rfl ⟨Nat.le_of_ble_eq_true rfl, Nat.le_of_ble_eq_true rfl⟩ hl.1 (Nat.le_of_ble_eq_true rfl) dL_164 rfl (fun H1 locs1 ρm1 hc1 q1 w1 e0 => ?_)
  have hl2 : lv_has ls 4 [(0, .ref b), (1, .ref (ρc 0)), (2, .ref (ρm1 0)), (3, .int (nI (5 * k)))] := by rw [e0]; exact hl
  refine lv_aload_n hx hb dL_167 rfl (lv_at hl2 2 rfl) ?_
  refine l_mi (As := []) (rest := [.int (q_symbols st).1]) (a := (q_symbols st).1) (st' := (q_symbols st).2) C w1 (q1.room (by omega)) qm (M_symbols qm) (fun v hE hf => metX10_symbols l G ρm1 hf) kcX10_symbols (tq q_853 rfl) kiX10_symbols ksX10_symbols knX10_symbols kdX10_symbols rfl rfl ⟨Nat.le_of_ble_eq_true rfl, Nat.le_of_ble_eq_true rfl⟩ hl.1 (Nat.le_of_ble_eq_true rfl) dL_168 rfl (fun H2 locs2 hm2 qm2 w2 => ?_)
  refine lv_icmp_eq (tgt := 776) hx hb dL_171 (by decide) (fun c0 => ?_) (fun c0 => absurd rfl c0)
  exact nx H2 locs2 ρm1 hc1 hm2 _ q1 qm2 w2 e0
set_option maxHeartbeats 4000000 in
theorem lwc_symbol {p : Program} {l : Launch} {e : Env} {s : State} {m : MethodId} {below : List Frame} {meth : Method} {c : Code} {G : GG} {nm : String} {b L : Nat} {xs : Nat → Int32} (C : Cx G "PairSymbolsLaw" code 4 ret nm p s m #[Value.ref b] meth c) (hX : va_X b L xs s s.heap) (hbl : b < s.heap.size) (hL : L ≤ 2560) {k : Nat} (hk : 5 * k + 4 < L) {ρc ρm : Nat → Nat} {hc hm : PH} {H : Heap} {locs : List Loc} {st : St} {ls : Array Slot} {Q : State → Prop} (hl : lv_has ls 4 [(0, .ref b), (1, .ref (ρc 0)), (2, .ref (ρm 0)), (3, .int (nI (5 * k)))]) (q : CR (20 * k) hc st) (qm : MR hm st) (w : LW G s ρc hc ρm hm H locs) (nx : ∀ (H1 : Heap) (locs1 : List Loc) (ρm1 : Nat → Nat) (hc1 hm1 : PH) (st1 : St), CR (20 * (k + 1)) hc1 st1 → MR hm1 st1 → LW G s ρc hc1 ρm1 hm1 H1 locs1 → ρm1 0 = ρm 0 → W p l e room_1 s m #[Value.ref b] below meth c H1 locs1 (hc1.length + 37) (sl hc1 + slM) Q (F0 m 776 ls [])) : W p l e room_1 s m #[Value.ref b] below meth c H locs (hc.length + 37) (sl hc + slM) Q (F0 m 176 ls []) := by
  obtain ⟨hx, hb, -⟩ := id C
  have hbk : 20 * k ≤ 90000 := by omega
  refine lv_aload_n hx hb dL_176 rfl (lv_at hl 1 rfl) ?_
  refine l_arg (j := 1) C hX hbl hL hk (by decide) (by decide) hl w.2.2.2.2.2 dL_177 dL_178 dL_179 dL_180 dL_181 ?_
  refine l_arg (j := 2) C hX hbl hL hk (by decide) (by decide) hl w.2.2.2.2.2 dL_182 dL_183 dL_184 dL_185 dL_186 ?_
  refine l_ci (bu' := 20 * (k + 1)) (As := [.int (xs (5 * k + 1)), .int (xs (5 * k + 2))]) (rest := []) (a := (q_symbol (xs (5 * k + 1)) (xs (5 * k + 2)) st).1) (st' := (q_symbol (xs (5 * k + 1)) (xs (5 * k + 2)) st).2) C w q qm (T_mono (C_symbol (xs (5 * k + 1)) (xs (5 * k + 2)) q) fun v h' pp => ⟨pp.1, pp.2.mono (by omega)⟩) (by omega) (fun v hE hf => metX9_symbol l G ρc hf) kcX9_symbol (tq q_360 rfl) kiX9_symbol ksX9_symbol knX9_symbol kdX9_symbol rfl rfl ⟨Nat.le_of_ble_eq_true rfl, Nat.le_of_ble_eq_true rfl⟩ hl.1 (Nat.le_of_ble_eq_true rfl) dL_187 rfl (fun H1 locs1 ρm1 hc1 q1 w1 e0 => ?_)
  have hl2 : lv_has ls 4 [(0, .ref b), (1, .ref (ρc 0)), (2, .ref (ρm1 0)), (3, .int (nI (5 * k)))] := by rw [e0]; exact hl
  refine lv_aload_n hx hb dL_190 rfl (lv_at hl2 2 rfl) ?_
  refine l_arg (j := 1) C hX hbl hL hk (by decide) (by decide) hl2 w1.2.2.2.2.2 dL_191 dL_192 dL_193 dL_194 dL_195 ?_
  refine l_arg (j := 2) C hX hbl hL hk (by decide) (by decide) hl2 w1.2.2.2.2.2 dL_196 dL_197 dL_198 dL_199 dL_200 ?_
  refine l_mi (As := [.int (xs (5 * k + 1)), .int (xs (5 * k + 2))]) (rest := [.int (q_symbol (xs (5 * k + 1)) (xs (5 * k + 2)) st).1]) (a := (q_symbol (xs (5 * k + 1)) (xs (5 * k + 2)) st).1) (st' := (q_symbol (xs (5 * k + 1)) (xs (5 * k + 2)) st).2) C w1 (q1.room (by omega)) qm (M_symbol (xs (5 * k + 1)) (xs (5 * k + 2)) qm) (fun v hE hf => metX10_symbol l G ρm1 hf) kcX10_symbol (tq q_931 rfl) kiX10_symbol ksX10_symbol knX10_symbol kdX10_symbol rfl rfl ⟨Nat.le_of_ble_eq_true rfl, Nat.le_of_ble_eq_true rfl⟩ hl.1 (Nat.le_of_ble_eq_true rfl) dL_201 rfl (fun H2 locs2 hm2 qm2 w2 => ?_)
  refine lv_icmp_eq (tgt := 776) hx hb dL_204 (by decide) (fun c0 => ?_) (fun c0 => absurd rfl c0)
  exact nx H2 locs2 ρm1 hc1 hm2 _ q1 qm2 w2 e0
set_option maxHeartbeats 4000000 in
theorem lwc_pair {p : Program} {l : Launch} {e : Env} {s : State} {m : MethodId} {below : List Frame} {meth : Method} {c : Code} {G : GG} {nm : String} {b L : Nat} {xs : Nat → Int32} (C : Cx G "PairSymbolsLaw" code 4 ret nm p s m #[Value.ref b] meth c) (hX : va_X b L xs s s.heap) (hbl : b < s.heap.size) (hL : L ≤ 2560) {k : Nat} (hk : 5 * k + 4 < L) {ρc ρm : Nat → Nat} {hc hm : PH} {H : Heap} {locs : List Loc} {st : St} {ls : Array Slot} {Q : State → Prop} (hl : lv_has ls 4 [(0, .ref b), (1, .ref (ρc 0)), (2, .ref (ρm 0)), (3, .int (nI (5 * k)))]) (q : CR (20 * k) hc st) (qm : MR hm st) (w : LW G s ρc hc ρm hm H locs) (nx : ∀ (H1 : Heap) (locs1 : List Loc) (ρm1 : Nat → Nat) (hc1 hm1 : PH) (st1 : St), CR (20 * (k + 1)) hc1 st1 → MR hm1 st1 → LW G s ρc hc1 ρm1 hm1 H1 locs1 → ρm1 0 = ρm 0 → W p l e room_1 s m #[Value.ref b] below meth c H1 locs1 (hc1.length + 37) (sl hc1 + slM) Q (F0 m 776 ls [])) : W p l e room_1 s m #[Value.ref b] below meth c H locs (hc.length + 37) (sl hc + slM) Q (F0 m 209 ls []) := by
  obtain ⟨hx, hb, -⟩ := id C
  have hbk : 20 * k ≤ 90000 := by omega
  refine lv_aload_n hx hb dL_209 rfl (lv_at hl 1 rfl) ?_
  refine l_arg (j := 1) C hX hbl hL hk (by decide) (by decide) hl w.2.2.2.2.2 dL_210 dL_211 dL_212 dL_213 dL_214 ?_
  refine l_arg (j := 2) C hX hbl hL hk (by decide) (by decide) hl w.2.2.2.2.2 dL_215 dL_216 dL_217 dL_218 dL_219 ?_
  refine l_ci (bu' := 20 * (k + 1)) (As := [.int (xs (5 * k + 1)), .int (xs (5 * k + 2))]) (rest := []) (a := (q_pair (xs (5 * k + 1)) (xs (5 * k + 2)) st).1) (st' := (q_pair (xs (5 * k + 1)) (xs (5 * k + 2)) st).2) C w q qm (T_mono (C_pair (xs (5 * k + 1)) (xs (5 * k + 2)) q) fun v h' pp => ⟨pp.1, pp.2.mono (by omega)⟩) (by omega) (fun v hE hf => metX9_pair l G ρc hf) kcX9_pair (tq q_368 rfl) kiX9_pair ksX9_pair knX9_pair kdX9_pair rfl rfl ⟨Nat.le_of_ble_eq_true rfl, Nat.le_of_ble_eq_true rfl⟩ hl.1 (Nat.le_of_ble_eq_true rfl) dL_220 rfl (fun H1 locs1 ρm1 hc1 q1 w1 e0 => ?_)
  have hl2 : lv_has ls 4 [(0, .ref b), (1, .ref (ρc 0)), (2, .ref (ρm1 0)), (3, .int (nI (5 * k)))] := by rw [e0]; exact hl
  refine lv_aload_n hx hb dL_223 rfl (lv_at hl2 2 rfl) ?_
  refine l_arg (j := 1) C hX hbl hL hk (by decide) (by decide) hl2 w1.2.2.2.2.2 dL_224 dL_225 dL_226 dL_227 dL_228 ?_
  refine l_arg (j := 2) C hX hbl hL hk (by decide) (by decide) hl2 w1.2.2.2.2.2 dL_229 dL_230 dL_231 dL_232 dL_233 ?_
  refine l_mi (As := [.int (xs (5 * k + 1)), .int (xs (5 * k + 2))]) (rest := [.int (q_pair (xs (5 * k + 1)) (xs (5 * k + 2)) st).1]) (a := (q_pair (xs (5 * k + 1)) (xs (5 * k + 2)) st).1) (st' := (q_pair (xs (5 * k + 1)) (xs (5 * k + 2)) st).2) C w1 (q1.room (by omega)) qm (M_pair (xs (5 * k + 1)) (xs (5 * k + 2)) qm) (fun v hE hf => metX10_pair l G ρm1 hf) kcX10_pair (tq q_944 rfl) kiX10_pair ksX10_pair knX10_pair kdX10_pair rfl rfl ⟨Nat.le_of_ble_eq_true rfl, Nat.le_of_ble_eq_true rfl⟩ hl.1 (Nat.le_of_ble_eq_true rfl) dL_234 rfl (fun H2 locs2 hm2 qm2 w2 => ?_)
  refine lv_icmp_eq (tgt := 776) hx hb dL_237 (by decide) (fun c0 => ?_) (fun c0 => absurd rfl c0)
  exact nx H2 locs2 ρm1 hc1 hm2 _ q1 qm2 w2 e0
set_option maxHeartbeats 4000000 in
theorem lwc_space {p : Program} {l : Launch} {e : Env} {s : State} {m : MethodId} {below : List Frame} {meth : Method} {c : Code} {G : GG} {nm : String} {b L : Nat} {xs : Nat → Int32} (C : Cx G "PairSymbolsLaw" code 4 ret nm p s m #[Value.ref b] meth c) (hX : va_X b L xs s s.heap) (hbl : b < s.heap.size) (hL : L ≤ 2560) {k : Nat} (hk : 5 * k + 4 < L) {ρc ρm : Nat → Nat} {hc hm : PH} {H : Heap} {locs : List Loc} {st : St} {ls : Array Slot} {Q : State → Prop} (hl : lv_has ls 4 [(0, .ref b), (1, .ref (ρc 0)), (2, .ref (ρm 0)), (3, .int (nI (5 * k)))]) (q : CR (20 * k) hc st) (qm : MR hm st) (w : LW G s ρc hc ρm hm H locs) (nx : ∀ (H1 : Heap) (locs1 : List Loc) (ρm1 : Nat → Nat) (hc1 hm1 : PH) (st1 : St), CR (20 * (k + 1)) hc1 st1 → MR hm1 st1 → LW G s ρc hc1 ρm1 hm1 H1 locs1 → ρm1 0 = ρm 0 → W p l e room_1 s m #[Value.ref b] below meth c H1 locs1 (hc1.length + 37) (sl hc1 + slM) Q (F0 m 776 ls [])) : W p l e room_1 s m #[Value.ref b] below meth c H locs (hc.length + 37) (sl hc + slM) Q (F0 m 242 ls []) := by
  obtain ⟨hx, hb, -⟩ := id C
  have hbk : 20 * k ≤ 90000 := by omega
  refine lv_aload_n hx hb dL_242 rfl (lv_at hl 1 rfl) ?_
  refine l_arg (j := 1) C hX hbl hL hk (by decide) (by decide) hl w.2.2.2.2.2 dL_243 dL_244 dL_245 dL_246 dL_247 ?_
  refine l_ci (bu' := 20 * (k + 1)) (As := [.int (xs (5 * k + 1))]) (rest := []) (a := (q_space (xs (5 * k + 1)) st).1) (st' := (q_space (xs (5 * k + 1)) st).2) C w q qm (T_mono (C_space (xs (5 * k + 1)) q) fun v h' pp => ⟨pp.1, pp.2.2.mono (by omega)⟩) (by omega) (fun v hE hf => metX9_space l G ρc hf) kcX9_space (tq q_373 rfl) kiX9_space ksX9_space knX9_space kdX9_space rfl rfl ⟨Nat.le_of_ble_eq_true rfl, Nat.le_of_ble_eq_true rfl⟩ hl.1 (Nat.le_of_ble_eq_true rfl) dL_248 rfl (fun H1 locs1 ρm1 hc1 q1 w1 e0 => ?_)
  have hl2 : lv_has ls 4 [(0, .ref b), (1, .ref (ρc 0)), (2, .ref (ρm1 0)), (3, .int (nI (5 * k)))] := by rw [e0]; exact hl
  refine lv_aload_n hx hb dL_251 rfl (lv_at hl2 2 rfl) ?_
  refine l_arg (j := 1) C hX hbl hL hk (by decide) (by decide) hl2 w1.2.2.2.2.2 dL_252 dL_253 dL_254 dL_255 dL_256 ?_
  refine l_mi (As := [.int (xs (5 * k + 1))]) (rest := [.int (q_space (xs (5 * k + 1)) st).1]) (a := (q_space (xs (5 * k + 1)) st).1) (st' := (q_space (xs (5 * k + 1)) st).2) C w1 (q1.room (by omega)) qm (M_space (xs (5 * k + 1)) qm) (fun v hE hf => metX10_space l G ρm1 hf) kcX10_space (tq q_950 rfl) kiX10_space ksX10_space knX10_space kdX10_space rfl rfl ⟨Nat.le_of_ble_eq_true rfl, Nat.le_of_ble_eq_true rfl⟩ hl.1 (Nat.le_of_ble_eq_true rfl) dL_257 rfl (fun H2 locs2 hm2 qm2 w2 => ?_)
  refine lv_icmp_eq (tgt := 776) hx hb dL_260 (by decide) (fun c0 => ?_) (fun c0 => absurd rfl c0)
  exact nx H2 locs2 ρm1 hc1 hm2 _ q1 qm2 w2 e0
set_option maxHeartbeats 4000000 in
theorem lwc_fraction {p : Program} {l : Launch} {e : Env} {s : State} {m : MethodId} {below : List Frame} {meth : Method} {c : Code} {G : GG} {nm : String} {b L : Nat} {xs : Nat → Int32} (C : Cx G "PairSymbolsLaw" code 4 ret nm p s m #[Value.ref b] meth c) (hX : va_X b L xs s s.heap) (hbl : b < s.heap.size) (hL : L ≤ 2560) {k : Nat} (hk : 5 * k + 4 < L) {ρc ρm : Nat → Nat} {hc hm : PH} {H : Heap} {locs : List Loc} {st : St} {ls : Array Slot} {Q : State → Prop} (hl : lv_has ls 4 [(0, .ref b), (1, .ref (ρc 0)), (2, .ref (ρm 0)), (3, .int (nI (5 * k)))]) (q : CR (20 * k) hc st) (qm : MR hm st) (w : LW G s ρc hc ρm hm H locs) (nx : ∀ (H1 : Heap) (locs1 : List Loc) (ρm1 : Nat → Nat) (hc1 hm1 : PH) (st1 : St), CR (20 * (k + 1)) hc1 st1 → MR hm1 st1 → LW G s ρc hc1 ρm1 hm1 H1 locs1 → ρm1 0 = ρm 0 → W p l e room_1 s m #[Value.ref b] below meth c H1 locs1 (hc1.length + 37) (sl hc1 + slM) Q (F0 m 776 ls [])) : W p l e room_1 s m #[Value.ref b] below meth c H locs (hc.length + 37) (sl hc + slM) Q (F0 m 265 ls []) := by
  obtain ⟨hx, hb, -⟩ := id C
  have hbk : 20 * k ≤ 90000 := by omega
  refine lv_aload_n hx hb dL_265 rfl (lv_at hl 1 rfl) ?_
  refine l_arg (j := 1) C hX hbl hL hk (by decide) (by decide) hl w.2.2.2.2.2 dL_266 dL_267 dL_268 dL_269 dL_270 ?_
  refine l_arg (j := 2) C hX hbl hL hk (by decide) (by decide) hl w.2.2.2.2.2 dL_271 dL_272 dL_273 dL_274 dL_275 ?_
  refine l_arg (j := 3) C hX hbl hL hk (by decide) (by decide) hl w.2.2.2.2.2 dL_276 dL_277 dL_278 dL_279 dL_280 ?_
  refine l_cl (bu' := 20 * (k + 1)) (As := [.int (xs (5 * k + 1)), .int (xs (5 * k + 2)), .int (xs (5 * k + 3))]) (rest := []) (a := (q_fraction (xs (5 * k + 1)) (xs (5 * k + 2)) (xs (5 * k + 3)) st).1) (st' := (q_fraction (xs (5 * k + 1)) (xs (5 * k + 2)) (xs (5 * k + 3)) st).2) C w q qm (T_mono (C_fraction (xs (5 * k + 1)) (xs (5 * k + 2)) (xs (5 * k + 3)) q) fun v h' pp => ⟨pp.1, pp.2.mono (by omega)⟩) (by omega) (fun v hE hf => metX9_fraction l G ρc hf) kcX9_fraction (tq q_381 rfl) kiX9_fraction ksX9_fraction knX9_fraction kdX9_fraction rfl rfl ⟨Nat.le_of_ble_eq_true rfl, Nat.le_of_ble_eq_true rfl⟩ hl.1 (Nat.le_of_ble_eq_true rfl) dL_281 rfl (fun H1 locs1 ρm1 hc1 q1 w1 e0 => ?_)
  have hl2 : lv_has ls 4 [(0, .ref b), (1, .ref (ρc 0)), (2, .ref (ρm1 0)), (3, .int (nI (5 * k)))] := by rw [e0]; exact hl
  refine lv_aload_n hx hb dL_284 rfl (lv_at hl2 2 rfl) ?_
  refine l_arg (j := 1) C hX hbl hL hk (by decide) (by decide) hl2 w1.2.2.2.2.2 dL_285 dL_286 dL_287 dL_288 dL_289 ?_
  refine l_arg (j := 2) C hX hbl hL hk (by decide) (by decide) hl2 w1.2.2.2.2.2 dL_290 dL_291 dL_292 dL_293 dL_294 ?_
  refine l_arg (j := 3) C hX hbl hL hk (by decide) (by decide) hl2 w1.2.2.2.2.2 dL_295 dL_296 dL_297 dL_298 dL_299 ?_
  refine l_ml (As := [.int (xs (5 * k + 1)), .int (xs (5 * k + 2)), .int (xs (5 * k + 3))]) (rest := [.long (q_fraction (xs (5 * k + 1)) (xs (5 * k + 2)) (xs (5 * k + 3)) st).1]) (a := (q_fraction (xs (5 * k + 1)) (xs (5 * k + 2)) (xs (5 * k + 3)) st).1) (st' := (q_fraction (xs (5 * k + 1)) (xs (5 * k + 2)) (xs (5 * k + 3)) st).2) C w1 (q1.room (by omega)) qm (M_fraction (xs (5 * k + 1)) (xs (5 * k + 2)) (xs (5 * k + 3)) qm) (fun v hE hf => metX10_fraction l G ρm1 hf) kcX10_fraction (tq q_991 rfl) kiX10_fraction ksX10_fraction knX10_fraction kdX10_fraction rfl rfl ⟨Nat.le_of_ble_eq_true rfl, Nat.le_of_ble_eq_true rfl⟩ hl.1 (Nat.le_of_ble_eq_true rfl) dL_300 rfl (fun H2 locs2 hm2 qm2 w2 => ?_)
  refine W.lcmp hx hb dL_303 ?_
  refine lv_if_eq (tgt := 776) hx hb dL_304 (by decide) (fun c0 => ?_) (fun c0 => absurd (lg_cmp_self _) c0)
  exact nx H2 locs2 ρm1 hc1 hm2 _ q1 qm2 w2 e0
set_option maxHeartbeats 4000000 in
theorem lwc_table {p : Program} {l : Launch} {e : Env} {s : State} {m : MethodId} {below : List Frame} {meth : Method} {c : Code} {G : GG} {nm : String} {b L : Nat} {xs : Nat → Int32} (C : Cx G "PairSymbolsLaw" code 4 ret nm p s m #[Value.ref b] meth c) (hX : va_X b L xs s s.heap) (hbl : b < s.heap.size) (hL : L ≤ 2560) {k : Nat} (hk : 5 * k + 4 < L) {ρc ρm : Nat → Nat} {hc hm : PH} {H : Heap} {locs : List Loc} {st : St} {ls : Array Slot} {Q : State → Prop} (hl : lv_has ls 4 [(0, .ref b), (1, .ref (ρc 0)), (2, .ref (ρm 0)), (3, .int (nI (5 * k)))]) (q : CR (20 * k) hc st) (qm : MR hm st) (w : LW G s ρc hc ρm hm H locs) (nx : ∀ (H1 : Heap) (locs1 : List Loc) (ρm1 : Nat → Nat) (hc1 hm1 : PH) (st1 : St), CR (20 * (k + 1)) hc1 st1 → MR hm1 st1 → LW G s ρc hc1 ρm1 hm1 H1 locs1 → ρm1 0 = ρm 0 → W p l e room_1 s m #[Value.ref b] below meth c H1 locs1 (hc1.length + 37) (sl hc1 + slM) Q (F0 m 776 ls [])) : W p l e room_1 s m #[Value.ref b] below meth c H locs (hc.length + 37) (sl hc + slM) Q (F0 m 309 ls []) := by
  obtain ⟨hx, hb, -⟩ := id C
  have hbk : 20 * k ≤ 90000 := by omega
  refine lv_aload_n hx hb dL_309 rfl (lv_at hl 1 rfl) ?_
  refine l_arg (j := 1) C hX hbl hL hk (by decide) (by decide) hl w.2.2.2.2.2 dL_310 dL_311 dL_312 dL_313 dL_314 ?_
  refine l_arg (j := 2) C hX hbl hL hk (by decide) (by decide) hl w.2.2.2.2.2 dL_315 dL_316 dL_317 dL_318 dL_319 ?_
  refine l_arg (j := 3) C hX hbl hL hk (by decide) (by decide) hl w.2.2.2.2.2 dL_320 dL_321 dL_322 dL_323 dL_324 ?_
  refine l_arg (j := 4) C hX hbl hL hk (by decide) (by decide) hl w.2.2.2.2.2 dL_325 dL_326 dL_327 dL_328 dL_329 ?_
  refine l_cl (bu' := 20 * (k + 1)) (As := [.int (xs (5 * k + 1)), .int (xs (5 * k + 2)), .int (xs (5 * k + 3)), .int (xs (5 * k + 4))]) (rest := []) (a := (q_table (xs (5 * k + 1)) (xs (5 * k + 2)) (xs (5 * k + 3)) (xs (5 * k + 4)) st).1) (st' := (q_table (xs (5 * k + 1)) (xs (5 * k + 2)) (xs (5 * k + 3)) (xs (5 * k + 4)) st).2) C w q qm (T_mono (C_table (by omega) (xs (5 * k + 1)) (xs (5 * k + 2)) (xs (5 * k + 3)) (xs (5 * k + 4)) q) fun v h' pp => ⟨pp.1, pp.2.mono (by omega)⟩) (by omega) (fun v hE hf => metX9_table l G ρc hf) kcX9_table (tq q_389 rfl) kiX9_table ksX9_table knX9_table kdX9_table rfl rfl ⟨Nat.le_of_ble_eq_true rfl, Nat.le_of_ble_eq_true rfl⟩ hl.1 (Nat.le_of_ble_eq_true rfl) dL_330 rfl (fun H1 locs1 ρm1 hc1 q1 w1 e0 => ?_)
  have hl2 : lv_has ls 4 [(0, .ref b), (1, .ref (ρc 0)), (2, .ref (ρm1 0)), (3, .int (nI (5 * k)))] := by rw [e0]; exact hl
  refine lv_aload_n hx hb dL_333 rfl (lv_at hl2 2 rfl) ?_
  refine l_arg (j := 1) C hX hbl hL hk (by decide) (by decide) hl2 w1.2.2.2.2.2 dL_334 dL_335 dL_336 dL_337 dL_338 ?_
  refine l_arg (j := 2) C hX hbl hL hk (by decide) (by decide) hl2 w1.2.2.2.2.2 dL_339 dL_340 dL_341 dL_342 dL_343 ?_
  refine l_arg (j := 3) C hX hbl hL hk (by decide) (by decide) hl2 w1.2.2.2.2.2 dL_344 dL_345 dL_346 dL_347 dL_348 ?_
  refine l_arg (j := 4) C hX hbl hL hk (by decide) (by decide) hl2 w1.2.2.2.2.2 dL_349 dL_350 dL_351 dL_352 dL_353 ?_
  refine l_ml (As := [.int (xs (5 * k + 1)), .int (xs (5 * k + 2)), .int (xs (5 * k + 3)), .int (xs (5 * k + 4))]) (rest := [.long (q_table (xs (5 * k + 1)) (xs (5 * k + 2)) (xs (5 * k + 3)) (xs (5 * k + 4)) st).1]) (a := (q_table (xs (5 * k + 1)) (xs (5 * k + 2)) (xs (5 * k + 3)) (xs (5 * k + 4)) st).1) (st' := (q_table (xs (5 * k + 1)) (xs (5 * k + 2)) (xs (5 * k + 3)) (xs (5 * k + 4)) st).2) C w1 (q1.room (by omega)) qm (M_table (xs (5 * k + 1)) (xs (5 * k + 2)) (xs (5 * k + 3)) (xs (5 * k + 4)) qm) (fun v hE hf => metX10_table l G ρm1 hf) kcX10_table (tq q_995 rfl) kiX10_table ksX10_table knX10_table kdX10_table rfl rfl ⟨Nat.le_of_ble_eq_true rfl, Nat.le_of_ble_eq_true rfl⟩ hl.1 (Nat.le_of_ble_eq_true rfl) dL_354 rfl (fun H2 locs2 hm2 qm2 w2 => ?_)
  refine W.lcmp hx hb dL_357 ?_
  refine lv_if_eq (tgt := 776) hx hb dL_358 (by decide) (fun c0 => ?_) (fun c0 => absurd (lg_cmp_self _) c0)
  exact nx H2 locs2 ρm1 hc1 hm2 _ q1 qm2 w2 e0
set_option maxHeartbeats 4000000 in
theorem lwc_trace {p : Program} {l : Launch} {e : Env} {s : State} {m : MethodId} {below : List Frame} {meth : Method} {c : Code} {G : GG} {nm : String} {b L : Nat} {xs : Nat → Int32} (C : Cx G "PairSymbolsLaw" code 4 ret nm p s m #[Value.ref b] meth c) (hX : va_X b L xs s s.heap) (hbl : b < s.heap.size) (hL : L ≤ 2560) {k : Nat} (hk : 5 * k + 4 < L) {ρc ρm : Nat → Nat} {hc hm : PH} {H : Heap} {locs : List Loc} {st : St} {ls : Array Slot} {Q : State → Prop} (hl : lv_has ls 4 [(0, .ref b), (1, .ref (ρc 0)), (2, .ref (ρm 0)), (3, .int (nI (5 * k)))]) (q : CR (20 * k) hc st) (qm : MR hm st) (w : LW G s ρc hc ρm hm H locs) (nx : ∀ (H1 : Heap) (locs1 : List Loc) (ρm1 : Nat → Nat) (hc1 hm1 : PH) (st1 : St), CR (20 * (k + 1)) hc1 st1 → MR hm1 st1 → LW G s ρc hc1 ρm1 hm1 H1 locs1 → ρm1 0 = ρm 0 → W p l e room_1 s m #[Value.ref b] below meth c H1 locs1 (hc1.length + 37) (sl hc1 + slM) Q (F0 m 776 ls [])) : W p l e room_1 s m #[Value.ref b] below meth c H locs (hc.length + 37) (sl hc + slM) Q (F0 m 363 ls []) := by
  obtain ⟨hx, hb, -⟩ := id C
  have hbk : 20 * k ≤ 90000 := by omega
  refine lv_aload_n hx hb dL_363 rfl (lv_at hl 1 rfl) ?_
  refine l_arg (j := 1) C hX hbl hL hk (by decide) (by decide) hl w.2.2.2.2.2 dL_364 dL_365 dL_366 dL_367 dL_368 ?_
  refine l_arg (j := 2) C hX hbl hL hk (by decide) (by decide) hl w.2.2.2.2.2 dL_369 dL_370 dL_371 dL_372 dL_373 ?_
  refine l_cl (bu' := 20 * (k + 1)) (As := [.int (xs (5 * k + 1)), .int (xs (5 * k + 2))]) (rest := []) (a := (q_trace (xs (5 * k + 1)) (xs (5 * k + 2)) st).1) (st' := (q_trace (xs (5 * k + 1)) (xs (5 * k + 2)) st).2) C w q qm (T_mono (C_trace (by omega) (xs (5 * k + 1)) (xs (5 * k + 2)) q) fun v h' pp => ⟨pp.1, pp.2.mono (by omega)⟩) (by omega) (fun v hE hf => metX9_trace l G ρc hf) kcX9_trace (tq q_436 rfl) kiX9_trace ksX9_trace knX9_trace kdX9_trace rfl rfl ⟨Nat.le_of_ble_eq_true rfl, Nat.le_of_ble_eq_true rfl⟩ hl.1 (Nat.le_of_ble_eq_true rfl) dL_374 rfl (fun H1 locs1 ρm1 hc1 q1 w1 e0 => ?_)
  have hl2 : lv_has ls 4 [(0, .ref b), (1, .ref (ρc 0)), (2, .ref (ρm1 0)), (3, .int (nI (5 * k)))] := by rw [e0]; exact hl
  refine lv_aload_n hx hb dL_377 rfl (lv_at hl2 2 rfl) ?_
  refine l_arg (j := 1) C hX hbl hL hk (by decide) (by decide) hl2 w1.2.2.2.2.2 dL_378 dL_379 dL_380 dL_381 dL_382 ?_
  refine l_arg (j := 2) C hX hbl hL hk (by decide) (by decide) hl2 w1.2.2.2.2.2 dL_383 dL_384 dL_385 dL_386 dL_387 ?_
  refine l_ml (As := [.int (xs (5 * k + 1)), .int (xs (5 * k + 2))]) (rest := [.long (q_trace (xs (5 * k + 1)) (xs (5 * k + 2)) st).1]) (a := (q_trace (xs (5 * k + 1)) (xs (5 * k + 2)) st).1) (st' := (q_trace (xs (5 * k + 1)) (xs (5 * k + 2)) st).2) C w1 (q1.room (by omega)) qm (M_trace (xs (5 * k + 1)) (xs (5 * k + 2)) qm) (fun v hE hf => metX10_trace l G ρm1 hf) kcX10_trace (tq q_1016 rfl) kiX10_trace ksX10_trace knX10_trace kdX10_trace rfl rfl ⟨Nat.le_of_ble_eq_true rfl, Nat.le_of_ble_eq_true rfl⟩ hl.1 (Nat.le_of_ble_eq_true rfl) dL_388 rfl (fun H2 locs2 hm2 qm2 w2 => ?_)
  refine W.lcmp hx hb dL_391 ?_
  refine lv_if_eq (tgt := 776) hx hb dL_392 (by decide) (fun c0 => ?_) (fun c0 => absurd (lg_cmp_self _) c0)
  exact nx H2 locs2 ρm1 hc1 hm2 _ q1 qm2 w2 e0
set_option maxHeartbeats 4000000 in
theorem lwc_polynomial {p : Program} {l : Launch} {e : Env} {s : State} {m : MethodId} {below : List Frame} {meth : Method} {c : Code} {G : GG} {nm : String} {b L : Nat} {xs : Nat → Int32} (C : Cx G "PairSymbolsLaw" code 4 ret nm p s m #[Value.ref b] meth c) (hX : va_X b L xs s s.heap) (hbl : b < s.heap.size) (hL : L ≤ 2560) {k : Nat} (hk : 5 * k + 4 < L) {ρc ρm : Nat → Nat} {hc hm : PH} {H : Heap} {locs : List Loc} {st : St} {ls : Array Slot} {Q : State → Prop} (hl : lv_has ls 4 [(0, .ref b), (1, .ref (ρc 0)), (2, .ref (ρm 0)), (3, .int (nI (5 * k)))]) (q : CR (20 * k) hc st) (qm : MR hm st) (w : LW G s ρc hc ρm hm H locs) (nx : ∀ (H1 : Heap) (locs1 : List Loc) (ρm1 : Nat → Nat) (hc1 hm1 : PH) (st1 : St), CR (20 * (k + 1)) hc1 st1 → MR hm1 st1 → LW G s ρc hc1 ρm1 hm1 H1 locs1 → ρm1 0 = ρm 0 → W p l e room_1 s m #[Value.ref b] below meth c H1 locs1 (hc1.length + 37) (sl hc1 + slM) Q (F0 m 776 ls [])) : W p l e room_1 s m #[Value.ref b] below meth c H locs (hc.length + 37) (sl hc + slM) Q (F0 m 397 ls []) := by
  obtain ⟨hx, hb, -⟩ := id C
  have hbk : 20 * k ≤ 90000 := by omega
  refine lv_aload_n hx hb dL_397 rfl (lv_at hl 1 rfl) ?_
  refine l_arg (j := 1) C hX hbl hL hk (by decide) (by decide) hl w.2.2.2.2.2 dL_398 dL_399 dL_400 dL_401 dL_402 ?_
  refine l_arg (j := 2) C hX hbl hL hk (by decide) (by decide) hl w.2.2.2.2.2 dL_403 dL_404 dL_405 dL_406 dL_407 ?_
  refine l_arg (j := 3) C hX hbl hL hk (by decide) (by decide) hl w.2.2.2.2.2 dL_408 dL_409 dL_410 dL_411 dL_412 ?_
  refine l_cl (bu' := 20 * (k + 1)) (As := [.int (xs (5 * k + 1)), .int (xs (5 * k + 2)), .int (xs (5 * k + 3))]) (rest := []) (a := (q_poly (xs (5 * k + 1)) (xs (5 * k + 2)) (xs (5 * k + 3)) st).1) (st' := (q_poly (xs (5 * k + 1)) (xs (5 * k + 2)) (xs (5 * k + 3)) st).2) C w q qm (T_mono (C_polynomial (by omega) (xs (5 * k + 1)) (xs (5 * k + 2)) (xs (5 * k + 3)) q) fun v h' pp => ⟨pp.1, pp.2.mono (by omega)⟩) (by omega) (fun v hE hf => metX9_polynomial l G ρc hf) kcX9_polynomial (tq q_445 rfl) kiX9_polynomial ksX9_polynomial knX9_polynomial kdX9_polynomial rfl rfl ⟨Nat.le_of_ble_eq_true rfl, Nat.le_of_ble_eq_true rfl⟩ hl.1 (Nat.le_of_ble_eq_true rfl) dL_413 rfl (fun H1 locs1 ρm1 hc1 q1 w1 e0 => ?_)
  have hl2 : lv_has ls 4 [(0, .ref b), (1, .ref (ρc 0)), (2, .ref (ρm1 0)), (3, .int (nI (5 * k)))] := by rw [e0]; exact hl
  refine lv_aload_n hx hb dL_416 rfl (lv_at hl2 2 rfl) ?_
  refine l_arg (j := 1) C hX hbl hL hk (by decide) (by decide) hl2 w1.2.2.2.2.2 dL_417 dL_418 dL_419 dL_420 dL_421 ?_
  refine l_arg (j := 2) C hX hbl hL hk (by decide) (by decide) hl2 w1.2.2.2.2.2 dL_422 dL_423 dL_424 dL_425 dL_426 ?_
  refine l_arg (j := 3) C hX hbl hL hk (by decide) (by decide) hl2 w1.2.2.2.2.2 dL_427 dL_428 dL_429 dL_430 dL_431 ?_
  refine l_ml (As := [.int (xs (5 * k + 1)), .int (xs (5 * k + 2)), .int (xs (5 * k + 3))]) (rest := [.long (q_poly (xs (5 * k + 1)) (xs (5 * k + 2)) (xs (5 * k + 3)) st).1]) (a := (q_poly (xs (5 * k + 1)) (xs (5 * k + 2)) (xs (5 * k + 3)) st).1) (st' := (q_poly (xs (5 * k + 1)) (xs (5 * k + 2)) (xs (5 * k + 3)) st).2) C w1 (q1.room (by omega)) qm (M_polynomial (xs (5 * k + 1)) (xs (5 * k + 2)) (xs (5 * k + 3)) qm) (fun v hE hf => metX10_polynomial l G ρm1 hf) kcX10_polynomial (tq q_1037 rfl) kiX10_polynomial ksX10_polynomial knX10_polynomial kdX10_polynomial rfl rfl ⟨Nat.le_of_ble_eq_true rfl, Nat.le_of_ble_eq_true rfl⟩ hl.1 (Nat.le_of_ble_eq_true rfl) dL_432 rfl (fun H2 locs2 hm2 qm2 w2 => ?_)
  refine W.lcmp hx hb dL_435 ?_
  refine lv_if_eq (tgt := 776) hx hb dL_436 (by decide) (fun c0 => ?_) (fun c0 => absurd (lg_cmp_self _) c0)
  exact nx H2 locs2 ρm1 hc1 hm2 _ q1 qm2 w2 e0
set_option maxHeartbeats 4000000 in
theorem lwc_root {p : Program} {l : Launch} {e : Env} {s : State} {m : MethodId} {below : List Frame} {meth : Method} {c : Code} {G : GG} {nm : String} {b L : Nat} {xs : Nat → Int32} (C : Cx G "PairSymbolsLaw" code 4 ret nm p s m #[Value.ref b] meth c) (hX : va_X b L xs s s.heap) (hbl : b < s.heap.size) (hL : L ≤ 2560) {k : Nat} (hk : 5 * k + 4 < L) {ρc ρm : Nat → Nat} {hc hm : PH} {H : Heap} {locs : List Loc} {st : St} {ls : Array Slot} {Q : State → Prop} (hl : lv_has ls 4 [(0, .ref b), (1, .ref (ρc 0)), (2, .ref (ρm 0)), (3, .int (nI (5 * k)))]) (q : CR (20 * k) hc st) (qm : MR hm st) (w : LW G s ρc hc ρm hm H locs) (nx : ∀ (H1 : Heap) (locs1 : List Loc) (ρm1 : Nat → Nat) (hc1 hm1 : PH) (st1 : St), CR (20 * (k + 1)) hc1 st1 → MR hm1 st1 → LW G s ρc hc1 ρm1 hm1 H1 locs1 → ρm1 0 = ρm 0 → W p l e room_1 s m #[Value.ref b] below meth c H1 locs1 (hc1.length + 37) (sl hc1 + slM) Q (F0 m 776 ls [])) : W p l e room_1 s m #[Value.ref b] below meth c H locs (hc.length + 37) (sl hc + slM) Q (F0 m 441 ls []) := by
  obtain ⟨hx, hb, -⟩ := id C
  have hbk : 20 * k ≤ 90000 := by omega
  refine lv_aload_n hx hb dL_441 rfl (lv_at hl 1 rfl) ?_
  refine l_arg (j := 1) C hX hbl hL hk (by decide) (by decide) hl w.2.2.2.2.2 dL_442 dL_443 dL_444 dL_445 dL_446 ?_
  refine l_arg (j := 2) C hX hbl hL hk (by decide) (by decide) hl w.2.2.2.2.2 dL_447 dL_448 dL_449 dL_450 dL_451 ?_
  refine l_ci (bu' := 20 * (k + 1)) (As := [.int (xs (5 * k + 1)), .int (xs (5 * k + 2))]) (rest := []) (a := (q_root (xs (5 * k + 1)) (xs (5 * k + 2)) st).1) (st' := (q_root (xs (5 * k + 1)) (xs (5 * k + 2)) st).2) C w q qm (T_mono (C_root (by omega) (xs (5 * k + 1)) (xs (5 * k + 2)) q) fun v h' pp => ⟨pp.1, pp.2.mono (by omega)⟩) (by omega) (fun v hE hf => metX9_root l G ρc hf) kcX9_root (tq q_470 rfl) kiX9_root ksX9_root knX9_root kdX9_root rfl rfl ⟨Nat.le_of_ble_eq_true rfl, Nat.le_of_ble_eq_true rfl⟩ hl.1 (Nat.le_of_ble_eq_true rfl) dL_452 rfl (fun H1 locs1 ρm1 hc1 q1 w1 e0 => ?_)
  have hl2 : lv_has ls 4 [(0, .ref b), (1, .ref (ρc 0)), (2, .ref (ρm1 0)), (3, .int (nI (5 * k)))] := by rw [e0]; exact hl
  refine lv_aload_n hx hb dL_455 rfl (lv_at hl2 2 rfl) ?_
  refine l_arg (j := 1) C hX hbl hL hk (by decide) (by decide) hl2 w1.2.2.2.2.2 dL_456 dL_457 dL_458 dL_459 dL_460 ?_
  refine l_arg (j := 2) C hX hbl hL hk (by decide) (by decide) hl2 w1.2.2.2.2.2 dL_461 dL_462 dL_463 dL_464 dL_465 ?_
  refine l_mi (As := [.int (xs (5 * k + 1)), .int (xs (5 * k + 2))]) (rest := [.int (q_root (xs (5 * k + 1)) (xs (5 * k + 2)) st).1]) (a := (q_root (xs (5 * k + 1)) (xs (5 * k + 2)) st).1) (st' := (q_root (xs (5 * k + 1)) (xs (5 * k + 2)) st).2) C w1 (q1.room (by omega)) qm (M_root (xs (5 * k + 1)) (xs (5 * k + 2)) qm) (fun v hE hf => metX10_root l G ρm1 hf) kcX10_root (tq q_1051 rfl) kiX10_root ksX10_root knX10_root kdX10_root rfl rfl ⟨Nat.le_of_ble_eq_true rfl, Nat.le_of_ble_eq_true rfl⟩ hl.1 (Nat.le_of_ble_eq_true rfl) dL_466 rfl (fun H2 locs2 hm2 qm2 w2 => ?_)
  refine lv_icmp_eq (tgt := 776) hx hb dL_469 (by decide) (fun c0 => ?_) (fun c0 => absurd rfl c0)
  exact nx H2 locs2 ρm1 hc1 hm2 _ q1 qm2 w2 e0
set_option maxHeartbeats 4000000 in
theorem lwc_formula {p : Program} {l : Launch} {e : Env} {s : State} {m : MethodId} {below : List Frame} {meth : Method} {c : Code} {G : GG} {nm : String} {b L : Nat} {xs : Nat → Int32} (C : Cx G "PairSymbolsLaw" code 4 ret nm p s m #[Value.ref b] meth c) (hX : va_X b L xs s s.heap) (hbl : b < s.heap.size) (hL : L ≤ 2560) {k : Nat} (hk : 5 * k + 4 < L) {ρc ρm : Nat → Nat} {hc hm : PH} {H : Heap} {locs : List Loc} {st : St} {ls : Array Slot} {Q : State → Prop} (hl : lv_has ls 4 [(0, .ref b), (1, .ref (ρc 0)), (2, .ref (ρm 0)), (3, .int (nI (5 * k)))]) (q : CR (20 * k) hc st) (qm : MR hm st) (w : LW G s ρc hc ρm hm H locs) (nx : ∀ (H1 : Heap) (locs1 : List Loc) (ρm1 : Nat → Nat) (hc1 hm1 : PH) (st1 : St), CR (20 * (k + 1)) hc1 st1 → MR hm1 st1 → LW G s ρc hc1 ρm1 hm1 H1 locs1 → ρm1 0 = ρm 0 → W p l e room_1 s m #[Value.ref b] below meth c H1 locs1 (hc1.length + 37) (sl hc1 + slM) Q (F0 m 776 ls [])) : W p l e room_1 s m #[Value.ref b] below meth c H locs (hc.length + 37) (sl hc + slM) Q (F0 m 474 ls []) := by
  obtain ⟨hx, hb, -⟩ := id C
  have hbk : 20 * k ≤ 90000 := by omega
  refine lv_aload_n hx hb dL_474 rfl (lv_at hl 1 rfl) ?_
  refine l_arg (j := 1) C hX hbl hL hk (by decide) (by decide) hl w.2.2.2.2.2 dL_475 dL_476 dL_477 dL_478 dL_479 ?_
  refine l_arg (j := 2) C hX hbl hL hk (by decide) (by decide) hl w.2.2.2.2.2 dL_480 dL_481 dL_482 dL_483 dL_484 ?_
  refine l_ci (bu' := 20 * (k + 1)) (As := [.int (xs (5 * k + 1)), .int (xs (5 * k + 2))]) (rest := []) (a := (q_formula (xs (5 * k + 1)) (xs (5 * k + 2)) st).1) (st' := (q_formula (xs (5 * k + 1)) (xs (5 * k + 2)) st).2) C w q qm (T_mono (C_formula (xs (5 * k + 1)) (xs (5 * k + 2)) q) fun v h' pp => ⟨pp.1, pp.2.mono (by omega)⟩) (by omega) (fun v hE hf => metX9_formula l G ρc hf) kcX9_formula (tq q_491 rfl) kiX9_formula ksX9_formula knX9_formula kdX9_formula rfl rfl ⟨Nat.le_of_ble_eq_true rfl, Nat.le_of_ble_eq_true rfl⟩ hl.1 (Nat.le_of_ble_eq_true rfl) dL_485 rfl (fun H1 locs1 ρm1 hc1 q1 w1 e0 => ?_)
  have hl2 : lv_has ls 4 [(0, .ref b), (1, .ref (ρc 0)), (2, .ref (ρm1 0)), (3, .int (nI (5 * k)))] := by rw [e0]; exact hl
  refine lv_aload_n hx hb dL_488 rfl (lv_at hl2 2 rfl) ?_
  refine l_arg (j := 1) C hX hbl hL hk (by decide) (by decide) hl2 w1.2.2.2.2.2 dL_489 dL_490 dL_491 dL_492 dL_493 ?_
  refine l_arg (j := 2) C hX hbl hL hk (by decide) (by decide) hl2 w1.2.2.2.2.2 dL_494 dL_495 dL_496 dL_497 dL_498 ?_
  refine l_mi (As := [.int (xs (5 * k + 1)), .int (xs (5 * k + 2))]) (rest := [.int (q_formula (xs (5 * k + 1)) (xs (5 * k + 2)) st).1]) (a := (q_formula (xs (5 * k + 1)) (xs (5 * k + 2)) st).1) (st' := (q_formula (xs (5 * k + 1)) (xs (5 * k + 2)) st).2) C w1 (q1.room (by omega)) qm (M_formula (xs (5 * k + 1)) (xs (5 * k + 2)) qm) (fun v hE hf => metX10_formula l G ρm1 hf) kcX10_formula (tq q_1061 rfl) kiX10_formula ksX10_formula knX10_formula kdX10_formula rfl rfl ⟨Nat.le_of_ble_eq_true rfl, Nat.le_of_ble_eq_true rfl⟩ hl.1 (Nat.le_of_ble_eq_true rfl) dL_499 rfl (fun H2 locs2 hm2 qm2 w2 => ?_)
  refine lv_icmp_eq (tgt := 776) hx hb dL_502 (by decide) (fun c0 => ?_) (fun c0 => absurd rfl c0)
  exact nx H2 locs2 ρm1 hc1 hm2 _ q1 qm2 w2 e0
set_option maxHeartbeats 4000000 in
theorem lwc_adds {p : Program} {l : Launch} {e : Env} {s : State} {m : MethodId} {below : List Frame} {meth : Method} {c : Code} {G : GG} {nm : String} {b L : Nat} {xs : Nat → Int32} (C : Cx G "PairSymbolsLaw" code 4 ret nm p s m #[Value.ref b] meth c) (hX : va_X b L xs s s.heap) (hbl : b < s.heap.size) (hL : L ≤ 2560) {k : Nat} (hk : 5 * k + 4 < L) {ρc ρm : Nat → Nat} {hc hm : PH} {H : Heap} {locs : List Loc} {st : St} {ls : Array Slot} {Q : State → Prop} (hl : lv_has ls 4 [(0, .ref b), (1, .ref (ρc 0)), (2, .ref (ρm 0)), (3, .int (nI (5 * k)))]) (q : CR (20 * k) hc st) (qm : MR hm st) (w : LW G s ρc hc ρm hm H locs) (nx : ∀ (H1 : Heap) (locs1 : List Loc) (ρm1 : Nat → Nat) (hc1 hm1 : PH) (st1 : St), CR (20 * (k + 1)) hc1 st1 → MR hm1 st1 → LW G s ρc hc1 ρm1 hm1 H1 locs1 → ρm1 0 = ρm 0 → W p l e room_1 s m #[Value.ref b] below meth c H1 locs1 (hc1.length + 37) (sl hc1 + slM) Q (F0 m 776 ls [])) : W p l e room_1 s m #[Value.ref b] below meth c H locs (hc.length + 37) (sl hc + slM) Q (F0 m 507 ls []) := by
  obtain ⟨hx, hb, -⟩ := id C
  have hbk : 20 * k ≤ 90000 := by omega
  refine lv_aload_n hx hb dL_507 rfl (lv_at hl 1 rfl) ?_
  refine l_arg (j := 1) C hX hbl hL hk (by decide) (by decide) hl w.2.2.2.2.2 dL_508 dL_509 dL_510 dL_511 dL_512 ?_
  refine l_arg (j := 2) C hX hbl hL hk (by decide) (by decide) hl w.2.2.2.2.2 dL_513 dL_514 dL_515 dL_516 dL_517 ?_
  refine l_ci (bu' := 20 * (k + 1)) (As := [.int (xs (5 * k + 1)), .int (xs (5 * k + 2))]) (rest := []) (a := (q_do (o_add (xs (5 * k + 1)) (xs (5 * k + 2)) st.1) st).1) (st' := (q_do (o_add (xs (5 * k + 1)) (xs (5 * k + 2)) st.1) st).2) C w q qm (T_mono (C_adds (xs (5 * k + 1)) (xs (5 * k + 2)) q) fun v h' pp => ⟨pp.1, pp.2.mono (by omega)⟩) (by omega) (fun v hE hf => metX9_adds l G ρc hf) kcX9_adds (tq q_533 rfl) kiX9_adds ksX9_adds knX9_adds kdX9_adds rfl rfl ⟨Nat.le_of_ble_eq_true rfl, Nat.le_of_ble_eq_true rfl⟩ hl.1 (Nat.le_of_ble_eq_true rfl) dL_518 rfl (fun H1 locs1 ρm1 hc1 q1 w1 e0 => ?_)
  have hl2 : lv_has ls 4 [(0, .ref b), (1, .ref (ρc 0)), (2, .ref (ρm1 0)), (3, .int (nI (5 * k)))] := by rw [e0]; exact hl
  refine lv_aload_n hx hb dL_521 rfl (lv_at hl2 2 rfl) ?_
  refine l_arg (j := 1) C hX hbl hL hk (by decide) (by decide) hl2 w1.2.2.2.2.2 dL_522 dL_523 dL_524 dL_525 dL_526 ?_
  refine l_arg (j := 2) C hX hbl hL hk (by decide) (by decide) hl2 w1.2.2.2.2.2 dL_527 dL_528 dL_529 dL_530 dL_531 ?_
  refine l_mi (As := [.int (xs (5 * k + 1)), .int (xs (5 * k + 2))]) (rest := [.int (q_do (o_add (xs (5 * k + 1)) (xs (5 * k + 2)) st.1) st).1]) (a := (q_do (o_add (xs (5 * k + 1)) (xs (5 * k + 2)) st.1) st).1) (st' := (q_do (o_add (xs (5 * k + 1)) (xs (5 * k + 2)) st.1) st).2) C w1 (q1.room (by omega)) qm (M_adds (xs (5 * k + 1)) (xs (5 * k + 2)) qm) (fun v hE hf => metX10_adds l G ρm1 hf) kcX10_adds (tq q_1090 rfl) kiX10_adds ksX10_adds knX10_adds kdX10_adds rfl rfl ⟨Nat.le_of_ble_eq_true rfl, Nat.le_of_ble_eq_true rfl⟩ hl.1 (Nat.le_of_ble_eq_true rfl) dL_532 rfl (fun H2 locs2 hm2 qm2 w2 => ?_)
  refine lv_icmp_eq (tgt := 776) hx hb dL_535 (by decide) (fun c0 => ?_) (fun c0 => absurd rfl c0)
  exact nx H2 locs2 ρm1 hc1 hm2 _ q1 qm2 w2 e0
set_option maxHeartbeats 4000000 in
theorem lwc_applies {p : Program} {l : Launch} {e : Env} {s : State} {m : MethodId} {below : List Frame} {meth : Method} {c : Code} {G : GG} {nm : String} {b L : Nat} {xs : Nat → Int32} (C : Cx G "PairSymbolsLaw" code 4 ret nm p s m #[Value.ref b] meth c) (hX : va_X b L xs s s.heap) (hbl : b < s.heap.size) (hL : L ≤ 2560) {k : Nat} (hk : 5 * k + 4 < L) {ρc ρm : Nat → Nat} {hc hm : PH} {H : Heap} {locs : List Loc} {st : St} {ls : Array Slot} {Q : State → Prop} (hl : lv_has ls 4 [(0, .ref b), (1, .ref (ρc 0)), (2, .ref (ρm 0)), (3, .int (nI (5 * k)))]) (q : CR (20 * k) hc st) (qm : MR hm st) (w : LW G s ρc hc ρm hm H locs) (nx : ∀ (H1 : Heap) (locs1 : List Loc) (ρm1 : Nat → Nat) (hc1 hm1 : PH) (st1 : St), CR (20 * (k + 1)) hc1 st1 → MR hm1 st1 → LW G s ρc hc1 ρm1 hm1 H1 locs1 → ρm1 0 = ρm 0 → W p l e room_1 s m #[Value.ref b] below meth c H1 locs1 (hc1.length + 37) (sl hc1 + slM) Q (F0 m 776 ls [])) : W p l e room_1 s m #[Value.ref b] below meth c H locs (hc.length + 37) (sl hc + slM) Q (F0 m 540 ls []) := by
  obtain ⟨hx, hb, -⟩ := id C
  have hbk : 20 * k ≤ 90000 := by omega
  refine lv_aload_n hx hb dL_540 rfl (lv_at hl 1 rfl) ?_
  refine l_arg (j := 1) C hX hbl hL hk (by decide) (by decide) hl w.2.2.2.2.2 dL_541 dL_542 dL_543 dL_544 dL_545 ?_
  refine l_ci (bu' := 20 * (k + 1)) (As := [.int (xs (5 * k + 1))]) (rest := []) (a := (q_do (o_apply (xs (5 * k + 1)) st.1) st).1) (st' := (q_do (o_apply (xs (5 * k + 1)) st.1) st).2) C w q qm (T_mono (C_applies (by omega) (xs (5 * k + 1)) q) fun v h' pp => ⟨pp.1, pp.2.mono (by omega)⟩) (by omega) (fun v hE hf => metX9_applies l G ρc hf) kcX9_applies (tq q_553 rfl) kiX9_applies ksX9_applies knX9_applies kdX9_applies rfl rfl ⟨Nat.le_of_ble_eq_true rfl, Nat.le_of_ble_eq_true rfl⟩ hl.1 (Nat.le_of_ble_eq_true rfl) dL_546 rfl (fun H1 locs1 ρm1 hc1 q1 w1 e0 => ?_)
  have hl2 : lv_has ls 4 [(0, .ref b), (1, .ref (ρc 0)), (2, .ref (ρm1 0)), (3, .int (nI (5 * k)))] := by rw [e0]; exact hl
  refine lv_aload_n hx hb dL_549 rfl (lv_at hl2 2 rfl) ?_
  refine l_arg (j := 1) C hX hbl hL hk (by decide) (by decide) hl2 w1.2.2.2.2.2 dL_550 dL_551 dL_552 dL_553 dL_554 ?_
  refine l_mi (As := [.int (xs (5 * k + 1))]) (rest := [.int (q_do (o_apply (xs (5 * k + 1)) st.1) st).1]) (a := (q_do (o_apply (xs (5 * k + 1)) st.1) st).1) (st' := (q_do (o_apply (xs (5 * k + 1)) st.1) st).2) C w1 (q1.room (by omega)) qm (M_applies (xs (5 * k + 1)) qm) (fun v hE hf => metX10_applies l G ρm1 hf) kcX10_applies (tq q_1118 rfl) kiX10_applies ksX10_applies knX10_applies kdX10_applies rfl rfl ⟨Nat.le_of_ble_eq_true rfl, Nat.le_of_ble_eq_true rfl⟩ hl.1 (Nat.le_of_ble_eq_true rfl) dL_555 rfl (fun H2 locs2 hm2 qm2 w2 => ?_)
  refine lv_icmp_eq (tgt := 776) hx hb dL_558 (by decide) (fun c0 => ?_) (fun c0 => absurd rfl c0)
  exact nx H2 locs2 ρm1 hc1 hm2 _ q1 qm2 w2 e0
set_option maxHeartbeats 4000000 in
theorem lwc_walks {p : Program} {l : Launch} {e : Env} {s : State} {m : MethodId} {below : List Frame} {meth : Method} {c : Code} {G : GG} {nm : String} {b L : Nat} {xs : Nat → Int32} (C : Cx G "PairSymbolsLaw" code 4 ret nm p s m #[Value.ref b] meth c) (hX : va_X b L xs s s.heap) (hbl : b < s.heap.size) (hL : L ≤ 2560) {k : Nat} (hk : 5 * k + 4 < L) {ρc ρm : Nat → Nat} {hc hm : PH} {H : Heap} {locs : List Loc} {st : St} {ls : Array Slot} {Q : State → Prop} (hl : lv_has ls 4 [(0, .ref b), (1, .ref (ρc 0)), (2, .ref (ρm 0)), (3, .int (nI (5 * k)))]) (q : CR (20 * k) hc st) (qm : MR hm st) (w : LW G s ρc hc ρm hm H locs) (nx : ∀ (H1 : Heap) (locs1 : List Loc) (ρm1 : Nat → Nat) (hc1 hm1 : PH) (st1 : St), CR (20 * (k + 1)) hc1 st1 → MR hm1 st1 → LW G s ρc hc1 ρm1 hm1 H1 locs1 → ρm1 0 = ρm 0 → W p l e room_1 s m #[Value.ref b] below meth c H1 locs1 (hc1.length + 37) (sl hc1 + slM) Q (F0 m 776 ls [])) : W p l e room_1 s m #[Value.ref b] below meth c H locs (hc.length + 37) (sl hc + slM) Q (F0 m 563 ls []) := by
  obtain ⟨hx, hb, -⟩ := id C
  have hbk : 20 * k ≤ 90000 := by omega
  refine lv_aload_n hx hb dL_563 rfl (lv_at hl 1 rfl) ?_
  refine l_arg (j := 1) C hX hbl hL hk (by decide) (by decide) hl w.2.2.2.2.2 dL_564 dL_565 dL_566 dL_567 dL_568 ?_
  refine l_arg (j := 2) C hX hbl hL hk (by decide) (by decide) hl w.2.2.2.2.2 dL_569 dL_570 dL_571 dL_572 dL_573 ?_
  refine l_ci (bu' := 20 * (k + 1)) (As := [.int (xs (5 * k + 1)), .int (xs (5 * k + 2))]) (rest := []) (a := (q_do (o_walk (xs (5 * k + 1)) (xs (5 * k + 2)) st.1) st).1) (st' := (q_do (o_walk (xs (5 * k + 1)) (xs (5 * k + 2)) st.1) st).2) C w q qm (T_mono (C_walks (xs (5 * k + 1)) (xs (5 * k + 2)) q) fun v h' pp => ⟨pp.1, pp.2.mono (by omega)⟩) (by omega) (fun v hE hf => metX9_walks l G ρc hf) kcX9_walks (tq q_567 rfl) kiX9_walks ksX9_walks knX9_walks kdX9_walks rfl rfl ⟨Nat.le_of_ble_eq_true rfl, Nat.le_of_ble_eq_true rfl⟩ hl.1 (Nat.le_of_ble_eq_true rfl) dL_574 rfl (fun H1 locs1 ρm1 hc1 q1 w1 e0 => ?_)
  have hl2 : lv_has ls 4 [(0, .ref b), (1, .ref (ρc 0)), (2, .ref (ρm1 0)), (3, .int (nI (5 * k)))] := by rw [e0]; exact hl
  refine lv_aload_n hx hb dL_577 rfl (lv_at hl2 2 rfl) ?_
  refine l_arg (j := 1) C hX hbl hL hk (by decide) (by decide) hl2 w1.2.2.2.2.2 dL_578 dL_579 dL_580 dL_581 dL_582 ?_
  refine l_arg (j := 2) C hX hbl hL hk (by decide) (by decide) hl2 w1.2.2.2.2.2 dL_583 dL_584 dL_585 dL_586 dL_587 ?_
  refine l_mi (As := [.int (xs (5 * k + 1)), .int (xs (5 * k + 2))]) (rest := [.int (q_do (o_walk (xs (5 * k + 1)) (xs (5 * k + 2)) st.1) st).1]) (a := (q_do (o_walk (xs (5 * k + 1)) (xs (5 * k + 2)) st.1) st).1) (st' := (q_do (o_walk (xs (5 * k + 1)) (xs (5 * k + 2)) st.1) st).2) C w1 (q1.room (by omega)) qm (M_walks (xs (5 * k + 1)) (xs (5 * k + 2)) qm) (fun v hE hf => metX10_walks l G ρm1 hf) kcX10_walks (tq q_1126 rfl) kiX10_walks ksX10_walks knX10_walks kdX10_walks rfl rfl ⟨Nat.le_of_ble_eq_true rfl, Nat.le_of_ble_eq_true rfl⟩ hl.1 (Nat.le_of_ble_eq_true rfl) dL_588 rfl (fun H2 locs2 hm2 qm2 w2 => ?_)
  refine lv_icmp_eq (tgt := 776) hx hb dL_591 (by decide) (fun c0 => ?_) (fun c0 => absurd rfl c0)
  exact nx H2 locs2 ρm1 hc1 hm2 _ q1 qm2 w2 e0
set_option maxHeartbeats 4000000 in
theorem lwc_sum {p : Program} {l : Launch} {e : Env} {s : State} {m : MethodId} {below : List Frame} {meth : Method} {c : Code} {G : GG} {nm : String} {b L : Nat} {xs : Nat → Int32} (C : Cx G "PairSymbolsLaw" code 4 ret nm p s m #[Value.ref b] meth c) (hX : va_X b L xs s s.heap) (hbl : b < s.heap.size) (hL : L ≤ 2560) {k : Nat} (hk : 5 * k + 4 < L) {ρc ρm : Nat → Nat} {hc hm : PH} {H : Heap} {locs : List Loc} {st : St} {ls : Array Slot} {Q : State → Prop} (hl : lv_has ls 4 [(0, .ref b), (1, .ref (ρc 0)), (2, .ref (ρm 0)), (3, .int (nI (5 * k)))]) (q : CR (20 * k) hc st) (qm : MR hm st) (w : LW G s ρc hc ρm hm H locs) (nx : ∀ (H1 : Heap) (locs1 : List Loc) (ρm1 : Nat → Nat) (hc1 hm1 : PH) (st1 : St), CR (20 * (k + 1)) hc1 st1 → MR hm1 st1 → LW G s ρc hc1 ρm1 hm1 H1 locs1 → ρm1 0 = ρm 0 → W p l e room_1 s m #[Value.ref b] below meth c H1 locs1 (hc1.length + 37) (sl hc1 + slM) Q (F0 m 776 ls [])) : W p l e room_1 s m #[Value.ref b] below meth c H locs (hc.length + 37) (sl hc + slM) Q (F0 m 596 ls []) := by
  obtain ⟨hx, hb, -⟩ := id C
  have hbk : 20 * k ≤ 90000 := by omega
  refine lv_aload_n hx hb dL_596 rfl (lv_at hl 1 rfl) ?_
  refine l_arg (j := 1) C hX hbl hL hk (by decide) (by decide) hl w.2.2.2.2.2 dL_597 dL_598 dL_599 dL_600 dL_601 ?_
  refine l_arg (j := 2) C hX hbl hL hk (by decide) (by decide) hl w.2.2.2.2.2 dL_602 dL_603 dL_604 dL_605 dL_606 ?_
  refine l_cl (bu' := 20 * (k + 1)) (As := [.int (xs (5 * k + 1)), .int (xs (5 * k + 2))]) (rest := []) (a := (q_sum (xs (5 * k + 1)) (xs (5 * k + 2)) st).1) (st' := (q_sum (xs (5 * k + 1)) (xs (5 * k + 2)) st).2) C w q qm (T_mono (C_sum (xs (5 * k + 1)) (xs (5 * k + 2)) q) fun v h' pp => ⟨pp.1, pp.2.mono (by omega)⟩) (by omega) (fun v hE hf => metX9_sum l G ρc hf) kcX9_sum (tq q_576 rfl) kiX9_sum ksX9_sum knX9_sum kdX9_sum rfl rfl ⟨Nat.le_of_ble_eq_true rfl, Nat.le_of_ble_eq_true rfl⟩ hl.1 (Nat.le_of_ble_eq_true rfl) dL_607 rfl (fun H1 locs1 ρm1 hc1 q1 w1 e0 => ?_)
  have hl2 : lv_has ls 4 [(0, .ref b), (1, .ref (ρc 0)), (2, .ref (ρm1 0)), (3, .int (nI (5 * k)))] := by rw [e0]; exact hl
  refine lv_aload_n hx hb dL_610 rfl (lv_at hl2 2 rfl) ?_
  refine l_arg (j := 1) C hX hbl hL hk (by decide) (by decide) hl2 w1.2.2.2.2.2 dL_611 dL_612 dL_613 dL_614 dL_615 ?_
  refine l_arg (j := 2) C hX hbl hL hk (by decide) (by decide) hl2 w1.2.2.2.2.2 dL_616 dL_617 dL_618 dL_619 dL_620 ?_
  refine l_ml (As := [.int (xs (5 * k + 1)), .int (xs (5 * k + 2))]) (rest := [.long (q_sum (xs (5 * k + 1)) (xs (5 * k + 2)) st).1]) (a := (q_sum (xs (5 * k + 1)) (xs (5 * k + 2)) st).1) (st' := (q_sum (xs (5 * k + 1)) (xs (5 * k + 2)) st).2) C w1 (q1.room (by omega)) qm (M_sum (xs (5 * k + 1)) (xs (5 * k + 2)) qm) (fun v hE hf => metX10_sum l G ρm1 hf) kcX10_sum (tq q_1135 rfl) kiX10_sum ksX10_sum knX10_sum kdX10_sum rfl rfl ⟨Nat.le_of_ble_eq_true rfl, Nat.le_of_ble_eq_true rfl⟩ hl.1 (Nat.le_of_ble_eq_true rfl) dL_621 rfl (fun H2 locs2 hm2 qm2 w2 => ?_)
  refine W.lcmp hx hb dL_624 ?_
  refine lv_if_eq (tgt := 776) hx hb dL_625 (by decide) (fun c0 => ?_) (fun c0 => absurd (lg_cmp_self _) c0)
  exact nx H2 locs2 ρm1 hc1 hm2 _ q1 qm2 w2 e0
set_option maxHeartbeats 4000000 in
theorem lwc_boundary {p : Program} {l : Launch} {e : Env} {s : State} {m : MethodId} {below : List Frame} {meth : Method} {c : Code} {G : GG} {nm : String} {b L : Nat} {xs : Nat → Int32} (C : Cx G "PairSymbolsLaw" code 4 ret nm p s m #[Value.ref b] meth c) (hX : va_X b L xs s s.heap) (hbl : b < s.heap.size) (hL : L ≤ 2560) {k : Nat} (hk : 5 * k + 4 < L) {ρc ρm : Nat → Nat} {hc hm : PH} {H : Heap} {locs : List Loc} {st : St} {ls : Array Slot} {Q : State → Prop} (hl : lv_has ls 4 [(0, .ref b), (1, .ref (ρc 0)), (2, .ref (ρm 0)), (3, .int (nI (5 * k)))]) (q : CR (20 * k) hc st) (qm : MR hm st) (w : LW G s ρc hc ρm hm H locs) (nx : ∀ (H1 : Heap) (locs1 : List Loc) (ρm1 : Nat → Nat) (hc1 hm1 : PH) (st1 : St), CR (20 * (k + 1)) hc1 st1 → MR hm1 st1 → LW G s ρc hc1 ρm1 hm1 H1 locs1 → ρm1 0 = ρm 0 → W p l e room_1 s m #[Value.ref b] below meth c H1 locs1 (hc1.length + 37) (sl hc1 + slM) Q (F0 m 776 ls [])) : W p l e room_1 s m #[Value.ref b] below meth c H locs (hc.length + 37) (sl hc + slM) Q (F0 m 630 ls []) := by
  obtain ⟨hx, hb, -⟩ := id C
  have hbk : 20 * k ≤ 90000 := by omega
  refine lv_aload_n hx hb dL_630 rfl (lv_at hl 1 rfl) ?_
  refine l_arg (j := 1) C hX hbl hL hk (by decide) (by decide) hl w.2.2.2.2.2 dL_631 dL_632 dL_633 dL_634 dL_635 ?_
  refine l_arg (j := 2) C hX hbl hL hk (by decide) (by decide) hl w.2.2.2.2.2 dL_636 dL_637 dL_638 dL_639 dL_640 ?_
  refine l_cl (bu' := 20 * (k + 1)) (As := [.int (xs (5 * k + 1)), .int (xs (5 * k + 2))]) (rest := []) (a := (q_boundary (xs (5 * k + 1)) (xs (5 * k + 2)) st).1) (st' := (q_boundary (xs (5 * k + 1)) (xs (5 * k + 2)) st).2) C w q qm (T_mono (C_boundary (xs (5 * k + 1)) (xs (5 * k + 2)) q) fun v h' pp => ⟨pp.1, pp.2.mono (by omega)⟩) (by omega) (fun v hE hf => metX9_boundary l G ρc hf) kcX9_boundary (tq q_580 rfl) kiX9_boundary ksX9_boundary knX9_boundary kdX9_boundary rfl rfl ⟨Nat.le_of_ble_eq_true rfl, Nat.le_of_ble_eq_true rfl⟩ hl.1 (Nat.le_of_ble_eq_true rfl) dL_641 rfl (fun H1 locs1 ρm1 hc1 q1 w1 e0 => ?_)
  have hl2 : lv_has ls 4 [(0, .ref b), (1, .ref (ρc 0)), (2, .ref (ρm1 0)), (3, .int (nI (5 * k)))] := by rw [e0]; exact hl
  refine lv_aload_n hx hb dL_644 rfl (lv_at hl2 2 rfl) ?_
  refine l_arg (j := 1) C hX hbl hL hk (by decide) (by decide) hl2 w1.2.2.2.2.2 dL_645 dL_646 dL_647 dL_648 dL_649 ?_
  refine l_arg (j := 2) C hX hbl hL hk (by decide) (by decide) hl2 w1.2.2.2.2.2 dL_650 dL_651 dL_652 dL_653 dL_654 ?_
  refine l_ml (As := [.int (xs (5 * k + 1)), .int (xs (5 * k + 2))]) (rest := [.long (q_boundary (xs (5 * k + 1)) (xs (5 * k + 2)) st).1]) (a := (q_boundary (xs (5 * k + 1)) (xs (5 * k + 2)) st).1) (st' := (q_boundary (xs (5 * k + 1)) (xs (5 * k + 2)) st).2) C w1 (q1.room (by omega)) qm (M_boundary (xs (5 * k + 1)) (xs (5 * k + 2)) qm) (fun v hE hf => metX10_boundary l G ρm1 hf) kcX10_boundary (tq q_1139 rfl) kiX10_boundary ksX10_boundary knX10_boundary kdX10_boundary rfl rfl ⟨Nat.le_of_ble_eq_true rfl, Nat.le_of_ble_eq_true rfl⟩ hl.1 (Nat.le_of_ble_eq_true rfl) dL_655 rfl (fun H2 locs2 hm2 qm2 w2 => ?_)
  refine W.lcmp hx hb dL_658 ?_
  refine lv_if_eq (tgt := 776) hx hb dL_659 (by decide) (fun c0 => ?_) (fun c0 => absurd (lg_cmp_self _) c0)
  exact nx H2 locs2 ρm1 hc1 hm2 _ q1 qm2 w2 e0
set_option maxHeartbeats 4000000 in
theorem lwc_cuspidal {p : Program} {l : Launch} {e : Env} {s : State} {m : MethodId} {below : List Frame} {meth : Method} {c : Code} {G : GG} {nm : String} {b L : Nat} {xs : Nat → Int32} (C : Cx G "PairSymbolsLaw" code 4 ret nm p s m #[Value.ref b] meth c) (hX : va_X b L xs s s.heap) (hbl : b < s.heap.size) (hL : L ≤ 2560) {k : Nat} (hk : 5 * k + 4 < L) {ρc ρm : Nat → Nat} {hc hm : PH} {H : Heap} {locs : List Loc} {st : St} {ls : Array Slot} {Q : State → Prop} (hl : lv_has ls 4 [(0, .ref b), (1, .ref (ρc 0)), (2, .ref (ρm 0)), (3, .int (nI (5 * k)))]) (q : CR (20 * k) hc st) (qm : MR hm st) (w : LW G s ρc hc ρm hm H locs) (nx : ∀ (H1 : Heap) (locs1 : List Loc) (ρm1 : Nat → Nat) (hc1 hm1 : PH) (st1 : St), CR (20 * (k + 1)) hc1 st1 → MR hm1 st1 → LW G s ρc hc1 ρm1 hm1 H1 locs1 → ρm1 0 = ρm 0 → W p l e room_1 s m #[Value.ref b] below meth c H1 locs1 (hc1.length + 37) (sl hc1 + slM) Q (F0 m 776 ls [])) : W p l e room_1 s m #[Value.ref b] below meth c H locs (hc.length + 37) (sl hc + slM) Q (F0 m 664 ls []) := by
  obtain ⟨hx, hb, -⟩ := id C
  have hbk : 20 * k ≤ 90000 := by omega
  refine lv_aload_n hx hb dL_664 rfl (lv_at hl 1 rfl) ?_
  refine l_ci (bu' := 20 * (k + 1)) (As := []) (rest := []) (a := (q_cuspidal st).1) (st' := (q_cuspidal st).2) C w q qm (T_mono (C_cuspidal  q) fun v h' pp => ⟨pp.1, pp.2.mono (by omega)⟩) (by omega) (fun v hE hf => metX9_cuspidal l G ρc hf) kcX9_cuspidal (tq q_589 rfl) kiX9_cuspidal ksX9_cuspidal knX9_cuspidal kdX9_cuspidal rfl rfl ⟨Nat.le_of_ble_eq_true rfl, Nat.le_of_ble_eq_true rfl⟩ hl.1 (Nat.le_of_ble_eq_true rfl) dL_665 rfl (fun H1 locs1 ρm1 hc1 q1 w1 e0 => ?_)
  have hl2 : lv_has ls 4 [(0, .ref b), (1, .ref (ρc 0)), (2, .ref (ρm1 0)), (3, .int (nI (5 * k)))] := by rw [e0]; exact hl
  refine lv_aload_n hx hb dL_668 rfl (lv_at hl2 2 rfl) ?_
  refine l_mi (As := []) (rest := [.int (q_cuspidal st).1]) (a := (q_cuspidal st).1) (st' := (q_cuspidal st).2) C w1 (q1.room (by omega)) qm (M_cuspidal qm) (fun v hE hf => metX10_cuspidal l G ρm1 hf) kcX10_cuspidal (tq q_1147 rfl) kiX10_cuspidal ksX10_cuspidal knX10_cuspidal kdX10_cuspidal rfl rfl ⟨Nat.le_of_ble_eq_true rfl, Nat.le_of_ble_eq_true rfl⟩ hl.1 (Nat.le_of_ble_eq_true rfl) dL_669 rfl (fun H2 locs2 hm2 qm2 w2 => ?_)
  refine lv_icmp_eq (tgt := 776) hx hb dL_672 (by decide) (fun c0 => ?_) (fun c0 => absurd rfl c0)
  exact nx H2 locs2 ρm1 hc1 hm2 _ q1 qm2 w2 e0
set_option maxHeartbeats 4000000 in
theorem lwc_type {p : Program} {l : Launch} {e : Env} {s : State} {m : MethodId} {below : List Frame} {meth : Method} {c : Code} {G : GG} {nm : String} {b L : Nat} {xs : Nat → Int32} (C : Cx G "PairSymbolsLaw" code 4 ret nm p s m #[Value.ref b] meth c) (hX : va_X b L xs s s.heap) (hbl : b < s.heap.size) (hL : L ≤ 2560) {k : Nat} (hk : 5 * k + 4 < L) {ρc ρm : Nat → Nat} {hc hm : PH} {H : Heap} {locs : List Loc} {st : St} {ls : Array Slot} {Q : State → Prop} (hl : lv_has ls 4 [(0, .ref b), (1, .ref (ρc 0)), (2, .ref (ρm 0)), (3, .int (nI (5 * k)))]) (q : CR (20 * k) hc st) (qm : MR hm st) (w : LW G s ρc hc ρm hm H locs) (nx : ∀ (H1 : Heap) (locs1 : List Loc) (ρm1 : Nat → Nat) (hc1 hm1 : PH) (st1 : St), CR (20 * (k + 1)) hc1 st1 → MR hm1 st1 → LW G s ρc hc1 ρm1 hm1 H1 locs1 → ρm1 0 = ρm 0 → W p l e room_1 s m #[Value.ref b] below meth c H1 locs1 (hc1.length + 37) (sl hc1 + slM) Q (F0 m 776 ls [])) : W p l e room_1 s m #[Value.ref b] below meth c H locs (hc.length + 37) (sl hc + slM) Q (F0 m 677 ls []) := by
  obtain ⟨hx, hb, -⟩ := id C
  have hbk : 20 * k ≤ 90000 := by omega
  refine lv_aload_n hx hb dL_677 rfl (lv_at hl 1 rfl) ?_
  refine l_arg (j := 1) C hX hbl hL hk (by decide) (by decide) hl w.2.2.2.2.2 dL_678 dL_679 dL_680 dL_681 dL_682 ?_
  refine l_ci (bu' := 20 * (k + 1)) (As := [.int (xs (5 * k + 1))]) (rest := []) (a := (q_type (xs (5 * k + 1)) st).1) (st' := (q_type (xs (5 * k + 1)) st).2) C w q qm (T_mono (C_type (xs (5 * k + 1)) q) fun v h' pp => ⟨pp.1, pp.2.mono (by omega)⟩) (by omega) (fun v hE hf => metX9_type l G ρc hf) kcX9_type (tq q_593 rfl) kiX9_type ksX9_type knX9_type kdX9_type rfl rfl ⟨Nat.le_of_ble_eq_true rfl, Nat.le_of_ble_eq_true rfl⟩ hl.1 (Nat.le_of_ble_eq_true rfl) dL_683 rfl (fun H1 locs1 ρm1 hc1 q1 w1 e0 => ?_)
  have hl2 : lv_has ls 4 [(0, .ref b), (1, .ref (ρc 0)), (2, .ref (ρm1 0)), (3, .int (nI (5 * k)))] := by rw [e0]; exact hl
  refine lv_aload_n hx hb dL_686 rfl (lv_at hl2 2 rfl) ?_
  refine l_arg (j := 1) C hX hbl hL hk (by decide) (by decide) hl2 w1.2.2.2.2.2 dL_687 dL_688 dL_689 dL_690 dL_691 ?_
  refine l_mi (As := [.int (xs (5 * k + 1))]) (rest := [.int (q_type (xs (5 * k + 1)) st).1]) (a := (q_type (xs (5 * k + 1)) st).1) (st' := (q_type (xs (5 * k + 1)) st).2) C w1 (q1.room (by omega)) qm (M_type (xs (5 * k + 1)) qm) (fun v hE hf => metX10_type l G ρm1 hf) kcX10_type (tq q_1155 rfl) kiX10_type ksX10_type knX10_type kdX10_type rfl rfl ⟨Nat.le_of_ble_eq_true rfl, Nat.le_of_ble_eq_true rfl⟩ hl.1 (Nat.le_of_ble_eq_true rfl) dL_692 rfl (fun H2 locs2 hm2 qm2 w2 => ?_)
  refine lv_icmp_eq (tgt := 776) hx hb dL_695 (by decide) (fun c0 => ?_) (fun c0 => absurd rfl c0)
  exact nx H2 locs2 ρm1 hc1 hm2 _ q1 qm2 w2 e0
set_option maxHeartbeats 4000000 in
theorem lwc_clear {p : Program} {l : Launch} {e : Env} {s : State} {m : MethodId} {below : List Frame} {meth : Method} {c : Code} {G : GG} {nm : String} {b L : Nat} {xs : Nat → Int32} (C : Cx G "PairSymbolsLaw" code 4 ret nm p s m #[Value.ref b] meth c) (hX : va_X b L xs s s.heap) (hbl : b < s.heap.size) (hL : L ≤ 2560) {k : Nat} (hk : 5 * k + 4 < L) {ρc ρm : Nat → Nat} {hc hm : PH} {H : Heap} {locs : List Loc} {st : St} {ls : Array Slot} {Q : State → Prop} (hl : lv_has ls 4 [(0, .ref b), (1, .ref (ρc 0)), (2, .ref (ρm 0)), (3, .int (nI (5 * k)))]) (q : CR (20 * k) hc st) (qm : MR hm st) (w : LW G s ρc hc ρm hm H locs) (nx : ∀ (H1 : Heap) (locs1 : List Loc) (ρm1 : Nat → Nat) (hc1 hm1 : PH) (st1 : St), CR (20 * (k + 1)) hc1 st1 → MR hm1 st1 → LW G s ρc hc1 ρm1 hm1 H1 locs1 → ρm1 0 = ρm 0 → W p l e room_1 s m #[Value.ref b] below meth c H1 locs1 (hc1.length + 37) (sl hc1 + slM) Q (F0 m 776 ls [])) : W p l e room_1 s m #[Value.ref b] below meth c H locs (hc.length + 37) (sl hc + slM) Q (F0 m 700 ls []) := by
  obtain ⟨hx, hb, -⟩ := id C
  have hbk : 20 * k ≤ 90000 := by omega
  refine lv_aload_n hx hb dL_700 rfl (lv_at hl 1 rfl) ?_
  refine l_ci (bu' := 20 * (k + 1)) (As := []) (rest := []) (a := (q_clear st).1) (st' := (q_clear st).2) C w q qm (T_mono (C_clear  q) fun v h' pp => ⟨pp.1, pp.2.mono (by omega)⟩) (by omega) (fun v hE hf => metX9_clear l G ρc hf) kcX9_clear (tq q_601 rfl) kiX9_clear ksX9_clear knX9_clear kdX9_clear rfl rfl ⟨Nat.le_of_ble_eq_true rfl, Nat.le_of_ble_eq_true rfl⟩ hl.1 (Nat.le_of_ble_eq_true rfl) dL_701 rfl (fun H1 locs1 ρm1 hc1 q1 w1 e0 => ?_)
  have hl2 : lv_has ls 4 [(0, .ref b), (1, .ref (ρc 0)), (2, .ref (ρm1 0)), (3, .int (nI (5 * k)))] := by rw [e0]; exact hl
  refine lv_aload_n hx hb dL_704 rfl (lv_at hl2 2 rfl) ?_
  refine l_mi (As := []) (rest := [.int (q_clear st).1]) (a := (q_clear st).1) (st' := (q_clear st).2) C w1 (q1.room (by omega)) qm (M_clear qm) (fun v hE hf => metX10_clear l G ρm1 hf) kcX10_clear (tq q_1160 rfl) kiX10_clear ksX10_clear knX10_clear kdX10_clear rfl rfl ⟨Nat.le_of_ble_eq_true rfl, Nat.le_of_ble_eq_true rfl⟩ hl.1 (Nat.le_of_ble_eq_true rfl) dL_705 rfl (fun H2 locs2 hm2 qm2 w2 => ?_)
  refine lv_icmp_eq (tgt := 776) hx hb dL_708 (by decide) (fun c0 => ?_) (fun c0 => absurd rfl c0)
  exact nx H2 locs2 ρm1 hc1 hm2 _ q1 qm2 w2 e0
set_option maxHeartbeats 4000000 in
theorem lwc_reads {p : Program} {l : Launch} {e : Env} {s : State} {m : MethodId} {below : List Frame} {meth : Method} {c : Code} {G : GG} {nm : String} {b L : Nat} {xs : Nat → Int32} (C : Cx G "PairSymbolsLaw" code 4 ret nm p s m #[Value.ref b] meth c) (hX : va_X b L xs s s.heap) (hbl : b < s.heap.size) (hL : L ≤ 2560) {k : Nat} (hk : 5 * k + 4 < L) {ρc ρm : Nat → Nat} {hc hm : PH} {H : Heap} {locs : List Loc} {st : St} {ls : Array Slot} {Q : State → Prop} (hl : lv_has ls 4 [(0, .ref b), (1, .ref (ρc 0)), (2, .ref (ρm 0)), (3, .int (nI (5 * k)))]) (q : CR (20 * k) hc st) (qm : MR hm st) (w : LW G s ρc hc ρm hm H locs) (nx : ∀ (H1 : Heap) (locs1 : List Loc) (ρm1 : Nat → Nat) (hc1 hm1 : PH) (st1 : St), CR (20 * (k + 1)) hc1 st1 → MR hm1 st1 → LW G s ρc hc1 ρm1 hm1 H1 locs1 → ρm1 0 = ρm 0 → W p l e room_1 s m #[Value.ref b] below meth c H1 locs1 (hc1.length + 37) (sl hc1 + slM) Q (F0 m 776 ls [])) : W p l e room_1 s m #[Value.ref b] below meth c H locs (hc.length + 37) (sl hc + slM) Q (F0 m 713 ls []) := by
  obtain ⟨hx, hb, -⟩ := id C
  have hbk : 20 * k ≤ 90000 := by omega
  refine lv_aload_n hx hb dL_713 rfl (lv_at hl 1 rfl) ?_
  refine l_ci (bu' := 20 * (k + 1)) (As := []) (rest := []) (a := (q_reads st).1) (st' := (q_reads st).2) C w q qm (T_mono (C_reads (by omega)  q) fun v h' pp => ⟨pp.1, pp.2.mono (by omega)⟩) (by omega) (fun v hE hf => metX9_reads l G ρc hf) kcX9_reads (tq q_605 rfl) kiX9_reads ksX9_reads knX9_reads kdX9_reads rfl rfl ⟨Nat.le_of_ble_eq_true rfl, Nat.le_of_ble_eq_true rfl⟩ hl.1 (Nat.le_of_ble_eq_true rfl) dL_714 rfl (fun H1 locs1 ρm1 hc1 q1 w1 e0 => ?_)
  have hl2 : lv_has ls 4 [(0, .ref b), (1, .ref (ρc 0)), (2, .ref (ρm1 0)), (3, .int (nI (5 * k)))] := by rw [e0]; exact hl
  refine lv_aload_n hx hb dL_717 rfl (lv_at hl2 2 rfl) ?_
  refine l_mi (As := []) (rest := [.int (q_reads st).1]) (a := (q_reads st).1) (st' := (q_reads st).2) C w1 (q1.room (by omega)) qm (M_reads qm (txt_rg q)) (fun v hE hf => metX10_reads l G ρm1 hf) kcX10_reads (tq q_1164 rfl) kiX10_reads ksX10_reads knX10_reads kdX10_reads rfl rfl ⟨Nat.le_of_ble_eq_true rfl, Nat.le_of_ble_eq_true rfl⟩ hl.1 (Nat.le_of_ble_eq_true rfl) dL_718 rfl (fun H2 locs2 hm2 qm2 w2 => ?_)
  refine lv_icmp_eq (tgt := 776) hx hb dL_721 (by decide) (fun c0 => ?_) (fun c0 => absurd rfl c0)
  exact nx H2 locs2 ρm1 hc1 hm2 _ q1 qm2 w2 e0
set_option maxHeartbeats 4000000 in
theorem lwc_back {p : Program} {l : Launch} {e : Env} {s : State} {m : MethodId} {below : List Frame} {meth : Method} {c : Code} {G : GG} {nm : String} {b L : Nat} {xs : Nat → Int32} (C : Cx G "PairSymbolsLaw" code 4 ret nm p s m #[Value.ref b] meth c) (hX : va_X b L xs s s.heap) (hbl : b < s.heap.size) (hL : L ≤ 2560) {k : Nat} (hk : 5 * k + 4 < L) {ρc ρm : Nat → Nat} {hc hm : PH} {H : Heap} {locs : List Loc} {st : St} {ls : Array Slot} {Q : State → Prop} (hl : lv_has ls 4 [(0, .ref b), (1, .ref (ρc 0)), (2, .ref (ρm 0)), (3, .int (nI (5 * k)))]) (q : CR (20 * k) hc st) (qm : MR hm st) (w : LW G s ρc hc ρm hm H locs) (nx : ∀ (H1 : Heap) (locs1 : List Loc) (ρm1 : Nat → Nat) (hc1 hm1 : PH) (st1 : St), CR (20 * (k + 1)) hc1 st1 → MR hm1 st1 → LW G s ρc hc1 ρm1 hm1 H1 locs1 → ρm1 0 = ρm 0 → W p l e room_1 s m #[Value.ref b] below meth c H1 locs1 (hc1.length + 37) (sl hc1 + slM) Q (F0 m 776 ls [])) : W p l e room_1 s m #[Value.ref b] below meth c H locs (hc.length + 37) (sl hc + slM) Q (F0 m 726 ls []) := by
  obtain ⟨hx, hb, -⟩ := id C
  have hbk : 20 * k ≤ 90000 := by omega
  refine lv_aload_n hx hb dL_726 rfl (lv_at hl 1 rfl) ?_
  refine l_ci (bu' := 20 * (k + 1)) (As := []) (rest := []) (a := (q_back st).1) (st' := (q_back st).2) C w q qm (T_mono (C_back  q) fun v h' pp => ⟨pp.1, pp.2.mono (by omega)⟩) (by omega) (fun v hE hf => metX9_back l G ρc hf) kcX9_back (tq q_641 rfl) kiX9_back ksX9_back knX9_back kdX9_back rfl rfl ⟨Nat.le_of_ble_eq_true rfl, Nat.le_of_ble_eq_true rfl⟩ hl.1 (Nat.le_of_ble_eq_true rfl) dL_727 rfl (fun H1 locs1 ρm1 hc1 q1 w1 e0 => ?_)
  have hl2 : lv_has ls 4 [(0, .ref b), (1, .ref (ρc 0)), (2, .ref (ρm1 0)), (3, .int (nI (5 * k)))] := by rw [e0]; exact hl
  refine lv_aload_n hx hb dL_730 rfl (lv_at hl2 2 rfl) ?_
  refine l_mi (As := []) (rest := [.int (q_back st).1]) (a := (q_back st).1) (st' := (q_back st).2) C w1 (q1.room (by omega)) qm (M_back qm) (fun v hE hf => metX10_back l G ρm1 hf) kcX10_back (tq q_1202 rfl) kiX10_back ksX10_back knX10_back kdX10_back rfl rfl ⟨Nat.le_of_ble_eq_true rfl, Nat.le_of_ble_eq_true rfl⟩ hl.1 (Nat.le_of_ble_eq_true rfl) dL_731 rfl (fun H2 locs2 hm2 qm2 w2 => ?_)
  refine lv_icmp_eq (tgt := 776) hx hb dL_734 (by decide) (fun c0 => ?_) (fun c0 => absurd rfl c0)
  exact nx H2 locs2 ρm1 hc1 hm2 _ q1 qm2 w2 e0
set_option maxHeartbeats 4000000 in
theorem lwc_told {p : Program} {l : Launch} {e : Env} {s : State} {m : MethodId} {below : List Frame} {meth : Method} {c : Code} {G : GG} {nm : String} {b L : Nat} {xs : Nat → Int32} (C : Cx G "PairSymbolsLaw" code 4 ret nm p s m #[Value.ref b] meth c) (hX : va_X b L xs s s.heap) (hbl : b < s.heap.size) (hL : L ≤ 2560) {k : Nat} (hk : 5 * k + 4 < L) {ρc ρm : Nat → Nat} {hc hm : PH} {H : Heap} {locs : List Loc} {st : St} {ls : Array Slot} {Q : State → Prop} (hl : lv_has ls 4 [(0, .ref b), (1, .ref (ρc 0)), (2, .ref (ρm 0)), (3, .int (nI (5 * k)))]) (q : CR (20 * k) hc st) (qm : MR hm st) (w : LW G s ρc hc ρm hm H locs) (nx : ∀ (H1 : Heap) (locs1 : List Loc) (ρm1 : Nat → Nat) (hc1 hm1 : PH) (st1 : St), CR (20 * (k + 1)) hc1 st1 → MR hm1 st1 → LW G s ρc hc1 ρm1 hm1 H1 locs1 → ρm1 0 = ρm 0 → W p l e room_1 s m #[Value.ref b] below meth c H1 locs1 (hc1.length + 37) (sl hc1 + slM) Q (F0 m 776 ls [])) : W p l e room_1 s m #[Value.ref b] below meth c H locs (hc.length + 37) (sl hc + slM) Q (F0 m 739 ls []) := by
  obtain ⟨hx, hb, -⟩ := id C
  have hbk : 20 * k ≤ 90000 := by omega
  refine lv_aload_n hx hb dL_739 rfl (lv_at hl 1 rfl) ?_
  refine l_arg (j := 1) C hX hbl hL hk (by decide) (by decide) hl w.2.2.2.2.2 dL_740 dL_741 dL_742 dL_743 dL_744 ?_
  refine l_ci (bu' := 20 * (k + 1)) (As := [.int (xs (5 * k + 1))]) (rest := []) (a := (q_told (xs (5 * k + 1)) st).1) (st' := (q_told (xs (5 * k + 1)) st).2) C w q qm (T_mono (C_told (xs (5 * k + 1)) q) fun v h' pp => ⟨pp.1, pp.2.mono (by omega)⟩) (by omega) (fun v hE hf => metX9_told l G ρc hf) kcX9_told (tq q_649 rfl) kiX9_told ksX9_told knX9_told kdX9_told rfl rfl ⟨Nat.le_of_ble_eq_true rfl, Nat.le_of_ble_eq_true rfl⟩ hl.1 (Nat.le_of_ble_eq_true rfl) dL_745 rfl (fun H1 locs1 ρm1 hc1 q1 w1 e0 => ?_)
  have hl2 : lv_has ls 4 [(0, .ref b), (1, .ref (ρc 0)), (2, .ref (ρm1 0)), (3, .int (nI (5 * k)))] := by rw [e0]; exact hl
  refine lv_aload_n hx hb dL_748 rfl (lv_at hl2 2 rfl) ?_
  refine l_arg (j := 1) C hX hbl hL hk (by decide) (by decide) hl2 w1.2.2.2.2.2 dL_749 dL_750 dL_751 dL_752 dL_753 ?_
  refine l_mi (As := [.int (xs (5 * k + 1))]) (rest := [.int (q_told (xs (5 * k + 1)) st).1]) (a := (q_told (xs (5 * k + 1)) st).1) (st' := (q_told (xs (5 * k + 1)) st).2) C w1 (q1.room (by omega)) qm (M_told (xs (5 * k + 1)) qm) (fun v hE hf => metX10_told l G ρm1 hf) kcX10_told (tq q_1206 rfl) kiX10_told ksX10_told knX10_told kdX10_told rfl rfl ⟨Nat.le_of_ble_eq_true rfl, Nat.le_of_ble_eq_true rfl⟩ hl.1 (Nat.le_of_ble_eq_true rfl) dL_754 rfl (fun H2 locs2 hm2 qm2 w2 => ?_)
  refine lv_icmp_eq (tgt := 776) hx hb dL_757 (by decide) (fun c0 => ?_) (fun c0 => absurd rfl c0)
  exact nx H2 locs2 ρm1 hc1 hm2 _ q1 qm2 w2 e0
set_option maxHeartbeats 4000000 in
theorem lwc_digest {p : Program} {l : Launch} {e : Env} {s : State} {m : MethodId} {below : List Frame} {meth : Method} {c : Code} {G : GG} {nm : String} {b L : Nat} {xs : Nat → Int32} (C : Cx G "PairSymbolsLaw" code 4 ret nm p s m #[Value.ref b] meth c) (hX : va_X b L xs s s.heap) (hbl : b < s.heap.size) (hL : L ≤ 2560) {k : Nat} (hk : 5 * k + 4 < L) {ρc ρm : Nat → Nat} {hc hm : PH} {H : Heap} {locs : List Loc} {st : St} {ls : Array Slot} {Q : State → Prop} (hl : lv_has ls 4 [(0, .ref b), (1, .ref (ρc 0)), (2, .ref (ρm 0)), (3, .int (nI (5 * k)))]) (q : CR (20 * k) hc st) (qm : MR hm st) (w : LW G s ρc hc ρm hm H locs) (nx : ∀ (H1 : Heap) (locs1 : List Loc) (ρm1 : Nat → Nat) (hc1 hm1 : PH) (st1 : St), CR (20 * (k + 1)) hc1 st1 → MR hm1 st1 → LW G s ρc hc1 ρm1 hm1 H1 locs1 → ρm1 0 = ρm 0 → W p l e room_1 s m #[Value.ref b] below meth c H1 locs1 (hc1.length + 37) (sl hc1 + slM) Q (F0 m 776 ls [])) : W p l e room_1 s m #[Value.ref b] below meth c H locs (hc.length + 37) (sl hc + slM) Q (F0 m 762 ls []) := by
  obtain ⟨hx, hb, -⟩ := id C
  have hbk : 20 * k ≤ 90000 := by omega
  refine lv_aload_n hx hb dL_762 rfl (lv_at hl 1 rfl) ?_
  refine l_cl (bu' := 20 * (k + 1)) (As := []) (rest := []) (a := (q_digest st).1) (st' := (q_digest st).2) C w q qm (T_mono (C_digest  q) fun v h' pp => ⟨pp.1, pp.2.mono (by omega)⟩) (by omega) (fun v hE hf => metX9_digest l G ρc hf) kcX9_digest (tq q_653 rfl) kiX9_digest ksX9_digest knX9_digest kdX9_digest rfl rfl ⟨Nat.le_of_ble_eq_true rfl, Nat.le_of_ble_eq_true rfl⟩ hl.1 (Nat.le_of_ble_eq_true rfl) dL_763 rfl (fun H1 locs1 ρm1 hc1 q1 w1 e0 => ?_)
  have hl2 : lv_has ls 4 [(0, .ref b), (1, .ref (ρc 0)), (2, .ref (ρm1 0)), (3, .int (nI (5 * k)))] := by rw [e0]; exact hl
  refine lv_aload_n hx hb dL_766 rfl (lv_at hl2 2 rfl) ?_
  refine l_ml (As := []) (rest := [.long (q_digest st).1]) (a := (q_digest st).1) (st' := (q_digest st).2) C w1 (q1.room (by omega)) qm (M_digest qm) (fun v hE hf => metX10_digest l G ρm1 hf) kcX10_digest (tq q_1214 rfl) kiX10_digest ksX10_digest knX10_digest kdX10_digest rfl rfl ⟨Nat.le_of_ble_eq_true rfl, Nat.le_of_ble_eq_true rfl⟩ hl.1 (Nat.le_of_ble_eq_true rfl) dL_767 rfl (fun H2 locs2 hm2 qm2 w2 => ?_)
  refine W.lcmp hx hb dL_770 ?_
  refine lv_if_eq (tgt := 776) hx hb dL_771 (by decide) (fun c0 => ?_) (fun c0 => absurd (lg_cmp_self _) c0)
  exact nx H2 locs2 ρm1 hc1 hm2 _ q1 qm2 w2 e0
