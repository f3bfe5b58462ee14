section ROWS3
variable {p : Program} {l : Launch} {e : Env} {R : Room} {s : State} {m : MethodId} {args : Array Value} {below : List Frame} {meth : Method} {c : Code} {H : Heap} {locs : List Loc} {cells slots : Nat} {Q : State → Prop}
variable {cc : ByteArray} {pc : Nat} {ls : Array Slot} {rest st0 : List Value} {G : GG} {ρ : Nat → Nat} {n0 s0 : Nat} {H0 : Heap} {h h1 : PH} {own nm : String} {nL : Nat} {rt : Option FieldType}
variable {y : MethodName} {bytes : ByteArray} {maxL mc ms n index : Nat} {ret : Option FieldType} {rm : Room} {Qc : Array Value → State → Outcome → State → Prop} {free : Addr → Prop} {As : List Value}
theorem pre_of (C : Cx G own cc nL rt nm p s m args meth c) (hE : Ex s) (hW : Wd G ρ n0 s0 H0 h H locs cells slots) {vs : List Value} : ∀ U : State, U.heap = H → s.WarmedH U.vm → va_Pc vs (PcB G ρ h H.size) vs.toArray U := fun U hU hw => ⟨rfl, by rw [hU], by rw [hU]; exact hW.1, va_K.moved hw.alike C.2.2.2.2.2.1, Ex.moved hw hE⟩
theorem ex_of (C : Cx G own cc nL rt nm p s m args meth c) : Ex s := by
  have key : ∀ w ∈ lw_bad, w.before args s = true := fun w hw => C.2.2.2.2.1 w (tbl_bad w hw)
  exact List.forall_mem_cons.mpr ⟨fun A => va_tabs rfl rfl (key _ (by decide +kernel)), List.forall_mem_cons.mpr ⟨fun A => AOA.moved (ty := .int) (Vm.Alike.refl _) (key _ (by decide +kernel)), List.forall_mem_cons.mpr ⟨fun A => va_AO.use (va_AO.of (key (.arrayOver (.object "PairSymbols$Operato\x72")) (by decide +kernel))), List.forall_mem_cons.mpr ⟨fun A => va_AO.use (va_AO.of (key (.arrayOver (.object "PairSymbols$Level")) (by decide +kernel))), List.forall_mem_cons.mpr ⟨fun A => va_AO.use (va_AO.of (key (.arrayOver (.object "PairSymbols$State")) (by decide +kernel))), List.forall_mem_cons.mpr ⟨fun A => va_tabs rfl rfl (key _ (by decide +kernel)), List.forall_mem_cons.mpr ⟨fun A => AOA.moved (ty := .long) (Vm.Alike.refl _) (key _ (by decide +kernel)), List.forall_mem_cons.mpr ⟨fun A => va_tabs rfl rfl (key _ (by decide +kernel)), List.forall_mem_cons.mpr ⟨fun A => va_tabs rfl rfl (key _ (by decide +kernel)), List.forall_mem_cons.mpr ⟨fun A => va_tabs rfl rfl (key _ (by decide +kernel)), List.forall_mem_cons.mpr ⟨fun A => va_tabs rfl rfl (key _ (by decide +kernel)), (fun _ hh => absurd hh List.not_mem_nil)⟩⟩⟩⟩⟩⟩⟩⟩⟩⟩⟩
theorem run_S (C : Cx G own cc nL rt nm p s m args meth c) (hW : Wd G ρ n0 s0 H0 h H locs cells slots) (hM : Met l y (wsY y bytes maxL ret) rm (va_Pc As (PcB G ρ h H.size)) Qc mc ms free)
    (hrc : rm.cells = mc ∧ rm.slots = ms) (hcode : Cond.code y bytes maxL ret ∈ tb) (hlink : Cond.methodLink own index y ∈ tb) (hst : Cond.static y ∈ tb) (hini : Cond.initialized y.cls ∈ tb) (hd : y.cls ≠ "java/lang/invoke/MethodHandle" ∧ y.cls ≠ "java/lang/invoke/VarHandle" ∧ (parseMethodDescriptor y.desc).map (fun d => d.parameters.length) = some As.length)
    (hR : rm.frames + 1 ≤ R.frames ∧ 8 + (maxL + 11) + rm.locals ≤ R.locals) (hl : ls.size = nL) (hro : (rest.map fun v => v.category).sum ≤ 8) (hf : cells + mc ≤ R.cells ∧ slots + ms ≤ R.slots) (hdg : decode cc pc = .ok (.invokestatic index, 3)) (hst0 : st0 = As.reverse ++ rest) :
    va_Run p l e R s m args below meth c H locs cells slots mc ms (F0 m pc ls st0) rest (Qc As.toArray) free := by
  obtain ⟨hx, hb, hml, hown, hts, hK, -⟩ := id C
  exact va_runS ⟨hx, hb, hml, hown, hts⟩ hM ⟨callB_of As.length hts (tbl_in hcode) rfl hrc.1 hrc.2 (hts _ hini) (hts _ hlink) hd hR, hts _ hst⟩ ⟨blind _ _, pre_of C (ex_of C) hW⟩ rfl rfl hl hst0 (lv_room hro) hdg hf
theorem run_SN {host : String} (C : Cx G own cc nL rt nm p s m args meth c) (hW : Wd G ρ n0 s0 H0 h H locs cells slots) (hM : Met l y (wsY y bytes maxL ret) rm (va_Pc As (PcB G ρ h H.size)) Qc mc ms free)
    (hrc : rm.cells = mc ∧ rm.slots = ms) (hcode : Cond.code y bytes maxL ret ∈ tb) (hlink : Cond.methodLinkNest own index y host ∈ tb) (hst : Cond.static y ∈ tb) (hini : Cond.initialized y.cls ∈ tb) (hd : y.cls ≠ "java/lang/invoke/MethodHandle" ∧ y.cls ≠ "java/lang/invoke/VarHandle" ∧ (parseMethodDescriptor y.desc).map (fun d => d.parameters.length) = some As.length)
    (hR : rm.frames + 1 ≤ R.frames ∧ 8 + (maxL + 11) + rm.locals ≤ R.locals) (hl : ls.size = nL) (hro : (rest.map fun v => v.category).sum ≤ 8) (hf : cells + mc ≤ R.cells ∧ slots + ms ≤ R.slots) (hdg : decode cc pc = .ok (.invokestatic index, 3)) (hst0 : st0 = As.reverse ++ rest) :
    va_Run p l e R s m args below meth c H locs cells slots mc ms (F0 m pc ls st0) rest (Qc As.toArray) free := by
  obtain ⟨hx, hb, hml, hown, hts, hK, -⟩ := id C
  exact va_runSN (host := host) ⟨hx, hb, hml, hown, hts⟩ hM ⟨va_cnB As.length hts (tbl_in hcode) rfl hrc.1 hrc.2 (va_Nw.of rfl (hts _ hlink)) (hts _ hini) hd hR, hts _ hst, trivial⟩ ⟨blind _ _, pre_of C (ex_of C) hW⟩ rfl rfl hl hst0 (lv_room hro) hdg hf
theorem run_V {b t N x : Nat} {r : vw_C} (C : Cx G own cc nL rt nm p s m args meth c) (hW : Wd G ρ n0 s0 H0 h H locs cells slots) (hM : Met l y (wsY y bytes maxL ret) rm (va_Pc (.ref (ρ b) :: As) (PcB G ρ h H.size)) Qc mc ms free)
    (hrc : rm.cells = mc ∧ rm.slots = ms) (hcode : Cond.code y bytes maxL ret ∈ tb) (hlink : Cond.methodLink own index y ∈ tb) (hst : Cond.instanceMethod y ∈ tb) (hsel : Cond.selects y.cls y y ∈ tb) (hini : Cond.initialized y.cls ∈ tb) (hd : y.cls ≠ "java/lang/invoke/MethodHandle" ∧ y.cls ≠ "java/lang/invoke/VarHandle" ∧ (parseMethodDescriptor y.desc).map (fun d => d.parameters.length) = some As.length)
    (hcell : nth h b = some (t, N, x)) (hr : vwCl[t]? = some r) (hcl : r.1 = y.cls)
    (hR : rm.frames + 1 ≤ R.frames ∧ 8 + (maxL + 11) + rm.locals ≤ R.locals) (hl : ls.size = nL) (hro : (rest.map fun v => v.category).sum ≤ 8) (hf : cells + mc ≤ R.cells ∧ slots + ms ≤ R.slots) (hdg : decode cc pc = .ok (.invokevirtual index, 3)) (hst0 : st0 = As.reverse ++ .ref (ρ b) :: rest) :
    va_Run p l e R s m args below meth c H locs cells slots mc ms (F0 m pc ls st0) rest (Qc (Value.ref (ρ b) :: As).toArray) free := by
  obtain ⟨hx, hb, hml, hown, hts, hK, -⟩ := id C
  have hrecv : ∃ cellB : Cell, H[ρ b]? = some cellB ∧ cellB.vm.isStatics = false ∧ s.vm.findClass y.cls = some cellB.cls := by
    obtain ⟨V, hV, -⟩ := hW.1.2.2 b _ hcell
    have ht : t < 16 := Nat.lt_of_lt_of_le (List.getElem?_eq_some_iff.mp hr).1 (by decide)
    rw [if_pos ht] at hV
    obtain ⟨r', hr', -, cell, g1, g2, g3, -⟩ := hV
    exact ⟨cell, g1, by rw [g3]; rfl, by rw [g2, ← hcl]; exact (hK.1 t r hr).2.1⟩
  exact va_runV ⟨hx, hb, hml, hown, hts⟩ hM ⟨callB_of As.length hts (tbl_in hcode) rfl hrc.1 hrc.2 (hts _ hini) (hts _ hlink) hd hR, hts _ hst, hts _ hsel⟩ ⟨blind _ _, hrecv, pre_of C (ex_of C) hW⟩ rfl rfl hl hst0 (lv_room hro) hdg hf
theorem run_I {b : Nat} (C : Cx G own cc nL rt nm p s m args meth c) (hW : Wd G ρ n0 s0 H0 h H locs cells slots) (hM : Met l y (wsY y bytes maxL none) rm (va_Pc (.ref (ρ b) :: As) (PcB G ρ h H.size)) Qc mc ms free)
    (hrc : rm.cells = mc ∧ rm.slots = ms) (hcode : Cond.code y bytes maxL none ∈ tb) (hlink : Cond.methodLink own index y ∈ tb) (hst : Cond.instanceMethod y ∈ tb) (hini : Cond.initialized y.cls ∈ tb) (hy1 : y.name = "<init>") (hd : y.cls ≠ "java/lang/invoke/MethodHandle" ∧ y.cls ≠ "java/lang/invoke/VarHandle" ∧ (parseMethodDescriptor y.desc).map (fun d => d.parameters.length) = some As.length)
    (hR : rm.frames + 1 ≤ R.frames ∧ 8 + (maxL + 11) + rm.locals ≤ R.locals) (hl : ls.size = nL) (hro : (rest.map fun v => v.category).sum ≤ 8) (hf : cells + mc ≤ R.cells ∧ slots + ms ≤ R.slots) (hdg : decode cc pc = .ok (.invokespecial index, 3)) (hst0 : st0 = As.reverse ++ .ref (ρ b) :: rest) :
    va_Run p l e R s m args below meth c H locs cells slots mc ms (F0 m pc ls st0) rest (Qc (Value.ref (ρ b) :: As).toArray) free := by
  obtain ⟨hx, hb, hml, hown, hts, hK, -⟩ := id C
  exact va_runI ⟨hx, hb, hml, hown, hts⟩ hM (cwI As.length hts (tbl_in hcode) rfl hrc.1 hrc.2 (hts _ hini) (hts _ hlink) (hts _ hst) hy1 hd hR) ⟨blind _ _, pre_of C (ex_of C) hW⟩ rfl rfl hl hst0 (lv_room hro) hdg hf
theorem af_in (hW : Wd G ρ n0 s0 H0 h H locs cells slots) : ∀ q, Af ρ h.length H.size q → Af ρ n0 H0.size q := by
  rintro q (⟨x, -, rfl⟩ | hq)
  · exact hW.af x
  · exact Or.inr (Nat.le_trans hW.2.2.2.2.1 hq)
theorem Wd.after (hW : Wd G ρ n0 s0 H0 h H locs cells slots) {H1 : Heap} {locs1 : List Loc} (hx : Ext h h1) (hR : Rep G ρ h1 H1) (hS : va_S (Af ρ n0 H0.size) H0 H1 locs1) : Wd G ρ n0 s0 H0 h1 H1 locs1 (cells + DC h h1) (slots + DS h h1) := by
  have a1 := hW.2.1
  have a2 := hW.2.2.1
  have a3 := hx.1
  have a4 := hx.2.1
  exact ⟨hR, by unfold DC; omega, by unfold DS; omega, hW.2.2.2.1, hS⟩
variable {va : Array Value}
theorem r_calli (hW : Wd G ρ n0 s0 H0 h H locs cells slots) {v : Int32} (hx : Ext h h1) (hr : va_Run p l e R s m args below meth c H locs cells slots (DC h h1) (DS h h1) (F0 m pc ls st0) rest (QI G ρ v h1 h.length H.size va) (Af ρ h.length H.size))
    (kk : ∀ (H1 : Heap) (locs1 : List Loc) (c1 s1 : Nat), Wd G ρ n0 s0 H0 h1 H1 locs1 c1 s1 → W p l e R s m args below meth c H1 locs1 c1 s1 Q (F0 m (pc + 3) ls (.int v :: rest))) : W p l e R s m args below meth c H locs cells slots Q (F0 m pc ls st0) := by
  refine va_calli hr hW.2.2.2.2 (fun q _ hq => af_in hW q hq) (af_in hW) (fun r u t H1 locs1 ht hvm hw hB hz1 hk1 hS => ?_)
  try dsimp only at hw hB
  subst hw
  rw [ht] at hB
  exact kk H1 locs1 _ _ (hW.after hx hB hS)
theorem r_calll (hW : Wd G ρ n0 s0 H0 h H locs cells slots) {v : Int64} (hx : Ext h h1) (hr : va_Run p l e R s m args below meth c H locs cells slots (DC h h1) (DS h h1) (F0 m pc ls st0) rest (QL G ρ v h1 h.length H.size va) (Af ρ h.length H.size))
    (kk : ∀ (H1 : Heap) (locs1 : List Loc) (c1 s1 : Nat), Wd G ρ n0 s0 H0 h1 H1 locs1 c1 s1 → W p l e R s m args below meth c H1 locs1 c1 s1 Q (F0 m (pc + 3) ls (.long v :: rest))) : W p l e R s m args below meth c H locs cells slots Q (F0 m pc ls st0) := by
  refine va_calll hr hW.2.2.2.2 (fun q _ hq => af_in hW q hq) (af_in hW) (fun r u t H1 locs1 ht hvm hw hB hz1 hk1 hS => ?_)
  try dsimp only at hw hB
  subst hw
  rw [ht] at hB
  exact kk H1 locs1 _ _ (hW.after hx hB hS)
theorem r_callv (hW : Wd G ρ n0 s0 H0 h H locs cells slots) (hx : Ext h h1) (hr : va_Run p l e R s m args below meth c H locs cells slots (DC h h1) (DS h h1) (F0 m pc ls st0) rest (QV G ρ h1 h.length H.size va) (Af ρ h.length H.size))
    (kk : ∀ (H1 : Heap) (locs1 : List Loc) (c1 s1 : Nat), Wd G ρ n0 s0 H0 h1 H1 locs1 c1 s1 → W p l e R s m args below meth c H1 locs1 c1 s1 Q (F0 m (pc + 3) ls rest)) : W p l e R s m args below meth c H locs cells slots Q (F0 m pc ls st0) := by
  refine va_callv hr hW.2.2.2.2 (fun q _ hq => af_in hW q hq) (af_in hW) (fun u t H1 locs1 ht hvm hw hB hz1 hk1 hS => ?_)
  try dsimp only at hB
  rw [ht] at hB
  exact kk H1 locs1 _ _ (hW.after hx hB hS)
theorem r_calla (hW : Wd G ρ n0 s0 H0 h H locs cells slots) {v : Nat} (hx : Ext h h1) (hr : va_Run p l e R s m args below meth c H locs cells slots (DC h h1) (DS h h1) (F0 m pc ls st0) rest (QA G ρ v h1 h.length H.size va) (Af ρ h.length H.size))
    (kk : ∀ (H1 : Heap) (locs1 : List Loc) (c1 s1 : Nat), Wd G ρ n0 s0 H0 h1 H1 locs1 c1 s1 → W p l e R s m args below meth c H1 locs1 c1 s1 Q (F0 m (pc + 3) ls (.ref (ρ v) :: rest))) : W p l e R s m args below meth c H locs cells slots Q (F0 m pc ls st0) := by
  refine va_callr hr hW.2.2.2.2 (fun q _ hq => af_in hW q hq) (af_in hW) (fun u ra t H1 locs1 ht hvm hw hB hz1 hk1 hS => ?_)
  try dsimp only at hB
  obtain ⟨rfl, hB⟩ := hB
  rw [ht] at hB
  exact kk H1 locs1 _ _ (hW.after hx hB hS)
theorem r_calln (hW : Wd G ρ n0 s0 H0 h H locs cells slots) {v : Option Nat} (hx : Ext h h1) (hr : va_Run p l e R s m args below meth c H locs cells slots (DC h h1) (DS h h1) (F0 m pc ls st0) rest (QN G ρ v h1 h.length H.size va) (Af ρ h.length H.size))
    (kk : ∀ (H1 : Heap) (locs1 : List Loc) (c1 s1 : Nat), Wd G ρ n0 s0 H0 h1 H1 locs1 c1 s1 → W p l e R s m args below meth c H1 locs1 c1 s1 Q (F0 m (pc + 3) ls (va_rf (v.map ρ) :: rest))) : W p l e R s m args below meth c H locs cells slots Q (F0 m pc ls st0) := by
  refine va_callq hr hW.2.2.2.2 (fun q _ hq => af_in hW q hq) (af_in hW) (fun r u t H1 locs1 ht hvm hw hB hz1 hk1 hS => ?_)
  try dsimp only at hw hB
  subst hw
  rw [ht] at hB
  exact kk H1 locs1 _ _ (hW.after hx hB hS)
/-- new objects and rows -/
theorem vok_0 (ρ : Nat → Nat) (κ : Nat) (v : Value) (h : v = dv ρ κ 0) : vok ρ κ 1 v := by
  subst h
  refine ⟨⟨?_, ?_, ?_⟩, fun d' e => ?_⟩
  · rintro rfl
    exact ⟨_, rfl⟩
  · rintro rfl
    exact ⟨_, rfl⟩
  · rintro rfl
    exact ⟨none, rfl⟩
  · have : d' = 0 := by omega
    subst this
    rfl
theorem r_new (C : Cx G own cc nL rt nm p s m args meth c) (hW : Wd G ρ n0 s0 H0 h H locs cells slots) {t N a idx : Nat} {r : vw_C} (hv : (al t N).1 h = some (a, h1)) (hc : CT t r) (hN : r.2.2 = N) (hcl : Cond.classLink own idx r.1 ∈ tb) (hins : Cond.instantiable r.1 N ∈ tb) (hini : Cond.initialized r.1 ∈ tb) (hcells : cells + DC h h1 ≤ R.cells ∧ slots + DS h h1 ≤ R.slots) (hdg : decode cc pc = .ok (.new idx, 3))
    (kk : ∀ (H1 : Heap) (c1 s1 : Nat), Wd G ρ n0 s0 H0 h1 H1 locs c1 s1 → W p l e R s m args below meth c H1 locs c1 s1 Q (F0 m (pc + 3) ls (.ref (ρ a) :: rest))) : W p l e R s m args below meth c H locs cells slots Q (F0 m pc ls rest) := by
  obtain ⟨hx, hb, hml, hown, hts, hK, -⟩ := C
  obtain ⟨-, rfl, rfl⟩ := al_some hv
  obtain ⟨hr, hin, hnn, ty, hty, hkd⟩ := hc
  subst hN
  have d1 : DC h (h ++ [(t, r.2.2, onesF r.2.2)]) = 1 := by unfold DC; simp
  have d2 : DS h (h ++ [(t, r.2.2, onesF r.2.2)]) = r.2.2 := by unfold DS; rw [sl_app]; simp [sl]
  rw [d1, d2] at hcells
  have hKn := hK.1 t _ hr
  have ht : t < 16 := Nat.lt_of_lt_of_le (List.getElem?_eq_some_iff.mp hr).1 (by decide)
  have hρ : ρ h.length = H.size := hW.1.2.1 0
  refine W.newcK hx hb hown (hts _ hcl) (hts _ hins) (hts _ hini) rfl hdg hcells.1 hcells.2 hKn.2.1 rfl fun H1 kC hkC e1 z1 o1 => ?_
  rw [← hρ]
  refine kk H1 _ _ (hW.push (t, r.2.2, onesF r.2.2) z1 o1 ⟨fun k => defaultValue (ty k), ?_, fun k hk => ?_⟩)
  · rw [if_pos ht]
    refine ⟨r, hr, rfl, ?_⟩
    rw [hρ]
    exact u_born ty hts hin hKn hkC e1 hty
  · dsimp only at hk ⊢
    rw [dg_onesF, if_pos hk]
    refine vok_0 _ _ _ ?_
    rcases hkd k hk with ⟨e1, e2⟩ | ⟨e1, e2⟩ | ⟨e1, e2⟩
    · rw [e1, e2]; rfl
    · rw [e1, e2]; rfl
    · rw [e1]
      revert e2
      cases ty k <;> first | (intro _; rfl) | (intro q; exact absurd q (by decide))
theorem nA_some {t a : Nat} {j : Int32} (q : (nA t j).1 h = some (a, h1)) : ∃ n, aix j = some n ∧ n ≤ 1000000 ∧ a = h.length ∧ h1 = h ++ [(t, n, onesF n)] := by
  unfold nA at q
  split at q
  · cases q
  · rename_i n e
    obtain ⟨e1, e2, e3⟩ := al_some q
    exact ⟨n, e, e1, e2, e3⟩
theorem r_newa (C : Cx G own cc nL rt nm p s m args meth c) (hW : Wd G ρ n0 s0 H0 h H locs cells slots) {t a t0 : Nat} {j : Int32} (atype : ArrayType) (hv : (nA t j).1 h = some (a, h1)) (h16 : ¬ t < 16) (ht0 : (tysL G.2)[t0]? = some (G.2 t, newarray.typeOf atype)) (hkd : defaultValue (newarray.typeOf atype) = dv ρ (kd t 0) 0) (hkk : ∀ k, kd t k = kd t 0) (hsm : componentBytes (newarray.typeOf atype) ≤ 8) (hfc : va_RA s (G.2 t) (newarray.typeOf atype) → s.vm.findClass ("[" ++ (newarray.typeOf atype).toString) = some (G.2 t)) (harr : Cond.arrayClass (newarray.typeOf atype) ∈ tb) (hcells : cells + DC h h1 ≤ R.cells ∧ slots + DS h h1 ≤ R.slots) (hdg : decode cc pc = .ok (.newarray atype, 2))
    (kk : ∀ (H1 : Heap) (c1 s1 : Nat), Wd G ρ n0 s0 H0 h1 H1 locs c1 s1 → W p l e R s m args below meth c H1 locs c1 s1 Q (F0 m (pc + 2) ls (.ref (ρ a) :: rest))) : W p l e R s m args below meth c H locs cells slots Q (F0 m pc ls (.int j :: rest)) := by
  obtain ⟨hx, hb, hml, hown, hts, hK, -⟩ := C
  obtain ⟨n, e1, e2, rfl, rfl⟩ := nA_some hv
  have hρ : ρ h.length = H.size := hW.1.2.1 0
  obtain ⟨a1, a2⟩ := aix_some e1
  have d1 : DC h (h ++ [(t, n, onesF n)]) = 1 := by unfold DC; simp
  have d2 : DS h (h ++ [(t, n, onesF n)]) = n := by unfold DS; rw [sl_app]; simp [sl]
  rw [d1, d2] at hcells
  refine va_newaK (atype := atype) hx hb (hts _ harr) rfl hdg rfl a1 a2 (Nat.le_trans (Nat.mul_le_mul e2 hsm) (by decide)) hcells.1 hcells.2 rfl fun H1 cA f1 f2 f3 f4 f5 => ?_
  have hcA : cA = G.2 t := Option.some.inj (f5.symm.trans (hfc (hK.2 t0 _ ht0).2))
  subst hcA
  rw [← hρ]
  refine kk H1 _ _ (hW.push (t, n, onesF n) f2 f3 ⟨fun _ => defaultValue (newarray.typeOf atype), ?_, fun k hk => ?_⟩)
  · rw [if_neg h16, hρ]
    exact f1
  · dsimp only at hk ⊢
    rw [dg_onesF, if_pos hk]
    exact vok_0 _ _ _ (by rw [hkk k]; exact hkd)
theorem r_newq (C : Cx G own cc nL rt nm p s m args meth c) (hW : Wd G ρ n0 s0 H0 h H locs cells slots) {t a t0 idx : Nat} {E : String} {j : Int32} (hv : (nA t j).1 h = some (a, h1)) (h20 : 20 ≤ t) (ht0 : (tysL G.2)[t0]? = some (G.2 t, .object E)) (hcl : Cond.classLink own idx E ∈ tb) (hover : Cond.arrayOver (.object E) ∈ tb) (hcells : cells + DC h h1 ≤ R.cells ∧ slots + DS h h1 ≤ R.slots) (hdg : decode cc pc = .ok (.anewarray idx, 3))
    (kk : ∀ (H1 : Heap) (c1 s1 : Nat), Wd G ρ n0 s0 H0 h1 H1 locs c1 s1 → W p l e R s m args below meth c H1 locs c1 s1 Q (F0 m (pc + 3) ls (.ref (ρ a) :: rest))) : W p l e R s m args below meth c H locs cells slots Q (F0 m pc ls (.int j :: rest)) := by
  obtain ⟨hx, hb, hml, hown, hts, hK, -⟩ := C
  obtain ⟨n, e1, e2, rfl, rfl⟩ := nA_some hv
  have hρ : ρ h.length = H.size := hW.1.2.1 0
  obtain ⟨a1, rfl⟩ := aix_some e1
  have d1 : DC h (h ++ [(t, j.toNatClampNeg, onesF j.toNatClampNeg)]) = 1 := by unfold DC; simp
  have d2 : DS h (h ++ [(t, j.toNatClampNeg, onesF j.toNatClampNeg)]) = j.toNatClampNeg := by unfold DS; rw [sl_app]; simp [sl]
  rw [d1, d2] at hcells
  refine W.anew hx hb hown (hts _ hcl) (hts _ hover) rfl hdg rfl a1 (by omega) hcells.1 hcells.2 fun cA kA comp f1 f2 f3 f4 => ?_
  obtain ⟨-, -, -, -, -, g5⟩ := (hK.2 t0 _ ht0).2
  have hcA : cA = G.2 t := Option.some.inj (f1.symm.trans g5)
  subst hcA
  rw [← hρ]
  refine kk _ _ _ (hW.push (t, j.toNatClampNeg, onesF j.toNatClampNeg) (by simp) (fun q hq => by rw [Array.getElem?_push, if_neg (Nat.ne_of_lt hq)]) ⟨fun _ => .null, ?_, fun k hk => ?_⟩)
  · rw [if_neg (by show ¬ t < 16; omega), hρ, Array.getElem?_push_size, ← arrV_new]
  · dsimp only at hk ⊢
    rw [dg_onesF, if_pos hk]
    exact vok_0 _ _ _ (by rw [kd_ref h20]; rfl)
end ROWS3
