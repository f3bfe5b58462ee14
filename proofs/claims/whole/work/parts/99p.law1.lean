/-! THE LAW'S WORLD: two pure heaps in one machine heap -/
def slM : Nat := 10293
section LAW1
variable {p : Program} {l : Launch} {e : Env} {R : Room} {s : State} {m : MethodId} {args : Array Value} {below : List Frame} {meth : Method} {c : Code} {H : Heap} {locs : List Loc} {cells slots : Nat} {Q : State → Prop}
variable {cc : ByteArray} {pc : Nat} {ls : Array Slot} {rest st0 : List Value} {G : GG} {ρ : Nat → Nat} {h h1 : PH} {own nm : String} {nL : Nat} {rt : Option FieldType}
variable {y : MethodName} {bytes : ByteArray} {maxL mc ms n index : Nat} {ret : Option FieldType} {rm : Room} {Qc : Array Value → State → Outcome → State → Prop} {free : Addr → Prop} {As : List Value}
theorem run_VR {b t N x : Nat} {r : vw_C} (C : Cx G own cc nL rt nm p s m args meth c) (hRp : Rep G ρ h H) (hM : Met l y (wsY y bytes maxL ret) rm (va_Pc (.ref (ρ b) :: As) (PcB G ρ h H.size)) Qc mc ms free)
    (hrc : rm.cells = mc ∧ rm.slots = ms) (hcode : Cond.code y bytes maxL ret ∈ tb) (hlink : Cond.methodLink own index y ∈ tb) (hst : Cond.instanceMethod y ∈ tb) (hsel : Cond.selects y.cls y y ∈ tb) (hini : Cond.initialized y.cls ∈ tb) (hd : y.cls ≠ "java/lang/invoke/MethodHandle" ∧ y.cls ≠ "java/lang/invoke/VarHandle" ∧ (parseMethodDescriptor y.desc).map (fun d => d.parameters.length) = some As.length)
    (hcell : nth h b = some (t, N, x)) (hr : vwCl[t]? = some r) (hcl : r.1 = y.cls)
    (hR : rm.frames + 1 ≤ R.frames ∧ 8 + (maxL + 11) + rm.locals ≤ R.locals) (hl : ls.size = nL) (hro : (rest.map fun v => v.category).sum ≤ 8) (hf : cells + mc ≤ R.cells ∧ slots + ms ≤ R.slots) (hdg : decode cc pc = .ok (.invokevirtual index, 3)) (hst0 : st0 = As.reverse ++ .ref (ρ b) :: rest) :
    va_Run p l e R s m args below meth c H locs cells slots mc ms (F0 m pc ls st0) rest (Qc (Value.ref (ρ b) :: As).toArray) free := by
  obtain ⟨hx, hb, hml, hown, hts, hK, -⟩ := id C
  have hE := ex_of C
  have hrecv : ∃ cellB : Cell, H[ρ b]? = some cellB ∧ cellB.vm.isStatics = false ∧ s.vm.findClass y.cls = some cellB.cls := by
    obtain ⟨V, hV, -⟩ := hRp.2.2 b _ hcell
    have ht : t < 16 := Nat.lt_of_lt_of_le (List.getElem?_eq_some_iff.mp hr).1 (by decide)
    rw [if_pos ht] at hV
    obtain ⟨r', hr', -, cell, g1, g2, g3, -⟩ := hV
    exact ⟨cell, g1, by rw [g3]; rfl, by rw [g2, ← hcl]; exact (hK.1 t r hr).2.1⟩
  exact va_runV ⟨hx, hb, hml, hown, hts⟩ hM ⟨callB_of As.length hts (tbl_in hcode) rfl hrc.1 hrc.2 (hts _ hini) (hts _ hlink) hd hR, hts _ hst, hts _ hsel⟩ ⟨blind _ _, hrecv, fun U hU hw => ⟨rfl, by rw [hU], by rw [hU]; exact hRp, va_K.moved hw.alike hK, Ex.moved hw hE⟩⟩ rfl rfl hl hst0 (lv_room hro) hdg hf
/-- references stay within the heap -/
def ClP (h : PH) : Prop := ∀ b t n x, nth h b = some (t, n, x) → ∀ k, k < n → kd t k = 2 → dg x k < h.length + 2
/-- another tail, and a heap where nothing of it has changed -/
theorem Rep_tail {H1 : Heap} (R : Rep G ρ h H) (cl : ClP h) (hk : ∀ a, a < h.length → H1[ρ a]? = H[ρ a]?) (hz : H.size ≤ H1.size) : Rep G (rex ρ h.length H1.size) h H1 := by
  have lt : ∀ b, b < h.length → ρ b < H.size := by
    intro b hb
    obtain ⟨c, hc⟩ : ∃ c, nth h b = some c := ⟨h[b], by rw [nth_eq]; exact List.getElem?_eq_getElem hb⟩
    exact (R.2.2 _ c hc).lt
  refine ⟨fun a b q => ?_, fun i => by rw [rex_out (by omega)]; omega, fun b c hb => ?_⟩
  · by_cases ca : a < h.length
    · by_cases cb : b < h.length
      · rw [rex_in ca, rex_in cb] at q
        exact R.1 _ _ q
      · rw [rex_in ca, rex_out (by omega)] at q
        have := lt a ca
        omega
    · by_cases cb : b < h.length
      · rw [rex_in cb, rex_out (by omega)] at q
        have := lt b cb
        omega
      · rw [rex_out (by omega), rex_out (by omega)] at q
        omega
  · obtain ⟨t, n, x⟩ := c
    have hbl := nth_lt hb
    obtain ⟨V, v1, v2⟩ := (R.2.2 _ _ hb).kept (hk _ hbl)
    refine ⟨V, ?_, fun k hk => ?_⟩
    · rw [rex_in hbl]
      exact v1
    · obtain ⟨w1, w2⟩ := v2 k hk
      refine ⟨w1, fun d' e' => ?_⟩
      have w3 := w2 d' e'
      dsimp only at e' w3 ⊢
      rw [w3]
      unfold dv
      by_cases k0 : kd t k = 0
      · rw [if_pos k0, if_pos k0]
      · by_cases k1 : kd t k = 1
        · rw [if_neg k0, if_neg k0, if_pos k1, if_pos k1]
        · have k2 : kd t k = 2 := by
            have := kd_le t k
            omega
          have b1 := cl b t n x hb k hk k2
          rw [if_neg k0, if_neg k0, if_neg k1, if_neg k1]
          cases d' with
          | zero => rfl
          | succ a =>
            show Value.ref (ρ a) = Value.ref (rex ρ h.length H1.size a)
            rw [rex_in (by omega)]
/-- nothing of it has changed, and nothing has come -/
theorem Rep_same {H1 : Heap} (R : Rep G ρ h H) (hk : ∀ a, a < h.length → H1[ρ a]? = H[ρ a]?) (hz : H1.size = H.size) : Rep G ρ h H1 := ⟨R.1, fun i => by rw [hz]; exact R.2.1 i, fun a c hc => (R.2.2 a c hc).kept (hk a (nth_lt hc))⟩
theorem mkd_all : allN 51 (fun k => !(Nat.beq (kd 9 k) 2) || (Nat.ble 1 (mref k) && Nat.ble (mref k) 36)) = true := by decide +kernel
theorem mtg_all : allN 37 (fun a => Nat.beq a 0 || (Nat.ble 16 (mtag a) && Nat.ble (mtag a) 19)) = true := by decide +kernel
theorem MW.cl (q : MW h) : ClP h := by
  intro b t n x hb k hk k2
  have hbl := nth_lt hb
  rw [q.1] at hbl
  obtain ⟨y, e, -⟩ := q.2.1 b hbl
  rw [e] at hb
  cases hb
  have k3 := allN_at mtg_all b hbl
  rw [Bool.or_eq_true] at k3
  rcases k3 with k3 | k3
  · have b0 : b = 0 := Nat.eq_of_beq_eq_true k3
    subst b0
    have k4 := allN_at mkd_all k hk
    have k2' : kd 9 k = 2 := k2
    rw [k2'] at k4
    have k5 : (Nat.ble 1 (mref k) && Nat.ble (mref k) 36) = true := k4
    rw [Bool.and_eq_true] at k5
    have l1 := Nat.le_of_ble_eq_true k5.1
    have l2 := Nat.le_of_ble_eq_true k5.2
    have e3 := q.2.2 k (by omega)
    unfold dig at e3
    rw [e] at e3
    have e3 : dg x k = mref k + 2 := e3
    rw [e3, q.1]
    omega
  · rw [Bool.and_eq_true] at k3
    have l1 := Nat.le_of_ble_eq_true k3.1
    have l2 := Nat.le_of_ble_eq_true k3.2
    exfalso
    unfold kd at k2
    rw [if_neg (by omega)] at k2
    split at k2
    · cases k2
    · rw [if_neg (by omega)] at k2
      cases k2
theorem sl_CIm : sl CIm = slM := by decide +kernel
theorem MW.slq (q : MW h) : sl h = slM := by
  have q0 := MR0.1
  rw [← sl_CIm]
  have key : (h.map fun c => c.2.1) = (CIm.map fun c => c.2.1) := by
    apply List.ext_getElem?
    intro a
    rw [List.getElem?_map, List.getElem?_map, ← nth_eq, ← nth_eq]
    by_cases ha : a < 37
    · obtain ⟨x, e1, -⟩ := q.2.1 a ha
      obtain ⟨y, e2, -⟩ := q0.2.1 a ha
      rw [e1, e2]
      rfl
    · have e1 : nth h a = none := by rw [nth_eq]; exact List.getElem?_eq_none (by rw [q.1]; omega)
      have e2 : nth CIm a = none := by rw [nth_eq]; exact List.getElem?_eq_none (by rw [q0.1]; omega)
      rw [e1, e2]
  unfold sl
  rw [key]
/-- the two heaps in the machine's -/
def LW (G : GG) (s : State) (ρc : Nat → Nat) (hc : PH) (ρm : Nat → Nat) (hm : PH) (H : Heap) (locs : List Loc) : Prop := Rep G ρc hc H ∧ Rep G ρm hm H ∧ (∀ a b, a < hc.length → b < hm.length → ρc a ≠ ρm b) ∧ (∀ a, a < hc.length → s.heap.size ≤ ρc a) ∧ (∀ b, b < hm.length → s.heap.size ≤ ρm b) ∧ va_S (fun q : Nat => s.heap.size ≤ q) s.heap H locs
variable {ρc ρm : Nat → Nat} {hc hc' hm hm' : PH} {st st' : St} {bu bu' : Nat}
theorem Rep.lt (R : Rep G ρ h H) {b : Nat} (hb : b < h.length) : ρ b < H.size := by
  obtain ⟨c, hc⟩ : ∃ c, nth h b = some c := ⟨h[b], by rw [nth_eq]; exact List.getElem?_eq_getElem hb⟩
  exact (R.2.2 _ c hc).lt
theorem LW.afc (w : LW G s ρc hc ρm hm H locs) : ∀ q, Af ρc hc.length H.size q → s.heap.size ≤ q := by
  rintro q (⟨x, hx, rfl⟩ | hq)
  · exact w.2.2.2.1 x hx
  · exact Nat.le_trans w.2.2.2.2.2.1 hq
theorem LW.afm (w : LW G s ρc hc ρm hm H locs) : ∀ q, Af ρm hm.length H.size q → s.heap.size ≤ q := by
  rintro q (⟨x, hx, rfl⟩ | hq)
  · exact w.2.2.2.2.1 x hx
  · exact Nat.le_trans w.2.2.2.2.2.1 hq
/-- behind a call of the class -/
theorem LW.aft_c (w : LW G s ρc hc ρm hm H locs) (q : MW hm) {H1 : Heap} {locs1 : List Loc} (hx : Ext hc hc') (hB : Rep G ρc hc' H1) (hz : H.size ≤ H1.size) (hk : ∀ q : Nat, q < H.size → ¬ Af ρc hc.length H.size q → H1[q]? = H[q]?) (hS : va_S (fun q : Nat => s.heap.size ≤ q) s.heap H1 locs1) : LW G s ρc hc' (rex ρm hm.length H1.size) hm H1 locs1 ∧ rex ρm hm.length H1.size 0 = ρm 0 := by
  obtain ⟨w1, w2, w3, w4, w5, w6⟩ := w
  have tail : ∀ a, hc.length ≤ a → ρc a = H.size + (a - hc.length) := fun a ha => by
    have := w1.2.1 (a - hc.length)
    rw [show hc.length + (a - hc.length) = a by omega] at this
    exact this
  refine ⟨⟨hB, Rep_tail w2 q.cl (fun b hb => hk _ (w2.lt hb) ?_) hz, fun a b ha hb => ?_, fun a ha => ?_, fun b hb => by rw [rex_in hb]; exact w5 b hb, hS⟩, rex_in (by rw [q.1]; decide)⟩
  · rintro (⟨x, hx, e⟩ | e)
    · exact w3 x b hx hb e.symm
    · have := w2.lt hb
      omega
  · rw [rex_in hb]
    by_cases c : a < hc.length
    · exact w3 a b c hb
    · rw [tail a (by omega)]
      have := w2.lt hb
      omega
  · by_cases c : a < hc.length
    · exact w4 a c
    · rw [tail a (by omega)]
      have := w6.1
      omega
/-- behind a call of the reference -/
theorem LW.aft_m (w : LW G s ρc hc ρm hm H locs) (q : MW hm) (q' : MW hm') {H1 : Heap} {locs1 : List Loc} (hB : Rep G ρm hm' H1) (hk : ∀ q : Nat, q < H.size → ¬ Af ρm hm.length H.size q → H1[q]? = H[q]?) (hS : va_S (fun q : Nat => s.heap.size ≤ q) s.heap H1 locs1) : LW G s ρc hc ρm hm' H1 locs1 := by
  obtain ⟨w1, w2, w3, w4, w5, w6⟩ := w
  have hz : H1.size = H.size := by
    have a1 := w2.2.1 0
    have a2 := hB.2.1 0
    rw [q.1] at a1
    rw [q'.1] at a2
    omega
  refine ⟨Rep_same w1 (fun a ha => hk _ (w1.lt ha) ?_) hz, hB, fun a b ha hb => w3 a b ha (by rw [q.1]; rw [q'.1] at hb; exact hb), w4, fun b hb => w5 b (by rw [q.1]; rw [q'.1] at hb; exact hb), hS⟩
  rintro (⟨x, hx, e⟩ | e)
  · exact w3 a x ha hx e
  · have := w1.lt ha
    omega
theorem CR.room (q : CR bu hc st) (hb : bu ≤ 100000) : hc.length + sl hc ≤ 400000 := by
  have h1 := q.2.2.2.2.2.2.2.2.1.1
  have h2 := pot_le (h := hc)
  unfold mu at h1
  omega
/-- a call of the class, an int back -/
theorem l_ci (C : Cx G own cc nL rt nm p s m args meth c) (w : LW G s ρc hc ρm hm H locs) (q : CR bu hc st) (qm : MR hm st) {f : PM Int32} {a : Int32} {fr lo : Nat} {r : vw_C} (tc : T f hc (fun v h' => v = a ∧ CR bu' h' st')) (hbu : bu' ≤ 100000)
    (hM : ∀ v hE, f.1 hc = some (v, hE) → Met l y (wsY y bytes maxL ret) (RM fr lo hc hE) (va_Pc (.ref (ρc 0) :: As) (PcB G ρc hc H.size)) (QI G ρc v hE hc.length H.size) (DC hc hE) (DS hc hE) (Af ρc hc.length H.size))
    (hcode : Cond.code y bytes maxL ret ∈ tb) (hlink : Cond.methodLink own index y ∈ tb) (hst : Cond.instanceMethod y ∈ tb) (hsel : Cond.selects y.cls y y ∈ tb) (hini : Cond.initialized y.cls ∈ tb) (hd : y.cls ≠ "java/lang/invoke/MethodHandle" ∧ y.cls ≠ "java/lang/invoke/VarHandle" ∧ (parseMethodDescriptor y.desc).map (fun d => d.parameters.length) = some As.length) (hr : vwCl[8]? = some r) (hcl : r.1 = y.cls)
    (hR : fr + 1 ≤ 15 ∧ 8 + (maxL + 11) + lo ≤ 678) (hl : ls.size = nL) (hro : (rest.map fun v => v.category).sum ≤ 8) (hdg : decode cc pc = .ok (.invokevirtual index, 3)) (hst0 : st0 = As.reverse ++ .ref (ρc 0) :: rest)
    (kk : ∀ (H1 : Heap) (locs1 : List Loc) (ρm1 : Nat → Nat) (hc1 : PH), CR bu' hc1 st' → LW G s ρc hc1 ρm1 hm H1 locs1 → ρm1 0 = ρm 0 → W p l e room_1 s m args below meth c H1 locs1 (hc1.length + 37) (sl hc1 + slM) Q (F0 m (pc + 3) ls (.int a :: rest))) : W p l e room_1 s m args below meth c H locs (hc.length + 37) (sl hc + slM) Q (F0 m pc ls st0) := by
  obtain ⟨v, hE, ef, rfl, qE⟩ := tc
  have ex := f.2.1 _ _ _ ef
  have rm := qE.room hbu
  obtain ⟨x, e8, -⟩ := q.1.2.1 0 (by decide)
  have e8 : nth hc 0 = some (8, 9, x) := e8
  have x1 := ex.1
  have x2 := ex.2.1
  refine va_calli (run_VR (b := 0) (rm := RM fr lo hc hE) C w.1 (hM v hE ef) ⟨rfl, rfl⟩ hcode hlink hst hsel hini hd e8 hr hcl hR hl hro ⟨?_, ?_⟩ hdg hst0) w.2.2.2.2.2 (fun q _ hq => w.afc q hq) (w.afc) (fun r u t H1 locs1 ht hvm hw hB hz1 hk1 hS => ?_)
  · show hc.length + 37 + (hE.length - hc.length) ≤ 600000
    omega
  · show sl hc + slM + (sl hE - sl hc) ≤ 7302250
    unfold slM
    omega
  · try dsimp only at hw hB
    subst hw
    rw [ht] at hB
    obtain ⟨w1, e0⟩ := w.aft_c qm.1 ex hB hz1 hk1 hS
    have k := kk H1 locs1 _ hE qE w1 e0
    have e1 : hc.length + 37 + DC hc hE = hE.length + 37 := by unfold DC; omega
    have e2 : sl hc + slM + DS hc hE = sl hE + slM := by unfold DS; omega
    rw [e1, e2]
    exact k
/-- a call of the class, a long back -/
theorem l_cl (C : Cx G own cc nL rt nm p s m args meth c) (w : LW G s ρc hc ρm hm H locs) (q : CR bu hc st) (qm : MR hm st) {f : PM Int64} {a : Int64} {fr lo : Nat} {r : vw_C} (tc : T f hc (fun v h' => v = a ∧ CR bu' h' st')) (hbu : bu' ≤ 100000)
    (hM : ∀ v hE, f.1 hc = some (v, hE) → Met l y (wsY y bytes maxL ret) (RM fr lo hc hE) (va_Pc (.ref (ρc 0) :: As) (PcB G ρc hc H.size)) (QL G ρc v hE hc.length H.size) (DC hc hE) (DS hc hE) (Af ρc hc.length H.size))
    (hcode : Cond.code y bytes maxL ret ∈ tb) (hlink : Cond.methodLink own index y ∈ tb) (hst : Cond.instanceMethod y ∈ tb) (hsel : Cond.selects y.cls y y ∈ tb) (hini : Cond.initialized y.cls ∈ tb) (hd : y.cls ≠ "java/lang/invoke/MethodHandle" ∧ y.cls ≠ "java/lang/invoke/VarHandle" ∧ (parseMethodDescriptor y.desc).map (fun d => d.parameters.length) = some As.length) (hr : vwCl[8]? = some r) (hcl : r.1 = y.cls)
    (hR : fr + 1 ≤ 15 ∧ 8 + (maxL + 11) + lo ≤ 678) (hl : ls.size = nL) (hro : (rest.map fun v => v.category).sum ≤ 8) (hdg : decode cc pc = .ok (.invokevirtual index, 3)) (hst0 : st0 = As.reverse ++ .ref (ρc 0) :: rest)
    (kk : ∀ (H1 : Heap) (locs1 : List Loc) (ρm1 : Nat → Nat) (hc1 : PH), CR bu' hc1 st' → LW G s ρc hc1 ρm1 hm H1 locs1 → ρm1 0 = ρm 0 → W p l e room_1 s m args below meth c H1 locs1 (hc1.length + 37) (sl hc1 + slM) Q (F0 m (pc + 3) ls (.long a :: rest))) : W p l e room_1 s m args below meth c H locs (hc.length + 37) (sl hc + slM) Q (F0 m pc ls st0) := by
  obtain ⟨v, hE, ef, rfl, qE⟩ := tc
  have ex := f.2.1 _ _ _ ef
  have rm := qE.room hbu
  obtain ⟨x, e8, -⟩ := q.1.2.1 0 (by decide)
  have e8 : nth hc 0 = some (8, 9, x) := e8
  have x1 := ex.1
  have x2 := ex.2.1
  refine va_calll (run_VR (b := 0) (rm := RM fr lo hc hE) C w.1 (hM v hE ef) ⟨rfl, rfl⟩ hcode hlink hst hsel hini hd e8 hr hcl hR hl hro ⟨?_, ?_⟩ hdg hst0) w.2.2.2.2.2 (fun q _ hq => w.afc q hq) (w.afc) (fun r u t H1 locs1 ht hvm hw hB hz1 hk1 hS => ?_)
  · show hc.length + 37 + (hE.length - hc.length) ≤ 600000
    omega
  · show sl hc + slM + (sl hE - sl hc) ≤ 7302250
    unfold slM
    omega
  · try dsimp only at hw hB
    subst hw
    rw [ht] at hB
    obtain ⟨w1, e0⟩ := w.aft_c qm.1 ex hB hz1 hk1 hS
    have k := kk H1 locs1 _ hE qE w1 e0
    have e1 : hc.length + 37 + DC hc hE = hE.length + 37 := by unfold DC; omega
    have e2 : sl hc + slM + DS hc hE = sl hE + slM := by unfold DS; omega
    rw [e1, e2]
    exact k
/-- a call of the reference, an int back -/
theorem l_mi (C : Cx G own cc nL rt nm p s m args meth c) (w : LW G s ρc hc ρm hm H locs) (rmc : hc.length + sl hc ≤ 400000) (qm : MR hm st) {f : PM Int32} {a : Int32} {fr lo : Nat} {r : vw_C} (tc : T f hm (fun v h' => v = a ∧ MR h' st'))
    (hM : ∀ v hE, f.1 hm = some (v, hE) → Met l y (wsY y bytes maxL ret) (RM fr lo hm hE) (va_Pc (.ref (ρm 0) :: As) (PcB G ρm hm H.size)) (QI G ρm v hE hm.length H.size) (DC hm hE) (DS hm hE) (Af ρm hm.length H.size))
    (hcode : Cond.code y bytes maxL ret ∈ tb) (hlink : Cond.methodLink own index y ∈ tb) (hst : Cond.instanceMethod y ∈ tb) (hsel : Cond.selects y.cls y y ∈ tb) (hini : Cond.initialized y.cls ∈ tb) (hd : y.cls ≠ "java/lang/invoke/MethodHandle" ∧ y.cls ≠ "java/lang/invoke/VarHandle" ∧ (parseMethodDescriptor y.desc).map (fun d => d.parameters.length) = some As.length) (hr : vwCl[9]? = some r) (hcl : r.1 = y.cls)
    (hR : fr + 1 ≤ 15 ∧ 8 + (maxL + 11) + lo ≤ 678) (hl : ls.size = nL) (hro : (rest.map fun v => v.category).sum ≤ 8) (hdg : decode cc pc = .ok (.invokevirtual index, 3)) (hst0 : st0 = As.reverse ++ .ref (ρm 0) :: rest)
    (kk : ∀ (H1 : Heap) (locs1 : List Loc) (hm1 : PH), MR hm1 st' → LW G s ρc hc ρm hm1 H1 locs1 → W p l e room_1 s m args below meth c H1 locs1 (hc.length + 37) (sl hc + slM) Q (F0 m (pc + 3) ls (.int a :: rest))) : W p l e room_1 s m args below meth c H locs (hc.length + 37) (sl hc + slM) Q (F0 m pc ls st0) := by
  obtain ⟨v, hE, ef, rfl, qE⟩ := tc
  obtain ⟨x, e8, -⟩ := qm.1.2.1 0 (by decide)
  have e8 : nth hm 0 = some (9, 51, x) := e8
  have d1 : DC hm hE = 0 := by unfold DC; rw [qE.1.1, qm.1.1]
  have d2 : DS hm hE = 0 := by unfold DS; rw [qE.1.slq, qm.1.slq]; exact Nat.sub_self _
  refine va_calli (run_VR (b := 0) (rm := RM fr lo hm hE) C w.2.1 (hM v hE ef) ⟨rfl, rfl⟩ hcode hlink hst hsel hini hd e8 hr hcl hR hl hro ⟨?_, ?_⟩ hdg hst0) w.2.2.2.2.2 (fun q _ hq => w.afm q hq) (w.afm) (fun r u t H1 locs1 ht hvm hw hB hz1 hk1 hS => ?_)
  · rw [d1]
    show hc.length + 37 + 0 ≤ 600000
    omega
  · rw [d2]
    show sl hc + slM + 0 ≤ 7302250
    unfold slM
    omega
  · try dsimp only at hw hB
    subst hw
    rw [ht] at hB
    rw [d1, d2]
    exact kk H1 locs1 hE qE (w.aft_m qm.1 qE.1 hB hk1 hS)
/-- a call of the reference, a long back -/
theorem l_ml (C : Cx G own cc nL rt nm p s m args meth c) (w : LW G s ρc hc ρm hm H locs) (rmc : hc.length + sl hc ≤ 400000) (qm : MR hm st) {f : PM Int64} {a : Int64} {fr lo : Nat} {r : vw_C} (tc : T f hm (fun v h' => v = a ∧ MR h' st'))
    (hM : ∀ v hE, f.1 hm = some (v, hE) → Met l y (wsY y bytes maxL ret) (RM fr lo hm hE) (va_Pc (.ref (ρm 0) :: As) (PcB G ρm hm H.size)) (QL G ρm v hE hm.length H.size) (DC hm hE) (DS hm hE) (Af ρm hm.length H.size))
    (hcode : Cond.code y bytes maxL ret ∈ tb) (hlink : Cond.methodLink own index y ∈ tb) (hst : Cond.instanceMethod y ∈ tb) (hsel : Cond.selects y.cls y y ∈ tb) (hini : Cond.initialized y.cls ∈ tb) (hd : y.cls ≠ "java/lang/invoke/MethodHandle" ∧ y.cls ≠ "java/lang/invoke/VarHandle" ∧ (parseMethodDescriptor y.desc).map (fun d => d.parameters.length) = some As.length) (hr : vwCl[9]? = some r) (hcl : r.1 = y.cls)
    (hR : fr + 1 ≤ 15 ∧ 8 + (maxL + 11) + lo ≤ 678) (hl : ls.size = nL) (hro : (rest.map fun v => v.category).sum ≤ 8) (hdg : decode cc pc = .ok (.invokevirtual index, 3)) (hst0 : st0 = As.reverse ++ .ref (ρm 0) :: rest)
    (kk : ∀ (H1 : Heap) (locs1 : List Loc) (hm1 : PH), MR hm1 st' → LW G s ρc hc ρm hm1 H1 locs1 → W p l e room_1 s m args below meth c H1 locs1 (hc.length + 37) (sl hc + slM) Q (F0 m (pc + 3) ls (.long a :: rest))) : W p l e room_1 s m args below meth c H locs (hc.length + 37) (sl hc + slM) Q (F0 m pc ls st0) := by
  obtain ⟨v, hE, ef, rfl, qE⟩ := tc
  obtain ⟨x, e8, -⟩ := qm.1.2.1 0 (by decide)
  have e8 : nth hm 0 = some (9, 51, x) := e8
  have d1 : DC hm hE = 0 := by unfold DC; rw [qE.1.1, qm.1.1]
  have d2 : DS hm hE = 0 := by unfold DS; rw [qE.1.slq, qm.1.slq]; exact Nat.sub_self _
  refine va_calll (run_VR (b := 0) (rm := RM fr lo hm hE) C w.2.1 (hM v hE ef) ⟨rfl, rfl⟩ hcode hlink hst hsel hini hd e8 hr hcl hR hl hro ⟨?_, ?_⟩ hdg hst0) w.2.2.2.2.2 (fun q _ hq => w.afm q hq) (w.afm) (fun r u t H1 locs1 ht hvm hw hB hz1 hk1 hS => ?_)
  · rw [d1]
    show hc.length + 37 + 0 ≤ 600000
    omega
  · rw [d2]
    show sl hc + slM + 0 ≤ 7302250
    unfold slM
    omega
  · try dsimp only at hw hB
    subst hw
    rw [ht] at hB
    rw [d1, d2]
    exact kk H1 locs1 hE qE (w.aft_m qm.1 qE.1 hB hk1 hS)
end LAW1
