section ROWS5
variable {p : Program} {l : Launch} {e : Env} {R : Room} {s : State} {m : MethodId} {args : Array Value} {below : List Frame} {meth : Method} {c : Code} {H : Heap} {locs : List Loc} {cells slots : Nat} {Q : State → Prop}
variable {cc : ByteArray} {pc : Nat} {ls : Array Slot} {rest st0 : List Value} {G : GG} {ρ : Nat → Nat} {n0 s0 : Nat} {H0 : Heap} {h h1 : PH} {own nm : String} {nL : Nat} {rt : Option FieldType}
theorem kd18 (k : Nat) : kd 18 k = 1 := rfl
theorem r_acp (C : Cx G own cc nL rt nm p s m args meth c) (hW : Wd G ρ n0 s0 H0 h H locs cells slots) {a b idx : Nat} {sp dp n : Int32} {u : Unit} (hv : (acp a sp b dp n).1 h = some (u, h1)) (hlink : Cond.methodLink own idx arraycopyName ∈ tb) (hnat : Cond.native arraycopyName ∈ tb) (hstat : Cond.static arraycopyName ∈ tb) (hini : Cond.initialized "java/lang/System" ∈ tb) (hl : ls.size = nL) (hro : (rest.map fun v => v.category).sum ≤ 8) (hframes : 1 ≤ R.frames) (hlocals : 8 + (nativeFrameWords "java/lang/System" "arraycopy" 5 + 11) ≤ R.locals) (hdg : decode cc pc = .ok (.invokestatic idx, 3))
    (kk : ∀ (H1 : Heap) (locs1 : List Loc), Wd G ρ n0 s0 H0 h1 H1 locs1 cells slots → W p l e R s m args below meth c H1 locs1 cells slots Q (F0 m (pc + 3) ls rest)) : W p l e R s m args below meth c H locs cells slots Q (F0 m pc ls (.int n :: .int dp :: .ref (ρ b) :: .int sp :: .ref (ρ a) :: rest)) := by
  obtain ⟨hx, hb, hml, hown, hts, hK, -⟩ := C
  obtain ⟨s', d', n', n1, x, n2, y, e1, e2, e3, e4, e5, e6, e7, rfl⟩ := acp_some hv
  obtain ⟨h1, rfl⟩ := aix_some e1
  obtain ⟨h2, rfl⟩ := aix_some e2
  obtain ⟨h3, rfl⟩ := aix_some e3
  obtain ⟨V0, q0, v0⟩ := row_at hW e4 (by decide)
  obtain ⟨V1, q1, v1⟩ := row_at hW e5 (by decide)
  have nn : ∀ z : Int32, ¬ z < 0 → z.toInt = (z.toNatClampNeg : Int) := by
    intro z hz
    have hz0 : (0 : Int) ≤ z.toInt := by
      have := Int32.not_lt.mp hz
      simpa using Int32.le_iff_toInt_le.mp this
    show z.toInt = ((z.toInt.toNat : Nat) : Int)
    omega
  intro T hT X
  obtain ⟨-, k0, hk0, cm0, hkk0⟩ := (hK.2 2 _ rfl).1 n1 V0
  obtain ⟨-, k1, hk1, cm1, hkk1⟩ := (hK.2 2 _ rfl).1 n2 V1
  obtain ⟨vm', X', step⟩ := X.arraycopy hx hown (hts _ hlink) (hts _ hnat) (hts _ hstat) (hts _ hini) (src := ρ a) (dst := ρ b) (cs := arrV (G.2 18) n1 V0) (cd := arrV (G.2 18) n2 V1) (srcPos := sp) (destPos := dp) (n := n) (by rw [hT]; exact q0) (by rw [hT]; exact q1)
    (fun _ h => by cases h) (fun _ h => by cases h) (fun h => by cases h) (fun h => by cases h) hk0 hk1 hkk0 hkk1 (by simp [refKind]) h1 h2 h3
    (by rw [nn sp h1, nn n h3, arrV_size]; omega)
    (by rw [nn dp h2, nn n h3, arrV_size]; omega)
    (fun vm₁ _ i hi => by
      have e : (arrV (G.2 18) n1 V0).slots.getD (sp.toNatClampNeg + i) .null = V0 (sp.toNatClampNeg + i) := by
        rw [Array.getD_eq_getD_getElem?, arrV_read _ _ (by omega)]
        rfl
      obtain ⟨z, hz⟩ := (v0 (sp.toNatClampNeg + i) (by omega)).1.2.1 rfl
      rw [e, hz]
      exact ⟨rfl, trivial⟩)
    (g := F0 m pc ls (.int n :: .int dp :: .ref (ρ b) :: .int sp :: .ref (ρ a) :: rest)) rfl (by rw [hml]; exact hl) (rest := rest) rfl (by rw [hb]; exact hdg) hframes (by show 2 * 0 + _ + _ ≤ _; omega)
  have ec : copied (arrV (G.2 18) n1 V0) (arrV (G.2 18) n2 V1) sp dp n = arrV (G.2 18) n2 (va_cpy V0 V1 sp.toNatClampNeg dp.toNatClampNeg n.toNatClampNeg) := va_copied (fun z => z) (G.2 18) (G.2 18) V0 V1 e6
  rw [ec] at X' step
  have hlt : ρ b < H.size := (Array.getElem?_eq_some_iff.mp q1).1
  have hheap : ((T.setVm vm').setCell (ρ b) (arrV (G.2 18) n2 (va_cpy V0 V1 sp.toNatClampNeg dp.toNatClampNeg n.toNatClampNeg))).heap = H.setIfInBounds (ρ b) (arrV (G.2 18) n2 (va_cpy V0 V1 sp.toNatClampNeg dp.toNatClampNeg n.toNatClampNeg)) := by rw [← hT]; rfl
  generalize hH1 : H.setIfInBounds (ρ b) (arrV (G.2 18) n2 (va_cpy V0 V1 sp.toNatClampNeg dp.toNatClampNeg n.toNatClampNeg)) = H1 at hheap
  have z1 : H1.size = H.size := by rw [← hH1]; simp
  have oq : ∀ q : Nat, q ≠ ρ b → H1[q]? = H[q]? := fun q hq => by rw [← hH1]; simp [Array.getElem?_setIfInBounds, Ne.symm hq]
  have ob : H1[ρ b]? = some (arrV (G.2 18) n2 (va_cpy V0 V1 sp.toNatClampNeg dp.toNatClampNeg n.toNatClampNeg)) := by rw [← hH1]; simp [Array.getElem?_setIfInBounds, hlt]
  have hWn := hW.put (H1 := H1) (j := 0) e5 (cpD x y sp.toNatClampNeg dp.toNatClampNeg n.toNatClampNeg) z1 oq ⟨va_cpy V0 V1 sp.toNatClampNeg dp.toNatClampNeg n.toNatClampNeg, by rw [if_neg (show ¬ 18 < 16 by decide)]; exact ob, fun k hk => by
    dsimp only at hk ⊢
    rw [dg_cpD]
    unfold va_cpy
    by_cases q : dp.toNatClampNeg ≤ k ∧ k < dp.toNatClampNeg + n.toNatClampNeg
    · rw [if_pos q, if_pos q]
      have := v0 (sp.toNatClampNeg + (k - dp.toNatClampNeg)) (by omega)
      exact this
    · rw [if_neg q, if_neg q]
      exact v1 k hk⟩
  have hS := hWn.2.2.2.2
  obtain ⟨t, a1, b1⟩ := kk H1 _ ⟨hWn.1, hWn.2.1, hWn.2.2.1, hWn.2.2.2.1, hS.1, hS.2.1, fun q hq => by
      rcases List.mem_append.mp hq with g | g
      · exact hW.2.2.2.2.2.2 q g
      · obtain ⟨z, -, hz⟩ := List.mem_map.mp g
        rw [← hz]
        exact hW.af b⟩ _ hheap X'
  exact ⟨t, step t a1, b1⟩
theorem r_clone (C : Cx G own cc nL rt nm p s m args meth c) (hW : Wd G ρ n0 s0 H0 h H locs cells slots) {a v idx : Nat} (hv : (cln a).1 h = some (v, h1)) (hlink : Cond.methodLink own idx ⟨"[J", "clone", "()Ljava/lang/Object;"⟩ ∈ tb) (hsame : Cond.sameMethod "[J" "java/lang/Object" "clone" "()Ljava/lang/Object;" ∈ tb) (hnat : Cond.native ⟨"java/lang/Object", "clone", "()Ljava/lang/Object;"⟩ ∈ tb) (hinst : Cond.instanceMethod ⟨"java/lang/Object", "clone", "()Ljava/lang/Object;"⟩ ∈ tb) (hsel : Cond.selects "[J" ⟨"[J", "clone", "()Ljava/lang/Object;"⟩ ⟨"java/lang/Object", "clone", "()Ljava/lang/Object;"⟩ ∈ tb) (hcl : Cond.castable "[J" "java/lang/Cloneable" ∈ tb) (hl : ls.size = nL) (hro : (rest.map fun v => v.category).sum ≤ 8) (hframes : 1 ≤ R.frames) (hlocals : 8 + 14 ≤ R.locals) (hcells : cells + DC h h1 ≤ R.cells ∧ slots + DS h h1 ≤ R.slots) (hdg : decode cc pc = .ok (.invokevirtual idx, 3))
    (kk : ∀ (H1 : Heap) (c1 s1 : Nat), Wd G ρ n0 s0 H0 h1 H1 locs c1 s1 → W p l e R s m args below meth c H1 locs c1 s1 Q (F0 m (pc + 3) ls (.ref (ρ v) :: rest))) : W p l e R s m args below meth c H locs cells slots Q (F0 m pc ls (.ref (ρ a) :: rest)) := by
  obtain ⟨hx, hb, hml, hown, hts, hK, -⟩ := C
  obtain ⟨n, x, e1, rfl, rfl⟩ := cln_some hv
  obtain ⟨V, q1, v1⟩ := row_at hW e1 (by decide)
  have d1 : DC h (h ++ [(18, n, x)]) = 1 := by unfold DC; simp
  have d2 : DS h (h ++ [(18, n, x)]) = n := by unfold DS; rw [sl_app]; simp [sl]
  rw [d1, d2] at hcells
  have hρ : ρ h.length = H.size := hW.1.2.1 0
  have hnm : s.vm.findClass "[J" = some (G.2 18) := (hK.2 2 _ rfl).2
  obtain ⟨c0, t0', f1, f2, f3⟩ := Cond.castable_spec (hts _ hcl)
  cases hnm.symm.trans f1
  intro T hT X
  obtain ⟨-, kA, hkA, comp, hkind⟩ := State.isArrayOf_alike X.warmed.alike ((hK.2 2 _ rfl).1 0 (fun _ => .null))
  obtain ⟨-, kS, hkS, compS, hkindS⟩ := (hK.2 2 _ rfl).1 0 (fun _ => .null)
  obtain ⟨vm', X', st⟩ := X.cloneArray hx hown (hts _ hlink) (hts _ hsame) (hts _ hnat) (hts _ hinst) (hts _ hsel) (a := ρ a) (cell := arrV (G.2 18) n V) (by rw [hT]; exact q1) (fun k h => by cases h) (fun h => by cases h) hnm f2 f3
    (fun i w hw => by
      have hi : i < n := by
        have := (Array.getElem?_eq_some_iff.mp hw).1
        rw [arrV_size] at this
        exact this
      rw [arrV_read _ _ hi] at hw
      cases hw
      obtain ⟨z, hz⟩ := (v1 i hi).1.2.1 rfl
      have hk' : T.vm.classes[G.2 18]? = some kA := hkA
      have hfit : fits .long (V i) = true := by rw [hz]; rfl
      show State.fitsSlot T (G.2 18) _ _ _ = true
      simpa [State.fitsSlot, State.slotType?, hk', hkind, arrV] using hfit)
    (g := F0 m pc ls (.ref (ρ a) :: rest)) rfl (by rw [hml]; exact hl) rfl (by rw [hb]; exact hdg) hframes (by show 2 * 0 + _ + 14 ≤ _; omega) hcells.1 (by rw [arrV_size]; exact hcells.2) (hloader := Vm.clonesLoader_of_array hkS hkindS)
  rw [arrV_size] at X'
  have hWn := hW.push (H1 := H.push (arrV (G.2 18) n V)) (18, n, x) (by simp) (fun q hq => by rw [Array.getElem?_push, if_neg (Nat.ne_of_lt hq)]) ⟨V, by rw [if_neg (show ¬ 18 < 16 by decide), hρ]; simp, v1⟩
  obtain ⟨t, b1, b2⟩ := kk (H.push (arrV (G.2 18) n V)) _ _ hWn ((T.setVm vm').pushCell (arrV (G.2 18) n V)) (by rw [← hT]; rfl) X'
  refine ⟨t, st t ?_, b2⟩
  rw [hρ] at b1
  rw [hT]
  exact b1
theorem r_castJ (C : Cx G own cc nL rt nm p s m args meth c) (hW : Wd G ρ n0 s0 H0 h H locs cells slots) {a n x idx : Nat} (hn : nth h a = some (18, n, x)) (hlink : Cond.classLink own idx "[J" ∈ tb) (hdg : decode cc pc = .ok (.checkcast idx, 3)) (kk : W p l e R s m args below meth c H locs cells slots Q (F0 m (pc + 3) ls (.ref (ρ a) :: rest))) : W p l e R s m args below meth c H locs cells slots Q (F0 m pc ls (.ref (ρ a) :: rest)) := by
  obtain ⟨hx, hb, hml, hown, hts, hK, -⟩ := C
  obtain ⟨V, q1, v1⟩ := row_at hW hn (by decide)
  have hnm : s.vm.findClass "[J" = some (G.2 18) := (hK.2 2 _ rfl).2
  intro T hT X
  obtain ⟨vm', X', st⟩ := X.checkcastYes hx hown (hts _ hlink) (by rw [hT]; exact q1) rfl hnm (va_asg _ _) (g := F0 m pc ls (.ref (ρ a) :: rest)) rfl rfl (by rw [hb]; exact hdg)
  obtain ⟨t, a1, b1⟩ := kk (T.setVm vm') hT X'
  exact ⟨t, st t a1, b1⟩
theorem outer_eq (c : ClassId) (N h0 : Nat) : ∀ i : Nat, Jvm.Free.Multi.outerC c N h0 i = arrV c N (fun j => va_rf (if j < i then some (h0 + 1 + j) else none))
  | 0 => by
    show ({ cls := c, slots := Array.replicate N .null, vm := .none } : Cell) = _
    rw [arrV_new]
    refine congrArg (arrV c N) (funext fun j => ?_)
    simp [va_rf]
  | i + 1 => by
    show (Jvm.Free.Multi.outerC c N h0 i).setSlot i (.ref (h0 + 1 + i)) = _
    rw [outer_eq c N h0 i, arrV_store]
    refine congrArg (arrV c N) (funext fun j => ?_)
    by_cases e : j = i
    · subst e
      simp [updV, va_rf]
    · by_cases h : j < i
      · simp [updV, e, h, Nat.lt_succ_of_lt h]
      · simp [updV, e, h, show ¬ j < i + 1 by omega]
theorem sl_rep (n t k x : Nat) : sl (List.replicate n (t, k, x)) = n * k := by simp [sl]
theorem r_mna (C : Cx G own cc nL rt nm p s m args meth c) (hW : Wd G ρ n0 s0 H0 h H locs cells slots) {t ti a idx tp tq' : Nat} {ty : FieldType} {i j : Int32} (hv : (mna t ti i j).1 h = some (a, h1)) (h20 : 20 ≤ t) (ht0 : (tysL G.2)[tp]? = some (G.2 t, .array ty)) (hti : ¬ ti < 16) (ht1 : (tysL G.2)[tq']? = some (G.2 ti, ty)) (hfc : va_RA s (G.2 ti) ty → s.vm.findClass (FieldType.array ty).toString = some (G.2 ti)) (hdv : defaultValue ty = dv ρ (kd ti 0) 0) (hkk : ∀ k, kd ti k = kd ti 0) (hsm : componentBytes ty ≤ 8) (hdf : fits ty (defaultValue ty) = true) (hdd : (defaultValue ty).isDefault = true) (hcl : Cond.classLink own idx ("[" ++ (FieldType.array ty).toString) ∈ tb) (hov : Cond.arrayOver (.array ty) ∈ tb) (har : Cond.arrayClass ty ∈ tb) (hcells : cells + DC h h1 ≤ R.cells ∧ slots + DS h h1 ≤ R.slots) (hdg : decode cc pc = .ok (.multianewarray idx 2, 4))
    (kk : ∀ (H1 : Heap) (locs1 : List Loc) (c1 s1 : Nat), Wd G ρ n0 s0 H0 h1 H1 locs1 c1 s1 → W p l e R s m args below meth c H1 locs1 c1 s1 Q (F0 m (pc + 4) ls (.ref (ρ a) :: rest))) : W p l e R s m args below meth c H locs cells slots Q (F0 m pc ls (.int j :: .int i :: rest)) := by
  obtain ⟨hx, hb, hml, hown, hts, hK, -⟩ := C
  obtain ⟨n, k, e1, e2, b1, b2, b3, rfl, rfl⟩ := mna_some hv
  obtain ⟨hn, rfl⟩ := aix_some e1
  obtain ⟨hk, rfl⟩ := aix_some e2
  have hl1 : (h ++ ((t, i.toNatClampNeg, refs (h.length + 3) i.toNatClampNeg) :: List.replicate i.toNatClampNeg (ti, j.toNatClampNeg, onesF j.toNatClampNeg))).length = h.length + 1 + i.toNatClampNeg := by simp; omega
  have hs1 : sl (h ++ ((t, i.toNatClampNeg, refs (h.length + 3) i.toNatClampNeg) :: List.replicate i.toNatClampNeg (ti, j.toNatClampNeg, onesF j.toNatClampNeg))) = sl h + (i.toNatClampNeg + i.toNatClampNeg * j.toNatClampNeg) := by
    rw [sl_app]
    have := sl_rep i.toNatClampNeg ti j.toNatClampNeg (onesF j.toNatClampNeg)
    simp only [sl, List.map_cons, List.sum_cons] at this ⊢
    omega
  have d1 : DC h (h ++ ((t, i.toNatClampNeg, refs (h.length + 3) i.toNatClampNeg) :: List.replicate i.toNatClampNeg (ti, j.toNatClampNeg, onesF j.toNatClampNeg))) = 1 + i.toNatClampNeg := by unfold DC; omega
  have d2 : DS h (h ++ ((t, i.toNatClampNeg, refs (h.length + 3) i.toNatClampNeg) :: List.replicate i.toNatClampNeg (ti, j.toNatClampNeg, onesF j.toNatClampNeg))) = i.toNatClampNeg + i.toNatClampNeg * j.toNatClampNeg := by unfold DS; omega
  rw [d1, d2] at hcells
  obtain ⟨⟨r1, r2, r3⟩, w1, w2, w3, w4⟩ := id hW
  intro T hT Xs
  obtain ⟨vm₁, cA, comp, -, fA, fC, hO, -, X', step⟩ := Xs.multianewarray2F hx hown (hts _ hcl) (hts _ hov) (hts _ har) (g := F0 m pc ls (.int j :: .int i :: rest)) rfl (by rw [hb]; exact hdg) rfl hn hk (by omega) (Nat.le_trans (Nat.mul_le_mul b2 hsm) (by decide)) (by omega) hdf hdd hcells.1 hcells.2
  have hcA : cA = G.2 t := Option.some.inj (fA.symm.trans (hK.2 tp _ ht0).2)
  have hcC : comp = G.2 ti := Option.some.inj (fC.symm.trans (hfc (hK.2 tq' _ ht1).2))
  subst hcA
  subst hcC
  generalize hF : Jvm.Free.Multi.fill (T.setVm vm₁) (G.2 t) (G.2 ti) i.toNatClampNeg j.toNatClampNeg (defaultValue ty) i.toNatClampNeg = F at X' step
  have hTh : (T.setVm vm₁).heap = H := hT
  obtain ⟨f1, f2, -, -⟩ := Jvm.Free.Multi.fill_facts (T.setVm vm₁) (G.2 t) (G.2 ti) i.toNatClampNeg j.toNatClampNeg (defaultValue ty) i.toNatClampNeg
  rw [hF, hTh] at f1 f2
  rw [outer_eq] at f2
  have hold : ∀ x : Nat, x < H.size → F.heap[x]? = H[x]? := fun x hx => by
    have := Jvm.Free.Multi.fill_old (T.setVm vm₁) (G.2 t) (G.2 ti) i.toNatClampNeg j.toNatClampNeg (defaultValue ty) (a := x) (by rw [hTh]; exact hx) i.toNatClampNeg
    rw [hF, hTh] at this
    exact this
  have hrow : ∀ q : Nat, q < i.toNatClampNeg → F.heap[H.size + 1 + q]? = some (arrV (G.2 ti) j.toNatClampNeg (fun _ => defaultValue ty)) := fun q hq => by
    have := Jvm.Free.Multi.fill_inner (T.setVm vm₁) (G.2 t) (G.2 ti) i.toNatClampNeg j.toNatClampNeg (defaultValue ty) i.toNatClampNeg q hq
    rw [hF, hTh] at this
    rw [this, ← arrV_new]
    rfl
  have hρ : ∀ q, ρ (h.length + q) = H.size + q := r2
  have hρ0 : ρ h.length = H.size := r2 0
  have hWn : Wd G ρ n0 s0 H0 (h ++ ((t, i.toNatClampNeg, refs (h.length + 3) i.toNatClampNeg) :: List.replicate i.toNatClampNeg (ti, j.toNatClampNeg, onesF j.toNatClampNeg))) F.heap locs (cells + 1 + i.toNatClampNeg) (slots + i.toNatClampNeg + i.toNatClampNeg * j.toNatClampNeg) := by
    refine ⟨⟨r1, fun q => ?_, fun b d qb => ?_⟩, by rw [hl1]; omega, by rw [hs1]; omega, w3, ⟨by rw [f1]; have := w4.1; omega, fun x g1 g2 => (hold x (Nat.lt_of_lt_of_le g1 w4.1)).trans (w4.2.1 x g1 g2), w4.2.2⟩⟩
    · rw [hl1, f1, show h.length + 1 + i.toNatClampNeg + q = h.length + (1 + i.toNatClampNeg + q) by omega, hρ]
      omega
    · by_cases g : b < h.length
      · rw [nth_app_left g] at qb
        exact (r3 b d qb).kept (hold _ (r3 b d qb).lt)
      · obtain ⟨q, rfl⟩ : ∃ q, b = h.length + q := ⟨b - h.length, by omega⟩
        rw [nth_app_right (by omega), show h.length + q - h.length = q by omega] at qb
        cases q with
        | zero =>
          cases qb
          refine ⟨fun q => va_rf (if q < i.toNatClampNeg then some (H.size + 1 + q) else none), ?_, fun q hq => ?_⟩
          · rw [if_neg (by show ¬ t < 16; omega), hρ]
            exact f2
          · dsimp only at hq ⊢
            rw [if_pos hq, kd_ref h20, dg_refs _ _ _ (by omega), if_pos hq]
            have := vok_A ρ (h.length + (1 + q))
            rw [hρ] at this
            simp only [eR] at this
            rw [show h.length + 3 + q = h.length + (1 + q) + 2 by omega, show H.size + 1 + q = H.size + (1 + q) by omega]
            exact this
        | succ q =>
          rw [nth_eq, List.getElem?_cons_succ, List.getElem?_replicate] at qb
          by_cases g2 : q < i.toNatClampNeg
          · rw [if_pos g2] at qb
            cases qb
            refine ⟨fun _ => defaultValue ty, ?_, fun q2 hq2 => ?_⟩
            · rw [if_neg hti, hρ, show H.size + (q + 1) = H.size + 1 + q by omega]
              exact hrow q g2
            · dsimp only at hq2 ⊢
              rw [dg_onesF, if_pos hq2]
              exact vok_0 _ _ _ (by rw [hkk q2]; exact hdv)
          · rw [if_neg g2] at qb
            cases qb
  obtain ⟨t9, a1, a2⟩ := kk F.heap locs _ _ hWn F rfl X'
  refine ⟨t9, step t9 ?_, a2⟩
  rw [hρ0] at a1
  rw [hT]
  exact a1
theorem r_mnaI (C : Cx G own cc nL rt nm p s m args meth c) (hW : Wd G ρ n0 s0 H0 h H locs cells slots) {a idx : Nat} {i j : Int32} (hv : (mna 23 17 i j).1 h = some (a, h1)) (hcl : Cond.classLink own idx "[[I" ∈ tb) (hov : Cond.arrayOver (.array .int) ∈ tb) (har : Cond.arrayClass .int ∈ tb) (hcells : cells + DC h h1 ≤ R.cells ∧ slots + DS h h1 ≤ R.slots) (hdg : decode cc pc = .ok (.multianewarray idx 2, 4))
    (kk : ∀ (H1 : Heap) (locs1 : List Loc) (c1 s1 : Nat), Wd G ρ n0 s0 H0 h1 H1 locs1 c1 s1 → W p l e R s m args below meth c H1 locs1 c1 s1 Q (F0 m (pc + 4) ls (.ref (ρ a) :: rest))) : W p l e R s m args below meth c H locs cells slots Q (F0 m pc ls (.int j :: .int i :: rest)) :=
  r_mna (ty := .int) (tp := 7) (tq' := 1) C hW hv (by decide) rfl (by decide) rfl (fun q => q) rfl (fun _ => rfl) (by decide) rfl rfl hcl hov har hcells hdg kk
theorem r_mnaJ (C : Cx G own cc nL rt nm p s m args meth c) (hW : Wd G ρ n0 s0 H0 h H locs cells slots) {a idx : Nat} {i j : Int32} (hv : (mna 24 18 i j).1 h = some (a, h1)) (hcl : Cond.classLink own idx "[[J" ∈ tb) (hov : Cond.arrayOver (.array .long) ∈ tb) (har : Cond.arrayClass .long ∈ tb) (hcells : cells + DC h h1 ≤ R.cells ∧ slots + DS h h1 ≤ R.slots) (hdg : decode cc pc = .ok (.multianewarray idx 2, 4))
    (kk : ∀ (H1 : Heap) (locs1 : List Loc) (c1 s1 : Nat), Wd G ρ n0 s0 H0 h1 H1 locs1 c1 s1 → W p l e R s m args below meth c H1 locs1 c1 s1 Q (F0 m (pc + 4) ls (.ref (ρ a) :: rest))) : W p l e R s m args below meth c H locs cells slots Q (F0 m pc ls (.int j :: .int i :: rest)) :=
  r_mna (ty := .long) (tp := 8) (tq' := 2) C hW hv (by decide) rfl (by decide) rfl (fun q => q) rfl (fun _ => rfl) (by decide) rfl rfl hcl hov har hcells hdg kk
end ROWS5
