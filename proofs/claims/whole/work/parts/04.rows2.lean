section ROWS2
variable {p : Program} {l : Launch} {e : Env} {R : Room} {s : State} {m : MethodId} {args : Array Value} {below : List Frame} {meth : Method} {c : Code} {H : Heap} {locs : List Loc} {cells slots : Nat} {Q : State → Prop}
variable {cc : ByteArray} {pc : Nat} {ls : Array Slot} {rest : List Value} {G : GG} {ρ : Nat → Nat} {n0 s0 : Nat} {H0 : Heap} {h h1 : PH} {own nm : String} {nL : Nat} {rt : Option FieldType}
/-- a row of the pure heap, in the machine's -/
theorem row_at (hW : Wd G ρ n0 s0 H0 h H locs cells slots) {t a n x : Nat} (hn : nth h a = some (t, n, x)) (ht : ¬ t < 16) : ∃ V : Nat → Value, H[ρ a]? = some (arrV (G.2 t) n V) ∧ ∀ k, k < n → vok ρ (kd t k) (dg x k) (V k) := by
  obtain ⟨V, hV, hok⟩ := hW.1.2.2 a _ hn
  rw [if_neg ht] at hV
  exact ⟨V, hV, hok⟩
theorem row_put (hW : Wd G ρ n0 s0 H0 h H locs cells slots) {t a n x k d j : Nat} {v : Value} {V : Nat → Value} {H1 : Heap} (hn : nth h a = some (t, n, x)) (ht : ¬ t < 16) (hok : ∀ k, k < n → vok ρ (kd t k) (dg x k) (V k)) (hv : vok ρ (kd t k) d v) (hd : d < 36893488147419103232) (e1 : H1[ρ a]? = some ((arrV (G.2 t) n V).setSlot k v)) (e2 : H1.size = H.size) (e3 : ∀ q, q ≠ ρ a → H1[q]? = H[q]?) : Wd G ρ n0 s0 H0 (nset h a (t, n, ds x k d)) H1 (locs ++ [⟨ρ a, j⟩]) cells slots := by
  refine hW.put hn _ e2 e3 ⟨updV V k v, ?_, fun i hi => ?_⟩
  · rw [if_neg ht]
    rw [e1, arrV_store]
  · dsimp only
    rw [dg_ds _ _ _ _ hd]
    by_cases ej : i = k
    · subst ej
      simp only [updV, if_true]
      exact hv
    · simp only [updV, if_neg ej]
      exact hok i hi
theorem in_of {j : Int32} {k n : Nat} {cA : ClassId} {V : Nat → Value} (q : aix j = some k) (hk : k < n) : ¬ (j < 0 ∨ (arrV cA n V).slots.size ≤ j.toNatClampNeg) := by
  obtain ⟨h1, h2⟩ := aix_some q
  rw [arrV_size, h2]
  rintro (h3 | h3)
  · exact h1 h3
  · omega
theorem lI_some {t a : Nat} {j v : Int32} (q : (lI t a j).1 h = some (v, h1)) : h1 = h ∧ ∃ k n x d, aix j = some k ∧ nth h a = some (t, n, x) ∧ k < n ∧ dg x k = d + 1 ∧ v = Int32.ofNat d := by
  unfold lI at q
  split at q
  · cases q
  · rename_i k e
    obtain ⟨e1, d, e2, e3⟩ := gI_some q
    obtain ⟨n, x, e4, e5, e6⟩ := rdD_some e2
    exact ⟨e1, k, n, x, d, e, e4, e5, e6, e3⟩
theorem lJ_some {t a : Nat} {j : Int32} {v : Int64} (q : (lJ t a j).1 h = some (v, h1)) : h1 = h ∧ ∃ k n x d, aix j = some k ∧ nth h a = some (t, n, x) ∧ k < n ∧ dg x k = d + 1 ∧ v = Int64.ofNat d := by
  unfold lJ at q
  split at q
  · cases q
  · rename_i k e
    obtain ⟨e1, d, e2, e3⟩ := gJ_some q
    obtain ⟨n, x, e4, e5, e6⟩ := rdD_some e2
    exact ⟨e1, k, n, x, d, e, e4, e5, e6, e3⟩
theorem lA_some {t a v : Nat} {j : Int32} (q : (lA t a j).1 h = some (v, h1)) : h1 = h ∧ ∃ k n x, aix j = some k ∧ nth h a = some (t, n, x) ∧ k < n ∧ dg x k = v + 1 + 1 := by
  unfold lA at q
  split at q
  · cases q
  · rename_i k e
    obtain ⟨e1, e2⟩ := gA_some q
    obtain ⟨n, x, e4, e5, e6⟩ := rdD_some e2
    exact ⟨e1, k, n, x, e, e4, e5, e6⟩
theorem lN_some {t a : Nat} {v : Option Nat} {j : Int32} (q : (lN' t a j).1 h = some (v, h1)) : h1 = h ∧ ∃ k n x d, aix j = some k ∧ nth h a = some (t, n, x) ∧ k < n ∧ dg x k = d + 1 ∧ v = (match d with
  | 0 => none
  | b + 1 => some b) := by
  unfold lN' at q
  split at q
  · cases q
  · rename_i k e
    obtain ⟨e1, d, e2, e3⟩ := gN_some q
    obtain ⟨n, x, e4, e5, e6⟩ := rdD_some e2
    exact ⟨e1, k, n, x, d, e, e4, e5, e6, e3⟩
theorem tI_some {t a : Nat} {j v : Int32} {u : Unit} (q : (tI t a j v).1 h = some (u, h1)) : ∃ k n x, aix j = some k ∧ nth h a = some (t, n, x) ∧ k < n ∧ h1 = nset h a (t, n, ds x k (eI v)) := by
  unfold tI at q
  split at q
  · cases q
  · rename_i k e
    obtain ⟨n, x, e4, e5, e6, -, e7⟩ := wrD_some (sD_some q)
    exact ⟨k, n, x, e, e4, e5, e7⟩
theorem tJ_some {t a : Nat} {j : Int32} {v : Int64} {u : Unit} (q : (tJ t a j v).1 h = some (u, h1)) : ∃ k n x, aix j = some k ∧ nth h a = some (t, n, x) ∧ k < n ∧ h1 = nset h a (t, n, ds x k (eJ v)) := by
  unfold tJ at q
  split at q
  · cases q
  · rename_i k e
    obtain ⟨n, x, e4, e5, e6, -, e7⟩ := wrD_some (sD_some q)
    exact ⟨k, n, x, e, e4, e5, e7⟩
theorem r_iald (C : Cx G own cc nL rt nm p s m args meth c) (hW : Wd G ρ n0 s0 H0 h H locs cells slots) {a : Nat} {j v : Int32} (hv : (lI 17 a j).1 h = some (v, h1)) (hdg : decode cc pc = .ok (.iaload, 1)) (kk : W p l e R s m args below meth c H locs cells slots Q (F0 m (pc + 1) ls (.int v :: rest))) : W p l e R s m args below meth c H locs cells slots Q (F0 m pc ls (.int j :: .ref (ρ a) :: rest)) := by
  obtain ⟨hx, hb, hml, hown, hts, hK, -⟩ := C
  obtain ⟨-, k, n, x, d, e1, e2, e3, e4, rfl⟩ := lI_some hv
  obtain ⟨V, q1, q2⟩ := row_at hW e2 (by decide)
  exact W.iald (v := .int (Int32.ofNat d)) hx hb q1 ((hK.2 1 _ rfl).1 n V) (fun q => by cases q) (in_of e1 e3) (by rw [(aix_some e1).2, arrV_read _ _ e3]; exact congrArg some ((q2 k e3).2 d e4)) rfl rfl hdg kk
theorem r_lald (C : Cx G own cc nL rt nm p s m args meth c) (hW : Wd G ρ n0 s0 H0 h H locs cells slots) {a : Nat} {j : Int32} {v : Int64} (hv : (lJ 18 a j).1 h = some (v, h1)) (hdg : decode cc pc = .ok (.laload, 1)) (kk : W p l e R s m args below meth c H locs cells slots Q (F0 m (pc + 1) ls (.long v :: rest))) : W p l e R s m args below meth c H locs cells slots Q (F0 m pc ls (.int j :: .ref (ρ a) :: rest)) := by
  obtain ⟨hx, hb, hml, hown, hts, hK, -⟩ := C
  obtain ⟨-, k, n, x, d, e1, e2, e3, e4, rfl⟩ := lJ_some hv
  obtain ⟨V, q1, q2⟩ := row_at hW e2 (by decide)
  exact W.lald (v := .long (Int64.ofNat d)) hx hb q1 ((hK.2 2 _ rfl).1 n V) (fun q => by cases q) (in_of e1 e3) (by rw [(aix_some e1).2, arrV_read _ _ e3]; exact congrArg some ((q2 k e3).2 d e4)) rfl rfl hdg kk
theorem r_bald (C : Cx G own cc nL rt nm p s m args meth c) (hW : Wd G ρ n0 s0 H0 h H locs cells slots) {a : Nat} {j v : Int32} (hv : (lI 16 a j).1 h = some (v, h1)) (hdg : decode cc pc = .ok (.baload, 1)) (kk : W p l e R s m args below meth c H locs cells slots Q (F0 m (pc + 1) ls (.int v :: rest))) : W p l e R s m args below meth c H locs cells slots Q (F0 m pc ls (.int j :: .ref (ρ a) :: rest)) := by
  obtain ⟨hx, hb, hml, hown, hts, hK, -⟩ := C
  obtain ⟨-, k, n, x, d, e1, e2, e3, e4, rfl⟩ := lI_some hv
  obtain ⟨V, q1, q2⟩ := row_at hW e2 (by decide)
  exact W.bald (v := .int (Int32.ofNat d)) hx hb q1 ((hK.2 0 _ rfl).1 n V) (fun q => by cases q) (in_of e1 e3) (by rw [(aix_some e1).2, arrV_read _ _ e3]; exact congrArg some ((q2 k e3).2 d e4)) rfl rfl hdg kk
theorem r_zald (C : Cx G own cc nL rt nm p s m args meth c) (hW : Wd G ρ n0 s0 H0 h H locs cells slots) {a : Nat} {j v : Int32} (hv : (lI 19 a j).1 h = some (v, h1)) (hdg : decode cc pc = .ok (.baload, 1)) (kk : W p l e R s m args below meth c H locs cells slots Q (F0 m (pc + 1) ls (.int v :: rest))) : W p l e R s m args below meth c H locs cells slots Q (F0 m pc ls (.int j :: .ref (ρ a) :: rest)) := by
  obtain ⟨hx, hb, hml, hown, hts, hK, -⟩ := C
  obtain ⟨-, k, n, x, d, e1, e2, e3, e4, rfl⟩ := lI_some hv
  obtain ⟨V, q1, q2⟩ := row_at hW e2 (by decide)
  exact W.zald (v := .int (Int32.ofNat d)) hx hb q1 ((hK.2 3 _ rfl).1 n V) (fun q => by cases q) (in_of e1 e3) (by rw [(aix_some e1).2, arrV_read _ _ e3]; exact congrArg some ((q2 k e3).2 d e4)) rfl rfl hdg kk
theorem kd_ref {t k : Nat} (h : 20 ≤ t) : kd t k = 2 := by
  unfold kd
  rw [if_neg (by omega), if_neg (by omega), if_pos h]
/-- an array of references: what the tables say of its class -/
theorem ref_arr {ca : Nat → ClassId} {D : va_G} {U : State} {t : Nat} (hK : va_K D vwCl (tysL ca) U) (h1 : 20 ≤ t) (h2 : t < 25) : ∃ ty, ty.isReference = true ∧ ArrOfT U (ca t) ty := by
  rcases (show t = 20 ∨ t = 21 ∨ t = 22 ∨ t = 23 ∨ t = 24 by omega) with rfl | rfl | rfl | rfl | rfl
  · exact ⟨_, rfl, (hK.2 4 _ rfl).1⟩
  · exact ⟨_, rfl, (hK.2 5 _ rfl).1⟩
  · exact ⟨_, rfl, (hK.2 6 _ rfl).1⟩
  · exact ⟨_, rfl, (hK.2 7 _ rfl).1⟩
  · exact ⟨_, rfl, (hK.2 8 _ rfl).1⟩
theorem r_aald (C : Cx G own cc nL rt nm p s m args meth c) (hW : Wd G ρ n0 s0 H0 h H locs cells slots) {t a v : Nat} {j : Int32} (hv : (lA t a j).1 h = some (v, h1)) (h20 : 20 ≤ t) (h25 : t < 25) (hdg : decode cc pc = .ok (.aaload, 1)) (kk : W p l e R s m args below meth c H locs cells slots Q (F0 m (pc + 1) ls (.ref (ρ v) :: rest))) : W p l e R s m args below meth c H locs cells slots Q (F0 m pc ls (.int j :: .ref (ρ a) :: rest)) := by
  obtain ⟨hx, hb, hml, hown, hts, hK, -⟩ := C
  obtain ⟨-, k, n, x, e1, e2, e3, e4⟩ := lA_some hv
  obtain ⟨V, q1, q2⟩ := row_at hW e2 (by omega)
  obtain ⟨ty, hty, har⟩ := ref_arr hK h20 h25
  have q3 := (q2 k e3).2 _ e4
  rw [kd_ref h20] at q3
  exact W.aald (v := .ref (ρ v)) hx hb q1 (har n V) hty (fun q => by cases q) (in_of e1 e3) (by rw [(aix_some e1).2, arrV_read _ _ e3]; exact congrArg some q3) rfl rfl hdg kk
theorem r_aaldN (C : Cx G own cc nL rt nm p s m args meth c) (hW : Wd G ρ n0 s0 H0 h H locs cells slots) {t a : Nat} {v : Option Nat} {j : Int32} (hv : (lN' t a j).1 h = some (v, h1)) (h20 : 20 ≤ t) (h25 : t < 25) (hdg : decode cc pc = .ok (.aaload, 1)) (kk : W p l e R s m args below meth c H locs cells slots Q (F0 m (pc + 1) ls (va_rf (v.map ρ) :: rest))) : W p l e R s m args below meth c H locs cells slots Q (F0 m pc ls (.int j :: .ref (ρ a) :: rest)) := by
  obtain ⟨hx, hb, hml, hown, hts, hK, -⟩ := C
  obtain ⟨-, k, n, x, d, e1, e2, e3, e4, rfl⟩ := lN_some hv
  obtain ⟨V, q1, q2⟩ := row_at hW e2 (by omega)
  obtain ⟨ty, hty, har⟩ := ref_arr hK h20 h25
  have q3 := (q2 k e3).2 _ e4
  rw [kd_ref h20] at q3
  cases d with
  | zero => exact W.aald (v := .null) hx hb q1 (har n V) hty (fun q => by cases q) (in_of e1 e3) (by rw [(aix_some e1).2, arrV_read _ _ e3]; exact congrArg some q3) rfl rfl hdg kk
  | succ b => exact W.aald (v := .ref (ρ b)) hx hb q1 (har n V) hty (fun q => by cases q) (in_of e1 e3) (by rw [(aix_some e1).2, arrV_read _ _ e3]; exact congrArg some q3) rfl rfl hdg kk
theorem r_iast (C : Cx G own cc nL rt nm p s m args meth c) (hW : Wd G ρ n0 s0 H0 h H locs cells slots) {a : Nat} {j v : Int32} {u : Unit} (hv : (tI 17 a j v).1 h = some (u, h1)) (hdg : decode cc pc = .ok (.iastore, 1)) (kk : ∀ (H1 : Heap) (locs1 : List Loc), Wd G ρ n0 s0 H0 h1 H1 locs1 cells slots → W p l e R s m args below meth c H1 locs1 cells slots Q (F0 m (pc + 1) ls rest)) : W p l e R s m args below meth c H locs cells slots Q (F0 m pc ls (.int v :: .int j :: .ref (ρ a) :: rest)) := by
  obtain ⟨hx, hb, hml, hown, hts, hK, -⟩ := C
  obtain ⟨k, n, x, e1, e2, e3, rfl⟩ := tI_some hv
  obtain ⟨V, q1, q2⟩ := row_at hW e2 (by decide)
  exact W.iast hx hb q1 ((hK.2 1 _ rfl).1 n V) (fun q => by cases q) (in_of e1 e3) rfl rfl hdg fun H1 f1 f2 f3 => kk H1 _ (row_put hW e2 (by decide) q2 (vok_I ρ v) (eI_lt v) (by rw [← (aix_some e1).2]; exact f1) f2 f3)
theorem r_last (C : Cx G own cc nL rt nm p s m args meth c) (hW : Wd G ρ n0 s0 H0 h H locs cells slots) {a : Nat} {j : Int32} {v : Int64} {u : Unit} (hv : (tJ 18 a j v).1 h = some (u, h1)) (hdg : decode cc pc = .ok (.lastore, 1)) (kk : ∀ (H1 : Heap) (locs1 : List Loc), Wd G ρ n0 s0 H0 h1 H1 locs1 cells slots → W p l e R s m args below meth c H1 locs1 cells slots Q (F0 m (pc + 1) ls rest)) : W p l e R s m args below meth c H locs cells slots Q (F0 m pc ls (.long v :: .int j :: .ref (ρ a) :: rest)) := by
  obtain ⟨hx, hb, hml, hown, hts, hK, -⟩ := C
  obtain ⟨k, n, x, e1, e2, e3, rfl⟩ := tJ_some hv
  obtain ⟨V, q1, q2⟩ := row_at hW e2 (by decide)
  exact W.last hx hb q1 ((hK.2 2 _ rfl).1 n V) (fun q => by cases q) (in_of e1 e3) rfl rfl hdg fun H1 f1 f2 f3 => kk H1 _ (row_put hW e2 (by decide) q2 (vok_J ρ v) (eJ_lt v) (by rw [← (aix_some e1).2]; exact f1) f2 f3)
theorem r_bast (C : Cx G own cc nL rt nm p s m args meth c) (hW : Wd G ρ n0 s0 H0 h H locs cells slots) {a : Nat} {j v : Int32} {u : Unit} (hv : (tI 16 a j v).1 h = some (u, h1)) (hn : narrow .byte (.int v) = .int v) (hdg : decode cc pc = .ok (.bastore, 1)) (kk : ∀ (H1 : Heap) (locs1 : List Loc), Wd G ρ n0 s0 H0 h1 H1 locs1 cells slots → W p l e R s m args below meth c H1 locs1 cells slots Q (F0 m (pc + 1) ls rest)) : W p l e R s m args below meth c H locs cells slots Q (F0 m pc ls (.int v :: .int j :: .ref (ρ a) :: rest)) := by
  obtain ⟨hx, hb, hml, hown, hts, hK, -⟩ := C
  obtain ⟨k, n, x, e1, e2, e3, rfl⟩ := tI_some hv
  obtain ⟨V, q1, q2⟩ := row_at hW e2 (by decide)
  exact W.bast hx hb q1 ((hK.2 0 _ rfl).1 n V) (fun q => by cases q) (in_of e1 e3) rfl rfl hdg fun H1 f1 f2 f3 => kk H1 _ (row_put hW e2 (by decide) q2 (vok_I ρ v) (eI_lt v) (by rw [← (aix_some e1).2, ← hn]; exact f1) f2 f3)
theorem r_zast (C : Cx G own cc nL rt nm p s m args meth c) (hW : Wd G ρ n0 s0 H0 h H locs cells slots) {a : Nat} {j v : Int32} {u : Unit} (hv : (tI 19 a j v).1 h = some (u, h1)) (hn : narrow .boolean (.int v) = .int v) (hdg : decode cc pc = .ok (.bastore, 1)) (kk : ∀ (H1 : Heap) (locs1 : List Loc), Wd G ρ n0 s0 H0 h1 H1 locs1 cells slots → W p l e R s m args below meth c H1 locs1 cells slots Q (F0 m (pc + 1) ls rest)) : W p l e R s m args below meth c H locs cells slots Q (F0 m pc ls (.int v :: .int j :: .ref (ρ a) :: rest)) := by
  obtain ⟨hx, hb, hml, hown, hts, hK, -⟩ := C
  obtain ⟨k, n, x, e1, e2, e3, rfl⟩ := tI_some hv
  obtain ⟨V, q1, q2⟩ := row_at hW e2 (by decide)
  exact W.zast hx hb q1 ((hK.2 3 _ rfl).1 n V) (fun q => by cases q) (in_of e1 e3) rfl rfl hdg fun H1 f1 f2 f3 => kk H1 _ (row_put hW e2 (by decide) q2 (vok_I ρ v) (eI_lt v) (by rw [← (aix_some e1).2, ← hn]; exact f1) f2 f3)
theorem r_aast (C : Cx G own cc nL rt nm p s m args meth c) (hW : Wd G ρ n0 s0 H0 h H locs cells slots) {te t a v t0 : Nat} {r : vw_C} {j : Int32} {u : Unit} (hv : (tA te t a j v).1 h = some (u, h1)) (hr : vwCl[te]? = some r) (h20 : 20 ≤ t) (ht0 : (tysL G.2)[t0]? = some (G.2 t, .object r.1)) (hdg : decode cc pc = .ok (.aastore, 1)) (kk : ∀ (H1 : Heap) (locs1 : List Loc), Wd G ρ n0 s0 H0 h1 H1 locs1 cells slots → W p l e R s m args below meth c H1 locs1 cells slots Q (F0 m (pc + 1) ls rest)) : W p l e R s m args below meth c H locs cells slots Q (F0 m pc ls (.ref (ρ v) :: .int j :: .ref (ρ a) :: rest)) := by
  obtain ⟨hx, hb, hml, hown, hts, hK, -⟩ := C
  obtain ⟨u1, h2, c1, c2⟩ := pb_some hv
  obtain ⟨rfl, nv, xv, hcv⟩ := chk_some c1
  split at c2
  · cases c2
  · rename_i k e1
    obtain ⟨n, x, e2, e3, e5, -, rfl⟩ := wrD_some (sD_some c2)
    obtain ⟨V, q1, q2⟩ := row_at hW e2 (by omega)
    have hte : te < 16 := Nat.lt_of_lt_of_le (List.getElem?_eq_some_iff.mp hr).1 (by decide)
    obtain ⟨V', hV', -⟩ := hW.1.2.2 v _ hcv
    rw [if_pos hte] at hV'
    obtain ⟨r', hr', -, cellV, g1, g2, g3, -⟩ := hV'
    have hcls := (hK.1 te r hr).2
    obtain ⟨kA, comp, k1, k2, k3, -⟩ := (hK.2 t0 _ ht0).2
    have hcomp : comp = G.1.1 te := Option.some.inj (k3.symm.trans hcls.1)
    subst hcomp
    obtain ⟨kC, hkC, -⟩ := hcls.2
    obtain ⟨a1, a2⟩ := aix_some e1
    refine W.aast hx hb q1 (fun q h => by cases h) (fun h => by cases h) k1 k2 rfl hkC ⟨a1, by rw [arrV_size, a2]; exact e3⟩ g1 (fun q h => by rw [g3] at h; cases h) (by rw [g2]; exact hkC) (by rw [g2]; exact va_assign hcls) rfl rfl hdg fun H1 f1 f2 f3 => ?_
    exact kk H1 _ (row_put hW e2 (by omega) q2 (by rw [kd_ref h20]; exact vok_A ρ v) e5 (by rw [← a2]; exact f1) f2 f3)
theorem r_alen (C : Cx G own cc nL rt nm p s m args meth c) (hW : Wd G ρ n0 s0 H0 h H locs cells slots) {a : Nat} {v : Int32} (hv : (aln a).1 h = some (v, h1)) (hdg : decode cc pc = .ok (.arraylength, 1)) (kk : W p l e R s m args below meth c H locs cells slots Q (F0 m (pc + 1) ls (.int v :: rest))) : W p l e R s m args below meth c H locs cells slots Q (F0 m pc ls (.ref (ρ a) :: rest)) := by
  obtain ⟨hx, hb, hml, hown, hts, hK, -⟩ := C
  obtain ⟨-, t, n, x, e2, e3, e4, rfl⟩ := aln_some hv
  obtain ⟨V, q1, q2⟩ := row_at hW e2 (by omega)
  have har : ∃ ty, ArrOfT s (G.2 t) ty := by
    by_cases q : 20 ≤ t
    · obtain ⟨ty, -, q⟩ := ref_arr hK q e4
      exact ⟨ty, q⟩
    · rcases (show t = 16 ∨ t = 17 ∨ t = 18 ∨ t = 19 by omega) with rfl | rfl | rfl | rfl
      · exact ⟨_, (hK.2 0 _ rfl).1⟩
      · exact ⟨_, (hK.2 1 _ rfl).1⟩
      · exact ⟨_, (hK.2 2 _ rfl).1⟩
      · exact ⟨_, (hK.2 3 _ rfl).1⟩
  obtain ⟨ty, har⟩ := har
  exact W.alen (n := Int32.ofNat n) hx hb q1 (har n V) (by rw [arrV_size] <;> rfl) rfl rfl hdg kk
/-- a method's ends -/
abbrev QI (G : GG) (ρ : Nat → Nat) (v : Int32) (h' : PH) (n0 z : Nat) := va_Qi (fun (r : Int32) (_ : Unit) => r = v) (fun _ t => Rep G ρ h' t.heap) (Af ρ n0 z)
abbrev QL (G : GG) (ρ : Nat → Nat) (v : Int64) (h' : PH) (n0 z : Nat) := va_Ql (fun (r : Int64) (_ : Unit) => r = v) (fun _ t => Rep G ρ h' t.heap) (Af ρ n0 z)
abbrev QV (G : GG) (ρ : Nat → Nat) (h' : PH) (n0 z : Nat) := va_Qv (fun (_ : Unit) => True) (fun _ t => Rep G ρ h' t.heap) (Af ρ n0 z)
abbrev QA (G : GG) (ρ : Nat → Nat) (v : Nat) (h' : PH) (n0 z : Nat) := va_Qr (fun (_ : Unit) => True) (fun _ a t => a = ρ v ∧ Rep G ρ h' t.heap) (Af ρ n0 z)
abbrev QN (G : GG) (ρ : Nat → Nat) (v : Option Nat) (h' : PH) (n0 z : Nat) := va_Qq (fun (r : Option Nat) (_ : Unit) => r = v.map ρ) (fun _ t => Rep G ρ h' t.heap) (Af ρ n0 z)
abbrev DC (h h' : PH) : Nat := h'.length - h.length
abbrev DS (h h' : PH) : Nat := sl h' - sl h
theorem Wd.cnt (hW : Wd G ρ n0 s0 H0 h H locs cells slots) : cells = h.length - n0 ∧ slots = sl h - s0 := by
  have := hW.2.1
  have := hW.2.2.1
  constructor <;> omega
theorem r_iret (C : Cx G own cc nL (some .int) nm p s m args meth c) (hW : Wd G ρ n0 s0 s.heap h H locs cells slots) {v : Int32} (hdg : decode cc pc = .ok (.ireturn, 1)) : W p l e R s m args below meth c H locs cells slots (MQ below (QI G ρ v h n0 s.heap.size) args s (h.length - n0) (sl h - s0) (Af ρ n0 s.heap.size)) (F0 m pc ls [.int v]) := by
  obtain ⟨hx, hb, hml, hown, hts, hK, hr, hlk, -⟩ := C
  obtain ⟨rfl, rfl⟩ := hW.cnt
  exact W.iret hx hb hr (fun t ht hw => ⟨⟨v, (), rfl, rfl, (show Rep G ρ h t.heap by rw [ht]; exact hW.1)⟩, hW.2.2.2.2.F ht⟩) hW.2.2.2.2.2.2 hdg hlk
theorem r_zret (C : Cx G own cc nL (some .boolean) nm p s m args meth c) (hW : Wd G ρ n0 s0 s.heap h H locs cells slots) {v : Int32} (hn : narrow .boolean (.int v) = .int v) (hdg : decode cc pc = .ok (.ireturn, 1)) : W p l e R s m args below meth c H locs cells slots (MQ below (QI G ρ v h n0 s.heap.size) args s (h.length - n0) (sl h - s0) (Af ρ n0 s.heap.size)) (F0 m pc ls [.int v]) := by
  obtain ⟨hx, hb, hml, hown, hts, hK, hr, hlk, -⟩ := C
  obtain ⟨rfl, rfl⟩ := hW.cnt
  exact W.zret hx hb hr hn (fun t ht hw => ⟨⟨v, (), rfl, rfl, (show Rep G ρ h t.heap by rw [ht]; exact hW.1)⟩, hW.2.2.2.2.F ht⟩) hW.2.2.2.2.2.2 hdg hlk
theorem r_lret (C : Cx G own cc nL (some .long) nm p s m args meth c) (hW : Wd G ρ n0 s0 s.heap h H locs cells slots) {v : Int64} (hdg : decode cc pc = .ok (.lreturn, 1)) : W p l e R s m args below meth c H locs cells slots (MQ below (QL G ρ v h n0 s.heap.size) args s (h.length - n0) (sl h - s0) (Af ρ n0 s.heap.size)) (F0 m pc ls [.long v]) := by
  obtain ⟨hx, hb, hml, hown, hts, hK, hr, hlk, -⟩ := C
  obtain ⟨rfl, rfl⟩ := hW.cnt
  exact W.lret hx hb hr (fun t ht hw => ⟨⟨v, (), rfl, rfl, (show Rep G ρ h t.heap by rw [ht]; exact hW.1)⟩, hW.2.2.2.2.F ht⟩) hW.2.2.2.2.2.2 hdg hlk
theorem r_vret (C : Cx G own cc nL none nm p s m args meth c) (hW : Wd G ρ n0 s0 s.heap h H locs cells slots) (hdg : decode cc pc = .ok (.return_, 1)) : W p l e R s m args below meth c H locs cells slots (MQ below (QV G ρ h n0 s.heap.size) args s (h.length - n0) (sl h - s0) (Af ρ n0 s.heap.size)) (F0 m pc ls []) := by
  obtain ⟨hx, hb, hml, hown, hts, hK, hr, hlk, -⟩ := C
  obtain ⟨rfl, rfl⟩ := hW.cnt
  exact W.vret hx hb hr (fun t ht hw => ⟨⟨(), rfl, trivial, (show Rep G ρ h t.heap by rw [ht]; exact hW.1)⟩, hW.2.2.2.2.F ht⟩) hW.2.2.2.2.2.2 hdg hlk
theorem r_aret {ty : FieldType} (C : Cx G own cc nL (some ty) nm p s m args meth c) (hW : Wd G ρ n0 s0 s.heap h H locs cells slots) (hty : (∃ n, ty = .object n) ∨ ∃ t, ty = .array t) {v : Nat} (hdg : decode cc pc = .ok (.areturn, 1)) : W p l e R s m args below meth c H locs cells slots (MQ below (QA G ρ v h n0 s.heap.size) args s (h.length - n0) (sl h - s0) (Af ρ n0 s.heap.size)) (F0 m pc ls [.ref (ρ v)]) := by
  obtain ⟨hx, hb, hml, hown, hts, hK, hr, hlk, -⟩ := C
  obtain ⟨rfl, rfl⟩ := hW.cnt
  exact W.aret hx hb hr hty (Or.inr ⟨_, rfl⟩) (fun t ht hw => ⟨⟨(), ρ v, rfl, trivial, rfl, (show Rep G ρ h t.heap by rw [ht]; exact hW.1)⟩, hW.2.2.2.2.F ht⟩) hW.2.2.2.2.2.2 hdg hlk
theorem r_aretN {ty : FieldType} (C : Cx G own cc nL (some ty) nm p s m args meth c) (hW : Wd G ρ n0 s0 s.heap h H locs cells slots) (hty : (∃ n, ty = .object n) ∨ ∃ t, ty = .array t) {v : Option Nat} (hdg : decode cc pc = .ok (.areturn, 1)) : W p l e R s m args below meth c H locs cells slots (MQ below (QN G ρ v h n0 s.heap.size) args s (h.length - n0) (sl h - s0) (Af ρ n0 s.heap.size)) (F0 m pc ls [va_rf (v.map ρ)]) := by
  obtain ⟨hx, hb, hml, hown, hts, hK, hr, hlk, -⟩ := C
  obtain ⟨rfl, rfl⟩ := hW.cnt
  exact W.aret hx hb hr hty (by cases v with
    | none => exact Or.inl rfl
    | some a => exact Or.inr ⟨_, rfl⟩) (fun t ht hw => ⟨⟨v.map ρ, (), rfl, rfl, (show Rep G ρ h t.heap by rw [ht]; exact hW.1)⟩, hW.2.2.2.2.F ht⟩) hW.2.2.2.2.2.2 hdg hlk
/-- the words that a callee's list can't hold -/
def lw_bad : List Cond := [(Jvm.Cond.methodLinkNest "PairSymbols$Level" (109 : Nat) ({ cls := "PairSymbols", name := "gcd", desc := "(II)I" } : Jvm.MethodName) "PairSymbols"), (Jvm.Cond.arrayOver (Jvm.ClassFile.FieldType.array Jvm.ClassFile.FieldType.int)), (Jvm.Cond.arrayOver (Jvm.ClassFile.FieldType.object "PairSymbols$Operato\x72")), (Jvm.Cond.arrayOver (Jvm.ClassFile.FieldType.object "PairSymbols$Level")), (Jvm.Cond.arrayOver (Jvm.ClassFile.FieldType.object "PairSymbols$State")), (Jvm.Cond.methodLinkNest "PairSymbols$Level" (127 : Nat) ({ cls := "PairSymbols", name := "within", desc := "(III)Z" } : Jvm.MethodName) "PairSymbols"), (Jvm.Cond.arrayOver (Jvm.ClassFile.FieldType.array Jvm.ClassFile.FieldType.long)), (Jvm.Cond.castable "[J" "java/lang/Cloneable"), (Jvm.Cond.methodLinkNest "PairSymbols$Formulas" (25 : Nat) ({ cls := "PairSymbols", name := "gcd", desc := "(II)I" } : Jvm.MethodName) "PairSymbols"), (Jvm.Cond.methodLinkNest "PairSymbols$State" (37 : Nat) ({ cls := "PairSymbols", name := "within", desc := "(III)Z" } : Jvm.MethodName) "PairSymbols"), (Jvm.Cond.methodLinkNest "PairSymbols$Script" (60 : Nat) ({ cls := "PairSymbols", name := "within", desc := "(III)Z" } : Jvm.MethodName) "PairSymbols")]
theorem tbl_good : (tb.all fun w => goodWord w || lw_bad.contains w) = true := by decide +kernel
def lw_ok : List Cond := tb.filter goodWord
theorem tbl_bad : ∀ w ∈ lw_bad, w ∈ tb := List.forall_mem_cons.mpr ⟨tq q_36 rfl, List.forall_mem_cons.mpr ⟨tq q_66 rfl, List.forall_mem_cons.mpr ⟨tq q_133 rfl, List.forall_mem_cons.mpr ⟨tq q_204 rfl, List.forall_mem_cons.mpr ⟨tq q_228 rfl, List.forall_mem_cons.mpr ⟨tq q_397 rfl, List.forall_mem_cons.mpr ⟨tq q_404 rfl, List.forall_mem_cons.mpr ⟨tq q_485 rfl, List.forall_mem_cons.mpr ⟨tq q_513 rfl, List.forall_mem_cons.mpr ⟨tq q_542 rfl, List.forall_mem_cons.mpr ⟨tq q_636 rfl, (fun _ hh => absurd hh List.not_mem_nil)⟩⟩⟩⟩⟩⟩⟩⟩⟩⟩⟩
theorem tbl_or {w : Cond} (h : w ∈ tb) : w ∈ lw_ok ∨ w ∈ lw_bad := by
  have h1 := List.all_eq_true.mp tbl_good w h
  rw [Bool.or_eq_true] at h1
  rcases h1 with h1 | h1
  · exact Or.inl (List.mem_filter.mpr ⟨h, h1⟩)
  · exact Or.inr (List.contains_iff_mem.mp h1)
theorem AOA.moved {ty : FieldType} {A A' : Array Value} {u U : State} (hvm : u.vm.Alike U.vm) (h : (Cond.arrayOver (.array ty)).before A u = true) : (Cond.arrayOver (.array ty)).before A' U = true := by
  unfold Cond.before Cond.holds at h ⊢
  simp only [Cond.value] at h ⊢
  cases hc : u.vm.findClass (FieldType.array ty).toString with
  | none => simp [hc] at h
  | some comp =>
    simp only [hc, Option.bind_some, Option.bind_eq_some_iff, Option.map_eq_some_iff, beq_iff_eq] at h
    obtain ⟨c, hi, k, hk, hb⟩ := h
    obtain ⟨k', hk', he⟩ := hvm.2.2 _ _ hk
    have e3 : U.vm.bare = u.vm.bare := by first | exact hvm.bare_eq | exact hvm.bare_eq.symm
    have hi' : (U.vm.classes.findIdx? fun (x : Class) => match x.kind with | .array component _ => component == comp | _ => false) = some c :=
      (va_idx_bare U.vm comp).symm.trans ((congrArg (fun v : Vm => v.classes.findIdx? fun (x : Class) => match x.kind with | .array component _ => component == comp | _ => false) e3).trans ((va_idx_bare u.vm comp).trans hi))
    have hk2 : k'.kind = k.kind := by
      have := congrArg Class.kind he
      exact this
    have f1 : U.vm.findClass (FieldType.array ty).toString = some comp := by rw [hvm.findClass]; exact hc
    rw [f1, Option.bind_some]
    refine (congrArg (fun o : Option Nat => (o.bind (fun c => (U.vm.classes[c]?).map fun (k : Class) => match k.kind with | .array _ t => decide (t = FieldType.array ty) && decide (U.vm.findClass ("[" ++ (FieldType.array ty).toString) = some c) | _ => false) == some true)) hi').trans ?_
    rw [hvm.findClass]
    simp only [Option.bind_some, hk', Option.map_some, beq_iff_eq, Option.some.injEq, hk2]
    exact hb
def Ex (U : State) : Prop := ∀ w ∈ lw_bad, ∀ A : Array Value, w.before A U = true
theorem Ex.moved {s U : State} (hW : s.WarmedH U.vm) (h : Ex s) : Ex U := List.forall_mem_cons.mpr ⟨fun A => (va_Nw.warmM hW (h _ (by decide +kernel) #[])).use rfl, List.forall_mem_cons.mpr ⟨fun A => AOA.moved (ty := .int) hW.alike (h _ (by decide +kernel) #[]), List.forall_mem_cons.mpr ⟨fun A => va_AO.moved (C := "PairSymbols$Operato\x72") hW.alike (h _ (by decide +kernel) #[]), List.forall_mem_cons.mpr ⟨fun A => va_AO.moved (C := "PairSymbols$Level") hW.alike (h _ (by decide +kernel) #[]), List.forall_mem_cons.mpr ⟨fun A => va_AO.moved (C := "PairSymbols$State") hW.alike (h _ (by decide +kernel) #[]), List.forall_mem_cons.mpr ⟨fun A => (va_Nw.warmM hW (h _ (by decide +kernel) #[])).use rfl, List.forall_mem_cons.mpr ⟨fun A => AOA.moved (ty := .long) hW.alike (h _ (by decide +kernel) #[]), List.forall_mem_cons.mpr ⟨fun A => (va_Nw.warmC hW (h _ (by decide +kernel) #[])).use rfl, List.forall_mem_cons.mpr ⟨fun A => (va_Nw.warmM hW (h _ (by decide +kernel) #[])).use rfl, List.forall_mem_cons.mpr ⟨fun A => (va_Nw.warmM hW (h _ (by decide +kernel) #[])).use rfl, List.forall_mem_cons.mpr ⟨fun A => (va_Nw.warmM hW (h _ (by decide +kernel) #[])).use rfl, (fun _ hh => absurd hh List.not_mem_nil)⟩⟩⟩⟩⟩⟩⟩⟩⟩⟩⟩
theorem Ex.same {s U : State} (hv : s.vm = U.vm) (h : Ex s) : Ex U := List.forall_mem_cons.mpr ⟨fun A => va_tabs rfl hv (h _ (by decide +kernel) #[]), List.forall_mem_cons.mpr ⟨fun A => AOA.moved (ty := .int) (by rw [hv]; exact Vm.Alike.refl _) (h _ (by decide +kernel) #[]), List.forall_mem_cons.mpr ⟨fun A => va_AO.moved (C := "PairSymbols$Operato\x72") (by rw [hv]; exact Vm.Alike.refl _) (h _ (by decide +kernel) #[]), List.forall_mem_cons.mpr ⟨fun A => va_AO.moved (C := "PairSymbols$Level") (by rw [hv]; exact Vm.Alike.refl _) (h _ (by decide +kernel) #[]), List.forall_mem_cons.mpr ⟨fun A => va_AO.moved (C := "PairSymbols$State") (by rw [hv]; exact Vm.Alike.refl _) (h _ (by decide +kernel) #[]), List.forall_mem_cons.mpr ⟨fun A => va_tabs rfl hv (h _ (by decide +kernel) #[]), List.forall_mem_cons.mpr ⟨fun A => AOA.moved (ty := .long) (by rw [hv]; exact Vm.Alike.refl _) (h _ (by decide +kernel) #[]), List.forall_mem_cons.mpr ⟨fun A => va_tabs rfl hv (h _ (by decide +kernel) #[]), List.forall_mem_cons.mpr ⟨fun A => va_tabs rfl hv (h _ (by decide +kernel) #[]), List.forall_mem_cons.mpr ⟨fun A => va_tabs rfl hv (h _ (by decide +kernel) #[]), List.forall_mem_cons.mpr ⟨fun A => va_tabs rfl hv (h _ (by decide +kernel) #[]), (fun _ hh => absurd hh List.not_mem_nil)⟩⟩⟩⟩⟩⟩⟩⟩⟩⟩⟩
/-- a method's start -/
def PcB (G : GG) (ρ : Nat → Nat) (h : PH) (z : Nat) (U : State) : Prop := U.heap.size = z ∧ Rep G ρ h U.heap ∧ va_K G.1 vwCl (tysL G.2) U ∧ Ex U
theorem blind (vs : List Value) (z : Nat) : FrameBlind (va_Pc vs (PcB G ρ h z)) := by
  intro a U g mk q
  obtain ⟨q0, q1, q2, q3, q4⟩ := q
  exact ⟨q0, q1, q2, va_K.moved (u := U) (U := U.calling g mk a) (Vm.Alike.refl U.vm) q3, Ex.same (s := U) (U := U.calling g mk a) rfl q4⟩
abbrev wsY (y : MethodName) (cc : ByteArray) (n : Nat) (rt : Option FieldType) : List Cond := .code y cc n rt :: lw_ok
theorem met_start {y : MethodName} {rm : Room} {Qc : Array Value → State → Outcome → State → Prop} {mc ms : Nat} {free : Addr → Prop} {vs : List Value} {z : Nat} (hy : plainName y.cls = true) (hlen : (lg_sl vs).length ≤ nL)
    (body : ∀ (p : Program) (e : Env) (s : State) (m : MethodId) (below : List Frame) (meth : Method) (c : Code) (ls : Array Slot), s.heap.size = z → Cx G y.cls cc nL rt y.name p s m vs.toArray meth c → Wd G ρ h.length (sl h) s.heap h s.heap [] 0 0 → lv_has ls nL (lv_args 0 vs) →
      W p l e rm s m vs.toArray below meth c s.heap [] 0 0 (MQ below Qc vs.toArray s mc ms free) (F0 m 0 ls [])) : Met l y (wsY y cc nL rt) rm (va_Pc vs (PcB G ρ h z)) Qc mc ms free := by
  refine Met.ofW (cc := cc) (maxL := nL) (ret := rt) hy rfl ?_
  intro p e s m args below meth c s₁ B hml hv
  obtain ⟨rfl, hsz, hR, hK, hE⟩ := hv
  have hts := atoms_spec (ws := wsY y cc nL rt) B.pre
  rw [lg_entry_eq]
  exact body p e s m below meth c _ hsz ⟨B.exec, B.bytes, hml, findClass_of_methodNamed B.named, fun w hw => (tbl_or hw).elim (fun h => hts w (List.mem_cons_of_mem _ h)) (fun h => hE w h _), hK, B.returns, B.notSynchronized, (name_of_methodNamed B.named B.method).1⟩ ⟨hR, by omega, by omega, hR.2.1, va_S.rf⟩ (lv_entry vs hlen)
/-- calls -/
theorem tbl_in {y : MethodName} {bytes : ByteArray} {maxL : Nat} {ret : Option FieldType} (hc : Cond.code y bytes maxL ret ∈ tb) : GoodIn tb (wsY y bytes maxL ret) := by
  intro w hw
  rcases List.mem_cons.mp hw with rfl | hw
  · exact ⟨hc, good_of_word rfl⟩
  · obtain ⟨h1, h2⟩ := List.mem_filter.mp hw
    exact ⟨h1, good_of_word h2⟩
end ROWS2
