/-- the tables' words but those on private methods -/
def isPr (w : Cond) : Bool := match w with
  | .privateMethod _ => true
  | _ => false
def tb : List Cond := lw_tbl.filter fun w => !isPr w
theorem tq {w : Cond} (h : w ∈ lw_tbl) (h2 : isPr w = false) : w ∈ tb := List.mem_filter.mpr ⟨h, by rw [h2]; rfl⟩
/-! THE MACHINE'S HEAP HOLDS A PURE ONE -/
def kdT : List (List Nat) := [[2, 2], [2], [2, 0], [0, 2, 0, 2, 2, 2, 2, 2, 2, 0, 2, 2, 0, 2, 2, 2], [2, 2, 2, 2, 2], [0, 2, 2, 0], [2, 0, 2, 2, 2, 0, 0, 0], [2, 2], [2, 2, 2, 2, 2, 2, 0, 0, 0], [2, 2, 2, 0, 2, 1, 1, 0, 0, 2, 2, 2, 2, 0, 0, 2, 2, 2, 2, 2, 2, 2, 2, 2, 2, 2, 0, 2, 2, 2, 2, 2, 2, 2, 2, 0, 2, 2, 2, 2, 2, 2, 2, 2, 2, 0, 0, 0, 0, 0, 0]]
/-- 0 int, 1 long, 2 reference -/
def kd (t k : Nat) : Nat := if t < 16 then (kdT.getD t []).getD k 0 else if t = 18 then 1 else if 20 ≤ t then 2 else 0
abbrev GG : Type := va_G × (Nat → ClassId)
def tysL (ca : Nat → ClassId) : List (ClassId × FieldType) := [(ca 16, .byte), (ca 17, .int), (ca 18, .long), (ca 19, .boolean), (ca 20, .object "PairSymbols$Level"), (ca 21, .object "PairSymbols$Operato\x72"), (ca 22, .object "PairSymbols$State"), (ca 23, .array .int), (ca 24, .array .long)]
def tyd (κ : Nat) (v : Value) : Prop := (κ = 0 → ∃ x, v = .int x) ∧ (κ = 1 → ∃ x, v = .long x) ∧ (κ = 2 → ∃ r : Option Nat, v = va_rf r)
def dv (ρ : Nat → Nat) (κ d : Nat) : Value := if κ = 0 then .int (Int32.ofNat d) else if κ = 1 then .long (Int64.ofNat d) else match d with
  | 0 => .null
  | a + 1 => .ref (ρ a)
def vok (ρ : Nat → Nat) (κ d : Nat) (v : Value) : Prop := tyd κ v ∧ ∀ d', d = d' + 1 → v = dv ρ κ d'
def cok (G : GG) (ρ : Nat → Nat) (a : Nat) (c : PC) (H : Heap) : Prop := ∃ V : Nat → Value, (if c.1 < 16 then (∃ r : vw_C, vwCl[c.1]? = some r ∧ r.2.2 = c.2.1 ∧ t_OB (ρ a) (G.1.1 c.1) c.2.1 (G.1.2 c.1) H V) else H[ρ a]? = some (arrV (G.2 c.1) c.2.1 V)) ∧ ∀ k, k < c.2.1 → vok ρ (kd c.1 k) (dg c.2.2 k) (V k)
def Rep (G : GG) (ρ : Nat → Nat) (h : PH) (H : Heap) : Prop := (∀ a b, ρ a = ρ b → a = b) ∧ (∀ i, ρ (h.length + i) = H.size + i) ∧ ∀ a c, nth h a = some c → cok G ρ a c H
def Af (ρ : Nat → Nat) (n0 z : Nat) : Nat → Prop := fun q => (∃ x, x < n0 ∧ q = ρ x) ∨ z ≤ q
def Wd (G : GG) (ρ : Nat → Nat) (n0 s0 : Nat) (H0 : Heap) (h : PH) (H : Heap) (locs : List Loc) (cells slots : Nat) : Prop :=
  Rep G ρ h H ∧ cells + n0 = h.length ∧ slots + s0 = sl h ∧ (∀ i, ρ (n0 + i) = H0.size + i) ∧ va_S (Af ρ n0 H0.size) H0 H locs
theorem vok_I (ρ : Nat → Nat) (x : Int32) : vok ρ 0 (eI x) (.int x) := by
  refine ⟨⟨fun _ => ⟨x, rfl⟩, fun h => absurd h (by decide), fun h => absurd h (by decide)⟩, fun d' e => ?_⟩
  have : d' = x.toBitVec.toNat := by unfold eI at e; omega
  rw [this]
  show _ = Value.int (Int32.ofNat _)
  rw [ofI]
theorem vok_J (ρ : Nat → Nat) (x : Int64) : vok ρ 1 (eJ x) (.long x) := by
  refine ⟨⟨fun h => absurd h (by decide), fun _ => ⟨x, rfl⟩, fun h => absurd h (by decide)⟩, fun d' e => ?_⟩
  have : d' = x.toBitVec.toNat := by unfold eJ at e; omega
  rw [this]
  show _ = Value.long (Int64.ofNat _)
  rw [ofJ]
theorem vok_R (ρ : Nat → Nat) (r : Option Nat) : vok ρ 2 (eR r) (va_rf (r.map ρ)) := by
  refine ⟨⟨fun h => absurd h (by decide), fun h => absurd h (by decide), fun _ => ⟨_, rfl⟩⟩, fun d' e => ?_⟩
  cases r with
  | none =>
    have : d' = 0 := by unfold eR at e; simp at e; omega
    subst this
    rfl
  | some a =>
    have : d' = a + 1 := by unfold eR at e; simp at e; omega
    subst this
    rfl
theorem vok_A (ρ : Nat → Nat) (a : Nat) : vok ρ 2 (eR (some a)) (.ref (ρ a)) := vok_R ρ (some a)
theorem cok.kept {G : GG} {ρ : Nat → Nat} {a : Nat} {c : PC} {H H1 : Heap} (h : cok G ρ a c H) (hq : H1[ρ a]? = H[ρ a]?) : cok G ρ a c H1 := by
  obtain ⟨V, h1, h2⟩ := h
  refine ⟨V, ?_, h2⟩
  by_cases ht : c.1 < 16
  · rw [if_pos ht] at h1 ⊢
    obtain ⟨r, e1, e2, e3⟩ := h1
    exact ⟨r, e1, e2, e3.kept hq⟩
  · rw [if_neg ht] at h1 ⊢
    rw [hq]
    exact h1
theorem cok.lt {G : GG} {ρ : Nat → Nat} {a : Nat} {c : PC} {H : Heap} (h : cok G ρ a c H) : ρ a < H.size := by
  obtain ⟨V, h1, h2⟩ := h
  by_cases ht : c.1 < 16
  · rw [if_pos ht] at h1
    obtain ⟨r, e1, e2, cell, e3, -⟩ := h1
    exact (Array.getElem?_eq_some_iff.mp e3).1
  · rw [if_neg ht] at h1
    exact (Array.getElem?_eq_some_iff.mp h1).1
theorem Wd.af {G : GG} {ρ : Nat → Nat} {n0 s0 : Nat} {H0 : Heap} {h : PH} {H : Heap} {locs : List Loc} {cells slots : Nat} (W0 : Wd G ρ n0 s0 H0 h H locs cells slots) (a : Nat) : Af ρ n0 H0.size (ρ a) := by
  by_cases q : a < n0
  · exact Or.inl ⟨a, q, rfl⟩
  · refine Or.inr ?_
    have := W0.2.2.2.1 (a - n0)
    rw [show n0 + (a - n0) = a by omega] at this
    omega
theorem Wd.put {G : GG} {ρ : Nat → Nat} {n0 s0 : Nat} {H0 : Heap} {h : PH} {H H1 : Heap} {locs : List Loc} {cells slots : Nat} (W0 : Wd G ρ n0 s0 H0 h H locs cells slots) {a j : Nat} {c : PC} (q : nth h a = some c) (x : Nat) (z : H1.size = H.size) (oq : ∀ q : Nat, q ≠ ρ a → H1[q]? = H[q]?) (hc : cok G ρ a (c.1, c.2.1, x) H1) : Wd G ρ n0 s0 H0 (nset h a (c.1, c.2.1, x)) H1 (locs ++ [⟨ρ a, j⟩]) cells slots := by
  obtain ⟨⟨r1, r2, r3⟩, w1, w2, w3, w4⟩ := id W0
  refine ⟨⟨r1, by rw [nset_len, z]; exact r2, fun b d qb => ?_⟩, by rw [nset_len]; exact w1, by rw [sl_nset (d := (c.1, c.2.1, x)) q rfl]; exact w2, w3, w4.put z oq (W0.af a)⟩
  by_cases e : b = a
  · subst e
    rw [nth_nset_same (nth_lt q)] at qb
    cases qb
    exact hc
  · rw [nth_nset_ne e] at qb
    exact (r3 b d qb).kept (oq _ fun f => e (r1 _ _ f))
theorem Wd.push {G : GG} {ρ : Nat → Nat} {n0 s0 : Nat} {H0 : Heap} {h : PH} {H H1 : Heap} {locs : List Loc} {cells slots : Nat} (W0 : Wd G ρ n0 s0 H0 h H locs cells slots) (c : PC) (z : H1.size = H.size + 1) (oq : ∀ q : Nat, q < H.size → H1[q]? = H[q]?) (hc : cok G ρ h.length c H1) : Wd G ρ n0 s0 H0 (h ++ [c]) H1 locs (cells + 1) (slots + c.2.1) := by
  obtain ⟨⟨r1, r2, r3⟩, w1, w2, w3, w4⟩ := id W0
  refine ⟨⟨r1, fun i => ?_, fun b d qb => ?_⟩, by simp; omega, by rw [sl_app]; simp [sl] at *; omega, w3, ⟨Nat.le_trans w4.1 (by omega), fun x h1 h2 => (oq x (Nat.lt_of_lt_of_le h1 w4.1)).trans (w4.2.1 x h1 h2), w4.2.2⟩⟩
  · have := r2 (1 + i)
    rw [List.length_append, List.length_singleton, z, show h.length + 1 + i = h.length + (1 + i) by omega, this]
    omega
  · by_cases e : b < h.length
    · rw [nth_app_left e] at qb
      exact (r3 b d qb).kept (oq _ (r3 b d qb).lt)
    · rw [nth_app_right (by omega)] at qb
      have e2 : b = h.length := by
        have := nth_lt qb
        simp at this
        omega
      subst e2
      rw [Nat.sub_self] at qb
      cases qb
      exact hc
/-- what holds of a class by the tables -/
def CT (t : Nat) (r : vw_C) : Prop := vwCl[t]? = some r ∧ (∀ w ∈ u_ws r.1 r.2.1 r.2.2, w ∈ tb) ∧ (∀ a, a < r.2.2 → ∀ b, b < r.2.2 → a ≠ b → (r.2.1 a).2.1 ≠ (r.2.1 b).2.1) ∧ ∃ ty : Nat → FieldType, (∀ k, k < r.2.2 → parseFieldDescriptor (r.2.1 k).2.2.1 = some (ty k)) ∧ ∀ k, k < r.2.2 → ((kd t k = 0 ∧ ty k = .int) ∨ (kd t k = 1 ∧ ty k = .long) ∨ (kd t k = 2 ∧ (ty k).isReference = true))
theorem inC0 : ∀ w ∈ u_ws RX0 TX0 2, w ∈ tb := by decide +kernel
theorem CT0 : CT 0 (RX0, TX0, 2) := ⟨rfl, inC0, nmX0, tyX0, tyX0_ok, by decide +kernel⟩
theorem inC1 : ∀ w ∈ u_ws RX1 TX1 1, w ∈ tb := by decide +kernel
theorem CT1 : CT 1 (RX1, TX1, 1) := ⟨rfl, inC1, nmX1, tyX1, tyX1_ok, by decide +kernel⟩
theorem inC2 : ∀ w ∈ u_ws RX2 TX2 2, w ∈ tb := by decide +kernel
theorem CT2 : CT 2 (RX2, TX2, 2) := ⟨rfl, inC2, nmX2, tyX2, tyX2_ok, by decide +kernel⟩
theorem inC3 : ∀ w ∈ u_ws RX3 TX3 16, w ∈ tb := by decide +kernel
theorem CT3 : CT 3 (RX3, TX3, 16) := ⟨rfl, inC3, nmX3, tyX3, tyX3_ok, by decide +kernel⟩
theorem inC4 : ∀ w ∈ u_ws RX5 TX5 5, w ∈ tb := by decide +kernel
theorem CT4 : CT 4 (RX5, TX5, 5) := ⟨rfl, inC4, nmX5, tyX5, tyX5_ok, by decide +kernel⟩
theorem inC5 : ∀ w ∈ u_ws RX6 TX6 4, w ∈ tb := by decide +kernel
theorem CT5 : CT 5 (RX6, TX6, 4) := ⟨rfl, inC5, nmX6, tyX6, tyX6_ok, by decide +kernel⟩
theorem inC6 : ∀ w ∈ u_ws RX7 TX7 8, w ∈ tb := by decide +kernel
theorem CT6 : CT 6 (RX7, TX7, 8) := ⟨rfl, inC6, nmX7, tyX7, tyX7_ok, by decide +kernel⟩
theorem inC7 : ∀ w ∈ u_ws RX8 TX8 2, w ∈ tb := by decide +kernel
theorem CT7 : CT 7 (RX8, TX8, 2) := ⟨rfl, inC7, nmX8, tyX8, tyX8_ok, by decide +kernel⟩
theorem inC8 : ∀ w ∈ u_ws RX9 TX9 9, w ∈ tb := by decide +kernel
theorem CT8 : CT 8 (RX9, TX9, 9) := ⟨rfl, inC8, nmX9, tyX9, tyX9_ok, by decide +kernel⟩
theorem inC9 : ∀ w ∈ u_ws RX10 TX10 51, w ∈ tb := by decide +kernel
theorem CT9 : CT 9 (RX10, TX10, 51) := ⟨rfl, inC9, nmX10, tyX10, tyX10_ok, by decide +kernel⟩

/-- a field's link -/
def FL (own : String) (idx t k : Nat) (fin : Bool) : Prop := ∃ r : vw_C, CT t r ∧ k < r.2.2 ∧ Cond.fieldLink own idx (r.2.1 k).1 (r.2.1 k).2.1 (r.2.1 k).2.2.1 ∈ tb ∧ (r.2.1 k).2.2.2 = fin ∧ (fin = true → (r.2.1 k).1 = own ∨ True)
def Cx (G : GG) (own : String) (cc : ByteArray) (nL : Nat) (rt : Option FieldType) (nm : String) (p : Program) (s : State) (m : MethodId) (args : Array Value) (meth : Method) (c : Code) : Prop :=
  p.tables.exec = Jvm.exec ∧ c.code = cc ∧ c.maxLocals = nL ∧ s.vm.findClass own = some m.cls ∧ (∀ w ∈ tb, w.before args s = true) ∧ va_K G.1 vwCl (tysL G.2) s ∧ meth.sig.returnType = rt ∧ meth.locks = false ∧ meth.name = nm
section ROWS
variable {p : Program} {l : Launch} {e : Env} {R : Room} {s : State} {m : MethodId} {args : Array Value} {below : List Frame} {meth : Method} {c : Code} {H : Heap} {locs : List Loc} {cells slots : Nat} {Q : State → Prop}
variable {cc : ByteArray} {pc : Nat} {ls : Array Slot} {rest : List Value} {G : GG} {ρ : Nat → Nat} {n0 s0 : Nat} {H0 : Heap} {h h1 : PH} {own nm : String} {nL : Nat} {rt : Option FieldType}
theorem r_get (C : Cx G own cc nL rt nm p s m args meth c) (hW : Wd G ρ n0 s0 H0 h H locs cells slots) {t k a idx d : Nat} {fin : Bool} (hF : FL own idx t k fin) (hv : rdD h t a k = some (d + 1)) (hdg : decode cc pc = .ok (.getfield idx, 3)) (kk : W p l e R s m args below meth c H locs cells slots Q (F0 m (pc + 3) ls (dv ρ (kd t k) d :: rest))) : W p l e R s m args below meth c H locs cells slots Q (F0 m pc ls (.ref (ρ a) :: rest)) := by
  obtain ⟨hx, hb, hml, hown, hts, hK, -⟩ := C
  obtain ⟨n, x, hn, hk, hd⟩ := rdD_some hv
  obtain ⟨r, ⟨hr, hin, -⟩, hkr, hlink, -⟩ := hF
  obtain ⟨V, hV, hok⟩ := hW.1.2.2 a _ hn
  have ht : t < 16 := Nat.lt_of_lt_of_le (List.getElem?_eq_some_iff.mp hr).1 (by decide)
  rw [if_pos ht] at hV
  obtain ⟨r', hr', hn', cell, q1, q2, q3, q4⟩ := hV
  obtain ⟨hS, hfc, kC, hkC, hkind⟩ := hK.1 t _ hr
  obtain ⟨cf, kf, fi, f, hi, hsl⟩ := hS k hkr
  refine W.getf hx hb hown (hts _ hlink) hi (u_facts hfc hkC (u_lays hts hin hkr) hi).1 q1 (by rw [q3]; exact fun h => by cases h) (v := dv ρ (kd t k) d) ?_ rfl rfl hdg kk
  rw [hsl, q4 k hk]
  exact congrArg some ((hok k hk).2 d hd)
theorem r_gI (C : Cx G own cc nL rt nm p s m args meth c) (hW : Wd G ρ n0 s0 H0 h H locs cells slots) {t k a idx : Nat} {v : Int32} {fin : Bool} (hv : (gI t k a).1 h = some (v, h1)) (hF : FL own idx t k fin) (hk : kd t k = 0) (hdg : decode cc pc = .ok (.getfield idx, 3)) (kk : W p l e R s m args below meth c H locs cells slots Q (F0 m (pc + 3) ls (.int v :: rest))) : W p l e R s m args below meth c H locs cells slots Q (F0 m pc ls (.ref (ρ a) :: rest)) := by
  obtain ⟨-, d, hd, rfl⟩ := gI_some hv
  refine r_get C hW hF hd hdg ?_
  rw [hk]
  exact kk
theorem r_gJ (C : Cx G own cc nL rt nm p s m args meth c) (hW : Wd G ρ n0 s0 H0 h H locs cells slots) {t k a idx : Nat} {v : Int64} {fin : Bool} (hv : (gJ t k a).1 h = some (v, h1)) (hF : FL own idx t k fin) (hk : kd t k = 1) (hdg : decode cc pc = .ok (.getfield idx, 3)) (kk : W p l e R s m args below meth c H locs cells slots Q (F0 m (pc + 3) ls (.long v :: rest))) : W p l e R s m args below meth c H locs cells slots Q (F0 m pc ls (.ref (ρ a) :: rest)) := by
  obtain ⟨-, d, hd, rfl⟩ := gJ_some hv
  refine r_get C hW hF hd hdg ?_
  rw [hk]
  exact kk
theorem r_gA (C : Cx G own cc nL rt nm p s m args meth c) (hW : Wd G ρ n0 s0 H0 h H locs cells slots) {t k a idx : Nat} {v : Nat} {fin : Bool} (hv : (gA t k a).1 h = some (v, h1)) (hF : FL own idx t k fin) (hk : kd t k = 2) (hdg : decode cc pc = .ok (.getfield idx, 3)) (kk : W p l e R s m args below meth c H locs cells slots Q (F0 m (pc + 3) ls (.ref (ρ v) :: rest))) : W p l e R s m args below meth c H locs cells slots Q (F0 m pc ls (.ref (ρ a) :: rest)) := by
  obtain ⟨-, hd⟩ := gA_some hv
  refine r_get C hW hF hd hdg ?_
  rw [hk]
  exact kk
theorem r_gN (C : Cx G own cc nL rt nm p s m args meth c) (hW : Wd G ρ n0 s0 H0 h H locs cells slots) {t k a idx : Nat} {v : Option Nat} {fin : Bool} (hv : (gN t k a).1 h = some (v, h1)) (hF : FL own idx t k fin) (hk : kd t k = 2) (hdg : decode cc pc = .ok (.getfield idx, 3)) (kk : W p l e R s m args below meth c H locs cells slots Q (F0 m (pc + 3) ls (va_rf (v.map ρ) :: rest))) : W p l e R s m args below meth c H locs cells slots Q (F0 m pc ls (.ref (ρ a) :: rest)) := by
  obtain ⟨-, d, hd, rfl⟩ := gN_some hv
  refine r_get C hW hF hd hdg ?_
  rw [hk]
  cases d with
  | zero => exact kk
  | succ b => exact kk
theorem fit_of {κ : Nat} {ty : FieldType} {v : Value} (h : (κ = 0 ∧ ty = .int) ∨ (κ = 1 ∧ ty = .long) ∨ (κ = 2 ∧ ty.isReference = true)) (hv : tyd κ v) : narrow ty v = v ∧ fits ty v = true := by
  rcases h with ⟨rfl, rfl⟩ | ⟨rfl, rfl⟩ | ⟨rfl, h⟩
  · obtain ⟨x, rfl⟩ := hv.1 rfl
    exact ⟨rfl, rfl⟩
  · obtain ⟨x, rfl⟩ := hv.2.1 rfl
    exact ⟨rfl, rfl⟩
  · obtain ⟨r, rfl⟩ := hv.2.2 rfl
    cases ty <;> first | (exfalso; revert h; decide) | (cases r <;> exact ⟨rfl, rfl⟩)
theorem r_put (C : Cx G own cc nL rt nm p s m args meth c) (hW : Wd G ρ n0 s0 H0 h H locs cells slots) {t k a idx d : Nat} {v : Value} {fin : Bool} (hv : wrD h t a k d = some h1) (hF : FL own idx t k fin) (hfin : fin = false ∨ (nm = "<init>" ∧ ∃ r : vw_C, vwCl[t]? = some r ∧ (r.2.1 k).1 = own)) (hok : vok ρ (kd t k) d v) (hdg : decode cc pc = .ok (.putfield idx, 3)) (kk : ∀ (H1 : Heap) (locs1 : List Loc), Wd G ρ n0 s0 H0 h1 H1 locs1 cells slots → W p l e R s m args below meth c H1 locs1 cells slots Q (F0 m (pc + 3) ls rest)) : W p l e R s m args below meth c H locs cells slots Q (F0 m pc ls (v :: .ref (ρ a) :: rest)) := by
  obtain ⟨hx, hb, hml, hown, hts, hK, -, -, hnm⟩ := C
  obtain ⟨n, x, hn, hk, hd, -, rfl⟩ := wrD_some hv
  obtain ⟨r, ⟨hr, hin, hnn, ty, hty, hkd⟩, hkr, hlink, hfi, -⟩ := hF
  obtain ⟨V, hV, hokV⟩ := hW.1.2.2 a _ hn
  have ht : t < 16 := Nat.lt_of_lt_of_le (List.getElem?_eq_some_iff.mp hr).1 (by decide)
  rw [if_pos ht] at hV
  obtain ⟨r', hr', hn', cell, q1, q2, q3, q4⟩ := hV
  have hrr : r' = r := Option.some.inj (hr'.symm.trans hr)
  subst hrr
  dsimp only at hn' q1 q2 q4
  subst hn'
  obtain ⟨C0, T0, N0⟩ := r'
  dsimp only at *
  have hap := va_apart (own := own) hts hin ty hty hnn hK hr
  obtain ⟨hS, hfc, kC, hkC, hkind⟩ := hK.1 t _ hr
  obtain ⟨cf, kf, fi, f, hi, hsl⟩ := hS k hkr
  have hst := (u_facts hfc hkC (u_lays hts hin hkr) hi).1
  obtain ⟨hn1, hfit⟩ := fit_of (hkd k hkr) hok.1
  have key : ∀ H' : Heap, H'[ρ a]? = some (cell.setSlot f.slot v) → H'.size = H.size → (∀ q, q ≠ ρ a → H'[q]? = H[q]?) → W p l e R s m args below meth c H' (locs ++ [⟨ρ a, f.slot⟩]) cells slots Q (F0 m (pc + 3) ls rest) := by
    intro H' e1 e2 e3
    refine kk H' _ (hW.put hn _ e2 e3 ⟨updV V k v, ?_, fun j hj => ?_⟩)
    · rw [if_pos ht]
      refine ⟨_, hr, rfl, cell.setSlot f.slot v, e1, q2, q3, ?_⟩
      rw [hsl]
      exact t_set q4 hap hkr v
    · dsimp only
      rw [dg_ds _ _ _ _ hd]
      by_cases ej : j = k
      · subst ej
        simp only [updV, if_true]
        exact hok
      · simp only [updV, if_neg ej]
        exact hokV j hj
  rcases hfin with rfl | ⟨rfl, r2, hr2, hdecl⟩
  · have hlay := hts _ (hin _ (u_in_lay hkr))
    unfold u_lay at hlay
    rw [if_neg (by rw [hfi]; decide)] at hlay
    have h6 := u_store hfc hkC hkind hlay hi (hty k hkr) hn1 hfit
    exact W.putK hx hb (f := f) ⟨hown, hts _ hlink, ⟨_, _, _, hi⟩, hst⟩ (by rw [q2]; exact h6) q1 q3 (by rw [hsl]; exact k2_hasslot (q4 k hkr)) rfl rfl hdg key
  · cases Option.some.inj (hr2.symm.trans hr)
    cases fin with
    | false =>
      have hlay := hts _ (hin _ (u_in_lay hkr))
      unfold u_lay at hlay
      rw [if_neg (by rw [hfi]; decide)] at hlay
      have h6 := u_store hfc hkC hkind hlay hi (hty k hkr) hn1 hfit
      exact W.putK hx hb (f := f) ⟨hown, hts _ hlink, ⟨_, _, _, hi⟩, hst⟩ (by rw [q2]; exact h6) q1 q3 (by rw [hsl]; exact k2_hasslot (q4 k hkr)) rfl rfl hdg key
    | true =>
      have hlay := hts _ (hin _ (u_in_lay hkr))
      unfold u_lay at hlay
      rw [if_pos hfi] at hlay
      have hcf : m.cls = cf := by
        obtain ⟨_, _, c', _, _, _, -, -, hf', -, -, -, hown2, -⟩ := Cond.laysFinal_spec hlay
        have e1 : c' = cf := by have := hi.symm.trans hf'; simp at this; exact this.1.symm
        rw [hdecl] at hown2
        rw [← e1]; exact Option.some.inj (hown.symm.trans hown2)
      have h6 := u_fits hfc hkC hkind (Or.inr hlay) hi (hty k hkr) hn1 hfit
      exact W.putFinK hx hb hown (hts _ hlink) hi hst hcf hnm (by rw [q2]; exact h6) q1 q3 (by rw [hsl]; exact k2_hasslot (q4 k hkr)) rfl rfl hdg key
theorem r_sI (C : Cx G own cc nL rt nm p s m args meth c) (hW : Wd G ρ n0 s0 H0 h H locs cells slots) {t k a idx : Nat} {u : Unit} {v : Int32} {fin : Bool} (hv : (sI t k a v).1 h = some (u, h1)) (hF : FL own idx t k fin) (hfin : fin = false ∨ (nm = "<init>" ∧ ∃ r : vw_C, vwCl[t]? = some r ∧ (r.2.1 k).1 = own)) (hk : kd t k = 0) (hdg : decode cc pc = .ok (.putfield idx, 3)) (kk : ∀ (H1 : Heap) (locs1 : List Loc), Wd G ρ n0 s0 H0 h1 H1 locs1 cells slots → W p l e R s m args below meth c H1 locs1 cells slots Q (F0 m (pc + 3) ls rest)) : W p l e R s m args below meth c H locs cells slots Q (F0 m pc ls (.int v :: .ref (ρ a) :: rest)) :=
  r_put C hW (sD_some hv) hF hfin (by rw [hk]; exact vok_I ρ v) hdg kk
theorem r_sJ (C : Cx G own cc nL rt nm p s m args meth c) (hW : Wd G ρ n0 s0 H0 h H locs cells slots) {t k a idx : Nat} {u : Unit} {v : Int64} {fin : Bool} (hv : (sJ t k a v).1 h = some (u, h1)) (hF : FL own idx t k fin) (hfin : fin = false ∨ (nm = "<init>" ∧ ∃ r : vw_C, vwCl[t]? = some r ∧ (r.2.1 k).1 = own)) (hk : kd t k = 1) (hdg : decode cc pc = .ok (.putfield idx, 3)) (kk : ∀ (H1 : Heap) (locs1 : List Loc), Wd G ρ n0 s0 H0 h1 H1 locs1 cells slots → W p l e R s m args below meth c H1 locs1 cells slots Q (F0 m (pc + 3) ls rest)) : W p l e R s m args below meth c H locs cells slots Q (F0 m pc ls (.long v :: .ref (ρ a) :: rest)) :=
  r_put C hW (sD_some hv) hF hfin (by rw [hk]; exact vok_J ρ v) hdg kk
theorem r_sA (C : Cx G own cc nL rt nm p s m args meth c) (hW : Wd G ρ n0 s0 H0 h H locs cells slots) {t k a idx v : Nat} {u : Unit} {fin : Bool} (hv : (sR t k a (some v)).1 h = some (u, h1)) (hF : FL own idx t k fin) (hfin : fin = false ∨ (nm = "<init>" ∧ ∃ r : vw_C, vwCl[t]? = some r ∧ (r.2.1 k).1 = own)) (hk : kd t k = 2) (hdg : decode cc pc = .ok (.putfield idx, 3)) (kk : ∀ (H1 : Heap) (locs1 : List Loc), Wd G ρ n0 s0 H0 h1 H1 locs1 cells slots → W p l e R s m args below meth c H1 locs1 cells slots Q (F0 m (pc + 3) ls rest)) : W p l e R s m args below meth c H locs cells slots Q (F0 m pc ls (.ref (ρ v) :: .ref (ρ a) :: rest)) :=
  r_put C hW (sD_some hv) hF hfin (by rw [hk]; exact vok_A ρ v) hdg kk
end ROWS
