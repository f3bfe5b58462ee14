/-- a row of coefficients that an operator keeps, or none yet -/
noncomputable def CfAt (h : PH) (w : Nat → Nat) (id im o k d : Nat) (t : Nat → Nat) : Prop := dig h o k = 1 ∨ ∃ c, dig h o k = c + 2 ∧ 27 ≤ c ∧ c < 1152921504606846976 ∧ c ≠ im ∧ w c = id ∧ Sh h c 18 (d + 1) ∧ ∀ i, i ≤ d → dig h c i = dgJ 1099511627776 (t i)
/-- where an operator's image row stands behind the level's cells -/
noncomputable def imI (N n : Nat) : Nat := dig (OC N n) 0 2 - 2 - (CL N).length
/-- an operator's cells, without what later calls write -/
noncomputable def OM (N n : Nat) : PH := match nth (OC N n) 0 with
  | none => []
  | some c => nset (nset (OC N n) 0 (c.1, c.2.1, ds (ds c.2.2 3 0) 4 0)) (imI N n) (18, dim N, 1)
/-- the operator at o; w names the owner of each cell -/
noncomputable def OrAt (h : PH) (w : Nat → Nat) (a o N n : Nat) : Prop := cop N n ∧ ∃ r : Nat → Nat, r 0 = a ∧ r (CL N).length = o ∧ (∀ b, 27 ≤ r b) ∧ (∀ b c, r b = r c → b = c) ∧ (∀ b, b < 1000 → r b < 1152921504606846976) ∧ Emb r (CL N ++ OM N n) h ∧ (∀ b, (CL N).length ≤ b → b < (CL N).length + (OC N n).length → w (r b) = 8 * N + n) ∧ CfAt h w (8 * N + n) (r ((CL N).length + imI N n)) o 3 (dim N) (tW N n) ∧ CfAt h w (8 * N + n) (r ((CL N).length + imI N n)) o 4 (cyc N) (tV N n)
/-- a made level with its operators' row -/
noncomputable def MdAt (h : PH) (w : Nat → Nat) (a N : Nat) : Prop := LevelAt h a N ∧ a < 1152921504606846976 ∧ 27 ≤ a ∧ ∃ p, dig h a 15 = p + 2 ∧ 27 ≤ p ∧ p < 1152921504606846976 ∧ w p = 1000 + N ∧ Sh h p 21 8 ∧ ∀ n, n < 8 → dig h p n = 1 ∨ ∃ o, dig h p n = o + 2 ∧ o < 1152921504606846976 ∧ 27 ≤ o ∧ OrAt h w a o N n
/-! the room: what is made may be no more than the potential says -/
def sumN (f : Nat → Nat) : Nat → Nat
  | 0 => 0
  | n + 1 => sumN f n + f n
noncomputable def opP (h : PH) (p n : Nat) : Nat := if dig h p n = 1 then 0 else 130 + ((if dig h (dig h p n - 2) 3 = 1 then 0 else 220) + (if dig h (dig h p n - 2) 4 = 1 then 0 else 220))
noncomputable def lvP (h : PH) (N : Nat) : Nat := if dig h 1 N = 1 then 0 else 4200 + sumN (opP h (dig h (dig h 1 N - 2) 15 - 2)) 8
noncomputable def pot (h : PH) : Nat := sumN (fun i => lvP h (i + 1)) 25
/-- cells and slots together -/
def mu (h : PH) : Nat := h.length + sl h
noncomputable def MKc (h : PH) (w : Nat → Nat) : Prop := ∀ N, 1 ≤ N → N ≤ 25 → dig h 1 N = 1 ∨ ∃ a, dig h 1 N = a + 2 ∧ MdAt h w a N
noncomputable def MK (bu : Nat) (h : PH) : Prop := mu h ≤ 2000 + pot h + bu ∧ ∃ w : Nat → Nat, MKc h w
noncomputable def NwAt (h : PH) : Prop := ∀ m, m < 61 → gi h 26 m = -1 ∨ (1 ≤ m ∧ eqI (gi h 26 m) (tfW m) = true)
def CtAt (h : PH) (t : List Int32) : Prop := CTx h (fun i => t.getD i 0) t.length
def Cn (h : PH) (c : Int32 × Int32 × Int32) : Prop := gi h 0 6 = c.1 ∧ gi h 0 7 = c.2.1 ∧ gi h 0 8 = c.2.2
/-- the class's heap holds the state st -/
noncomputable def CR (bu : Nat) (h : PH) (st : St) : Prop := CW h ∧ WS st.1 ∧ SAt h 2 st.1 ∧ (∃ g, SAt h 4 g) ∧ HAt h st.2.1 ∧ (∀ s ∈ st.2.1, WS s) ∧ CtAt h st.2.2.1 ∧ Cn h st.2.2.2 ∧ MK bu h ∧ NwAt h
noncomputable def ocB (N n : Nat) : Bool := !(Nat.ble 1 N && (Nat.ble 1 n && Nat.beq (Nat.gcd n N) 1)) || (match nth (OC N n) 0 with
  | none => false
  | some c => Nat.beq c.1 4)
theorem oc_all : allN 26 (fun N => allN 8 fun n => ocB N n) = true := by decide +kernel
theorem oc_0 {N n : Nat} (h : cop N n) : ∃ m x, nth (OC N n) 0 = some (4, m, x) := by
  obtain ⟨h1, h2, h3, h4, h5⟩ := h
  have k := allN_at (allN_at oc_all N (by omega)) n (by omega)
  have k : (!(Nat.ble 1 N && (Nat.ble 1 n && Nat.beq (Nat.gcd n N) 1)) || (match nth (OC N n) 0 with
    | none => false
    | some c => Nat.beq c.1 4)) = true := k
  rw [Nat.ble_eq_true_of_le h1, Nat.ble_eq_true_of_le h3, h5] at k
  have k2 : (match nth (OC N n) 0 with
    | none => false
    | some c => Nat.beq c.1 4) = true := k
  split at k2
  · cases k2
  · rename_i c e
    obtain ⟨t, m, x⟩ := c
    have : t = 4 := Nat.eq_of_beq_eq_true k2
    exact ⟨m, x, by rw [e, this]⟩
theorem oc_ne {N n : Nat} (h : cop N n) : OC N n ≠ [] := by
  intro z
  obtain ⟨m, x, e⟩ := oc_0 h
  rw [z] at e
  cases e
theorem om_len_eq {N n : Nat} (h : cop N n) : (OM N n).length = (OC N n).length := by
  obtain ⟨m, x, e⟩ := oc_0 h
  unfold OM
  rw [e]
  dsimp only
  rw [nset_len, nset_len]
theorem om_0 {N n : Nat} (h : cop N n) : ∃ c, nth (OM N n) 0 = some c := by
  have h2 : 0 < (OM N n).length := by
    rw [om_len_eq h]
    exact List.length_pos_iff.mpr (oc_ne h)
  exact ⟨(OM N n)[0], by rw [nth_eq]; exact List.getElem?_eq_getElem h2⟩
theorem or_lt {h : PH} {w : Nat → Nat} {a o N n : Nat} (q : OrAt h w a o N n) : o < h.length := by
  obtain ⟨h1, r, r0, r1, r2, r3, r4, em, hwr, c1, c2⟩ := q
  obtain ⟨c, e⟩ := om_0 h1
  have e2 : nth (CL N ++ OM N n) (CL N).length = some (c.1, c.2.1, c.2.2) := by
    rw [nth_app_right (Nat.le_refl _), Nat.sub_self]
    exact e
  obtain ⟨y, f1, -⟩ := em _ _ _ _ e2
  rw [r1] at f1
  exact nth_lt f1
theorem clh_all : allN 26 (fun N => Nat.beq N 0 || (match nth (CL N) 0 with
  | none => false
  | some c => Nat.beq c.1 3)) = true := by decide +kernel
theorem cl_head {N : Nat} (h1 : 1 ≤ N) (h2 : N ≤ 25) : ∃ t n x, nth (CL N) 0 = some (t, n, x) ∧ t = 3 := by
  have k := allN_at clh_all N (by omega)
  have k : (Nat.beq N 0 || (match nth (CL N) 0 with
    | none => false
    | some c => Nat.beq c.1 3)) = true := k
  rw [Bool.or_eq_true] at k
  rcases k with e | e
  · have := Nat.eq_of_beq_eq_true e
    omega
  · split at e
    · cases e
    · rename_i c e2
      exact ⟨c.1, c.2.1, c.2.2, e2, Nat.eq_of_beq_eq_true e⟩
section C10
variable {h h' : PH} {N bu : Nat}
theorem sumN_ext {f g : Nat → Nat} : ∀ n, (∀ i, i < n → f i = g i) → sumN f n = sumN g n
  | 0, _ => rfl
  | n + 1, q => by
    show sumN f n + f n = sumN g n + g n
    rw [sumN_ext n (fun i hi => q i (by omega)), q n (by omega)]
theorem sumN_le {f : Nat → Nat} {c : Nat} : ∀ n, (∀ i, i < n → f i ≤ c) → sumN f n ≤ n * c
  | 0, _ => Nat.zero_le _
  | n + 1, q => by
    show sumN f n + f n ≤ (n + 1) * c
    have h1 := sumN_le n (fun i hi => q i (by omega))
    have h2 := q n (by omega)
    rw [Nat.succ_mul]
    omega
theorem sumN_upd {f g : Nat → Nat} {k c : Nat} : ∀ n, k < n → (∀ i, i < n → i ≠ k → f i = g i) → f k = g k + c → sumN f n = sumN g n + c
  | 0, hk, _, _ => absurd hk (Nat.not_lt_zero _)
  | n + 1, hk, q, e => by
    show sumN f n + f n = sumN g n + g n + c
    by_cases z : k = n
    · subst z
      rw [sumN_ext k (fun i hi => q i (by omega) (by omega)), e]
      omega
    · rw [sumN_upd n (by omega) (fun i hi hn => q i (by omega) hn) e, q n (by omega) (fun y => z y.symm)]
      omega
theorem opP_le (p n : Nat) : opP h p n ≤ 570 := by
  unfold opP
  split
  · omega
  · split <;> split <;> omega
theorem lvP_le (N : Nat) : lvP h N ≤ 8760 := by
  unfold lvP
  split
  · omega
  · have := sumN_le (f := opP h (dig h (dig h 1 N - 2) 15 - 2)) 8 (fun i _ => opP_le _ _)
    omega
theorem pot_le : pot h ≤ 219000 := by
  have := sumN_le (f := fun i => lvP h (i + 1)) 25 (fun i _ => lvP_le _)
  unfold pot
  omega
/-- nothing but the digits of Ch has changed; cells may have come -/
def Up (Ch : Nat → Nat → Prop) (h h' : PH) : Prop := CW h' ∧ Ext h h' ∧ ∀ a k, a < h.length → ¬ Ch a k → dig h' a k = dig h a k
theorem Fc.up {S : List Nat} (f : Fc S h h') : Up (fun a _ => a ∈ S) h h' := ⟨f.1, f.2.1, fun a k hl hs => f.2.2.1 a k hl hs⟩
variable {Ch : Nat → Nat → Prop}
theorem Up.kn {a k d : Nat} (f : Up Ch h h') (e : dig h a k = d + 1) (hc : ¬ Ch a k) : dig h' a k = d + 1 := by
  rw [f.2.2 a k (dig_in e) hc]
  exact e
/-- no level's digit is among those -/
def ChL (Ch : Nat → Nat → Prop) (h : PH) : Prop := ∀ a k, Ch a k → (a < 27 ∧ (a = 1 → dig h 1 k = 1)) ∨ (27 ≤ a ∧ Mt h a)
theorem Emb.up {r : Nat → Nat} {e : PH} (q : Emb r e h) (f : Up Ch h h') (hr : ∀ b t n x, nth e b = some (t, n, x) → ∀ k, dg x k ≠ 0 → ¬ Ch (r b) k) : Emb r e h' := by
  intro b t n x hb
  obtain ⟨y, f1, f2⟩ := q b t n x hb
  obtain ⟨z, g1, -⟩ := f.2.1.2.2 _ _ f1
  refine ⟨z, g1, fun k => ?_⟩
  by_cases c : dg x k = 0
  · rw [c]
    exact Or.inl rfl
  · have := f.2.2 (r b) k (nth_lt f1) (hr b t n x hb k c)
    unfold dig at this
    rw [f1, g1] at this
    have e : dg z k = dg y k := this
    rw [e]
    exact f2 k
/-- a level's cell, known there: none of those -/
theorem lv_nCh {r : Nat → Nat} (hN : N ≤ 25) (hc : ChL Ch h) (r1 : ∀ b, 27 ≤ r b) {b t n x : Nat} (hb : nth (CL N) b = some (t, n, x)) {y : Nat} (f1 : nth h (r b) = some (t, n, y)) (k : Nat) (hx : dg x k ≠ 0) : ¬ Ch (r b) k := by
  intro z
  rcases hc _ _ z with ⟨z1, -⟩ | ⟨-, z2⟩
  · have := r1 b
    omega
  · obtain ⟨c, h1, h2⟩ := z2
    rw [f1] at h1
    have h3 := Option.some.inj h1
    rw [← h3] at h2
    have hin : (t, n, x) ∈ CL N := by
      rw [nth_eq] at hb
      exact List.mem_of_getElem? hb
    have h4 := List.all_eq_true.mp (allN_at mt_CL N (by omega)) _ hin
    have h5 : (!(mtT t) || Nat.beq x 1) = true := h4
    have h2' : mtT t = true := h2
    rw [h2'] at h5
    have h6 : x = 1 := Nat.eq_of_beq_eq_true h5
    rw [h6, dg_one] at hx
    exact hx rfl
theorem LevelAt.up {a : Nat} (q : LevelAt h a N) (f : Up Ch h h') (hc : ChL Ch h) : LevelAt h' a N := by
  obtain ⟨h1, h2, hl, r, r0, r1, r2, r3, em⟩ := q
  refine ⟨h1, h2, f.kn hl fun z => ?_, r, r0, r1, r2, r3, em.up f fun b t n x hb k hx => ?_⟩
  · rcases hc _ _ z with ⟨-, z2⟩ | ⟨z1, -⟩
    · have := z2 rfl
      omega
    · omega
  · obtain ⟨y, f1, -⟩ := em b t n x hb
    exact lv_nCh h2 hc r1 hb f1 k hx
theorem OM_len (N n : Nat) : (OM N n).length ≤ (OC N n).length := by
  unfold OM
  split
  · exact Nat.zero_le _
  · rw [nset_len, nset_len]
    exact Nat.le_refl _
theorem CfAt.up {w w' : Nat → Nat} {id im o k d : Nat} {t : Nat → Nat} (q : CfAt h w id im o k d t) (f : Up Ch h h') (hw : ∀ x, x < h.length → w' x = w x) (h1 : ¬ Ch o k) (h2 : ∀ c j m, 27 ≤ c → w c = id → c ≠ im → Sh h c 18 m → ¬ Ch c j) : CfAt h' w' id im o k d t := by
  rcases q with e | ⟨c, e1, e2, e3, e4, e5, e6, e7⟩
  · exact Or.inl (f.kn (d := 0) e h1)
  · refine Or.inr ⟨c, f.kn e1 h1, e2, e3, e4, by rw [hw c (sh_lt e6)]; exact e5, sh_ext e6 f.2.1, fun i hi => ?_⟩
    obtain ⟨v, hv⟩ : ∃ v, dgJ 1099511627776 (t i) = v + 1 := ⟨_, rfl⟩
    rw [hv]
    exact f.kn (by rw [e7 i hi, hv]) (h2 c i _ e2 e5 e4 e6)
theorem OrAt.up {w w' : Nat → Nat} {a o n : Nat} (q : OrAt h w a o N n) (f : Up Ch h h') (hc : ChL Ch h) (hw : ∀ x, x < h.length → w' x = w x) (hn : ∀ x k, Ch x k → 27 ≤ x → w x ≠ 8 * N + n) : OrAt h' w' a o N n := by
  obtain ⟨h1, r, r0, r1, r2, r3, r4, em, hwr, c1, c2⟩ := q
  have ho : 27 ≤ o := by rw [← r1]; exact r2 _
  have lo : ∀ b, b < (CL N ++ OM N n).length → r b < h.length := by
    intro b hb
    obtain ⟨c, hc⟩ : ∃ c, nth (CL N ++ OM N n) b = some c := ⟨(CL N ++ OM N n)[b], by rw [nth_eq]; exact List.getElem?_eq_getElem hb⟩
    obtain ⟨y, f1, -⟩ := em b c.1 c.2.1 c.2.2 hc
    exact nth_lt f1
  have own : ∀ b t m x, nth (CL N ++ OM N n) b = some (t, m, x) → (CL N).length ≤ b → w (r b) = 8 * N + n := by
    intro b t m x hb hl
    have h2 := nth_lt hb
    rw [List.length_append] at h2
    have := OM_len N n
    exact hwr b hl (by omega)
  have nop : ∀ c k, 27 ≤ c → w c = 8 * N + n → ¬ Ch c k := fun c k h27 e z => hn c k z h27 e
  have oC : OC N n ≠ [] → w o = 8 * N + n := by
    intro z
    rw [← r1]
    refine hwr _ (Nat.le_refl _) ?_
    have : 0 < (OC N n).length := List.length_pos_iff.mpr z
    omega
  have oz : OC N n ≠ [] := oc_ne h1
  refine ⟨h1, r, r0, r1, r2, r3, r4, em.up f fun b t m x hb k hx => ?_, fun b hl hb => ?_, c1.up f hw (nop o 3 ho (oC oz)) (fun c j _ x1 x2 _ _ => nop c j x1 x2), c2.up f hw (nop o 4 ho (oC oz)) (fun c j _ x1 x2 _ _ => nop c j x1 x2)⟩
  · by_cases cl : b < (CL N).length
    · obtain ⟨y, f1, -⟩ := em b t m x hb
      rw [nth_app_left cl] at hb
      exact lv_nCh h1.2.1 hc r2 hb f1 k hx
    · exact nop _ _ (r2 b) (own b t m x hb (by omega))
  · rw [hw _ ?_]
    · exact hwr b hl hb
    · refine lo b ?_
      rw [List.length_append]
      have := om_len_eq h1
      omega
/-- an operator's place in a level's row -/
noncomputable def OpS (h : PH) (w : Nat → Nat) (a p N n : Nat) : Prop := dig h p n = 1 ∨ ∃ o, dig h p n = o + 2 ∧ o < 1152921504606846976 ∧ 27 ≤ o ∧ OrAt h w a o N n
theorem opP_same {p n : Nat} (e1 : dig h' p n = dig h p n) (e2 : ∀ o, dig h p n = o + 2 → dig h' o 3 = dig h o 3 ∧ dig h' o 4 = dig h o 4) (e3 : dig h p n = 1 ∨ ∃ o, dig h p n = o + 2) : opP h' p n = opP h p n := by
  unfold opP
  rcases e3 with e | ⟨o, e⟩
  · rw [e1, if_pos e, if_pos e]
  · obtain ⟨x1, x2⟩ := e2 o e
    rw [e1, e, show o + 2 - 2 = o from rfl, x1, x2]
theorem OpS.up {w w' : Nat → Nat} {a p n : Nat} (q : OpS h w a p N n) (f : Up Ch h h') (hc : ChL Ch h) (hw : ∀ x, x < h.length → w' x = w x) (hp : ¬ Ch p n) (hn : ∀ x k, Ch x k → 27 ≤ x → w x ≠ 8 * N + n) : OpS h' w' a p N n ∧ opP h' p n = opP h p n := by
  rcases q with e | ⟨o, e1, e2, e3, e4⟩
  · have e' := f.kn (d := 0) e hp
    exact ⟨Or.inl e', opP_same (by rw [e', e]) (fun o z => by omega) (Or.inl e)⟩
  · have e' := f.kn e1 hp
    have wo : w o = 8 * N + n := by
      obtain ⟨h1, r, r0, r1, r2, r3, r4, em, hwr, c1, c2⟩ := e4
      rw [← r1]
      refine hwr _ (Nat.le_refl _) ?_
      have : 0 < (OC N n).length := List.length_pos_iff.mpr (oc_ne h1)
      omega
    refine ⟨Or.inr ⟨o, e', e2, e3, e4.up f hc hw hn⟩, opP_same (by rw [e', e1]) (fun o' z => ?_) (Or.inr ⟨o, e1⟩)⟩
    obtain rfl : o = o' := by omega
    have k3 : o < h.length := or_lt e4
    exact ⟨f.2.2 o 3 k3 (fun z => hn o 3 z e3 wo), f.2.2 o 4 k3 (fun z => hn o 4 z e3 wo)⟩
theorem lvP_made {a p : Nat} (e1 : dig h 1 N = a + 2) (e2 : dig h a 15 = p + 2) : lvP h N = 4200 + sumN (opP h p) 8 := by
  unfold lvP
  rw [if_neg (by omega), e1, show a + 2 - 2 = a from rfl, e2]
  rfl
theorem MdAt.up {w w' : Nat → Nat} {a : Nat} (q : MdAt h w a N) (e : dig h 1 N = a + 2) (f : Up Ch h h') (hc : ChL Ch h) (hw : ∀ x, x < h.length → w' x = w x) (hn : ∀ x k, Ch x k → 27 ≤ x → w x ≠ 1000 + N ∧ ∀ n, n < 8 → w x ≠ 8 * N + n) (ha : ∀ k, ¬ Ch a k) : MdAt h' w' a N ∧ lvP h' N = lvP h N := by
  obtain ⟨lv, la, l27, p, p1, p2, p3, p4, p5, p6⟩ := q
  have lv' := lv.up f hc
  have p1' := f.kn p1 (ha 15)
  have hp : ∀ k, ¬ Ch p k := fun k z => (hn p k z p2).1 p4
  have key : ∀ n, n < 8 → OpS h' w' a p N n ∧ opP h' p n = opP h p n := fun n hn8 => OpS.up (p6 n hn8) f hc hw (hp n) (fun x k z z2 => (hn x k z z2).2 n hn8)
  refine ⟨⟨lv', la, l27, p, p1', p2, p3, by rw [hw p (sh_lt p5)]; exact p4, sh_ext p5 f.2.1, fun n hn8 => (key n hn8).1⟩, ?_⟩
  rw [lvP_made lv'.2.2.1 p1', lvP_made e p1, sumN_ext 8 (fun i hi => (key i hi).2)]
/-- a level object is no cell that later calls write -/
theorem LevelAt.nCh {a : Nat} (q : LevelAt h a N) (hc : ChL Ch h) (k : Nat) : ¬ Ch a k := by
  obtain ⟨h1, h2, hl, r, r0, r1, r2, r3, em⟩ := q
  intro z
  rcases hc _ _ z with ⟨z1, -⟩ | ⟨-, z2⟩
  · have := r1 0
    omega
  · obtain ⟨c, hc1, hc2⟩ := z2
    obtain ⟨t, n, x, e, et⟩ := cl_head h1 h2
    obtain ⟨y, f1, -⟩ := em 0 t n x e
    rw [r0, hc1] at f1
    have := Option.some.inj f1
    rw [this, et] at hc2
    exact absurd (show mtT 3 = true from hc2) (by decide)
theorem MKc.up {w w' : Nat → Nat} (q : MKc h w) (f : Up Ch h h') (hc : ChL Ch h) (hw : ∀ x, x < h.length → w' x = w x) {N : Nat} (n1 : 1 ≤ N) (n2 : N ≤ 25) (h1 : ¬ Ch 1 N) (hn : ∀ x k, Ch x k → 27 ≤ x → w x ≠ 1000 + N ∧ ∀ n, n < 8 → w x ≠ 8 * N + n) : (dig h' 1 N = 1 ∨ ∃ a, dig h' 1 N = a + 2 ∧ MdAt h' w' a N) ∧ lvP h' N = lvP h N := by
  rcases q N n1 n2 with e | ⟨a, e, m⟩
  · have e' := f.kn (d := 0) e h1
    refine ⟨Or.inl e', ?_⟩
    unfold lvP
    rw [if_pos e, if_pos e']
  · obtain ⟨m', l⟩ := m.up e f hc hw hn (m.1.nCh hc)
    exact ⟨Or.inr ⟨a, f.kn e h1, m'⟩, l⟩
theorem MK.fc {S : List Nat} (q : MK bu h) (f : Fc S h h') (hC : CW h) (hs : ∀ x ∈ S, x < 27 ∧ x ≠ 1) : MK bu h' := by
  obtain ⟨m, w, q⟩ := q
  have key := fun N n1 n2 => MKc.up (w' := w) (N := N) q f.up (fun a k z => Or.inl ⟨(hs a z).1, fun e => absurd e (hs a z).2⟩) (fun _ _ => rfl) n1 n2 (fun z => (hs 1 z).2 rfl) (fun x k z z2 => by have := (hs x z).1; omega)
  refine ⟨?_, w, fun N n1 n2 => (key N n1 n2).1⟩
  have ep : pot h' = pot h := sumN_ext 25 (fun i hi => (key (i + 1) (by omega) (by omega)).2)
  unfold mu at m ⊢
  rw [ep, f.2.2.2.1, f.2.2.2.2]
  exact m
end C10
