/-! LEVELS in the class's heap -/
noncomputable def rqB (h : PH) (t a k d : Nat) : Bool := match rdD h t a k with
  | none => false
  | some e => Nat.beq e d
noncomputable def lF (N k : Nat) : Nat := dig (CL N) 0 k - 2
noncomputable def lX (N s : Nat) : Nat := dig (CL N) (lF N 13) s - 2
noncomputable def lvOK (N : Nat) : Bool :=
  (rqB (CL N) 3 0 0 (N + 1) && (rqB (CL N) 3 0 2 (cnt N + 1) && (rqB (CL N) 3 0 9 (cus N + 1) && rqB (CL N) 3 0 12 (dim N + 1)))) &&
  (allL [1, 3, 4, 5, 6, 7, 8, 10, 11, 13, 14, 15] (fun k => rqB (CL N) 3 0 k (lF N k + 2)) &&
  (allN N (fun c => allN N fun d => rqB (CL N) 17 (lF N 1) (c * N + d) (dgI 1 (tP N c d))) &&
  (allN (cnt N) (fun s => (rqB (CL N) 17 (lF N 3) s (tC N s + 1) && rqB (CL N) 17 (lF N 4) s (tD N s + 1)) && ((rqB (CL N) 17 (lF N 5) s (tS N s + 1) && (rqB (CL N) 17 (lF N 6) s (tR N s + 1) && rqB (CL N) 17 (lF N 7) s (tU N s + 1))) && (rqB (CL N) 17 (lF N 8) s (tK N s + 1) && rqB (CL N) 17 (lF N 11) s (dgI 1 (tG N s))))) &&
  (allN (dim N) (fun i => rqB (CL N) 17 (lF N 10) i (tF N i + 1)) &&
  (allN (cnt N) (fun s => rqB (CL N) 23 (lF N 13) s (lX N s + 2) && allN (dim N) fun i => rqB (CL N) 17 (lX N s) i (dgI 1 (tX N s i))) &&
  (rqB (CL N) 0 (lF N 14) 0 (dig (CL N) (lF N 14) 0 - 2 + 2) && (match nth (CL N) (dig (CL N) (lF N 14) 0 - 2) with
    | none => false
    | some c => Nat.beq c.1 17 && Nat.beq c.2.1 (cyc N))))))))
theorem lv_all : allN 26 (fun N => Nat.beq N 0 || lvOK N) = true := by decide +kernel
section C4
variable {h h' : PH} {N : Nat}
theorem lv_ok (h1 : 1 ≤ N) (h2 : N ≤ 25) : lvOK N = true := by
  have := allN_at lv_all N (by omega)
  rw [Bool.or_eq_true] at this
  rcases this with e | e
  · have := Nat.eq_of_beq_eq_true e
    omega
  · exact e
theorem rqB_at {t a k d : Nat} (q : rqB h t a k d = true) : rdD h t a k = some d := by
  unfold rqB at q
  split at q
  · cases q
  · rename_i e he
    rw [he, Nat.eq_of_beq_eq_true q]
/-- the literal heap e lies in h, cell b at r b -/
def Emb (r : Nat → Nat) (e h : PH) : Prop := ∀ b t n x, nth e b = some (t, n, x) → ∃ y, nth h (r b) = some (t, n, y) ∧ ∀ k, dR r (kd t k) (dg x k) (dg y k)
theorem Emb.rd {r : Nat → Nat} {e : PH} (q : Emb r e h) {t b k d : Nat} (he : rdD e t b k = some (d + 1)) (hk : kd t k ≠ 2) : rdD h t (r b) k = some (d + 1) := by
  obtain ⟨n, x, e1, e2, e3⟩ := rdD_some he
  obtain ⟨y, f1, f2⟩ := q b t n x e1
  have := f2 k
  rw [e3] at this
  rw [rdD_of f1 e2, this.v hk]
theorem Emb.rf {r : Nat → Nat} {e : PH} (q : Emb r e h) {t b k c : Nat} (he : rdD e t b k = some (c + 2)) (hk : kd t k = 2) : rdD h t (r b) k = some (r c + 2) := by
  obtain ⟨n, x, e1, e2, e3⟩ := rdD_some he
  obtain ⟨y, f1, f2⟩ := q b t n x e1
  have := f2 k
  rw [e3] at this
  rw [rdD_of f1 e2]
  rcases this with z | ⟨-, ⟨z, -⟩ | ⟨b', -, z, w⟩⟩ | ⟨z, -⟩
  · omega
  · omega
  · have : c = b' := by omega
    rw [w, this]
  · exact absurd hk z
def LevelAt (h : PH) (a N : Nat) : Prop := 1 ≤ N ∧ N ≤ 25 ∧ dig h 1 N = a + 2 ∧ ∃ r : Nat → Nat, r 0 = a ∧ (∀ b, 27 ≤ r b) ∧ (∀ b c, r b = r c → b = c) ∧ (∀ b, b < 1000 → r b < 1152921504606846976) ∧ Emb r (CL N) h
/-- what a level shows -/
def LvF (h : PH) (a N : Nat) (F X : Nat → Nat) : Prop :=
  rdD h 3 a 0 = some (N + 1) ∧ rdD h 3 a 2 = some (cnt N + 1) ∧ rdD h 3 a 9 = some (cus N + 1) ∧ rdD h 3 a 12 = some (dim N + 1) ∧
  (∀ k, k ∈ [1, 3, 4, 5, 6, 7, 8, 10, 11, 13, 14, 15] → rdD h 3 a k = some (F k + 2)) ∧
  (∀ c d, c < N → d < N → rdD h 17 (F 1) (c * N + d) = some (dgI 1 (tP N c d))) ∧
  (∀ s, s < cnt N → rdD h 17 (F 3) s = some (tC N s + 1) ∧ rdD h 17 (F 4) s = some (tD N s + 1) ∧ rdD h 17 (F 5) s = some (tS N s + 1) ∧ rdD h 17 (F 6) s = some (tR N s + 1) ∧ rdD h 17 (F 7) s = some (tU N s + 1) ∧ rdD h 17 (F 8) s = some (tK N s + 1) ∧ rdD h 17 (F 11) s = some (dgI 1 (tG N s))) ∧
  (∀ i, i < dim N → rdD h 17 (F 10) i = some (tF N i + 1)) ∧
  (∀ s, s < cnt N → rdD h 23 (F 13) s = some (X s + 2) ∧ ∀ i, i < dim N → rdD h 17 (X s) i = some (dgI 1 (tX N s i))) ∧
  ∃ c x, rdD h 0 (F 14) 0 = some (c + 2) ∧ nth h c = some (17, cyc N, x)
theorem LevelAt.f {a : Nat} (q : LevelAt h a N) : ∃ F X, LvF h a N F X := by
  obtain ⟨h1, h2, -, r, r0, -, -, -, em⟩ := q
  have ok := lv_ok h1 h2
  unfold lvOK at ok
  simp only [Bool.and_eq_true] at ok
  obtain ⟨⟨a1, a2, a3, a4⟩, a5, a6, a7, a8, a9, a10, a11⟩ := ok
  refine ⟨fun k => r (lF N k), fun s => r (lX N s), ?_, ?_, ?_, ?_, fun k hk => ?_, fun c d hc hd => ?_, fun s hs => ?_, fun i hi => ?_, fun s hs => ⟨?_, fun i hi => ?_⟩, ?_⟩
  · rw [← r0]; exact em.rd (rqB_at a1) (by decide)
  · rw [← r0]; exact em.rd (rqB_at a2) (by decide)
  · rw [← r0]; exact em.rd (rqB_at a3) (by decide)
  · rw [← r0]; exact em.rd (rqB_at a4) (by decide)
  · have key : ∀ k, k ∈ [1, 3, 4, 5, 6, 7, 8, 10, 11, 13, 14, 15] → kd 3 k = 2 := by decide
    rw [← r0]; exact em.rf (rqB_at (allL_at a5 k hk)) (key k hk)
  · exact em.rd (rqB_at (allN_at (allN_at a6 c hc) d hd)) (kdv_17 _)
  · have := allN_at a7 s hs
    simp only [Bool.and_eq_true] at this
    obtain ⟨⟨b1, b2⟩, ⟨b3, b4, b5⟩, b6, b7⟩ := this
    exact ⟨em.rd (rqB_at b1) (kdv_17 _), em.rd (rqB_at b2) (kdv_17 _), em.rd (rqB_at b3) (kdv_17 _), em.rd (rqB_at b4) (kdv_17 _), em.rd (rqB_at b5) (kdv_17 _), em.rd (rqB_at b6) (kdv_17 _), em.rd (rqB_at b7) (kdv_17 _)⟩
  · exact em.rd (rqB_at (allN_at a8 i hi)) (kdv_17 _)
  · have := allN_at a9 s hs
    rw [Bool.and_eq_true] at this
    exact em.rf (rqB_at this.1) rfl
  · have := allN_at a9 s hs
    rw [Bool.and_eq_true] at this
    exact em.rd (rqB_at (allN_at this.2 i hi)) (kdv_17 _)
  · split at a11
    · cases a11
    · rename_i c hc
      obtain ⟨t, n, x⟩ := c
      rw [Bool.and_eq_true] at a11
      have e1 : t = 17 := Nat.eq_of_beq_eq_true a11.1
      have e2 : n = cyc N := Nat.eq_of_beq_eq_true a11.2
      subst e1
      subst e2
      obtain ⟨y, f1, -⟩ := em _ _ _ _ hc
      exact ⟨_, y, em.rf (rqB_at a10) (by decide), f1⟩
/-! steps by what is read -/
variable {α : Type} {Q : α → PH → Prop}
theorem v_gI {t k a d : Nat} {f : Int32 → PM α} (e : rdD h t a k = some (d + 1)) : T (pb (gI t k a) f) h Q = T (f (Int32.ofNat d)) h Q := by
  rw [T_pb]
  have e' : (gI t k a).1 h = some (Int32.ofNat d, h) := by
    unfold gI
    simp only [e]
  apply propext
  constructor
  · rintro ⟨v, h', e2, q⟩
    rw [e'] at e2
    cases e2
    exact q
  · intro q
    exact ⟨_, _, e', q⟩
theorem v_gA {t k a b : Nat} {f : Nat → PM α} (e : rdD h t a k = some (b + 2)) : T (pb (gA t k a) f) h Q = T (f b) h Q := by
  rw [T_pb]
  have e' : (gA t k a).1 h = some (b, h) := by
    unfold gA
    simp only [e]
  apply propext
  constructor
  · rintro ⟨v, h', e2, q⟩
    rw [e'] at e2
    cases e2
    exact q
  · intro q
    exact ⟨_, _, e', q⟩
theorem v_lI {t k a d : Nat} {f : Int32 → PM α} (e : rdD h t a k = some (d + 1)) (hk : k < 2147483648) : T (pb (lI t a (nI k)) f) h Q = T (f (Int32.ofNat d)) h Q := by
  unfold lI
  rw [aix_nI hk]
  exact v_gI e
theorem v_lA {t k a b : Nat} {f : Nat → PM α} (e : rdD h t a k = some (b + 2)) (hk : k < 2147483648) : T (pb (lA t a (nI k)) f) h Q = T (f b) h Q := by
  unfold lA
  rw [aix_nI hk]
  exact v_gA e
theorem v_chk {t a k d : Nat} {f : Unit → PM α} (e : rdD h t a k = some d) : T (pb (chk t a) f) h Q = T (f ()) h Q := by
  obtain ⟨n, x, e1, -, -⟩ := rdD_some e
  rw [T_pb]
  have e' : (chk t a).1 h = some ((), h) := by
    unfold chk
    simp only [e1, Nat.beq_refl, cond_true]
  apply propext
  constructor
  · rintro ⟨v, h', e2, q⟩
    rw [e'] at e2
    cases e2
    exact q
  · intro q
    exact ⟨_, _, e', q⟩
theorem c_hasSymbol {a : Nat} {F X : Nat → Nat} (h1 : 1 ≤ N) (h2 : N ≤ 25) (q : LvF h a N F X) (s : Int32) : T (fX3_hasSymbol a s) h (fun v h' => h' = h ∧ v = if rg s 0 ((cnt N : Int) - 1) then 1 else 0) := by
  have n := tb_n h1 h2
  unfold fX3_hasSymbol
  rw [v_chk q.1, T_ite, T_pp]
  have e0 : s < 0 ↔ s.toInt < 0 := by rw [Int32.lt_iff_toInt_lt]; rfl
  refine ⟨fun c => ⟨rfl, ?_⟩, fun c => ?_⟩
  · rw [if_neg (fun z => by have := z.1; have := e0.mp c; omega)]
  · have c' : 0 ≤ s.toInt := by
      by_cases z : 0 ≤ s.toInt
      · exact z
      · exact absurd (e0.mpr (by omega)) c
    rw [v_gI q.2.1, T_ite, T_pp, T_pp]
    have e1 : Int32.ofNat (cnt N) ≤ s ↔ (cnt N : Int) ≤ s.toInt := by
      rw [Int32.le_iff_toInt_le]
      have : (Int32.ofNat (cnt N)).toInt = (cnt N : Int) := nI_toInt (n := cnt N) (by omega)
      rw [this]
    refine ⟨fun z => ⟨rfl, ?_⟩, fun z => ⟨rfl, ?_⟩⟩
    · rw [if_neg (fun y => by have := y.2; have := e1.mp z; omega)]
    · rw [if_pos ⟨c', by
        by_cases y : (cnt N : Int) ≤ s.toInt
        · exact absurd (e1.mpr y) z
        · omega⟩]
theorem c_hasCoordinate {a : Nat} {F X : Nat → Nat} (h1 : 1 ≤ N) (h2 : N ≤ 25) (q : LvF h a N F X) (s : Int32) : T (fX3_hasCoordinate a s) h (fun v h' => h' = h ∧ v = if rg s 0 ((dim N : Int) - 1) then 1 else 0) := by
  have n := tb_n h1 h2
  unfold fX3_hasCoordinate
  rw [v_chk q.1, T_ite, T_pp]
  have e0 : s < 0 ↔ s.toInt < 0 := by rw [Int32.lt_iff_toInt_lt]; rfl
  refine ⟨fun c => ⟨rfl, ?_⟩, fun c => ?_⟩
  · rw [if_neg (fun z => by have := z.1; have := e0.mp c; omega)]
  · have c' : 0 ≤ s.toInt := by
      by_cases z : 0 ≤ s.toInt
      · exact z
      · exact absurd (e0.mpr (by omega)) c
    rw [v_gI q.2.2.2.1, T_ite, T_pp, T_pp]
    have e1 : Int32.ofNat (dim N) ≤ s ↔ (dim N : Int) ≤ s.toInt := by
      rw [Int32.le_iff_toInt_le]
      have : (Int32.ofNat (dim N)).toInt = (dim N : Int) := nI_toInt (n := dim N) (by omega)
      rw [this]
    refine ⟨fun z => ⟨rfl, ?_⟩, fun z => ⟨rfl, ?_⟩⟩
    · rw [if_neg (fun y => by have := y.2; have := e1.mp z; omega)]
    · rw [if_pos ⟨c', by
        by_cases y : (dim N : Int) ≤ s.toInt
        · exact absurd (e1.mpr y) z
        · omega⟩]
/-- both ways to a rest from 0 on -/
theorem em_cl (x : Int32) (h1 : 1 ≤ N) (h2 : N ≤ 25) : (x - x / nI N * nI N) + nI N - ((x - x / nI N * nI N) + nI N) / nI N * nI N = nI (em x N) := by
  have e := rem_toInt x (nI N)
  rw [nI_toInt (by omega)] at e
  have b := tmod_bounds (a := x.toInt) (M := N) (by omega)
  have l1 := Int.emod_lt_of_pos x.toInt (show (0 : Int) < N by omega)
  have l2 := Int.emod_nonneg x.toInt (show (N : Int) ≠ 0 by omega)
  have e2 : ((x - x / nI N * nI N) + nI N).toInt = x.toInt.tmod N + N := by
    rw [Int32.toInt_add, e, nI_toInt (by omega), Int.bmod_eq_of_le (by omega) (by omega)]
  refine Int32.toInt_inj.mp ?_
  rw [rem_toInt, e2, nI_toInt (by omega), nI_toInt (by have := em_lt x h1; omega), Int.tmod_eq_emod_of_nonneg (by omega)]
  unfold em
  have : (x.toInt.tmod N + N) % (N : Int) = x.toInt % N := by
    rw [Int.add_emod_right, Int.tmod_eq_emod]
    split
    · rw [show ((0 : Nat) : Int) = 0 from rfl, Int.sub_zero, Int.emod_emod]
    · have hn : (((N : Int).natAbs : Nat) : Int) = N := Int.natAbs_natCast N ▸ rfl
      rw [hn, Int.sub_emod, Int.emod_self, Int.sub_zero, Int.emod_emod, Int.emod_emod]
  rw [this]
  omega
theorem c_find {a : Nat} {F X : Nat → Nat} (h1 : 1 ≤ N) (h2 : N ≤ 25) (q : LvF h a N F X) (c d : Int32) : T (fX3_find a c d) h (fun v h' => h' = h ∧ v = pI N (em c N) (em d N)) := by
  have l1 := em_lt c h1
  have l2 := em_lt d h1
  have nz : ¬ Int32.ofNat N = 0 := nI_ne0 (n := N) (by omega) (by omega)
  have hb : em c N * N + em d N < 2147483648 := by
    have : em c N * N ≤ 25 * 25 := Nat.mul_le_mul (by omega) h2
    omega
  have rr := q.2.2.2.2.2.1 _ _ l1 l2
  obtain ⟨v, hv⟩ : ∃ v, dgI 1 (tP N (em c N) (em d N)) = v + 1 := ⟨_, rfl⟩
  unfold fX3_find
  rw [v_chk q.1, v_gI q.1, T_ifn nz, v_gI q.1, v_gI q.1, T_ifn nz, v_gI q.1, T_ifn nz, v_gI q.1, v_gI q.1, T_ifn nz, v_gA (q.2.2.2.2.1 1 (by decide)), v_gI q.1]
  have ei : ((c - c / Int32.ofNat N * Int32.ofNat N) + Int32.ofNat N - ((c - c / Int32.ofNat N * Int32.ofNat N) + Int32.ofNat N) / Int32.ofNat N * Int32.ofNat N) * Int32.ofNat N + ((d - d / Int32.ofNat N * Int32.ofNat N) + Int32.ofNat N - ((d - d / Int32.ofNat N * Int32.ofNat N) + Int32.ofNat N) / Int32.ofNat N * Int32.ofNat N) = nI (em c N * N + em d N) := by
    have a1 := em_cl c h1 h2
    have a2 := em_cl d h1 h2
    unfold nI at a1 a2
    rw [a1, a2]
    have := nI_add (em c N * N) (em d N)
    have m := pk_mul (em c N) N
    unfold nI at this m ⊢
    rw [← this, ← m]
  rw [hv] at rr
  rw [ei, v_lI rr hb, T_pp]
  refine ⟨rfl, ?_⟩
  unfold pI
  rw [hv]
  rfl
end C4
