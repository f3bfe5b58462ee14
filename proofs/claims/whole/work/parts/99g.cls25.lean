/-! OPERATORS -/
/-- references stay within the first L cells; nothing behind a cell's length -/
noncomputable def closB (e : PH) (L : Nat) : Bool := List.all e fun c => Nat.beq (c.2.2 >>> (65 * c.2.1 + 65)) 0 && allN c.2.1 (fun k => !(Nat.beq (kd c.1 k) 2) || Nat.ble (dg c.2.2 k) (L + 1))
theorem dg_out {x n k : Nat} (e : x >>> (65 * n + 65) = 0) (hk : n ≤ k) : dg x k = 0 := by
  unfold dg
  rw [show 65 * k + 65 = (65 * n + 65) + 65 * (k - n) by omega, Nat.shiftRight_add, e]
  simp
theorem clos_at {e : PH} {L b t n x : Nat} (q : closB e L = true) (hb : nth e b = some (t, n, x)) : (∀ k, n ≤ k → dg x k = 0) ∧ ∀ k, kd t k = 2 → dg x k < L + 2 := by
  have hin : (t, n, x) ∈ e := by
    rw [nth_eq] at hb
    exact List.mem_of_getElem? hb
  have h1 := List.all_eq_true.mp q _ hin
  have h1 : (Nat.beq (x >>> (65 * n + 65)) 0 && allN n (fun k => !(Nat.beq (kd t k) 2) || Nat.ble (dg x k) (L + 1))) = true := h1
  rw [Bool.and_eq_true] at h1
  have out : ∀ k, n ≤ k → dg x k = 0 := fun k hk => dg_out (Nat.eq_of_beq_eq_true h1.1) hk
  refine ⟨out, fun k hk => ?_⟩
  by_cases c : k < n
  · have h2 := allN_at h1.2 k c
    have h2 : (!(Nat.beq (kd t k) 2) || Nat.ble (dg x k) (L + 1)) = true := h2
    rw [hk] at h2
    have h3 : Nat.ble (dg x k) (L + 1) = true := h2
    have := Nat.le_of_ble_eq_true h3
    omega
  · rw [out k (by omega)]
    omega
theorem clos_CL : allN 26 (fun N => closB (CL N) (CL N).length) = true := by decide +kernel
section C25
variable {h h' : PH} {N bu : Nat} {Ch : Nat → Nat → Prop}
/-- r on the cells of e, and behind them what is new -/
def rex (r : Nat → Nat) (L M : Nat) (b : Nat) : Nat := if b < L then r b else M + (b - L)
theorem rex_in {r : Nat → Nat} {L M b : Nat} (hb : b < L) : rex r L M b = r b := by unfold rex; rw [if_pos hb]
theorem rex_out {r : Nat → Nat} {L M b : Nat} (hb : L ≤ b) : rex r L M b = M + (b - L) := by unfold rex; rw [if_neg (by omega)]
theorem Emb.lt {r : Nat → Nat} {e : PH} (em : Emb r e h) {b : Nat} (hb : b < e.length) : r b < h.length := by
  obtain ⟨c, hc⟩ : ∃ c, nth e b = some c := ⟨e[b], by rw [nth_eq]; exact List.getElem?_eq_getElem hb⟩
  obtain ⟨y, f1, -⟩ := em b c.1 c.2.1 c.2.2 hc
  exact nth_lt f1
theorem RH_of {r : Nat → Nat} {e : PH} (em : Emb r e h) (cl : closB e e.length = true) (inj : ∀ b c, b < e.length → c < e.length → r b = r c → b = c) (hl : h.length ≤ 1000000) : RH (rex r e.length h.length) e h := by
  refine ⟨fun a b q => ?_, fun i => ?_, fun b hb => ?_, fun a t n x hx => ?_⟩
  · by_cases ca : a < e.length
    · by_cases cb : b < e.length
      · rw [rex_in ca, rex_in cb] at q
        exact inj a b ca cb q
      · rw [rex_in ca, rex_out (by omega)] at q
        have := em.lt ca
        omega
    · by_cases cb : b < e.length
      · rw [rex_in cb, rex_out (by omega)] at q
        have := em.lt cb
        omega
      · rw [rex_out (by omega), rex_out (by omega)] at q
        omega
  · rw [rex_out (by omega)]
    omega
  · by_cases cb : b < e.length
    · rw [rex_in cb]
      have := em.lt cb
      omega
    · rw [rex_out (by omega)]
      omega
  · obtain ⟨y, f1, f2⟩ := em a t n x hx
    refine ⟨y, by rw [rex_in (nth_lt hx)]; exact f1, fun k => ?_⟩
    have c2 := (clos_at cl hx).2 k
    rcases f2 k with z | ⟨z1, z⟩ | ⟨z1, z⟩
    · exact Or.inl z
    · rcases z with z | ⟨b, z2, z3, z4⟩
      · exact Or.inr (Or.inl ⟨z1, Or.inl z⟩)
      · have := c2 z1
        exact Or.inr (Or.inl ⟨z1, Or.inr ⟨b, z2, z3, by rw [rex_in (by omega)]; exact z4⟩⟩)
    · exact Or.inr (Or.inr ⟨z1, z⟩)
/-- one cell more on both sides -/
theorem RH.one {r : Nat → Nat} {e : PH} (q : RH r e h) (t n : Nat) : RH r (e ++ [(t, n, onesF n)]) (h ++ [(t, n, onesF n)]) := by
  refine q.ap rfl fun i t' n' x hx => ?_
  have hi : i = 0 := by
    have := nth_lt hx
    have : i < 1 := this
    omega
  subst hi
  have e2 : some (t, n, onesF n) = some (t', n', x) := hx
  cases e2
  refine ⟨onesF n, rfl, fun k => ?_⟩
  rw [dg_onesF]
  by_cases c : k < n
  · rw [if_pos c]
    exact dR_one _
  · rw [if_neg c]
    exact Or.inl rfl
theorem dR_det {r : Nat → Nat} {κ d x y : Nat} (h0 : d ≠ 0) (a : dR r κ d x) (b : dR r κ d y) : x = y := by
  rcases a with a | ⟨a1, a⟩ | ⟨a1, a⟩
  · exact absurd a h0
  · rcases b with b | ⟨b1, b⟩ | ⟨b1, b⟩
    · exact absurd b h0
    · rcases a with ⟨a2, a3⟩ | ⟨u, -, a2, a3⟩ <;> rcases b with ⟨b2, b3⟩ | ⟨v, -, b2, b3⟩
      · omega
      · omega
      · omega
      · have : u = v := by omega
        rw [a3, b3, this]
    · exact absurd a1 b1
  · rcases b with b | ⟨b1, b⟩ | ⟨b1, b⟩
    · exact absurd b h0
    · exact absurd b1 a1
    · omega
/-- what the run left as it was in the small heap is as it was in the large one -/
theorem old_same {r : Nat → Nat} {e e' : PH} {m : Nat} (rh : RH r e h) (rh' : RH r e' h') (fr : FR r e h e' h') (hm : ∀ b, b < m → nth e' b = nth e b) {a k : Nat} (ha : a < h.length) (hr : ∀ b, m ≤ b → b < e.length → r b ≠ a) : dig h' a k = dig h a k := by
  by_cases c : ∃ b, b < e.length ∧ r b = a
  · obtain ⟨b, hb, rfl⟩ := c
    have bm : b < m := by
      by_cases z : b < m
      · exact z
      · exact absurd rfl (hr b (by omega) hb)
    obtain ⟨x, hx⟩ : ∃ x, nth e b = some x := ⟨e[b], by rw [nth_eq]; exact List.getElem?_eq_getElem hb⟩
    obtain ⟨t, n, x⟩ := x
    have hx' : nth e' b = some (t, n, x) := by rw [hm b bm]; exact hx
    obtain ⟨y, f1, f2⟩ := rh.2.2.2 b t n x hx
    obtain ⟨z, g1, g2⟩ := rh'.2.2.2 b t n x hx'
    by_cases c0 : dg x k = 0
    · refine fr.2.1 b k hb ?_
      unfold dig
      rw [hx']
      exact c0
    · unfold dig
      rw [f1, g1]
      exact dR_det c0 (g2 k) (f2 k)
  · have e1 := fr.1 a ha (fun b hb z => c ⟨b, hb, z⟩)
    unfold dig
    rw [e1]
theorem crun_gcd : allN 8 (fun n => allN 26 fun N => Nat.beq n 0 || (Nat.beq N 0 || runW (fX9_gcd (nI n) (nI N)) [] (fun v g => eqI v (Nat.gcd n N) && Nat.beq g.length 0))) = true := by decide +kernel
theorem c_gcd {n : Nat} (h1 : 1 ≤ n) (h2 : n ≤ 7) (h3 : 1 ≤ N) (h4 : N ≤ 25) : T (fX9_gcd (nI n) (nI N)) h (fun v h' => h' = h ∧ v = nI (Nat.gcd n N)) := by
  have k := allN_at (allN_at crun_gcd n (by omega)) N (by omega)
  rw [Bool.or_eq_true, Bool.or_eq_true] at k
  rcases k with e | e | e
  · have := Nat.eq_of_beq_eq_true e
    omega
  · have := Nat.eq_of_beq_eq_true e
    omega
  · exact T_pureI e
end C25
