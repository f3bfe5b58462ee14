/-! the polynomials' numbers: the kernel reckons them with plain numbers -/
noncomputable def fz (f : Nat → Int64) (n : Nat) : Nat := @Nat.rec (fun _ => Nat) 1 (fun k x => frN (eJ (f k)) fun e => frN x fun y => ds y k e) n
theorem fz_s (f : Nat → Int64) (n : Nat) : fz f (n + 1) = ds (fz f n) n (eJ (f n)) := by
  show frN (eJ (f n)) (fun e => frN (fz f n) fun y => ds y n e) = _
  rw [frN_eq, frN_eq]
theorem dg_fz (f : Nat → Int64) (n k : Nat) (hk : k < n) : dg (fz f n) k = eJ (f k) := by
  induction n with
  | zero => omega
  | succ n ih =>
    rw [fz_s, dg_ds _ _ _ _ (eJ_lt _)]
    by_cases c : k = n
    · rw [if_pos c, c]
    · rw [if_neg c]
      exact ih (by omega)
noncomputable def un (d X i j : Nat) : Int64 := Int64.ofNat (dg X (d * i + j) - 1)
theorem un_fz {d : Nat} {f : Nat → Int64} {i j : Nat} (hi : i < d) (hj : j < d) : un d (fz f (d * d)) i j = f (d * i + j) := by
  unfold un
  have : d * i + j < d * d := by
    have := Nat.mul_le_mul_left d (show i + 1 ≤ d by omega)
    rw [Nat.mul_add] at this
    omega
  rw [dg_fz f _ _ this]
  exact ofJ _
noncomputable def pcF (d A : Nat) (t : Nat → Nat) (n : Nat) : Nat → Nat → Int64 → Bool := @Nat.rec (fun _ => Nat → Nat → Int64 → Bool) (fun _ _ _ => true) (fun _ ih s X c => frN (fz (fun k => mm (un d A) (bB (un d X) c) (k / d) (k % d) d) (d * d)) fun Y => frJ (-(dsum (fun k => un d Y k k) d) / lN s) fun c' => bif Nat.beq (eJ c') (dgJ 1099511627776 (t (d - s))) then ih (s + 1) Y c' else false) n
theorem pcF_at {d A : Nat} {t : Nat → Nat} {B : Nat → Nat → Int64} (hA : ∀ i j, i < d → j < d → un d A i j = B i j) : ∀ n s X c, 1 ≤ s → pcF d A t n s X c = true → c = (pc d B (s - 1)).2 → (∀ i j, i < d → j < d → un d X i j = (pc d B (s - 1)).1 i j) → ∀ m, s ≤ m → m < s + n → eJ (pc d B m).2 = dgJ 1099511627776 (t (d - m)) := by
  intro n
  induction n with
  | zero => intro s X c _ _ _ _ m h1 h2; omega
  | succ n ih =>
    intro s X c hs q hc hX m h1 h2
    have q' : (frN (fz (fun k => mm (un d A) (bB (un d X) c) (k / d) (k % d) d) (d * d)) fun Y => frJ (-(dsum (fun k => un d Y k k) d) / lN s) fun c' => bif Nat.beq (eJ c') (dgJ 1099511627776 (t (d - s))) then pcF d A t n (s + 1) Y c' else false) = true := q
    rw [frN_eq, frJ_eq] at q'
    have eP : pc d B s = pst d B (pc d B (s - 1)) s := by
      obtain ⟨u, rfl⟩ : ∃ u, s = u + 1 := ⟨s - 1, by omega⟩
      rfl
    have key : ∀ i j, i < d → j < d → un d (fz (fun k => mm (un d A) (bB (un d X) c) (k / d) (k % d) d) (d * d)) i j = (pc d B s).1 i j := by
      intro i j hi hj
      rw [un_fz hi hj, eP]
      have e1 : (d * i + j) / d = i := by
        rw [Nat.mul_add_div (by omega), Nat.div_eq_of_lt hj, Nat.add_zero]
      have e2 : (d * i + j) % d = j := by
        rw [Nat.mul_add_mod, Nat.mod_eq_of_lt hj]
      show mm (un d A) (bB (un d X) c) ((d * i + j) / d) ((d * i + j) % d) d = mm B (bB (pc d B (s - 1)).1 (pc d B (s - 1)).2) i j d
      rw [e1, e2]
      refine mm_congr (fun k hk => hA i k hi hk) (fun k hk => ?_) d (Nat.le_refl _)
      unfold bB
      rw [hX k j hk hj, hc]
    have kc : -(dsum (fun k => un d (fz (fun k => mm (un d A) (bB (un d X) c) (k / d) (k % d) d) (d * d)) k k) d) / lN s = (pc d B s).2 := by
      rw [dsum_congr (fun k hk => key k k hk hk) d (Nat.le_refl _), eP]
      rfl
    rw [kc] at q'
    cases hb : Nat.beq (eJ (pc d B s).2) (dgJ 1099511627776 (t (d - s))) with
    | false => rw [hb] at q'; cases q'
    | true =>
      rw [hb] at q'
      by_cases cm : m = s
      · rw [cm]; exact Nat.eq_of_beq_eq_true hb
      · refine ih (s + 1) _ _ (by omega) q' (by rw [Nat.add_sub_cancel]) (by rw [Nat.add_sub_cancel]; exact key) m (by omega) (by omega)
/-- the whole table of one operator: A by its table of digits -/
noncomputable def chP (d : Nat) (f : Nat → Nat → Int64) (t : Nat → Nat) : Bool := frN (fz (fun k => f (k / d) (k % d)) (d * d)) fun A => Nat.beq (dgJ 1099511627776 (t d)) 2 && pcF d A t d 1 (fz (fun _ => 0) (d * d)) 1
theorem chP_at {d : Nat} {f : Nat → Nat → Int64} {t : Nat → Nat} (q : chP d f t = true) : ∀ k, k ≤ d → eJ (pc d f (d - k)).2 = dgJ 1099511627776 (t k) := by
  unfold chP at q
  rw [frN_eq, Bool.and_eq_true] at q
  intro k hk
  by_cases c : k = d
  · rw [c, Nat.sub_self, Nat.eq_of_beq_eq_true q.1]
    rfl
  · have := pcF_at (B := f) (fun i j hi hj => ?_) d 1 _ 1 (Nat.le_refl _) q.2 rfl (fun i j hi hj => ?_) (d - k) (by omega) (by omega)
    · rw [this, show d - (d - k) = k by omega]
    · rw [un_fz hi hj, Nat.mul_add_div (by omega), Nat.div_eq_of_lt hj, Nat.add_zero, Nat.mul_add_mod, Nat.mod_eq_of_lt hj]
    · rw [un_fz hi hj]
      rfl
theorem chP_W : allN 26 (fun N => allN 8 fun n => !(Nat.ble 1 N && (Nat.ble 1 n && Nat.beq (Nat.gcd n N) 1)) || chP (dim N) (mJ N n) (tW N n)) = true := by decide +kernel
theorem chP_V : allN 26 (fun N => allN 8 fun n => !(Nat.ble 1 N && (Nat.ble 1 n && Nat.beq (Nat.gcd n N) 1)) || chP (cyc N) (qJ N n) (tV N n)) = true := by decide +kernel
theorem trs_W : allN 26 (fun N => allN 8 fun n => !(Nat.ble 1 N && (Nat.ble 1 n && Nat.beq (Nat.gcd n N) 1)) || Nat.beq (eJ (dsum (fun k => mJ N n k k) (dim N))) (dgJ 1024 (ttW N n))) = true := by decide +kernel
theorem trs_V : allN 26 (fun N => allN 8 fun n => !(Nat.ble 1 N && (Nat.ble 1 n && Nat.beq (Nat.gcd n N) 1)) || Nat.beq (eJ (dsum (fun k => qJ N n k k) (cyc N))) (dgJ 1024 (ttV N n))) = true := by decide +kernel
theorem cop_at {p : Nat → Nat → Bool} (q : allN 26 (fun N => allN 8 fun n => !(Nat.ble 1 N && (Nat.ble 1 n && Nat.beq (Nat.gcd n N) 1)) || p N n) = true) {N n : Nat} (hc : cop N n) : p N n = true := by
  obtain ⟨c1, c2, c3, c4, c5⟩ := hc
  have k1 := allN_at (allN_at q N (by omega)) n (by omega)
  rw [Nat.ble_eq_true_of_le c1, Nat.ble_eq_true_of_le c3, c5] at k1
  exact k1
