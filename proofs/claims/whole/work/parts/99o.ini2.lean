/-! THE FIRST STATE -/
def st0 : St := ((11, fun _ => 0), [], [], (0, 0, 0))
noncomputable def emsB (e h : PH) (sf : Nat) : Bool := allN e.length fun b => match nth h (sf + b), nth e b with
  | some c, some d => Nat.beq c.1 d.1 && (Nat.beq c.2.1 d.2.1 && allN d.2.1 (fun k => Nat.beq (dg d.2.2 k) 0 || (bif Nat.beq (kd d.1 k) 2 then (Nat.beq (dg d.2.2 k) 1 && Nat.beq (dg c.2.2 k) 1) || (Nat.ble 2 (dg d.2.2 k) && (Nat.ble (dg d.2.2 k) 1000 && Nat.beq (dg c.2.2 k) (dg d.2.2 k + sf))) else Nat.beq (dg c.2.2 k) (dg d.2.2 k))))
  | _, _ => false
theorem ems_CI : emsB (CL 11) CI 27 = true := by decide +kernel
noncomputable def cwB (h : PH) : Bool := Nat.ble 27 h.length && (allN 27 (fun a => match nth h a with
  | none => false
  | some c => Nat.beq c.1 (ctag a) && (Nat.beq c.2.1 (clen a) && allN (clen a) (fun k => !(Nat.beq (dg c.2.2 k) 0)))) && allN 27 (fun a => allN (clen a) fun k => Nat.beq (cref a k) 0 || dq h a k (cref a k + 2)))
theorem cw_CI : cwB CI = true := by decide +kernel
noncomputable def ciB : Bool := (dq CI 2 0 29 && (dq CI 4 0 29 && (dq CI 1 11 29 && (dq CI 6 1 1 && dq CI 20 1 1)))) && ((allN 9 (fun i => dq CI 3 i 1 && dq CI 5 i 1) && allN 6 (fun k => dq CI 7 k (8 + k + 2))) && ((dq CI 0 6 1 && (dq CI 0 7 1 && dq CI 0 8 1)) && (allN 26 (fun N => Nat.beq N 0 || (Nat.beq N 11 || dq CI 1 N 1)) && (allN 61 (fun m => dq CI 26 m 4294967296) && ((dq CI 27 15 (27 + lF 11 15 + 2) && (match nth CI (27 + lF 11 15) with
  | none => false
  | some c => Nat.beq c.1 21 && (Nat.beq c.2.1 8 && allN 8 (fun n => Nat.beq (dg c.2.2 n) 1)))) && (Nat.ble (CI.length + sl CI) 2000 && Nat.beq CI.length 80))))))
theorem ci_CI : ciB = true := by decide +kernel
theorem dq_v {h : PH} {a k d : Nat} (q : dq h a k d = true) : dig h a k = d := Nat.eq_of_beq_eq_true q
section C32
variable {h : PH}
theorem emb_sft {e : PH} {sf : Nat} (q : emsB e h sf = true) (cl : closB e e.length = true) : Emb (fun b => sf + b) e h := by
  intro b t m x hb
  have k := allN_at q b (nth_lt hb)
  rw [hb] at k
  cases ex : nth h (sf + b) with
  | none => rw [ex] at k; cases k
  | some c =>
    rw [ex] at k
    obtain ⟨t', m', y⟩ := c
    rw [Bool.and_eq_true, Bool.and_eq_true] at k
    obtain ⟨k1, k2, k3⟩ := k
    have e1 : t' = t := Nat.eq_of_beq_eq_true k1
    have e2 : m' = m := Nat.eq_of_beq_eq_true k2
    subst e1
    subst e2
    refine ⟨y, rfl, fun k => ?_⟩
    by_cases ck : k < m'
    · have k5 := allN_at k3 k ck
      rw [Bool.or_eq_true] at k5
      rcases k5 with k5 | k5
      · exact Or.inl (Nat.eq_of_beq_eq_true k5)
      · by_cases c2 : kd t' k = 2
        · rw [c2] at k5
          have k5 : ((Nat.beq (dg x k) 1 && Nat.beq (dg y k) 1) || (Nat.ble 2 (dg x k) && (Nat.ble (dg x k) 1000 && Nat.beq (dg y k) (dg x k + sf)))) = true := k5
          rw [Bool.or_eq_true] at k5
          rcases k5 with k6 | k6
          · rw [Bool.and_eq_true] at k6
            exact Or.inr (Or.inl ⟨c2, Or.inl ⟨Nat.eq_of_beq_eq_true k6.1, Nat.eq_of_beq_eq_true k6.2⟩⟩)
          · rw [Bool.and_eq_true, Bool.and_eq_true] at k6
            have l1 := Nat.le_of_ble_eq_true k6.1
            have l2 := Nat.le_of_ble_eq_true k6.2.1
            have l3 := Nat.eq_of_beq_eq_true k6.2.2
            exact Or.inr (Or.inl ⟨c2, Or.inr ⟨dg x k - 2, by omega, by omega, by dsimp only; omega⟩⟩)
        · have nb : Nat.beq (kd t' k) 2 = false := by
            cases e : Nat.beq (kd t' k) 2 with
            | false => rfl
            | true => exact absurd (Nat.eq_of_beq_eq_true e) c2
          rw [nb] at k5
          have k5 : Nat.beq (dg y k) (dg x k) = true := k5
          exact Or.inr (Or.inr ⟨c2, Nat.eq_of_beq_eq_true k5⟩)
    · exact Or.inl ((clos_at cl hb).1 k (by omega))
theorem CW_of (q : cwB h = true) : CW h := by
  unfold cwB at q
  rw [Bool.and_eq_true, Bool.and_eq_true] at q
  obtain ⟨q1, q2, q3⟩ := q
  refine ⟨Nat.le_of_ble_eq_true q1, fun a ha => ?_, fun a k hk => ?_⟩
  · have k := allN_at q2 a ha
    split at k
    · cases k
    · rename_i c hc
      obtain ⟨t, n, x⟩ := c
      rw [Bool.and_eq_true, Bool.and_eq_true] at k
      have e1 : t = ctag a := Nat.eq_of_beq_eq_true k.1
      have e2 : n = clen a := Nat.eq_of_beq_eq_true k.2.1
      refine ⟨x, by rw [hc, e1, e2], fun j hj z => ?_⟩
      have k3 := allN_at k.2.2 j hj
      rw [z] at k3
      cases k3
  · obtain ⟨l1, l2⟩ := cref_lt hk
    have k := allN_at (allN_at q3 a l1) k l2
    rw [Bool.or_eq_true] at k
    rcases k with k | k
    · exact absurd (Nat.eq_of_beq_eq_true k) hk
    · exact dq_v k
theorem CR0 : CR 0 CI st0 := by
  have hC := CW_of cw_CI
  have q := ci_CI
  unfold ciB at q
  simp only [Bool.and_eq_true] at q
  obtain ⟨⟨a1, a2, a3, a4, a5⟩, ⟨b1, b2⟩, ⟨c1, c2, c3⟩, d1, d2, ⟨d3, d4⟩, d5, d6⟩ := q
  have em := emb_sft ems_CI (allN_at clos_CL 11 (by decide))
  have lv : LevelAt CI 27 11 := ⟨by decide, by decide, dq_v a3, fun b => 27 + b, rfl, fun b => Nat.le_add_right _ _, fun b c e => by dsimp only at e; omega, fun b hb => by dsimp only; omega, em⟩
  have row : ∀ a, (a = 3 ∨ a = 5) → ∀ i, i < 9 → gj CI a i = 0 := by
    intro a ha i hi
    have k := allN_at b1 i hi
    rw [Bool.and_eq_true] at k
    rcases ha with rfl | rfl
    · exact gj_eJ (v := 0) (dq_v k.1)
    · exact gj_eJ (v := 0) (dq_v k.2)
  have s2 : SAt CI 2 (11, fun _ => 0) := ⟨27, dq_v a1, by decide, lv, fun i hi => row 3 (Or.inl rfl) i hi⟩
  have s4 : SAt CI 4 (11, fun _ => 0) := ⟨27, dq_v a2, by decide, lv, fun i hi => row 5 (Or.inr rfl) i hi⟩
  have ws : WS (11, fun _ => 0) := ⟨by decide, by decide, fun _ _ => rfl⟩
  refine ⟨hC, ws, s2, ⟨_, s4⟩, ?_, fun s hs => absurd hs List.not_mem_nil, ?_, ?_, ?_, ?_⟩
  · refine ⟨by decide, dq_v a4, fun k => 8 + k, fun k hk => ⟨Nat.le_add_right _ _, by dsimp only; omega, dq_v (allN_at b2 k hk)⟩, fun i j hi hj e => by dsimp only at e; omega, fun k s e => ?_⟩
    have e : ([] : List Sg)[k]? = some s := e
    simp at e
  · exact ⟨by decide, dq_v a5, fun i hi => absurd hi (Nat.not_lt_zero i)⟩
  · exact ⟨gi_eI (v := 0) (dq_v c1), gi_eI (v := 0) (dq_v c2), gi_eI (v := 0) (dq_v c3)⟩
  · refine ⟨?_, fun _ => 1011, fun N n1 n2 => ?_⟩
    · have := Nat.le_of_ble_eq_true d5
      unfold mu
      omega
    · by_cases c : N = 11
      · subst c
        right
        refine ⟨27, dq_v a3, lv, by decide, by decide, 27 + lF 11 15, dq_v d3, Nat.le_add_right _ _, ?_, rfl, ?_⟩
        · split at d4
          · cases d4
          · rename_i c hc
            have := nth_lt hc
            have := Nat.eq_of_beq_eq_true d6
            omega
        · split at d4
          · cases d4
          · rename_i c hc
            obtain ⟨t, n, x⟩ := c
            simp only [Bool.and_eq_true] at d4
            have e1 : t = 21 := Nat.eq_of_beq_eq_true d4.1
            have e2 : n = 8 := Nat.eq_of_beq_eq_true d4.2.1
            subst e1
            subst e2
            have dx : ∀ k, k < 8 → dg x k = 1 := fun k hk => Nat.eq_of_beq_eq_true (allN_at d4.2.2 k hk)
            refine ⟨⟨x, hc, fun k hk => by rw [dx k hk]; decide⟩, fun k hk => Or.inl ?_⟩
            unfold dig
            rw [hc]
            exact dx k hk
      · left
        have k := allN_at d1 N (by omega)
        rw [Bool.or_eq_true, Bool.or_eq_true] at k
        rcases k with k | k | k
        · have := Nat.eq_of_beq_eq_true k
          omega
        · exact absurd (Nat.eq_of_beq_eq_true k) c
        · exact dq_v k
  · intro m hm
    left
    refine gi_eI (v := -1) ?_
    rw [dq_v (allN_at d2 m hm)]
    rfl
/-! the reference -/
noncomputable def mwB (h : PH) : Bool := Nat.beq h.length 37 && (allN 37 (fun a => match nth h a with
  | none => false
  | some c => Nat.beq c.1 (mtag a) && (Nat.beq c.2.1 (mlen a) && allN (mlen a) (fun k => !(Nat.beq (dg c.2.2 k) 0)))) && rfs h)
theorem mw_CIm : mwB CIm = true := by decide +kernel
noncomputable def cmB : Bool := (dq CIm 11 0 12 && allN 16 (fun i => dq CIm 11 (0 + 1 + 2 * i) 1 && dq CIm 11 (0 + 2 + 2 * i) 2)) && ((dq CIm 0 3 1 && dq CIm 0 45 1) && ((dq CIm 17 0 1 && (dq CIm 17 1 1 && dq CIm 17 2 1)) && dq CIm 0 7 1))
theorem cm_CIm : cmB = true := by decide +kernel
theorem MW_of' (q : mwB h = true) : MW h := by
  unfold mwB at q
  rw [Bool.and_eq_true, Bool.and_eq_true] at q
  obtain ⟨q1, q2, q3⟩ := q
  refine ⟨Nat.eq_of_beq_eq_true q1, fun a ha => ?_, fun k hk => rfs_at q3 k hk⟩
  have k := allN_at q2 a ha
  split at k
  · cases k
  · rename_i c hc
    obtain ⟨t, n, x⟩ := c
    rw [Bool.and_eq_true, Bool.and_eq_true] at k
    have e1 : t = mtag a := Nat.eq_of_beq_eq_true k.1
    have e2 : n = mlen a := Nat.eq_of_beq_eq_true k.2.1
    refine ⟨x, by rw [hc, e1, e2], fun j hj z => ?_⟩
    have k3 := allN_at k.2.2 j hj
    rw [z] at k3
    cases k3
theorem MR0 : MR CIm st0 := by
  have q := cm_CIm
  unfold cmB at q
  simp only [Bool.and_eq_true] at q
  obtain ⟨⟨a1, a2⟩, ⟨b1, b2⟩, ⟨c1, c2, c3⟩, d1⟩ := q
  have ws : WS (11, fun _ => 0) := ⟨by decide, by decide, fun _ _ => rfl⟩
  refine ⟨MW_of' mw_CIm, ws, ⟨dq_v a1, fun i hi => ?_⟩, ⟨by decide, dq_v b1, fun k s e => ?_⟩, fun s hs => absurd hs List.not_mem_nil, ⟨by decide, dq_v b2, fun i c e => ?_⟩, ⟨gi_eI (v := 0) (dq_v c1), gi_eI (v := 0) (dq_v c2), gi_eI (v := 0) (dq_v c3)⟩, Or.inl (dq_v d1)⟩
  · have k := allN_at a2 i hi
    rw [Bool.and_eq_true] at k
    exact ⟨gj_eJ (v := 0) (dq_v k.1), gj_eJ (v := 1) (dq_v k.2)⟩
  · have e : ([] : List Sg)[k]? = some s := e
    simp at e
  · have e : ([] : List Int32)[i]? = some c := e
    simp at e
end C32
