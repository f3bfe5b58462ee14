/-! the reference's heap: the object at 0, its rows at 1 to 36 -/
def mtag (a : Nat) : Nat := match a with
  | 0 => 9
  | 1 => 18
  | 2 => 18
  | 3 => 19
  | 4 => 18
  | 5 => 18
  | 6 => 17
  | 7 => 17
  | 8 => 17
  | 9 => 17
  | 10 => 17
  | 11 => 18
  | 12 => 17
  | 13 => 18
  | 14 => 18
  | 15 => 18
  | 16 => 18
  | 17 => 17
  | 18 => 18
  | 19 => 18
  | 20 => 17
  | 21 => 18
  | 22 => 18
  | 23 => 17
  | 24 => 18
  | 25 => 18
  | 26 => 18
  | 27 => 18
  | 28 => 18
  | 29 => 18
  | 30 => 18
  | 31 => 18
  | 32 => 18
  | 33 => 17
  | 34 => 18
  | 35 => 18
  | 36 => 17
  | _ => 0
def mlen (a : Nat) : Nat := match a with
  | 0 => 51
  | 1 => 48
  | 2 => 48
  | 3 => 48
  | 4 => 2304
  | 5 => 2304
  | 6 => 625
  | 7 => 48
  | 8 => 48
  | 9 => 48
  | 10 => 16
  | 11 => 33
  | 12 => 48
  | 13 => 768
  | 14 => 768
  | 15 => 198
  | 16 => 33
  | 17 => 3
  | 18 => 256
  | 19 => 256
  | 20 => 16
  | 21 => 256
  | 22 => 256
  | 23 => 16
  | 24 => 16
  | 25 => 16
  | 26 => 256
  | 27 => 256
  | 28 => 256
  | 29 => 256
  | 30 => 256
  | 31 => 256
  | 32 => 17
  | 33 => 61
  | 34 => 16
  | 35 => 16
  | 36 => 120
  | _ => 0
def mref (k : Nat) : Nat := match k with
  | 0 => 11
  | 1 => 15
  | 2 => 16
  | 4 => 17
  | 9 => 6
  | 10 => 7
  | 11 => 8
  | 12 => 9
  | 15 => 12
  | 16 => 10
  | 17 => 3
  | 18 => 4
  | 19 => 5
  | 20 => 13
  | 21 => 14
  | 22 => 1
  | 23 => 2
  | 24 => 18
  | 25 => 19
  | 27 => 20
  | 28 => 21
  | 29 => 22
  | 30 => 23
  | 31 => 24
  | 32 => 25
  | 33 => 26
  | 34 => 27
  | 36 => 28
  | 37 => 29
  | 38 => 30
  | 39 => 31
  | 40 => 32
  | 41 => 33
  | 42 => 34
  | 43 => 35
  | 44 => 36
  | _ => 0
/-! CLOSED RUNS of the reference -/
/-- lays, behind its first test -/
noncomputable def laysR : PM Unit := pb (fX10_levelHere 0) fun v5 =>
    pb (sI 9 7 0 v5) fun _ =>
    pb (sI 9 8 0 (0 : Int32)) fun _ =>
    pb (plo (fX10_lays_B27 0) fu (0 : Int32)) fun _ =>
    pb (plo (fX10_lays_B49 0) fu (0 : Int32)) fun _ =>
    pb (fX10_laysCusps 0) fun _ =>
    pb (fX10_laysRelations 0) fun _ =>
    pb (fX10_laysFree 0) fun _ =>
    pp ()
noncomputable def runB {α : Type} (m : PM α) (h : PH) (p : PH → Bool) : Bool := match m.1 h with
  | none => false
  | some (_, h') => p h'
theorem runB_at {α : Type} {m : PM α} {h : PH} {p : PH → Bool} (q : runB m h p = true) : ∃ v h', m.1 h = some (v, h') ∧ p h' = true := by
  unfold runB at q
  split at q
  · cases q
  · rename_i v h' e2
    exact ⟨v, h', e2, q⟩
/-- a digit, by the bare functions -/
noncomputable def dq (h : PH) (a k d : Nat) : Bool := Nat.beq (dig h a k) d
noncomputable def allL (l : List Nat) (p : Nat → Bool) : Bool := @List.rec Nat (fun _ => Bool) true (fun a _ ih => bif p a then ih else false) l
theorem allL_at {l : List Nat} {p : Nat → Bool} (h : allL l p = true) : ∀ k ∈ l, p k = true := by
  induction l with
  | nil => intro k hk; cases hk
  | cons a l ih =>
    intro k hk
    have e : (bif p a then allL l p else false) = true := h
    cases hp : p a with
    | false => rw [hp] at e; cases e
    | true =>
      rw [hp] at e
      rcases List.mem_cons.mp hk with rfl | hk
      · exact hp
      · exact ih e k hk
/-- the cell's number without its stamp -/
noncomputable def bulk (h : PH) (a : Nat) : Nat := match nth h a with
  | none => 0
  | some c => c.2.2 >>> 65
/-- 37 cells of the reference's kinds, no digit beyond their lengths -/
noncomputable def shp (h : PH) : Bool := Nat.beq h.length 37 && allN 37 (fun a => match nth h a with
  | none => false
  | some c => Nat.beq c.1 (mtag a) && (Nat.beq c.2.1 (mlen a) && Nat.ble (c.2.2 + 1) (2 ^ (65 * (mlen a + 1)))))
noncomputable def rfs (h : PH) : Bool := allN 51 fun k => Nat.beq (mref k) 0 || dq h 0 k (mref k + 2)
noncomputable def okL (N : Nat) (h : PH) : Bool :=
  (dq h 0 7 (N + 1) && (dq h 0 8 (cnt N + 1) && (dq h 0 13 (cus N + 1) && dq h 0 14 (dim N + 1)))) &&
  (allN N (fun c => allN N fun d => dq h 6 (25 * c + d) (dgI 1 (tP N c d))) &&
  (allN (cnt N) (fun s => dq h 7 s (tC N s + 1) && (dq h 8 s (tD N s + 1) && (dq h 9 s (tK N s + 1) && dq h 12 s (dgI 1 (tG N s))))) &&
  (allN (dim N) (fun i => dq h 10 i (tF N i + 1)) &&
  allN (cnt N) (fun s => allN (dim N) fun i => dq h 13 (16 * s + i) (dgJ 1 (tX N s i)) && dq h 14 (16 * s + i) 2))))
/-- what lays leaves as it was -/
noncomputable def okLf (N : Nat) (h : PH) : Bool := (shp h && rfs h) && (Nat.beq (bulk h 11) (N + 1) && (allL [15, 16, 17, 18, 19, 20, 21, 22, 23, 24, 25, 26, 27, 28, 29, 30, 31, 32, 33, 34, 35, 36] (fun a => Nat.beq (bulk h a) 0) && allL [3, 26, 35, 45, 46, 47, 48, 49, 50] (fun k => dq h 0 k 0)))
/-- the poorest heap of the reference at level N -/
noncomputable def PMh (N : Nat) : PH := [(9, 51, 0x4c000000000000002500000000000000120000000000000008c0000000000000044000000000000002100000000000000100000000000000007c000000000000003c0000000000000000000000000000000e800000000000000700000000000000036000000000000001a000000000000000c80000000000000060000000000000002e000000000000001600000000000000000000000000000005400000000000000280000000000000004000000000000000180000000000000040000000000000001e00000000000000070000000000000003000000000000000140000000000000018000000000000000e0000000000000000000000000000000000000000000000016000000000000000a0000000000000004800000000000000200000000000000000000000000000000000000000000000000000000000000000000000000000000260000000000000000000000000000000900000000000000044000000000000001a0000000000000001), (18, 48, 0x1), (18, 48, 0x1), (19, 48, 0x1), (18, 2304, 0x1), (18, 2304, 0x1), (17, 625, 0x1), (17, 48, 0x1), (17, 48, 0x1), (17, 48, 0x1), (17, 16, 0x1), (18, 33, (N + 1) * 36893488147419103232 + 1), (17, 48, 0x1), (18, 768, 0x1), (18, 768, 0x1), (18, 198, 0x1), (18, 33, 0x1), (17, 3, 0x1), (18, 256, 0x1), (18, 256, 0x1), (17, 16, 0x1), (18, 256, 0x1), (18, 256, 0x1), (17, 16, 0x1), (18, 16, 0x1), (18, 16, 0x1), (18, 256, 0x1), (18, 256, 0x1), (18, 256, 0x1), (18, 256, 0x1), (18, 256, 0x1), (18, 256, 0x1), (18, 17, 0x1), (17, 61, 0x1), (18, 16, 0x1), (18, 16, 0x1), (17, 120, 0x1)]
