/-! a laid level as the literal heap QM N shows it -/
noncomputable def qd (N a k : Nat) : Nat :=
  if a = 0 then (if mref k ≠ 0 then mref k + 2 else if k = 7 then N + 1 else if k = 8 then cnt N + 1 else if k = 13 then cus N + 1 else if k = 14 then dim N + 1 else 0)
  else if a = 6 then (if k / 25 < N ∧ k % 25 < N then dgI 1 (tP N (k / 25) (k % 25)) else 0)
  else if a = 7 then (if k < cnt N then tC N k + 1 else 0)
  else if a = 8 then (if k < cnt N then tD N k + 1 else 0)
  else if a = 9 then (if k < cnt N then tK N k + 1 else 0)
  else if a = 10 then (if k < dim N then tF N k + 1 else 0)
  else if a = 11 then (if k = 0 then N + 1 else 0)
  else if a = 12 then (if k < cnt N then dgI 1 (tG N k) else 0)
  else if a = 13 then (if k / 16 < cnt N ∧ k % 16 < dim N then dgJ 1 (tX N (k / 16) (k % 16)) else 0)
  else if a = 14 then (if k / 16 < cnt N ∧ k % 16 < dim N then 2 else 0)
  else 0
theorem QM_ok : allN 26 (fun N => Nat.beq N 0 || (shp (QM N) && dgt (QM N) (qd N))) = true := by decide +kernel
