/-- a row of coefficients that an operator keeps, or none yet -/
noncomputable def CfAt (h : PH) (w : Nat → Nat) (id im o k d : Nat) (t : Nat → Nat) : Prop := dig h o k = 1 ∨ ∃ c, dig h o k = c + 2 ∧ 27 ≤ c ∧ c < 1152921504606846976 ∧ c ≠ im ∧ w c = id ∧ Sh h c 18 (d + 1) ∧ ∀ i, i ≤ d → dig h c i = dgJ 1099511627776 (t i)
/-- where an operator's image row stands behind the level's cells -/
noncomputable def imI (N n : Nat) : Nat := dig (OC N n) 0 2 - 2 - (CL N).length
/-- an operator's cells, without what later calls write -/
noncomputable def OM (N n : Nat) : PH := match nth (OC N n) 0 with
  | none => []
  | some c => nset (nset (OC N n) 0 (c.1, c.2.1, ds (ds c.2.2 3 0) 4 0)) (imI N n) (18, dim N, 1)
/-- the operator at o; w names the owner of each cell -/
noncomputable def OrAt (h : PH) (w : Nat → Nat) (a o N n : Nat) : Prop := cop N n ∧ ∃ r : Nat → Nat, r 0 = a ∧ r (CL N).length = o ∧ (∀ b, 27 ≤ r b) ∧ (∀ b c, r b = r c → b = c) ∧ (∀ b, b < 1000 → r b < 1152921504606846976) ∧ Emb r (CL N ++ OM N n) h ∧ (∀ b, (CL N).length ≤ b → b < (CL N).length + (OC N n).length → w (r b) = 8 * N + n) ∧ CfAt h w (8 * N + n) (r ((CL N).length + imI N n)) o 3 (dim N) (tW N n) ∧ CfAt h w (8 * N + n) (r ((CL N).length + imI N n)) o 4 (cyc N) (tV N n)
/-- a made level with its operators' row -/
noncomputable def MdAt (h : PH) (w : Nat → Nat) (a N : Nat) : Prop := LevelAt h a N ∧ a < 1152921504606846976 ∧ 27 ≤ a ∧ ∃ p, dig h a 15 = p + 2 ∧ 27 ≤ p ∧ p < 1152921504606846976 ∧ w p = 1000 + N ∧ Sh h p 21 8 ∧ ∀ n, n < 8 → dig h p n = 1 ∨ ∃ o, dig h p n = o + 2 ∧ o < 1152921504606846976 ∧ 27 ≤ o ∧ OrAt h w a o N n
noncomputable def MK (h : PH) : Prop := ∃ w : Nat → Nat, ∀ N, 1 ≤ N → N ≤ 25 → dig h 1 N = 1 ∨ ∃ a, dig h 1 N = a + 2 ∧ MdAt h w a N
noncomputable def NwAt (h : PH) : Prop := ∀ m, m < 61 → gi h 26 m = -1 ∨ (1 ≤ m ∧ eqI (gi h 26 m) (tfW m) = true)
def CtAt (h : PH) (t : List Int32) : Prop := CTx h (fun i => t.getD i 0) t.length
def Cn (h : PH) (c : Int32 × Int32 × Int32) : Prop := gi h 0 6 = c.1 ∧ gi h 0 7 = c.2.1 ∧ gi h 0 8 = c.2.2
/-- the class's heap holds the state st -/
noncomputable def CR (h : PH) (st : St) : Prop := CW h ∧ WS st.1 ∧ SAt h 2 st.1 ∧ (∃ g, SAt h 4 g) ∧ HAt h st.2.1 ∧ (∀ s ∈ st.2.1, WS s) ∧ CtAt h st.2.2.1 ∧ Cn h st.2.2.2 ∧ MK h ∧ NwAt h
section C10
variable {h h' : PH} {N : Nat}
theorem fc_hi {S : List Nat} {a k d : Nat} (f : Fc S h h') (hs : ∀ x ∈ S, x < 27 ∧ x ≠ 1) (ha : 27 ≤ a) (e : dig h a k = d + 1) : dig h' a k = d + 1 := by
  rw [f.2.2.1 a k (dig_in e) (fun z => by have := (hs _ z).1; omega)]
  exact e
theorem CfAt.fc {S : List Nat} {w : Nat → Nat} {id im o k d : Nat} {t : Nat → Nat} (q : CfAt h w id im o k d t) (f : Fc S h h') (hs : ∀ x ∈ S, x < 27 ∧ x ≠ 1) (ho : 27 ≤ o) : CfAt h' w id im o k d t := by
  rcases q with e | ⟨c, e1, e2, e3, e4, e5, e6, e7⟩
  · exact Or.inl (fc_hi f hs ho (d := 0) e)
  · refine Or.inr ⟨c, fc_hi f hs ho e1, e2, e3, e4, e5, sh_ext e6 f.2.1, fun i hi => ?_⟩
    obtain ⟨v, hv⟩ : ∃ v, dgJ 1099511627776 (t i) = v + 1 := ⟨_, rfl⟩
    rw [hv]
    exact fc_hi f hs e2 (by rw [e7 i hi, hv])
theorem OrAt.fc {S : List Nat} {w : Nat → Nat} {a o n : Nat} (q : OrAt h w a o N n) (f : Fc S h h') (hs : ∀ x ∈ S, x < 27 ∧ x ≠ 1) : OrAt h' w a o N n := by
  obtain ⟨h1, r, r0, r1, r2, r3, r4, em, hw, c1, c2⟩ := q
  have ho : 27 ≤ o := by rw [← r1]; exact r2 _
  exact ⟨h1, r, r0, r1, r2, r3, r4, em.fc f (fun b z => by have := (hs _ z).1; have := r2 b; omega), hw, c1.fc f hs ho, c2.fc f hs ho⟩
theorem MK.fc {S : List Nat} (q : MK h) (f : Fc S h h') (hC : CW h) (hs : ∀ x ∈ S, x < 27 ∧ x ≠ 1) : MK h' := by
  obtain ⟨w, q⟩ := q
  refine ⟨w, fun N n1 n2 => ?_⟩
  have e1 : dig h' 1 N = dig h 1 N := fc_d f hC (by decide) (fun z => (hs _ z).2 rfl)
  rw [e1]
  rcases q N n1 n2 with e | ⟨a, e, lv, la, ha, p, p1, p2, p3, p4, p5, p6⟩
  · exact Or.inl e
  · refine Or.inr ⟨a, e, lv.fc f hs, la, ha, p, fc_hi f hs ha p1, p2, p3, p4, sh_ext p5 f.2.1, fun n hn => ?_⟩
    rcases p6 n hn with z | ⟨o, z1, z2, z3, z4⟩
    · exact Or.inl (fc_hi f hs p2 (d := 0) z)
    · exact Or.inr ⟨o, fc_hi f hs p2 z1, z2, z3, z4.fc f hs⟩
end C10
