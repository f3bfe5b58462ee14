section C9
variable {h h' : PH} {N : Nat}
/-- cells that later calls write: operators, rows of longs, rows of operators -/
def mtT (t : Nat) : Bool := Nat.beq t 4 || (Nat.beq t 18 || Nat.beq t 21)
def Mt (h : PH) (a : Nat) : Prop := ∃ c, nth h a = some c ∧ mtT c.1 = true
/-- a frame by tags: of the fixed cells only those of S changed, of the others only what may be written -/
def Ft (S : List Nat) (h h' : PH) : Prop := CW h' ∧ Ext h h' ∧ ∀ a k, a < h.length → a ∉ S → ¬ (27 ≤ a ∧ Mt h a) → dig h' a k = dig h a k
theorem Fc.ft {S : List Nat} (f : Fc S h h') : Ft S h h' := ⟨f.1, f.2.1, fun a k hl hs _ => f.2.2.1 a k hl hs⟩
theorem Mt.ext {a : Nat} (q : Mt h' a) (e : Ext h h') (hl : a < h.length) : Mt h a := by
  obtain ⟨c, h1, h2⟩ := q
  obtain ⟨d, hd⟩ : ∃ d, nth h a = some d := ⟨h[a], by rw [nth_eq]; exact List.getElem?_eq_getElem hl⟩
  obtain ⟨x, h3, -⟩ := e.2.2 a d hd
  rw [h1] at h3
  have := Option.some.inj h3
  rw [this] at h2
  exact ⟨d, hd, h2⟩
theorem Ft.tr {S : List Nat} {h0 : PH} (a : Ft S h0 h) (b : Ft S h h') : Ft S h0 h' := ⟨b.1, a.2.1.tr b.2.1, fun x k hl hx hm => by
  rw [b.2.2 x k (Nat.lt_of_lt_of_le hl a.2.1.1) hx (fun z => hm ⟨z.1, z.2.ext a.2.1 hl⟩), a.2.2 x k hl hx hm]⟩
theorem Ft.sub {S S' : List Nat} (a : Ft S h h') (hs : ∀ x ∈ S, x ∈ S') : Ft S' h h' := ⟨a.1, a.2.1, fun x k hl hx => a.2.2 x k hl fun q => hx (hs _ q)⟩
theorem ft_d {S : List Nat} {a k : Nat} (f : Ft S h h') (hC : CW h) (ha : a < 27) (hs : a ∉ S) : dig h' a k = dig h a k := f.2.2 a k (Nat.lt_of_lt_of_le ha hC.1) hs (fun z => by have := z.1; omega)
theorem ft_gi {S : List Nat} {a k : Nat} (f : Ft S h h') (hC : CW h) (ha : a < 27) (hs : a ∉ S) : gi h' a k = gi h a k := by
  unfold gi
  rw [ft_d f hC ha hs]
theorem ft_gj {S : List Nat} {a k : Nat} (f : Ft S h h') (hC : CW h) (ha : a < 27) (hs : a ∉ S) : gj h' a k = gj h a k := by
  unfold gj
  rw [ft_d f hC ha hs]
def mtB (e : PH) : Bool := List.all e fun c => !(mtT c.1) || Nat.beq c.2.2 1
theorem mt_CL : allN 26 (fun N => mtB (CL N)) = true := by
  decide +kernel
theorem Emb.ft {S : List Nat} {r : Nat → Nat} {e : PH} (q : Emb r e h) (f : Ft S h h') (hr : ∀ b, r b ∉ S) (hm : mtB e = true) : Emb r e h' := by
  intro b t n x hb
  obtain ⟨y, f1, f2⟩ := q b t n x hb
  obtain ⟨z, g1, -⟩ := f.2.1.2.2 _ _ f1
  refine ⟨z, g1, fun k => ?_⟩
  by_cases c : mtT t = true
  · have hin : (t, n, x) ∈ e := by
      rw [nth_eq] at hb
      exact List.mem_of_getElem? hb
    have h1 := List.all_eq_true.mp hm _ hin
    have h2 : (!(mtT t) || Nat.beq x 1) = true := h1
    rw [c] at h2
    have h3 : x = 1 := Nat.eq_of_beq_eq_true h2
    have h4 := f2 k
    rw [h3, dg_one] at h4 ⊢
    unfold dR at h4 ⊢
    first | exact Or.inl rfl | (intro hz; exact absurd rfl hz) | exact fun hz => absurd rfl hz
  · have := f.2.2 (r b) k (nth_lt f1) (hr b) (fun z => by
      obtain ⟨d, hd, he⟩ := z.2
      rw [f1] at hd
      have := Option.some.inj hd
      rw [← this] at he
      exact c he)
    unfold dig at this
    rw [f1, g1] at this
    have e : dg z k = dg y k := this
    rw [e]
    exact f2 k
theorem LevelAt.ft {S : List Nat} {a : Nat} (q : LevelAt h a N) (f : Ft S h h') (hs : ∀ x ∈ S, x < 27 ∧ x ≠ 1) : LevelAt h' a N := by
  obtain ⟨h1, h2, hl, r, r0, r1, r2, r3, em⟩ := q
  refine ⟨h1, h2, ?_, r, r0, r1, r2, r3, em.ft f (fun b z => by have := (hs _ z).1; have := r1 b; omega) (allN_at mt_CL N (by omega))⟩
  rw [f.2.2 1 N (dig_in hl) (fun z => (hs _ z).2 rfl) (fun z => absurd z.1 (by decide))]
  exact hl
theorem SAt.ft {S : List Nat} {d : Nat} {g : Sg} (q : SAt h d g) (hC : CW h) (f : Ft S h h') (hd : isSt d) (h1 : d ∉ S) (h2 : cref d 1 ∉ S) (hs : ∀ x ∈ S, x < 27 ∧ x ≠ 1) : SAt h' d g := by
  obtain ⟨a, e0, la, lv, row⟩ := q
  obtain ⟨-, -, -, -, d5, -⟩ := st_f d (isSt_lt hd) hd
  exact ⟨a, by rw [ft_d f hC (isSt_lt hd) h1]; exact e0, la, lv.ft f hs, fun i hi => by rw [ft_gj f hC d5 h2]; exact row i hi⟩
end C9
