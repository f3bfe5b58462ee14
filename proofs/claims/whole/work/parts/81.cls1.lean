section C1
variable {h h' : PH}
theorem c_refuse2 (hC : CW h) : T (fX9_refuse 0 (-2)) h (fun v h' => v = -2 ∧ h' = wI h 0 6 (gi h 0 6 + nI 1)) := by
  unfold fX9_refuse
  rw [c_chk hC (by decide) (by decide), T_ifp rfl]
  simp (disch := first | assumption | decide | omega | (simp only [cl_0, cl_1, cl_2, cl_3, cl_4, cl_5, cl_6, cl_7, cl_8, cl_9, cl_10, cl_11, cl_12, cl_13, cl_14, cl_15, cl_16, cl_17, cl_18, cl_19, cl_20, cl_21, cl_22, cl_23, cl_24, cl_25, cl_26]; omega) | (apply CW_wI rfl; (repeat' (first | assumption | apply CW_wI rfl | apply CW_wJ rfl)); done) | (apply CW_wJ rfl; (repeat' (first | assumption | apply CW_wI rfl | apply CW_wJ rfl)); done)) only [T_fr, T_frJ, li_0, li_1, li_2, li_3, li_4, li_5, li_6, li_7, li_8, li_9, li_10, li_11, li_12, li_13, li_14, li_15, li_16, li_17, li_25, li_30, li_31, li_32, li_33, li_43, li_45, li_48, li_57, li_59, li_60, li_61, li_99, li_110, li_116, li_119, li_120, li_122, li_127, li_165, li_198, li_256, pk_mul, nI_add, c_chk, c_gA, cr_0_0, cr_0_1, cr_0_2, cr_0_3, cr_0_4, cr_0_5, cr_2_1, cr_4_1, cr_6_0, cr_8_1, cr_9_1, cr_10_1, cr_11_1, cr_12_1, cr_13_1, cr_20_0, cr_20_2, cr_20_3, cr_20_4, cr_25_0, c_gI, c_lI, c_lJ, c_tI, c_tJ, c_sI, T_pp, T_ifn, T_ifp, not_false_eq_true, not_true_eq_false, gi_wI_ne, gi_wJ_ne, gj_wI_ne, gj_wJ_ne, gi_wI_nk, gi_wJ_nk, gj_wI_nk, gj_wJ_nk]
  exact ⟨trivial, trivial⟩
theorem c_refuse3 (hC : CW h) : T (fX9_refuse 0 (-3)) h (fun v h' => v = -3 ∧ h' = wI h 0 7 (gi h 0 7 + nI 1)) := by
  unfold fX9_refuse
  rw [c_chk hC (by decide) (by decide), T_ifn (by decide), T_ifp rfl]
  simp (disch := first | assumption | decide | omega | (simp only [cl_0, cl_1, cl_2, cl_3, cl_4, cl_5, cl_6, cl_7, cl_8, cl_9, cl_10, cl_11, cl_12, cl_13, cl_14, cl_15, cl_16, cl_17, cl_18, cl_19, cl_20, cl_21, cl_22, cl_23, cl_24, cl_25, cl_26]; omega) | (apply CW_wI rfl; (repeat' (first | assumption | apply CW_wI rfl | apply CW_wJ rfl)); done) | (apply CW_wJ rfl; (repeat' (first | assumption | apply CW_wI rfl | apply CW_wJ rfl)); done)) only [T_fr, T_frJ, li_0, li_1, li_2, li_3, li_4, li_5, li_6, li_7, li_8, li_9, li_10, li_11, li_12, li_13, li_14, li_15, li_16, li_17, li_25, li_30, li_31, li_32, li_33, li_43, li_45, li_48, li_57, li_59, li_60, li_61, li_99, li_110, li_116, li_119, li_120, li_122, li_127, li_165, li_198, li_256, pk_mul, nI_add, c_chk, c_gA, cr_0_0, cr_0_1, cr_0_2, cr_0_3, cr_0_4, cr_0_5, cr_2_1, cr_4_1, cr_6_0, cr_8_1, cr_9_1, cr_10_1, cr_11_1, cr_12_1, cr_13_1, cr_20_0, cr_20_2, cr_20_3, cr_20_4, cr_25_0, c_gI, c_lI, c_lJ, c_tI, c_tJ, c_sI, T_pp, T_ifn, T_ifp, not_false_eq_true, not_true_eq_false, gi_wI_ne, gi_wJ_ne, gj_wI_ne, gj_wJ_ne, gi_wI_nk, gi_wJ_nk, gj_wI_nk, gj_wJ_nk]
  exact ⟨trivial, trivial⟩
theorem c_refuse4 (hC : CW h) : T (fX9_refuse 0 (-4)) h (fun v h' => v = -4 ∧ h' = wI h 0 8 (gi h 0 8 + nI 1)) := by
  unfold fX9_refuse
  rw [c_chk hC (by decide) (by decide), T_ifn (by decide), T_ifn (by decide), T_ifp rfl]
  simp (disch := first | assumption | decide | omega | (simp only [cl_0, cl_1, cl_2, cl_3, cl_4, cl_5, cl_6, cl_7, cl_8, cl_9, cl_10, cl_11, cl_12, cl_13, cl_14, cl_15, cl_16, cl_17, cl_18, cl_19, cl_20, cl_21, cl_22, cl_23, cl_24, cl_25, cl_26]; omega) | (apply CW_wI rfl; (repeat' (first | assumption | apply CW_wI rfl | apply CW_wJ rfl)); done) | (apply CW_wJ rfl; (repeat' (first | assumption | apply CW_wI rfl | apply CW_wJ rfl)); done)) only [T_fr, T_frJ, li_0, li_1, li_2, li_3, li_4, li_5, li_6, li_7, li_8, li_9, li_10, li_11, li_12, li_13, li_14, li_15, li_16, li_17, li_25, li_30, li_31, li_32, li_33, li_43, li_45, li_48, li_57, li_59, li_60, li_61, li_99, li_110, li_116, li_119, li_120, li_122, li_127, li_165, li_198, li_256, pk_mul, nI_add, c_chk, c_gA, cr_0_0, cr_0_1, cr_0_2, cr_0_3, cr_0_4, cr_0_5, cr_2_1, cr_4_1, cr_6_0, cr_8_1, cr_9_1, cr_10_1, cr_11_1, cr_12_1, cr_13_1, cr_20_0, cr_20_2, cr_20_3, cr_20_4, cr_25_0, c_gI, c_lI, c_lJ, c_tI, c_tJ, c_sI, T_pp, T_ifn, T_ifp, not_false_eq_true, not_true_eq_false, gi_wI_ne, gi_wJ_ne, gj_wI_ne, gj_wJ_ne, gi_wI_nk, gi_wJ_nk, gj_wI_nk, gj_wJ_nk]
  exact ⟨trivial, trivial⟩
/-! states: a level's address and a row -/
abbrev isSt (d : Nat) : Prop := d = 2 ∨ d = 4 ∨ (8 ≤ d ∧ d ≤ 13)
theorem st_f : ∀ d, d < 27 → isSt d → ctag d = 7 ∧ clen d = 2 ∧ cref d 0 = 0 ∧ cref d 1 ≠ 0 ∧ cref d 1 < 27 ∧ ctag (cref d 1) = 18 ∧ clen (cref d 1) = 9 ∧ ¬ isSt (cref d 1) := by decide
theorem st_row : ∀ d, d < 27 → isSt d → cref d 1 = if d < 8 then d + 1 else d + 6 := by decide
theorem b01 (c : Prop) {_i : Decidable c} : (if c then (1 : Int32) else 0) = 0 ∨ (if c then (1 : Int32) else 0) = 1 := by
  by_cases h : c
  · rw [if_pos h]; exact Or.inr rfl
  · rw [if_neg h]; exact Or.inl rfl
theorem isSt_lt {d : Nat} (q : isSt d) : d < 27 := by
  rcases q with q | q | q <;> omega
theorem c_acp {a b : Nat} (hC : CW h) (ha : a < 27) (hb : b < 27) (ta : ctag a = 18) (tb' : ctag b = 18) (la : clen a = 9) (lb : clen b = 9) (hr : ∀ k, cref b k = 0) : T (acp a 0 b 0 9) h (fun _ h' => Fc [b] h h' ∧ ∀ k, k < 9 → dig h' b k = dig h a k) := by
  have sa := c_sh hC ha ta
  have sb := c_sh hC hb tb'
  rw [la] at sa
  rw [lb] at sb
  obtain ⟨x, e1, k1⟩ := sa
  obtain ⟨y, e2, k2⟩ := sb
  have hlb := nth_lt e2
  have run : (acp a 0 b 0 9).1 h = some ((), nset h b (18, 9, cpD x y 0 0 9)) := by
    have i0 : aix 0 = some 0 := aix_nI (k := 0) (by decide)
    have i9 : aix 9 = some 9 := aix_nI (k := 9) (by decide)
    unfold acp
    rw [i0, i9]
    exact acpF_of e1 e2 (by decide) (by decide) (knR_of fun i hi => by rw [Nat.zero_add]; exact k1 i hi)
  have hx := (acp a 0 b 0 9).2.1 _ _ _ run
  have dd : ∀ c k, dig (nset h b (18, 9, cpD x y 0 0 9)) c k = if c = b then (if k < 9 then dg x k else dg y k) else dig h c k := by
    intro c k
    rw [dig_nset hlb, dg_cpD]
    by_cases cc : c = b
    · rw [if_pos cc, if_pos cc]
      by_cases ck : k < 9
      · rw [if_pos ⟨Nat.zero_le _, by omega⟩, if_pos ck, Nat.zero_add, Nat.sub_zero]
      · rw [if_neg (fun z => ck (by have := z.2; omega)), if_neg ck]
    · rw [if_neg cc, if_neg cc]
  refine ⟨(), _, run, ⟨⟨Nat.le_trans hC.1 hx.1, fun c hc => sh_ext (hC.2.1 c hc) hx, fun c k hk => ?_⟩, hx, fun c k hl hc => ?_, nset_len _ _ _, sl_nset e2 rfl⟩, fun k hk => ?_⟩
  · have : c ≠ b := fun e => hk (by rw [e]; exact hr k)
    rw [dd, if_neg this]
    exact hC.2.2 c k hk
  · rw [dd, if_neg (fun e => hc (by rw [e]; exact List.mem_singleton.mpr rfl))]
  · rw [dd, if_pos rfl, if_pos hk]
    unfold dig
    rw [e1]
theorem t_sR {α : Type} {Q : α → PH → Prop} {t k a n b : Nat} {f : Unit → PM α} (s : Sh h a t n) (hk : k < n) (hb : b < 1152921504606846976) : T (pb (sR t k a (some b)) f) h Q = T (f ()) (wR h a k b) Q := t_sD (d := b + 2) s hk (by omega) (by omega)
theorem CW_wR {a k b : Nat} (ha : cref a k = 0) (hb : b < 1152921504606846976) (hC : CW h) : CW (wR h a k b) := CW_wr hC (by omega) (by omega) ha
theorem cref_row : ∀ b, b < 27 → ctag b = 18 → ∀ k, cref b k = 0 := by
  intro b hb ht k
  by_cases c : cref b k = 0
  · exact c
  · obtain ⟨-, h2⟩ := cref_lt c
    have key : ∀ b, b < 27 → ctag b = 18 → ∀ k, k < clen b → cref b k = 0 := by decide
    exact key b hb ht k h2
theorem c_copyFrom {d s lv : Nat} (hC : CW h) (hd : isSt d) (hs : isSt s) (hl : dig h s 0 = lv + 2) (hb : lv < 1152921504606846976) : T (fX8_copyFrom d s) h (fun _ h' => Fc [d, cref d 1] h h' ∧ dig h' d 0 = lv + 2 ∧ ∀ k, k < 9 → dig h' (cref d 1) k = dig h (cref s 1) k) := by
  obtain ⟨d1, d2, d3, d4, d5, d6, d7, d8⟩ := st_f d (isSt_lt hd) hd
  obtain ⟨s1, s2, s3, s4, s5, s6, s7, s8⟩ := st_f s (isSt_lt hs) hs
  have shs : Sh h s 7 2 := by have := c_sh hC (isSt_lt hs) s1; rw [s2] at this; exact this
  have shd : Sh h d 7 2 := by have := c_sh hC (isSt_lt hd) d1; rw [d2] at this; exact this
  unfold fX8_copyFrom
  rw [c_chk hC (isSt_lt hd) d1, t_gA shs (by decide) hl, t_sR shd (by decide) hb]
  have hC1 : CW (wR h d 0 lv) := CW_wR d3 hb hC
  have f1 : Fc [d, cref d 1] h (wR h d 0 lv) := fc_wr (Fc.rf hC _) (by omega) (by omega) d3 List.mem_cons_self
  rw [c_gA hC1 s4 s1, c_gA hC1 d4 d1]
  refine T_call (c_acp hC1 s5 d5 s6 d6 s7 d7 (cref_row _ d5 d6)) fun _ h2 p => ?_
  obtain ⟨f2, p2⟩ := p
  rw [T_pp]
  have ne : d ≠ cref d 1 := fun e => d8 (by rw [← e]; exact hd)
  have ne2 : cref s 1 ≠ d := fun e => s8 (by rw [e]; exact hd)
  refine ⟨f1.seq f2 (fun x hx => by rw [List.mem_singleton.mp hx]; exact List.mem_cons_of_mem _ List.mem_cons_self), ?_, fun k hk => ?_⟩
  · rw [fc_d f2 hC1 (isSt_lt hd) (fun z => ne (List.mem_singleton.mp z))]
    unfold wR
    rw [wr_dig (by omega) (Nat.lt_of_lt_of_le (isSt_lt hd) hC.1), if_pos ⟨rfl, rfl⟩]
  · rw [p2 k hk]
    unfold wR
    exact wr_dig_ne ne2
theorem c_fill {b : Nat} (hC : CW h) (hb : b < 27) (tb' : ctag b = 18) (lb : clen b = 9) : T (fJ7_fill_d0a16 b 0) h (fun _ h' => Fc [b] h h' ∧ ∀ k, k < 9 → gj h' b k = 0) := by
  have sb := c_sh hC hb tb'
  rw [lb] at sb
  have al' : (aln b).1 h = some (nI 9, h) := by
    obtain ⟨x, e, -⟩ := sb
    unfold aln
    simp only [e]
    rfl
  unfold fJ7_fill_d0a16
  refine T_call (P := fun v h' => h' = h ∧ v = nI 9) ⟨_, _, al', rfl, rfl⟩ fun v h1 p => ?_
  obtain ⟨rfl, rfl⟩ := p
  refine T_call (P := fun _ h' => Fc [b] h1 h' ∧ ∀ k, k < 9 → gj h' b k = 0) ?_ (fun _ ha p => by rw [T_pp]; exact p)
  refine T_for 9 (fun n h' => Fc [b] h1 h' ∧ ∀ k, k < n → gj h' b k = 0) (fun i ha hi hI => ?_) (fun ha hI => ?_) (by decide) (i0 := 0) (by decide) ⟨Fc.rf hC _, fun k hk => by omega⟩
  · obtain ⟨hF, hI⟩ := hI
    have c1 : ¬ nI 9 ≤ nI i := nI_ge hi (by decide)
    unfold fJ7_fill_d0a16_B6 fJ7_fill_d0a16_b6
    rw [T_fr, T_ifn c1, c_tJ hF.1 hb tb' (by rw [lb]; exact hi), T_pp]
    refine ⟨by rw [nI_succ], hF.J (cref_row b hb tb' i) (List.mem_singleton.mpr rfl), fun k hk => ?_⟩
    rw [gj_wJc hF.1 hb]
    by_cases c : k = i
    · rw [if_pos ⟨rfl, c⟩]
    · rw [if_neg (fun z => c z.2)]
      exact hI k (by omega)
  · unfold fJ7_fill_d0a16_B6 fJ7_fill_d0a16_b6
    rw [T_fr, T_ifp (by decide), T_pp]
    exact ⟨(), rfl, hI⟩
theorem c_becomeZero {d : Nat} (hC : CW h) (hd : isSt d) : T (fX8_becomeZero d) h (fun v h' => v = 0 ∧ Fc [cref d 1] h h' ∧ ∀ k, k < 9 → gj h' (cref d 1) k = 0) := by
  obtain ⟨d1, d2, d3, d4, d5, d6, d7, d8⟩ := st_f d (isSt_lt hd) hd
  unfold fX8_becomeZero
  rw [c_chk hC (isSt_lt hd) d1, c_gA hC d4 d1]
  refine T_call (c_fill hC d5 d6 d7) fun _ h1 p => ?_
  rw [T_pp]
  exact ⟨rfl, p.1, p.2⟩
/-! the text -/
def CTx (h : PH) (tx : Nat → Int32) (L : Nat) : Prop := L ≤ 120 ∧ dig h 20 1 = L + 1 ∧ ∀ i, i < L → gi h 21 i = tx i ∧ rg (tx i) 0 127
theorem CTx.fr {S : List Nat} {tx : Nat → Int32} {L : Nat} (q : CTx h tx L) (hC : CW h) (f : Fc S h h') (h1 : 20 ∉ S) (h2 : 21 ∉ S) : CTx h' tx L := ⟨q.1, by rw [fc_d f hC (by decide) h1]; exact q.2.1, fun i hi => by rw [fc_gi f hC (by decide) h2]; exact q.2.2 i hi⟩
variable {tx : Nat → Int32} {L : Nat}
theorem c_byteHere (hC : CW h) (ht : CTx h tx L) {p : Nat} (hp : p ≤ L) (h6 : dig h 20 6 = p + 1) : T (fX7_byteHere 20) h (fun v h' => h' = h ∧ v = if p < L then tx p else -1) := by
  unfold fX7_byteHere
  have L120 := ht.1
  have g6 := dig_gi h6
  have g1 := dig_gi ht.2.1
  rw [c_chk hC (by decide) (by decide), c_gI hC (by decide) (by decide) (by decide), c_gI hC (by decide) (by decide) (by decide), g6, g1]
  by_cases c : p < L
  · rw [T_ifn (nI_ge c (by omega)), c_gI hC (by decide) (by decide) (by decide), g6, li_120, T_ifn (nI_ge (by omega) (by decide)), c_gA hC (by decide) (by decide), cr_20_0, c_gI hC (by decide) (by decide) (by decide), g6, c_lI hC (by decide) (by decide) (by rw [cl_21]; omega), (ht.2.2 p c).1, T_pp, if_pos c]
    exact ⟨rfl, rfl⟩
  · rw [T_ifp (nI_le (by omega) (by omega)), T_pp, if_neg c]
    exact ⟨rfl, rfl⟩
/-- only the script's object has changed, and there only the places K -/
def Fo (K : List Nat) (h h' : PH) : Prop := CW h' ∧ Ext h h' ∧ (∀ a k, a ≠ 20 → a < h.length → dig h' a k = dig h a k) ∧ (∀ k, k ∉ K → dig h' 20 k = dig h 20 k) ∧ Sm h h'
theorem Fo.rf (hC : CW h) (K : List Nat) : Fo K h h := ⟨hC, Ext.rf h, fun _ _ _ _ => rfl, fun _ _ => rfl, Sm.rf h⟩
theorem Fo.tr {K : List Nat} {h1 h2 h3 : PH} (a : Fo K h1 h2) (b : Fo K h2 h3) : Fo K h1 h3 := ⟨b.1, a.2.1.tr b.2.1, fun x k hx hl => by rw [b.2.2.1 x k hx (Nat.lt_of_lt_of_le hl a.2.1.1), a.2.2.1 x k hx hl], fun k hk => by rw [b.2.2.2.1 k hk, a.2.2.2.1 k hk], a.2.2.2.2.tr b.2.2.2.2⟩
theorem Fo.sub {K K' : List Nat} {h1 h2 : PH} (a : Fo K h1 h2) (hs : ∀ x ∈ K, x ∈ K') : Fo K' h1 h2 := ⟨a.1, a.2.1, a.2.2.1, fun k hk => a.2.2.2.1 k (fun z => hk (hs k z)), a.2.2.2.2⟩
theorem Fo.seq {K K' : List Nat} {h1 h2 h3 : PH} (a : Fo K h1 h2) (b : Fo K' h2 h3) (hs : ∀ x ∈ K', x ∈ K) : Fo K h1 h3 := a.tr (b.sub hs)
theorem Fo.I {K : List Nat} {h0 : PH} {k : Nat} {v : Int32} (f : Fo K h0 h) (hk : k ∈ K) (hr : cref 20 k = 0) : Fo K h0 (wI h 20 k v) := ⟨CW_wI hr f.1, f.2.1.tr (wr_ext (eI_lt v) (eI_0 v)), fun a j ha hl => by unfold wI; rw [wr_dig_ne ha]; exact f.2.2.1 a j ha hl, fun j hj => by unfold wI; rw [wr_dig_nk (eI_lt v) (fun e => hj (by rw [e]; exact hk))]; exact f.2.2.2.1 j hj, f.2.2.2.2.tr (wr_sm _ _ _)⟩
theorem Fo.fc {K : List Nat} (f : Fo K h h') : Fc [20] h h' := ⟨f.1, f.2.1, fun a k hl ha => f.2.2.1 a k (fun e => ha (List.mem_singleton.mpr e)) hl, f.2.2.2.2⟩
theorem CTx.fo {K : List Nat} (q : CTx h tx L) (hC : CW h) (f : Fo K h h') (h1 : 1 ∉ K) : CTx h' tx L := ⟨q.1, by rw [f.2.2.2.1 1 h1]; exact q.2.1, fun i hi => by rw [fc_gi f.fc hC (by decide) (by decide)]; exact q.2.2 i hi⟩
theorem fo_gi {K : List Nat} {k : Nat} (f : Fo K h h') (hk : k ∉ K) : gi h' 20 k = gi h 20 k := by
  unfold gi
  rw [f.2.2.2.1 k hk]
theorem c_skipBlanks (hC : CW h) (ht : CTx h tx L) {p : Nat} (hp : p ≤ L) (h6 : dig h 20 6 = p + 1) : T (fX7_skipBlanks 20) h (fun _ h' => Fo [6] h h' ∧ dig h' 20 6 = sk tx L p + 1) := by
  unfold fX7_skipBlanks
  have L120 := ht.1
  rw [c_chk hC (by decide) (by decide)]
  refine T_call (P := fun _ h' => Fo [6] h h' ∧ dig h' 20 6 = sk tx L p + 1) ?_ (fun _ ha P => by rw [T_pp]; exact P)
  refine T_loop (fun n _ ha => ∃ k, n = L - k ∧ k ≤ L ∧ Fo [6] h ha ∧ dig ha 20 6 = k + 1 ∧ sk tx L k = sk tx L p) (fun n x ha I => ?_) fu (L - p) () h (by unfold fu; omega) ⟨p, rfl, hp, Fo.rf hC _, h6, rfl⟩
  obtain ⟨k, rfl, hk, hF, e6, es⟩ := I
  have hC1 := hF.1
  have ht1 := ht.fo hC hF (by decide)
  have g6 := dig_gi e6
  have g1 := dig_gi ht1.2.1
  unfold fX7_skipBlanks_B0 fX7_skipBlanks_b0
  rw [c_gI hC1 (by decide) (by decide) (by decide), c_gI hC1 (by decide) (by decide) (by decide), g6, g1]
  by_cases c : k < L
  · rw [T_ifn (nI_ge c (by omega))]
    refine T_call (c_byteHere hC1 ht1 hk e6) fun v hb P => ?_
    obtain ⟨rfl, rfl⟩ := P
    rw [if_pos c]
    by_cases c2 : tx k = 32
    · rw [T_ifp c2, c_gI hC1 (by decide) (by decide) (by decide), g6, c_sI hC1 (by decide) (by decide) (by decide), T_pp]
      refine Or.inl ⟨(), L - (k + 1), rfl, by omega, k + 1, rfl, by omega, hF.I (by decide) rfl, ?_, ?_⟩
      · rw [dig_wIc hC1 (by decide), if_pos ⟨rfl, rfl⟩, nI_1, eI_nI (by omega)]
      · rw [← es, sk_s k, if_pos ⟨c, c2⟩]
    · rw [T_ifn c2, T_pp]
      refine Or.inr ⟨(), rfl, hF, ?_⟩
      rw [e6, ← es, sk_id (fun z => c2 z.2)]
  · rw [T_ifp (nI_le (by omega) (by omega)), T_pp]
    refine Or.inr ⟨(), rfl, hF, ?_⟩
    rw [e6, ← es, sk_id (fun z => c z.1)]
theorem c_digitHere (hC : CW h) (ht : CTx h tx L) {p : Nat} (hp : p ≤ L) (h6 : dig h 20 6 = p + 1) : T (fX7_digitHere 20) h (fun v h' => h' = h ∧ v = if isD tx L p then 1 else 0) := by
  unfold fX7_digitHere
  rw [c_chk hC (by decide) (by decide)]
  refine T_call (c_byteHere hC ht hp h6) fun v h1 P => ?_
  obtain ⟨rfl, rfl⟩ := P
  refine T_call (c_within _ _ _) fun v h2 P => ?_
  obtain ⟨rfl, rfl⟩ := P
  rw [t_pz (b01 _), T_pp]
  refine ⟨rfl, ?_⟩
  rw [show (48 : Int32).toInt = 48 from rfl, show (57 : Int32).toInt = 57 from rfl]
  by_cases c : p < L
  · rw [if_pos c]
    by_cases c2 : rg (tx p) 48 57
    · rw [if_pos c2, if_pos ⟨c, c2⟩]
    · rw [if_neg c2, if_neg (fun z => c2 z.2)]
  · rw [if_neg c, if_neg (by decide), if_neg (fun z => c z.1)]
theorem c_digits (hC : CW h) (ht : CTx h tx L) {p : Nat} (hp : p ≤ L) (h6 : dig h 20 6 = p + 1) (x : Int32) : T (plo (fX7_parseNumber_B42 20 x) fu (0, nI 0)) h (fun z h' => Fo [6] h h' ∧ dig h' 20 6 = (nds tx L 3 p 0).1 + 1 ∧ z = ((nds tx L 3 p 0).2, nI ((nds tx L 3 p 0).1 - p))) := by
  have L120 := ht.1
  generalize eF : nds tx L 3 p 0 = F
  refine T_loop (fun n z ha => ∃ i v, i ≤ 3 ∧ z = (v, nI i) ∧ n = 3 - i ∧ p + i ≤ L ∧ Fo [6] h ha ∧ dig ha 20 6 = p + i + 1 ∧ nds tx L (3 - i) (p + i) v = F) (fun n z ha I => ?_) fu 3 (0, nI 0) h (by decide) ⟨0, 0, by omega, rfl, rfl, by omega, Fo.rf hC _, h6, eF⟩
  obtain ⟨i, v, hi, rfl, rfl, hpi, hF, e6, en⟩ := I
  have hC1 := hF.1
  have ht1 := ht.fo hC hF (by decide)
  have g6 := dig_gi e6
  have fin : (isD tx L (p + i) → i = 3) → F = (p + i, v) := by
    intro z
    rw [← en]
    by_cases c3 : i = 3
    · rw [c3]; rfl
    · obtain ⟨k, hk⟩ : ∃ k, 3 - i = k + 1 := ⟨2 - i, by omega⟩
      rw [hk]
      show (if isD tx L (p + i) then _ else _) = _
      rw [if_neg (fun y => c3 (z y))]
  unfold fX7_parseNumber_B42 fX7_parseNumber_b42
  rw [T_fr, T_fr]
  dsimp only
  by_cases c3 : i = 3
  · have e0 := fin (fun _ => c3)
    rw [T_ifp (by rw [c3]; decide), T_pp]
    refine Or.inr ⟨_, rfl, hF, by rw [e6, e0], ?_⟩
    rw [e0]
    show (v, nI i) = (v, nI (p + i - p))
    rw [show p + i - p = i by omega]
  · have cn : ¬ nI 3 ≤ nI i := nI_ge (by omega) (by decide)
    rw [li_3, T_ifn cn]
    refine T_call (c_digitHere hC1 ht1 hpi e6) fun w hb P => ?_
    obtain ⟨rfl, rfl⟩ := P
    by_cases c : isD tx L (p + i)
    · rw [if_pos c, T_ifn (by decide)]
      refine T_call (c_byteHere hC1 ht1 hpi e6) fun w hc P => ?_
      obtain ⟨rfl, rfl⟩ := P
      rw [if_pos c.1, c_gI hC1 (by decide) (by decide) (by decide), g6, c_sI hC1 (by decide) (by decide) (by decide), T_pp]
      refine Or.inl ⟨_, 3 - (i + 1), rfl, by omega, i + 1, 10 * v + tx (p + i) - 48, by omega, by rw [nI_succ], rfl, by have := c.1; omega, hF.I (by decide) rfl, ?_, ?_⟩
      · rw [dig_wIc hC1 (by decide), if_pos ⟨rfl, rfl⟩, nI_1, eI_nI (by omega)]
        rfl
      · rw [← en, show 3 - i = (3 - (i + 1)) + 1 by omega]
        show _ = (if isD tx L (p + i) then _ else _)
        rw [if_pos c]
        rfl
    · have e0 := fin (fun z => absurd z c)
      rw [if_neg c, T_ifp rfl, T_pp]
      refine Or.inr ⟨_, rfl, hF, by rw [e6, e0], ?_⟩
      rw [e0]
      show (v, nI i) = (v, nI (p + i - p))
      rw [show p + i - p = i by omega]
theorem nb2_le' {sg : Bool} {p : Nat} (hp : p ≤ L) (ht : CTx h tx L) : nb2 tx L sg p ≤ L := by
  unfold nb2
  have := sk_le (tx := tx) hp
  split
  · rename_i c
    have : sk tx L p < L := by
      by_cases z : sk tx L p < L
      · exact z
      · have e := c.2
        unfold hr at e
        rw [if_neg z] at e
        exact absurd e (by decide)
    omega
  · exact this
/-- behind the figures -/
theorem c_numEnd (hC : CW h) (ht : CTx h tx L) {p2 : Nat} (hp2 : p2 ≤ L) {F : Nat × Int32} (hF : F = nds tx L 3 p2 0) (h6 : dig h 20 6 = F.1 + 1) : T (@ite _ (nI (F.1 - p2) ≤ 0) (dLe (nI (F.1 - p2)) 0) (pp (0 : Int32)) (pb (fX7_digitHere 20) fun v17 => (@ite _ (v17 = 0) (dEq v17 0) (pp (1 : Int32)) (pp (0 : Int32))))) h (fun v h' => h' = h ∧ v = if p2 < F.1 ∧ ¬ isD tx L F.1 then 1 else 0) := by
  have l3 := nds_le (tx := tx) (L := L) 3 p2 0
  rw [← hF] at l3
  by_cases c : p2 < F.1
  · have c1 : ¬ nI (F.1 - p2) ≤ 0 := nI_nle (by omega) (by omega)
    rw [T_ifn c1]
    refine T_call (c_digitHere hC ht (l3.2.1 hp2) h6) fun v h1 P => ?_
    obtain ⟨rfl, rfl⟩ := P
    by_cases c2 : isD tx L F.1
    · rw [if_pos c2, T_ifn (by decide), T_pp, if_neg (fun z => z.2 c2)]
      exact ⟨rfl, rfl⟩
    · rw [if_neg c2, T_ifp rfl, T_pp, if_pos ⟨c, c2⟩]
      exact ⟨rfl, rfl⟩
  · have c1 : nI (F.1 - p2) ≤ 0 := by
      rw [show F.1 - p2 = 0 by omega]
      decide
    rw [T_ifp c1, T_pp, if_neg (fun z => c z.1)]
    exact ⟨rfl, rfl⟩
theorem c_numTail (hC : CW h) (ht : CTx h tx L) {p2 : Nat} (hp2 : p2 ≤ L) (h6 : dig h 20 6 = p2 + 1) (x : Int32) (val : Int32 → Int32) : T (pb (plo (fX7_parseNumber_B42 20 x) fu ((0 : Int32), (0 : Int32))) fun z => pb (sI 6 7 20 (val z.1)) fun _ => (@ite _ (z.2 ≤ 0) (dLe z.2 0) (pp (0 : Int32)) (pb (fX7_digitHere 20) fun v17 => (@ite _ (v17 = 0) (dEq v17 0) (pp (1 : Int32)) (pp (0 : Int32)))))) h (fun v h' => Fo [6, 7] h h' ∧ dig h' 20 6 = (nds tx L 3 p2 0).1 + 1 ∧ gi h' 20 7 = val (nds tx L 3 p2 0).2 ∧ v = if p2 < (nds tx L 3 p2 0).1 ∧ ¬ isD tx L (nds tx L 3 p2 0).1 then 1 else 0) := by
  refine T_call (c_digits hC ht hp2 h6 x) fun z h1 P => ?_
  obtain ⟨f1, d1, rfl⟩ := P
  dsimp only
  have hC1 := f1.1
  rw [c_sI hC1 (by decide) (by decide) (by decide)]
  have hC2 : CW (wI h1 20 7 (val (nds tx L 3 p2 0).2)) := CW_wI rfl hC1
  have f2 : Fo [6, 7] h (wI h1 20 7 (val (nds tx L 3 p2 0).2)) := (f1.sub (by decide)).I (by decide) rfl
  have d2 : dig (wI h1 20 7 (val (nds tx L 3 p2 0).2)) 20 6 = (nds tx L 3 p2 0).1 + 1 := by rw [dig_wIc hC1 (by decide), if_neg (by decide)]; exact d1
  refine T_mono (c_numEnd hC2 (ht.fo hC f2 (by decide)) hp2 rfl d2) fun v h3 P => ?_
  obtain ⟨rfl, rfl⟩ := P
  exact ⟨f2, d2, by rw [gi_wIc hC1 (by decide), if_pos ⟨rfl, rfl⟩], rfl⟩
theorem c_parseNumber (hC : CW h) (ht : CTx h tx L) {p : Nat} (hp : p ≤ L) (h6 : dig h 20 6 = p + 1) (sg : Bool) : T (fX7_parseNumber 20 (if sg = true then 1 else 0)) h (fun v h' => Fo [6, 7] h h' ∧ dig h' 20 6 = (nm tx L sg p).2.2 + 1 ∧ gi h' 20 7 = (nm tx L sg p).2.1 ∧ v = if (nm tx L sg p).1 = true then 1 else 0) := by
  unfold fX7_parseNumber
  have L120 := ht.1
  have sl := sk_le (tx := tx) hp
  rw [c_chk hC (by decide) (by decide)]
  refine T_call (c_skipBlanks hC ht hp h6) fun _ h1 P => ?_
  obtain ⟨f1, d1⟩ := P
  have hC1 := f1.1
  have ht1 := ht.fo hC f1 (by decide)
  have plain : ¬ (sg = true ∧ hr tx L p = 45) → ∀ (v : Int32) h', (Fo [6, 7] h1 h' ∧ dig h' 20 6 = (nds tx L 3 (sk tx L p) 0).1 + 1 ∧ gi h' 20 7 = (nds tx L 3 (sk tx L p) 0).2 ∧ v = if sk tx L p < (nds tx L 3 (sk tx L p) 0).1 ∧ ¬ isD tx L (nds tx L 3 (sk tx L p) 0).1 then 1 else 0) → (Fo [6, 7] h h' ∧ dig h' 20 6 = (nm tx L sg p).2.2 + 1 ∧ gi h' 20 7 = (nm tx L sg p).2.1 ∧ v = if (nm tx L sg p).1 = true then 1 else 0) := by
    intro c v h' P
    obtain ⟨f, d, g, rfl⟩ := P
    have eb : nb2 tx L sg p = sk tx L p := by unfold nb2; rw [if_neg c]
    unfold nm
    rw [eb, if_neg c]
    refine ⟨(f1.sub (by decide)).tr f, d, g, ?_⟩
    simp only [decide_eq_true_eq]
  by_cases cs : sg = true
  · rw [if_pos cs, T_ifn (by decide)]
    refine T_call (c_byteHere hC1 ht1 sl d1) fun v h2 P => ?_
    obtain ⟨rfl, rfl⟩ := P
    have ehr : (if sk tx L p < L then tx (sk tx L p) else -1) = hr tx L p := rfl
    rw [ehr]
    by_cases c1 : hr tx L p = 45
    · have eb : nb2 tx L sg p = sk tx L p + 1 := by unfold nb2; rw [if_pos ⟨cs, c1⟩]
      have lb := nb2_le' (sg := sg) hp ht
      rw [T_ifp c1, c_gI hC1 (by decide) (by decide) (by decide), dig_gi d1, c_sI hC1 (by decide) (by decide) (by decide)]
      have hC2 : CW (wI h2 20 6 (nI (sk tx L p) + 1)) := CW_wI rfl hC1
      have f2 : Fo [6, 7] h (wI h2 20 6 (nI (sk tx L p) + 1)) := (f1.sub (by decide)).I (by decide) rfl
      have d2 : dig (wI h2 20 6 (nI (sk tx L p) + 1)) 20 6 = nb2 tx L sg p + 1 := by rw [dig_wIc hC1 (by decide), if_pos ⟨rfl, rfl⟩, nI_1, eI_nI (by omega), eb]
      refine T_mono (c_numTail hC2 (ht.fo hC f2 (by decide)) lb d2 1 (fun x => -x)) fun v h3 P => ?_
      obtain ⟨f3, d3, g3, rfl⟩ := P
      unfold nm
      rw [if_pos ⟨cs, c1⟩]
      refine ⟨f2.tr f3, d3, g3, ?_⟩
      simp only [decide_eq_true_eq]
    · rw [T_ifn c1]
      exact T_mono (c_numTail hC1 ht1 sl d1 0 (fun x => x)) (plain fun z => c1 z.2)
  · rw [if_neg cs, T_ifp rfl]
    exact T_mono (c_numTail hC1 ht1 sl d1 0 (fun x => x)) (plain fun z => cs z.1)
end C1
