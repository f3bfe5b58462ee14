section PRC
variable {r : Nat → Nat}
theorem kdv_16 (k : Nat) : kd 16 k ≠ 2 := by rw [show kd 16 k = 0 from rfl]; decide
theorem kdv_17 (k : Nat) : kd 17 k ≠ 2 := by rw [show kd 17 k = 0 from rfl]; decide
theorem kdv_18 (k : Nat) : kd 18 k ≠ 2 := by rw [show kd 18 k = 1 from rfl]; decide
theorem kdv_19 (k : Nat) : kd 19 k ≠ 2 := by rw [show kd 19 k = 0 from rfl]; decide
theorem kdv_20 (k : Nat) : kd 20 k = 2 := rfl
theorem kdv_21 (k : Nat) : kd 21 k = 2 := rfl
theorem kdv_22 (k : Nat) : kd 22 k = 2 := rfl
theorem kdv_23 (k : Nat) : kd 23 k = 2 := rfl
theorem kdv_24 (k : Nat) : kd 24 k = 2 := rfl
theorem prJ7_fill_53178_b5 {x0 : Nat} {x1 : Int32} {x3 : Int32} {x2 : Int32} (b_x0 : x0 < 1152921504606846976) : PR r (fJ7_fill_53178_b5 x0 x1 x3 x2) (fJ7_fill_53178_b5 (r x0) x1 x3 x2) Eq := by
  unfold fJ7_fill_53178_b5
  refine pr_ite ?_ ?_
  · exact pr_pp rfl
  · refine pr_bE (pr_tI (fun k => kdv_17 k)) fun _ => ?_
    exact pr_pp rfl
theorem prJ7_fill_53178_B5 {x0 : Nat} {x1 : Int32} {x3 : Int32} (b_x0 : x0 < 1152921504606846976) : ∀ x, PR r (fJ7_fill_53178_B5 x0 x1 x3 x) (fJ7_fill_53178_B5 (r x0) x1 x3 x) Eq := by
  intro x
  unfold fJ7_fill_53178_B5
  try simp only [frI_eq, frJ_eq]
  exact prJ7_fill_53178_b5 b_x0
theorem prJ7_fill_53178 {x0 : Nat} {x1 : Int32} (b_x0 : x0 < 1152921504606846976) : PR r (fJ7_fill_53178 x0 x1) (fJ7_fill_53178 (r x0) x1) Eq := by
  unfold fJ7_fill_53178
  refine pr_bE (pr_aln) fun v1 => ?_
  refine pr_bE (pr_ploE (fun x => prJ7_fill_53178_B5 b_x0 x) _ _) fun z4 => ?_
  exact pr_pp rfl
theorem prX9_gcd_b7 {x2 : Int32} {x3 : Int32} {x4 : Int32}  : PR r (fX9_gcd_b7 x2 x3 x4) (fX9_gcd_b7 x2 x3 x4) Eq := by
  unfold fX9_gcd_b7
  refine pr_ite ?_ ?_
  · exact pr_pp rfl
  · refine pr_ite ?_ ?_
    · exact pr_pp rfl
    · refine pr_ite ?_ ?_
      · exact pr_pf
      · exact pr_pp rfl
theorem prX9_gcd_B7   : ∀ x, PR r (fX9_gcd_B7 x) (fX9_gcd_B7 x) Eq := by
  intro x
  unfold fX9_gcd_B7
  try simp only [frI_eq, frJ_eq]
  exact prX9_gcd_b7 
theorem prX9_gcd {x0 : Int32} {x1 : Int32}  : PR r (fX9_gcd x0 x1) (fX9_gcd x0 x1) Eq := by
  unfold fX9_gcd
  refine pr_bE (pr_ploE (fun x => prX9_gcd_B7  x) _ _) fun z4 => ?_
  exact pr_pp rfl
theorem prX3_markClass_b3 {x0 : Nat} {x1 : Int32} {x2 : Int32} {x3 : Int32} {x4 : Int32} (b_x0 : x0 < 1152921504606846976) : PR r (fX3_markClass_b3 x0 x1 x2 x3 x4) (fX3_markClass_b3 (r x0) x1 x2 x3 x4) Eq := by
  unfold fX3_markClass_b3
  refine pr_bE (pr_gI (by decide)) fun v1 => ?_
  refine pr_ite ?_ ?_
  · exact pr_pp rfl
  · refine pr_bE (pr_gI (by decide)) fun v3 => ?_
    refine pr_bE (prX9_gcd) fun v4 => ?_
    refine pr_ite ?_ ?_
    · refine pr_bN (pr_gA (by decide)) fun v6 b_v6 => ?_
      refine pr_bE (pr_gI (by decide)) fun v7 => ?_
      refine pr_ite ?_ ?_
      · exact pr_pf
      · refine pr_bE (pr_gI (by decide)) fun v9 => ?_
        refine pr_bE (pr_gI (by decide)) fun v10 => ?_
        refine pr_ite ?_ ?_
        · exact pr_pf
        · refine pr_bE (pr_tI (fun k => kdv_17 k)) fun _ => ?_
          exact pr_pp rfl
    · exact pr_pp rfl
theorem prX3_markClass_B3 {x0 : Nat} {x1 : Int32} {x2 : Int32} {x3 : Int32} (b_x0 : x0 < 1152921504606846976) : ∀ x, PR r (fX3_markClass_B3 x0 x1 x2 x3 x) (fX3_markClass_B3 (r x0) x1 x2 x3 x) Eq := by
  intro x
  unfold fX3_markClass_B3
  try simp only [frI_eq, frJ_eq]
  exact prX3_markClass_b3 b_x0
theorem prX3_markClass {x0 : Nat} {x1 : Int32} {x2 : Int32} {x3 : Int32} (b_x0 : x0 < 1152921504606846976) : PR r (fX3_markClass x0 x1 x2 x3) (fX3_markClass (r x0) x1 x2 x3) Eq := by
  unfold fX3_markClass
  refine pr_bE (pr_chk) fun _ => ?_
  refine pr_bE (pr_ploE (fun x => prX3_markClass_B3 b_x0 x) _ _) fun z13 => ?_
  exact pr_pp rfl
theorem prX3_numberPairs_b22 {x0 : Nat} {x2 : Int32} {x1 : Int32} {x3 : Int32} (b_x0 : x0 < 1152921504606846976) : PR r (fX3_numberPairs_b22 x0 x2 x1 x3) (fX3_numberPairs_b22 (r x0) x2 x1 x3) Eq := by
  unfold fX3_numberPairs_b22
  refine pr_bE (pr_gI (by decide)) fun v5 => ?_
  refine pr_ite ?_ ?_
  · exact pr_pp rfl
  · refine pr_bN (pr_gA (by decide)) fun v7 b_v7 => ?_
    refine pr_bE (pr_gI (by decide)) fun v8 => ?_
    refine pr_bE (pr_lI (fun k => kdv_17 k)) fun v9 => ?_
    refine pr_ite ?_ ?_
    · refine pr_bE (prX9_gcd) fun v11 => ?_
      refine pr_bE (pr_gI (by decide)) fun v12 => ?_
      refine pr_bE (prX9_gcd) fun v13 => ?_
      refine pr_ite ?_ ?_
      · refine pr_bE (prX3_markClass b_x0) fun _ => ?_
        exact pr_pp rfl
      · exact pr_pp rfl
    · exact pr_pp rfl
theorem prX3_numberPairs_B22 {x0 : Nat} {x2 : Int32} (b_x0 : x0 < 1152921504606846976) : ∀ x, PR r (fX3_numberPairs_B22 x0 x2 x) (fX3_numberPairs_B22 (r x0) x2 x) Eq := by
  intro x
  unfold fX3_numberPairs_B22
  try simp only [frI_eq, frJ_eq]
  exact prX3_numberPairs_b22 b_x0
theorem prX3_numberPairs_b12 {x0 : Nat} {x1 : Int32} {x2 : Int32} (b_x0 : x0 < 1152921504606846976) : PR r (fX3_numberPairs_b12 x0 x1 x2) (fX3_numberPairs_b12 (r x0) x1 x2) Eq := by
  unfold fX3_numberPairs_b12
  refine pr_bE (pr_gI (by decide)) fun v3 => ?_
  refine pr_ite ?_ ?_
  · exact pr_pp rfl
  · refine pr_bE (pr_ploE (fun x => prX3_numberPairs_B22 b_x0 x) _ _) fun z17 => ?_
    exact pr_pp rfl
theorem prX3_numberPairs_B12 {x0 : Nat} (b_x0 : x0 < 1152921504606846976) : ∀ x, PR r (fX3_numberPairs_B12 x0 x) (fX3_numberPairs_B12 (r x0) x) Eq := by
  intro x
  unfold fX3_numberPairs_B12
  try simp only [frI_eq, frJ_eq]
  exact prX3_numberPairs_b12 b_x0
theorem prX3_numberPairs {x0 : Nat} (b_x0 : x0 < 1152921504606846976) : PR r (fX3_numberPairs x0) (fX3_numberPairs (r x0)) Eq := by
  unfold fX3_numberPairs
  refine pr_bE (pr_chk) fun _ => ?_
  refine pr_bN (pr_gA (by decide)) fun v1 b_v1 => ?_
  refine pr_bE (prJ7_fill_53178 b_v1) fun _ => ?_
  refine pr_bE (pr_ploE (fun x => prX3_numberPairs_B12 b_x0 x) _ _) fun z18 => ?_
  exact pr_pp rfl
theorem prX3_listPairs_b14 {x0 : Nat} {x2 : Int32} {x1 : Int32} {x3 : Int32} (b_x0 : x0 < 1152921504606846976) : PR r (fX3_listPairs_b14 x0 x2 x1 x3) (fX3_listPairs_b14 (r x0) x2 x1 x3) Eq := by
  unfold fX3_listPairs_b14
  refine pr_bE (pr_gI (by decide)) fun v3 => ?_
  refine pr_ite ?_ ?_
  · exact pr_pp rfl
  · refine pr_bE (pr_gI (by decide)) fun v5 => ?_
    refine pr_ite ?_ ?_
    · exact pr_pp rfl
    · refine pr_bN (pr_gA (by decide)) fun v7 b_v7 => ?_
      refine pr_bE (pr_gI (by decide)) fun v8 => ?_
      refine pr_bE (pr_lI (fun k => kdv_17 k)) fun v9 => ?_
      refine pr_ite ?_ ?_
      · refine pr_bN (pr_gA (by decide)) fun v11 b_v11 => ?_
        refine pr_bE (pr_tI (fun k => kdv_17 k)) fun _ => ?_
        refine pr_bN (pr_gA (by decide)) fun v13 b_v13 => ?_
        refine pr_bE (pr_tI (fun k => kdv_17 k)) fun _ => ?_
        exact pr_pp rfl
      · exact pr_pp rfl
theorem prX3_listPairs_B14 {x0 : Nat} {x2 : Int32} (b_x0 : x0 < 1152921504606846976) : ∀ x, PR r (fX3_listPairs_B14 x0 x2 x) (fX3_listPairs_B14 (r x0) x2 x) Eq := by
  intro x
  unfold fX3_listPairs_B14
  try simp only [frI_eq, frJ_eq]
  exact prX3_listPairs_b14 b_x0
theorem prX3_listPairs_b4 {x0 : Nat} {x1 : Int32} {x2 : Int32} (b_x0 : x0 < 1152921504606846976) : PR r (fX3_listPairs_b4 x0 x1 x2) (fX3_listPairs_b4 (r x0) x1 x2) Eq := by
  unfold fX3_listPairs_b4
  refine pr_bE (pr_gI (by decide)) fun v1 => ?_
  refine pr_ite ?_ ?_
  · exact pr_pp rfl
  · refine pr_bE (pr_ploE (fun x => prX3_listPairs_B14 b_x0 x) _ _) fun z15 => ?_
    exact pr_pp rfl
theorem prX3_listPairs_B4 {x0 : Nat} (b_x0 : x0 < 1152921504606846976) : ∀ x, PR r (fX3_listPairs_B4 x0 x) (fX3_listPairs_B4 (r x0) x) Eq := by
  intro x
  unfold fX3_listPairs_B4
  try simp only [frI_eq, frJ_eq]
  exact prX3_listPairs_b4 b_x0
theorem prX3_listPairs {x0 : Nat} (b_x0 : x0 < 1152921504606846976) : PR r (fX3_listPairs x0) (fX3_listPairs (r x0)) Eq := by
  unfold fX3_listPairs
  refine pr_bE (pr_chk) fun _ => ?_
  refine pr_bE (pr_ploE (fun x => prX3_listPairs_B4 b_x0 x) _ _) fun z16 => ?_
  exact pr_pp rfl
theorem prX3_find {x0 : Nat} {x1 : Int32} {x2 : Int32} (b_x0 : x0 < 1152921504606846976) : PR r (fX3_find x0 x1 x2) (fX3_find (r x0) x1 x2) Eq := by
  unfold fX3_find
  refine pr_bE (pr_chk) fun _ => ?_
  refine pr_bE (pr_gI (by decide)) fun v1 => ?_
  refine pr_ite ?_ ?_
  · exact pr_pf
  · refine pr_bE (pr_gI (by decide)) fun v3 => ?_
    refine pr_bE (pr_gI (by decide)) fun v4 => ?_
    refine pr_ite ?_ ?_
    · exact pr_pf
    · refine pr_bE (pr_gI (by decide)) fun v6 => ?_
      refine pr_ite ?_ ?_
      · exact pr_pf
      · refine pr_bE (pr_gI (by decide)) fun v8 => ?_
        refine pr_bE (pr_gI (by decide)) fun v9 => ?_
        refine pr_ite ?_ ?_
        · exact pr_pf
        · refine pr_bN (pr_gA (by decide)) fun v11 b_v11 => ?_
          refine pr_bE (pr_gI (by decide)) fun v12 => ?_
          refine pr_bE (pr_lI (fun k => kdv_17 k)) fun v13 => ?_
          exact pr_pp rfl
theorem prX3_listMaps_b2 {x0 : Nat} {x1 : Int32} (b_x0 : x0 < 1152921504606846976) : PR r (fX3_listMaps_b2 x0 x1) (fX3_listMaps_b2 (r x0) x1) Eq := by
  unfold fX3_listMaps_b2
  refine pr_bE (pr_gI (by decide)) fun v1 => ?_
  refine pr_ite ?_ ?_
  · exact pr_pp rfl
  · refine pr_bN (pr_gA (by decide)) fun v3 b_v3 => ?_
    refine pr_bE (pr_lI (fun k => kdv_17 k)) fun v4 => ?_
    refine pr_bN (pr_gA (by decide)) fun v5 b_v5 => ?_
    refine pr_bE (pr_lI (fun k => kdv_17 k)) fun v6 => ?_
    refine pr_bN (pr_gA (by decide)) fun v7 b_v7 => ?_
    refine pr_bE (prX3_find b_x0) fun v8 => ?_
    refine pr_bE (pr_tI (fun k => kdv_17 k)) fun _ => ?_
    refine pr_bN (pr_gA (by decide)) fun v11 b_v11 => ?_
    refine pr_bE (prX3_find b_x0) fun v12 => ?_
    refine pr_bE (pr_tI (fun k => kdv_17 k)) fun _ => ?_
    refine pr_bN (pr_gA (by decide)) fun v15 b_v15 => ?_
    refine pr_bE (prX3_find b_x0) fun v16 => ?_
    refine pr_bE (pr_tI (fun k => kdv_17 k)) fun _ => ?_
    exact pr_pp rfl
theorem prX3_listMaps_B2 {x0 : Nat} (b_x0 : x0 < 1152921504606846976) : ∀ x, PR r (fX3_listMaps_B2 x0 x) (fX3_listMaps_B2 (r x0) x) Eq := by
  intro x
  unfold fX3_listMaps_B2
  try simp only [frI_eq, frJ_eq]
  exact prX3_listMaps_b2 b_x0
theorem prX3_listMaps {x0 : Nat} (b_x0 : x0 < 1152921504606846976) : PR r (fX3_listMaps x0) (fX3_listMaps (r x0)) Eq := by
  unfold fX3_listMaps
  refine pr_bE (pr_chk) fun _ => ?_
  refine pr_bE (pr_ploE (fun x => prX3_listMaps_B2 b_x0 x) _ _) fun z19 => ?_
  exact pr_pp rfl
theorem prX3_numberCusps_b35 {x0 : Nat} {x1 : Int32} {x2 : Int32} {x3 : Int32} {x4 : Int32} (b_x0 : x0 < 1152921504606846976) : PR r (fX3_numberCusps_b35 x0 x1 x2 x3 x4) (fX3_numberCusps_b35 (r x0) x1 x2 x3 x4) Eq := by
  unfold fX3_numberCusps_b35
  refine pr_bE (pr_gI (by decide)) fun v8 => ?_
  refine pr_ite ?_ ?_
  · exact pr_pp rfl
  · refine pr_bN (pr_gA (by decide)) fun v10 b_v10 => ?_
    refine pr_bE (pr_lI (fun k => kdv_17 k)) fun v11 => ?_
    refine pr_ite ?_ ?_
    · refine pr_bN (pr_gA (by decide)) fun v13 b_v13 => ?_
      refine pr_bE (pr_tI (fun k => kdv_17 k)) fun _ => ?_
      refine pr_bN (pr_gA (by decide)) fun v15 b_v15 => ?_
      refine pr_bE (pr_lI (fun k => kdv_17 k)) fun v16 => ?_
      exact pr_pp rfl
    · exact pr_pp rfl
theorem prX3_numberCusps_B35 {x0 : Nat} {x1 : Int32} {x2 : Int32} (b_x0 : x0 < 1152921504606846976) : ∀ x, PR r (fX3_numberCusps_B35 x0 x1 x2 x) (fX3_numberCusps_B35 (r x0) x1 x2 x) Eq := by
  intro x
  unfold fX3_numberCusps_B35
  try simp only [frI_eq, frJ_eq]
  exact prX3_numberCusps_b35 b_x0
theorem prX3_numberCusps_b12 {x0 : Nat} {x1 : Int32} {x2 : Int32} (b_x0 : x0 < 1152921504606846976) : PR r (fX3_numberCusps_b12 x0 x1 x2) (fX3_numberCusps_b12 (r x0) x1 x2) Eq := by
  unfold fX3_numberCusps_b12
  refine pr_bE (pr_gI (by decide)) fun v3 => ?_
  refine pr_ite ?_ ?_
  · exact pr_pp rfl
  · refine pr_bN (pr_gA (by decide)) fun v5 b_v5 => ?_
    refine pr_bE (pr_lI (fun k => kdv_17 k)) fun v6 => ?_
    refine pr_ite ?_ ?_
    · refine pr_bE (pr_ploE (fun x => prX3_numberCusps_B35 b_x0 x) _ _) fun z17 => ?_
      exact pr_pp rfl
    · exact pr_pp rfl
theorem prX3_numberCusps_B12 {x0 : Nat} (b_x0 : x0 < 1152921504606846976) : ∀ x, PR r (fX3_numberCusps_B12 x0 x) (fX3_numberCusps_B12 (r x0) x) Eq := by
  intro x
  unfold fX3_numberCusps_B12
  try simp only [frI_eq, frJ_eq]
  exact prX3_numberCusps_b12 b_x0
theorem prX3_numberCusps {x0 : Nat} (b_x0 : x0 < 1152921504606846976) : PR r (fX3_numberCusps x0) (fX3_numberCusps (r x0)) Eq := by
  unfold fX3_numberCusps
  refine pr_bE (pr_chk) fun _ => ?_
  refine pr_bN (pr_gA (by decide)) fun v1 b_v1 => ?_
  refine pr_bE (prJ7_fill_53178 b_v1) fun _ => ?_
  refine pr_bE (pr_ploE (fun x => prX3_numberCusps_B12 b_x0 x) _ _) fun z18 => ?_
  exact pr_pp rfl
theorem prX6_init {x0 : Nat} {x1 : Int32} (b_x0 : x0 < 1152921504606846976) : PR r (fX6_init x0 x1) (fX6_init (r x0) x1) Eq := by
  unfold fX6_init
  refine pr_bE (pr_chk) fun _ => ?_
  refine pr_bE (pr_sI (by decide)) fun _ => ?_
  refine pr_bN (pr_nA) fun v2 b_v2 => ?_
  refine pr_bE (pr_sR (by decide) b_v2) fun _ => ?_
  refine pr_bN (pr_mna (fun k => kdv_23 k)) fun v4 b_v4 => ?_
  refine pr_bE (pr_sR (by decide) b_v4) fun _ => ?_
  exact pr_pp rfl
theorem prX6_bind_b7 {x0 : Nat} {x1 : Int32} {x2 : Nat} {x3 : Int32} {x4 : Int32} (b_x0 : x0 < 1152921504606846976) (b_x2 : x2 < 1152921504606846976) : PR r (fX6_bind_b7 x0 x1 x2 x3 x4) (fX6_bind_b7 (r x0) x1 (r x2) x3 x4) Eq := by
  unfold fX6_bind_b7
  refine pr_ite ?_ ?_
  · exact pr_pp rfl
  · refine pr_bN (pr_gA (by decide)) fun v3 b_v3 => ?_
    refine pr_bN (pr_lA (fun k => kdv_23 k)) fun v4 b_v4 => ?_
    refine pr_bE (pr_lI (fun k => kdv_17 k)) fun v5 => ?_
    refine pr_bE (pr_tI (fun k => kdv_17 k)) fun _ => ?_
    exact pr_pp rfl
theorem prX6_bind_B7 {x0 : Nat} {x1 : Int32} {x2 : Nat} {x3 : Int32} (b_x0 : x0 < 1152921504606846976) (b_x2 : x2 < 1152921504606846976) : ∀ x, PR r (fX6_bind_B7 x0 x1 x2 x3 x) (fX6_bind_B7 (r x0) x1 (r x2) x3 x) Eq := by
  intro x
  unfold fX6_bind_B7
  try simp only [frI_eq, frJ_eq]
  exact prX6_bind_b7 b_x0 b_x2
theorem prX6_bind {x0 : Nat} {x1 : Int32} {x2 : Nat} (b_x0 : x0 < 1152921504606846976) (b_x2 : x2 < 1152921504606846976) : PR r (fX6_bind x0 x1 x2) (fX6_bind (r x0) x1 (r x2)) Eq := by
  unfold fX6_bind
  refine pr_bE (pr_chk) fun _ => ?_
  refine pr_bE (pr_lI (fun k => kdv_17 k)) fun v1 => ?_
  refine pr_bE (pr_ploE (fun x => prX6_bind_B7 b_x0 b_x2 x) _ _) fun z7 => ?_
  refine pr_bN (pr_gA (by decide)) fun v8 b_v8 => ?_
  refine pr_bE (pr_tI (fun k => kdv_19 k)) fun _ => ?_
  refine pr_bE (pr_gI (by decide)) fun v10 => ?_
  refine pr_bE (pr_sI (by decide)) fun _ => ?_
  exact pr_pp rfl
theorem prX6_subtract_b2 {x0 : Int32} {x1 : Nat} {x2 : Nat} {x3 : Int32} (b_x1 : x1 < 1152921504606846976) (b_x2 : x2 < 1152921504606846976) : PR r (fX6_subtract_b2 x0 x1 x2 x3) (fX6_subtract_b2 x0 (r x1) (r x2) x3) Eq := by
  unfold fX6_subtract_b2
  refine pr_bE (pr_aln) fun v1 => ?_
  refine pr_ite ?_ ?_
  · exact pr_pp rfl
  · refine pr_bE (pr_lI (fun k => kdv_17 k)) fun v3 => ?_
    refine pr_bE (pr_lI (fun k => kdv_17 k)) fun v4 => ?_
    refine pr_bE (pr_tI (fun k => kdv_17 k)) fun _ => ?_
    exact pr_pp rfl
theorem prX6_subtract_B2 {x0 : Int32} {x1 : Nat} {x2 : Nat} (b_x1 : x1 < 1152921504606846976) (b_x2 : x2 < 1152921504606846976) : ∀ x, PR r (fX6_subtract_B2 x0 x1 x2 x) (fX6_subtract_B2 x0 (r x1) (r x2) x) Eq := by
  intro x
  unfold fX6_subtract_B2
  try simp only [frI_eq, frJ_eq]
  exact prX6_subtract_b2 b_x1 b_x2
theorem prX6_subtract {x0 : Int32} {x1 : Nat} {x2 : Nat} (b_x1 : x1 < 1152921504606846976) (b_x2 : x2 < 1152921504606846976) : PR r (fX6_subtract x0 x1 x2) (fX6_subtract x0 (r x1) (r x2)) Eq := by
  unfold fX6_subtract
  refine pr_bE (pr_ploE (fun x => prX6_subtract_B2 b_x1 b_x2 x) _ _) fun z6 => ?_
  exact pr_pp rfl
theorem prX6_impose_b7 {x0 : Nat} {x1 : Nat} {x2 : Int32} (b_x0 : x0 < 1152921504606846976) (b_x1 : x1 < 1152921504606846976) : PR r (fX6_impose_b7 x0 x1 x2) (fX6_impose_b7 (r x0) (r x1) x2) Eq := by
  unfold fX6_impose_b7
  refine pr_ite ?_ ?_
  · exact pr_pp rfl
  · refine pr_bE (pr_lI (fun k => kdv_17 k)) fun v3 => ?_
    refine pr_ite ?_ ?_
    · refine pr_bE (pr_lI (fun k => kdv_17 k)) fun v5 => ?_
      refine pr_ite ?_ ?_
      · exact pr_pp rfl
      · refine pr_bE (pr_lI (fun k => kdv_17 k)) fun v7 => ?_
        refine pr_bN (pr_gA (by decide)) fun v8 b_v8 => ?_
        refine pr_bN (pr_lA (fun k => kdv_23 k)) fun v9 b_v9 => ?_
        refine pr_bE (prX6_subtract b_v9 b_x1) fun _ => ?_
        exact pr_pp rfl
    · refine pr_bN (pr_gA (by decide)) fun v11 b_v11 => ?_
      refine pr_bE (pr_lI (fun k => kdv_19 k)) fun v12 => ?_
      refine pr_ite ?_ ?_
      · refine pr_bE (prX6_bind b_x0 b_x1) fun _ => ?_
        exact pr_pp rfl
      · refine pr_bE (pr_lI (fun k => kdv_17 k)) fun v14 => ?_
        refine pr_ite ?_ ?_
        · exact pr_pp rfl
        · refine pr_bE (pr_lI (fun k => kdv_17 k)) fun v16 => ?_
          refine pr_bN (pr_gA (by decide)) fun v17 b_v17 => ?_
          refine pr_bN (pr_lA (fun k => kdv_23 k)) fun v18 b_v18 => ?_
          refine pr_bE (prX6_subtract b_v18 b_x1) fun _ => ?_
          exact pr_pp rfl
theorem prX6_impose_B7 {x0 : Nat} {x1 : Nat} (b_x0 : x0 < 1152921504606846976) (b_x1 : x1 < 1152921504606846976) : ∀ x, PR r (fX6_impose_B7 x0 x1 x) (fX6_impose_B7 (r x0) (r x1) x) Eq := by
  intro x
  unfold fX6_impose_B7
  try simp only [frI_eq, frJ_eq]
  exact prX6_impose_b7 b_x0 b_x1
theorem prX6_impose {x0 : Nat} {x1 : Nat} (b_x0 : x0 < 1152921504606846976) (b_x1 : x1 < 1152921504606846976) : PR r (fX6_impose x0 x1) (fX6_impose (r x0) (r x1)) Eq := by
  unfold fX6_impose
  refine pr_bE (pr_chk) fun _ => ?_
  refine pr_bE (pr_gI (by decide)) fun v1 => ?_
  refine pr_bE (pr_ploE (fun x => prX6_impose_B7 b_x0 b_x1 x) _ _) fun z22 => ?_
  refine pr_bE (prJ7_fill_53178 b_x1) fun _ => ?_
  exact pr_pp rfl
theorem prX3_relateSymbols_b9 {x0 : Nat} {x1 : Nat} {x2 : Nat} {x3 : Int32} (b_x0 : x0 < 1152921504606846976) (b_x1 : x1 < 1152921504606846976) (b_x2 : x2 < 1152921504606846976) : PR r (fX3_relateSymbols_b9 x0 x1 x2 x3) (fX3_relateSymbols_b9 (r x0) (r x1) (r x2) x3) Eq := by
  unfold fX3_relateSymbols_b9
  refine pr_bE (pr_gI (by decide)) fun v3 => ?_
  refine pr_ite ?_ ?_
  · exact pr_pp rfl
  · refine pr_bN (pr_gA (by decide)) fun v5 b_v5 => ?_
    refine pr_bE (pr_lI (fun k => kdv_17 k)) fun v6 => ?_
    refine pr_ite ?_ ?_
    · exact pr_pp rfl
    · refine pr_bE (pr_tI (fun k => kdv_17 k)) fun _ => ?_
      refine pr_bN (pr_gA (by decide)) fun v9 b_v9 => ?_
      refine pr_bE (pr_lI (fun k => kdv_17 k)) fun v10 => ?_
      refine pr_bE (pr_tI (fun k => kdv_17 k)) fun _ => ?_
      refine pr_bE (prX6_impose b_x1 b_x2) fun _ => ?_
      exact pr_pp rfl
theorem prX3_relateSymbols_B9 {x0 : Nat} {x1 : Nat} {x2 : Nat} (b_x0 : x0 < 1152921504606846976) (b_x1 : x1 < 1152921504606846976) (b_x2 : x2 < 1152921504606846976) : ∀ x, PR r (fX3_relateSymbols_B9 x0 x1 x2 x) (fX3_relateSymbols_B9 (r x0) (r x1) (r x2) x) Eq := by
  intro x
  unfold fX3_relateSymbols_B9
  try simp only [frI_eq, frJ_eq]
  exact prX3_relateSymbols_b9 b_x0 b_x1 b_x2
theorem prX3_relateSymbols_b53 {x0 : Nat} {x1 : Nat} {x2 : Nat} {x3 : Int32} (b_x0 : x0 < 1152921504606846976) (b_x1 : x1 < 1152921504606846976) (b_x2 : x2 < 1152921504606846976) : PR r (fX3_relateSymbols_b53 x0 x1 x2 x3) (fX3_relateSymbols_b53 (r x0) (r x1) (r x2) x3) Eq := by
  unfold fX3_relateSymbols_b53
  refine pr_bE (pr_gI (by decide)) fun v15 => ?_
  refine pr_ite ?_ ?_
  · exact pr_pp rfl
  · refine pr_bN (pr_gA (by decide)) fun v17 b_v17 => ?_
    refine pr_bE (pr_lI (fun k => kdv_17 k)) fun v18 => ?_
    refine pr_bN (pr_gA (by decide)) fun v19 b_v19 => ?_
    refine pr_bE (pr_lI (fun k => kdv_17 k)) fun v20 => ?_
    refine pr_ite ?_ ?_
    · exact pr_pp rfl
    · refine pr_ite ?_ ?_
      · exact pr_pp rfl
      · refine pr_bE (pr_tI (fun k => kdv_17 k)) fun _ => ?_
        refine pr_bE (pr_tI (fun k => kdv_17 k)) fun _ => ?_
        refine pr_bE (pr_tI (fun k => kdv_17 k)) fun _ => ?_
        refine pr_bE (prX6_impose b_x1 b_x2) fun _ => ?_
        exact pr_pp rfl
theorem prX3_relateSymbols_B53 {x0 : Nat} {x1 : Nat} {x2 : Nat} (b_x0 : x0 < 1152921504606846976) (b_x1 : x1 < 1152921504606846976) (b_x2 : x2 < 1152921504606846976) : ∀ x, PR r (fX3_relateSymbols_B53 x0 x1 x2 x) (fX3_relateSymbols_B53 (r x0) (r x1) (r x2) x) Eq := by
  intro x
  unfold fX3_relateSymbols_B53
  try simp only [frI_eq, frJ_eq]
  exact prX3_relateSymbols_b53 b_x0 b_x1 b_x2
theorem prX3_relateSymbols {x0 : Nat} {x1 : Nat} (b_x0 : x0 < 1152921504606846976) (b_x1 : x1 < 1152921504606846976) : PR r (fX3_relateSymbols x0 x1) (fX3_relateSymbols (r x0) (r x1)) Eq := by
  unfold fX3_relateSymbols
  refine pr_bE (pr_chk) fun _ => ?_
  refine pr_bE (pr_gI (by decide)) fun v1 => ?_
  refine pr_bN (pr_nA) fun v2 b_v2 => ?_
  refine pr_bE (pr_ploE (fun x => prX3_relateSymbols_B9 b_x0 b_x1 b_v2 x) _ _) fun z14 => ?_
  refine pr_bE (pr_ploE (fun x => prX3_relateSymbols_B53 b_x0 b_x1 b_v2 x) _ _) fun z28 => ?_
  exact pr_pp rfl
theorem prX6_freeColumns_b16 {x0 : Nat} {x1 : Nat} {x2 : Int32} {x3 : Int32} (b_x0 : x0 < 1152921504606846976) (b_x1 : x1 < 1152921504606846976) : PR r (fX6_freeColumns_b16 x0 x1 x2 x3) (fX6_freeColumns_b16 (r x0) (r x1) x2 x3) Eq := by
  unfold fX6_freeColumns_b16
  refine pr_bE (pr_gI (by decide)) fun v4 => ?_
  refine pr_ite ?_ ?_
  · exact pr_pp rfl
  · refine pr_bE (pr_aln) fun v6 => ?_
    refine pr_ite ?_ ?_
    · exact pr_pp rfl
    · refine pr_bN (pr_gA (by decide)) fun v8 b_v8 => ?_
      refine pr_bE (pr_lI (fun k => kdv_19 k)) fun v9 => ?_
      refine pr_ite ?_ ?_
      · refine pr_bE (pr_tI (fun k => kdv_17 k)) fun _ => ?_
        exact pr_pp rfl
      · exact pr_pp rfl
theorem prX6_freeColumns_B16 {x0 : Nat} {x1 : Nat} (b_x0 : x0 < 1152921504606846976) (b_x1 : x1 < 1152921504606846976) : ∀ x, PR r (fX6_freeColumns_B16 x0 x1 x) (fX6_freeColumns_B16 (r x0) (r x1) x) Eq := by
  intro x
  unfold fX6_freeColumns_B16
  try simp only [frI_eq, frJ_eq]
  exact prX6_freeColumns_b16 b_x0 b_x1
theorem prX6_freeColumns {x0 : Nat} (b_x0 : x0 < 1152921504606846976) : PR r (fX6_freeColumns x0) (fX6_freeColumns (r x0)) (Rn r) := by
  unfold fX6_freeColumns
  refine pr_bE (pr_chk) fun _ => ?_
  refine pr_bE (pr_gI (by decide)) fun v1 => ?_
  refine pr_bE (pr_gI (by decide)) fun v2 => ?_
  refine pr_bN (pr_nA) fun v3 b_v3 => ?_
  refine pr_bE (pr_ploE (fun x => prX6_freeColumns_B16 b_x0 b_v3 x) _ _) fun z12 => ?_
  exact pr_pp ⟨rfl, b_v3⟩
theorem prX6_coordinatesIn_b13 {x0 : Nat} {x1 : Nat} {x2 : Nat} {x3 : Int32} (b_x0 : x0 < 1152921504606846976) (b_x1 : x1 < 1152921504606846976) (b_x2 : x2 < 1152921504606846976) : PR r (fX6_coordinatesIn_b13 x0 x1 x2 x3) (fX6_coordinatesIn_b13 (r x0) (r x1) (r x2) x3) Eq := by
  unfold fX6_coordinatesIn_b13
  refine pr_bE (pr_aln) fun v4 => ?_
  refine pr_ite ?_ ?_
  · exact pr_pp rfl
  · refine pr_bE (pr_lI (fun k => kdv_17 k)) fun v6 => ?_
    refine pr_bN (pr_lA (fun k => kdv_23 k)) fun v7 b_v7 => ?_
    refine pr_bE (pr_tI (fun k => kdv_17 k)) fun _ => ?_
    exact pr_pp rfl
theorem prX6_coordinatesIn_B13 {x0 : Nat} {x1 : Nat} {x2 : Nat} (b_x0 : x0 < 1152921504606846976) (b_x1 : x1 < 1152921504606846976) (b_x2 : x2 < 1152921504606846976) : ∀ x, PR r (fX6_coordinatesIn_B13 x0 x1 x2 x) (fX6_coordinatesIn_B13 (r x0) (r x1) (r x2) x) Eq := by
  intro x
  unfold fX6_coordinatesIn_B13
  try simp only [frI_eq, frJ_eq]
  exact prX6_coordinatesIn_b13 b_x0 b_x1 b_x2
theorem prX6_coordinatesIn_b46 {x0 : Nat} {x2 : Nat} {x3 : Int32} {x4 : Int32} (b_x0 : x0 < 1152921504606846976) (b_x2 : x2 < 1152921504606846976) : PR r (fX6_coordinatesIn_b46 x0 x2 x3 x4) (fX6_coordinatesIn_b46 (r x0) (r x2) x3 x4) Eq := by
  unfold fX6_coordinatesIn_b46
  refine pr_bN (pr_gA (by decide)) fun v12 b_v12 => ?_
  refine pr_bE (pr_lI (fun k => kdv_19 k)) fun v13 => ?_
  refine pr_ite ?_ ?_
  · exact pr_pp rfl
  · refine pr_ite ?_ ?_
    · exact pr_pp rfl
    · refine pr_bN (pr_gA (by decide)) fun v16 b_v16 => ?_
      refine pr_bN (pr_lA (fun k => kdv_23 k)) fun v17 b_v17 => ?_
      refine pr_bE (pr_lI (fun k => kdv_17 k)) fun v18 => ?_
      refine pr_ite ?_ ?_
      · exact pr_pp rfl
      · refine pr_bN (pr_gA (by decide)) fun v20 b_v20 => ?_
        refine pr_bN (pr_lA (fun k => kdv_23 k)) fun v21 b_v21 => ?_
        refine pr_bE (pr_lI (fun k => kdv_17 k)) fun v22 => ?_
        refine pr_bN (pr_lA (fun k => kdv_23 k)) fun v23 b_v23 => ?_
        refine pr_bN (pr_lA (fun k => kdv_23 k)) fun v24 b_v24 => ?_
        refine pr_bE (prX6_subtract b_v23 b_v24) fun _ => ?_
        exact pr_pp rfl
theorem prX6_coordinatesIn_B46 {x0 : Nat} {x2 : Nat} {x3 : Int32} (b_x0 : x0 < 1152921504606846976) (b_x2 : x2 < 1152921504606846976) : ∀ x, PR r (fX6_coordinatesIn_B46 x0 x2 x3 x) (fX6_coordinatesIn_B46 (r x0) (r x2) x3 x) Eq := by
  intro x
  unfold fX6_coordinatesIn_B46
  try simp only [frI_eq, frJ_eq]
  exact prX6_coordinatesIn_b46 b_x0 b_x2
theorem prX6_coordinatesIn_b35 {x0 : Nat} {x2 : Nat} {x3 : Int32} (b_x0 : x0 < 1152921504606846976) (b_x2 : x2 < 1152921504606846976) : PR r (fX6_coordinatesIn_b35 x0 x2 x3) (fX6_coordinatesIn_b35 (r x0) (r x2) x3) Eq := by
  unfold fX6_coordinatesIn_b35
  refine pr_bE (pr_gI (by decide)) fun v10 => ?_
  refine pr_ite ?_ ?_
  · exact pr_pp rfl
  · refine pr_bE (pr_ploE (fun x => prX6_coordinatesIn_B46 b_x0 b_x2 x) _ _) fun z26 => ?_
    exact pr_pp rfl
theorem prX6_coordinatesIn_B35 {x0 : Nat} {x2 : Nat} (b_x0 : x0 < 1152921504606846976) (b_x2 : x2 < 1152921504606846976) : ∀ x, PR r (fX6_coordinatesIn_B35 x0 x2 x) (fX6_coordinatesIn_B35 (r x0) (r x2) x) Eq := by
  intro x
  unfold fX6_coordinatesIn_B35
  try simp only [frI_eq, frJ_eq]
  exact prX6_coordinatesIn_b35 b_x0 b_x2
theorem prX6_coordinatesIn {x0 : Nat} {x1 : Nat} (b_x0 : x0 < 1152921504606846976) (b_x1 : x1 < 1152921504606846976) : PR r (fX6_coordinatesIn x0 x1) (fX6_coordinatesIn (r x0) (r x1)) (Rn r) := by
  unfold fX6_coordinatesIn
  refine pr_bE (pr_chk) fun _ => ?_
  refine pr_bE (pr_gI (by decide)) fun v1 => ?_
  refine pr_bE (pr_aln) fun v2 => ?_
  refine pr_bN (pr_mna (fun k => kdv_23 k)) fun v3 b_v3 => ?_
  refine pr_bE (pr_ploE (fun x => prX6_coordinatesIn_B13 b_x0 b_x1 b_v3 x) _ _) fun z9 => ?_
  refine pr_bE (pr_ploE (fun x => prX6_coordinatesIn_B35 b_x0 b_v3 x) _ _) fun z27 => ?_
  exact pr_pp ⟨rfl, b_v3⟩
theorem prX3_edge {x0 : Nat} {x1 : Int32} {x2 : Int32} (b_x0 : x0 < 1152921504606846976) : PR r (fX3_edge x0 x1 x2) (fX3_edge (r x0) x1 x2) Eq := by
  unfold fX3_edge
  refine pr_bE (pr_chk) fun _ => ?_
  refine pr_bN (pr_gA (by decide)) fun v1 b_v1 => ?_
  refine pr_bE (pr_lI (fun k => kdv_17 k)) fun v2 => ?_
  refine pr_bN (pr_gA (by decide)) fun v3 b_v3 => ?_
  refine pr_bE (pr_lI (fun k => kdv_17 k)) fun v4 => ?_
  refine pr_ite ?_ ?_
  · refine pr_bN (pr_gA (by decide)) fun v11 b_v11 => ?_
    refine pr_bN (pr_gA (by decide)) fun v12 b_v12 => ?_
    refine pr_bE (pr_lI (fun k => kdv_17 k)) fun v13 => ?_
    refine pr_bE (pr_lI (fun k => kdv_17 k)) fun v14 => ?_
    refine pr_ite ?_ ?_
    · exact pr_pp rfl
    · exact pr_pp rfl
  · refine pr_bN (pr_gA (by decide)) fun v6 b_v6 => ?_
    refine pr_bN (pr_gA (by decide)) fun v7 b_v7 => ?_
    refine pr_bE (pr_lI (fun k => kdv_17 k)) fun v8 => ?_
    refine pr_bE (pr_lI (fun k => kdv_17 k)) fun v9 => ?_
    refine pr_ite ?_ ?_
    · exact pr_pp rfl
    · exact pr_pp rfl
theorem prX3_relateCoordinates_b20 {x0 : Nat} {x1 : Nat} {x2 : Nat} {x3 : Int32} {x4 : Int32} (b_x0 : x0 < 1152921504606846976) (b_x1 : x1 < 1152921504606846976) (b_x2 : x2 < 1152921504606846976) : PR r (fX3_relateCoordinates_b20 x0 x1 x2 x3 x4) (fX3_relateCoordinates_b20 (r x0) (r x1) (r x2) x3 x4) Eq := by
  unfold fX3_relateCoordinates_b20
  refine pr_bE (pr_gI (by decide)) fun v5 => ?_
  refine pr_ite ?_ ?_
  · exact pr_pp rfl
  · refine pr_bE (prX3_edge b_x0) fun v7 => ?_
    refine pr_bE (pr_tI (fun k => kdv_17 k)) fun _ => ?_
    exact pr_pp rfl
theorem prX3_relateCoordinates_B20 {x0 : Nat} {x1 : Nat} {x2 : Nat} {x3 : Int32} (b_x0 : x0 < 1152921504606846976) (b_x1 : x1 < 1152921504606846976) (b_x2 : x2 < 1152921504606846976) : ∀ x, PR r (fX3_relateCoordinates_B20 x0 x1 x2 x3 x) (fX3_relateCoordinates_B20 (r x0) (r x1) (r x2) x3 x) Eq := by
  intro x
  unfold fX3_relateCoordinates_B20
  try simp only [frI_eq, frJ_eq]
  exact prX3_relateCoordinates_b20 b_x0 b_x1 b_x2
theorem prX3_relateCoordinates_b9 {x0 : Nat} {x1 : Nat} {x2 : Nat} {x3 : Int32} (b_x0 : x0 < 1152921504606846976) (b_x1 : x1 < 1152921504606846976) (b_x2 : x2 < 1152921504606846976) : PR r (fX3_relateCoordinates_b9 x0 x1 x2 x3) (fX3_relateCoordinates_b9 (r x0) (r x1) (r x2) x3) Eq := by
  unfold fX3_relateCoordinates_b9
  refine pr_bE (pr_gI (by decide)) fun v3 => ?_
  refine pr_ite ?_ ?_
  · exact pr_pp rfl
  · refine pr_bE (pr_ploE (fun x => prX3_relateCoordinates_B20 b_x0 b_x1 b_x2 x) _ _) fun z10 => ?_
    refine pr_bE (prX6_impose b_x1 b_x2) fun _ => ?_
    exact pr_pp rfl
theorem prX3_relateCoordinates_B9 {x0 : Nat} {x1 : Nat} {x2 : Nat} (b_x0 : x0 < 1152921504606846976) (b_x1 : x1 < 1152921504606846976) (b_x2 : x2 < 1152921504606846976) : ∀ x, PR r (fX3_relateCoordinates_B9 x0 x1 x2 x) (fX3_relateCoordinates_B9 (r x0) (r x1) (r x2) x) Eq := by
  intro x
  unfold fX3_relateCoordinates_B9
  try simp only [frI_eq, frJ_eq]
  exact prX3_relateCoordinates_b9 b_x0 b_x1 b_x2
theorem prX3_relateCoordinates {x0 : Nat} {x1 : Nat} (b_x0 : x0 < 1152921504606846976) (b_x1 : x1 < 1152921504606846976) : PR r (fX3_relateCoordinates x0 x1) (fX3_relateCoordinates (r x0) (r x1)) Eq := by
  unfold fX3_relateCoordinates
  refine pr_bE (pr_chk) fun _ => ?_
  refine pr_bE (pr_gI (by decide)) fun v1 => ?_
  refine pr_bN (pr_nA) fun v2 b_v2 => ?_
  refine pr_bE (pr_ploE (fun x => prX3_relateCoordinates_B9 b_x0 b_x1 b_v2 x) _ _) fun z13 => ?_
  exact pr_pp rfl
theorem prX0_init {x0 : Nat} {x1 : Nat} (b_x0 : x0 < 1152921504606846976) (b_x1 : x1 < 1152921504606846976) : PR r (fX0_init x0 x1) (fX0_init (r x0) (r x1)) Eq := by
  unfold fX0_init
  refine pr_bE (pr_chk) fun _ => ?_
  refine pr_bN (prX6_freeColumns b_x1) fun v1 b_v1 => ?_
  refine pr_bE (pr_sR (by decide) b_v1) fun _ => ?_
  refine pr_bN (pr_gA (by decide)) fun v4 b_v4 => ?_
  refine pr_bN (prX6_coordinatesIn b_x1 b_v4) fun v5 b_v5 => ?_
  refine pr_bE (pr_sR (by decide) b_v5) fun _ => ?_
  exact pr_pp rfl
theorem prX3_init_b168 {x0 : Nat} {x3 : Int32} (b_x0 : x0 < 1152921504606846976) : PR r (fX3_init_b168 x0 x3) (fX3_init_b168 (r x0) x3) Eq := by
  unfold fX3_init_b168
  refine pr_bE (pr_gI (by decide)) fun v52 => ?_
  refine pr_ite ?_ ?_
  · exact pr_pp rfl
  · refine pr_bN (pr_gA (by decide)) fun v54 b_v54 => ?_
    refine pr_bN (pr_gA (by decide)) fun v55 b_v55 => ?_
    refine pr_bE (pr_lI (fun k => kdv_17 k)) fun v56 => ?_
    refine pr_bE (pr_tI (fun k => kdv_17 k)) fun _ => ?_
    exact pr_pp rfl
theorem prX3_init_B168 {x0 : Nat} (b_x0 : x0 < 1152921504606846976) : ∀ x, PR r (fX3_init_B168 x0 x) (fX3_init_B168 (r x0) x) Eq := by
  intro x
  unfold fX3_init_B168
  try simp only [frI_eq, frJ_eq]
  exact prX3_init_b168 b_x0
theorem prX3_init {x0 : Nat} {x1 : Int32} (b_x0 : x0 < 1152921504606846976) : PR r (fX3_init x0 x1) (fX3_init (r x0) x1) Eq := by
  unfold fX3_init
  refine pr_bE (pr_chk) fun _ => ?_
  refine pr_bE (pr_sI (by decide)) fun _ => ?_
  refine pr_bN (pr_nA) fun v2 b_v2 => ?_
  refine pr_bE (pr_sR (by decide) b_v2) fun _ => ?_
  refine pr_bE (prX3_numberPairs b_x0) fun v4 => ?_
  refine pr_bE (pr_sI (by decide)) fun _ => ?_
  refine pr_bE (pr_gI (by decide)) fun v7 => ?_
  refine pr_bN (pr_nA) fun v8 b_v8 => ?_
  refine pr_bE (pr_sR (by decide) b_v8) fun _ => ?_
  refine pr_bE (pr_gI (by decide)) fun v10 => ?_
  refine pr_bN (pr_nA) fun v11 b_v11 => ?_
  refine pr_bE (pr_sR (by decide) b_v11) fun _ => ?_
  refine pr_bE (pr_gI (by decide)) fun v13 => ?_
  refine pr_bN (pr_nA) fun v14 b_v14 => ?_
  refine pr_bE (pr_sR (by decide) b_v14) fun _ => ?_
  refine pr_bE (pr_gI (by decide)) fun v16 => ?_
  refine pr_bN (pr_nA) fun v17 b_v17 => ?_
  refine pr_bE (pr_sR (by decide) b_v17) fun _ => ?_
  refine pr_bE (pr_gI (by decide)) fun v19 => ?_
  refine pr_bN (pr_nA) fun v20 b_v20 => ?_
  refine pr_bE (pr_sR (by decide) b_v20) fun _ => ?_
  refine pr_bE (prX3_listPairs b_x0) fun _ => ?_
  refine pr_bE (prX3_listMaps b_x0) fun _ => ?_
  refine pr_bE (pr_gI (by decide)) fun v26 => ?_
  refine pr_bN (pr_nA) fun v27 b_v27 => ?_
  refine pr_bE (pr_sR (by decide) b_v27) fun _ => ?_
  refine pr_bE (prX3_numberCusps b_x0) fun v29 => ?_
  refine pr_bE (pr_sI (by decide)) fun _ => ?_
  refine pr_bN (pr_al) fun v32 b_v32 => ?_
  refine pr_bE (pr_gI (by decide)) fun v33 => ?_
  refine pr_bE (prX6_init b_v32) fun _ => ?_
  refine pr_bE (prX3_relateSymbols b_x0 b_v32) fun _ => ?_
  refine pr_bN (prX6_freeColumns b_v32) fun v37 b_v37 => ?_
  refine pr_bE (pr_sR (by decide) b_v37) fun _ => ?_
  refine pr_bN (pr_gA (by decide)) fun v40 b_v40 => ?_
  refine pr_bE (pr_aln) fun v41 => ?_
  refine pr_bE (pr_sI (by decide)) fun _ => ?_
  refine pr_bN (pr_gA (by decide)) fun v43 b_v43 => ?_
  refine pr_bN (prX6_coordinatesIn b_v32 b_v43) fun v44 b_v44 => ?_
  refine pr_bE (pr_sR (by decide) b_v44) fun _ => ?_
  refine pr_bE (pr_gI (by decide)) fun v47 => ?_
  refine pr_bN (pr_nA) fun v48 b_v48 => ?_
  refine pr_bE (pr_sR (by decide) b_v48) fun _ => ?_
  refine pr_bN (pr_gA (by decide)) fun v50 b_v50 => ?_
  refine pr_bE (prJ7_fill_53178 b_v50) fun _ => ?_
  refine pr_bE (pr_ploE (fun x => prX3_init_B168 b_x0 x) _ _) fun z58 => ?_
  refine pr_bN (pr_al) fun v59 b_v59 => ?_
  refine pr_bE (pr_gI (by decide)) fun v60 => ?_
  refine pr_bE (prX6_init b_v59) fun _ => ?_
  refine pr_bE (prX3_relateCoordinates b_x0 b_v59) fun _ => ?_
  refine pr_bN (pr_al) fun v64 b_v64 => ?_
  refine pr_bE (prX0_init b_v64 b_v59) fun _ => ?_
  refine pr_bE (pr_sR (by decide) b_v64) fun _ => ?_
  refine pr_bN (pr_nA) fun v67 b_v67 => ?_
  refine pr_bE (pr_sR (by decide) b_v67) fun _ => ?_
  exact pr_pp rfl
theorem prX8_init {x0 : Nat} {x1 : Nat} (b_x0 : x0 < 1152921504606846976) (b_x1 : x1 < 1152921504606846976) : PR r (fX8_init x0 x1) (fX8_init (r x0) (r x1)) Eq := by
  unfold fX8_init
  refine pr_bE (pr_chk) fun _ => ?_
  refine pr_bE (pr_sR (by decide) b_x1) fun _ => ?_
  refine pr_bN (pr_nA) fun v2 b_v2 => ?_
  refine pr_bE (pr_sR (by decide) b_v2) fun _ => ?_
  exact pr_pp rfl
theorem prX2_init_b15 {x0 : Nat} {x1 : Nat} {x2 : Int32} (b_x0 : x0 < 1152921504606846976) (b_x1 : x1 < 1152921504606846976) : PR r (fX2_init_b15 x0 x1 x2) (fX2_init_b15 (r x0) (r x1) x2) Eq := by
  unfold fX2_init_b15
  refine pr_ite ?_ ?_
  · exact pr_pp rfl
  · refine pr_bN (pr_gA (by decide)) fun v4 b_v4 => ?_
    refine pr_bN (pr_al) fun v5 b_v5 => ?_
    refine pr_bE (prX8_init b_v5 b_x1) fun _ => ?_
    refine pr_bE (pr_tA (fun k => kdv_22 k) b_v5) fun _ => ?_
    exact pr_pp rfl
theorem prX2_init_B15 {x0 : Nat} {x1 : Nat} (b_x0 : x0 < 1152921504606846976) (b_x1 : x1 < 1152921504606846976) : ∀ x, PR r (fX2_init_B15 x0 x1 x) (fX2_init_B15 (r x0) (r x1) x) Eq := by
  intro x
  unfold fX2_init_B15
  try simp only [frI_eq, frJ_eq]
  exact prX2_init_b15 b_x0 b_x1
theorem prX2_init {x0 : Nat} {x1 : Nat} (b_x0 : x0 < 1152921504606846976) (b_x1 : x1 < 1152921504606846976) : PR r (fX2_init x0 x1) (fX2_init (r x0) (r x1)) Eq := by
  unfold fX2_init
  refine pr_bE (pr_chk) fun _ => ?_
  refine pr_bN (pr_nA) fun v1 b_v1 => ?_
  refine pr_bE (pr_sR (by decide) b_v1) fun _ => ?_
  refine pr_bE (pr_ploE (fun x => prX2_init_B15 b_x0 b_x1 x) _ _) fun z8 => ?_
  exact pr_pp rfl
theorem prX7_init {x0 : Nat} (b_x0 : x0 < 1152921504606846976) : PR r (fX7_init x0) (fX7_init (r x0)) Eq := by
  unfold fX7_init
  refine pr_bE (pr_chk) fun _ => ?_
  refine pr_bN (pr_nA) fun v1 b_v1 => ?_
  refine pr_bE (pr_sR (by decide) b_v1) fun _ => ?_
  refine pr_bN (pr_nA) fun v3 b_v3 => ?_
  refine pr_bE (pr_sR (by decide) b_v3) fun _ => ?_
  refine pr_bN (pr_nA) fun v5 b_v5 => ?_
  refine pr_bE (pr_sR (by decide) b_v5) fun _ => ?_
  refine pr_bN (pr_nA) fun v7 b_v7 => ?_
  refine pr_bE (pr_sR (by decide) b_v7) fun _ => ?_
  exact pr_pp rfl
theorem prX1_init {x0 : Nat} (b_x0 : x0 < 1152921504606846976) : PR r (fX1_init x0) (fX1_init (r x0)) Eq := by
  unfold fX1_init
  refine pr_bE (pr_chk) fun _ => ?_
  refine pr_bN (pr_nA) fun v1 b_v1 => ?_
  refine pr_bE (pr_sR (by decide) b_v1) fun _ => ?_
  refine pr_bN (pr_gA (by decide)) fun v3 b_v3 => ?_
  refine pr_bE (prJ7_fill_53178 b_v3) fun _ => ?_
  exact pr_pp rfl
theorem prX9_init {x0 : Nat} (b_x0 : x0 < 1152921504606846976) : PR r (fX9_init x0) (fX9_init (r x0)) Eq := by
  unfold fX9_init
  refine pr_bE (pr_chk) fun _ => ?_
  refine pr_bN (pr_al) fun v1 b_v1 => ?_
  refine pr_bE (prX3_init b_v1) fun _ => ?_
  refine pr_bN (pr_nA) fun v3 b_v3 => ?_
  refine pr_bE (pr_sR (by decide) b_v3) fun _ => ?_
  refine pr_bN (pr_gA (by decide)) fun v5 b_v5 => ?_
  refine pr_bE (pr_tA (fun k => kdv_20 k) b_v1) fun _ => ?_
  refine pr_bN (pr_al) fun v7 b_v7 => ?_
  refine pr_bE (prX8_init b_v7 b_v1) fun _ => ?_
  refine pr_bE (pr_sR (by decide) b_v7) fun _ => ?_
  refine pr_bN (pr_al) fun v10 b_v10 => ?_
  refine pr_bE (prX8_init b_v10 b_v1) fun _ => ?_
  refine pr_bE (pr_sR (by decide) b_v10) fun _ => ?_
  refine pr_bN (pr_al) fun v13 b_v13 => ?_
  refine pr_bE (prX2_init b_v13 b_v1) fun _ => ?_
  refine pr_bE (pr_sR (by decide) b_v13) fun _ => ?_
  refine pr_bN (pr_al) fun v16 b_v16 => ?_
  refine pr_bE (prX7_init b_v16) fun _ => ?_
  refine pr_bE (pr_sR (by decide) b_v16) fun _ => ?_
  refine pr_bN (pr_al) fun v19 b_v19 => ?_
  refine pr_bE (prX1_init b_v19) fun _ => ?_
  refine pr_bE (pr_sR (by decide) b_v19) fun _ => ?_
  exact pr_pp rfl
theorem prX8_copyFrom {x0 : Nat} {x1 : Nat} (b_x0 : x0 < 1152921504606846976) (b_x1 : x1 < 1152921504606846976) : PR r (fX8_copyFrom x0 x1) (fX8_copyFrom (r x0) (r x1)) Eq := by
  unfold fX8_copyFrom
  refine pr_bE (pr_chk) fun _ => ?_
  refine pr_bN (pr_gA (by decide)) fun v1 b_v1 => ?_
  refine pr_bE (pr_sR (by decide) b_v1) fun _ => ?_
  refine pr_bN (pr_gA (by decide)) fun v3 b_v3 => ?_
  refine pr_bN (pr_gA (by decide)) fun v4 b_v4 => ?_
  refine pr_bE (pr_acp) fun _ => ?_
  exact pr_pp rfl
theorem prX9_within {x0 : Int32} {x1 : Int32} {x2 : Int32}  : PR r (fX9_within x0 x1 x2) (fX9_within x0 x1 x2) Eq := by
  unfold fX9_within
  refine pr_ite ?_ ?_
  · exact pr_pp rfl
  · refine pr_ite ?_ ?_
    · exact pr_pp rfl
    · exact pr_pp rfl
theorem prJ7_fill_d0a16_b6 {x0 : Nat} {x1 : Int64} {x4 : Int32} {x3 : Int32} (b_x0 : x0 < 1152921504606846976) : PR r (fJ7_fill_d0a16_b6 x0 x1 x4 x3) (fJ7_fill_d0a16_b6 (r x0) x1 x4 x3) Eq := by
  unfold fJ7_fill_d0a16_b6
  refine pr_ite ?_ ?_
  · exact pr_pp rfl
  · refine pr_bE (pr_tJ (fun k => kdv_18 k)) fun _ => ?_
    exact pr_pp rfl
theorem prJ7_fill_d0a16_B6 {x0 : Nat} {x1 : Int64} {x4 : Int32} (b_x0 : x0 < 1152921504606846976) : ∀ x, PR r (fJ7_fill_d0a16_B6 x0 x1 x4 x) (fJ7_fill_d0a16_B6 (r x0) x1 x4 x) Eq := by
  intro x
  unfold fJ7_fill_d0a16_B6
  try simp only [frI_eq, frJ_eq]
  exact prJ7_fill_d0a16_b6 b_x0
theorem prJ7_fill_d0a16 {x0 : Nat} {x1 : Int64} (b_x0 : x0 < 1152921504606846976) : PR r (fJ7_fill_d0a16 x0 x1) (fJ7_fill_d0a16 (r x0) x1) Eq := by
  unfold fJ7_fill_d0a16
  refine pr_bE (pr_aln) fun v1 => ?_
  refine pr_bE (pr_ploE (fun x => prJ7_fill_d0a16_B6 b_x0 x) _ _) fun z4 => ?_
  exact pr_pp rfl
theorem prX8_becomeZero {x0 : Nat} (b_x0 : x0 < 1152921504606846976) : PR r (fX8_becomeZero x0) (fX8_becomeZero (r x0)) Eq := by
  unfold fX8_becomeZero
  refine pr_bE (pr_chk) fun _ => ?_
  refine pr_bN (pr_gA (by decide)) fun v1 b_v1 => ?_
  refine pr_bE (prJ7_fill_d0a16 b_v1) fun _ => ?_
  exact pr_pp rfl
theorem prX9_enter {x0 : Nat} {x1 : Int32} (b_x0 : x0 < 1152921504606846976) : PR r (fX9_enter x0 x1) (fX9_enter (r x0) x1) Eq := by
  unfold fX9_enter
  refine pr_bE (pr_chk) fun _ => ?_
  refine pr_bE (prX9_within) fun v1 => ?_
  refine pr_ite ?_ ?_
  · exact pr_pp rfl
  · refine pr_bN (pr_gA (by decide)) fun v3 b_v3 => ?_
    refine pr_bO (pr_lN (fun k => kdv_20 k)) fun v4 b_v4 => ?_
    cases v4 with
    | none =>
      refine pr_bN (pr_al) fun v6 b_v6 => ?_
      refine pr_bE (prX3_init b_v6) fun _ => ?_
      refine pr_bN (pr_gA (by decide)) fun v8 b_v8 => ?_
      refine pr_bE (pr_tA (fun k => kdv_20 k) b_v6) fun _ => ?_
      refine pr_bN (pr_gA (by decide)) fun v10 b_v10 => ?_
      refine pr_bN (pr_gA (by decide)) fun v11 b_v11 => ?_
      refine pr_bE (pr_gI (by decide)) fun v12 => ?_
      refine pr_bN (pr_gA (by decide)) fun v13 b_v13 => ?_
      refine pr_bE (pr_sR (by decide) b_v6) fun _ => ?_
      refine pr_bN (pr_gA (by decide)) fun v15 b_v15 => ?_
      refine pr_bE (prX8_becomeZero b_v15) fun v16 => ?_
      exact pr_pp rfl
    | some a5 =>
      refine pr_bN (pr_gA (by decide)) fun v18 b_v18 => ?_
      refine pr_bN (pr_gA (by decide)) fun v19 b_v19 => ?_
      refine pr_bE (pr_gI (by decide)) fun v20 => ?_
      refine pr_bN (pr_gA (by decide)) fun v21 b_v21 => ?_
      refine pr_bE (pr_sR (by decide) (b_v4 a5 rfl)) fun _ => ?_
      refine pr_bN (pr_gA (by decide)) fun v23 b_v23 => ?_
      refine pr_bE (prX8_becomeZero b_v23) fun v24 => ?_
      exact pr_pp rfl
theorem prX9_refuse {x0 : Nat} {x1 : Int32} (b_x0 : x0 < 1152921504606846976) : PR r (fX9_refuse x0 x1) (fX9_refuse (r x0) x1) Eq := by
  unfold fX9_refuse
  refine pr_bE (pr_chk) fun _ => ?_
  refine pr_ite ?_ ?_
  · refine pr_bE (pr_gI (by decide)) fun v8 => ?_
    refine pr_bE (pr_sI (by decide)) fun _ => ?_
    exact pr_pp rfl
  · refine pr_ite ?_ ?_
    · refine pr_bE (pr_gI (by decide)) fun v6 => ?_
      refine pr_bE (pr_sI (by decide)) fun _ => ?_
      exact pr_pp rfl
    · refine pr_ite ?_ ?_
      · refine pr_bE (pr_gI (by decide)) fun v4 => ?_
        refine pr_bE (pr_sI (by decide)) fun _ => ?_
        exact pr_pp rfl
      · exact pr_pp rfl
theorem prX2_forgetOldest_b9 {x0 : Nat} {x1 : Nat} {x2 : Int32} (b_x0 : x0 < 1152921504606846976) (b_x1 : x1 < 1152921504606846976) : PR r (fX2_forgetOldest_b9 x0 x1 x2) (fX2_forgetOldest_b9 (r x0) (r x1) x2) Eq := by
  unfold fX2_forgetOldest_b9
  refine pr_ite ?_ ?_
  · exact pr_pp rfl
  · refine pr_bN (pr_gA (by decide)) fun v4 b_v4 => ?_
    refine pr_bN (pr_gA (by decide)) fun v5 b_v5 => ?_
    refine pr_bN (pr_lA (fun k => kdv_22 k)) fun v6 b_v6 => ?_
    refine pr_bE (pr_tA (fun k => kdv_22 k) b_v6) fun _ => ?_
    exact pr_pp rfl
theorem prX2_forgetOldest_B9 {x0 : Nat} {x1 : Nat} (b_x0 : x0 < 1152921504606846976) (b_x1 : x1 < 1152921504606846976) : ∀ x, PR r (fX2_forgetOldest_B9 x0 x1 x) (fX2_forgetOldest_B9 (r x0) (r x1) x) Eq := by
  intro x
  unfold fX2_forgetOldest_B9
  try simp only [frI_eq, frJ_eq]
  exact prX2_forgetOldest_b9 b_x0 b_x1
theorem prX2_forgetOldest {x0 : Nat} (b_x0 : x0 < 1152921504606846976) : PR r (fX2_forgetOldest x0) (fX2_forgetOldest (r x0)) Eq := by
  unfold fX2_forgetOldest
  refine pr_bE (pr_chk) fun _ => ?_
  refine pr_bN (pr_gA (by decide)) fun v1 b_v1 => ?_
  refine pr_bN (pr_lA (fun k => kdv_22 k)) fun v2 b_v2 => ?_
  refine pr_bE (pr_ploE (fun x => prX2_forgetOldest_B9 b_x0 b_v2 x) _ _) fun z8 => ?_
  refine pr_bN (pr_gA (by decide)) fun v9 b_v9 => ?_
  refine pr_bE (pr_tA (fun k => kdv_22 k) b_v2) fun _ => ?_
  refine pr_bE (pr_gI (by decide)) fun v11 => ?_
  refine pr_bE (pr_sI (by decide)) fun _ => ?_
  exact pr_pp rfl
theorem prX2_keep {x0 : Nat} {x1 : Nat} (b_x0 : x0 < 1152921504606846976) (b_x1 : x1 < 1152921504606846976) : PR r (fX2_keep x0 x1) (fX2_keep (r x0) (r x1)) Eq := by
  unfold fX2_keep
  refine pr_bE (pr_chk) fun _ => ?_
  refine pr_bE (pr_gI (by decide)) fun v1 => ?_
  refine pr_ite ?_ ?_
  · refine pr_bE (prX2_forgetOldest b_x0) fun _ => ?_
    refine pr_bN (pr_gA (by decide)) fun v12 b_v12 => ?_
    refine pr_bE (pr_gI (by decide)) fun v13 => ?_
    refine pr_bN (pr_lA (fun k => kdv_22 k)) fun v14 b_v14 => ?_
    refine pr_bE (prX8_copyFrom b_v14 b_x1) fun _ => ?_
    refine pr_bE (pr_gI (by decide)) fun v17 => ?_
    refine pr_bE (pr_sI (by decide)) fun _ => ?_
    exact pr_pp rfl
  · refine pr_bN (pr_gA (by decide)) fun v3 b_v3 => ?_
    refine pr_bE (pr_gI (by decide)) fun v4 => ?_
    refine pr_bN (pr_lA (fun k => kdv_22 k)) fun v5 b_v5 => ?_
    refine pr_bE (prX8_copyFrom b_v5 b_x1) fun _ => ?_
    refine pr_bE (pr_gI (by decide)) fun v8 => ?_
    refine pr_bE (pr_sI (by decide)) fun _ => ?_
    exact pr_pp rfl
theorem prX9_settle {x0 : Nat} {x1 : Int32} (b_x0 : x0 < 1152921504606846976) : PR r (fX9_settle x0 x1) (fX9_settle (r x0) x1) Eq := by
  unfold fX9_settle
  refine pr_bE (pr_chk) fun _ => ?_
  refine pr_ite ?_ ?_
  · refine pr_bN (pr_gA (by decide)) fun v2 b_v2 => ?_
    refine pr_bN (pr_gA (by decide)) fun v3 b_v3 => ?_
    refine pr_bE (prX2_keep b_v2 b_v3) fun _ => ?_
    refine pr_bN (pr_gA (by decide)) fun v6 b_v6 => ?_
    refine pr_bN (pr_gA (by decide)) fun v7 b_v7 => ?_
    refine pr_bE (prX8_copyFrom b_v6 b_v7) fun _ => ?_
    exact pr_pp rfl
  · refine pr_bE (prX9_refuse b_x0) fun v10 => ?_
    exact pr_pp rfl
theorem prX9_level {x0 : Nat} {x1 : Int32} (b_x0 : x0 < 1152921504606846976) : PR r (fX9_level x0 x1) (fX9_level (r x0) x1) Eq := by
  unfold fX9_level
  refine pr_bE (pr_chk) fun _ => ?_
  refine pr_bN (pr_gA (by decide)) fun v1 b_v1 => ?_
  refine pr_bN (pr_gA (by decide)) fun v2 b_v2 => ?_
  refine pr_bE (prX8_copyFrom b_v1 b_v2) fun _ => ?_
  refine pr_bE (prX9_enter b_x0) fun v5 => ?_
  refine pr_bE (prX9_settle b_x0) fun v7 => ?_
  exact pr_pp rfl
theorem prX9_symbols {x0 : Nat} (b_x0 : x0 < 1152921504606846976) : PR r (fX9_symbols x0) (fX9_symbols (r x0)) Eq := by
  unfold fX9_symbols
  refine pr_bE (pr_chk) fun _ => ?_
  refine pr_bN (pr_gA (by decide)) fun v1 b_v1 => ?_
  refine pr_bN (pr_gA (by decide)) fun v2 b_v2 => ?_
  refine pr_bE (pr_gI (by decide)) fun v3 => ?_
  exact pr_pp rfl
theorem prX3_hasSymbol {x0 : Nat} {x1 : Int32} (b_x0 : x0 < 1152921504606846976) : PR r (fX3_hasSymbol x0 x1) (fX3_hasSymbol (r x0) x1) Eq := by
  unfold fX3_hasSymbol
  refine pr_bE (pr_chk) fun _ => ?_
  refine pr_ite ?_ ?_
  · exact pr_pp rfl
  · refine pr_bE (pr_gI (by decide)) fun v2 => ?_
    refine pr_ite ?_ ?_
    · exact pr_pp rfl
    · exact pr_pp rfl
theorem prX9_symbol {x0 : Nat} {x1 : Int32} {x2 : Int32} (b_x0 : x0 < 1152921504606846976) : PR r (fX9_symbol x0 x1 x2) (fX9_symbol (r x0) x1 x2) Eq := by
  unfold fX9_symbol
  refine pr_bE (pr_chk) fun _ => ?_
  refine pr_bN (pr_gA (by decide)) fun v1 b_v1 => ?_
  refine pr_bN (pr_gA (by decide)) fun v2 b_v2 => ?_
  refine pr_bE (prX3_hasSymbol b_v2) fun v3 => ?_
  refine pr_ite ?_ ?_
  · refine pr_bE (prX9_refuse b_x0) fun v29 => ?_
    exact pr_pp rfl
  · refine pr_ite ?_ ?_
    · refine pr_bN (pr_gA (by decide)) fun v7 b_v7 => ?_
      refine pr_bE (pr_lI (fun k => kdv_17 k)) fun v8 => ?_
      exact pr_pp rfl
    · refine pr_ite ?_ ?_
      · refine pr_bN (pr_gA (by decide)) fun v10 b_v10 => ?_
        refine pr_bE (pr_lI (fun k => kdv_17 k)) fun v11 => ?_
        exact pr_pp rfl
      · refine pr_ite ?_ ?_
        · refine pr_bN (pr_gA (by decide)) fun v13 b_v13 => ?_
          refine pr_bE (pr_lI (fun k => kdv_17 k)) fun v14 => ?_
          exact pr_pp rfl
        · refine pr_ite ?_ ?_
          · refine pr_bN (pr_gA (by decide)) fun v16 b_v16 => ?_
            refine pr_bE (pr_lI (fun k => kdv_17 k)) fun v17 => ?_
            exact pr_pp rfl
          · refine pr_ite ?_ ?_
            · refine pr_bN (pr_gA (by decide)) fun v19 b_v19 => ?_
              refine pr_bE (pr_lI (fun k => kdv_17 k)) fun v20 => ?_
              exact pr_pp rfl
            · refine pr_ite ?_ ?_
              · refine pr_bN (pr_gA (by decide)) fun v22 b_v22 => ?_
                refine pr_bE (pr_lI (fun k => kdv_17 k)) fun v23 => ?_
                exact pr_pp rfl
              · refine pr_ite ?_ ?_
                · refine pr_bN (pr_gA (by decide)) fun v25 b_v25 => ?_
                  refine pr_bE (pr_lI (fun k => kdv_17 k)) fun v26 => ?_
                  exact pr_pp rfl
                · refine pr_bE (prX9_refuse b_x0) fun v27 => ?_
                  exact pr_pp rfl
theorem prX9_pair {x0 : Nat} {x1 : Int32} {x2 : Int32} (b_x0 : x0 < 1152921504606846976) : PR r (fX9_pair x0 x1 x2) (fX9_pair (r x0) x1 x2) Eq := by
  unfold fX9_pair
  refine pr_bE (pr_chk) fun _ => ?_
  refine pr_bE (prX9_within) fun v1 => ?_
  refine pr_ite ?_ ?_
  · refine pr_bE (prX9_refuse b_x0) fun v3 => ?_
    exact pr_pp rfl
  · refine pr_bE (prX9_within) fun v5 => ?_
    refine pr_ite ?_ ?_
    · refine pr_bE (prX9_refuse b_x0) fun v11 => ?_
      exact pr_pp rfl
    · refine pr_bN (pr_gA (by decide)) fun v7 b_v7 => ?_
      refine pr_bN (pr_gA (by decide)) fun v8 b_v8 => ?_
      refine pr_bE (prX3_find b_v8) fun v9 => ?_
      exact pr_pp rfl
theorem prX3_closedSymbols_b4 {x0 : Nat} {x1 : Int32} {x2 : Int32} (b_x0 : x0 < 1152921504606846976) : PR r (fX3_closedSymbols_b4 x0 x1 x2) (fX3_closedSymbols_b4 (r x0) x1 x2) Eq := by
  unfold fX3_closedSymbols_b4
  refine pr_bE (pr_gI (by decide)) fun v1 => ?_
  refine pr_ite ?_ ?_
  · exact pr_pp rfl
  · refine pr_bN (pr_gA (by decide)) fun v3 b_v3 => ?_
    refine pr_bN (pr_gA (by decide)) fun v4 b_v4 => ?_
    refine pr_bE (pr_lI (fun k => kdv_17 k)) fun v5 => ?_
    refine pr_bE (pr_lI (fun k => kdv_17 k)) fun v6 => ?_
    refine pr_bN (pr_gA (by decide)) fun v7 b_v7 => ?_
    refine pr_bN (pr_gA (by decide)) fun v8 b_v8 => ?_
    refine pr_bN (pr_gA (by decide)) fun v9 b_v9 => ?_
    refine pr_bE (pr_lI (fun k => kdv_17 k)) fun v10 => ?_
    refine pr_bE (pr_lI (fun k => kdv_17 k)) fun v11 => ?_
    refine pr_bE (pr_lI (fun k => kdv_17 k)) fun v12 => ?_
    refine pr_ite ?_ ?_
    · exact pr_pp rfl
    · exact pr_pp rfl
theorem prX3_closedSymbols_B4 {x0 : Nat} (b_x0 : x0 < 1152921504606846976) : ∀ x, PR r (fX3_closedSymbols_B4 x0 x) (fX3_closedSymbols_B4 (r x0) x) Eq := by
  intro x
  unfold fX3_closedSymbols_B4
  try simp only [frI_eq, frJ_eq]
  exact prX3_closedSymbols_b4 b_x0
theorem prX3_closedSymbols {x0 : Nat} (b_x0 : x0 < 1152921504606846976) : PR r (fX3_closedSymbols x0) (fX3_closedSymbols (r x0)) Eq := by
  unfold fX3_closedSymbols
  refine pr_bE (pr_chk) fun _ => ?_
  refine pr_bE (pr_ploE (fun x => prX3_closedSymbols_B4 b_x0 x) _ _) fun z14 => ?_
  exact pr_pp rfl
theorem prX9_space {x0 : Nat} {x1 : Int32} (b_x0 : x0 < 1152921504606846976) : PR r (fX9_space x0 x1) (fX9_space (r x0) x1) Eq := by
  unfold fX9_space
  refine pr_bE (pr_chk) fun _ => ?_
  refine pr_bN (pr_gA (by decide)) fun v1 b_v1 => ?_
  refine pr_bN (pr_gA (by decide)) fun v2 b_v2 => ?_
  refine pr_ite ?_ ?_
  · refine pr_bE (pr_gI (by decide)) fun v4 => ?_
    exact pr_pp rfl
  · refine pr_ite ?_ ?_
    · refine pr_bE (pr_gI (by decide)) fun v6 => ?_
      exact pr_pp rfl
    · refine pr_ite ?_ ?_
      · refine pr_bN (pr_gA (by decide)) fun v8 b_v8 => ?_
        refine pr_bN (pr_gA (by decide)) fun v9 b_v9 => ?_
        refine pr_bE (pr_aln) fun v10 => ?_
        exact pr_pp rfl
      · refine pr_ite ?_ ?_
        · refine pr_bE (prX3_closedSymbols b_v2) fun v12 => ?_
          exact pr_pp rfl
        · refine pr_bE (prX9_refuse b_x0) fun v14 => ?_
          exact pr_pp rfl
theorem prX3_hasCoordinate {x0 : Nat} {x1 : Int32} (b_x0 : x0 < 1152921504606846976) : PR r (fX3_hasCoordinate x0 x1) (fX3_hasCoordinate (r x0) x1) Eq := by
  unfold fX3_hasCoordinate
  refine pr_bE (pr_chk) fun _ => ?_
  refine pr_ite ?_ ?_
  · exact pr_pp rfl
  · refine pr_bE (pr_gI (by decide)) fun v2 => ?_
    refine pr_ite ?_ ?_
    · exact pr_pp rfl
    · exact pr_pp rfl
theorem prX9_fraction {x0 : Nat} {x1 : Int32} {x2 : Int32} {x3 : Int32} (b_x0 : x0 < 1152921504606846976) : PR r (fX9_fraction x0 x1 x2 x3) (fX9_fraction (r x0) x1 x2 x3) Eq := by
  unfold fX9_fraction
  refine pr_bE (pr_chk) fun _ => ?_
  refine pr_bN (pr_gA (by decide)) fun v1 b_v1 => ?_
  refine pr_bN (pr_gA (by decide)) fun v2 b_v2 => ?_
  refine pr_bE (prX3_hasSymbol b_v2) fun v3 => ?_
  refine pr_ite ?_ ?_
  · refine pr_bE (prX9_refuse b_x0) fun v6 => ?_
    exact pr_pp rfl
  · refine pr_bE (prX3_hasCoordinate b_v2) fun v8 => ?_
    refine pr_ite ?_ ?_
    · refine pr_bE (prX9_refuse b_x0) fun v11 => ?_
      exact pr_pp rfl
    · refine pr_bE (prX9_within) fun v13 => ?_
      refine pr_ite ?_ ?_
      · refine pr_bE (prX9_refuse b_x0) fun v19 => ?_
        exact pr_pp rfl
      · refine pr_ite ?_ ?_
        · refine pr_bN (pr_gA (by decide)) fun v16 b_v16 => ?_
          refine pr_bN (pr_lA (fun k => kdv_23 k)) fun v17 b_v17 => ?_
          refine pr_bE (pr_lI (fun k => kdv_17 k)) fun v18 => ?_
          exact pr_pp rfl
        · exact pr_pp rfl
theorem prX5_addTerm_b69 {x0 : Nat} {x1 : Nat} {x2 : Int32} {x3 : Int32} {x4 : Int32} {x5 : Int32} {x6 : Int32} {x9 : Int32} {x10 : Int32} (b_x0 : x0 < 1152921504606846976) (b_x1 : x1 < 1152921504606846976) : PR r (fX5_addTerm_b69 x0 x1 x2 x3 x4 x5 x6 x9 x10) (fX5_addTerm_b69 (r x0) (r x1) x2 x3 x4 x5 x6 x9 x10) Eq := by
  unfold fX5_addTerm_b69
  refine pr_ite ?_ ?_
  · exact pr_pp rfl
  · refine pr_bE (pr_gI (by decide)) fun v14 => ?_
    refine pr_ite ?_ ?_
    · exact pr_pp rfl
    · refine pr_bN (pr_gA (by decide)) fun v16 b_v16 => ?_
      refine pr_bN (pr_lA (fun k => kdv_24 k)) fun v17 b_v17 => ?_
      refine pr_bE (pr_lJ (fun k => kdv_18 k)) fun v18 => ?_
      refine pr_bN (pr_gA (by decide)) fun v19 b_v19 => ?_
      refine pr_bN (pr_lA (fun k => kdv_23 k)) fun v20 b_v20 => ?_
      refine pr_bE (pr_lI (fun k => kdv_17 k)) fun v21 => ?_
      refine pr_bE (pr_tJ (fun k => kdv_18 k)) fun _ => ?_
      exact pr_pp rfl
theorem prX5_addTerm_B69 {x0 : Nat} {x1 : Nat} {x2 : Int32} {x3 : Int32} {x4 : Int32} {x5 : Int32} {x6 : Int32} {x9 : Int32} (b_x0 : x0 < 1152921504606846976) (b_x1 : x1 < 1152921504606846976) : ∀ x, PR r (fX5_addTerm_B69 x0 x1 x2 x3 x4 x5 x6 x9 x) (fX5_addTerm_B69 (r x0) (r x1) x2 x3 x4 x5 x6 x9 x) Eq := by
  intro x
  unfold fX5_addTerm_B69
  try simp only [frI_eq, frJ_eq]
  exact prX5_addTerm_b69 b_x0 b_x1
theorem prX5_addTerm_b3 {x0 : Nat} {x1 : Nat} {x2 : Int32} {x3 : Int32} {x4 : Int32} {x5 : Int32} {x6 : Int32} (b_x0 : x0 < 1152921504606846976) (b_x1 : x1 < 1152921504606846976) : PR r (fX5_addTerm_b3 x0 x1 x2 x3 x4 x5 x6) (fX5_addTerm_b3 (r x0) (r x1) x2 x3 x4 x5 x6) Eq := by
  unfold fX5_addTerm_b3
  refine pr_bE (pr_gI (by decide)) fun v1 => ?_
  refine pr_ite ?_ ?_
  · exact pr_pp rfl
  · refine pr_bN (pr_gA (by decide)) fun v3 b_v3 => ?_
    refine pr_bN (pr_gA (by decide)) fun v4 b_v4 => ?_
    refine pr_bE (pr_lI (fun k => kdv_17 k)) fun v5 => ?_
    refine pr_bE (pr_lI (fun k => kdv_17 k)) fun v6 => ?_
    refine pr_bN (pr_gA (by decide)) fun v7 b_v7 => ?_
    refine pr_bN (pr_gA (by decide)) fun v8 b_v8 => ?_
    refine pr_bE (pr_lI (fun k => kdv_17 k)) fun v9 => ?_
    refine pr_bE (pr_lI (fun k => kdv_17 k)) fun v10 => ?_
    refine pr_bE (prX3_find b_x1) fun v11 => ?_
    refine pr_bE (pr_ploE (fun x => prX5_addTerm_B69 b_x0 b_x1 x) _ _) fun z23 => ?_
    exact pr_pp rfl
theorem prX5_addTerm_B3 {x0 : Nat} {x1 : Nat} {x2 : Int32} {x3 : Int32} {x4 : Int32} {x5 : Int32} (b_x0 : x0 < 1152921504606846976) (b_x1 : x1 < 1152921504606846976) : ∀ x, PR r (fX5_addTerm_B3 x0 x1 x2 x3 x4 x5 x) (fX5_addTerm_B3 (r x0) (r x1) x2 x3 x4 x5 x) Eq := by
  intro x
  unfold fX5_addTerm_B3
  try simp only [frI_eq, frJ_eq]
  exact prX5_addTerm_b3 b_x0 b_x1
theorem prX5_addTerm {x0 : Nat} {x1 : Nat} {x2 : Int32} {x3 : Int32} {x4 : Int32} {x5 : Int32} (b_x0 : x0 < 1152921504606846976) (b_x1 : x1 < 1152921504606846976) : PR r (fX5_addTerm x0 x1 x2 x3 x4 x5) (fX5_addTerm (r x0) (r x1) x2 x3 x4 x5) Eq := by
  unfold fX5_addTerm
  refine pr_bE (pr_chk) fun _ => ?_
  refine pr_bE (pr_ploE (fun x => prX5_addTerm_B3 b_x0 b_x1 x) _ _) fun z24 => ?_
  exact pr_pp rfl
theorem prX5_addTerms_b32 {x0 : Nat} {x1 : Nat} {x2 : Int32} {x3 : Int32} {x4 : Int32} {x5 : Int32} {x6 : Int32} (b_x0 : x0 < 1152921504606846976) (b_x1 : x1 < 1152921504606846976) : PR r (fX5_addTerms_b32 x0 x1 x2 x3 x4 x5 x6) (fX5_addTerms_b32 (r x0) (r x1) x2 x3 x4 x5 x6) Eq := by
  unfold fX5_addTerms_b32
  refine pr_ite ?_ ?_
  · exact pr_pp rfl
  · refine pr_ite ?_ ?_
    · refine pr_bE (prX5_addTerm b_x0 b_x1) fun _ => ?_
      exact pr_pp rfl
    · exact pr_pp rfl
theorem prX5_addTerms_B32 {x0 : Nat} {x1 : Nat} {x2 : Int32} {x3 : Int32} {x4 : Int32} {x5 : Int32} (b_x0 : x0 < 1152921504606846976) (b_x1 : x1 < 1152921504606846976) : ∀ x, PR r (fX5_addTerms_B32 x0 x1 x2 x3 x4 x5 x) (fX5_addTerms_B32 (r x0) (r x1) x2 x3 x4 x5 x) Eq := by
  intro x
  unfold fX5_addTerms_B32
  try simp only [frI_eq, frJ_eq]
  exact prX5_addTerms_b32 b_x0 b_x1
theorem prX5_addTerms_b23 {x0 : Nat} {x1 : Nat} {x2 : Int32} {x3 : Int32} {x4 : Int32} {x5 : Int32} (b_x0 : x0 < 1152921504606846976) (b_x1 : x1 < 1152921504606846976) : PR r (fX5_addTerms_b23 x0 x1 x2 x3 x4 x5) (fX5_addTerms_b23 (r x0) (r x1) x2 x3 x4 x5) Eq := by
  unfold fX5_addTerms_b23
  refine pr_ite ?_ ?_
  · exact pr_pp rfl
  · refine pr_bE (pr_ploE (fun x => prX5_addTerms_B32 b_x0 b_x1 x) _ _) fun z8 => ?_
    exact pr_pp rfl
theorem prX5_addTerms_B23 {x0 : Nat} {x1 : Nat} {x2 : Int32} {x3 : Int32} {x4 : Int32} (b_x0 : x0 < 1152921504606846976) (b_x1 : x1 < 1152921504606846976) : ∀ x, PR r (fX5_addTerms_B23 x0 x1 x2 x3 x4 x) (fX5_addTerms_B23 (r x0) (r x1) x2 x3 x4 x) Eq := by
  intro x
  unfold fX5_addTerms_B23
  try simp only [frI_eq, frJ_eq]
  exact prX5_addTerms_b23 b_x0 b_x1
theorem prX5_addTerms_b10 {x0 : Nat} {x1 : Nat} {x2 : Int32} {x3 : Int32} {x4 : Int32} (b_x0 : x0 < 1152921504606846976) (b_x1 : x1 < 1152921504606846976) : PR r (fX5_addTerms_b10 x0 x1 x2 x3 x4) (fX5_addTerms_b10 (r x0) (r x1) x2 x3 x4) Eq := by
  unfold fX5_addTerms_b10
  refine pr_ite ?_ ?_
  · exact pr_pp rfl
  · refine pr_bE (pr_ploE (fun x => prX5_addTerms_B23 b_x0 b_x1 x) _ _) fun z9 => ?_
    exact pr_pp rfl
theorem prX5_addTerms_B10 {x0 : Nat} {x1 : Nat} {x2 : Int32} {x3 : Int32} (b_x0 : x0 < 1152921504606846976) (b_x1 : x1 < 1152921504606846976) : ∀ x, PR r (fX5_addTerms_B10 x0 x1 x2 x3 x) (fX5_addTerms_B10 (r x0) (r x1) x2 x3 x) Eq := by
  intro x
  unfold fX5_addTerms_B10
  try simp only [frI_eq, frJ_eq]
  exact prX5_addTerms_b10 b_x0 b_x1
theorem prX5_addTerms_b2 {x0 : Nat} {x1 : Nat} {x2 : Int32} {x3 : Int32} (b_x0 : x0 < 1152921504606846976) (b_x1 : x1 < 1152921504606846976) : PR r (fX5_addTerms_b2 x0 x1 x2 x3) (fX5_addTerms_b2 (r x0) (r x1) x2 x3) Eq := by
  unfold fX5_addTerms_b2
  refine pr_ite ?_ ?_
  · exact pr_pp rfl
  · refine pr_bE (pr_ploE (fun x => prX5_addTerms_B10 b_x0 b_x1 x) _ _) fun z10 => ?_
    exact pr_pp rfl
theorem prX5_addTerms_B2 {x0 : Nat} {x1 : Nat} {x2 : Int32} (b_x0 : x0 < 1152921504606846976) (b_x1 : x1 < 1152921504606846976) : ∀ x, PR r (fX5_addTerms_B2 x0 x1 x2 x) (fX5_addTerms_B2 (r x0) (r x1) x2 x) Eq := by
  intro x
  unfold fX5_addTerms_B2
  try simp only [frI_eq, frJ_eq]
  exact prX5_addTerms_b2 b_x0 b_x1
theorem prX5_addTerms {x0 : Nat} {x1 : Nat} {x2 : Int32} (b_x0 : x0 < 1152921504606846976) (b_x1 : x1 < 1152921504606846976) : PR r (fX5_addTerms x0 x1 x2) (fX5_addTerms (r x0) (r x1) x2) Eq := by
  unfold fX5_addTerms
  refine pr_bE (pr_chk) fun _ => ?_
  refine pr_bE (pr_ploE (fun x => prX5_addTerms_B2 b_x0 b_x1 x) _ _) fun z11 => ?_
  exact pr_pp rfl
theorem prX5_restrictTo_b39 {x0 : Nat} {x1 : Nat} {x2 : Int32} {x3 : Nat} {x4 : Int32} {x5 : Int32} (b_x0 : x0 < 1152921504606846976) (b_x1 : x1 < 1152921504606846976) (b_x3 : x3 < 1152921504606846976) : PR r (fX5_restrictTo_b39 x0 x1 x2 x3 x4 x5) (fX5_restrictTo_b39 (r x0) (r x1) x2 (r x3) x4 x5) Eq := by
  unfold fX5_restrictTo_b39
  refine pr_bE (pr_aln) fun v11 => ?_
  refine pr_ite ?_ ?_
  · exact pr_pp rfl
  · refine pr_bN (pr_gA (by decide)) fun v13 b_v13 => ?_
    refine pr_bN (pr_lA (fun k => kdv_24 k)) fun v14 b_v14 => ?_
    refine pr_bE (pr_lJ (fun k => kdv_18 k)) fun v15 => ?_
    refine pr_bE (pr_lJ (fun k => kdv_18 k)) fun v16 => ?_
    refine pr_bN (pr_gA (by decide)) fun v17 b_v17 => ?_
    refine pr_bN (pr_lA (fun k => kdv_23 k)) fun v18 b_v18 => ?_
    refine pr_bE (pr_lI (fun k => kdv_17 k)) fun v19 => ?_
    refine pr_bE (pr_tJ (fun k => kdv_18 k)) fun _ => ?_
    exact pr_pp rfl
theorem prX5_restrictTo_B39 {x0 : Nat} {x1 : Nat} {x2 : Int32} {x3 : Nat} {x4 : Int32} (b_x0 : x0 < 1152921504606846976) (b_x1 : x1 < 1152921504606846976) (b_x3 : x3 < 1152921504606846976) : ∀ x, PR r (fX5_restrictTo_B39 x0 x1 x2 x3 x4 x) (fX5_restrictTo_B39 (r x0) (r x1) x2 (r x3) x4 x) Eq := by
  intro x
  unfold fX5_restrictTo_B39
  try simp only [frI_eq, frJ_eq]
  exact prX5_restrictTo_b39 b_x0 b_x1 b_x3
theorem prX5_restrictTo_b26 {x0 : Nat} {x1 : Nat} {x2 : Int32} {x3 : Nat} {x4 : Int32} (b_x0 : x0 < 1152921504606846976) (b_x1 : x1 < 1152921504606846976) (b_x3 : x3 < 1152921504606846976) : PR r (fX5_restrictTo_b26 x0 x1 x2 x3 x4) (fX5_restrictTo_b26 (r x0) (r x1) x2 (r x3) x4) Eq := by
  unfold fX5_restrictTo_b26
  refine pr_bN (pr_gA (by decide)) fun v8 b_v8 => ?_
  refine pr_bE (pr_aln) fun v9 => ?_
  refine pr_ite ?_ ?_
  · exact pr_pp rfl
  · refine pr_bE (pr_ploE (fun x => prX5_restrictTo_B39 b_x0 b_x1 b_x3 x) _ _) fun z21 => ?_
    exact pr_pp rfl
theorem prX5_restrictTo_B26 {x0 : Nat} {x1 : Nat} {x2 : Int32} {x3 : Nat} (b_x0 : x0 < 1152921504606846976) (b_x1 : x1 < 1152921504606846976) (b_x3 : x3 < 1152921504606846976) : ∀ x, PR r (fX5_restrictTo_B26 x0 x1 x2 x3 x) (fX5_restrictTo_B26 (r x0) (r x1) x2 (r x3) x) Eq := by
  intro x
  unfold fX5_restrictTo_B26
  try simp only [frI_eq, frJ_eq]
  exact prX5_restrictTo_b26 b_x0 b_x1 b_x3
theorem prX5_restrictTo_b2 {x0 : Nat} {x1 : Nat} {x2 : Int32} (b_x0 : x0 < 1152921504606846976) (b_x1 : x1 < 1152921504606846976) : PR r (fX5_restrictTo_b2 x0 x1 x2) (fX5_restrictTo_b2 (r x0) (r x1) x2) Eq := by
  unfold fX5_restrictTo_b2
  refine pr_bN (pr_gA (by decide)) fun v1 b_v1 => ?_
  refine pr_bE (pr_aln) fun v2 => ?_
  refine pr_ite ?_ ?_
  · exact pr_pp rfl
  · refine pr_bN (pr_gA (by decide)) fun v4 b_v4 => ?_
    refine pr_bN (pr_gA (by decide)) fun v5 b_v5 => ?_
    refine pr_bE (pr_lI (fun k => kdv_17 k)) fun v6 => ?_
    refine pr_bN (pr_lA (fun k => kdv_24 k)) fun v7 b_v7 => ?_
    refine pr_bE (pr_ploE (fun x => prX5_restrictTo_B26 b_x0 b_x1 b_v7 x) _ _) fun z22 => ?_
    exact pr_pp rfl
theorem prX5_restrictTo_B2 {x0 : Nat} {x1 : Nat} (b_x0 : x0 < 1152921504606846976) (b_x1 : x1 < 1152921504606846976) : ∀ x, PR r (fX5_restrictTo_B2 x0 x1 x) (fX5_restrictTo_B2 (r x0) (r x1) x) Eq := by
  intro x
  unfold fX5_restrictTo_B2
  try simp only [frI_eq, frJ_eq]
  exact prX5_restrictTo_b2 b_x0 b_x1
theorem prX5_restrictTo {x0 : Nat} {x1 : Nat} (b_x0 : x0 < 1152921504606846976) (b_x1 : x1 < 1152921504606846976) : PR r (fX5_restrictTo x0 x1) (fX5_restrictTo (r x0) (r x1)) Eq := by
  unfold fX5_restrictTo
  refine pr_bE (pr_chk) fun _ => ?_
  refine pr_bE (pr_ploE (fun x => prX5_restrictTo_B2 b_x0 b_x1 x) _ _) fun z23 => ?_
  exact pr_pp rfl
theorem prX5_init {x0 : Nat} {x1 : Nat} {x2 : Int32} (b_x0 : x0 < 1152921504606846976) (b_x1 : x1 < 1152921504606846976) : PR r (fX5_init x0 x1 x2) (fX5_init (r x0) (r x1) x2) Eq := by
  unfold fX5_init
  refine pr_bE (pr_chk) fun _ => ?_
  refine pr_bE (pr_gI (by decide)) fun v1 => ?_
  refine pr_bE (pr_gI (by decide)) fun v2 => ?_
  refine pr_bN (pr_mna (fun k => kdv_24 k)) fun v3 b_v3 => ?_
  refine pr_bE (pr_sR (by decide) b_v3) fun _ => ?_
  refine pr_bE (pr_gI (by decide)) fun v5 => ?_
  refine pr_bN (pr_nA) fun v6 b_v6 => ?_
  refine pr_bE (pr_sR (by decide) b_v6) fun _ => ?_
  refine pr_bE (prX5_addTerms b_x0 b_x1) fun _ => ?_
  refine pr_bN (pr_gA (by decide)) fun v10 b_v10 => ?_
  refine pr_bN (pr_gA (by decide)) fun v11 b_v11 => ?_
  refine pr_bE (pr_aln) fun v12 => ?_
  refine pr_bN (pr_mna (fun k => kdv_24 k)) fun v13 b_v13 => ?_
  refine pr_bE (pr_sR (by decide) b_v13) fun _ => ?_
  refine pr_bN (pr_gA (by decide)) fun v15 b_v15 => ?_
  refine pr_bE (prX5_restrictTo b_x0 b_v15) fun _ => ?_
  exact pr_pp rfl
theorem prX3_operatorFor {x0 : Nat} {x1 : Int32} (b_x0 : x0 < 1152921504606846976) : PR r (fX3_operatorFor x0 x1) (fX3_operatorFor (r x0) x1) (Ro r) := by
  unfold fX3_operatorFor
  refine pr_bE (pr_chk) fun _ => ?_
  refine pr_bE (prX9_within) fun v1 => ?_
  refine pr_ite ?_ ?_
  · exact pr_pp ⟨rfl, fun c hc => by cases hc⟩
  · refine pr_bE (pr_gI (by decide)) fun v3 => ?_
    refine pr_bE (prX9_gcd) fun v4 => ?_
    refine pr_ite ?_ ?_
    · refine pr_bN (pr_gA (by decide)) fun v6 b_v6 => ?_
      refine pr_bO (pr_lN (fun k => kdv_21 k)) fun v7 b_v7 => ?_
      cases v7 with
      | none =>
        refine pr_bN (pr_al) fun v9 b_v9 => ?_
        refine pr_bE (prX5_init b_v9 b_x0) fun _ => ?_
        refine pr_bN (pr_gA (by decide)) fun v11 b_v11 => ?_
        refine pr_bE (pr_tA (fun k => kdv_21 k) b_v9) fun _ => ?_
        exact pr_pp ⟨rfl, fun c hc => by cases hc; exact b_v9⟩
      | some a8 =>
        exact pr_pp ⟨rfl, fun c hc => by cases hc; exact (b_v7 a8 rfl)⟩
    · exact pr_pp ⟨rfl, fun c hc => by cases hc⟩
theorem prX9_table {x0 : Nat} {x1 : Int32} {x2 : Int32} {x3 : Int32} {x4 : Int32} (b_x0 : x0 < 1152921504606846976) : PR r (fX9_table x0 x1 x2 x3 x4) (fX9_table (r x0) x1 x2 x3 x4) Eq := by
  unfold fX9_table
  refine pr_bE (pr_chk) fun _ => ?_
  refine pr_bN (pr_gA (by decide)) fun v1 b_v1 => ?_
  refine pr_bN (pr_gA (by decide)) fun v2 b_v2 => ?_
  refine pr_bE (prX9_within) fun v3 => ?_
  refine pr_ite ?_ ?_
  · refine pr_bE (prX9_refuse b_x0) fun v5 => ?_
    exact pr_pp rfl
  · refine pr_bE (prX3_hasCoordinate b_v2) fun v7 => ?_
    refine pr_ite ?_ ?_
    · refine pr_bE (prX9_refuse b_x0) fun v10 => ?_
      exact pr_pp rfl
    · refine pr_bE (prX3_hasCoordinate b_v2) fun v12 => ?_
      refine pr_ite ?_ ?_
      · refine pr_bE (prX9_refuse b_x0) fun v15 => ?_
        exact pr_pp rfl
      · refine pr_bE (prX9_within) fun v17 => ?_
        refine pr_ite ?_ ?_
        · refine pr_bE (prX9_refuse b_x0) fun v28 => ?_
          exact pr_pp rfl
        · refine pr_bO (prX3_operatorFor b_v2) fun v19 b_v19 => ?_
          cases v19 with
          | none =>
            refine pr_bE (prX9_refuse b_x0) fun v22 => ?_
            exact pr_pp rfl
          | some a21 =>
            refine pr_ite ?_ ?_
            · refine pr_bN (pr_gA (by decide)) fun v25 b_v25 => ?_
              refine pr_bN (pr_lA (fun k => kdv_24 k)) fun v26 b_v26 => ?_
              refine pr_bE (pr_lJ (fun k => kdv_18 k)) fun v27 => ?_
              exact pr_pp rfl
            · exact pr_pp rfl
theorem prX4_diagonalSum_b4 {x0 : Nat} {x1 : Int64} {x3 : Int32} (b_x0 : x0 < 1152921504606846976) : PR r (fX4_diagonalSum_b4 x0 x1 x3) (fX4_diagonalSum_b4 (r x0) x1 x3) Eq := by
  unfold fX4_diagonalSum_b4
  refine pr_bE (pr_aln) fun v1 => ?_
  refine pr_ite ?_ ?_
  · exact pr_pp rfl
  · refine pr_bN (pr_lA (fun k => kdv_24 k)) fun v3 b_v3 => ?_
    refine pr_bE (pr_lJ (fun k => kdv_18 k)) fun v4 => ?_
    exact pr_pp rfl
theorem prX4_diagonalSum_B4 {x0 : Nat} (b_x0 : x0 < 1152921504606846976) : ∀ x, PR r (fX4_diagonalSum_B4 x0 x) (fX4_diagonalSum_B4 (r x0) x) Eq := by
  intro x
  unfold fX4_diagonalSum_B4
  try simp only [frI_eq, frJ_eq]
  exact prX4_diagonalSum_b4 b_x0
theorem prX4_diagonalSum {x0 : Nat} (b_x0 : x0 < 1152921504606846976) : PR r (fX4_diagonalSum x0) (fX4_diagonalSum (r x0)) Eq := by
  unfold fX4_diagonalSum
  refine pr_bE (pr_ploE (fun x => prX4_diagonalSum_B4 b_x0 x) _ _) fun z5 => ?_
  exact pr_pp rfl
theorem prX9_trace {x0 : Nat} {x1 : Int32} {x2 : Int32} (b_x0 : x0 < 1152921504606846976) : PR r (fX9_trace x0 x1 x2) (fX9_trace (r x0) x1 x2) Eq := by
  unfold fX9_trace
  refine pr_bE (pr_chk) fun _ => ?_
  refine pr_bE (prX9_within) fun v1 => ?_
  refine pr_ite ?_ ?_
  · refine pr_bE (prX9_refuse b_x0) fun v3 => ?_
    exact pr_pp rfl
  · refine pr_bE (prX9_within) fun v5 => ?_
    refine pr_ite ?_ ?_
    · refine pr_bE (prX9_refuse b_x0) fun v19 => ?_
      exact pr_pp rfl
    · refine pr_bN (pr_gA (by decide)) fun v7 b_v7 => ?_
      refine pr_bN (pr_gA (by decide)) fun v8 b_v8 => ?_
      refine pr_bO (prX3_operatorFor b_v8) fun v9 b_v9 => ?_
      cases v9 with
      | none =>
        refine pr_bE (prX9_refuse b_x0) fun v12 => ?_
        exact pr_pp rfl
      | some a11 =>
        refine pr_ite ?_ ?_
        · refine pr_bN (pr_gA (by decide)) fun v17 b_v17 => ?_
          refine pr_bE (prX4_diagonalSum b_v17) fun v18 => ?_
          exact pr_pp rfl
        · refine pr_bN (pr_gA (by decide)) fun v15 b_v15 => ?_
          refine pr_bE (prX4_diagonalSum b_v15) fun v16 => ?_
          exact pr_pp rfl
theorem prX4_addToDiagonal_b2 {x0 : Int64} {x2 : Nat} {x3 : Int32} (b_x2 : x2 < 1152921504606846976) : PR r (fX4_addToDiagonal_b2 x0 x2 x3) (fX4_addToDiagonal_b2 x0 (r x2) x3) Eq := by
  unfold fX4_addToDiagonal_b2
  refine pr_bE (pr_aln) fun v1 => ?_
  refine pr_ite ?_ ?_
  · exact pr_pp rfl
  · refine pr_bN (pr_lA (fun k => kdv_24 k)) fun v3 b_v3 => ?_
    refine pr_bE (pr_lJ (fun k => kdv_18 k)) fun v4 => ?_
    refine pr_bE (pr_tJ (fun k => kdv_18 k)) fun _ => ?_
    exact pr_pp rfl
theorem prX4_addToDiagonal_B2 {x0 : Int64} {x2 : Nat} (b_x2 : x2 < 1152921504606846976) : ∀ x, PR r (fX4_addToDiagonal_B2 x0 x2 x) (fX4_addToDiagonal_B2 x0 (r x2) x) Eq := by
  intro x
  unfold fX4_addToDiagonal_B2
  try simp only [frI_eq, frJ_eq]
  exact prX4_addToDiagonal_b2 b_x2
theorem prX4_addToDiagonal {x0 : Int64} {x2 : Nat} (b_x2 : x2 < 1152921504606846976) : PR r (fX4_addToDiagonal x0 x2) (fX4_addToDiagonal x0 (r x2)) Eq := by
  unfold fX4_addToDiagonal
  refine pr_bE (pr_ploE (fun x => prX4_addToDiagonal_B2 b_x2 x) _ _) fun z6 => ?_
  exact pr_pp rfl
theorem prX4_multiply_b27 {x0 : Nat} {x1 : Nat} {x2 : Nat} {x3 : Int32} {x4 : Int32} {x5 : Int32} {x6 : Int64} {x8 : Int32} (b_x0 : x0 < 1152921504606846976) (b_x1 : x1 < 1152921504606846976) (b_x2 : x2 < 1152921504606846976) : PR r (fX4_multiply_b27 x0 x1 x2 x3 x4 x5 x6 x8) (fX4_multiply_b27 (r x0) (r x1) (r x2) x3 x4 x5 x6 x8) Eq := by
  unfold fX4_multiply_b27
  refine pr_ite ?_ ?_
  · exact pr_pp rfl
  · refine pr_bN (pr_lA (fun k => kdv_24 k)) fun v5 b_v5 => ?_
    refine pr_bE (pr_lJ (fun k => kdv_18 k)) fun v6 => ?_
    refine pr_bN (pr_lA (fun k => kdv_24 k)) fun v7 b_v7 => ?_
    refine pr_bE (pr_lJ (fun k => kdv_18 k)) fun v8 => ?_
    exact pr_pp rfl
theorem prX4_multiply_B27 {x0 : Nat} {x1 : Nat} {x2 : Nat} {x3 : Int32} {x4 : Int32} {x5 : Int32} (b_x0 : x0 < 1152921504606846976) (b_x1 : x1 < 1152921504606846976) (b_x2 : x2 < 1152921504606846976) : ∀ x, PR r (fX4_multiply_B27 x0 x1 x2 x3 x4 x5 x) (fX4_multiply_B27 (r x0) (r x1) (r x2) x3 x4 x5 x) Eq := by
  intro x
  unfold fX4_multiply_B27
  try simp only [frI_eq, frJ_eq]
  exact prX4_multiply_b27 b_x0 b_x1 b_x2
theorem prX4_multiply_b15 {x0 : Nat} {x1 : Nat} {x2 : Nat} {x3 : Int32} {x4 : Int32} {x5 : Int32} (b_x0 : x0 < 1152921504606846976) (b_x1 : x1 < 1152921504606846976) (b_x2 : x2 < 1152921504606846976) : PR r (fX4_multiply_b15 x0 x1 x2 x3 x4 x5) (fX4_multiply_b15 (r x0) (r x1) (r x2) x3 x4 x5) Eq := by
  unfold fX4_multiply_b15
  refine pr_ite ?_ ?_
  · exact pr_pp rfl
  · refine pr_bE (pr_ploE (fun x => prX4_multiply_B27 b_x0 b_x1 b_x2 x) _ _) fun z9 => ?_
    refine pr_bN (pr_lA (fun k => kdv_24 k)) fun v10 b_v10 => ?_
    refine pr_bE (pr_tJ (fun k => kdv_18 k)) fun _ => ?_
    exact pr_pp rfl
theorem prX4_multiply_B15 {x0 : Nat} {x1 : Nat} {x2 : Nat} {x3 : Int32} {x4 : Int32} (b_x0 : x0 < 1152921504606846976) (b_x1 : x1 < 1152921504606846976) (b_x2 : x2 < 1152921504606846976) : ∀ x, PR r (fX4_multiply_B15 x0 x1 x2 x3 x4 x) (fX4_multiply_B15 (r x0) (r x1) (r x2) x3 x4 x) Eq := by
  intro x
  unfold fX4_multiply_B15
  try simp only [frI_eq, frJ_eq]
  exact prX4_multiply_b15 b_x0 b_x1 b_x2
theorem prX4_multiply_b6 {x0 : Nat} {x1 : Nat} {x2 : Nat} {x3 : Int32} {x4 : Int32} (b_x0 : x0 < 1152921504606846976) (b_x1 : x1 < 1152921504606846976) (b_x2 : x2 < 1152921504606846976) : PR r (fX4_multiply_b6 x0 x1 x2 x3 x4) (fX4_multiply_b6 (r x0) (r x1) (r x2) x3 x4) Eq := by
  unfold fX4_multiply_b6
  refine pr_ite ?_ ?_
  · exact pr_pp rfl
  · refine pr_bE (pr_ploE (fun x => prX4_multiply_B15 b_x0 b_x1 b_x2 x) _ _) fun z12 => ?_
    exact pr_pp rfl
theorem prX4_multiply_B6 {x0 : Nat} {x1 : Nat} {x2 : Nat} {x3 : Int32} (b_x0 : x0 < 1152921504606846976) (b_x1 : x1 < 1152921504606846976) (b_x2 : x2 < 1152921504606846976) : ∀ x, PR r (fX4_multiply_B6 x0 x1 x2 x3 x) (fX4_multiply_B6 (r x0) (r x1) (r x2) x3 x) Eq := by
  intro x
  unfold fX4_multiply_B6
  try simp only [frI_eq, frJ_eq]
  exact prX4_multiply_b6 b_x0 b_x1 b_x2
theorem prX4_multiply {x0 : Nat} {x1 : Nat} {x2 : Nat} (b_x0 : x0 < 1152921504606846976) (b_x1 : x1 < 1152921504606846976) (b_x2 : x2 < 1152921504606846976) : PR r (fX4_multiply x0 x1 x2) (fX4_multiply (r x0) (r x1) (r x2)) Eq := by
  unfold fX4_multiply
  refine pr_bE (pr_aln) fun v1 => ?_
  refine pr_bE (pr_ploE (fun x => prX4_multiply_B6 b_x0 b_x1 b_x2 x) _ _) fun z13 => ?_
  exact pr_pp rfl
theorem prX4_characteristic_b36 {x0 : Nat} {x1 : Int32} {x2 : Nat} {x3 : Nat} {x4 : Nat} {x5 : Int32} (b_x0 : x0 < 1152921504606846976) (b_x2 : x2 < 1152921504606846976) (b_x3 : x3 < 1152921504606846976) (b_x4 : x4 < 1152921504606846976) : PR r (fX4_characteristic_b36 x0 x1 x2 x3 x4 x5) (fX4_characteristic_b36 (r x0) x1 (r x2) (r x3) (r x4) x5) (fun u v => (∃ a b : Nat × Nat × Int32, u = .inl a ∧ v = .inl b ∧ (b = (r a.1, r a.2.1, a.2.2) ∧ a.1 < 1152921504606846976 ∧ a.2.1 < 1152921504606846976)) ∨ (∃ a b : Unit, u = .inr a ∧ v = .inr b ∧ a = b)) := by
  unfold fX4_characteristic_b36
  refine pr_ite ?_ ?_
  · exact pr_pp (Or.inr ⟨(), (), rfl, rfl, rfl⟩)
  · refine pr_bE (prX4_multiply b_x0 b_x3 b_x4) fun _ => ?_
    refine pr_bE (prX4_diagonalSum b_x4) fun v9 => ?_
    refine pr_ite ?_ ?_
    · exact pr_pf
    · refine pr_bE (pr_tJ (fun k => kdv_18 k)) fun _ => ?_
      refine pr_bE (prX4_addToDiagonal b_x4) fun _ => ?_
      exact pr_pp (Or.inl ⟨_, _, rfl, rfl, rfl, b_x4, b_x3⟩)
theorem pr_charloop {x0 x2 a b : Nat} {x1 k : Int32} (b0 : x0 < 1152921504606846976) (b2 : x2 < 1152921504606846976) (ba : a < 1152921504606846976) (bb : b < 1152921504606846976) : PR r (plo (fX4_characteristic_B36 x0 x1 x2) fu (a, b, k)) (plo (fX4_characteristic_B36 (r x0) x1 (r x2)) fu (r a, r b, k)) Eq := by
  refine pr_plo (Gσ := fun x y => y = (r x.1, r x.2.1, x.2.2) ∧ x.1 < 1152921504606846976 ∧ x.2.1 < 1152921504606846976) (fun x y e => ?_) fu (a, b, k) (r a, r b, k) ⟨rfl, ba, bb⟩
  obtain ⟨rfl, e1, e2⟩ := e
  unfold fX4_characteristic_B36
  rw [frI_eq, frI_eq]
  exact prX4_characteristic_b36 b0 b2 e1 e2
theorem prX4_characteristic {x0 : Nat} (b_x0 : x0 < 1152921504606846976) : PR r (fX4_characteristic x0) (fX4_characteristic (r x0)) (Rn r) := by
  unfold fX4_characteristic
  refine pr_bE (pr_aln) fun v1 => ?_
  refine pr_bN (pr_nA) fun v2 b_v2 => ?_
  refine pr_bE (pr_tJ (fun k => kdv_18 k)) fun _ => ?_
  refine pr_bN (pr_mna (fun k => kdv_24 k)) fun v4 b_v4 => ?_
  refine pr_bN (pr_mna (fun k => kdv_24 k)) fun v5 b_v5 => ?_
  refine pr_bE (prX4_addToDiagonal b_v4) fun _ => ?_
  refine pr_bE (pr_charloop b_x0 b_v2 b_v4 b_v5) fun _ => ?_
  exact pr_pp ⟨rfl, b_v2⟩
theorem prX5_wholeCoefficients {x0 : Nat} (b_x0 : x0 < 1152921504606846976) : PR r (fX5_wholeCoefficients x0) (fX5_wholeCoefficients (r x0)) (Rn r) := by
  unfold fX5_wholeCoefficients
  refine pr_bE (pr_chk) fun _ => ?_
  refine pr_bO (pr_gN (by decide)) fun v1 b_v1 => ?_
  cases v1 with
  | none =>
    refine pr_bN (pr_gA (by decide)) fun v3 b_v3 => ?_
    refine pr_bN (prX4_characteristic b_v3) fun v4 b_v4 => ?_
    refine pr_bE (pr_sR (by decide) b_v4) fun _ => ?_
    refine pr_bN (pr_gA (by decide)) fun v6 b_v6 => ?_
    exact pr_pp ⟨rfl, b_v6⟩
  | some a2 =>
    refine pr_bN (pr_gA (by decide)) fun v7 b_v7 => ?_
    exact pr_pp ⟨rfl, b_v7⟩
theorem prX5_cuspidalCoefficients {x0 : Nat} (b_x0 : x0 < 1152921504606846976) : PR r (fX5_cuspidalCoefficients x0) (fX5_cuspidalCoefficients (r x0)) (Rn r) := by
  unfold fX5_cuspidalCoefficients
  refine pr_bE (pr_chk) fun _ => ?_
  refine pr_bO (pr_gN (by decide)) fun v1 b_v1 => ?_
  cases v1 with
  | none =>
    refine pr_bN (pr_gA (by decide)) fun v3 b_v3 => ?_
    refine pr_bN (prX4_characteristic b_v3) fun v4 b_v4 => ?_
    refine pr_bE (pr_sR (by decide) b_v4) fun _ => ?_
    refine pr_bN (pr_gA (by decide)) fun v6 b_v6 => ?_
    exact pr_pp ⟨rfl, b_v6⟩
  | some a2 =>
    refine pr_bN (pr_gA (by decide)) fun v7 b_v7 => ?_
    exact pr_pp ⟨rfl, b_v7⟩
theorem prX9_polynomial {x0 : Nat} {x1 : Int32} {x2 : Int32} {x3 : Int32} (b_x0 : x0 < 1152921504606846976) : PR r (fX9_polynomial x0 x1 x2 x3) (fX9_polynomial (r x0) x1 x2 x3) Eq := by
  unfold fX9_polynomial
  refine pr_bE (pr_chk) fun _ => ?_
  refine pr_bE (prX9_within) fun v1 => ?_
  refine pr_ite ?_ ?_
  · refine pr_bE (prX9_refuse b_x0) fun v3 => ?_
    exact pr_pp rfl
  · refine pr_bE (prX9_within) fun v5 => ?_
    refine pr_ite ?_ ?_
    · refine pr_bE (prX9_refuse b_x0) fun v7 => ?_
      exact pr_pp rfl
    · refine pr_ite ?_ ?_
      · refine pr_bN (pr_gA (by decide)) fun v10 b_v10 => ?_
        refine pr_bN (pr_gA (by decide)) fun v11 b_v11 => ?_
        refine pr_bO (prX3_operatorFor b_v11) fun v12 b_v12 => ?_
        cases v12 with
        | none =>
          refine pr_bE (prX9_refuse b_x0) fun v15 => ?_
          exact pr_pp rfl
        | some a14 =>
          refine pr_ite ?_ ?_
          · refine pr_bN (prX5_wholeCoefficients (b_v12 a14 rfl)) fun v23 b_v23 => ?_
            refine pr_bE (pr_aln) fun v25 => ?_
            refine pr_ite ?_ ?_
            · exact pr_pp rfl
            · refine pr_bE (pr_lJ (fun k => kdv_18 k)) fun v27 => ?_
              exact pr_pp rfl
          · refine pr_bN (prX5_cuspidalCoefficients (b_v12 a14 rfl)) fun v18 b_v18 => ?_
            refine pr_bE (pr_aln) fun v20 => ?_
            refine pr_ite ?_ ?_
            · exact pr_pp rfl
            · refine pr_bE (pr_lJ (fun k => kdv_18 k)) fun v22 => ?_
              exact pr_pp rfl
      · refine pr_bE (prX9_refuse b_x0) fun v28 => ?_
        exact pr_pp rfl
theorem prJ7_copyOf_c38d5 {x0 : Nat} {x1 : Int32} (b_x0 : x0 < 1152921504606846976) : PR r (fJ7_copyOf_c38d5 x0 x1) (fJ7_copyOf_c38d5 (r x0) x1) (Rn r) := by
  unfold fJ7_copyOf_c38d5
  refine pr_bE (pr_aln) fun v1 => ?_
  refine pr_ite ?_ ?_
  · refine pr_bN (pr_cln) fun v2 b_v2 => ?_
    exact pr_pp ⟨rfl, b_v2⟩
  · exact pr_pf
theorem prX4_multiplicity_b29 {x1 : Int32} {x2 : Int32} {x3 : Nat} {x4 : Int32} {x5 : Int32} {x6 : Int32} (b_x3 : x3 < 1152921504606846976) : PR r (fX4_multiplicity_b29 x1 x2 x3 x4 x5 x6) (fX4_multiplicity_b29 x1 x2 (r x3) x4 x5 x6) Eq := by
  unfold fX4_multiplicity_b29
  refine pr_ite ?_ ?_
  · exact pr_pp rfl
  · refine pr_bE (pr_lJ (fun k => kdv_18 k)) fun v6 => ?_
    refine pr_bE (pr_lJ (fun k => kdv_18 k)) fun v7 => ?_
    refine pr_bE (pr_tJ (fun k => kdv_18 k)) fun _ => ?_
    exact pr_pp rfl
theorem prX4_multiplicity_B29 {x1 : Int32} {x2 : Int32} {x3 : Nat} {x4 : Int32} {x5 : Int32} (b_x3 : x3 < 1152921504606846976) : ∀ x, PR r (fX4_multiplicity_B29 x1 x2 x3 x4 x5 x) (fX4_multiplicity_B29 x1 x2 (r x3) x4 x5 x) Eq := by
  intro x
  unfold fX4_multiplicity_B29
  try simp only [frI_eq, frJ_eq]
  exact prX4_multiplicity_b29 b_x3
theorem prX4_multiplicity_b18 {x1 : Int32} {x2 : Int32} {x3 : Nat} {x4 : Int32} {x5 : Int32} (b_x3 : x3 < 1152921504606846976) : PR r (fX4_multiplicity_b18 x1 x2 x3 x4 x5) (fX4_multiplicity_b18 x1 x2 (r x3) x4 x5) Eq := by
  unfold fX4_multiplicity_b18
  refine pr_ite ?_ ?_
  · exact pr_pp rfl
  · refine pr_bE (pr_ploE (fun x => prX4_multiplicity_B29 b_x3 x) _ _) fun z9 => ?_
    refine pr_bE (pr_lJ (fun k => kdv_18 k)) fun v10 => ?_
    refine pr_ite ?_ ?_
    · exact pr_pp rfl
    · exact pr_pp rfl
theorem prX4_multiplicity_B18 {x1 : Int32} {x2 : Int32} {x3 : Nat} (b_x3 : x3 < 1152921504606846976) : ∀ x, PR r (fX4_multiplicity_B18 x1 x2 x3 x) (fX4_multiplicity_B18 x1 x2 (r x3) x) Eq := by
  intro x
  unfold fX4_multiplicity_B18
  try simp only [frI_eq, frJ_eq]
  exact prX4_multiplicity_b18 b_x3
theorem prX4_multiplicity {x0 : Nat} {x1 : Int32} (b_x0 : x0 < 1152921504606846976) : PR r (fX4_multiplicity x0 x1) (fX4_multiplicity (r x0) x1) Eq := by
  unfold fX4_multiplicity
  refine pr_bE (pr_aln) fun v1 => ?_
  refine pr_bE (pr_aln) fun v2 => ?_
  refine pr_bN (prJ7_copyOf_c38d5 b_x0) fun v3 b_v3 => ?_
  refine pr_bE (pr_ploE (fun x => prX4_multiplicity_B18 b_v3 x) _ _) fun z12 => ?_
  exact pr_pp rfl
theorem prX9_root {x0 : Nat} {x1 : Int32} {x2 : Int32} (b_x0 : x0 < 1152921504606846976) : PR r (fX9_root x0 x1 x2) (fX9_root (r x0) x1 x2) Eq := by
  unfold fX9_root
  refine pr_bE (pr_chk) fun _ => ?_
  refine pr_bE (prX9_within) fun v1 => ?_
  refine pr_ite ?_ ?_
  · refine pr_bE (prX9_refuse b_x0) fun v3 => ?_
    exact pr_pp rfl
  · refine pr_bE (prX9_within) fun v5 => ?_
    refine pr_ite ?_ ?_
    · refine pr_bE (prX9_refuse b_x0) fun v17 => ?_
      exact pr_pp rfl
    · refine pr_bN (pr_gA (by decide)) fun v7 b_v7 => ?_
      refine pr_bN (pr_gA (by decide)) fun v8 b_v8 => ?_
      refine pr_bO (prX3_operatorFor b_v8) fun v9 b_v9 => ?_
      cases v9 with
      | none =>
        refine pr_bE (prX9_refuse b_x0) fun v12 => ?_
        exact pr_pp rfl
      | some a11 =>
        refine pr_bN (prX5_cuspidalCoefficients (b_v9 a11 rfl)) fun v14 b_v14 => ?_
        refine pr_bE (prX4_multiplicity b_v14) fun v16 => ?_
        exact pr_pp rfl
theorem prX1_divisors_b4 {x0 : Int32} {x1 : Int32} {x2 : Int32}  : PR r (fX1_divisors_b4 x0 x1 x2) (fX1_divisors_b4 x0 x1 x2) Eq := by
  unfold fX1_divisors_b4
  refine pr_ite ?_ ?_
  · exact pr_pp rfl
  · refine pr_ite ?_ ?_
    · exact pr_pf
    · refine pr_ite ?_ ?_
      · exact pr_pp rfl
      · exact pr_pp rfl
theorem prX1_divisors_B4 {x0 : Int32}  : ∀ x, PR r (fX1_divisors_B4 x0 x) (fX1_divisors_B4 x0 x) Eq := by
  intro x
  unfold fX1_divisors_B4
  try simp only [frI_eq, frJ_eq]
  exact prX1_divisors_b4 
theorem prX1_divisors {x0 : Int32}  : PR r (fX1_divisors x0) (fX1_divisors x0) Eq := by
  unfold fX1_divisors
  refine pr_bE (pr_ploE (fun x => prX1_divisors_B4  x) _ _) fun z4 => ?_
  exact pr_pp rfl
theorem prX1_primeDivides {x0 : Int32} {x1 : Int32}  : PR r (fX1_primeDivides x0 x1) (fX1_primeDivides x0 x1) Eq := by
  unfold fX1_primeDivides
  refine pr_ite ?_ ?_
  · exact pr_pf
  · refine pr_ite ?_ ?_
    · refine pr_bE (prX1_divisors) fun v3 => ?_
      refine pr_ite ?_ ?_
      · exact pr_pp rfl
      · exact pr_pp rfl
    · exact pr_pp rfl
theorem prX1_index_b4 {x0 : Int32} {x1 : Int32} {x2 : Int32}  : PR r (fX1_index_b4 x0 x1 x2) (fX1_index_b4 x0 x1 x2) Eq := by
  unfold fX1_index_b4
  refine pr_ite ?_ ?_
  · exact pr_pp rfl
  · refine pr_bE (prX1_primeDivides) fun v2 => ?_
    refine pr_ite ?_ ?_
    · exact pr_pp rfl
    · refine pr_ite ?_ ?_
      · exact pr_pf
      · exact pr_pp rfl
theorem prX1_index_B4 {x0 : Int32}  : ∀ x, PR r (fX1_index_B4 x0 x) (fX1_index_B4 x0 x) Eq := by
  intro x
  unfold fX1_index_B4
  try simp only [frI_eq, frJ_eq]
  exact prX1_index_b4 
theorem prX1_index {x0 : Int32}  : PR r (fX1_index x0) (fX1_index x0) Eq := by
  unfold fX1_index
  refine pr_bE (pr_ploE (fun x => prX1_index_B4  x) _ _) fun z5 => ?_
  exact pr_pp rfl
theorem prX1_orderTwo_b14 {x0 : Int32} {x1 : Int32} {x2 : Int32}  : PR r (fX1_orderTwo_b14 x0 x1 x2) (fX1_orderTwo_b14 x0 x1 x2) Eq := by
  unfold fX1_orderTwo_b14
  refine pr_ite ?_ ?_
  · exact pr_pp rfl
  · refine pr_bE (prX1_primeDivides) fun v3 => ?_
    refine pr_ite ?_ ?_
    · exact pr_pp rfl
    · refine pr_ite ?_ ?_
      · exact pr_pp rfl
      · exact pr_pp rfl
theorem prX1_orderTwo_B14 {x0 : Int32}  : ∀ x, PR r (fX1_orderTwo_B14 x0 x) (fX1_orderTwo_B14 x0 x) Eq := by
  intro x
  unfold fX1_orderTwo_B14
  try simp only [frI_eq, frJ_eq]
  exact prX1_orderTwo_b14 
theorem prX1_orderTwo {x0 : Int32}  : PR r (fX1_orderTwo x0) (fX1_orderTwo x0) Eq := by
  unfold fX1_orderTwo
  refine pr_ite ?_ ?_
  · refine pr_bE (pr_ploE (fun x => prX1_orderTwo_B14  x) _ _) fun z7 => ?_
    exact pr_pp rfl
  · refine pr_bE (pr_ploE (fun x => prX1_orderTwo_B14  x) _ _) fun z6 => ?_
    exact pr_pp rfl
theorem prX1_orderThree_b15 {x0 : Int32} {x1 : Int32} {x2 : Int32}  : PR r (fX1_orderThree_b15 x0 x1 x2) (fX1_orderThree_b15 x0 x1 x2) Eq := by
  unfold fX1_orderThree_b15
  refine pr_ite ?_ ?_
  · exact pr_pp rfl
  · refine pr_ite ?_ ?_
    · exact pr_pp rfl
    · refine pr_bE (prX1_primeDivides) fun v4 => ?_
      refine pr_ite ?_ ?_
      · exact pr_pp rfl
      · refine pr_ite ?_ ?_
        · exact pr_pp rfl
        · exact pr_pp rfl
theorem prX1_orderThree_B15 {x0 : Int32}  : ∀ x, PR r (fX1_orderThree_B15 x0 x) (fX1_orderThree_B15 x0 x) Eq := by
  intro x
  unfold fX1_orderThree_B15
  try simp only [frI_eq, frJ_eq]
  exact prX1_orderThree_b15 
theorem prX1_orderThree {x0 : Int32}  : PR r (fX1_orderThree x0) (fX1_orderThree x0) Eq := by
  unfold fX1_orderThree
  refine pr_ite ?_ ?_
  · refine pr_bE (pr_ploE (fun x => prX1_orderThree_B15  x) _ _) fun z8 => ?_
    exact pr_pp rfl
  · refine pr_bE (pr_ploE (fun x => prX1_orderThree_B15  x) _ _) fun z7 => ?_
    exact pr_pp rfl
theorem prX1_coprimes_b4 {x0 : Int32} {x1 : Int32} {x2 : Int32}  : PR r (fX1_coprimes_b4 x0 x1 x2) (fX1_coprimes_b4 x0 x1 x2) Eq := by
  unfold fX1_coprimes_b4
  refine pr_ite ?_ ?_
  · exact pr_pp rfl
  · refine pr_bE (prX9_gcd) fun v2 => ?_
    refine pr_ite ?_ ?_
    · exact pr_pp rfl
    · exact pr_pp rfl
theorem prX1_coprimes_B4 {x0 : Int32}  : ∀ x, PR r (fX1_coprimes_B4 x0 x) (fX1_coprimes_B4 x0 x) Eq := by
  intro x
  unfold fX1_coprimes_B4
  try simp only [frI_eq, frJ_eq]
  exact prX1_coprimes_b4 
theorem prX1_coprimes {x0 : Int32}  : PR r (fX1_coprimes x0) (fX1_coprimes x0) Eq := by
  unfold fX1_coprimes
  refine pr_bE (pr_ploE (fun x => prX1_coprimes_B4  x) _ _) fun z4 => ?_
  exact pr_pp rfl
theorem prX1_ends_b4 {x0 : Int32} {x1 : Int32} {x2 : Int32}  : PR r (fX1_ends_b4 x0 x1 x2) (fX1_ends_b4 x0 x1 x2) Eq := by
  unfold fX1_ends_b4
  refine pr_ite ?_ ?_
  · exact pr_pp rfl
  · refine pr_ite ?_ ?_
    · exact pr_pf
    · refine pr_ite ?_ ?_
      · refine pr_ite ?_ ?_
        · exact pr_pf
        · refine pr_bE (prX9_gcd) fun v5 => ?_
          refine pr_bE (prX1_coprimes) fun v6 => ?_
          exact pr_pp rfl
      · exact pr_pp rfl
theorem prX1_ends_B4 {x0 : Int32}  : ∀ x, PR r (fX1_ends_B4 x0 x) (fX1_ends_B4 x0 x) Eq := by
  intro x
  unfold fX1_ends_B4
  try simp only [frI_eq, frJ_eq]
  exact prX1_ends_b4 
theorem prX1_ends {x0 : Int32}  : PR r (fX1_ends x0) (fX1_ends x0) Eq := by
  unfold fX1_ends
  refine pr_bE (pr_ploE (fun x => prX1_ends_B4  x) _ _) fun z7 => ?_
  exact pr_pp rfl
theorem prX1_forms {x0 : Int32}  : PR r (fX1_forms x0) (fX1_forms x0) Eq := by
  unfold fX1_forms
  refine pr_bE (prX1_index) fun v1 => ?_
  refine pr_bE (prX1_orderTwo) fun v2 => ?_
  refine pr_bE (prX1_orderThree) fun v3 => ?_
  refine pr_bE (prX1_ends) fun v4 => ?_
  exact pr_pp rfl
theorem prX1_oldForms_b4 {x0 : Nat} {x1 : Int32} {x2 : Int32} {x3 : Int32} (b_x0 : x0 < 1152921504606846976) : PR r (fX1_oldForms_b4 x0 x1 x2 x3) (fX1_oldForms_b4 (r x0) x1 x2 x3) Eq := by
  unfold fX1_oldForms_b4
  refine pr_ite ?_ ?_
  · exact pr_pp rfl
  · refine pr_ite ?_ ?_
    · exact pr_pf
    · refine pr_ite ?_ ?_
      · refine pr_bN (pr_gA (by decide)) fun v4 b_v4 => ?_
        refine pr_bE (pr_lI (fun k => kdv_17 k)) fun v5 => ?_
        refine pr_ite ?_ ?_
        · exact pr_pf
        · refine pr_bE (prX1_divisors) fun v7 => ?_
          exact pr_pp rfl
      · exact pr_pp rfl
theorem prX1_oldForms_B4 {x0 : Nat} {x1 : Int32} (b_x0 : x0 < 1152921504606846976) : ∀ x, PR r (fX1_oldForms_B4 x0 x1 x) (fX1_oldForms_B4 (r x0) x1 x) Eq := by
  intro x
  unfold fX1_oldForms_B4
  try simp only [frI_eq, frJ_eq]
  exact prX1_oldForms_b4 b_x0
theorem prX1_oldForms {x0 : Nat} {x1 : Int32} (b_x0 : x0 < 1152921504606846976) : PR r (fX1_oldForms x0 x1) (fX1_oldForms (r x0) x1) Eq := by
  unfold fX1_oldForms
  refine pr_bE (pr_chk) fun _ => ?_
  refine pr_bE (pr_ploE (fun x => prX1_oldForms_B4 b_x0 x) _ _) fun z8 => ?_
  exact pr_pp rfl
theorem prX1_newForms_b2 {x0 : Nat} {x1 : Int32} {x2 : Int32} (b_x0 : x0 < 1152921504606846976) : PR r (fX1_newForms_b2 x0 x1 x2) (fX1_newForms_b2 (r x0) x1 x2) Eq := by
  unfold fX1_newForms_b2
  refine pr_ite ?_ ?_
  · exact pr_pp rfl
  · refine pr_ite ?_ ?_
    · exact pr_pf
    · refine pr_ite ?_ ?_
      · refine pr_bN (pr_gA (by decide)) fun v4 b_v4 => ?_
        refine pr_bE (pr_lI (fun k => kdv_17 k)) fun v5 => ?_
        refine pr_ite ?_ ?_
        · refine pr_bN (pr_gA (by decide)) fun v7 b_v7 => ?_
          refine pr_bE (prX1_forms) fun v8 => ?_
          refine pr_bE (prX1_oldForms b_x0) fun v9 => ?_
          refine pr_bE (pr_tI (fun k => kdv_17 k)) fun _ => ?_
          exact pr_pp rfl
        · exact pr_pp rfl
      · exact pr_pp rfl
theorem prX1_newForms_B2 {x0 : Nat} {x1 : Int32} (b_x0 : x0 < 1152921504606846976) : ∀ x, PR r (fX1_newForms_B2 x0 x1 x) (fX1_newForms_B2 (r x0) x1 x) Eq := by
  intro x
  unfold fX1_newForms_B2
  try simp only [frI_eq, frJ_eq]
  exact prX1_newForms_b2 b_x0
theorem prX1_newForms {x0 : Nat} {x1 : Int32} (b_x0 : x0 < 1152921504606846976) : PR r (fX1_newForms x0 x1) (fX1_newForms (r x0) x1) Eq := by
  unfold fX1_newForms
  refine pr_bE (pr_chk) fun _ => ?_
  refine pr_bE (pr_ploE (fun x => prX1_newForms_B2 b_x0 x) _ _) fun z12 => ?_
  refine pr_bN (pr_gA (by decide)) fun v13 b_v13 => ?_
  refine pr_bE (pr_lI (fun k => kdv_17 k)) fun v14 => ?_
  exact pr_pp rfl
theorem prX9_formula {x0 : Nat} {x1 : Int32} {x2 : Int32} (b_x0 : x0 < 1152921504606846976) : PR r (fX9_formula x0 x1 x2) (fX9_formula (r x0) x1 x2) Eq := by
  unfold fX9_formula
  refine pr_bE (pr_chk) fun _ => ?_
  refine pr_bE (prX9_within) fun v1 => ?_
  refine pr_ite ?_ ?_
  · refine pr_bE (prX9_refuse b_x0) fun v19 => ?_
    exact pr_pp rfl
  · refine pr_ite ?_ ?_
    · refine pr_bE (prX1_index) fun v4 => ?_
      exact pr_pp rfl
    · refine pr_ite ?_ ?_
      · refine pr_bE (prX1_orderTwo) fun v6 => ?_
        exact pr_pp rfl
      · refine pr_ite ?_ ?_
        · refine pr_bE (prX1_orderThree) fun v8 => ?_
          exact pr_pp rfl
        · refine pr_ite ?_ ?_
          · refine pr_bE (prX1_ends) fun v10 => ?_
            exact pr_pp rfl
          · refine pr_ite ?_ ?_
            · refine pr_bE (prX1_forms) fun v12 => ?_
              exact pr_pp rfl
            · refine pr_ite ?_ ?_
              · refine pr_bN (pr_gA (by decide)) fun v14 b_v14 => ?_
                refine pr_bE (prX1_newForms b_v14) fun v15 => ?_
                exact pr_pp rfl
              · refine pr_bE (prX9_refuse b_x0) fun v17 => ?_
                exact pr_pp rfl
theorem prX8_addSymbol_b14 {x0 : Nat} {x1 : Int32} {x2 : Int32} {x3 : Int32} (b_x0 : x0 < 1152921504606846976) : PR r (fX8_addSymbol_b14 x0 x1 x2 x3) (fX8_addSymbol_b14 (r x0) x1 x2 x3) Eq := by
  unfold fX8_addSymbol_b14
  refine pr_bN (pr_gA (by decide)) fun v5 b_v5 => ?_
  refine pr_bE (pr_gI (by decide)) fun v6 => ?_
  refine pr_ite ?_ ?_
  · exact pr_pp rfl
  · refine pr_bN (pr_gA (by decide)) fun v8 b_v8 => ?_
    refine pr_bE (pr_lJ (fun k => kdv_18 k)) fun v9 => ?_
    refine pr_bN (pr_gA (by decide)) fun v10 b_v10 => ?_
    refine pr_bN (pr_gA (by decide)) fun v11 b_v11 => ?_
    refine pr_bN (pr_lA (fun k => kdv_23 k)) fun v12 b_v12 => ?_
    refine pr_bE (pr_lI (fun k => kdv_17 k)) fun v13 => ?_
    refine pr_bE (pr_tJ (fun k => kdv_18 k)) fun _ => ?_
    exact pr_pp rfl
theorem prX8_addSymbol_B14 {x0 : Nat} {x1 : Int32} {x2 : Int32} (b_x0 : x0 < 1152921504606846976) : ∀ x, PR r (fX8_addSymbol_B14 x0 x1 x2 x) (fX8_addSymbol_B14 (r x0) x1 x2 x) Eq := by
  intro x
  unfold fX8_addSymbol_B14
  try simp only [frI_eq, frJ_eq]
  exact prX8_addSymbol_b14 b_x0
theorem prX8_addSymbol {x0 : Nat} {x1 : Int32} {x2 : Int32} (b_x0 : x0 < 1152921504606846976) : PR r (fX8_addSymbol x0 x1 x2) (fX8_addSymbol (r x0) x1 x2) Eq := by
  unfold fX8_addSymbol
  refine pr_bE (pr_chk) fun _ => ?_
  refine pr_bN (pr_gA (by decide)) fun v1 b_v1 => ?_
  refine pr_bE (prX3_hasSymbol b_v1) fun v2 => ?_
  refine pr_ite ?_ ?_
  · exact pr_pp rfl
  · refine pr_bE (pr_ploE (fun x => prX8_addSymbol_B14 b_x0 x) _ _) fun z15 => ?_
    exact pr_pp rfl
theorem prX8_verdict_b4 {x0 : Nat} {x1 : Int32} {x2 : Int32} (b_x0 : x0 < 1152921504606846976) : PR r (fX8_verdict_b4 x0 x1 x2) (fX8_verdict_b4 (r x0) x1 x2) Eq := by
  unfold fX8_verdict_b4
  refine pr_bN (pr_gA (by decide)) fun v1 b_v1 => ?_
  refine pr_bE (pr_gI (by decide)) fun v2 => ?_
  refine pr_ite ?_ ?_
  · exact pr_pp rfl
  · refine pr_bN (pr_gA (by decide)) fun v4 b_v4 => ?_
    refine pr_bE (pr_lJ (fun k => kdv_18 k)) fun v5 => ?_
    refine pr_ite ?_ ?_
    · exact pr_pp rfl
    · refine pr_bN (pr_gA (by decide)) fun v7 b_v7 => ?_
      refine pr_bE (pr_lJ (fun k => kdv_18 k)) fun v8 => ?_
      refine pr_ite ?_ ?_
      · refine pr_bN (pr_gA (by decide)) fun v10 b_v10 => ?_
        refine pr_bE (pr_lJ (fun k => kdv_18 k)) fun v11 => ?_
        refine pr_ite ?_ ?_
        · exact pr_pp rfl
        · exact pr_pp rfl
      · exact pr_pp rfl
theorem prX8_verdict_B4 {x0 : Nat} (b_x0 : x0 < 1152921504606846976) : ∀ x, PR r (fX8_verdict_B4 x0 x) (fX8_verdict_B4 (r x0) x) Eq := by
  intro x
  unfold fX8_verdict_B4
  try simp only [frI_eq, frJ_eq]
  exact prX8_verdict_b4 b_x0
theorem prX8_verdict {x0 : Nat} (b_x0 : x0 < 1152921504606846976) : PR r (fX8_verdict x0) (fX8_verdict (r x0)) Eq := by
  unfold fX8_verdict
  refine pr_bE (pr_chk) fun _ => ?_
  refine pr_bE (pr_ploE (fun x => prX8_verdict_B4 b_x0 x) _ _) fun z13 => ?_
  cases z13 with
  | inl v13 =>
    exact pr_pp rfl
  | inr z14 =>
    exact pr_pp rfl
theorem prX8_addMultiple {x0 : Nat} {x1 : Int32} {x2 : Int32} (b_x0 : x0 < 1152921504606846976) : PR r (fX8_addMultiple x0 x1 x2) (fX8_addMultiple (r x0) x1 x2) Eq := by
  unfold fX8_addMultiple
  refine pr_bE (pr_chk) fun _ => ?_
  refine pr_bN (pr_gA (by decide)) fun v1 b_v1 => ?_
  refine pr_bE (prX3_hasSymbol b_v1) fun v2 => ?_
  refine pr_ite ?_ ?_
  · exact pr_pp rfl
  · refine pr_bE (prX9_within) fun v5 => ?_
    refine pr_ite ?_ ?_
    · exact pr_pp rfl
    · refine pr_bE (prX8_addSymbol b_x0) fun _ => ?_
      refine pr_bE (prX8_verdict b_x0) fun v9 => ?_
      exact pr_pp rfl
theorem prX9_adds {x0 : Nat} {x1 : Int32} {x2 : Int32} (b_x0 : x0 < 1152921504606846976) : PR r (fX9_adds x0 x1 x2) (fX9_adds (r x0) x1 x2) Eq := by
  unfold fX9_adds
  refine pr_bE (pr_chk) fun _ => ?_
  refine pr_bN (pr_gA (by decide)) fun v1 b_v1 => ?_
  refine pr_bN (pr_gA (by decide)) fun v2 b_v2 => ?_
  refine pr_bE (prX8_copyFrom b_v1 b_v2) fun _ => ?_
  refine pr_bN (pr_gA (by decide)) fun v5 b_v5 => ?_
  refine pr_bE (prX8_addMultiple b_v5) fun v6 => ?_
  refine pr_bE (prX9_settle b_x0) fun v8 => ?_
  exact pr_pp rfl
theorem prX5_applyTo_b16 {x0 : Nat} {x1 : Nat} {x2 : Int32} {x3 : Int64} {x5 : Int32} (b_x0 : x0 < 1152921504606846976) (b_x1 : x1 < 1152921504606846976) : PR r (fX5_applyTo_b16 x0 x1 x2 x3 x5) (fX5_applyTo_b16 (r x0) (r x1) x2 x3 x5) Eq := by
  unfold fX5_applyTo_b16
  refine pr_bN (pr_gA (by decide)) fun v4 b_v4 => ?_
  refine pr_bE (pr_aln) fun v5 => ?_
  refine pr_ite ?_ ?_
  · exact pr_pp rfl
  · refine pr_bN (pr_gA (by decide)) fun v7 b_v7 => ?_
    refine pr_bN (pr_lA (fun k => kdv_24 k)) fun v8 b_v8 => ?_
    refine pr_bE (pr_lJ (fun k => kdv_18 k)) fun v9 => ?_
    refine pr_bE (pr_lJ (fun k => kdv_18 k)) fun v10 => ?_
    exact pr_pp rfl
theorem prX5_applyTo_B16 {x0 : Nat} {x1 : Nat} {x2 : Int32} (b_x0 : x0 < 1152921504606846976) (b_x1 : x1 < 1152921504606846976) : ∀ x, PR r (fX5_applyTo_B16 x0 x1 x2 x) (fX5_applyTo_B16 (r x0) (r x1) x2 x) Eq := by
  intro x
  unfold fX5_applyTo_B16
  try simp only [frI_eq, frJ_eq]
  exact prX5_applyTo_b16 b_x0 b_x1
theorem prX5_applyTo_b2 {x0 : Nat} {x1 : Nat} {x2 : Int32} (b_x0 : x0 < 1152921504606846976) (b_x1 : x1 < 1152921504606846976) : PR r (fX5_applyTo_b2 x0 x1 x2) (fX5_applyTo_b2 (r x0) (r x1) x2) Eq := by
  unfold fX5_applyTo_b2
  refine pr_bN (pr_gA (by decide)) fun v1 b_v1 => ?_
  refine pr_bE (pr_aln) fun v2 => ?_
  refine pr_ite ?_ ?_
  · exact pr_pp rfl
  · refine pr_bE (pr_ploE (fun x => prX5_applyTo_B16 b_x0 b_x1 x) _ _) fun z11 => ?_
    refine pr_bN (pr_gA (by decide)) fun v12 b_v12 => ?_
    refine pr_bE (pr_tJ (fun k => kdv_18 k)) fun _ => ?_
    exact pr_pp rfl
theorem prX5_applyTo_B2 {x0 : Nat} {x1 : Nat} (b_x0 : x0 < 1152921504606846976) (b_x1 : x1 < 1152921504606846976) : ∀ x, PR r (fX5_applyTo_B2 x0 x1 x) (fX5_applyTo_B2 (r x0) (r x1) x) Eq := by
  intro x
  unfold fX5_applyTo_B2
  try simp only [frI_eq, frJ_eq]
  exact prX5_applyTo_b2 b_x0 b_x1
theorem prX5_applyTo {x0 : Nat} {x1 : Nat} (b_x0 : x0 < 1152921504606846976) (b_x1 : x1 < 1152921504606846976) : PR r (fX5_applyTo x0 x1) (fX5_applyTo (r x0) (r x1)) Eq := by
  unfold fX5_applyTo
  refine pr_bE (pr_chk) fun _ => ?_
  refine pr_bE (pr_ploE (fun x => prX5_applyTo_B2 b_x0 b_x1 x) _ _) fun z14 => ?_
  refine pr_bN (pr_gA (by decide)) fun v15 b_v15 => ?_
  refine pr_bN (pr_gA (by decide)) fun v16 b_v16 => ?_
  refine pr_bE (pr_aln) fun v17 => ?_
  refine pr_bE (pr_acp) fun _ => ?_
  exact pr_pp rfl
theorem prX8_applyOperator {x0 : Nat} {x1 : Int32} (b_x0 : x0 < 1152921504606846976) : PR r (fX8_applyOperator x0 x1) (fX8_applyOperator (r x0) x1) Eq := by
  unfold fX8_applyOperator
  refine pr_bE (pr_chk) fun _ => ?_
  refine pr_bE (prX9_within) fun v1 => ?_
  refine pr_ite ?_ ?_
  · exact pr_pp rfl
  · refine pr_bN (pr_gA (by decide)) fun v3 b_v3 => ?_
    refine pr_bO (prX3_operatorFor b_v3) fun v4 b_v4 => ?_
    cases v4 with
    | none =>
      exact pr_pp rfl
    | some a6 =>
      refine pr_bN (pr_gA (by decide)) fun v7 b_v7 => ?_
      refine pr_bE (prX5_applyTo (b_v4 a6 rfl) b_v7) fun _ => ?_
      refine pr_bE (prX8_verdict b_x0) fun v10 => ?_
      exact pr_pp rfl
theorem prX9_applies {x0 : Nat} {x1 : Int32} (b_x0 : x0 < 1152921504606846976) : PR r (fX9_applies x0 x1) (fX9_applies (r x0) x1) Eq := by
  unfold fX9_applies
  refine pr_bE (pr_chk) fun _ => ?_
  refine pr_bN (pr_gA (by decide)) fun v1 b_v1 => ?_
  refine pr_bN (pr_gA (by decide)) fun v2 b_v2 => ?_
  refine pr_bE (prX8_copyFrom b_v1 b_v2) fun _ => ?_
  refine pr_bN (pr_gA (by decide)) fun v5 b_v5 => ?_
  refine pr_bE (prX8_applyOperator b_v5) fun v6 => ?_
  refine pr_bE (prX9_settle b_x0) fun v8 => ?_
  exact pr_pp rfl
theorem prX8_addPath_b52 {x0 : Nat} {x3 : Int32} {x4 : Int32} {x5 : Int32} {x6 : Int32} {x7 : Int32} (b_x0 : x0 < 1152921504606846976) : PR r (fX8_addPath_b52 x0 x3 x4 x5 x6 x7) (fX8_addPath_b52 (r x0) x3 x4 x5 x6 x7) Eq := by
  unfold fX8_addPath_b52
  refine pr_ite ?_ ?_
  · exact pr_pp rfl
  · refine pr_ite ?_ ?_
    · exact pr_pp rfl
    · refine pr_ite ?_ ?_
      · exact pr_pf
      · refine pr_ite ?_ ?_
        · exact pr_pf
        · refine pr_bN (pr_gA (by decide)) fun v14 b_v14 => ?_
          refine pr_ite ?_ ?_
          · refine pr_bE (prX3_find b_v14) fun v20 => ?_
            refine pr_bE (prX8_addSymbol b_x0) fun _ => ?_
            exact pr_pp rfl
          · refine pr_bE (prX3_find b_v14) fun v16 => ?_
            refine pr_bE (prX8_addSymbol b_x0) fun _ => ?_
            exact pr_pp rfl
theorem prX8_addPath_B52 {x0 : Nat} (b_x0 : x0 < 1152921504606846976) : ∀ x, PR r (fX8_addPath_B52 x0 x) (fX8_addPath_B52 (r x0) x) Eq := by
  intro x
  unfold fX8_addPath_B52
  try simp only [frI_eq, frJ_eq]
  exact prX8_addPath_b52 b_x0
theorem prX8_addPath {x0 : Nat} {x1 : Int32} {x2 : Int32} (b_x0 : x0 < 1152921504606846976) : PR r (fX8_addPath x0 x1 x2) (fX8_addPath (r x0) x1 x2) Eq := by
  unfold fX8_addPath
  refine pr_bE (pr_chk) fun _ => ?_
  refine pr_bE (prX9_within) fun v1 => ?_
  refine pr_ite ?_ ?_
  · exact pr_pp rfl
  · refine pr_bE (prX9_within) fun v3 => ?_
    refine pr_ite ?_ ?_
    · exact pr_pp rfl
    · refine pr_bN (pr_gA (by decide)) fun v5 b_v5 => ?_
      refine pr_bE (prX3_find b_v5) fun v6 => ?_
      refine pr_bE (prX8_addSymbol b_x0) fun _ => ?_
      refine pr_bE (pr_ploE (fun x => prX8_addPath_B52 b_x0 x) _ _) fun z24 => ?_
      refine pr_bE (prX8_verdict b_x0) fun v25 => ?_
      exact pr_pp rfl
theorem prX9_walks {x0 : Nat} {x1 : Int32} {x2 : Int32} (b_x0 : x0 < 1152921504606846976) : PR r (fX9_walks x0 x1 x2) (fX9_walks (r x0) x1 x2) Eq := by
  unfold fX9_walks
  refine pr_bE (pr_chk) fun _ => ?_
  refine pr_bN (pr_gA (by decide)) fun v1 b_v1 => ?_
  refine pr_bN (pr_gA (by decide)) fun v2 b_v2 => ?_
  refine pr_bE (prX8_copyFrom b_v1 b_v2) fun _ => ?_
  refine pr_bN (pr_gA (by decide)) fun v5 b_v5 => ?_
  refine pr_bE (prX8_addPath b_v5) fun v6 => ?_
  refine pr_bE (prX9_settle b_x0) fun v8 => ?_
  exact pr_pp rfl
theorem prX9_sum {x0 : Nat} {x1 : Int32} {x2 : Int32} (b_x0 : x0 < 1152921504606846976) : PR r (fX9_sum x0 x1 x2) (fX9_sum (r x0) x1 x2) Eq := by
  unfold fX9_sum
  refine pr_bE (pr_chk) fun _ => ?_
  refine pr_bN (pr_gA (by decide)) fun v1 b_v1 => ?_
  refine pr_bN (pr_gA (by decide)) fun v2 b_v2 => ?_
  refine pr_bE (prX3_hasCoordinate b_v2) fun v3 => ?_
  refine pr_ite ?_ ?_
  · refine pr_bE (prX9_refuse b_x0) fun v6 => ?_
    exact pr_pp rfl
  · refine pr_bE (prX9_within) fun v8 => ?_
    refine pr_ite ?_ ?_
    · refine pr_bE (prX9_refuse b_x0) fun v14 => ?_
      exact pr_pp rfl
    · refine pr_ite ?_ ?_
      · refine pr_bN (pr_gA (by decide)) fun v11 b_v11 => ?_
        refine pr_bN (pr_gA (by decide)) fun v12 b_v12 => ?_
        refine pr_bE (pr_lJ (fun k => kdv_18 k)) fun v13 => ?_
        exact pr_pp rfl
      · exact pr_pp rfl
theorem prX8_boundaryAt_b5 {x0 : Nat} {x1 : Int32} {x2 : Int64} {x4 : Int32} (b_x0 : x0 < 1152921504606846976) : PR r (fX8_boundaryAt_b5 x0 x1 x2 x4) (fX8_boundaryAt_b5 (r x0) x1 x2 x4) Eq := by
  unfold fX8_boundaryAt_b5
  refine pr_bN (pr_gA (by decide)) fun v1 b_v1 => ?_
  refine pr_bE (pr_gI (by decide)) fun v2 => ?_
  refine pr_ite ?_ ?_
  · exact pr_pp rfl
  · refine pr_bN (pr_gA (by decide)) fun v4 b_v4 => ?_
    refine pr_bE (pr_lJ (fun k => kdv_18 k)) fun v5 => ?_
    refine pr_bN (pr_gA (by decide)) fun v6 b_v6 => ?_
    refine pr_bE (prX3_edge b_v6) fun v7 => ?_
    exact pr_pp rfl
theorem prX8_boundaryAt_B5 {x0 : Nat} {x1 : Int32} (b_x0 : x0 < 1152921504606846976) : ∀ x, PR r (fX8_boundaryAt_B5 x0 x1 x) (fX8_boundaryAt_B5 (r x0) x1 x) Eq := by
  intro x
  unfold fX8_boundaryAt_B5
  try simp only [frI_eq, frJ_eq]
  exact prX8_boundaryAt_b5 b_x0
theorem prX8_boundaryAt {x0 : Nat} {x1 : Int32} (b_x0 : x0 < 1152921504606846976) : PR r (fX8_boundaryAt x0 x1) (fX8_boundaryAt (r x0) x1) Eq := by
  unfold fX8_boundaryAt
  refine pr_bE (pr_chk) fun _ => ?_
  refine pr_bE (pr_ploE (fun x => prX8_boundaryAt_B5 b_x0 x) _ _) fun z9 => ?_
  exact pr_pp rfl
theorem prX9_boundary {x0 : Nat} {x1 : Int32} {x2 : Int32} (b_x0 : x0 < 1152921504606846976) : PR r (fX9_boundary x0 x1 x2) (fX9_boundary (r x0) x1 x2) Eq := by
  unfold fX9_boundary
  refine pr_bE (pr_chk) fun _ => ?_
  refine pr_bN (pr_gA (by decide)) fun v1 b_v1 => ?_
  refine pr_bN (pr_gA (by decide)) fun v2 b_v2 => ?_
  refine pr_bE (pr_gI (by decide)) fun v3 => ?_
  refine pr_bE (prX9_within) fun v4 => ?_
  refine pr_ite ?_ ?_
  · refine pr_bE (prX9_refuse b_x0) fun v6 => ?_
    exact pr_pp rfl
  · refine pr_bE (prX9_within) fun v8 => ?_
    refine pr_ite ?_ ?_
    · refine pr_bE (prX9_refuse b_x0) fun v14 => ?_
      exact pr_pp rfl
    · refine pr_ite ?_ ?_
      · refine pr_bN (pr_gA (by decide)) fun v11 b_v11 => ?_
        refine pr_bE (prX8_boundaryAt b_v11) fun v12 => ?_
        exact pr_pp rfl
      · exact pr_pp rfl
theorem prX9_cuspidal_b2 {x0 : Nat} {x1 : Int32} (b_x0 : x0 < 1152921504606846976) : PR r (fX9_cuspidal_b2 x0 x1) (fX9_cuspidal_b2 (r x0) x1) Eq := by
  unfold fX9_cuspidal_b2
  refine pr_bN (pr_gA (by decide)) fun v1 b_v1 => ?_
  refine pr_bN (pr_gA (by decide)) fun v2 b_v2 => ?_
  refine pr_bE (pr_gI (by decide)) fun v3 => ?_
  refine pr_ite ?_ ?_
  · exact pr_pp rfl
  · refine pr_bN (pr_gA (by decide)) fun v5 b_v5 => ?_
    refine pr_bE (prX8_boundaryAt b_v5) fun v6 => ?_
    refine pr_ite ?_ ?_
    · exact pr_pp rfl
    · exact pr_pp rfl
theorem prX9_cuspidal_B2 {x0 : Nat} (b_x0 : x0 < 1152921504606846976) : ∀ x, PR r (fX9_cuspidal_B2 x0 x) (fX9_cuspidal_B2 (r x0) x) Eq := by
  intro x
  unfold fX9_cuspidal_B2
  try simp only [frI_eq, frJ_eq]
  exact prX9_cuspidal_b2 b_x0
theorem prX9_cuspidal {x0 : Nat} (b_x0 : x0 < 1152921504606846976) : PR r (fX9_cuspidal x0) (fX9_cuspidal (r x0)) Eq := by
  unfold fX9_cuspidal
  refine pr_bE (pr_chk) fun _ => ?_
  refine pr_bE (pr_ploE (fun x => prX9_cuspidal_B2 b_x0 x) _ _) fun z9 => ?_
  cases z9 with
  | inl v9 =>
    exact pr_pp rfl
  | inr z10 =>
    exact pr_pp rfl
theorem prX7_append {x0 : Nat} {x1 : Int32} (b_x0 : x0 < 1152921504606846976) : PR r (fX7_append x0 x1) (fX7_append (r x0) x1) Eq := by
  unfold fX7_append
  refine pr_bE (pr_chk) fun _ => ?_
  refine pr_bE (pr_gI (by decide)) fun v1 => ?_
  refine pr_ite ?_ ?_
  · refine pr_bN (pr_gA (by decide)) fun v3 b_v3 => ?_
    refine pr_bE (pr_gI (by decide)) fun v4 => ?_
    refine pr_bE (pr_tI (fun k => kdv_16 k)) fun _ => ?_
    refine pr_bE (pr_gI (by decide)) fun v6 => ?_
    refine pr_bE (pr_sI (by decide)) fun _ => ?_
    exact pr_pp rfl
  · exact pr_pp rfl
theorem prX9_type {x0 : Nat} {x1 : Int32} (b_x0 : x0 < 1152921504606846976) : PR r (fX9_type x0 x1) (fX9_type (r x0) x1) Eq := by
  unfold fX9_type
  refine pr_bE (pr_chk) fun _ => ?_
  refine pr_bE (prX9_within) fun v1 => ?_
  refine pr_ite ?_ ?_
  · refine pr_bE (prX9_refuse b_x0) fun v11 => ?_
    exact pr_pp rfl
  · refine pr_bN (pr_gA (by decide)) fun v3 b_v3 => ?_
    refine pr_bE (prX7_append b_v3) fun v4 => ?_
    refine pr_ite ?_ ?_
    · refine pr_bE (prX9_refuse b_x0) fun v9 => ?_
      exact pr_pp rfl
    · refine pr_bN (pr_gA (by decide)) fun v7 b_v7 => ?_
      refine pr_bE (pr_gI (by decide)) fun v8 => ?_
      exact pr_pp rfl
theorem prX9_clear {x0 : Nat} (b_x0 : x0 < 1152921504606846976) : PR r (fX9_clear x0) (fX9_clear (r x0)) Eq := by
  unfold fX9_clear
  refine pr_bE (pr_chk) fun _ => ?_
  refine pr_bN (pr_gA (by decide)) fun v1 b_v1 => ?_
  refine pr_bE (pr_gI (by decide)) fun v2 => ?_
  refine pr_bN (pr_gA (by decide)) fun v3 b_v3 => ?_
  refine pr_bE (pr_sI (by decide)) fun _ => ?_
  exact pr_pp rfl
theorem prX7_byteHere {x0 : Nat} (b_x0 : x0 < 1152921504606846976) : PR r (fX7_byteHere x0) (fX7_byteHere (r x0)) Eq := by
  unfold fX7_byteHere
  refine pr_bE (pr_chk) fun _ => ?_
  refine pr_bE (pr_gI (by decide)) fun v1 => ?_
  refine pr_bE (pr_gI (by decide)) fun v2 => ?_
  refine pr_ite ?_ ?_
  · exact pr_pp rfl
  · refine pr_bE (pr_gI (by decide)) fun v4 => ?_
    refine pr_ite ?_ ?_
    · exact pr_pp rfl
    · refine pr_bN (pr_gA (by decide)) fun v6 b_v6 => ?_
      refine pr_bE (pr_gI (by decide)) fun v7 => ?_
      refine pr_bE (pr_lI (fun k => kdv_16 k)) fun v8 => ?_
      exact pr_pp rfl
theorem prX7_skipBlanks_b0 {x0 : Nat} (b_x0 : x0 < 1152921504606846976) : PR r (fX7_skipBlanks_b0 x0) (fX7_skipBlanks_b0 (r x0)) Eq := by
  unfold fX7_skipBlanks_b0
  refine pr_bE (pr_gI (by decide)) fun v1 => ?_
  refine pr_bE (pr_gI (by decide)) fun v2 => ?_
  refine pr_ite ?_ ?_
  · exact pr_pp rfl
  · refine pr_bE (prX7_byteHere b_x0) fun v4 => ?_
    refine pr_ite ?_ ?_
    · refine pr_bE (pr_gI (by decide)) fun v7 => ?_
      refine pr_bE (pr_sI (by decide)) fun _ => ?_
      exact pr_pp rfl
    · exact pr_pp rfl
theorem prX7_skipBlanks_B0 {x0 : Nat} (b_x0 : x0 < 1152921504606846976) : ∀ x, PR r (fX7_skipBlanks_B0 x0 x) (fX7_skipBlanks_B0 (r x0) x) Eq := by
  intro x
  unfold fX7_skipBlanks_B0
  try simp only [frI_eq, frJ_eq]
  exact prX7_skipBlanks_b0 b_x0
theorem prX7_skipBlanks {x0 : Nat} (b_x0 : x0 < 1152921504606846976) : PR r (fX7_skipBlanks x0) (fX7_skipBlanks (r x0)) Eq := by
  unfold fX7_skipBlanks
  refine pr_bE (pr_chk) fun _ => ?_
  refine pr_bE (pr_ploE (fun x => prX7_skipBlanks_B0 b_x0 x) _ _) fun z9 => ?_
  exact pr_pp rfl
theorem prX7_numbersOf {x0 : Int32}  : PR r (fX7_numbersOf x0) (fX7_numbersOf x0) Eq := by
  unfold fX7_numbersOf
  refine pr_ite ?_ ?_
  · exact pr_pp rfl
  · refine pr_ite ?_ ?_
    · exact pr_pp rfl
    · refine pr_ite ?_ ?_
      · exact pr_pp rfl
      · refine pr_ite ?_ ?_
        · exact pr_pp rfl
        · refine pr_ite ?_ ?_
          · exact pr_pp rfl
          · exact pr_pp rfl
theorem prX7_digitHere {x0 : Nat} (b_x0 : x0 < 1152921504606846976) : PR r (fX7_digitHere x0) (fX7_digitHere (r x0)) Eq := by
  unfold fX7_digitHere
  refine pr_bE (pr_chk) fun _ => ?_
  refine pr_bE (prX7_byteHere b_x0) fun v1 => ?_
  refine pr_bE (prX9_within) fun v3 => ?_
  refine pr_bE (pr_pz) fun _ => ?_
  exact pr_pp rfl
theorem prX7_parseNumber_b42 {x0 : Nat} {x2 : Int32} {x3 : Int32} {x4 : Int32} (b_x0 : x0 < 1152921504606846976) : PR r (fX7_parseNumber_b42 x0 x2 x3 x4) (fX7_parseNumber_b42 (r x0) x2 x3 x4) Eq := by
  unfold fX7_parseNumber_b42
  refine pr_ite ?_ ?_
  · exact pr_pp rfl
  · refine pr_bE (prX7_digitHere b_x0) fun v6 => ?_
    refine pr_ite ?_ ?_
    · exact pr_pp rfl
    · refine pr_bE (prX7_byteHere b_x0) fun v9 => ?_
      refine pr_bE (pr_gI (by decide)) fun v11 => ?_
      refine pr_bE (pr_sI (by decide)) fun _ => ?_
      exact pr_pp rfl
theorem prX7_parseNumber_B42 {x0 : Nat} {x2 : Int32} (b_x0 : x0 < 1152921504606846976) : ∀ x, PR r (fX7_parseNumber_B42 x0 x2 x) (fX7_parseNumber_B42 (r x0) x2 x) Eq := by
  intro x
  unfold fX7_parseNumber_B42
  try simp only [frI_eq, frJ_eq]
  exact prX7_parseNumber_b42 b_x0
theorem prX7_parseNumber {x0 : Nat} {x1 : Int32} (b_x0 : x0 < 1152921504606846976) : PR r (fX7_parseNumber x0 x1) (fX7_parseNumber (r x0) x1) Eq := by
  unfold fX7_parseNumber
  refine pr_bE (pr_chk) fun _ => ?_
  refine pr_bE (prX7_skipBlanks b_x0) fun _ => ?_
  refine pr_ite ?_ ?_
  · refine pr_bE (pr_ploE (fun x => prX7_parseNumber_B42 b_x0 x) _ _) fun z13 => ?_
    refine pr_bE (pr_sI (by decide)) fun _ => ?_
    refine pr_ite ?_ ?_
    · exact pr_pp rfl
    · refine pr_bE (prX7_digitHere b_x0) fun v17 => ?_
      refine pr_ite ?_ ?_
      · exact pr_pp rfl
      · exact pr_pp rfl
  · refine pr_bE (prX7_byteHere b_x0) fun v20 => ?_
    refine pr_ite ?_ ?_
    · refine pr_bE (pr_gI (by decide)) fun v32 => ?_
      refine pr_bE (pr_sI (by decide)) fun _ => ?_
      refine pr_bE (pr_ploE (fun x => prX7_parseNumber_B42 b_x0 x) _ _) fun z34 => ?_
      refine pr_bE (pr_sI (by decide)) fun _ => ?_
      refine pr_ite ?_ ?_
      · exact pr_pp rfl
      · refine pr_bE (prX7_digitHere b_x0) fun v38 => ?_
        refine pr_ite ?_ ?_
        · exact pr_pp rfl
        · exact pr_pp rfl
    · refine pr_bE (pr_ploE (fun x => prX7_parseNumber_B42 b_x0 x) _ _) fun z24 => ?_
      refine pr_bE (pr_sI (by decide)) fun _ => ?_
      refine pr_ite ?_ ?_
      · exact pr_pp rfl
      · refine pr_bE (prX7_digitHere b_x0) fun v28 => ?_
        refine pr_ite ?_ ?_
        · exact pr_pp rfl
        · exact pr_pp rfl
theorem prX7_parseCommand {x0 : Nat} (b_x0 : x0 < 1152921504606846976) : PR r (fX7_parseCommand x0) (fX7_parseCommand (r x0)) Eq := by
  unfold fX7_parseCommand
  refine pr_bE (pr_chk) fun _ => ?_
  refine pr_bE (prX7_byteHere b_x0) fun v1 => ?_
  refine pr_bE (prX7_numbersOf) fun v3 => ?_
  refine pr_ite ?_ ?_
  · exact pr_pp rfl
  · refine pr_bE (pr_gI (by decide)) fun v5 => ?_
    refine pr_ite ?_ ?_
    · refine pr_bE (pr_gI (by decide)) fun v7 => ?_
      refine pr_bE (pr_sI (by decide)) fun _ => ?_
      refine pr_bN (pr_gA (by decide)) fun v9 b_v9 => ?_
      refine pr_bE (pr_gI (by decide)) fun v10 => ?_
      refine pr_bE (pr_tI (fun k => kdv_17 k)) fun _ => ?_
      refine pr_ite ?_ ?_
      · refine pr_ite ?_ ?_
        · refine pr_bE (prX7_skipBlanks b_x0) fun _ => ?_
          refine pr_bE (prX7_byteHere b_x0) fun v16 => ?_
          refine pr_ite ?_ ?_
          · refine pr_bE (pr_gI (by decide)) fun v19 => ?_
            refine pr_bE (pr_sI (by decide)) fun _ => ?_
            refine pr_bE (pr_gI (by decide)) fun v21 => ?_
            refine pr_bE (pr_sI (by decide)) fun _ => ?_
            exact pr_pp rfl
          · exact pr_pp rfl
        · refine pr_bE (prX7_parseNumber b_x0) fun v23 => ?_
          refine pr_ite ?_ ?_
          · exact pr_pp rfl
          · refine pr_bN (pr_gA (by decide)) fun v26 b_v26 => ?_
            refine pr_bE (pr_gI (by decide)) fun v27 => ?_
            refine pr_bE (pr_gI (by decide)) fun v28 => ?_
            refine pr_bE (pr_tI (fun k => kdv_17 k)) fun _ => ?_
            refine pr_bE (prX7_skipBlanks b_x0) fun _ => ?_
            refine pr_bE (prX7_byteHere b_x0) fun v32 => ?_
            refine pr_ite ?_ ?_
            · refine pr_bE (pr_gI (by decide)) fun v35 => ?_
              refine pr_bE (pr_sI (by decide)) fun _ => ?_
              refine pr_bE (pr_gI (by decide)) fun v37 => ?_
              refine pr_bE (pr_sI (by decide)) fun _ => ?_
              exact pr_pp rfl
            · exact pr_pp rfl
      · refine pr_ite ?_ ?_
        · refine pr_bE (prX7_parseNumber b_x0) fun v73 => ?_
          refine pr_ite ?_ ?_
          · exact pr_pp rfl
          · refine pr_bN (pr_gA (by decide)) fun v76 b_v76 => ?_
            refine pr_bE (pr_gI (by decide)) fun v77 => ?_
            refine pr_bE (pr_gI (by decide)) fun v78 => ?_
            refine pr_bE (pr_tI (fun k => kdv_17 k)) fun _ => ?_
            refine pr_ite ?_ ?_
            · refine pr_bE (prX7_skipBlanks b_x0) fun _ => ?_
              refine pr_bE (prX7_byteHere b_x0) fun v83 => ?_
              refine pr_ite ?_ ?_
              · refine pr_bE (pr_gI (by decide)) fun v86 => ?_
                refine pr_bE (pr_sI (by decide)) fun _ => ?_
                refine pr_bE (pr_gI (by decide)) fun v88 => ?_
                refine pr_bE (pr_sI (by decide)) fun _ => ?_
                exact pr_pp rfl
              · exact pr_pp rfl
            · refine pr_bE (prX7_parseNumber b_x0) fun v90 => ?_
              refine pr_ite ?_ ?_
              · exact pr_pp rfl
              · refine pr_bN (pr_gA (by decide)) fun v93 b_v93 => ?_
                refine pr_bE (pr_gI (by decide)) fun v94 => ?_
                refine pr_bE (pr_gI (by decide)) fun v95 => ?_
                refine pr_bE (pr_tI (fun k => kdv_17 k)) fun _ => ?_
                refine pr_bE (prX7_skipBlanks b_x0) fun _ => ?_
                refine pr_bE (prX7_byteHere b_x0) fun v99 => ?_
                refine pr_ite ?_ ?_
                · refine pr_bE (pr_gI (by decide)) fun v102 => ?_
                  refine pr_bE (pr_sI (by decide)) fun _ => ?_
                  refine pr_bE (pr_gI (by decide)) fun v104 => ?_
                  refine pr_bE (pr_sI (by decide)) fun _ => ?_
                  exact pr_pp rfl
                · exact pr_pp rfl
        · refine pr_bE (prX7_parseNumber b_x0) fun v40 => ?_
          refine pr_ite ?_ ?_
          · exact pr_pp rfl
          · refine pr_bN (pr_gA (by decide)) fun v43 b_v43 => ?_
            refine pr_bE (pr_gI (by decide)) fun v44 => ?_
            refine pr_bE (pr_gI (by decide)) fun v45 => ?_
            refine pr_bE (pr_tI (fun k => kdv_17 k)) fun _ => ?_
            refine pr_ite ?_ ?_
            · refine pr_bE (prX7_skipBlanks b_x0) fun _ => ?_
              refine pr_bE (prX7_byteHere b_x0) fun v50 => ?_
              refine pr_ite ?_ ?_
              · refine pr_bE (pr_gI (by decide)) fun v53 => ?_
                refine pr_bE (pr_sI (by decide)) fun _ => ?_
                refine pr_bE (pr_gI (by decide)) fun v55 => ?_
                refine pr_bE (pr_sI (by decide)) fun _ => ?_
                exact pr_pp rfl
              · exact pr_pp rfl
            · refine pr_bE (prX7_parseNumber b_x0) fun v57 => ?_
              refine pr_ite ?_ ?_
              · exact pr_pp rfl
              · refine pr_bN (pr_gA (by decide)) fun v60 b_v60 => ?_
                refine pr_bE (pr_gI (by decide)) fun v61 => ?_
                refine pr_bE (pr_gI (by decide)) fun v62 => ?_
                refine pr_bE (pr_tI (fun k => kdv_17 k)) fun _ => ?_
                refine pr_bE (prX7_skipBlanks b_x0) fun _ => ?_
                refine pr_bE (prX7_byteHere b_x0) fun v66 => ?_
                refine pr_ite ?_ ?_
                · refine pr_bE (pr_gI (by decide)) fun v69 => ?_
                  refine pr_bE (pr_sI (by decide)) fun _ => ?_
                  refine pr_bE (pr_gI (by decide)) fun v71 => ?_
                  refine pr_bE (pr_sI (by decide)) fun _ => ?_
                  exact pr_pp rfl
                · exact pr_pp rfl
    · exact pr_pp rfl
theorem prX7_parse_b32 {x0 : Nat} {x1 : Int32} (b_x0 : x0 < 1152921504606846976) : PR r (fX7_parse_b32 x0 x1) (fX7_parse_b32 (r x0) x1) Eq := by
  unfold fX7_parse_b32
  refine pr_ite ?_ ?_
  · exact pr_pp rfl
  · refine pr_bE (pr_gI (by decide)) fun v9 => ?_
    refine pr_bE (pr_gI (by decide)) fun v10 => ?_
    refine pr_ite ?_ ?_
    · exact pr_pp rfl
    · refine pr_bE (prX7_parseCommand b_x0) fun v12 => ?_
      refine pr_ite ?_ ?_
      · refine pr_bE (pr_gI (by decide)) fun v17 => ?_
        exact pr_pp rfl
      · refine pr_bE (prX7_skipBlanks b_x0) fun _ => ?_
        exact pr_pp rfl
theorem prX7_parse_B32 {x0 : Nat} (b_x0 : x0 < 1152921504606846976) : ∀ x, PR r (fX7_parse_B32 x0 x) (fX7_parse_B32 (r x0) x) Eq := by
  intro x
  unfold fX7_parse_B32
  try simp only [frI_eq, frJ_eq]
  exact prX7_parse_b32 b_x0
theorem prX7_parse {x0 : Nat} (b_x0 : x0 < 1152921504606846976) : PR r (fX7_parse x0) (fX7_parse (r x0)) Eq := by
  unfold fX7_parse
  refine pr_bE (pr_chk) fun _ => ?_
  refine pr_bE (pr_sI (by decide)) fun _ => ?_
  refine pr_bE (pr_sI (by decide)) fun _ => ?_
  refine pr_bE (prX7_skipBlanks b_x0) fun _ => ?_
  refine pr_bE (pr_gI (by decide)) fun v5 => ?_
  refine pr_bE (pr_gI (by decide)) fun v6 => ?_
  refine pr_ite ?_ ?_
  · refine pr_bE (pr_gI (by decide)) fun v20 => ?_
    exact pr_pp rfl
  · refine pr_bE (pr_ploE (fun x => prX7_parse_B32 b_x0 x) _ _) fun z18 => ?_
    cases z18 with
    | inl v18 =>
      exact pr_pp rfl
    | inr z19 =>
      exact pr_pp rfl
theorem prX9_perform {x0 : Nat} {x1 : Int32} (b_x0 : x0 < 1152921504606846976) : PR r (fX9_perform x0 x1) (fX9_perform (r x0) x1) Eq := by
  unfold fX9_perform
  refine pr_bE (pr_chk) fun _ => ?_
  refine pr_bN (pr_gA (by decide)) fun v1 b_v1 => ?_
  refine pr_bN (pr_gA (by decide)) fun v2 b_v2 => ?_
  refine pr_bE (pr_lI (fun k => kdv_17 k)) fun v3 => ?_
  refine pr_bN (pr_gA (by decide)) fun v4 b_v4 => ?_
  refine pr_bN (pr_gA (by decide)) fun v5 b_v5 => ?_
  refine pr_bE (pr_lI (fun k => kdv_17 k)) fun v6 => ?_
  refine pr_bN (pr_gA (by decide)) fun v7 b_v7 => ?_
  refine pr_bN (pr_gA (by decide)) fun v8 b_v8 => ?_
  refine pr_bE (pr_lI (fun k => kdv_17 k)) fun v9 => ?_
  refine pr_ite ?_ ?_
  · refine pr_bN (pr_gA (by decide)) fun v11 b_v11 => ?_
    refine pr_bE (prX8_addMultiple b_v11) fun v12 => ?_
    exact pr_pp rfl
  · refine pr_ite ?_ ?_
    · refine pr_bE (prX9_enter b_x0) fun v15 => ?_
      exact pr_pp rfl
    · refine pr_ite ?_ ?_
      · refine pr_bN (pr_gA (by decide)) fun v18 b_v18 => ?_
        refine pr_bE (prX8_applyOperator b_v18) fun v19 => ?_
        exact pr_pp rfl
      · refine pr_ite ?_ ?_
        · refine pr_bN (pr_gA (by decide)) fun v22 b_v22 => ?_
          refine pr_bE (prX8_addPath b_v22) fun v23 => ?_
          exact pr_pp rfl
        · refine pr_bN (pr_gA (by decide)) fun v25 b_v25 => ?_
          refine pr_bE (prX8_becomeZero b_v25) fun v26 => ?_
          exact pr_pp rfl
theorem prX9_reads_b31 {x0 : Nat} {x2 : Int32} (b_x0 : x0 < 1152921504606846976) : PR r (fX9_reads_b31 x0 x2) (fX9_reads_b31 (r x0) x2) Eq := by
  unfold fX9_reads_b31
  refine pr_bN (pr_gA (by decide)) fun v9 b_v9 => ?_
  refine pr_bE (pr_gI (by decide)) fun v10 => ?_
  refine pr_ite ?_ ?_
  · exact pr_pp rfl
  · refine pr_bE (prX9_perform b_x0) fun v12 => ?_
    refine pr_ite ?_ ?_
    · exact pr_pp rfl
    · exact pr_pp rfl
theorem prX9_reads_B31 {x0 : Nat} (b_x0 : x0 < 1152921504606846976) : ∀ x, PR r (fX9_reads_B31 x0 x) (fX9_reads_B31 (r x0) x) Eq := by
  intro x
  unfold fX9_reads_B31
  try simp only [frI_eq, frJ_eq]
  exact prX9_reads_b31 b_x0
theorem prX9_reads {x0 : Nat} (b_x0 : x0 < 1152921504606846976) : PR r (fX9_reads x0) (fX9_reads (r x0)) Eq := by
  unfold fX9_reads
  refine pr_bE (pr_chk) fun _ => ?_
  refine pr_bN (pr_gA (by decide)) fun v1 b_v1 => ?_
  refine pr_bE (prX7_parse b_v1) fun v2 => ?_
  refine pr_ite ?_ ?_
  · refine pr_bN (pr_gA (by decide)) fun v5 b_v5 => ?_
    refine pr_bN (pr_gA (by decide)) fun v6 b_v6 => ?_
    refine pr_bE (prX8_copyFrom b_v5 b_v6) fun _ => ?_
    refine pr_bE (pr_ploE (fun x => prX9_reads_B31 b_x0 x) _ _) fun z15 => ?_
    cases z15 with
    | inl v15 =>
      exact pr_pp rfl
    | inr z16 =>
      refine pr_bN (pr_gA (by decide)) fun v17 b_v17 => ?_
      refine pr_bE (pr_gI (by decide)) fun v18 => ?_
      refine pr_bE (prX9_settle b_x0) fun v19 => ?_
      exact pr_pp rfl
  · exact pr_pp rfl
theorem prX2_restore {x0 : Nat} {x1 : Nat} (b_x0 : x0 < 1152921504606846976) (b_x1 : x1 < 1152921504606846976) : PR r (fX2_restore x0 x1) (fX2_restore (r x0) (r x1)) Eq := by
  unfold fX2_restore
  refine pr_bE (pr_chk) fun _ => ?_
  refine pr_bE (pr_gI (by decide)) fun v1 => ?_
  refine pr_ite ?_ ?_
  · exact pr_pp rfl
  · refine pr_bE (pr_gI (by decide)) fun v3 => ?_
    refine pr_bE (pr_sI (by decide)) fun _ => ?_
    refine pr_bN (pr_gA (by decide)) fun v5 b_v5 => ?_
    refine pr_bE (pr_gI (by decide)) fun v6 => ?_
    refine pr_bN (pr_lA (fun k => kdv_22 k)) fun v7 b_v7 => ?_
    refine pr_bE (prX8_copyFrom b_x1 b_v7) fun _ => ?_
    exact pr_pp rfl
theorem prX9_back {x0 : Nat} (b_x0 : x0 < 1152921504606846976) : PR r (fX9_back x0) (fX9_back (r x0)) Eq := by
  unfold fX9_back
  refine pr_bE (pr_chk) fun _ => ?_
  refine pr_bN (pr_gA (by decide)) fun v1 b_v1 => ?_
  refine pr_bE (pr_gI (by decide)) fun v2 => ?_
  refine pr_ite ?_ ?_
  · refine pr_bE (prX9_refuse b_x0) fun v10 => ?_
    exact pr_pp rfl
  · refine pr_bN (pr_gA (by decide)) fun v4 b_v4 => ?_
    refine pr_bN (pr_gA (by decide)) fun v5 b_v5 => ?_
    refine pr_bE (prX2_restore b_v4 b_v5) fun _ => ?_
    refine pr_bN (pr_gA (by decide)) fun v8 b_v8 => ?_
    refine pr_bE (pr_gI (by decide)) fun v9 => ?_
    exact pr_pp rfl
theorem prX9_told {x0 : Nat} {x1 : Int32} (b_x0 : x0 < 1152921504606846976) : PR r (fX9_told x0 x1) (fX9_told (r x0) x1) Eq := by
  unfold fX9_told
  refine pr_bE (pr_chk) fun _ => ?_
  refine pr_ite ?_ ?_
  · refine pr_bE (pr_gI (by decide)) fun v2 => ?_
    exact pr_pp rfl
  · refine pr_ite ?_ ?_
    · refine pr_bE (pr_gI (by decide)) fun v4 => ?_
      exact pr_pp rfl
    · refine pr_ite ?_ ?_
      · refine pr_bE (pr_gI (by decide)) fun v6 => ?_
        exact pr_pp rfl
      · refine pr_ite ?_ ?_
        · refine pr_bN (pr_gA (by decide)) fun v8 b_v8 => ?_
          refine pr_bE (pr_gI (by decide)) fun v9 => ?_
          exact pr_pp rfl
        · refine pr_ite ?_ ?_
          · refine pr_bN (pr_gA (by decide)) fun v11 b_v11 => ?_
            refine pr_bN (pr_gA (by decide)) fun v12 b_v12 => ?_
            refine pr_bE (pr_gI (by decide)) fun v13 => ?_
            exact pr_pp rfl
          · refine pr_ite ?_ ?_
            · refine pr_bN (pr_gA (by decide)) fun v15 b_v15 => ?_
              refine pr_bE (pr_gI (by decide)) fun v16 => ?_
              exact pr_pp rfl
            · refine pr_bE (prX9_refuse b_x0) fun v17 => ?_
              exact pr_pp rfl
theorem prX9_digest_b6 {x0 : Nat} {x1 : Int64} {x3 : Int32} (b_x0 : x0 < 1152921504606846976) : PR r (fX9_digest_b6 x0 x1 x3) (fX9_digest_b6 (r x0) x1 x3) Eq := by
  unfold fX9_digest_b6
  refine pr_ite ?_ ?_
  · exact pr_pp rfl
  · refine pr_bE (prX9_told b_x0) fun v2 => ?_
    exact pr_pp rfl
theorem prX9_digest_B6 {x0 : Nat} (b_x0 : x0 < 1152921504606846976) : ∀ x, PR r (fX9_digest_B6 x0 x) (fX9_digest_B6 (r x0) x) Eq := by
  intro x
  unfold fX9_digest_B6
  try simp only [frI_eq, frJ_eq]
  exact prX9_digest_b6 b_x0
theorem prX9_digest_b44 {x0 : Nat} {x1 : Int64} {x3 : Int32} (b_x0 : x0 < 1152921504606846976) : PR r (fX9_digest_b44 x0 x1 x3) (fX9_digest_b44 (r x0) x1 x3) Eq := by
  unfold fX9_digest_b44
  refine pr_ite ?_ ?_
  · exact pr_pp rfl
  · refine pr_bE (prX9_space b_x0) fun v8 => ?_
    exact pr_pp rfl
theorem prX9_digest_B44 {x0 : Nat} (b_x0 : x0 < 1152921504606846976) : ∀ x, PR r (fX9_digest_B44 x0 x) (fX9_digest_B44 (r x0) x) Eq := by
  intro x
  unfold fX9_digest_B44
  try simp only [frI_eq, frJ_eq]
  exact prX9_digest_b44 b_x0
theorem prX9_digest_b70 {x0 : Nat} {x1 : Int64} {x3 : Int32} (b_x0 : x0 < 1152921504606846976) : PR r (fX9_digest_b70 x0 x1 x3) (fX9_digest_b70 (r x0) x1 x3) Eq := by
  unfold fX9_digest_b70
  refine pr_bN (pr_gA (by decide)) fun v11 b_v11 => ?_
  refine pr_bN (pr_gA (by decide)) fun v12 b_v12 => ?_
  refine pr_bE (pr_gI (by decide)) fun v13 => ?_
  refine pr_ite ?_ ?_
  · exact pr_pp rfl
  · refine pr_bE (prX9_sum b_x0) fun v15 => ?_
    refine pr_bE (prX9_sum b_x0) fun v17 => ?_
    exact pr_pp rfl
theorem prX9_digest_B70 {x0 : Nat} (b_x0 : x0 < 1152921504606846976) : ∀ x, PR r (fX9_digest_B70 x0 x) (fX9_digest_B70 (r x0) x) Eq := by
  intro x
  unfold fX9_digest_B70
  try simp only [frI_eq, frJ_eq]
  exact prX9_digest_b70 b_x0
theorem prX9_digest {x0 : Nat} (b_x0 : x0 < 1152921504606846976) : PR r (fX9_digest x0) (fX9_digest (r x0)) Eq := by
  unfold fX9_digest
  refine pr_bE (pr_chk) fun _ => ?_
  refine pr_bE (pr_ploE (fun x => prX9_digest_B6 b_x0 x) _ _) fun z4 => ?_
  refine pr_bE (prX9_symbols b_x0) fun v5 => ?_
  refine pr_bE (pr_ploE (fun x => prX9_digest_B44 b_x0 x) _ _) fun z10 => ?_
  refine pr_bE (pr_ploE (fun x => prX9_digest_B70 b_x0 x) _ _) fun z19 => ?_
  refine pr_bE (prX9_cuspidal b_x0) fun v20 => ?_
  exact pr_pp rfl
end PRC
