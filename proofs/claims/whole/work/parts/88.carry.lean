/-! what is carried -/
theorem wr_id (σ : St) (k j : Nat) : wr σ k j (σ k j) = σ := wr_same rfl
def cC (k : Nat) : Nat := if k < 72 then 901 + k / 12 else if k < 120 then 902 + k / 12 else if k < 132 then 913 else if k < 136 then 914 else 900
def cI (k : Nat) : Nat := if k < 132 then k % 12 else if k < 136 then k - 132 else if k = 136 then 6 else if k = 137 then 11 else 14
theorem car_q {w i k : Nat} (hk : k = 12 * w + i) (hi : i < 12) (hw : w < 12) : nI k / nI 12 = nI w ∧ nI k - nI w * nI 12 = nI i := by
  have h1 : k / 12 = w := by omega
  have h2 : k % 12 = i := by omega
  have q := pk_div (a := k) (d := 12) (by omega) (by decide) (by decide)
  have q2 := pk_rem (a := k) (d := 12) (by omega) (by decide) (by decide)
  rw [h1] at q
  rw [q, h2] at q2
  exact ⟨q, q2⟩
set_option maxRecDepth 8000 in
theorem m_carA {l : Launch} {w i k : Nat} {v : Int32} {σ : St} {K : Int32 → St → Prop} (hk : k = 12 * w + i) (hi : i < 12) (hw : w < 6) (hK : K (σ (901 + w) i) σ) : CallAt l 163 [.ref 900, .int (nI k), .int v, .int (nI 0)] σ K := by
  obtain ⟨q1, q2⟩ := car_q hk hi (by omega)
  have z1 : ¬ 72 ≤ k := by omega
  rcases (show w = 0 ∨ w = 1 ∨ w = 2 ∨ w = 3 ∨ w = 4 ∨ w = 5 by omega) with rfl | rfl | rfl | rfl | rfl | rfl
  all_goals
    refine CallAt.of (k := 163) (cd := k_X6_carried) ok_X6_carried (by decide) rfl rfl rfl ?_
    show V _ i_X6_carried k_X6_carried 0 [.ref 900, .int (nI k), .int v, .int (nI 0), .null, .null] [] _ _
    refine V_run ok_X6_carried 200 0 ?_
    simp (disch := omega) only [eng, c_X6_carried, r_X6_carried, tbl, true_and, Nat.reduceAdd, Nat.reduceLT, ↓reduceIte, n_eq, n_lt, n_le, n_cl, n_inT, nI_add, bI_eq0, bI_eq1, not_true_eq_false, not_false_eq_true, true_implies, false_implies, implies_true, and_true, Bool.not_eq_false, Bool.not_eq_true, Nat.reduceEqDiff, Nat.reduceLeDiff, Classical.not_not, List.length_cons, List.length_nil, Int.reduceAdd, z_cast, Nat.reducePow, false_or, Nat.reduceLT, Nat.sub_zero, Nat.le_refl, q1, q2, z1, n_ne0, wr_id]
    try simp only [iteP, Classical.not_not, Bool.not_eq_false, Bool.not_eq_true]
    exact hK
set_option maxRecDepth 8000 in
theorem m_carB {l : Launch} {w i k : Nat} {v : Int32} {σ : St} {K : Int32 → St → Prop} (hk : k = 12 * w + i) (hi : i < 12) (hw : w < 6) (hK : K v (wr σ (901 + w) i v)) : CallAt l 163 [.ref 900, .int (nI k), .int v, .int (nI 1)] σ K := by
  obtain ⟨q1, q2⟩ := car_q hk hi (by omega)
  have z1 : ¬ 72 ≤ k := by omega
  rcases (show w = 0 ∨ w = 1 ∨ w = 2 ∨ w = 3 ∨ w = 4 ∨ w = 5 by omega) with rfl | rfl | rfl | rfl | rfl | rfl
  all_goals
    refine CallAt.of (k := 163) (cd := k_X6_carried) ok_X6_carried (by decide) rfl rfl rfl ?_
    show V _ i_X6_carried k_X6_carried 0 [.ref 900, .int (nI k), .int v, .int (nI 1), .null, .null] [] _ _
    refine V_run ok_X6_carried 200 0 ?_
    simp (disch := omega) only [eng, c_X6_carried, r_X6_carried, tbl, true_and, Nat.reduceAdd, Nat.reduceLT, ↓reduceIte, n_eq, n_lt, n_le, n_cl, n_inT, nI_add, bI_eq0, bI_eq1, not_true_eq_false, not_false_eq_true, true_implies, false_implies, implies_true, and_true, Bool.not_eq_false, Bool.not_eq_true, Nat.reduceEqDiff, Nat.reduceLeDiff, Classical.not_not, List.length_cons, List.length_nil, Int.reduceAdd, z_cast, Nat.reducePow, false_or, Nat.reduceLT, Nat.sub_zero, Nat.le_refl, q1, q2, z1, n_ne0, wr_id]
    try simp only [iteP, Classical.not_not, Bool.not_eq_false, Bool.not_eq_true]
    simp (disch := omega) only [wrq]
    exact hK
theorem w_all {w : Nat} (h6 : 6 ≤ w) (h : w < 11) : w = 6 ∨ w = 7 ∨ w = 8 ∨ w = 9 ∨ w = 10 := by omega
set_option maxRecDepth 8000 in
theorem m_carC {l : Launch} {w i k : Nat} {v : Int32} {σ : St} {K : Int32 → St → Prop} (hk : k = 12 * w + i) (hi : i < 12) (h6 : 6 ≤ w) (hw : w < 11) (hK : K (σ (if w < 10 then 902 + w else 913) i) σ) : CallAt l 163 [.ref 900, .int (nI k), .int v, .int (nI 0)] σ K := by
  obtain ⟨q1, q2⟩ := car_q hk hi (by omega)
  have z1 : 72 ≤ k := by omega
  have z2 : ¬ 132 ≤ k := by omega
  have e6 := pk_sub (a := w) (b := 6) h6
  rcases w_all h6 hw with rfl | rfl | rfl | rfl | rfl
  all_goals
    refine CallAt.of (k := 163) (cd := k_X6_carried) ok_X6_carried (by decide) rfl rfl rfl ?_
    show V _ i_X6_carried k_X6_carried 0 [.ref 900, .int (nI k), .int v, .int (nI 0), .null, .null] [] _ _
    refine V_run ok_X6_carried 200 0 ?_
    simp (disch := omega) only [eng, c_X6_carried, r_X6_carried, tbl, true_and, Nat.reduceAdd, Nat.reduceLT, ↓reduceIte, n_eq, n_lt, n_le, n_cl, n_inT, nI_add, bI_eq0, bI_eq1, not_true_eq_false, not_false_eq_true, true_implies, false_implies, implies_true, and_true, Bool.not_eq_false, Bool.not_eq_true, Nat.reduceEqDiff, Nat.reduceLeDiff, Classical.not_not, List.length_cons, List.length_nil, Int.reduceAdd, z_cast, Nat.reducePow, false_or, Nat.reduceLT, Nat.sub_zero, Nat.le_refl, q1, q2, z1, z2, e6, n_ne0, wr_id, Nat.reduceSub]
    try simp only [iteP, Classical.not_not, Bool.not_eq_false, Bool.not_eq_true]
    exact hK
set_option maxRecDepth 8000 in
theorem m_carD {l : Launch} {w i k : Nat} {v : Int32} {σ : St} {K : Int32 → St → Prop} (hk : k = 12 * w + i) (hi : i < 12) (h6 : 6 ≤ w) (hw : w < 11) (hK : K v (wr σ (if w < 10 then 902 + w else 913) i v)) : CallAt l 163 [.ref 900, .int (nI k), .int v, .int (nI 1)] σ K := by
  obtain ⟨q1, q2⟩ := car_q hk hi (by omega)
  have z1 : 72 ≤ k := by omega
  have z2 : ¬ 132 ≤ k := by omega
  have e6 := pk_sub (a := w) (b := 6) h6
  rcases w_all h6 hw with rfl | rfl | rfl | rfl | rfl
  all_goals
    refine CallAt.of (k := 163) (cd := k_X6_carried) ok_X6_carried (by decide) rfl rfl rfl ?_
    show V _ i_X6_carried k_X6_carried 0 [.ref 900, .int (nI k), .int v, .int (nI 1), .null, .null] [] _ _
    refine V_run ok_X6_carried 200 0 ?_
    simp (disch := omega) only [eng, c_X6_carried, r_X6_carried, tbl, true_and, Nat.reduceAdd, Nat.reduceLT, ↓reduceIte, n_eq, n_lt, n_le, n_cl, n_inT, nI_add, bI_eq0, bI_eq1, not_true_eq_false, not_false_eq_true, true_implies, false_implies, implies_true, and_true, Bool.not_eq_false, Bool.not_eq_true, Nat.reduceEqDiff, Nat.reduceLeDiff, Classical.not_not, List.length_cons, List.length_nil, Int.reduceAdd, z_cast, Nat.reducePow, false_or, Nat.reduceLT, Nat.sub_zero, Nat.le_refl, q1, q2, z1, z2, e6, n_ne0, wr_id, Nat.reduceSub]
    try simp only [iteP, Classical.not_not, Bool.not_eq_false, Bool.not_eq_true]
    simp (disch := omega) only [wrq]
    exact hK
set_option maxRecDepth 8000 in
theorem m_carE {l : Launch} {k : Nat} {v : Int32} {σ : St} {K : Int32 → St → Prop} (h1 : 132 ≤ k) (h2 : k < 136) (hK : K (σ 914 (k - 132)) σ) : CallAt l 163 [.ref 900, .int (nI k), .int v, .int (nI 0)] σ K := by
  have z1 : 72 ≤ k := by omega
  have z3 : ¬ 136 ≤ k := by omega
  have e6 := pk_sub (a := k) (b := 132) h1
  refine CallAt.of (k := 163) (cd := k_X6_carried) ok_X6_carried (by decide) rfl rfl rfl ?_
  show V _ i_X6_carried k_X6_carried 0 [.ref 900, .int (nI k), .int v, .int (nI 0), .null, .null] [] _ _
  refine V_run ok_X6_carried 200 0 ?_
  simp (disch := omega) only [eng, c_X6_carried, r_X6_carried, tbl, true_and, Nat.reduceAdd, Nat.reduceLT, ↓reduceIte, n_eq, n_lt, n_le, n_cl, n_inT, nI_add, bI_eq0, bI_eq1, not_true_eq_false, not_false_eq_true, true_implies, false_implies, implies_true, and_true, Bool.not_eq_false, Bool.not_eq_true, Nat.reduceEqDiff, Nat.reduceLeDiff, Classical.not_not, List.length_cons, List.length_nil, Int.reduceAdd, z_cast, Nat.reducePow, false_or, Nat.reduceLT, Nat.sub_zero, Nat.le_refl, z1, h1, z3, e6, n_ne0, wr_id]
  try simp only [iteP, Classical.not_not, Bool.not_eq_false, Bool.not_eq_true]
  exact hK
set_option maxRecDepth 8000 in
theorem m_carF {l : Launch} {k : Nat} {v : Int32} {σ : St} {K : Int32 → St → Prop} (h1 : 132 ≤ k) (h2 : k < 136) (hK : K v (wr σ 914 (k - 132) v)) : CallAt l 163 [.ref 900, .int (nI k), .int v, .int (nI 1)] σ K := by
  have z1 : 72 ≤ k := by omega
  have z3 : ¬ 136 ≤ k := by omega
  have e6 := pk_sub (a := k) (b := 132) h1
  refine CallAt.of (k := 163) (cd := k_X6_carried) ok_X6_carried (by decide) rfl rfl rfl ?_
  show V _ i_X6_carried k_X6_carried 0 [.ref 900, .int (nI k), .int v, .int (nI 1), .null, .null] [] _ _
  refine V_run ok_X6_carried 200 0 ?_
  simp (disch := omega) only [eng, c_X6_carried, r_X6_carried, tbl, true_and, Nat.reduceAdd, Nat.reduceLT, ↓reduceIte, n_eq, n_lt, n_le, n_cl, n_inT, nI_add, bI_eq0, bI_eq1, not_true_eq_false, not_false_eq_true, true_implies, false_implies, implies_true, and_true, Bool.not_eq_false, Bool.not_eq_true, Nat.reduceEqDiff, Nat.reduceLeDiff, Classical.not_not, List.length_cons, List.length_nil, Int.reduceAdd, z_cast, Nat.reducePow, false_or, Nat.reduceLT, Nat.sub_zero, Nat.le_refl, z1, h1, z3, e6, n_ne0, wr_id]
  try simp only [iteP, Classical.not_not, Bool.not_eq_false, Bool.not_eq_true]
  simp (disch := omega) only [wrq]
  exact hK
set_option maxRecDepth 8000 in
theorem m_carG {l : Launch} {k : Nat} {v : Int32} {σ : St} {K : Int32 → St → Prop} (h : k = 136 ∨ k = 137 ∨ k = 138) (hK : K (σ 900 (if k = 136 then 6 else if k = 137 then 11 else 14)) σ) : CallAt l 163 [.ref 900, .int (nI k), .int v, .int (nI 0)] σ K := by
  rcases h with rfl | rfl | rfl
  · refine CallAt.of (k := 163) (cd := k_X6_carried) ok_X6_carried (by decide) rfl rfl rfl ?_
    show V _ i_X6_carried k_X6_carried 0 [.ref 900, .int (nI 136), .int v, .int (nI 0), .null, .null] [] _ _
    refine V_run ok_X6_carried 200 0 ?_
    simp (disch := omega) only [eng, c_X6_carried, r_X6_carried, tbl, true_and, Nat.reduceAdd, Nat.reduceLT, ↓reduceIte, n_eq, n_lt, n_le, n_cl, n_inT, nI_add, bI_eq0, bI_eq1, not_true_eq_false, not_false_eq_true, true_implies, false_implies, implies_true, and_true, Bool.not_eq_false, Bool.not_eq_true, Nat.reduceEqDiff, Nat.reduceLeDiff, Classical.not_not, List.length_cons, List.length_nil, Int.reduceAdd, z_cast, Nat.reducePow, false_or, Nat.reduceLT, Nat.sub_zero, Nat.le_refl, n_ne0, wr_id]
    try simp only [iteP, Classical.not_not, Bool.not_eq_false, Bool.not_eq_true]
    exact hK
  · refine CallAt.of (k := 163) (cd := k_X6_carried) ok_X6_carried (by decide) rfl rfl rfl ?_
    show V _ i_X6_carried k_X6_carried 0 [.ref 900, .int (nI 137), .int v, .int (nI 0), .null, .null] [] _ _
    refine V_run ok_X6_carried 200 0 ?_
    simp (disch := omega) only [eng, c_X6_carried, r_X6_carried, tbl, true_and, Nat.reduceAdd, Nat.reduceLT, ↓reduceIte, n_eq, n_lt, n_le, n_cl, n_inT, nI_add, bI_eq0, bI_eq1, not_true_eq_false, not_false_eq_true, true_implies, false_implies, implies_true, and_true, Bool.not_eq_false, Bool.not_eq_true, Nat.reduceEqDiff, Nat.reduceLeDiff, Classical.not_not, List.length_cons, List.length_nil, Int.reduceAdd, z_cast, Nat.reducePow, false_or, Nat.reduceLT, Nat.sub_zero, Nat.le_refl, n_ne0, wr_id]
    try simp only [iteP, Classical.not_not, Bool.not_eq_false, Bool.not_eq_true]
    exact hK
  · refine CallAt.of (k := 163) (cd := k_X6_carried) ok_X6_carried (by decide) rfl rfl rfl ?_
    show V _ i_X6_carried k_X6_carried 0 [.ref 900, .int (nI 138), .int v, .int (nI 0), .null, .null] [] _ _
    refine V_run ok_X6_carried 200 0 ?_
    simp (disch := omega) only [eng, c_X6_carried, r_X6_carried, tbl, true_and, Nat.reduceAdd, Nat.reduceLT, ↓reduceIte, n_eq, n_lt, n_le, n_cl, n_inT, nI_add, bI_eq0, bI_eq1, not_true_eq_false, not_false_eq_true, true_implies, false_implies, implies_true, and_true, Bool.not_eq_false, Bool.not_eq_true, Nat.reduceEqDiff, Nat.reduceLeDiff, Classical.not_not, List.length_cons, List.length_nil, Int.reduceAdd, z_cast, Nat.reducePow, false_or, Nat.reduceLT, Nat.sub_zero, Nat.le_refl, n_ne0, wr_id]
    try simp only [iteP, Classical.not_not, Bool.not_eq_false, Bool.not_eq_true]
    exact hK
set_option maxRecDepth 8000 in
theorem m_carH {l : Launch} {k : Nat} {v : Int32} {σ : St} {K : Int32 → St → Prop} (h : k = 136 ∨ k = 137 ∨ k = 138) (hK : K v (wr σ 900 (if k = 136 then 6 else if k = 137 then 11 else 14) v)) : CallAt l 163 [.ref 900, .int (nI k), .int v, .int (nI 1)] σ K := by
  rcases h with rfl | rfl | rfl
  · refine CallAt.of (k := 163) (cd := k_X6_carried) ok_X6_carried (by decide) rfl rfl rfl ?_
    show V _ i_X6_carried k_X6_carried 0 [.ref 900, .int (nI 136), .int v, .int (nI 1), .null, .null] [] _ _
    refine V_run ok_X6_carried 200 0 ?_
    simp (disch := omega) only [eng, c_X6_carried, r_X6_carried, tbl, true_and, Nat.reduceAdd, Nat.reduceLT, ↓reduceIte, n_eq, n_lt, n_le, n_cl, n_inT, nI_add, bI_eq0, bI_eq1, not_true_eq_false, not_false_eq_true, true_implies, false_implies, implies_true, and_true, Bool.not_eq_false, Bool.not_eq_true, Nat.reduceEqDiff, Nat.reduceLeDiff, Classical.not_not, List.length_cons, List.length_nil, Int.reduceAdd, z_cast, Nat.reducePow, false_or, Nat.reduceLT, Nat.sub_zero, Nat.le_refl, n_ne0, wr_id]
    try simp only [iteP, Classical.not_not, Bool.not_eq_false, Bool.not_eq_true]
    simp (disch := omega) only [wrq]
    exact hK
  · refine CallAt.of (k := 163) (cd := k_X6_carried) ok_X6_carried (by decide) rfl rfl rfl ?_
    show V _ i_X6_carried k_X6_carried 0 [.ref 900, .int (nI 137), .int v, .int (nI 1), .null, .null] [] _ _
    refine V_run ok_X6_carried 200 0 ?_
    simp (disch := omega) only [eng, c_X6_carried, r_X6_carried, tbl, true_and, Nat.reduceAdd, Nat.reduceLT, ↓reduceIte, n_eq, n_lt, n_le, n_cl, n_inT, nI_add, bI_eq0, bI_eq1, not_true_eq_false, not_false_eq_true, true_implies, false_implies, implies_true, and_true, Bool.not_eq_false, Bool.not_eq_true, Nat.reduceEqDiff, Nat.reduceLeDiff, Classical.not_not, List.length_cons, List.length_nil, Int.reduceAdd, z_cast, Nat.reducePow, false_or, Nat.reduceLT, Nat.sub_zero, Nat.le_refl, n_ne0, wr_id]
    try simp only [iteP, Classical.not_not, Bool.not_eq_false, Bool.not_eq_true]
    simp (disch := omega) only [wrq]
    exact hK
  · refine CallAt.of (k := 163) (cd := k_X6_carried) ok_X6_carried (by decide) rfl rfl rfl ?_
    show V _ i_X6_carried k_X6_carried 0 [.ref 900, .int (nI 138), .int v, .int (nI 1), .null, .null] [] _ _
    refine V_run ok_X6_carried 200 0 ?_
    simp (disch := omega) only [eng, c_X6_carried, r_X6_carried, tbl, true_and, Nat.reduceAdd, Nat.reduceLT, ↓reduceIte, n_eq, n_lt, n_le, n_cl, n_inT, nI_add, bI_eq0, bI_eq1, not_true_eq_false, not_false_eq_true, true_implies, false_implies, implies_true, and_true, Bool.not_eq_false, Bool.not_eq_true, Nat.reduceEqDiff, Nat.reduceLeDiff, Classical.not_not, List.length_cons, List.length_nil, Int.reduceAdd, z_cast, Nat.reducePow, false_or, Nat.reduceLT, Nat.sub_zero, Nat.le_refl, n_ne0, wr_id]
    try simp only [iteP, Classical.not_not, Bool.not_eq_false, Bool.not_eq_true]
    simp (disch := omega) only [wrq]
    exact hK
theorem cC_a {k : Nat} (h : k < 72) : cC k = 901 + k / 12 ∧ cI k = k % 12 := by
  unfold cC cI
  rw [if_pos h, if_pos (by omega)]
  exact ⟨rfl, rfl⟩
theorem cC_b {k : Nat} (h : 72 ≤ k) (h2 : k < 132) : cC k = (if k / 12 < 10 then 902 + k / 12 else 913) ∧ cI k = k % 12 := by
  unfold cC cI
  refine ⟨?_, by rw [if_pos h2]⟩
  rw [if_neg (by omega)]
  by_cases z : k < 120
  · rw [if_pos z, if_pos (by omega)]
  · rw [if_neg z, if_pos h2, if_neg (by omega)]
theorem cC_c {k : Nat} (h : 132 ≤ k) (h2 : k < 136) : cC k = 914 ∧ cI k = k - 132 := by
  unfold cC cI
  rw [if_neg (by omega), if_neg (by omega), if_neg (by omega), if_pos h2, if_neg (by omega), if_pos h2]
  exact ⟨rfl, rfl⟩
theorem cC_d {k : Nat} (h : 136 ≤ k) : cC k = 900 ∧ cI k = (if k = 136 then 6 else if k = 137 then 11 else 14) := by
  unfold cC cI
  rw [if_neg (by omega), if_neg (by omega), if_neg (by omega), if_neg (by omega), if_neg (by omega), if_neg (by omega)]
  exact ⟨rfl, rfl⟩
theorem m_car0 {l : Launch} {k : Nat} {v : Int32} {σ : St} {K : Int32 → St → Prop} (hk : k < 139) (hK : K (σ (cC k) (cI k)) σ) : CallAt l 163 [.ref 900, .int (nI k), .int v, .int (nI 0)] σ K := by
  by_cases h1 : k < 72
  · rw [(cC_a h1).1, (cC_a h1).2] at hK
    exact m_carA (w := k / 12) (i := k % 12) (by omega) (by omega) (by omega) hK
  by_cases h2 : k < 132
  · rw [(cC_b (by omega) h2).1, (cC_b (by omega) h2).2] at hK
    exact m_carC (w := k / 12) (i := k % 12) (by omega) (by omega) (by omega) (by omega) hK
  by_cases h3 : k < 136
  · rw [(cC_c (by omega) h3).1, (cC_c (by omega) h3).2] at hK
    exact m_carE (by omega) h3 hK
  · rw [(cC_d (by omega)).1, (cC_d (by omega)).2] at hK
    exact m_carG (by omega) hK
theorem m_car1 {l : Launch} {k : Nat} {v : Int32} {σ : St} {K : Int32 → St → Prop} (hk : k < 139) (hK : K v (wr σ (cC k) (cI k) v)) : CallAt l 163 [.ref 900, .int (nI k), .int v, .int (nI 1)] σ K := by
  by_cases h1 : k < 72
  · rw [(cC_a h1).1, (cC_a h1).2] at hK
    exact m_carB (w := k / 12) (i := k % 12) (by omega) (by omega) (by omega) hK
  by_cases h2 : k < 132
  · rw [(cC_b (by omega) h2).1, (cC_b (by omega) h2).2] at hK
    exact m_carD (w := k / 12) (i := k % 12) (by omega) (by omega) (by omega) (by omega) hK
  by_cases h3 : k < 136
  · rw [(cC_c (by omega) h3).1, (cC_c (by omega) h3).2] at hK
    exact m_carF (by omega) h3 hK
  · rw [(cC_d (by omega)).1, (cC_d (by omega)).2] at hK
    exact m_carH (by omega) hK
