theorem x_known {l : Launch} {b n : Nat} {x : Int32} {σ : St} {K : Int32 → St → Prop} (hb : Eb b) (hn : σ b 0 = nI n) (h31 : n ≤ 12) (hK : K (bI (inB x n)) σ) : CallAt l 3 [.ref b, .int x] σ K := by
  refine CallAt.of (k := 3) (cd := k_X0_known) ok_X0_known (by decide) rfl rfl rfl ?_
  show V _ i_X0_known k_X0_known 0 [.ref b, .int x] [] _ _
  refine V_run ok_X0_known 50 0 ?_
  simp (disch := omega) only [eng, c_X0_known, r_X0_known, tbl, true_and, Nat.reduceAdd, Nat.reduceLT, ↓reduceIte, n_eq, n_lt, n_le, n_cl, n_inT, nI_add, bI_eq0, bI_eq1, not_true_eq_false, not_false_eq_true, true_implies, false_implies, implies_true, and_true, Bool.not_eq_false, Bool.not_eq_true, Nat.reduceEqDiff, Nat.reduceLeDiff, Classical.not_not, List.length_cons, List.length_nil, Int.reduceAdd, z_cast, Nat.reducePow, false_or, Nat.reduceLT, Nat.sub_zero, Nat.le_refl, ebT hb, hn]
  try simp only [iteP, Classical.not_not, Bool.not_eq_false, Bool.not_eq_true]
  refine ⟨fun h => ?_, fun h => ⟨fun h2 => ?_, fun h2 => ?_⟩⟩
  · rw [inB_neg h] at hK; exact hK
  · rw [inB_big (by omega) h2] at hK; exact hK
  · rw [inB_ok (by omega) h h2] at hK; exact hK
theorem x_isThing {l : Launch} {b n : Nat} {x : Int32} {σ : St} {K : Int32 → St → Prop} (hb : Eb b) (hn : σ b 7 = nI n) (h31 : n ≤ 12) (hK : K (bI (inB x n)) σ) : CallAt l 6 [.ref b, .int x] σ K := by
  refine CallAt.of (k := 6) (cd := k_X0_isThing) ok_X0_isThing (by decide) rfl rfl rfl ?_
  show V _ i_X0_isThing k_X0_isThing 0 [.ref b, .int x] [] _ _
  refine V_run ok_X0_isThing 50 0 ?_
  simp (disch := omega) only [eng, c_X0_isThing, r_X0_isThing, tbl, true_and, Nat.reduceAdd, Nat.reduceLT, ↓reduceIte, n_eq, n_lt, n_le, n_cl, n_inT, nI_add, bI_eq0, bI_eq1, not_true_eq_false, not_false_eq_true, true_implies, false_implies, implies_true, and_true, Bool.not_eq_false, Bool.not_eq_true, Nat.reduceEqDiff, Nat.reduceLeDiff, Classical.not_not, List.length_cons, List.length_nil, Int.reduceAdd, z_cast, Nat.reducePow, false_or, Nat.reduceLT, Nat.sub_zero, Nat.le_refl, ebT hb, hn]
  try simp only [iteP, Classical.not_not, Bool.not_eq_false, Bool.not_eq_true]
  refine ⟨fun h => ?_, fun h => ⟨fun h2 => ?_, fun h2 => ?_⟩⟩
  · rw [inB_neg h] at hK; exact hK
  · rw [inB_big (by omega) h2] at hK; exact hK
  · rw [inB_ok (by omega) h h2] at hK; exact hK
theorem x_isKind {l : Launch} {x : Int32} {σ : St} {K : Int32 → St → Prop} (hK : K (bI (inB x 4)) σ) : CallAt l 104 [.int x] σ K := by
  refine CallAt.of (k := 104) (cd := k_X5_isKind) ok_X5_isKind (by decide) rfl rfl rfl ?_
  show V _ i_X5_isKind k_X5_isKind 0 [.int x] [] _ _
  refine V_run ok_X5_isKind 50 0 ?_
  simp (disch := omega) only [eng, c_X5_isKind, r_X5_isKind, tbl, true_and, Nat.reduceAdd, Nat.reduceLT, ↓reduceIte, n_eq, n_lt, n_le, n_cl, n_inT, nI_add, bI_eq0, bI_eq1, not_true_eq_false, not_false_eq_true, true_implies, false_implies, implies_true, and_true, Bool.not_eq_false, Bool.not_eq_true, Nat.reduceEqDiff, Nat.reduceLeDiff, Classical.not_not, List.length_cons, List.length_nil, Int.reduceAdd, z_cast, Nat.reducePow, false_or, Nat.reduceLT, Nat.sub_zero, Nat.le_refl]
  try simp only [iteP, Classical.not_not, Bool.not_eq_false, Bool.not_eq_true]
  refine ⟨fun h => ?_, fun h => ⟨fun h2 => ?_, fun h2 => ?_⟩⟩
  · rw [inB_neg h] at hK; exact hK
  · rw [inB_big (by omega) h2] at hK; exact hK
  · rw [inB_ok (by omega) h h2] at hK; exact hK
theorem x_has {l : Launch} {m j : Nat} {σ : St} {K : Int32 → St → Prop} (hm : m < 2147483648) (hj : j < 32) (hK : K (bI (m.testBit j)) σ) : CallAt l 103 [.int (nI m), .int (nI j)] σ K := by
  refine CallAt.of (k := 103) (cd := k_X5_has) ok_X5_has (by decide) rfl rfl rfl ?_
  show V _ i_X5_has k_X5_has 0 [.int (nI m), .int (nI j)] [] _ _
  refine V_run ok_X5_has 50 0 ?_
  simp (disch := omega) only [eng, c_X5_has, r_X5_has, tbl, true_and, Nat.reduceAdd, Nat.reduceLT, ↓reduceIte, n_eq, n_lt, n_le, n_cl, n_inT, nI_add, bI_eq0, bI_eq1, not_true_eq_false, not_false_eq_true, true_implies, false_implies, implies_true, and_true, Bool.not_eq_false, Bool.not_eq_true, Nat.reduceEqDiff, Nat.reduceLeDiff, Classical.not_not, List.length_cons, List.length_nil, Int.reduceAdd, z_cast, Nat.reducePow, false_or, Nat.reduceLT, Nat.sub_zero, Nat.le_refl, n_has hm hj]
  try simp only [iteP, Classical.not_not, Bool.not_eq_false, Bool.not_eq_true]
  cases h : m.testBit j
  · rw [h] at hK; exact ⟨fun _ => hK, fun q => absurd q (by simp)⟩
  · rw [h] at hK; exact ⟨fun q => absurd q (by simp), fun _ => hK⟩
theorem x_hasOther {l : Launch} {k : Nat} {σ : St} {K : Int32 → St → Prop} (hk : k < 4) (hK : K (bI (k == 1 || k == 2)) σ) : CallAt l 105 [.int (nI k)] σ K := by
  refine CallAt.of (k := 105) (cd := k_X5_hasOtherSide) ok_X5_hasOtherSide (by decide) rfl rfl rfl ?_
  show V _ i_X5_hasOtherSide k_X5_hasOtherSide 0 [.int (nI k)] [] _ _
  refine V_run ok_X5_hasOtherSide 50 0 ?_
  simp (disch := omega) only [eng, c_X5_hasOtherSide, r_X5_hasOtherSide, tbl, true_and, Nat.reduceAdd, Nat.reduceLT, ↓reduceIte, n_eq, n_lt, n_le, n_cl, n_inT, nI_add, bI_eq0, bI_eq1, not_true_eq_false, not_false_eq_true, true_implies, false_implies, implies_true, and_true, Bool.not_eq_false, Bool.not_eq_true, Nat.reduceEqDiff, Nat.reduceLeDiff, Classical.not_not, List.length_cons, List.length_nil, Int.reduceAdd, z_cast, Nat.reducePow, false_or, Nat.reduceLT, Nat.sub_zero, Nat.le_refl]
  try simp only [iteP, Classical.not_not, Bool.not_eq_false, Bool.not_eq_true]
  rcases (show k = 0 ∨ k = 1 ∨ k = 2 ∨ k = 3 by omega) with rfl | rfl | rfl | rfl <;> simp <;> exact hK
theorem x_isOf {l : Launch} {b n : Nat} {x : Int32} {w : Nat} {sx : Nat → Nat} {σ : St} {K : Int32 → St → Prop} (hb : Eb b) (hn : σ b 0 = nI n) (h31 : n ≤ 12) (hs : ∀ p, p < n → σ (b + 3) p = nI (sx p) ∧ sx p ≤ 1) (hw : w ≤ 1) (hK : K (bI (inB x n && sx x.toNatClampNeg == w)) σ) : CallAt l 5 [.ref b, .int x, .int (nI w)] σ K := by
  refine CallAt.of (k := 5) (cd := k_X0_isOf) ok_X0_isOf (by decide) rfl rfl rfl ?_
  show V _ i_X0_isOf k_X0_isOf 0 [.ref b, .int x, .int (nI w)] [] _ _
  refine V_run ok_X0_isOf 50 0 ?_
  simp (disch := omega) only [eng, c_X0_isOf, r_X0_isOf, tbl, true_and, Nat.reduceAdd, Nat.reduceLT, ↓reduceIte, n_eq, n_lt, n_le, n_cl, n_inT, nI_add, bI_eq0, bI_eq1, not_true_eq_false, not_false_eq_true, true_implies, false_implies, implies_true, and_true, Bool.not_eq_false, Bool.not_eq_true, Nat.reduceEqDiff, Nat.reduceLeDiff, Classical.not_not, List.length_cons, List.length_nil, Int.reduceAdd, z_cast, Nat.reducePow, false_or, Nat.reduceLT, Nat.sub_zero, Nat.le_refl, ebT hb]
  try simp only [iteP, Classical.not_not, Bool.not_eq_false, Bool.not_eq_true]
  refine x_known hb hn h31 ?_
  simp only [bI_eq0, Bool.not_eq_false]
  refine ⟨fun h => ?_, fun h1 => ?_⟩
  · rw [h] at hK; exact hK
  · obtain ⟨j, hj, rfl⟩ := inB_of h1
    have := hs j hj
    simp (disch := omega) only [n_eq, n_lt, n_le, n_cl, n_inT, nI_add, bI_eq0, bI_eq1, not_true_eq_false, not_false_eq_true, true_implies, false_implies, implies_true, and_true, Bool.not_eq_false, Bool.not_eq_true, Nat.reduceEqDiff, Nat.reduceLeDiff, Classical.not_not, List.length_cons, List.length_nil, Int.reduceAdd, z_cast, Nat.reducePow, false_or, Nat.reduceLT, Nat.sub_zero, Nat.le_refl, this, true_and]
    simp (disch := omega) only [h1, n_cl, Bool.true_and] at hK
    refine ⟨fun h2 => ?_, fun h2 => ?_⟩
    · rw [show (sx j == w) = false by simpa using h2] at hK; exact hK
    · rw [show (sx j == w) = true by simpa using h2] at hK; exact hK
