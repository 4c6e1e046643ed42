theorem m_isSheet {l : Launch} {x y : Int32} {σ : St} {K : Int32 → St → Prop} (hK : K (bI (inB x 4 && inB y 3)) σ) : CallAt l 174 [.int x, .int y] σ K := by
  rw [rI0 x 3, rI0 y 2] at hK
  refine CallAt.of (k := 174) (cd := k_X6_isSheet) ok_X6_isSheet (by decide) rfl rfl rfl ?_
  show V _ i_X6_isSheet k_X6_isSheet 0 [.int x, .int y] [] _ _
  refine V_run ok_X6_isSheet 40 0 ?_
  simp (disch := omega) only [eng, c_X6_isSheet, r_X6_isSheet, tbl, true_and, Nat.reduceAdd, Nat.reduceLT, ↓reduceIte, n_eq, n_lt, n_le, n_cl, n_inT, nI_add, bI_eq0, bI_eq1, not_true_eq_false, not_false_eq_true, true_implies, false_implies, implies_true, and_true, Bool.not_eq_false, Bool.not_eq_true, Nat.reduceEqDiff, Nat.reduceLeDiff, Classical.not_not, List.length_cons, List.length_nil, Int.reduceAdd, z_cast, Nat.reducePow, false_or, Nat.reduceLT, Nat.sub_zero, Nat.le_refl]
  try simp only [iteP, Classical.not_not, Bool.not_eq_false, Bool.not_eq_true]
  refine m_rI (a := 0) (n := 3) rfl rfl ?_
  cases h1 : rI x 0 3 with
  | false =>
    rw [h1] at hK
    simp (disch := omega) only [n_eq, n_lt, n_le, n_cl, n_inT, nI_add, bI_eq0, bI_eq1, not_true_eq_false, not_false_eq_true, true_implies, false_implies, implies_true, and_true, Bool.not_eq_false, Bool.not_eq_true, Nat.reduceEqDiff, Nat.reduceLeDiff, Classical.not_not, List.length_cons, List.length_nil, Int.reduceAdd, z_cast, Nat.reducePow, false_or, Nat.reduceLT, Nat.sub_zero, Nat.le_refl, true_and, ↓reduceIte, iteP, Bool.false_eq_true]
    exact hK
  | true =>
    rw [h1, Bool.true_and] at hK
    simp (disch := omega) only [n_eq, n_lt, n_le, n_cl, n_inT, nI_add, bI_eq0, bI_eq1, not_true_eq_false, not_false_eq_true, true_implies, false_implies, implies_true, and_true, Bool.not_eq_false, Bool.not_eq_true, Nat.reduceEqDiff, Nat.reduceLeDiff, Classical.not_not, List.length_cons, List.length_nil, Int.reduceAdd, z_cast, Nat.reducePow, false_or, Nat.reduceLT, Nat.sub_zero, Nat.le_refl, true_and, ↓reduceIte, iteP, Bool.true_eq_false]
    refine m_rI (a := 0) (n := 2) rfl rfl ?_
    cases h2 : rI y 0 2
    all_goals
      rw [h2] at hK
      simp (disch := omega) only [n_eq, n_lt, n_le, n_cl, n_inT, nI_add, bI_eq0, bI_eq1, not_true_eq_false, not_false_eq_true, true_implies, false_implies, implies_true, and_true, Bool.not_eq_false, Bool.not_eq_true, Nat.reduceEqDiff, Nat.reduceLeDiff, Classical.not_not, List.length_cons, List.length_nil, Int.reduceAdd, z_cast, Nat.reducePow, false_or, Nat.reduceLT, Nat.sub_zero, Nat.le_refl, true_and, ↓reduceIte, iteP, Bool.true_eq_false, Bool.false_eq_true]
      exact hK
theorem MX.sh {A : AS} {ln : Nat → Int32} {z : Nat → Nat} {it : Nat → Int32} {σ σ' : St} (h : MX A σ) (hf : ∀ k, k < 926 → σ' k = σ k) (hw : SWf ln z) (hS : (∀ s, s < 4 → σ' 926 s = ln s ∧ σ' 927 s = nI (z s)) ∧ ∀ j, j < 96 → σ' 928 j = it j) : MX (setS A ln z it) σ' := by
  obtain ⟨a1, a2, a3, a4, a5, a6⟩ := h
  refine ⟨⟨a1.1, a1.2.1, a1.2.2.1, hw⟩, ?_, by rw [hf 900 (by omega)]; exact a3, fun E' he => (a4 E' he).frame (hf 924 (by omega)), ⟨by rw [hf 900 (by omega)]; exact a5.1, fun i hi => by rw [hf 916 (by omega)]; exact a5.2 i hi⟩, hS⟩
  obtain ⟨b1, b2, b3, b4, b5, b6⟩ := a2
  exact ⟨by rw [hf 900 (by omega)]; exact b1, by rw [hf 900 (by omega)]; exact b2, by rw [hf 900 (by omega)]; exact b3, fun p hp => by rw [hf 901 (by omega), hf 902 (by omega), hf 903 (by omega), hf 904 (by omega), hf 905 (by omega), hf 906 (by omega)]; exact b4 p hp, fun t ht => by rw [hf 908 (by omega), hf 909 (by omega), hf 910 (by omega), hf 911 (by omega)]; exact b5 t ht, fun k hk => by rw [hf 914 (by omega), hf 913 (by omega)]; exact b6 k hk⟩
theorem m_lacks {l : Launch} {s y N z : Nat} {f ln : Int32} {σ : St} {K : Int32 → St → Prop} (hs : s < 4) (hy : y < 3) (hN : N ≤ 12) (hz : z ≤ 24) (hln : ln = -1 ∨ ln = nI 0 ∨ ln = nI 1 ∨ ln = nI 2) (h1 : σ 926 s = ln) (h2 : σ 927 s = nI z) (hK : K (if ln = -1 then -11 else if ln = nI y then (if spB z f (nI N) = true then nI 0 else -13) else -12) σ) : CallAt l 177 [.ref 900, .int (nI s), .int (nI y), .int f, .int (nI N)] σ K := by
  by_cases q : ln = nI y
  · have hne : ¬ ln = -1 := by
      intro z; rw [z] at q
      rcases (show y = 0 ∨ y = 1 ∨ y = 2 by omega) with rfl | rfl | rfl <;> exact absurd q (by decide)
    rw [if_neg hne, if_pos q] at hK
    rw [q] at h1
    refine CallAt.of (k := 177) (cd := k_X6_lacksRow) ok_X6_lacksRow (by decide) rfl rfl rfl ?_
    show V _ i_X6_lacksRow k_X6_lacksRow 0 [.ref 900, .int (nI s), .int (nI y), .int f, .int (nI N)] [] _ _
    refine V_run ok_X6_lacksRow 60 0 ?_
    simp (disch := omega) only [eng, c_X6_lacksRow, r_X6_lacksRow, tbl, true_and, Nat.reduceAdd, Nat.reduceLT, ↓reduceIte, n_eq, n_lt, n_le, n_cl, n_inT, nI_add, bI_eq0, bI_eq1, not_true_eq_false, not_false_eq_true, true_implies, false_implies, implies_true, and_true, Bool.not_eq_false, Bool.not_eq_true, Nat.reduceEqDiff, Nat.reduceLeDiff, Classical.not_not, List.length_cons, List.length_nil, Int.reduceAdd, z_cast, Nat.reducePow, false_or, Nat.reduceLT, Nat.sub_zero, Nat.le_refl, h1, h2]
    try simp only [iteP, Classical.not_not, Bool.not_eq_false, Bool.not_eq_true]
    refine m_in ?_
    have e : decide ((0 : Int64).toInt ≤ f.toInt64.toInt ∧ f.toInt64.toInt ≤ (nI z - nI N).toInt64.toInt) = spB z f (nI N) := by
      rw [Int32.toInt_toInt64, Int32.toInt_toInt64, i_sub hz (by rw [nI_nn N (by omega)]; omega), nI_nn N (by omega)]
      unfold spB
      rw [nI_nn N (by omega)]
      congr 1
      apply propext
      show (0 : Int) ≤ _ ∧ _ ↔ _
      omega
    rw [e]
    cases h3 : spB z f (nI N)
    all_goals
      rw [h3] at hK
      simp (disch := omega) only [n_eq, n_lt, n_le, n_cl, n_inT, nI_add, bI_eq0, bI_eq1, not_true_eq_false, not_false_eq_true, true_implies, false_implies, implies_true, and_true, Bool.not_eq_false, Bool.not_eq_true, Nat.reduceEqDiff, Nat.reduceLeDiff, Classical.not_not, List.length_cons, List.length_nil, Int.reduceAdd, z_cast, Nat.reducePow, false_or, Nat.reduceLT, Nat.sub_zero, Nat.le_refl, true_and, ↓reduceIte, iteP, Bool.true_eq_false, Bool.false_eq_true]
      exact hK
  · have q' : ¬ σ 926 s = nI y := by rw [h1]; exact q
    by_cases hm : ln = -1
    · have hge : (nI 0 ≤ σ 926 s) = False := by rw [h1, hm]; exact eq_false (by decide)
      rw [if_pos hm] at hK
      refine CallAt.of (k := 177) (cd := k_X6_lacksRow) ok_X6_lacksRow (by decide) rfl rfl rfl ?_
      show V _ i_X6_lacksRow k_X6_lacksRow 0 [.ref 900, .int (nI s), .int (nI y), .int f, .int (nI N)] [] _ _
      refine V_run ok_X6_lacksRow 60 0 ?_
      simp (disch := omega) only [eng, c_X6_lacksRow, r_X6_lacksRow, tbl, true_and, Nat.reduceAdd, Nat.reduceLT, ↓reduceIte, n_eq, n_lt, n_le, n_cl, n_inT, nI_add, bI_eq0, bI_eq1, not_true_eq_false, not_false_eq_true, true_implies, false_implies, implies_true, and_true, Bool.not_eq_false, Bool.not_eq_true, Nat.reduceEqDiff, Nat.reduceLeDiff, Classical.not_not, List.length_cons, List.length_nil, Int.reduceAdd, z_cast, Nat.reducePow, false_or, Nat.reduceLT, Nat.sub_zero, Nat.le_refl, q', hge]
      try simp only [iteP, Classical.not_not, Bool.not_eq_false, Bool.not_eq_true]
      exact hK
    · have hge : (nI 0 ≤ σ 926 s) = True := by
        rw [h1]
        rcases hln with z | rfl | rfl | rfl
        · exact absurd z hm
        · exact eq_true (by decide)
        · exact eq_true (by decide)
        · exact eq_true (by decide)
      rw [if_neg hm, if_neg q] at hK
      refine CallAt.of (k := 177) (cd := k_X6_lacksRow) ok_X6_lacksRow (by decide) rfl rfl rfl ?_
      show V _ i_X6_lacksRow k_X6_lacksRow 0 [.ref 900, .int (nI s), .int (nI y), .int f, .int (nI N)] [] _ _
      refine V_run ok_X6_lacksRow 60 0 ?_
      simp (disch := omega) only [eng, c_X6_lacksRow, r_X6_lacksRow, tbl, true_and, Nat.reduceAdd, Nat.reduceLT, ↓reduceIte, n_eq, n_lt, n_le, n_cl, n_inT, nI_add, bI_eq0, bI_eq1, not_true_eq_false, not_false_eq_true, true_implies, false_implies, implies_true, and_true, Bool.not_eq_false, Bool.not_eq_true, Nat.reduceEqDiff, Nat.reduceLeDiff, Classical.not_not, List.length_cons, List.length_nil, Int.reduceAdd, z_cast, Nat.reducePow, false_or, Nat.reduceLT, Nat.sub_zero, Nat.le_refl, q', hge]
      try simp only [iteP, Classical.not_not, Bool.not_eq_false, Bool.not_eq_true]
      exact hK
theorem M_drop {l : Launch} {A : AS} {x : Int32} {σ : St} {K : Int32 → St → Prop} (hM : MX A σ) (hK : ∀ σ', MX (op_drop A x).2 σ' → FrM σ σ' → K (op_drop A x).1 σ') : CallAt l 176 [.ref 900, .int x] σ K := by
  have hw := hM.1.2.2.2
  have hS := hM.2.2.2.2.2
  unfold op_drop at hK
  refine CallAt.of (k := 176) (cd := k_X6_drop) ok_X6_drop (by decide) rfl rfl rfl ?_
  show V _ i_X6_drop k_X6_drop 0 [.ref 900, .int x] [] _ _
  refine V_run ok_X6_drop 60 0 ?_
  simp (disch := omega) only [eng, c_X6_drop, r_X6_drop, tbl, true_and, Nat.reduceAdd, Nat.reduceLT, ↓reduceIte, n_eq, n_lt, n_le, n_cl, n_inT, nI_add, bI_eq0, bI_eq1, not_true_eq_false, not_false_eq_true, true_implies, false_implies, implies_true, and_true, Bool.not_eq_false, Bool.not_eq_true, Nat.reduceEqDiff, Nat.reduceLeDiff, Classical.not_not, List.length_cons, List.length_nil, Int.reduceAdd, z_cast, Nat.reducePow, false_or, Nat.reduceLT, Nat.sub_zero, Nat.le_refl]
  try simp only [iteP, Classical.not_not, Bool.not_eq_false, Bool.not_eq_true]
  refine m_rI (a := 0) (n := 3) rfl rfl ?_
  rw [← rI0 x 3]
  cases h1 : inB x 4 with
  | false =>
    rw [h1] at hK
    simp (disch := omega) only [n_eq, n_lt, n_le, n_cl, n_inT, nI_add, bI_eq0, bI_eq1, not_true_eq_false, not_false_eq_true, true_implies, false_implies, implies_true, and_true, Bool.not_eq_false, Bool.not_eq_true, Nat.reduceEqDiff, Nat.reduceLeDiff, Classical.not_not, List.length_cons, List.length_nil, Int.reduceAdd, z_cast, Nat.reducePow, false_or, Nat.reduceLT, Nat.sub_zero, Nat.le_refl, true_and, ↓reduceIte, iteP, Bool.false_eq_true]
    exact hK σ hM FrM.rfl'
  | true =>
    obtain ⟨s, hs, rfl⟩ := inB_of h1
    rw [h1, if_pos rfl, n_cl (by omega)] at hK
    have fl := (hS.1 s hs).1
    have fz := (hS.1 s hs).2
    by_cases h : A.2.2.2.1 s = -1
    · rw [if_pos h] at hK
      have hge : (nI 0 ≤ σ 926 s) = False := by rw [fl, h]; exact eq_false (by decide)
      simp (disch := omega) only [n_eq, n_lt, n_le, n_cl, n_inT, nI_add, bI_eq0, bI_eq1, not_true_eq_false, not_false_eq_true, true_implies, false_implies, implies_true, and_true, Bool.not_eq_false, Bool.not_eq_true, Nat.reduceEqDiff, Nat.reduceLeDiff, Classical.not_not, List.length_cons, List.length_nil, Int.reduceAdd, z_cast, Nat.reducePow, false_or, Nat.reduceLT, Nat.sub_zero, Nat.le_refl, true_and, ↓reduceIte, iteP, Bool.true_eq_false, hge]
      exact hK σ hM FrM.rfl'
    · rw [if_neg h] at hK
      have hge : (nI 0 ≤ σ 926 s) = True := by
        rw [fl]
        rcases (hw s hs).1 with z | z | z | z
        · exact absurd z h
        · rw [z]; exact eq_true (by decide)
        · rw [z]; exact eq_true (by decide)
        · rw [z]; exact eq_true (by decide)
      simp (disch := omega) only [n_eq, n_lt, n_le, n_cl, n_inT, nI_add, bI_eq0, bI_eq1, not_true_eq_false, not_false_eq_true, true_implies, false_implies, implies_true, and_true, Bool.not_eq_false, Bool.not_eq_true, Nat.reduceEqDiff, Nat.reduceLeDiff, Classical.not_not, List.length_cons, List.length_nil, Int.reduceAdd, z_cast, Nat.reducePow, false_or, Nat.reduceLT, Nat.sub_zero, Nat.le_refl, true_and, ↓reduceIte, iteP, Bool.true_eq_false, hge, fz, wrq]
      refine hK _ (hM.sh (fun k hk => wr_ne k (by omega)) (fun s' hs' => ⟨?_, (hw s' hs').2⟩) ⟨fun s' hs' => ⟨?_, ?_⟩, fun j hj => by rw [wr_ne 928 (by decide)]; exact hS.2 j hj⟩) (FrM.rfl'.wr (by decide))
      · unfold ui
        split
        · exact Or.inl rfl
        · exact (hw s' hs').1
      · unfold ui
        by_cases z : s' = s
        · rw [if_pos z, z]; simp [wr_at]
        · rw [if_neg z]; have := (hS.1 s' hs').1; simp [wr_at, z, this]
      · rw [wr_ne 927 (by decide)]; exact (hS.1 s' hs').2
theorem lk_in {ln : Nat → Int32} {z : Nat → Nat} {s y : Nat} {f n : Int32} (hs : s < 4) (hy : y < 3) : lkR ln z (nI s) (nI y) f n = (if ln s = -1 then -11 else if ln s = nI y then (if spB (z s) f n = true then nI 0 else -13) else -12) := by
  unfold lkR
  rw [inB_n (by omega), inB_n (by omega), decide_eq_true hs, decide_eq_true hy, Bool.and_self, if_pos rfl, n_cl (by omega)]
theorem lk_out {ln : Nat → Int32} {z : Nat → Nat} {x y f n : Int32} (h : (inB x 4 && inB y 3) = false) : lkR ln z x y f n = -1 := by
  unfold lkR
  rw [h]; rfl
theorem lk_neg {ln : Nat → Int32} {z : Nat → Nat} {x y f n : Int32} (h : ¬ lkR ln z x y f n = nI 0) : lkR ln z x y f n = -1 ∨ lkR ln z x y f n = -11 ∨ lkR ln z x y f n = -12 ∨ lkR ln z x y f n = -13 := by
  unfold lkR at h ⊢
  split
  · split
    · exact Or.inr (Or.inl rfl)
    · split
      · split
        · rename_i a b c d; rw [if_pos a, if_neg b, if_pos c, if_pos d] at h; exact absurd rfl h
        · exact Or.inr (Or.inr (Or.inr rfl))
      · exact Or.inr (Or.inr (Or.inl rfl))
  · exact Or.inl rfl
theorem lk_ge {v : Int32} (h : v = -1 ∨ v = -11 ∨ v = -12 ∨ v = -13) : (nI 0 ≤ v) = False ∧ (v < nI 0) = True := by
  rcases h with rfl | rfl | rfl | rfl <;> exact ⟨eq_false (by decide), eq_true (by decide)⟩
