theorem M_item {l : Launch} {A : AS} {x y i v : Int32} {σ : St} {K : Int32 → St → Prop} (hM : MX A σ) (hK : ∀ σ', MX (op_item A x y i v).2 σ' → FrM σ σ' → K (op_item A x y i v).1 σ') : CallAt l 178 [.ref 900, .int x, .int y, .int i, .int v] σ K := by
  have hw := hM.1.2.2.2
  have hS := hM.2.2.2.2.2
  unfold op_item at hK
  refine CallAt.of (k := 178) (cd := k_X6_item) ok_X6_item (by decide) rfl rfl rfl ?_
  show V _ i_X6_item k_X6_item 0 [.ref 900, .int x, .int y, .int i, .int v, .null] [] _ _
  refine V_run ok_X6_item 80 0 ?_
  simp (disch := omega) only [eng, c_X6_item, r_X6_item, tbl, true_and, Nat.reduceAdd, Nat.reduceLT, ↓reduceIte, n_eq, n_lt, n_le, n_cl, n_inT, nI_add, bI_eq0, bI_eq1, not_true_eq_false, not_false_eq_true, true_implies, false_implies, implies_true, and_true, Bool.not_eq_false, Bool.not_eq_true, Nat.reduceEqDiff, Nat.reduceLeDiff, Classical.not_not, List.length_cons, List.length_nil, Int.reduceAdd, z_cast, Nat.reducePow, false_or, Nat.reduceLT, Nat.sub_zero, Nat.le_refl]
  try simp only [iteP, Classical.not_not, Bool.not_eq_false, Bool.not_eq_true]
  refine m_isSheet ?_
  cases h0 : (inB x 4 && inB y 3) with
  | false =>
    rw [lk_out h0, if_neg (by decide)] at hK
    simp (disch := omega) only [n_eq, n_lt, n_le, n_cl, n_inT, nI_add, bI_eq0, bI_eq1, not_true_eq_false, not_false_eq_true, true_implies, false_implies, implies_true, and_true, Bool.not_eq_false, Bool.not_eq_true, Nat.reduceEqDiff, Nat.reduceLeDiff, Classical.not_not, List.length_cons, List.length_nil, Int.reduceAdd, z_cast, Nat.reducePow, false_or, Nat.reduceLT, Nat.sub_zero, Nat.le_refl, true_and, ↓reduceIte, iteP, Bool.false_eq_true]
    exact hK σ hM FrM.rfl'
  | true =>
    rw [Bool.and_eq_true] at h0
    obtain ⟨s, hs, rfl⟩ := inB_of h0.1
    obtain ⟨y', hy, rfl⟩ := inB_of h0.2
    simp (disch := omega) only [n_eq, n_lt, n_le, n_cl, n_inT, nI_add, bI_eq0, bI_eq1, not_true_eq_false, not_false_eq_true, true_implies, false_implies, implies_true, and_true, Bool.not_eq_false, Bool.not_eq_true, Nat.reduceEqDiff, Nat.reduceLeDiff, Classical.not_not, List.length_cons, List.length_nil, Int.reduceAdd, z_cast, Nat.reducePow, false_or, Nat.reduceLT, Nat.sub_zero, Nat.le_refl, true_and, ↓reduceIte, iteP, Bool.true_eq_false]
    refine m_lacks (N := 1) (z := A.2.2.2.2.1 s) hs hy (by decide) (hw s hs).2 (hw s hs).1 (hS.1 s hs).1 (hS.1 s hs).2 ?_
    rw [← lk_in (ln := A.2.2.2.1) (z := A.2.2.2.2.1) hs hy]
    by_cases h : lkR A.2.2.2.1 A.2.2.2.2.1 (nI s) (nI y') i (nI 1) = nI 0
    · rw [if_pos h] at hK
      obtain ⟨s2, hs2, e1, e2, hln, -, hsp⟩ := lk_of hw h
      rw [n_cl (by omega)] at e2
      subst e2
      obtain ⟨a, rfl, ha2, ha⟩ := sp_of (hw s hs).2 (by decide) hsp
      have hz24 := (hw s hs).2
      rw [n_cl (show s < 2147483648 by omega), ha2] at hK
      rw [h]
      have fin : K (nI 1) (wr σ 928 (24 * s + a) (cvt (nI y') v)) := by
        refine hK _ (hM.sh (fun k hk => wr_ne k (by omega)) hw ⟨fun s' hs' => by rw [wr_ne 926 (by decide), wr_ne 927 (by decide)]; exact hS.1 s' hs', fun j hj => ?_⟩) (FrM.rfl'.wr (by decide))
        unfold ui
        by_cases z : j = 24 * s + a
        · rw [if_pos z, z]; simp [wr_at]
        · rw [if_neg z]; have := hS.2 j hj; simp [wr_at, z, this]
      rcases (show y' = 0 ∨ y' = 1 ∨ y' = 2 by omega) with rfl | rfl | rfl
      · have e : cvt (nI 0) v = v.toInt8.toInt32 := rfl
        rw [e, ← shl24] at fin
        simp (disch := omega) only [n_eq, n_lt, n_le, n_cl, n_inT, nI_add, bI_eq0, bI_eq1, not_true_eq_false, not_false_eq_true, true_implies, false_implies, implies_true, and_true, Bool.not_eq_false, Bool.not_eq_true, Nat.reduceEqDiff, Nat.reduceLeDiff, Classical.not_not, List.length_cons, List.length_nil, Int.reduceAdd, z_cast, Nat.reducePow, false_or, Nat.reduceLT, Nat.sub_zero, Nat.le_refl, true_and, ↓reduceIte, iteP, Nat.le_refl, pk_mul]
        exact fin
      · have e : cvt (nI 1) v = v.toInt16.toInt32 := rfl
        rw [e, ← shl16] at fin
        simp (disch := omega) only [n_eq, n_lt, n_le, n_cl, n_inT, nI_add, bI_eq0, bI_eq1, not_true_eq_false, not_false_eq_true, true_implies, false_implies, implies_true, and_true, Bool.not_eq_false, Bool.not_eq_true, Nat.reduceEqDiff, Nat.reduceLeDiff, Classical.not_not, List.length_cons, List.length_nil, Int.reduceAdd, z_cast, Nat.reducePow, false_or, Nat.reduceLT, Nat.sub_zero, Nat.le_refl, true_and, ↓reduceIte, iteP, Nat.le_refl, pk_mul]
        exact fin
      · have e : cvt (nI 2) v = v := rfl
        rw [e] at fin
        simp (disch := omega) only [n_eq, n_lt, n_le, n_cl, n_inT, nI_add, bI_eq0, bI_eq1, not_true_eq_false, not_false_eq_true, true_implies, false_implies, implies_true, and_true, Bool.not_eq_false, Bool.not_eq_true, Nat.reduceEqDiff, Nat.reduceLeDiff, Classical.not_not, List.length_cons, List.length_nil, Int.reduceAdd, z_cast, Nat.reducePow, false_or, Nat.reduceLT, Nat.sub_zero, Nat.le_refl, true_and, ↓reduceIte, iteP, Nat.le_refl, pk_mul]
        exact fin
    · rw [if_neg h] at hK
      have hg := lk_ge (lk_neg h)
      simp (disch := omega) only [n_eq, n_lt, n_le, n_cl, n_inT, nI_add, bI_eq0, bI_eq1, not_true_eq_false, not_false_eq_true, true_implies, false_implies, implies_true, and_true, Bool.not_eq_false, Bool.not_eq_true, Nat.reduceEqDiff, Nat.reduceLeDiff, Classical.not_not, List.length_cons, List.length_nil, Int.reduceAdd, z_cast, Nat.reducePow, false_or, Nat.reduceLT, Nat.sub_zero, Nat.le_refl, true_and, ↓reduceIte, iteP, hg]
      exact hK σ hM FrM.rfl'
