theorem ln_ge {v : Int32} (h : v = -1 ∨ v = nI 0 ∨ v = nI 1 ∨ v = nI 2) (hn : ¬ v = -1) : (nI 0 ≤ v) = True ∧ (v < nI 0) = False := by
  rcases h with z | rfl | rfl | rfl
  · exact absurd z hn
  · exact ⟨eq_true (by decide), eq_false (by decide)⟩
  · exact ⟨eq_true (by decide), eq_false (by decide)⟩
  · exact ⟨eq_true (by decide), eq_false (by decide)⟩
theorem ln_m1 {v : Int32} (h : v = -1) : (nI 0 ≤ v) = False ∧ (v < nI 0) = True := by
  subst h; exact ⟨eq_false (by decide), eq_true (by decide)⟩
theorem M_copy {l : Launch} {A : AS} {f i t j n : Int32} {σ : St} {K : Int32 → St → Prop} (hM : MX A σ) (hK : ∀ σ', MX (op_copy A f i t j n).2 σ' → FrM σ σ' → K (op_copy A f i t j n).1 σ') : CallAt l 186 [.ref 900, .int f, .int i, .int t, .int j, .int n] σ K := by
  have hw := hM.1.2.2.2
  have hS := hM.2.2.2.2.2
  unfold op_copy at hK
  refine CallAt.of (k := 186) (cd := k_X6_copy) ok_X6_copy (by decide) rfl rfl rfl ?_
  show V _ i_X6_copy k_X6_copy 0 [.ref 900, .int f, .int i, .int t, .int j, .int n, .null] [] _ _
  refine V_run ok_X6_copy 80 0 ?_
  simp (disch := omega) only [eng, c_X6_copy, r_X6_copy, tbl, true_and, Nat.reduceAdd, Nat.reduceLT, ↓reduceIte, n_eq, n_lt, n_le, n_cl, n_inT, nI_add, bI_eq0, bI_eq1, not_true_eq_false, not_false_eq_true, true_implies, false_implies, implies_true, and_true, Bool.not_eq_false, Bool.not_eq_true, Nat.reduceEqDiff, Nat.reduceLeDiff, Classical.not_not, List.length_cons, List.length_nil, Int.reduceAdd, z_cast, Nat.reducePow, false_or, Nat.reduceLT, Nat.sub_zero, Nat.le_refl]
  try simp only [iteP, Classical.not_not, Bool.not_eq_false, Bool.not_eq_true]
  refine m_rI (a := 0) (n := 3) rfl rfl ?_
  rw [← rI0 f 3]
  cases h1 : inB f 4 with
  | false =>
    rw [h1] at hK
    simp (disch := omega) only [n_eq, n_lt, n_le, n_cl, n_inT, nI_add, bI_eq0, bI_eq1, not_true_eq_false, not_false_eq_true, true_implies, false_implies, implies_true, and_true, Bool.not_eq_false, Bool.not_eq_true, Nat.reduceEqDiff, Nat.reduceLeDiff, Classical.not_not, List.length_cons, List.length_nil, Int.reduceAdd, z_cast, Nat.reducePow, false_or, Nat.reduceLT, Nat.sub_zero, Nat.le_refl, true_and, ↓reduceIte, iteP, Bool.false_eq_true]
    exact hK σ hM FrM.rfl'
  | true =>
    rw [h1, Bool.true_and] at hK
    simp (disch := omega) only [n_eq, n_lt, n_le, n_cl, n_inT, nI_add, bI_eq0, bI_eq1, not_true_eq_false, not_false_eq_true, true_implies, false_implies, implies_true, and_true, Bool.not_eq_false, Bool.not_eq_true, Nat.reduceEqDiff, Nat.reduceLeDiff, Classical.not_not, List.length_cons, List.length_nil, Int.reduceAdd, z_cast, Nat.reducePow, false_or, Nat.reduceLT, Nat.sub_zero, Nat.le_refl, true_and, ↓reduceIte, iteP, Bool.true_eq_false]
    refine m_rI (a := 0) (n := 3) rfl rfl ?_
    rw [← rI0 t 3]
    cases h2 : inB t 4 with
    | false =>
      rw [h2] at hK
      simp (disch := omega) only [n_eq, n_lt, n_le, n_cl, n_inT, nI_add, bI_eq0, bI_eq1, not_true_eq_false, not_false_eq_true, true_implies, false_implies, implies_true, and_true, Bool.not_eq_false, Bool.not_eq_true, Nat.reduceEqDiff, Nat.reduceLeDiff, Classical.not_not, List.length_cons, List.length_nil, Int.reduceAdd, z_cast, Nat.reducePow, false_or, Nat.reduceLT, Nat.sub_zero, Nat.le_refl, true_and, ↓reduceIte, iteP, Bool.false_eq_true]
      exact hK σ hM FrM.rfl'
    | true =>
      obtain ⟨f', hf, rfl⟩ := inB_of h1
      obtain ⟨t', ht, rfl⟩ := inB_of h2
      rw [h2, if_pos rfl, n_cl (show f' < 2147483648 by omega), n_cl (show t' < 2147483648 by omega)] at hK
      have ff := (hS.1 f' hf).1
      have ft := (hS.1 t' ht).1
      have zf := (hw f' hf).2
      have zt := (hw t' ht).2
      have z1 := (hS.1 f' hf).2
      have z2 := (hS.1 t' ht).2
      by_cases h3 : A.2.2.2.1 f' = -1
      · rw [if_pos (Or.inl h3)] at hK
        have g := ln_m1 h3
        simp (disch := omega) only [n_eq, n_lt, n_le, n_cl, n_inT, nI_add, bI_eq0, bI_eq1, not_true_eq_false, not_false_eq_true, true_implies, false_implies, implies_true, and_true, Bool.not_eq_false, Bool.not_eq_true, Nat.reduceEqDiff, Nat.reduceLeDiff, Classical.not_not, List.length_cons, List.length_nil, Int.reduceAdd, z_cast, Nat.reducePow, false_or, Nat.reduceLT, Nat.sub_zero, Nat.le_refl, true_and, ↓reduceIte, iteP, Bool.true_eq_false, ff, g]
        exact hK σ hM FrM.rfl'
      have g := ln_ge (hw f' hf).1 h3
      by_cases h4 : A.2.2.2.1 t' = -1
      · rw [if_pos (Or.inr h4)] at hK
        have g2 := ln_m1 h4
        simp (disch := omega) only [n_eq, n_lt, n_le, n_cl, n_inT, nI_add, bI_eq0, bI_eq1, not_true_eq_false, not_false_eq_true, true_implies, false_implies, implies_true, and_true, Bool.not_eq_false, Bool.not_eq_true, Nat.reduceEqDiff, Nat.reduceLeDiff, Classical.not_not, List.length_cons, List.length_nil, Int.reduceAdd, z_cast, Nat.reducePow, false_or, Nat.reduceLT, Nat.sub_zero, Nat.le_refl, true_and, ↓reduceIte, iteP, Bool.true_eq_false, ff, ft, g, g2]
        exact hK σ hM FrM.rfl'
      have g2 := ln_ge (hw t' ht).1 h4
      rw [if_neg (fun z => z.elim h3 h4)] at hK
      by_cases h5 : A.2.2.2.1 f' = A.2.2.2.1 t'
      case neg =>
        rw [if_neg h5] at hK
        simp (disch := omega) only [n_eq, n_lt, n_le, n_cl, n_inT, nI_add, bI_eq0, bI_eq1, not_true_eq_false, not_false_eq_true, true_implies, false_implies, implies_true, and_true, Bool.not_eq_false, Bool.not_eq_true, Nat.reduceEqDiff, Nat.reduceLeDiff, Classical.not_not, List.length_cons, List.length_nil, Int.reduceAdd, z_cast, Nat.reducePow, false_or, Nat.reduceLT, Nat.sub_zero, Nat.le_refl, true_and, ↓reduceIte, iteP, Bool.true_eq_false, ff, ft, g, g2, h5]
        exact hK σ hM FrM.rfl'
      rw [if_pos h5] at hK
      have h5' : (σ 926 f' = σ 926 t') = True := by rw [ff, ft]; exact eq_true h5
      have g' : (nI 0 ≤ σ 926 f') = True ∧ (σ 926 f' < nI 0) = False := by rw [ff]; exact g
      have g2' : (nI 0 ≤ σ 926 t') = True ∧ (σ 926 t' < nI 0) = False := by rw [ft]; exact g2
      by_cases h6 : n < nI 0
      · have e : spB (A.2.2.2.2.1 f') i n = false := by
          unfold spB
          rw [i_lt, nI_nn 0 (by decide)] at h6
          exact decide_eq_false (fun z => by omega)
        rw [e] at hK
        simp (disch := omega) only [n_eq, n_lt, n_le, n_cl, n_inT, nI_add, bI_eq0, bI_eq1, not_true_eq_false, not_false_eq_true, true_implies, false_implies, implies_true, and_true, Bool.not_eq_false, Bool.not_eq_true, Nat.reduceEqDiff, Nat.reduceLeDiff, Classical.not_not, List.length_cons, List.length_nil, Int.reduceAdd, z_cast, Nat.reducePow, false_or, Nat.reduceLT, Nat.sub_zero, Nat.le_refl, true_and, ↓reduceIte, iteP, Bool.true_eq_false, g', g2', h5', h6]
        exact hK σ hM FrM.rfl'
      simp (disch := omega) only [n_eq, n_lt, n_le, n_cl, n_inT, nI_add, bI_eq0, bI_eq1, not_true_eq_false, not_false_eq_true, true_implies, false_implies, implies_true, and_true, Bool.not_eq_false, Bool.not_eq_true, Nat.reduceEqDiff, Nat.reduceLeDiff, Classical.not_not, List.length_cons, List.length_nil, Int.reduceAdd, z_cast, Nat.reducePow, false_or, Nat.reduceLT, Nat.sub_zero, Nat.le_refl, true_and, ↓reduceIte, iteP, Bool.true_eq_false, g', g2', h5', h6, z1]
      refine m_spn zf h6 ?_
      cases h7 : spB (A.2.2.2.2.1 f') i n with
      | false =>
        rw [h7] at hK
        simp (disch := omega) only [n_eq, n_lt, n_le, n_cl, n_inT, nI_add, bI_eq0, bI_eq1, not_true_eq_false, not_false_eq_true, true_implies, false_implies, implies_true, and_true, Bool.not_eq_false, Bool.not_eq_true, Nat.reduceEqDiff, Nat.reduceLeDiff, Classical.not_not, List.length_cons, List.length_nil, Int.reduceAdd, z_cast, Nat.reducePow, false_or, Nat.reduceLT, Nat.sub_zero, Nat.le_refl, true_and, ↓reduceIte, iteP, Bool.false_eq_true]
        exact hK σ hM FrM.rfl'
      | true =>
        rw [h7, Bool.true_and] at hK
        simp (disch := omega) only [n_eq, n_lt, n_le, n_cl, n_inT, nI_add, bI_eq0, bI_eq1, not_true_eq_false, not_false_eq_true, true_implies, false_implies, implies_true, and_true, Bool.not_eq_false, Bool.not_eq_true, Nat.reduceEqDiff, Nat.reduceLeDiff, Classical.not_not, List.length_cons, List.length_nil, Int.reduceAdd, z_cast, Nat.reducePow, false_or, Nat.reduceLT, Nat.sub_zero, Nat.le_refl, true_and, ↓reduceIte, iteP, Bool.true_eq_false, z2]
        refine m_spn zt h6 ?_
        cases h8 : spB (A.2.2.2.2.1 t') j n with
        | false =>
          rw [h8] at hK
          simp (disch := omega) only [n_eq, n_lt, n_le, n_cl, n_inT, nI_add, bI_eq0, bI_eq1, not_true_eq_false, not_false_eq_true, true_implies, false_implies, implies_true, and_true, Bool.not_eq_false, Bool.not_eq_true, Nat.reduceEqDiff, Nat.reduceLeDiff, Classical.not_not, List.length_cons, List.length_nil, Int.reduceAdd, z_cast, Nat.reducePow, false_or, Nat.reduceLT, Nat.sub_zero, Nat.le_refl, true_and, ↓reduceIte, iteP, Bool.false_eq_true]
          exact hK σ hM FrM.rfl'
        | true =>
          rw [h8, if_pos rfl] at hK
          obtain ⟨n', hn, rfl, hn2⟩ := sp_n h7
          obtain ⟨i', rfl, hi2, hi⟩ := sp_of zf hn2 h7
          obtain ⟨j', rfl, hj2, hj⟩ := sp_of zt hn2 h8
          rw [hi2, hj2, n_cl hn2] at hK
          simp (disch := omega) only [n_eq, n_lt, n_le, n_cl, n_inT, nI_add, bI_eq0, bI_eq1, not_true_eq_false, not_false_eq_true, true_implies, false_implies, implies_true, and_true, Bool.not_eq_false, Bool.not_eq_true, Nat.reduceEqDiff, Nat.reduceLeDiff, Classical.not_not, List.length_cons, List.length_nil, Int.reduceAdd, z_cast, Nat.reducePow, false_or, Nat.reduceLT, Nat.sub_zero, Nat.le_refl, true_and, ↓reduceIte, iteP, Bool.true_eq_false]
          refine lp_cp1 l (σ0 := σ) hf (by omega) (fun σ1 q1 q2 => ?_) n' 0 σ (by omega) (fun r hr => absurd hr (Nat.not_lt_zero r)) (fun _ _ => rfl)
          refine lp_cp2 l (σ0 := σ1) (it := A.2.2.2.2.2) (g := fun q => A.2.2.2.2.2 (24 * f' + i' + q)) ht (by omega) (fun q hq => by rw [q1 q hq]; exact hS.2 _ (by omega)) (fun σ2 r1 r2 => ?_) n' 0 σ1 (by omega) (fun r hr => by rw [if_neg (by omega), q2 928 (by decide)]; exact hS.2 r hr) (fun _ _ => rfl)
          have fr : ∀ k, k ≠ 930 → k ≠ 928 → σ2 k = σ k := fun k k1 k2 => by rw [r2 k k2]; exact q2 k k1
          refine hK σ2 (hM.sh (fun k hk => fr k (by omega) (by omega)) hw ⟨fun s' hs' => by rw [fr 926 (by decide) (by decide), fr 927 (by decide) (by decide)]; exact hS.1 s' hs', fun q hq => ?_⟩) (fun k hk => fr k (by omega) (by omega))
          rw [r1 q hq]
          rfl
