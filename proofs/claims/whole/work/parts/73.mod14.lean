theorem lp_cp1 (l : Launch) {f t i j n : Nat} {σ0 : St} {K : Int32 → St → Prop} (hf : f < 4) (hi : i + n ≤ 24) (hN : ∀ σ : St, (∀ q, q < n → σ 930 q = σ0 928 (24 * f + i + q)) → (∀ k, k ≠ 930 → σ k = σ0 k) → V l i_X6_copy k_X6_copy 90 [.ref 900, .int (nI f), .int (nI i), .int (nI t), .int (nI j), .int (nI n), .int (nI 0)] [] σ K) : ∀ (m q : Nat) (σ : St), q + m = n → (∀ r, r < q → σ 930 r = σ0 928 (24 * f + i + r)) → (∀ k, k ≠ 930 → σ k = σ0 k) → V l i_X6_copy k_X6_copy 69 [.ref 900, .int (nI f), .int (nI i), .int (nI t), .int (nI j), .int (nI n), .int (nI q)] [] σ K
  | 0, q, σ, hq, g1, g2 => by
    have hq : q = n := by omega
    subst hq
    refine V_run ok_X6_copy 40 69 ?_
    simp (disch := omega) only [eng, c_X6_copy, r_X6_copy, tbl, true_and, Nat.reduceAdd, Nat.reduceLT, ↓reduceIte, n_eq, n_lt, n_le, n_cl, n_inT, nI_add, bI_eq0, bI_eq1, not_true_eq_false, not_false_eq_true, true_implies, false_implies, implies_true, and_true, Bool.not_eq_false, Bool.not_eq_true, Nat.reduceEqDiff, Nat.reduceLeDiff, Classical.not_not, List.length_cons, List.length_nil, Int.reduceAdd, z_cast, Nat.reducePow, false_or, Nat.reduceLT, Nat.sub_zero, Nat.le_refl]
    try simp only [iteP, Classical.not_not, Bool.not_eq_false, Bool.not_eq_true]
    exact hN σ g1 g2
  | m + 1, q, σ, hq, g1, g2 => by
    have h1 : ¬ n ≤ q := by omega
    refine V_run ok_X6_copy 40 69 ?_
    simp (disch := omega) only [eng, c_X6_copy, r_X6_copy, tbl, true_and, Nat.reduceAdd, Nat.reduceLT, ↓reduceIte, n_eq, n_lt, n_le, n_cl, n_inT, nI_add, bI_eq0, bI_eq1, not_true_eq_false, not_false_eq_true, true_implies, false_implies, implies_true, and_true, Bool.not_eq_false, Bool.not_eq_true, Nat.reduceEqDiff, Nat.reduceLeDiff, Classical.not_not, List.length_cons, List.length_nil, Int.reduceAdd, z_cast, Nat.reducePow, false_or, Nat.reduceLT, Nat.sub_zero, Nat.le_refl, h1, pk_mul]
    try simp only [iteP, Classical.not_not, Bool.not_eq_false, Bool.not_eq_true]
    refine lp_cp1 l hf hi hN m (q + 1) _ (by omega) (fun r hr => ?_) (fun k hk => ?_)
    · rw [g2 928 (by decide)]
      by_cases z : r = q
      · subst z; simp (disch := omega) only [wrq]
      · simp (disch := omega) only [wrq]; exact g1 r (by omega)
    · simp (disch := omega) only [wrq]; exact g2 k hk
theorem lp_cp2 (l : Launch) {f t i j n : Nat} {it g : Nat → Int32} {σ0 : St} {K : Int32 → St → Prop} (ht : t < 4) (hj : j + n ≤ 24) (hg : ∀ q, q < n → σ0 930 q = g q) (hK : ∀ σ : St, (∀ r, r < 96 → σ 928 r = if 24 * t + j ≤ r ∧ r < 24 * t + j + n then g (r - (24 * t + j)) else it r) → (∀ k, k ≠ 928 → σ k = σ0 k) → K (nI n) σ) : ∀ (m q : Nat) (σ : St), q + m = n → (∀ r, r < 96 → σ 928 r = if 24 * t + j ≤ r ∧ r < 24 * t + j + q then g (r - (24 * t + j)) else it r) → (∀ k, k ≠ 928 → σ k = σ0 k) → V l i_X6_copy k_X6_copy 90 [.ref 900, .int (nI f), .int (nI i), .int (nI t), .int (nI j), .int (nI n), .int (nI q)] [] σ K
  | 0, q, σ, hq, g1, g2 => by
    have hq : q = n := by omega
    subst hq
    refine V_run ok_X6_copy 40 90 ?_
    simp (disch := omega) only [eng, c_X6_copy, r_X6_copy, tbl, true_and, Nat.reduceAdd, Nat.reduceLT, ↓reduceIte, n_eq, n_lt, n_le, n_cl, n_inT, nI_add, bI_eq0, bI_eq1, not_true_eq_false, not_false_eq_true, true_implies, false_implies, implies_true, and_true, Bool.not_eq_false, Bool.not_eq_true, Nat.reduceEqDiff, Nat.reduceLeDiff, Classical.not_not, List.length_cons, List.length_nil, Int.reduceAdd, z_cast, Nat.reducePow, false_or, Nat.reduceLT, Nat.sub_zero, Nat.le_refl]
    try simp only [iteP, Classical.not_not, Bool.not_eq_false, Bool.not_eq_true]
    exact hK σ g1 g2
  | m + 1, q, σ, hq, g1, g2 => by
    have h1 : ¬ n ≤ q := by omega
    have fq : σ 930 q = g q := by rw [g2 930 (by decide)]; exact hg q (by omega)
    refine V_run ok_X6_copy 40 90 ?_
    simp (disch := omega) only [eng, c_X6_copy, r_X6_copy, tbl, true_and, Nat.reduceAdd, Nat.reduceLT, ↓reduceIte, n_eq, n_lt, n_le, n_cl, n_inT, nI_add, bI_eq0, bI_eq1, not_true_eq_false, not_false_eq_true, true_implies, false_implies, implies_true, and_true, Bool.not_eq_false, Bool.not_eq_true, Nat.reduceEqDiff, Nat.reduceLeDiff, Classical.not_not, List.length_cons, List.length_nil, Int.reduceAdd, z_cast, Nat.reducePow, false_or, Nat.reduceLT, Nat.sub_zero, Nat.le_refl, h1, pk_mul, fq]
    try simp only [iteP, Classical.not_not, Bool.not_eq_false, Bool.not_eq_true]
    refine lp_cp2 l ht hj hg hK m (q + 1) _ (by omega) (fun r hr => ?_) (fun k hk => ?_)
    · by_cases z : r = 24 * t + j + q
      · subst z
        rw [if_pos (by omega)]
        simp (disch := omega) only [wrq]
        congr 1
        omega
      · simp (disch := omega) only [wrq]
        rw [g1 r hr]
        by_cases z2 : 24 * t + j ≤ r ∧ r < 24 * t + j + q
        · rw [if_pos z2, if_pos (by omega)]
        · rw [if_neg z2, if_neg (by omega)]
    · simp (disch := omega) only [wrq]; exact g2 k hk
theorem m_spn {l : Launch} {z : Nat} {i n : Int32} {σ : St} {K : Int32 → St → Prop} (hz : z ≤ 24) (hn : ¬ n < nI 0) (hK : K (bI (spB z i n)) σ) : CallAt l 108 [.long i.toInt64, .long 0, .long ((nI z).toInt64 - n.toInt64)] σ K := by
  refine m_in ?_
  have hn' : 0 ≤ n.toInt := by rw [i_lt, nI_nn 0 (by decide)] at hn; omega
  have h2 : n.toInt < 2 ^ 31 := Int32.toInt_lt n
  have e2 : ((nI z).toInt64 - n.toInt64).toInt = (z : Int) - n.toInt := by
    rw [Int64.toInt_sub, Int32.toInt_toInt64, Int32.toInt_toInt64, nI_nn z (by omega)]
    exact Int.bmod_eq_of_le (by omega) (by omega)
  have e : decide ((0 : Int64).toInt ≤ i.toInt64.toInt ∧ i.toInt64.toInt ≤ ((nI z).toInt64 - n.toInt64).toInt) = spB z i n := by
    rw [Int32.toInt_toInt64, e2]
    unfold spB
    congr 1
    apply propext
    show (0 : Int) ≤ _ ∧ _ ↔ _
    omega
  rw [e]; exact hK
