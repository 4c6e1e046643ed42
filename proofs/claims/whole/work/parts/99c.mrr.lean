theorem lp_digS (l : Launch) {tp : Nat → Nat} {ln q k i r : Nat} {c kd' : Int32} {v6 : Value} {W : Nat × Nat × Nat} {σ0 σ : St} {K : Int32 → St → Prop} (hw : TpW tp ln) (hS : RM tp ln q σ) (hk : k ≤ 3) (hi : i ≤ 3) (hr : r < 8 ^ i) (hi0 : i = 0 ∨ rowG r i 0 0 = true) (hD : DgS k i r σ0 σ) (hF : FrY σ0 σ)
    (hW : ¬ (i < 3 ∧ 48 ≤ cN tp ln (nb tp ln q) ∧ cN tp ln (nb tp ln q) ≤ 53 ∧ rowG (r + (cN tp ln (nb tp ln q) - 48) * 8 ^ i) (i + 1) 0 0 = true) → W = (i, r, nb tp ln q))
    (h0 : (W.1 = 0 ∨ (48 ≤ cN tp ln W.2.2 ∧ cN tp ln W.2.2 ≤ 57)) → ∀ σ' q', RM tp ln q' σ' → nb tp ln q' = W.2.2 → FrY σ0 σ' → K (nI 0) σ')
    (h1 : ¬ (W.1 = 0 ∨ (48 ≤ cN tp ln W.2.2 ∧ cN tp ln W.2.2 ≤ 57)) → ∀ σ' q' (v4 : Int32) (v6 : Value), RM tp ln q' σ' → nb tp ln q' = W.2.2 → FrY σ0 σ' → DgS k W.1 W.2.1 σ0 σ' → V l i_X6_readRule k_X6_readRule 116 [.ref 900, .int (nI k), .int c, .int kd', .int v4, .int (nI W.1), v6] [] σ' K)
    (h2 : i < 3 → 48 ≤ cN tp ln (nb tp ln q) → cN tp ln (nb tp ln q) ≤ 53 → rowG (r + (cN tp ln (nb tp ln q) - 48) * 8 ^ i) (i + 1) 0 0 = true → ∀ σ', RM tp ln (nb tp ln q + 1) σ' → DgS k (i + 1) (r + (cN tp ln (nb tp ln q) - 48) * 8 ^ i) σ0 σ' → FrY σ0 σ' → ∀ v6, V l i_X6_readRule k_X6_readRule 62 [.ref 900, .int (nI k), .int c, .int kd', .int (nI (rset (r + (cN tp ln (nb tp ln q) - 48) * 8 ^ i) (i + 1))), .int (nI (i + 1)), v6] [] σ' K) : V l i_X6_readRule k_X6_readRule 62 [.ref 900, .int (nI k), .int c, .int kd', .int (nI (rset r i)), .int (nI i), v6] [] σ K := by
  have hp := nb_le (tp := tp) hS.2.2.2
  have hnn := nb_nb (tp := tp) hS.2.2.2
  have hS1 := hS.pl hp.2
  have hD1 : DgS k i r σ0 (wr σ 900 17 (nI (nb tp ln q))) := hD.pl
  have hF1 : FrY σ0 (wr σ 900 17 (nI (nb tp ln q))) := hF.pl
  by_cases z : i = 0
  · subst z
    refine V_run ok_X6_readRule 4 62 ?_
    simp (disch := omega) only [eng, c_X6_readRule, r_X6_readRule, tbl, true_and, Nat.reduceAdd, Nat.reduceLT, ↓reduceIte, n_eq, n_lt, n_le, n_cl, n_inT, nI_add, bI_eq0, bI_eq1, not_true_eq_false, not_false_eq_true, true_implies, false_implies, implies_true, and_true, Bool.not_eq_false, Bool.not_eq_true, Nat.reduceEqDiff, Nat.reduceLeDiff, Classical.not_not, List.length_cons, List.length_nil, Int.reduceAdd, z_cast, Nat.reducePow, false_or, Nat.reduceLT, Nat.sub_zero, Nat.le_refl]
    try simp only [iteP, Classical.not_not, Bool.not_eq_false, Bool.not_eq_true]
    refine m_nextB hw hS ?_
    refine m_dig l (i := 0) (r := r) (p := nb tp ln q) hw hS1 hk hi hr hi0 hD1 hF1 (fun y => ?_) h2
    have hW := hW y
    subst hW
    exact h0 (Or.inl rfl) _ _ hS1 hnn hF1
  · refine V_run ok_X6_readRule 4 62 ?_
    simp (disch := omega) only [eng, c_X6_readRule, r_X6_readRule, tbl, true_and, Nat.reduceAdd, Nat.reduceLT, ↓reduceIte, n_eq, n_lt, n_le, n_cl, n_inT, nI_add, bI_eq0, bI_eq1, not_true_eq_false, not_false_eq_true, true_implies, false_implies, implies_true, and_true, Bool.not_eq_false, Bool.not_eq_true, Nat.reduceEqDiff, Nat.reduceLeDiff, Classical.not_not, List.length_cons, List.length_nil, Int.reduceAdd, z_cast, Nat.reducePow, false_or, Nat.reduceLT, Nat.sub_zero, Nat.le_refl, z]
    try simp only [iteP, Classical.not_not, Bool.not_eq_false, Bool.not_eq_true]
    refine m_nextB hw hS ?_
    refine V_run ok_X6_readRule 4 66 ?_
    simp (disch := omega) only [eng, c_X6_readRule, r_X6_readRule, tbl, true_and, Nat.reduceAdd, Nat.reduceLT, ↓reduceIte, n_eq, n_lt, n_le, n_cl, n_inT, nI_add, bI_eq0, bI_eq1, not_true_eq_false, not_false_eq_true, true_implies, false_implies, implies_true, and_true, Bool.not_eq_false, Bool.not_eq_true, Nat.reduceEqDiff, Nat.reduceLeDiff, Classical.not_not, List.length_cons, List.length_nil, Int.reduceAdd, z_cast, Nat.reducePow, false_or, Nat.reduceLT, Nat.sub_zero, Nat.le_refl]
    try simp only [iteP, Classical.not_not, Bool.not_eq_false, Bool.not_eq_true]
    refine m_rI (a := 48) (n := 57) rfl rfl ?_
    rw [rI_dig hw]
    by_cases y : 48 ≤ cN tp ln (nb tp ln q) ∧ cN tp ln (nb tp ln q) ≤ 57
    · rw [decide_eq_true y]
      refine V_run ok_X6_readRule 3 70 ?_
      simp (disch := omega) only [eng, c_X6_readRule, r_X6_readRule, tbl, true_and, Nat.reduceAdd, Nat.reduceLT, ↓reduceIte, n_eq, n_lt, n_le, n_cl, n_inT, nI_add, bI_eq0, bI_eq1, not_true_eq_false, not_false_eq_true, true_implies, false_implies, implies_true, and_true, Bool.not_eq_false, Bool.not_eq_true, Nat.reduceEqDiff, Nat.reduceLeDiff, Classical.not_not, List.length_cons, List.length_nil, Int.reduceAdd, z_cast, Nat.reducePow, false_or, Nat.reduceLT, Nat.sub_zero, Nat.le_refl, Bool.true_eq_false]
      try simp only [iteP, Classical.not_not, Bool.not_eq_false, Bool.not_eq_true]
      refine m_nextB hw hS1 ?_
      rw [wr_wr, hnn]
      refine m_dig l (i := i) (r := r) (p := nb tp ln q) hw hS1 hk hi hr hi0 hD1 hF1 (fun x => ?_) h2
      have hW := hW x
      subst hW
      exact h0 (Or.inr y) _ _ hS1 hnn hF1
    · rw [decide_eq_false y]
      have hW := hW (fun x => y ⟨x.2.1, by omega⟩)
      subst hW
      refine V_run ok_X6_readRule 1 70 ?_
      simp (disch := omega) only [eng, c_X6_readRule, r_X6_readRule, tbl, true_and, Nat.reduceAdd, Nat.reduceLT, ↓reduceIte, n_eq, n_lt, n_le, n_cl, n_inT, nI_add, bI_eq0, bI_eq1, not_true_eq_false, not_false_eq_true, true_implies, false_implies, implies_true, and_true, Bool.not_eq_false, Bool.not_eq_true, Nat.reduceEqDiff, Nat.reduceLeDiff, Classical.not_not, List.length_cons, List.length_nil, Int.reduceAdd, z_cast, Nat.reducePow, false_or, Nat.reduceLT, Nat.sub_zero, Nat.le_refl, Bool.false_eq_true]
      try simp only [iteP, Classical.not_not, Bool.not_eq_false, Bool.not_eq_true]
      exact h1 (fun x => by rcases x with x | x; exact z x; exact y x) _ _ _ _ hS1 hnn hF1 hD1
theorem lp_dig (l : Launch) {tp : Nat → Nat} {ln k : Nat} {c kd' : Int32} {W : Nat × Nat × Nat} {σ0 : St} {K : Int32 → St → Prop} (hw : TpW tp ln) (hk : k ≤ 3)
    (h0 : (W.1 = 0 ∨ (48 ≤ cN tp ln W.2.2 ∧ cN tp ln W.2.2 ≤ 57)) → ∀ σ' q', RM tp ln q' σ' → nb tp ln q' = W.2.2 → FrY σ0 σ' → K (nI 0) σ')
    (h1 : ¬ (W.1 = 0 ∨ (48 ≤ cN tp ln W.2.2 ∧ cN tp ln W.2.2 ≤ 57)) → ∀ σ' q' (v4 : Int32) (v6 : Value), RM tp ln q' σ' → nb tp ln q' = W.2.2 → FrY σ0 σ' → DgS k W.1 W.2.1 σ0 σ' → V l i_X6_readRule k_X6_readRule 116 [.ref 900, .int (nI k), .int c, .int kd', .int v4, .int (nI W.1), v6] [] σ' K) : ∀ (f i r q : Nat) (σ : St) (v6 : Value), i + f = 3 → r < 8 ^ i → (i = 0 ∨ rowG r i 0 0 = true) → RM tp ln q σ → DgS k i r σ0 σ → FrY σ0 σ → rwF tp ln f i r (nb tp ln q) = W → V l i_X6_readRule k_X6_readRule 62 [.ref 900, .int (nI k), .int c, .int kd', .int (nI (rset r i)), .int (nI i), v6] [] σ K
  | 0, i, r, q, σ, v6, hi, hr, hi0, hS, hD, hF, hW => by
    refine lp_digS l hw hS hk (by omega) hr hi0 hD hF (fun _ => hW.symm) h0 h1 (fun x => absurd x (by omega))
  | f + 1, i, r, q, σ, v6, hi, hr, hi0, hS, hD, hF, hW => by
    unfold rwF at hW
    refine lp_digS l hw hS hk (by omega) hr hi0 hD hF (fun y => ?_) h0 h1 (fun x1 x2 x3 x4 σ' g1 g2 g3 v6 => ?_)
    · rw [if_neg (fun z => y ⟨by omega, z⟩)] at hW
      exact hW.symm
    · rw [if_pos ⟨x2, x3, x4⟩] at hW
      exact lp_dig l hw hk h0 h1 f (i + 1) _ (nb tp ln q + 1) σ' v6 (by omega) (row_lt x1 hr (by omega)) (Or.inr x4) g1 g2 g3 hW
theorem lp_dup (l : Launch) {k kk : Nat} {c : Int32} {kf : Nat → Nat} {v5 v6 : Value} {σ : St} {K : Int32 → St → Prop} (hk : k ≤ 3) (hkk : kk < 4) (hkf : ∀ i, i < k → σ 920 (5 * i) = nI (kf i) ∧ kf i < 4) (h0 : (∃ i, i < k ∧ kf i = kk) → K (nI 0) σ) (h1 : (¬ ∃ i, i < k ∧ kf i = kk) → V l i_X6_readRule k_X6_readRule 46 [.ref 900, .int (nI k), .int c, .int (nI kk), .int (nI k), v5, v6] [] σ K) : ∀ (n i : Nat), i + n = k → (∀ j, j < i → kf j ≠ kk) → V l i_X6_readRule k_X6_readRule 31 [.ref 900, .int (nI k), .int c, .int (nI kk), .int (nI i), v5, v6] [] σ K
  | 0, i, hi, hj => by
    have hi : i = k := by omega
    subst hi
    refine V_run ok_X6_readRule 3 31 ?_
    simp (disch := omega) only [eng, c_X6_readRule, r_X6_readRule, tbl, true_and, Nat.reduceAdd, Nat.reduceLT, ↓reduceIte, n_eq, n_lt, n_le, n_cl, n_inT, nI_add, bI_eq0, bI_eq1, not_true_eq_false, not_false_eq_true, true_implies, false_implies, implies_true, and_true, Bool.not_eq_false, Bool.not_eq_true, Nat.reduceEqDiff, Nat.reduceLeDiff, Classical.not_not, List.length_cons, List.length_nil, Int.reduceAdd, z_cast, Nat.reducePow, false_or, Nat.reduceLT, Nat.sub_zero, Nat.le_refl]
    try simp only [iteP, Classical.not_not, Bool.not_eq_false, Bool.not_eq_true]
    exact h1 (fun ⟨j, z1, z2⟩ => hj j z1 z2)
  | n + 1, i, hi, hj => by
    have z : ¬ k ≤ i := by omega
    have f := hkf i (by omega)
    by_cases y : kf i = kk
    · refine V_run ok_X6_readRule 30 31 ?_
      simp (disch := omega) only [eng, c_X6_readRule, r_X6_readRule, tbl, true_and, Nat.reduceAdd, Nat.reduceLT, ↓reduceIte, n_eq, n_lt, n_le, n_cl, n_inT, nI_add, bI_eq0, bI_eq1, not_true_eq_false, not_false_eq_true, true_implies, false_implies, implies_true, and_true, Bool.not_eq_false, Bool.not_eq_true, Nat.reduceEqDiff, Nat.reduceLeDiff, Classical.not_not, List.length_cons, List.length_nil, Int.reduceAdd, z_cast, Nat.reducePow, false_or, Nat.reduceLT, Nat.sub_zero, Nat.le_refl, z, pk_mul, f, y]
      try simp only [iteP, Classical.not_not, Bool.not_eq_false, Bool.not_eq_true]
      exact h0 ⟨i, by omega, y⟩
    · refine V_run ok_X6_readRule 30 31 ?_
      simp (disch := omega) only [eng, c_X6_readRule, r_X6_readRule, tbl, true_and, Nat.reduceAdd, Nat.reduceLT, ↓reduceIte, n_eq, n_lt, n_le, n_cl, n_inT, nI_add, bI_eq0, bI_eq1, not_true_eq_false, not_false_eq_true, true_implies, false_implies, implies_true, and_true, Bool.not_eq_false, Bool.not_eq_true, Nat.reduceEqDiff, Nat.reduceLeDiff, Classical.not_not, List.length_cons, List.length_nil, Int.reduceAdd, z_cast, Nat.reducePow, false_or, Nat.reduceLT, Nat.sub_zero, Nat.le_refl, z, pk_mul, f, y]
      try simp only [iteP, Classical.not_not, Bool.not_eq_false, Bool.not_eq_true]
      exact lp_dup l hk hkk hkf h0 h1 n (i + 1) (by omega) (fun j h => by
        by_cases x : j = i
        · rw [x]; exact y
        · exact hj j (by omega))
theorem m_readRule {l : Launch} {tp : Nat → Nat} {ln q k s : Nat} {kf : Nat → Nat} {σ : St} {K : Int32 → St → Prop} (hw : TpW tp ln) (hS : RM tp ln q σ) (hk : k ≤ 3) (hkf : ∀ i, i < k → σ 920 (5 * i) = nI (kf i) ∧ kf i < 4) (hs : ∀ x, x < 4 → (s.testBit x = true ↔ ∃ i, i < k ∧ kf i = x))
    (hF1 : ¬ (kd (cN tp ln (nb tp ln q)) < 4 ∧ s.testBit (kd (cN tp ln (nb tp ln q))) = false) → ∀ σ' q', RM tp ln q' σ' → nb tp ln q' = nb tp ln q → FrY σ σ' → K (nI 0) σ')
    (hF2 : (kd (cN tp ln (nb tp ln q)) < 4 ∧ s.testBit (kd (cN tp ln (nb tp ln q))) = false) → cN tp ln (nb tp ln (nb tp ln q + 1)) ≠ 58 → ∀ σ' q', RM tp ln q' σ' → nb tp ln q' = nb tp ln (nb tp ln q + 1) → FrY σ σ' → K (nI 0) σ')
    (hF3 : (kd (cN tp ln (nb tp ln q)) < 4 ∧ s.testBit (kd (cN tp ln (nb tp ln q))) = false) → cN tp ln (nb tp ln (nb tp ln q + 1)) = 58 → ∀ W, rwF tp ln 3 0 0 (nb tp ln (nb tp ln (nb tp ln q + 1) + 1)) = W → (W.1 = 0 ∨ (48 ≤ cN tp ln W.2.2 ∧ cN tp ln W.2.2 ≤ 57)) → ∀ σ' q', RM tp ln q' σ' → nb tp ln q' = W.2.2 → FrY σ σ' → K (nI 0) σ')
    (hK : (kd (cN tp ln (nb tp ln q)) < 4 ∧ s.testBit (kd (cN tp ln (nb tp ln q))) = false) → cN tp ln (nb tp ln (nb tp ln q + 1)) = 58 → ∀ W, rwF tp ln 3 0 0 (nb tp ln (nb tp ln (nb tp ln q + 1) + 1)) = W → ¬ (W.1 = 0 ∨ (48 ≤ cN tp ln W.2.2 ∧ cN tp ln W.2.2 ≤ 57)) → ∀ σ' q', RM tp ln q' σ' → nb tp ln q' = W.2.2 → FrY σ σ' → σ' 920 (5 * k) = nI (kd (cN tp ln (nb tp ln q))) → σ' 920 (5 * k + 1) = nI W.1 → (∀ j, j < W.1 → σ' 920 (5 * k + 2 + j) = nI (W.2.1 / 8 ^ j % 8)) → (∀ x, x < 5 * k → σ' 920 x = σ 920 x) → K (nI 1) σ') : CallAt l 143 [.ref 900, .int (nI k)] σ K := by
  have hp := nb_le (tp := tp) hS.2.2.2
  have hnn := nb_nb (tp := tp) hS.2.2.2
  have hS1 := hS.pl hp.2
  have a1 := cZ_eq (c := 108) hw (nb tp ln q) (by decide) (by decide)
  have a2 := cZ_eq (c := 100) hw (nb tp ln q) (by decide) (by decide)
  have a3 := cZ_eq (c := 113) hw (nb tp ln q) (by decide) (by decide)
  have a4 := cZ_eq (c := 106) hw (nb tp ln q) (by decide) (by decide)
  have main : ∀ kk, kd (cN tp ln (nb tp ln q)) = kk → kk < 4 → cN tp ln (nb tp ln q) ≠ 0 → ∀ c v5 v6, V l i_X6_readRule k_X6_readRule 31 [.ref 900, .int (nI k), .int c, .int (nI kk), .int (nI 0), v5, v6] [] (wr σ 900 17 (nI (nb tp ln q))) K := fun kk hkk hk4 hc0 c v5 v6 => by
    rw [hkk] at hF1 hF2 hF3 hK
    have hpl : nb tp ln q + 1 ≤ ln := nb_lt (c := cN tp ln (nb tp ln q)) (by omega) rfl
    have hp2 := nb_le (tp := tp) hpl
    refine lp_dup l hk hk4 (kf := kf) (fun i hi => by rw [wr_ne 920 (by decide)]; exact hkf i hi) (fun z => ?_) (fun z => ?_) k 0 (by omega) (fun j hj => absurd hj (Nat.not_lt_zero j))
    · refine hF1 (fun y => ?_) _ _ hS1 hnn FrY.rfl'.pl
      rw [(hs kk hk4).mpr z] at y
      exact absurd y.2 (by decide)
    · have hseen : s.testBit kk = false := by
        cases h : s.testBit kk with
        | false => rfl
        | true => exact absurd ((hs kk hk4).mp h) z
      have p17 := hS1.2.2.1
      refine V_run ok_X6_readRule 9 46 ?_
      simp (disch := omega) only [eng, c_X6_readRule, r_X6_readRule, tbl, true_and, Nat.reduceAdd, Nat.reduceLT, ↓reduceIte, n_eq, n_lt, n_le, n_cl, n_inT, nI_add, bI_eq0, bI_eq1, not_true_eq_false, not_false_eq_true, true_implies, false_implies, implies_true, and_true, Bool.not_eq_false, Bool.not_eq_true, Nat.reduceEqDiff, Nat.reduceLeDiff, Classical.not_not, List.length_cons, List.length_nil, Int.reduceAdd, z_cast, Nat.reducePow, false_or, Nat.reduceLT, Nat.sub_zero, Nat.le_refl, p17, wr_wr]
      try simp only [iteP, Classical.not_not, Bool.not_eq_false, Bool.not_eq_true]
      have hS2 := hS.pl hpl
      refine m_takes hw hS2 (by decide) (by decide) (fun y => ?_) (fun y => ?_)
      · refine V_run ok_X6_readRule 10 55 ?_
        simp (disch := omega) only [eng, c_X6_readRule, r_X6_readRule, tbl, true_and, Nat.reduceAdd, Nat.reduceLT, ↓reduceIte, n_eq, n_lt, n_le, n_cl, n_inT, nI_add, bI_eq0, bI_eq1, not_true_eq_false, not_false_eq_true, true_implies, false_implies, implies_true, and_true, Bool.not_eq_false, Bool.not_eq_true, Nat.reduceEqDiff, Nat.reduceLeDiff, Classical.not_not, List.length_cons, List.length_nil, Int.reduceAdd, z_cast, Nat.reducePow, false_or, Nat.reduceLT, Nat.sub_zero, Nat.le_refl]
        try simp only [iteP, Classical.not_not, Bool.not_eq_false, Bool.not_eq_true]
        rw [wr_wr]
        exact hF2 ⟨hk4, hseen⟩ y _ _ (hS.pl hp2.2) (nb_nb hpl) FrY.rfl'.pl
      · have hpl2 := nb_lt (by decide) y
        rw [wr_wr]
        refine V_run ok_X6_readRule 10 55 ?_
        simp (disch := omega) only [eng, c_X6_readRule, r_X6_readRule, tbl, true_and, Nat.reduceAdd, Nat.reduceLT, ↓reduceIte, n_eq, n_lt, n_le, n_cl, n_inT, nI_add, bI_eq0, bI_eq1, not_true_eq_false, not_false_eq_true, true_implies, false_implies, implies_true, and_true, Bool.not_eq_false, Bool.not_eq_true, Nat.reduceEqDiff, Nat.reduceLeDiff, Classical.not_not, List.length_cons, List.length_nil, Int.reduceAdd, z_cast, Nat.reducePow, false_or, Nat.reduceLT, Nat.sub_zero, Nat.le_refl]
        try simp only [iteP, Classical.not_not, Bool.not_eq_false, Bool.not_eq_true]
        have F3 := hF3 ⟨hk4, hseen⟩ y _ rfl
        have K3 := hK ⟨hk4, hseen⟩ y _ rfl
        refine lp_dig l (σ0 := σ) (W := rwF tp ln 3 0 0 (nb tp ln (nb tp ln (nb tp ln q + 1) + 1))) hw hk F3 (fun hW σ' q' v4 v6 g1 g2 g3 g4 => ?_) 3 0 0 (nb tp ln (nb tp ln q + 1) + 1) _ _ (by omega) (by decide) (Or.inl rfl) (hS.pl hpl2) ⟨fun j hj => absurd hj (Nat.not_lt_zero j), fun x hx => by rw [wr_ne 920 (by decide)]⟩ FrY.rfl'.pl rfl
        generalize rwF tp ln 3 0 0 (nb tp ln (nb tp ln (nb tp ln q + 1) + 1)) = W at *
        refine V_run ok_X6_readRule 30 116 ?_
        simp (disch := omega) only [eng, c_X6_readRule, r_X6_readRule, tbl, true_and, Nat.reduceAdd, Nat.reduceLT, ↓reduceIte, n_eq, n_lt, n_le, n_cl, n_inT, nI_add, bI_eq0, bI_eq1, not_true_eq_false, not_false_eq_true, true_implies, false_implies, implies_true, and_true, Bool.not_eq_false, Bool.not_eq_true, Nat.reduceEqDiff, Nat.reduceLeDiff, Classical.not_not, List.length_cons, List.length_nil, Int.reduceAdd, z_cast, Nat.reducePow, false_or, Nat.reduceLT, Nat.sub_zero, Nat.le_refl, pk_mul]
        try simp only [iteP, Classical.not_not, Bool.not_eq_false, Bool.not_eq_true]
        refine K3 hW _ q' g1.rd.rd g2 g3.rd.rd ?_ ?_ (fun j hj => ?_) (fun x hx => ?_)
        · simp (disch := omega) only [wrq]
        · simp (disch := omega) only [wrq]
        · simp (disch := omega) only [wrq]; exact g4.1 j hj
        · simp (disch := omega) only [wrq]; exact g4.2 x hx
  refine CallAt.of (k := 143) (cd := k_X6_readRule) ok_X6_readRule (by decide) rfl rfl rfl ?_
  show V _ i_X6_readRule k_X6_readRule 0 [.ref 900, .int (nI k), .null, .null, .null, .null, .null] [] _ _
  refine V_run ok_X6_readRule 2 0 ?_
  simp (disch := omega) only [eng, c_X6_readRule, r_X6_readRule, tbl, true_and, Nat.reduceAdd, Nat.reduceLT, ↓reduceIte, n_eq, n_lt, n_le, n_cl, n_inT, nI_add, bI_eq0, bI_eq1, not_true_eq_false, not_false_eq_true, true_implies, false_implies, implies_true, and_true, Bool.not_eq_false, Bool.not_eq_true, Nat.reduceEqDiff, Nat.reduceLeDiff, Classical.not_not, List.length_cons, List.length_nil, Int.reduceAdd, z_cast, Nat.reducePow, false_or, Nat.reduceLT, Nat.sub_zero, Nat.le_refl]
  try simp only [iteP, Classical.not_not, Bool.not_eq_false, Bool.not_eq_true]
  refine m_nextB hw hS ?_
  by_cases z1 : cN tp ln (nb tp ln q) = 108
  · have a1 : (cZ tp ln (nb tp ln q) = nI 108) = True := by rw [a1]; exact eq_true z1
    refine V_run ok_X6_readRule 40 2 ?_
    simp (disch := omega) only [eng, c_X6_readRule, r_X6_readRule, tbl, true_and, Nat.reduceAdd, Nat.reduceLT, ↓reduceIte, n_eq, n_lt, n_le, n_cl, n_inT, nI_add, bI_eq0, bI_eq1, not_true_eq_false, not_false_eq_true, true_implies, false_implies, implies_true, and_true, Bool.not_eq_false, Bool.not_eq_true, Nat.reduceEqDiff, Nat.reduceLeDiff, Classical.not_not, List.length_cons, List.length_nil, Int.reduceAdd, z_cast, Nat.reducePow, false_or, Nat.reduceLT, Nat.sub_zero, Nat.le_refl, a1, Nat.zero_le, Nat.le_refl]
    try simp only [iteP, Classical.not_not, Bool.not_eq_false, Bool.not_eq_true]
    exact main 0 (by unfold kd; rw [if_pos z1]) (by decide) (by omega) _ _ _
  have a1 : (cZ tp ln (nb tp ln q) = nI 108) = False := by rw [a1]; exact eq_false z1
  by_cases z2 : cN tp ln (nb tp ln q) = 100
  · have a2 : (cZ tp ln (nb tp ln q) = nI 100) = True := by rw [a2]; exact eq_true z2
    refine V_run ok_X6_readRule 40 2 ?_
    simp (disch := omega) only [eng, c_X6_readRule, r_X6_readRule, tbl, true_and, Nat.reduceAdd, Nat.reduceLT, ↓reduceIte, n_eq, n_lt, n_le, n_cl, n_inT, nI_add, bI_eq0, bI_eq1, not_true_eq_false, not_false_eq_true, true_implies, false_implies, implies_true, and_true, Bool.not_eq_false, Bool.not_eq_true, Nat.reduceEqDiff, Nat.reduceLeDiff, Classical.not_not, List.length_cons, List.length_nil, Int.reduceAdd, z_cast, Nat.reducePow, false_or, Nat.reduceLT, Nat.sub_zero, Nat.le_refl, a1, a2, Nat.zero_le]
    try simp only [iteP, Classical.not_not, Bool.not_eq_false, Bool.not_eq_true]
    exact main 1 (by unfold kd; rw [if_neg z1, if_pos z2]) (by decide) (by omega) _ _ _
  have a2 : (cZ tp ln (nb tp ln q) = nI 100) = False := by rw [a2]; exact eq_false z2
  by_cases z3 : cN tp ln (nb tp ln q) = 113
  · have a3 : (cZ tp ln (nb tp ln q) = nI 113) = True := by rw [a3]; exact eq_true z3
    refine V_run ok_X6_readRule 40 2 ?_
    simp (disch := omega) only [eng, c_X6_readRule, r_X6_readRule, tbl, true_and, Nat.reduceAdd, Nat.reduceLT, ↓reduceIte, n_eq, n_lt, n_le, n_cl, n_inT, nI_add, bI_eq0, bI_eq1, not_true_eq_false, not_false_eq_true, true_implies, false_implies, implies_true, and_true, Bool.not_eq_false, Bool.not_eq_true, Nat.reduceEqDiff, Nat.reduceLeDiff, Classical.not_not, List.length_cons, List.length_nil, Int.reduceAdd, z_cast, Nat.reducePow, false_or, Nat.reduceLT, Nat.sub_zero, Nat.le_refl, a1, a2, a3, Nat.zero_le]
    try simp only [iteP, Classical.not_not, Bool.not_eq_false, Bool.not_eq_true]
    exact main 2 (by unfold kd; rw [if_neg z1, if_neg z2, if_pos z3]) (by decide) (by omega) _ _ _
  have a3 : (cZ tp ln (nb tp ln q) = nI 113) = False := by rw [a3]; exact eq_false z3
  by_cases z4 : cN tp ln (nb tp ln q) = 106
  · have a4 : (cZ tp ln (nb tp ln q) = nI 106) = True := by rw [a4]; exact eq_true z4
    refine V_run ok_X6_readRule 40 2 ?_
    simp (disch := omega) only [eng, c_X6_readRule, r_X6_readRule, tbl, true_and, Nat.reduceAdd, Nat.reduceLT, ↓reduceIte, n_eq, n_lt, n_le, n_cl, n_inT, nI_add, bI_eq0, bI_eq1, not_true_eq_false, not_false_eq_true, true_implies, false_implies, implies_true, and_true, Bool.not_eq_false, Bool.not_eq_true, Nat.reduceEqDiff, Nat.reduceLeDiff, Classical.not_not, List.length_cons, List.length_nil, Int.reduceAdd, z_cast, Nat.reducePow, false_or, Nat.reduceLT, Nat.sub_zero, Nat.le_refl, a1, a2, a3, a4, Nat.zero_le]
    try simp only [iteP, Classical.not_not, Bool.not_eq_false, Bool.not_eq_true]
    exact main 3 (by unfold kd; rw [if_neg z1, if_neg z2, if_neg z3, if_pos z4]) (by decide) (by omega) _ _ _
  · have a4 : (cZ tp ln (nb tp ln q) = nI 106) = False := by rw [a4]; exact eq_false z4
    have neg : ¬ nI 0 ≤ (-1 : Int32) := by decide
    refine V_run ok_X6_readRule 40 2 ?_
    simp (disch := omega) only [eng, c_X6_readRule, r_X6_readRule, tbl, true_and, Nat.reduceAdd, Nat.reduceLT, ↓reduceIte, n_eq, n_lt, n_le, n_cl, n_inT, nI_add, bI_eq0, bI_eq1, not_true_eq_false, not_false_eq_true, true_implies, false_implies, implies_true, and_true, Bool.not_eq_false, Bool.not_eq_true, Nat.reduceEqDiff, Nat.reduceLeDiff, Classical.not_not, List.length_cons, List.length_nil, Int.reduceAdd, z_cast, Nat.reducePow, false_or, Nat.reduceLT, Nat.sub_zero, Nat.le_refl, a1, a2, a3, a4, neg]
    try simp only [iteP, Classical.not_not, Bool.not_eq_false, Bool.not_eq_true]
    refine hF1 (fun y => ?_) _ _ hS1 hnn FrY.rfl'.pl
    have : kd (cN tp ln (nb tp ln q)) = 4 := by unfold kd; rw [if_neg z1, if_neg z2, if_neg z3, if_neg z4]
    omega
