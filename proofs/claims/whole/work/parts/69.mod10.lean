theorem lp_mfilm (l : Launch) {s a : Nat} {y : Int32} {E : Es} {it : Nat → Int32} {σ0 : St} {K : Int32 → St → Prop} (hW : Wf E) (hE : ME E σ0) (hs : s < 4) (ha : a + E 12 1 ≤ 24) (hK : ∀ σ' : St, (∀ j, j < 96 → σ' 928 j = fiI E it (24 * s + a) (E 12 1) j) → (∀ k, k ≠ 928 → σ' k = σ0 k) → K (nI (E 12 1)) σ') : ∀ (n t : Nat) (σ : St), t + n = E 12 1 → (∀ j, j < 96 → σ 928 j = fiI E it (24 * s + a) t j) → (∀ k, k ≠ 928 → σ k = σ0 k) → V l i_X6_film k_X6_film 20 [.ref 900, .int (nI s), .int y, .int (nI a), .int (nI 0), .int (nI t)] [] σ K
  | 0, t, σ, ht, g1, g2 => by
    have ht : t = E 12 1 := by omega
    subst ht
    have hn12 := hW.2.1
    have e7 : σ 900 11 = nI (E 12 1) := by rw [g2 900 (by decide)]; exact hE.2.1
    refine V_run ok_X6_film 60 20 ?_
    simp (disch := omega) only [eng, c_X6_film, r_X6_film, tbl, true_and, Nat.reduceAdd, Nat.reduceLT, ↓reduceIte, n_eq, n_lt, n_le, n_cl, n_inT, nI_add, bI_eq0, bI_eq1, not_true_eq_false, not_false_eq_true, true_implies, false_implies, implies_true, and_true, Bool.not_eq_false, Bool.not_eq_true, Nat.reduceEqDiff, Nat.reduceLeDiff, Classical.not_not, List.length_cons, List.length_nil, Int.reduceAdd, z_cast, Nat.reducePow, false_or, Nat.reduceLT, Nat.sub_zero, Nat.le_refl, e7]
    try simp only [iteP, Classical.not_not, Bool.not_eq_false, Bool.not_eq_true]
    exact hK σ g1 g2
  | n + 1, t, σ, ht, g1, g2 => by
    have ht1 : t < E 12 1 := by omega
    have hn12 := hW.2.1
    have e7 : σ 900 11 = nI (E 12 1) := by rw [g2 900 (by decide)]; exact hE.2.1
    have ft : σ 910 t = nI (E 8 t) := by rw [g2 910 (by decide)]; exact (hE.2.2.2.2.1 t ht1).2.2.1
    refine V_run ok_X6_film 60 20 ?_
    simp (disch := omega) only [eng, c_X6_film, r_X6_film, tbl, true_and, Nat.reduceAdd, Nat.reduceLT, ↓reduceIte, n_eq, n_lt, n_le, n_cl, n_inT, nI_add, bI_eq0, bI_eq1, not_true_eq_false, not_false_eq_true, true_implies, false_implies, implies_true, and_true, Bool.not_eq_false, Bool.not_eq_true, Nat.reduceEqDiff, Nat.reduceLeDiff, Classical.not_not, List.length_cons, List.length_nil, Int.reduceAdd, z_cast, Nat.reducePow, false_or, Nat.reduceLT, Nat.sub_zero, Nat.le_refl, e7, ft, Nat.not_le.mpr ht1, pk_mul]
    try simp only [iteP, Classical.not_not, Bool.not_eq_false, Bool.not_eq_true]
    refine lp_mfilm l hW hE hs ha hK n (t + 1) _ (by omega) (fun j hj => ?_) (fun k hk => ?_)
    · have := g1 j hj
      unfold fiI at this ⊢
      by_cases z : j = 24 * s + a + t
      · subst z
        rw [if_pos (by omega)]
        simp (disch := omega) only [wrq]
        congr 2
        omega
      · simp (disch := omega) only [wrq]
        rw [this]
        by_cases z2 : 24 * s + a ≤ j ∧ j < 24 * s + a + t
        · rw [if_pos z2, if_pos (by omega)]
        · rw [if_neg z2, if_neg (by omega)]
    · simp (disch := omega) only [wrq]; exact g2 k hk
theorem M_film {l : Launch} {A : AS} {x y f : Int32} {σ : St} {K : Int32 → St → Prop} (hM : MX A σ) (hK : ∀ σ', MX (op_film A x y f).2 σ' → FrM σ σ' → K (op_film A x y f).1 σ') : CallAt l 185 [.ref 900, .int x, .int y, .int f] σ K := by
  have hw := hM.1.2.2.2
  have hS := hM.2.2.2.2.2
  have hW := hM.1.1
  have hE := hM.2.1
  have hn12 := hW.2.1
  have e7 := hE.2.1
  unfold op_film at hK
  refine CallAt.of (k := 185) (cd := k_X6_film) ok_X6_film (by decide) rfl rfl rfl ?_
  show V _ i_X6_film k_X6_film 0 [.ref 900, .int x, .int y, .int f, .null, .null] [] _ _
  refine V_run ok_X6_film 60 0 ?_
  simp (disch := omega) only [eng, c_X6_film, r_X6_film, tbl, true_and, Nat.reduceAdd, Nat.reduceLT, ↓reduceIte, n_eq, n_lt, n_le, n_cl, n_inT, nI_add, bI_eq0, bI_eq1, not_true_eq_false, not_false_eq_true, true_implies, false_implies, implies_true, and_true, Bool.not_eq_false, Bool.not_eq_true, Nat.reduceEqDiff, Nat.reduceLeDiff, Classical.not_not, List.length_cons, List.length_nil, Int.reduceAdd, z_cast, Nat.reducePow, false_or, Nat.reduceLT, Nat.sub_zero, Nat.le_refl, e7]
  try simp only [iteP, Classical.not_not, Bool.not_eq_false, Bool.not_eq_true]
  refine m_isSheet ?_
  cases h0 : (inB x 4 && inB y 3) with
  | false =>
    rw [lk_out h0, if_neg (by decide)] at hK
    simp (disch := omega) only [n_eq, n_lt, n_le, n_cl, n_inT, nI_add, bI_eq0, bI_eq1, not_true_eq_false, not_false_eq_true, true_implies, false_implies, implies_true, and_true, Bool.not_eq_false, Bool.not_eq_true, Nat.reduceEqDiff, Nat.reduceLeDiff, Classical.not_not, List.length_cons, List.length_nil, Int.reduceAdd, z_cast, Nat.reducePow, false_or, Nat.reduceLT, Nat.sub_zero, Nat.le_refl, true_and, ↓reduceIte, iteP, Bool.false_eq_true]
    exact hK σ hM FrM.rfl'
  | true =>
    rw [Bool.and_eq_true] at h0
    obtain ⟨s, hs, rfl⟩ := inB_of h0.1
    obtain ⟨y', hy, rfl⟩ := inB_of h0.2
    simp (disch := omega) only [n_eq, n_lt, n_le, n_cl, n_inT, nI_add, bI_eq0, bI_eq1, not_true_eq_false, not_false_eq_true, true_implies, false_implies, implies_true, and_true, Bool.not_eq_false, Bool.not_eq_true, Nat.reduceEqDiff, Nat.reduceLeDiff, Classical.not_not, List.length_cons, List.length_nil, Int.reduceAdd, z_cast, Nat.reducePow, false_or, Nat.reduceLT, Nat.sub_zero, Nat.le_refl, true_and, ↓reduceIte, iteP, Bool.true_eq_false, e7]
    refine m_lacks (N := A.1 12 1) (z := A.2.2.2.2.1 s) hs hy hn12 (hw s hs).2 (hw s hs).1 (hS.1 s hs).1 (hS.1 s hs).2 ?_
    rw [← lk_in (ln := A.2.2.2.1) (z := A.2.2.2.2.1) hs hy]
    by_cases h : lkR A.2.2.2.1 A.2.2.2.2.1 (nI s) (nI y') f (nI (A.1 12 1)) = nI 0
    · rw [if_pos h] at hK
      obtain ⟨s2, hs2, e1, e2, hln, -, hsp⟩ := lk_of hw h
      rw [n_cl (by omega)] at e2
      subst e2
      obtain ⟨a, rfl, ha2, ha⟩ := sp_of (hw s hs).2 (by omega) hsp
      have hz24 := (hw s hs).2
      rw [n_cl (show s < 2147483648 by omega), ha2] at hK
      rw [h]
      simp (disch := omega) only [n_eq, n_lt, n_le, n_cl, n_inT, nI_add, bI_eq0, bI_eq1, not_true_eq_false, not_false_eq_true, true_implies, false_implies, implies_true, and_true, Bool.not_eq_false, Bool.not_eq_true, Nat.reduceEqDiff, Nat.reduceLeDiff, Classical.not_not, List.length_cons, List.length_nil, Int.reduceAdd, z_cast, Nat.reducePow, false_or, Nat.reduceLT, Nat.sub_zero, Nat.le_refl, true_and, ↓reduceIte, iteP, Nat.le_refl]
      refine lp_mfilm l (it := A.2.2.2.2.2) hW hE hs (by omega) (fun σ' k1 k2 => ?_) (A.1 12 1) 0 σ (by omega) (fun j hj => ?_) (fun _ _ => rfl)
      · exact hK σ' (hM.sh (fun k hk => k2 k (by omega)) hw ⟨fun s' hs' => by rw [k2 926 (by decide), k2 927 (by decide)]; exact hS.1 s' hs', k1⟩) (fun k hk => k2 k (by omega))
      · unfold fiI
        rw [if_neg (by omega)]
        exact hS.2 j hj
    · rw [if_neg h] at hK
      have hg := lk_ge (lk_neg h)
      simp (disch := omega) only [n_eq, n_lt, n_le, n_cl, n_inT, nI_add, bI_eq0, bI_eq1, not_true_eq_false, not_false_eq_true, true_implies, false_implies, implies_true, and_true, Bool.not_eq_false, Bool.not_eq_true, Nat.reduceEqDiff, Nat.reduceLeDiff, Classical.not_not, List.length_cons, List.length_nil, Int.reduceAdd, z_cast, Nat.reducePow, false_or, Nat.reduceLT, Nat.sub_zero, Nat.le_refl, true_and, ↓reduceIte, iteP, hg]
      exact hK σ hM FrM.rfl'
theorem lp_msheet (l : Launch) {s : Nat} {y n : Int32} {it : Nat → Int32} {σ0 : St} {K : Int32 → St → Prop} (hs : s < 4) (hK : ∀ σ' : St, (∀ j, j < 96 → σ' 928 j = zr it s 24 j) → (∀ k, k ≠ 928 → σ' k = σ0 k) → K n σ') : ∀ (m i : Nat) (σ : St), i + m = 24 → (∀ j, j < 96 → σ 928 j = zr it s i j) → (∀ k, k ≠ 928 → σ k = σ0 k) → V l i_X6_sheet k_X6_sheet 25 [.ref 900, .int (nI s), .int y, .int n, .int (nI i)] [] σ K
  | 0, i, σ, hi, g1, g2 => by
    have hi : i = 24 := by omega
    subst hi
    refine V_run ok_X6_sheet 60 25 ?_
    simp (disch := omega) only [eng, c_X6_sheet, r_X6_sheet, tbl, true_and, Nat.reduceAdd, Nat.reduceLT, ↓reduceIte, n_eq, n_lt, n_le, n_cl, n_inT, nI_add, bI_eq0, bI_eq1, not_true_eq_false, not_false_eq_true, true_implies, false_implies, implies_true, and_true, Bool.not_eq_false, Bool.not_eq_true, Nat.reduceEqDiff, Nat.reduceLeDiff, Classical.not_not, List.length_cons, List.length_nil, Int.reduceAdd, z_cast, Nat.reducePow, false_or, Nat.reduceLT, Nat.sub_zero, Nat.le_refl]
    try simp only [iteP, Classical.not_not, Bool.not_eq_false, Bool.not_eq_true]
    exact hK σ g1 g2
  | m + 1, i, σ, hi, g1, g2 => by
    have h1 : ¬ 24 ≤ i := by omega
    refine V_run ok_X6_sheet 60 25 ?_
    simp (disch := omega) only [eng, c_X6_sheet, r_X6_sheet, tbl, true_and, Nat.reduceAdd, Nat.reduceLT, ↓reduceIte, n_eq, n_lt, n_le, n_cl, n_inT, nI_add, bI_eq0, bI_eq1, not_true_eq_false, not_false_eq_true, true_implies, false_implies, implies_true, and_true, Bool.not_eq_false, Bool.not_eq_true, Nat.reduceEqDiff, Nat.reduceLeDiff, Classical.not_not, List.length_cons, List.length_nil, Int.reduceAdd, z_cast, Nat.reducePow, false_or, Nat.reduceLT, Nat.sub_zero, Nat.le_refl, h1, pk_mul]
    try simp only [iteP, Classical.not_not, Bool.not_eq_false, Bool.not_eq_true]
    refine lp_msheet l hs hK m (i + 1) _ (by omega) (fun j hj => ?_) (fun k hk => ?_)
    · have := g1 j hj
      unfold zr at this ⊢
      by_cases z : j = 24 * s + i
      · subst z
        rw [if_pos (by omega)]
        simp (disch := omega) only [wrq]
      · simp (disch := omega) only [wrq]
        rw [this]
        by_cases z2 : 24 * s ≤ j ∧ j < 24 * s + i
        · rw [if_pos z2, if_pos (by omega)]
        · rw [if_neg z2, if_neg (by omega)]
    · simp (disch := omega) only [wrq]; exact g2 k hk
theorem M_sheet {l : Launch} {A : AS} {x y n : Int32} {σ : St} {K : Int32 → St → Prop} (hM : MX A σ) (hK : ∀ σ', MX (op_sheet A x y n).2 σ' → FrM σ σ' → K (op_sheet A x y n).1 σ') : CallAt l 175 [.ref 900, .int x, .int y, .int n] σ K := by
  have hw := hM.1.2.2.2
  have hS := hM.2.2.2.2.2
  unfold op_sheet at hK
  rcases Classical.propComplete (n ≤ nI 24) with g | g <;> rcases Classical.propComplete (n < nI 0) with g2 | g2
  all_goals
    have g3 : (nI 24 < n) = ¬ (n ≤ nI 24) := by rw [i_lt, i_le]; apply propext; omega
    have g4 : (nI 0 ≤ n) = ¬ (n < nI 0) := by rw [i_lt, i_le]; apply propext; omega
    rw [g] at g3
    rw [g2] at g4
    refine CallAt.of (k := 175) (cd := k_X6_sheet) ok_X6_sheet (by decide) rfl rfl rfl ?_
    show V _ i_X6_sheet k_X6_sheet 0 [.ref 900, .int x, .int y, .int n, .null] [] _ _
    refine V_run ok_X6_sheet 60 0 ?_
    simp (disch := omega) only [eng, c_X6_sheet, r_X6_sheet, tbl, true_and, Nat.reduceAdd, Nat.reduceLT, ↓reduceIte, n_eq, n_lt, n_le, n_cl, n_inT, nI_add, bI_eq0, bI_eq1, not_true_eq_false, not_false_eq_true, true_implies, false_implies, implies_true, and_true, Bool.not_eq_false, Bool.not_eq_true, Nat.reduceEqDiff, Nat.reduceLeDiff, Classical.not_not, List.length_cons, List.length_nil, Int.reduceAdd, z_cast, Nat.reducePow, false_or, Nat.reduceLT, Nat.sub_zero, Nat.le_refl, g, g2, g3, g4]
    try simp only [iteP, Classical.not_not, Bool.not_eq_false, Bool.not_eq_true]
    refine m_isSheet ?_
    cases h0 : (inB x 4 && inB y 3)
    case false =>
      rw [h0] at hK
      simp (disch := omega) only [n_eq, n_lt, n_le, n_cl, n_inT, nI_add, bI_eq0, bI_eq1, not_true_eq_false, not_false_eq_true, true_implies, false_implies, implies_true, and_true, Bool.not_eq_false, Bool.not_eq_true, Nat.reduceEqDiff, Nat.reduceLeDiff, Classical.not_not, List.length_cons, List.length_nil, Int.reduceAdd, z_cast, Nat.reducePow, false_or, Nat.reduceLT, Nat.sub_zero, Nat.le_refl, true_and, ↓reduceIte, iteP, Bool.false_eq_true]
      exact hK σ hM FrM.rfl'
    rw [h0, Bool.true_and] at hK
    simp only [g, g2, decide_true, decide_false, Bool.false_eq_true, if_true, if_false] at hK
    rw [Bool.and_eq_true] at h0
    obtain ⟨s, hs, rfl⟩ := inB_of h0.1
    obtain ⟨y', hy, rfl⟩ := inB_of h0.2
    simp (disch := omega) only [n_eq, n_lt, n_le, n_cl, n_inT, nI_add, bI_eq0, bI_eq1, not_true_eq_false, not_false_eq_true, true_implies, false_implies, implies_true, and_true, Bool.not_eq_false, Bool.not_eq_true, Nat.reduceEqDiff, Nat.reduceLeDiff, Classical.not_not, List.length_cons, List.length_nil, Int.reduceAdd, z_cast, Nat.reducePow, false_or, Nat.reduceLT, Nat.sub_zero, Nat.le_refl, true_and, ↓reduceIte, iteP, Bool.true_eq_false, g, g2, g3, g4]
  · exact hK σ hM FrM.rfl'
  · obtain ⟨n', hn, rfl⟩ := nI_of (of_eq_false g2)
    have hn24 : n' ≤ 24 := by have := of_eq_true g; rwa [n_le (by omega) (by omega)] at this
    rw [n_cl (by omega), n_cl (by omega)] at hK
    refine lp_msheet l (it := A.2.2.2.2.2) hs (fun σ' k1 k2 => ?_) 24 0 _ (by omega) (fun j hj => ?_) (fun _ _ => rfl)
    · refine hK σ' (hM.sh (fun k hk => ?_) (fun s' hs' => ⟨?_, ?_⟩) ⟨fun s' hs' => ⟨?_, ?_⟩, k1⟩) (fun k hk => ?_)
      · rw [k2 k (by omega)]; simp (disch := omega) only [wrq]
      · unfold ui
        split
        · rcases (show y' = 0 ∨ y' = 1 ∨ y' = 2 by omega) with rfl | rfl | rfl <;> simp
        · exact (hw s' hs').1
      · split
        · exact hn24
        · exact (hw s' hs').2
      · rw [k2 926 (by decide)]
        unfold ui
        by_cases z : s' = s
        · rw [if_pos z, z]; simp (disch := omega) only [wrq]
        · rw [if_neg z]; simp (disch := omega) only [wrq]; exact (hS.1 s' hs').1
      · rw [k2 927 (by decide)]
        try dsimp only
        by_cases z : s' = s
        · rw [if_pos z, z]; simp (disch := omega) only [wrq]
        · rw [if_neg z]; simp (disch := omega) only [wrq]; exact (hS.1 s' hs').2
      · rw [k2 k (by omega)]; simp (disch := omega) only [wrq]
    · simp (disch := omega) only [wrq]
      unfold zr
      rw [if_neg (by omega)]
      exact hS.2 j hj
  · exact hK σ hM FrM.rfl'
  · exact hK σ hM FrM.rfl'
