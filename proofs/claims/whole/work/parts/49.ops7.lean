/-! sums -/
def gat (E : Es) (h k : Nat) : Nat → Nat
  | 0 => 0
  | n + 1 => gat E h k n + (if E 6 n = k ∧ E 8 n < E 12 0 ∧ hous E (E 8 n) = h then E 7 n else 0)
def op_gathers (A : AS) (h k : Int32) : Int32 × AS := (if (inB h 12 && inB k 4) = true then nI (gat A.1 h.toNatClampNeg k.toNatClampNeg (A.1 12 1)) else -1, A)
theorem lp_gathers (l : Launch) {h k : Nat} {E : Es} {σ : St} {K : Int32 → St → Prop} (hW : Wf E) (hE : XE 100 E σ) (hh : h < 12) (hk : k < 4) (hK : K (nI (gat E h k (E 12 1))) σ) : ∀ (n t : Nat), t + n = E 12 1 → V l i_X5_gathers k_X5_gathers 14 [.ref 0, .int (nI h), .int (nI k), .int (nI (gat E h k t)), .int (nI t)] [] σ K
  | 0, t, ht => by
    have ht : t = E 12 1 := by omega
    subst ht
    have hn12 := hW.2.1
    refine V_run ok_X5_gathers 60 14 ?_
    simp (disch := omega) only [eng, c_X5_gathers, r_X5_gathers, tbl, true_and, Nat.reduceAdd, Nat.reduceLT, ↓reduceIte, n_eq, n_lt, n_le, n_cl, n_inT, nI_add, bI_eq0, bI_eq1, not_true_eq_false, not_false_eq_true, true_implies, false_implies, implies_true, and_true, Bool.not_eq_false, Bool.not_eq_true, Nat.reduceEqDiff, Nat.reduceLeDiff, Classical.not_not, List.length_cons, List.length_nil, Int.reduceAdd, z_cast, Nat.reducePow, false_or, Nat.reduceLT, Nat.sub_zero, Nat.le_refl, hE.2.2.1]
    try simp only [iteP, Classical.not_not, Bool.not_eq_false, Bool.not_eq_true]
    exact hK
  | n + 1, t, ht => by
    have ht1 : t < E 12 1 := by omega
    have hn12 := hW.2.1
    have h12 := t12 hW ht1
    have ft := hE.2.2.2.2.2.1 t ht1
    have wk := (hW.2.2.2.2.1 t ht1).1
    have ih := lp_gathers l hW hE hh hk hK n (t + 1) (by omega)
    unfold gat at ih
    by_cases h1 : E 6 t = k
    · refine V_run ok_X5_gathers 60 14 ?_
      simp (disch := omega) only [eng, c_X5_gathers, r_X5_gathers, tbl, true_and, Nat.reduceAdd, Nat.reduceLT, ↓reduceIte, n_eq, n_lt, n_le, n_cl, n_inT, nI_add, bI_eq0, bI_eq1, not_true_eq_false, not_false_eq_true, true_implies, false_implies, implies_true, and_true, Bool.not_eq_false, Bool.not_eq_true, Nat.reduceEqDiff, Nat.reduceLeDiff, Classical.not_not, List.length_cons, List.length_nil, Int.reduceAdd, z_cast, Nat.reducePow, false_or, Nat.reduceLT, Nat.sub_zero, Nat.le_refl, hE.2.2.1, ft, Nat.not_le.mpr ht1, h1]
      try simp only [iteP, Classical.not_not, Bool.not_eq_false, Bool.not_eq_true]
      refine x_isIn e100 hW hE ht1 hh ?_
      by_cases h2 : E 8 t < E 12 0 ∧ hous E (E 8 t) = h
      · rw [decide_eq_true h2]
        rw [if_pos ⟨h1, h2⟩] at ih
        simp (disch := omega) only [n_eq, n_lt, n_le, n_cl, n_inT, nI_add, bI_eq0, bI_eq1, not_true_eq_false, not_false_eq_true, true_implies, false_implies, implies_true, and_true, Bool.not_eq_false, Bool.not_eq_true, Nat.reduceEqDiff, Nat.reduceLeDiff, Classical.not_not, List.length_cons, List.length_nil, Int.reduceAdd, z_cast, Nat.reducePow, false_or, Nat.reduceLT, Nat.sub_zero, Nat.le_refl, true_and, ↓reduceIte, iteP, Bool.true_eq_false, ft]
        exact ih
      · rw [decide_eq_false h2]
        rw [if_neg (fun z => h2 z.2)] at ih
        simp (disch := omega) only [n_eq, n_lt, n_le, n_cl, n_inT, nI_add, bI_eq0, bI_eq1, not_true_eq_false, not_false_eq_true, true_implies, false_implies, implies_true, and_true, Bool.not_eq_false, Bool.not_eq_true, Nat.reduceEqDiff, Nat.reduceLeDiff, Classical.not_not, List.length_cons, List.length_nil, Int.reduceAdd, z_cast, Nat.reducePow, false_or, Nat.reduceLT, Nat.sub_zero, Nat.le_refl, true_and, ↓reduceIte, iteP, Bool.false_eq_true]
        exact ih
    · rw [if_neg (fun z => h1 z.1)] at ih
      refine V_run ok_X5_gathers 60 14 ?_
      simp (disch := omega) only [eng, c_X5_gathers, r_X5_gathers, tbl, true_and, Nat.reduceAdd, Nat.reduceLT, ↓reduceIte, n_eq, n_lt, n_le, n_cl, n_inT, nI_add, bI_eq0, bI_eq1, not_true_eq_false, not_false_eq_true, true_implies, false_implies, implies_true, and_true, Bool.not_eq_false, Bool.not_eq_true, Nat.reduceEqDiff, Nat.reduceLeDiff, Classical.not_not, List.length_cons, List.length_nil, Int.reduceAdd, z_cast, Nat.reducePow, false_or, Nat.reduceLT, Nat.sub_zero, Nat.le_refl, hE.2.2.1, ft, Nat.not_le.mpr ht1, h1]
      try simp only [iteP, Classical.not_not, Bool.not_eq_false, Bool.not_eq_true]
      exact ih
theorem X_gathers {l : Launch} {A : AS} {h k : Int32} {σ : St} {K : Int32 → St → Prop} (hC : CX A σ) (hK : ∀ σ', CX (op_gathers A h k).2 σ' → FrX σ σ' → K (op_gathers A h k).1 σ') : CallAt l 87 [.ref 0, .int h, .int k] σ K := by
  have hW := hC.1.1
  have hE := hC.2.1
  have hk := hK σ hC FrX.rfl'
  unfold op_gathers at hk
  dsimp only at hk
  rw [rI0 h 11] at hk
  rcases rng h 0 11 (by decide) (by decide) with ⟨g0, g⟩ | ⟨g0, g⟩ | ⟨g0, h', h1, h3, rfl⟩
  iterate 2
    · refine CallAt.of (k := 87) (cd := k_X5_gathers) ok_X5_gathers (by decide) rfl rfl rfl ?_
      show V _ i_X5_gathers k_X5_gathers 0 [.ref 0, .int h, .int k, .null, .null] [] _ _
      refine V_run ok_X5_gathers 60 0 ?_
      simp (disch := omega) only [eng, c_X5_gathers, r_X5_gathers, tbl, true_and, Nat.reduceAdd, Nat.reduceLT, ↓reduceIte, n_eq, n_lt, n_le, n_cl, n_inT, nI_add, bI_eq0, bI_eq1, not_true_eq_false, not_false_eq_true, true_implies, false_implies, implies_true, and_true, Bool.not_eq_false, Bool.not_eq_true, Nat.reduceEqDiff, Nat.reduceLeDiff, Classical.not_not, List.length_cons, List.length_nil, Int.reduceAdd, z_cast, Nat.reducePow, false_or, Nat.reduceLT, Nat.sub_zero, Nat.le_refl, g]
      try simp only [iteP, Classical.not_not, Bool.not_eq_false, Bool.not_eq_true]
      rw [g0] at hk
      exact hk
  have z12 : ¬ 12 ≤ h' := by omega
  rw [g0, Bool.true_and] at hk
  refine CallAt.of (k := 87) (cd := k_X5_gathers) ok_X5_gathers (by decide) rfl rfl rfl ?_
  show V _ i_X5_gathers k_X5_gathers 0 [.ref 0, .int (nI h'), .int k, .null, .null] [] _ _
  refine V_run ok_X5_gathers 60 0 ?_
  simp (disch := omega) only [eng, c_X5_gathers, r_X5_gathers, tbl, true_and, Nat.reduceAdd, Nat.reduceLT, ↓reduceIte, n_eq, n_lt, n_le, n_cl, n_inT, nI_add, bI_eq0, bI_eq1, not_true_eq_false, not_false_eq_true, true_implies, false_implies, implies_true, and_true, Bool.not_eq_false, Bool.not_eq_true, Nat.reduceEqDiff, Nat.reduceLeDiff, Classical.not_not, List.length_cons, List.length_nil, Int.reduceAdd, z_cast, Nat.reducePow, false_or, Nat.reduceLT, Nat.sub_zero, Nat.le_refl, z12, Nat.not_lt_zero]
  try simp only [iteP, Classical.not_not, Bool.not_eq_false, Bool.not_eq_true]
  refine x_isKind ?_
  cases h1 : inB k 4 with
  | false =>
    rw [h1] at hk
    simp (disch := omega) only [n_eq, n_lt, n_le, n_cl, n_inT, nI_add, bI_eq0, bI_eq1, not_true_eq_false, not_false_eq_true, true_implies, false_implies, implies_true, and_true, Bool.not_eq_false, Bool.not_eq_true, Nat.reduceEqDiff, Nat.reduceLeDiff, Classical.not_not, List.length_cons, List.length_nil, Int.reduceAdd, z_cast, Nat.reducePow, false_or, Nat.reduceLT, Nat.sub_zero, Nat.le_refl, true_and, ↓reduceIte, iteP, Bool.false_eq_true]
    exact hk
  | true =>
    obtain ⟨k', hk', rfl⟩ := inB_of h1
    rw [h1, if_pos rfl, n_cl (by omega), n_cl (by omega)] at hk
    simp (disch := omega) only [n_eq, n_lt, n_le, n_cl, n_inT, nI_add, bI_eq0, bI_eq1, not_true_eq_false, not_false_eq_true, true_implies, false_implies, implies_true, and_true, Bool.not_eq_false, Bool.not_eq_true, Nat.reduceEqDiff, Nat.reduceLeDiff, Classical.not_not, List.length_cons, List.length_nil, Int.reduceAdd, z_cast, Nat.reducePow, false_or, Nat.reduceLT, Nat.sub_zero, Nat.le_refl, true_and, ↓reduceIte, iteP, Bool.true_eq_false]
    exact lp_gathers l hW hE (by omega) hk' hk (A.1 12 1) 0 (by omega)
def paE (E : Es) : Nat → Int32
  | 0 => nI 0
  | n + 1 => paE E n + (if nI 0 < owe E n (E 12 1) then owe E n (E 12 1) else nI 0)
def op_paid (A : AS) : Int32 × AS := (paE A.1 (A.1 12 0), A)
theorem lp_paid (l : Launch) {E : Es} {σ : St} {K : Int32 → St → Prop} (hW : Wf E) (hE : XE 100 E σ) (hK : K (paE E (E 12 0)) σ) : ∀ (n p : Nat), p + n = E 12 0 → V l i_X5_paid k_X5_paid 4 [.ref 0, .int (paE E p), .int (nI p)] [] σ K
  | 0, p, hp => by
    have hp : p = E 12 0 := by omega
    subst hp
    have hn12 := hW.1
    refine V_run ok_X5_paid 60 4 ?_
    simp (disch := omega) only [eng, c_X5_paid, r_X5_paid, tbl, true_and, Nat.reduceAdd, Nat.reduceLT, ↓reduceIte, n_eq, n_lt, n_le, n_cl, n_inT, nI_add, bI_eq0, bI_eq1, not_true_eq_false, not_false_eq_true, true_implies, false_implies, implies_true, and_true, Bool.not_eq_false, Bool.not_eq_true, Nat.reduceEqDiff, Nat.reduceLeDiff, Classical.not_not, List.length_cons, List.length_nil, Int.reduceAdd, z_cast, Nat.reducePow, false_or, Nat.reduceLT, Nat.sub_zero, Nat.le_refl, hE.1]
    try simp only [iteP, Classical.not_not, Bool.not_eq_false, Bool.not_eq_true]
    exact hK
  | n + 1, p, hp => by
    have hp1 : p < E 12 0 := by omega
    have hn12 := hW.1
    have ih := lp_paid l hW hE hK n (p + 1) (by omega)
    unfold paE at ih
    refine V_run ok_X5_paid 60 4 ?_
    simp (disch := omega) only [eng, c_X5_paid, r_X5_paid, tbl, true_and, Nat.reduceAdd, Nat.reduceLT, ↓reduceIte, n_eq, n_lt, n_le, n_cl, n_inT, nI_add, bI_eq0, bI_eq1, not_true_eq_false, not_false_eq_true, true_implies, false_implies, implies_true, and_true, Bool.not_eq_false, Bool.not_eq_true, Nat.reduceEqDiff, Nat.reduceLeDiff, Classical.not_not, List.length_cons, List.length_nil, Int.reduceAdd, z_cast, Nat.reducePow, false_or, Nat.reduceLT, Nat.sub_zero, Nat.le_refl, hE.1, Nat.not_le.mpr hp1]
    try simp only [iteP, Classical.not_not, Bool.not_eq_false, Bool.not_eq_true]
    refine x_owed e100 hW hE (by omega) ?_
    by_cases hz : nI 0 < owe E p (E 12 1)
    · rw [if_pos hz] at ih
      simp (disch := omega) only [n_eq, n_lt, n_le, n_cl, n_inT, nI_add, bI_eq0, bI_eq1, not_true_eq_false, not_false_eq_true, true_implies, false_implies, implies_true, and_true, Bool.not_eq_false, Bool.not_eq_true, Nat.reduceEqDiff, Nat.reduceLeDiff, Classical.not_not, List.length_cons, List.length_nil, Int.reduceAdd, z_cast, Nat.reducePow, false_or, Nat.reduceLT, Nat.sub_zero, Nat.le_refl, true_and, ↓reduceIte, iteP, hz]
      exact ih
    · rw [if_neg hz] at ih
      simp (disch := omega) only [n_eq, n_lt, n_le, n_cl, n_inT, nI_add, bI_eq0, bI_eq1, not_true_eq_false, not_false_eq_true, true_implies, false_implies, implies_true, and_true, Bool.not_eq_false, Bool.not_eq_true, Nat.reduceEqDiff, Nat.reduceLeDiff, Classical.not_not, List.length_cons, List.length_nil, Int.reduceAdd, z_cast, Nat.reducePow, false_or, Nat.reduceLT, Nat.sub_zero, Nat.le_refl, true_and, ↓reduceIte, iteP, hz]
      exact ih
theorem X_paid {l : Launch} {A : AS} {σ : St} {K : Int32 → St → Prop} (hC : CX A σ) (hK : ∀ σ', CX (op_paid A).2 σ' → FrX σ σ' → K (op_paid A).1 σ') : CallAt l 89 [.ref 0] σ K := by
  have hk := hK σ hC FrX.rfl'
  refine CallAt.of (k := 89) (cd := k_X5_paid) ok_X5_paid (by decide) rfl rfl rfl ?_
  show V _ i_X5_paid k_X5_paid 0 [.ref 0, .null, .null] [] _ _
  refine V_run ok_X5_paid 60 0 ?_
  simp (disch := omega) only [eng, c_X5_paid, r_X5_paid, tbl, true_and, Nat.reduceAdd, Nat.reduceLT, ↓reduceIte, n_eq, n_lt, n_le, n_cl, n_inT, nI_add, bI_eq0, bI_eq1, not_true_eq_false, not_false_eq_true, true_implies, false_implies, implies_true, and_true, Bool.not_eq_false, Bool.not_eq_true, Nat.reduceEqDiff, Nat.reduceLeDiff, Classical.not_not, List.length_cons, List.length_nil, Int.reduceAdd, z_cast, Nat.reducePow, false_or, Nat.reduceLT, Nat.sub_zero, Nat.le_refl]
  try simp only [iteP, Classical.not_not, Bool.not_eq_false, Bool.not_eq_true]
  exact lp_paid l hC.1.1 hC.2.1 hk (A.1 12 0) 0 (by omega)
