/-! ranges -/
def rI (x : Int32) (lo hi : Nat) : Bool := decide ((lo : Int) ≤ x.toInt ∧ x.toInt ≤ hi)
theorem rI0 (x : Int32) (hi : Nat) : inB x (hi + 1) = rI x 0 hi := by
  unfold inB rI
  congr 1
  apply propext
  omega
theorem rng (x : Int32) (lo hi : Nat) (h : hi < 2147483647) (h2 : lo ≤ hi) : (rI x lo hi = false ∧ (x < nI lo) = True) ∨ (rI x lo hi = false ∧ (x < nI lo) = False ∧ (nI hi < x) = True ∧ (x ≤ nI hi) = False ∧ (nI (hi + 1) ≤ x) = True) ∨ (rI x lo hi = true ∧ ∃ j, lo ≤ j ∧ j ≤ hi ∧ x = nI j) := by
  have e1 : (x < nI lo) = (x.toInt < lo) := by rw [i_lt, nI_nn lo (by omega)]
  have e2 : (nI hi < x) = ((hi : Int) < x.toInt) := by rw [i_lt, nI_nn hi (by omega)]
  have e3 : (x ≤ nI hi) = (x.toInt ≤ hi) := by rw [i_le, nI_nn hi (by omega)]
  have e4 : (nI (hi + 1) ≤ x) = (((hi + 1 : Nat) : Int) ≤ x.toInt) := by rw [i_le, nI_nn (hi + 1) (by omega)]
  rw [e1, e2, e3, e4]
  unfold rI
  by_cases q1 : x.toInt < lo
  · exact Or.inl ⟨decide_eq_false (by omega), eq_true q1⟩
  · by_cases q2 : (hi : Int) < x.toInt
    · exact Or.inr (Or.inl ⟨decide_eq_false (by omega), eq_false q1, eq_true q2, eq_false (by omega), eq_true (by omega)⟩)
    · refine Or.inr (Or.inr ⟨decide_eq_true (by omega), ?_⟩)
      have h3 : ¬ x < 0 := by rw [i_lt]; show ¬ x.toInt < 0; omega
      obtain ⟨j, hj, rfl⟩ := nI_of h3
      rw [nI_toInt hj] at q1 q2
      exact ⟨j, by omega, by omega, rfl⟩
def ofR (E : Es) (t : Nat) (w : Int32) : Int32 := if w = nI 0 then nI (E 6 t) else if w = nI 1 then nI (E 7 t) else if w = nI 2 then nI (E 8 t) else if w = nI 3 then nI (E 9 t) else -1
def op_of (A : AS) (t w : Int32) : Int32 × AS := (if inB t (A.1 12 1) = true then ofR A.1 t.toNatClampNeg w else -1, A)
theorem X_of {l : Launch} {A : AS} {t w : Int32} {σ : St} {K : Int32 → St → Prop} (hC : CX A σ) (hK : ∀ σ', CX (op_of A t w).2 σ' → FrX σ σ' → K (op_of A t w).1 σ') : CallAt l 79 [.ref 0, .int t, .int w] σ K := by
  have hW := hC.1.1
  have hE := hC.2.1
  have hn := hW.2.1
  have hk := hK σ hC FrX.rfl'
  unfold op_of at hk
  dsimp only at hk
  cases hw : inB w 4 with
  | false =>
    have q := inB_f (by decide) hw
    have tlz : ∀ p, ofR A.1 p w = -1 := fun p => by
      unfold ofR
      simp only [q.2 0 (by decide), q.2 1 (by decide), q.2 2 (by decide), q.2 3 (by decide), if_false]
    refine CallAt.of (k := 79) (cd := k_X5_of) ok_X5_of (by decide) rfl rfl rfl ?_
    show V _ i_X5_of k_X5_of 0 [.ref 0, .int t, .int w] [] _ _
    refine V_run ok_X5_of 60 0 ?_
    simp (disch := omega) only [eng, c_X5_of, r_X5_of, tbl, true_and, Nat.reduceAdd, Nat.reduceLT, ↓reduceIte, n_eq, n_lt, n_le, n_cl, n_inT, nI_add, bI_eq0, bI_eq1, not_true_eq_false, not_false_eq_true, true_implies, false_implies, implies_true, and_true, Bool.not_eq_false, Bool.not_eq_true, Nat.reduceEqDiff, Nat.reduceLeDiff, Classical.not_not, List.length_cons, List.length_nil, Int.reduceAdd, z_cast, Nat.reducePow, false_or, Nat.reduceLT, Nat.sub_zero, Nat.le_refl, q.2 0 (by decide), q.2 1 (by decide), q.2 2 (by decide), q.2 3 (by decide), q.1]
    try simp only [iteP, Classical.not_not, Bool.not_eq_false, Bool.not_eq_true]
    refine x_isThing e100 hE.2.2.1 hn ?_
    rw [tlz] at hk
    cases h1 : inB t (A.1 12 1)
    all_goals
      rw [h1] at hk
      simp (disch := omega) only [n_eq, n_lt, n_le, n_cl, n_inT, nI_add, bI_eq0, bI_eq1, not_true_eq_false, not_false_eq_true, true_implies, false_implies, implies_true, and_true, Bool.not_eq_false, Bool.not_eq_true, Nat.reduceEqDiff, Nat.reduceLeDiff, Classical.not_not, List.length_cons, List.length_nil, Int.reduceAdd, z_cast, Nat.reducePow, false_or, Nat.reduceLT, Nat.sub_zero, Nat.le_refl, true_and, ↓reduceIte, iteP, Bool.true_eq_false, Bool.false_eq_true]
      exact hk
  | true =>
    obtain ⟨j, hj, rfl⟩ := inB_of hw
    cases h1 : inB t (A.1 12 1) with
    | false =>
      rw [h1] at hk
      rcases (show j = 0 ∨ j = 1 ∨ j = 2 ∨ j = 3 by omega) with rfl | rfl | rfl | rfl
      all_goals
        refine CallAt.of (k := 79) (cd := k_X5_of) ok_X5_of (by decide) rfl rfl rfl ?_
        show V _ i_X5_of k_X5_of 0 [.ref 0, .int t, .int (nI _)] [] _ _
        refine V_run ok_X5_of 60 0 ?_
        simp (disch := omega) only [eng, c_X5_of, r_X5_of, tbl, true_and, Nat.reduceAdd, Nat.reduceLT, ↓reduceIte, n_eq, n_lt, n_le, n_cl, n_inT, nI_add, bI_eq0, bI_eq1, not_true_eq_false, not_false_eq_true, true_implies, false_implies, implies_true, and_true, Bool.not_eq_false, Bool.not_eq_true, Nat.reduceEqDiff, Nat.reduceLeDiff, Classical.not_not, List.length_cons, List.length_nil, Int.reduceAdd, z_cast, Nat.reducePow, false_or, Nat.reduceLT, Nat.sub_zero, Nat.le_refl]
        try simp only [iteP, Classical.not_not, Bool.not_eq_false, Bool.not_eq_true]
        refine x_isThing e100 hE.2.2.1 hn ?_
        rw [h1]
        simp (disch := omega) only [n_eq, n_lt, n_le, n_cl, n_inT, nI_add, bI_eq0, bI_eq1, not_true_eq_false, not_false_eq_true, true_implies, false_implies, implies_true, and_true, Bool.not_eq_false, Bool.not_eq_true, Nat.reduceEqDiff, Nat.reduceLeDiff, Classical.not_not, List.length_cons, List.length_nil, Int.reduceAdd, z_cast, Nat.reducePow, false_or, Nat.reduceLT, Nat.sub_zero, Nat.le_refl, true_and, ↓reduceIte, iteP, Bool.true_eq_false, Bool.false_eq_true]
        exact hk
    | true =>
      rw [h1, if_pos rfl] at hk
      obtain ⟨p', hp, rfl⟩ := inB_of h1
      have hp12 := t12 hW hp
      have fp := hE.2.2.2.2.2.1 p' hp
      rw [n_cl (by omega)] at hk
      unfold ofR at hk
      rcases (show j = 0 ∨ j = 1 ∨ j = 2 ∨ j = 3 by omega) with rfl | rfl | rfl | rfl
      all_goals
        simp (disch := omega) only [n_eq, n_lt, n_le, n_cl, n_inT, nI_add, bI_eq0, bI_eq1, not_true_eq_false, not_false_eq_true, true_implies, false_implies, implies_true, and_true, Bool.not_eq_false, Bool.not_eq_true, Nat.reduceEqDiff, Nat.reduceLeDiff, Classical.not_not, List.length_cons, List.length_nil, Int.reduceAdd, z_cast, Nat.reducePow, false_or, Nat.reduceLT, Nat.sub_zero, Nat.le_refl, if_true, if_false] at hk
        refine CallAt.of (k := 79) (cd := k_X5_of) ok_X5_of (by decide) rfl rfl rfl ?_
        show V _ i_X5_of k_X5_of 0 [.ref 0, .int (nI p'), .int (nI _)] [] _ _
        refine V_run ok_X5_of 60 0 ?_
        simp (disch := omega) only [eng, c_X5_of, r_X5_of, tbl, true_and, Nat.reduceAdd, Nat.reduceLT, ↓reduceIte, n_eq, n_lt, n_le, n_cl, n_inT, nI_add, bI_eq0, bI_eq1, not_true_eq_false, not_false_eq_true, true_implies, false_implies, implies_true, and_true, Bool.not_eq_false, Bool.not_eq_true, Nat.reduceEqDiff, Nat.reduceLeDiff, Classical.not_not, List.length_cons, List.length_nil, Int.reduceAdd, z_cast, Nat.reducePow, false_or, Nat.reduceLT, Nat.sub_zero, Nat.le_refl]
        try simp only [iteP, Classical.not_not, Bool.not_eq_false, Bool.not_eq_true]
        refine x_isThing e100 hE.2.2.1 hn ?_
        rw [h1]
        simp (disch := omega) only [n_eq, n_lt, n_le, n_cl, n_inT, nI_add, bI_eq0, bI_eq1, not_true_eq_false, not_false_eq_true, true_implies, false_implies, implies_true, and_true, Bool.not_eq_false, Bool.not_eq_true, Nat.reduceEqDiff, Nat.reduceLeDiff, Classical.not_not, List.length_cons, List.length_nil, Int.reduceAdd, z_cast, Nat.reducePow, false_or, Nat.reduceLT, Nat.sub_zero, Nat.le_refl, true_and, ↓reduceIte, iteP, Bool.true_eq_false, Bool.false_eq_true, fp]
        exact hk
def op_rule (A : AS) (k r n : Int32) : Int32 × AS :=
  if (inB k 4 && rI n 1 3 && rowOk r n.toNatClampNeg) = true then (nI (rw8 A.1 k.toNatClampNeg), setE A (setR A.1 k.toNatClampNeg r.toNatClampNeg n.toNatClampNeg)) else (-1, A)
theorem rowOk_of {x : Int32} {n : Nat} (h : rowOk x n = true) : ∃ r, r < 2147483648 ∧ x = nI r ∧ r < 8 ^ n ∧ rowG r n 0 0 = true := by
  unfold rowOk at h
  simp only [Bool.and_eq_true, decide_eq_true_eq] at h
  obtain ⟨h1, h2, h3⟩ := h
  obtain ⟨r, hr, rfl⟩ := nI_of h1
  rw [n_cl hr] at h2 h3
  refine ⟨r, hr, rfl, ?_, h3⟩
  have := (Nat.div_eq_zero_iff.mp h2)
  have e : 2 ^ (3 * n) = 8 ^ n := by rw [Nat.pow_mul]
  rw [e] at this
  rcases this with q | q
  · exact absurd q (Nat.ne_of_gt (Nat.pow_pos (by decide)))
  · exact q
theorem X_rule {l : Launch} {A : AS} {k r n : Int32} {σ : St} {K : Int32 → St → Prop} (hC : CX A σ) (hK : ∀ σ', CX (op_rule A k r n).2 σ' → FrX σ σ' → K (op_rule A k r n).1 σ') : CallAt l 80 [.ref 0, .int k, .int r, .int n] σ K := by
  have hW := hC.1.1
  have hE := hC.2.1
  unfold op_rule at hK
  rcases rng n 1 3 (by decide) (by decide) with ⟨g0, g⟩ | ⟨g0, g⟩ | ⟨g0, n', h1, h3, rfl⟩
  iterate 2
    · rw [g0, Bool.and_false, Bool.false_and] at hK
      have hk := hK σ hC FrX.rfl'
      refine CallAt.of (k := 80) (cd := k_X5_rule) ok_X5_rule (by decide) rfl rfl rfl ?_
      show V _ i_X5_rule k_X5_rule 0 [.ref 0, .int k, .int r, .int n, .null] [] _ _
      refine V_run ok_X5_rule 60 0 ?_
      simp (disch := omega) only [eng, c_X5_rule, r_X5_rule, tbl, true_and, Nat.reduceAdd, Nat.reduceLT, ↓reduceIte, n_eq, n_lt, n_le, n_cl, n_inT, nI_add, bI_eq0, bI_eq1, not_true_eq_false, not_false_eq_true, true_implies, false_implies, implies_true, and_true, Bool.not_eq_false, Bool.not_eq_true, Nat.reduceEqDiff, Nat.reduceLeDiff, Classical.not_not, List.length_cons, List.length_nil, Int.reduceAdd, z_cast, Nat.reducePow, false_or, Nat.reduceLT, Nat.sub_zero, Nat.le_refl, g]
      try simp only [iteP, Classical.not_not, Bool.not_eq_false, Bool.not_eq_true]
      refine x_isKind ?_
      cases h1 : inB k 4
      all_goals
        simp (disch := omega) only [n_eq, n_lt, n_le, n_cl, n_inT, nI_add, bI_eq0, bI_eq1, not_true_eq_false, not_false_eq_true, true_implies, false_implies, implies_true, and_true, Bool.not_eq_false, Bool.not_eq_true, Nat.reduceEqDiff, Nat.reduceLeDiff, Classical.not_not, List.length_cons, List.length_nil, Int.reduceAdd, z_cast, Nat.reducePow, false_or, Nat.reduceLT, Nat.sub_zero, Nat.le_refl, true_and, ↓reduceIte, iteP, Bool.true_eq_false, Bool.false_eq_true, g]
        exact hk
  have z1 : ¬ n' < 1 := by omega
  have z3 : ¬ 3 < n' := by omega
  refine CallAt.of (k := 80) (cd := k_X5_rule) ok_X5_rule (by decide) rfl rfl rfl ?_
  show V _ i_X5_rule k_X5_rule 0 [.ref 0, .int k, .int r, .int (nI n'), .null] [] _ _
  refine V_run ok_X5_rule 60 0 ?_
  simp (disch := omega) only [eng, c_X5_rule, r_X5_rule, tbl, true_and, Nat.reduceAdd, Nat.reduceLT, ↓reduceIte, n_eq, n_lt, n_le, n_cl, n_inT, nI_add, bI_eq0, bI_eq1, not_true_eq_false, not_false_eq_true, true_implies, false_implies, implies_true, and_true, Bool.not_eq_false, Bool.not_eq_true, Nat.reduceEqDiff, Nat.reduceLeDiff, Classical.not_not, List.length_cons, List.length_nil, Int.reduceAdd, z_cast, Nat.reducePow, false_or, Nat.reduceLT, Nat.sub_zero, Nat.le_refl, z1, z3, h3]
  try simp only [iteP, Classical.not_not, Bool.not_eq_false, Bool.not_eq_true]
  refine x_isKind ?_
  cases h1 : inB k 4 with
  | false =>
    rw [h1] at hK
    simp (disch := omega) only [n_eq, n_lt, n_le, n_cl, n_inT, nI_add, bI_eq0, bI_eq1, not_true_eq_false, not_false_eq_true, true_implies, false_implies, implies_true, and_true, Bool.not_eq_false, Bool.not_eq_true, Nat.reduceEqDiff, Nat.reduceLeDiff, Classical.not_not, List.length_cons, List.length_nil, Int.reduceAdd, z_cast, Nat.reducePow, false_or, Nat.reduceLT, Nat.sub_zero, Nat.le_refl, true_and, ↓reduceIte, iteP, Bool.false_eq_true]
    exact hK σ hC FrX.rfl'
  | true =>
    rw [h1, g0, Bool.true_and, Bool.true_and, n_cl (by omega)] at hK
    simp (disch := omega) only [n_eq, n_lt, n_le, n_cl, n_inT, nI_add, bI_eq0, bI_eq1, not_true_eq_false, not_false_eq_true, true_implies, false_implies, implies_true, and_true, Bool.not_eq_false, Bool.not_eq_true, Nat.reduceEqDiff, Nat.reduceLeDiff, Classical.not_not, List.length_cons, List.length_nil, Int.reduceAdd, z_cast, Nat.reducePow, false_or, Nat.reduceLT, Nat.sub_zero, Nat.le_refl, true_and, ↓reduceIte, iteP, Bool.true_eq_false]
    refine x_isRow (by omega) (by omega) ?_
    cases h2 : rowOk r n' with
    | false =>
      rw [h2] at hK
      simp (disch := omega) only [n_eq, n_lt, n_le, n_cl, n_inT, nI_add, bI_eq0, bI_eq1, not_true_eq_false, not_false_eq_true, true_implies, false_implies, implies_true, and_true, Bool.not_eq_false, Bool.not_eq_true, Nat.reduceEqDiff, Nat.reduceLeDiff, Classical.not_not, List.length_cons, List.length_nil, Int.reduceAdd, z_cast, Nat.reducePow, false_or, Nat.reduceLT, Nat.sub_zero, Nat.le_refl, true_and, ↓reduceIte, iteP, Bool.false_eq_true]
      exact hK σ hC FrX.rfl'
    | true =>
      rw [h2, if_pos rfl] at hK
      obtain ⟨r', q1, rfl, q2, q3⟩ := rowOk_of h2
      obtain ⟨k', hk', rfl⟩ := inB_of h1
      rw [n_cl (by omega), n_cl (by omega)] at hK
      have fk := (hE.2.2.2.2.2.2 k' hk').1
      simp (disch := omega) only [n_eq, n_lt, n_le, n_cl, n_inT, nI_add, bI_eq0, bI_eq1, not_true_eq_false, not_false_eq_true, true_implies, false_implies, implies_true, and_true, Bool.not_eq_false, Bool.not_eq_true, Nat.reduceEqDiff, Nat.reduceLeDiff, Classical.not_not, List.length_cons, List.length_nil, Int.reduceAdd, z_cast, Nat.reducePow, false_or, Nat.reduceLT, Nat.sub_zero, Nat.le_refl, true_and, ↓reduceIte, iteP, Bool.true_eq_false, fk]
      refine x_setRule e100 hE hk' (by omega) h3 q2 (fun σ' hE' hf' => ?_)
      exact hK σ' (hC.es hf' (Wf_setR hW hk' (by omega) h3 q3) hE') (hf'.x e100)
def op_heir (A : AS) (p k : Int32) : Int32 × AS :=
  (if (inB p (A.1 12 0) && inB k 4) = true then (if A.1 5 p.toNatClampNeg = 1 then (if heir A.1 p.toNatClampNeg k.toNatClampNeg = 12 then -4 else nI (heir A.1 p.toNatClampNeg k.toNatClampNeg)) else -2) else -1, A)
theorem X_heir {l : Launch} {A : AS} {p k : Int32} {σ : St} {K : Int32 → St → Prop} (hC : CX A σ) (hK : ∀ σ', CX (op_heir A p k).2 σ' → FrX σ σ' → K (op_heir A p k).1 σ') : CallAt l 81 [.ref 0, .int p, .int k] σ K := by
  have hW := hC.1.1
  have hE := hC.2.1
  have hn := hW.1
  have hk := hK σ hC FrX.rfl'
  unfold op_heir at hk
  dsimp only at hk
  refine CallAt.of (k := 81) (cd := k_X5_heir) ok_X5_heir (by decide) rfl rfl rfl ?_
  show V _ i_X5_heir k_X5_heir 0 [.ref 0, .int p, .int k, .null] [] _ _
  refine V_run ok_X5_heir 60 0 ?_
  simp (disch := omega) only [eng, c_X5_heir, r_X5_heir, tbl, true_and, Nat.reduceAdd, Nat.reduceLT, ↓reduceIte, n_eq, n_lt, n_le, n_cl, n_inT, nI_add, bI_eq0, bI_eq1, not_true_eq_false, not_false_eq_true, true_implies, false_implies, implies_true, and_true, Bool.not_eq_false, Bool.not_eq_true, Nat.reduceEqDiff, Nat.reduceLeDiff, Classical.not_not, List.length_cons, List.length_nil, Int.reduceAdd, z_cast, Nat.reducePow, false_or, Nat.reduceLT, Nat.sub_zero, Nat.le_refl]
  try simp only [iteP, Classical.not_not, Bool.not_eq_false, Bool.not_eq_true]
  refine x_known e100 hE.1 hn ?_
  cases h1 : inB p (A.1 12 0) with
  | false =>
    rw [h1] at hk
    simp (disch := omega) only [n_eq, n_lt, n_le, n_cl, n_inT, nI_add, bI_eq0, bI_eq1, not_true_eq_false, not_false_eq_true, true_implies, false_implies, implies_true, and_true, Bool.not_eq_false, Bool.not_eq_true, Nat.reduceEqDiff, Nat.reduceLeDiff, Classical.not_not, List.length_cons, List.length_nil, Int.reduceAdd, z_cast, Nat.reducePow, false_or, Nat.reduceLT, Nat.sub_zero, Nat.le_refl, true_and, ↓reduceIte, iteP, Bool.false_eq_true]
    exact hk
  | true =>
    simp (disch := omega) only [n_eq, n_lt, n_le, n_cl, n_inT, nI_add, bI_eq0, bI_eq1, not_true_eq_false, not_false_eq_true, true_implies, false_implies, implies_true, and_true, Bool.not_eq_false, Bool.not_eq_true, Nat.reduceEqDiff, Nat.reduceLeDiff, Classical.not_not, List.length_cons, List.length_nil, Int.reduceAdd, z_cast, Nat.reducePow, false_or, Nat.reduceLT, Nat.sub_zero, Nat.le_refl, true_and, ↓reduceIte, iteP, Bool.true_eq_false]
    refine x_isKind ?_
    cases h2 : inB k 4 with
    | false =>
      rw [h1, h2] at hk
      simp (disch := omega) only [n_eq, n_lt, n_le, n_cl, n_inT, nI_add, bI_eq0, bI_eq1, not_true_eq_false, not_false_eq_true, true_implies, false_implies, implies_true, and_true, Bool.not_eq_false, Bool.not_eq_true, Nat.reduceEqDiff, Nat.reduceLeDiff, Classical.not_not, List.length_cons, List.length_nil, Int.reduceAdd, z_cast, Nat.reducePow, false_or, Nat.reduceLT, Nat.sub_zero, Nat.le_refl, true_and, ↓reduceIte, iteP, Bool.false_eq_true]
      exact hk
    | true =>
      rw [h1, h2, Bool.and_self, if_pos rfl] at hk
      simp (disch := omega) only [n_eq, n_lt, n_le, n_cl, n_inT, nI_add, bI_eq0, bI_eq1, not_true_eq_false, not_false_eq_true, true_implies, false_implies, implies_true, and_true, Bool.not_eq_false, Bool.not_eq_true, Nat.reduceEqDiff, Nat.reduceLeDiff, Classical.not_not, List.length_cons, List.length_nil, Int.reduceAdd, z_cast, Nat.reducePow, false_or, Nat.reduceLT, Nat.sub_zero, Nat.le_refl, true_and, ↓reduceIte, iteP, Bool.true_eq_false]
      refine x_livX e100 hW hE ?_
      obtain ⟨p', hp, rfl⟩ := inB_of h1
      obtain ⟨k', hk', rfl⟩ := inB_of h2
      have hp12 := p12 hW hp
      rw [n_cl (by omega), n_cl (by omega)] at hk
      rw [livX_n hn hp]
      cases h3 : (A.1 5 p' == 1) with
      | false =>
        rw [if_neg (by simpa using h3)] at hk
        simp (disch := omega) only [n_eq, n_lt, n_le, n_cl, n_inT, nI_add, bI_eq0, bI_eq1, not_true_eq_false, not_false_eq_true, true_implies, false_implies, implies_true, and_true, Bool.not_eq_false, Bool.not_eq_true, Nat.reduceEqDiff, Nat.reduceLeDiff, Classical.not_not, List.length_cons, List.length_nil, Int.reduceAdd, z_cast, Nat.reducePow, false_or, Nat.reduceLT, Nat.sub_zero, Nat.le_refl, true_and, ↓reduceIte, iteP, Bool.false_eq_true]
        exact hk
      | true =>
        rw [if_pos (by simpa using h3)] at hk
        simp (disch := omega) only [n_eq, n_lt, n_le, n_cl, n_inT, nI_add, bI_eq0, bI_eq1, not_true_eq_false, not_false_eq_true, true_implies, false_implies, implies_true, and_true, Bool.not_eq_false, Bool.not_eq_true, Nat.reduceEqDiff, Nat.reduceLeDiff, Classical.not_not, List.length_cons, List.length_nil, Int.reduceAdd, z_cast, Nat.reducePow, false_or, Nat.reduceLT, Nat.sub_zero, Nat.le_refl, true_and, ↓reduceIte, iteP, Bool.true_eq_false]
        refine x_heirBy e100 hW hE hp hk' ?_
        have hh := heir12 hW p' k'
        simp (disch := omega) only [n_eq, n_lt, n_le, n_cl, n_inT, nI_add, bI_eq0, bI_eq1, not_true_eq_false, not_false_eq_true, true_implies, false_implies, implies_true, and_true, Bool.not_eq_false, Bool.not_eq_true, Nat.reduceEqDiff, Nat.reduceLeDiff, Classical.not_not, List.length_cons, List.length_nil, Int.reduceAdd, z_cast, Nat.reducePow, false_or, Nat.reduceLT, Nat.sub_zero, Nat.le_refl, true_and, ↓reduceIte, iteP]
        refine ⟨fun z => ?_, fun z => ?_⟩
        · first | (rw [if_pos z] at hk; exact hk) | (rw [if_neg z] at hk; exact hk)
        · first | (rw [if_pos z] at hk; exact hk) | (rw [if_neg z] at hk; exact hk)
def op_seed (A : AS) (v : Int32) : Int32 × AS := if v < nI 0 then (-1, A) else (nI (A.1 12 2), setE A (eu A.1 12 2 v.toNatClampNeg))
theorem X_seed {l : Launch} {A : AS} {v : Int32} {σ : St} {K : Int32 → St → Prop} (hC : CX A σ) (hK : ∀ σ', CX (op_seed A v).2 σ' → FrX σ σ' → K (op_seed A v).1 σ') : CallAt l 93 [.ref 0, .int v] σ K := by
  have hW := hC.1.1
  have hE := hC.2.1
  have fd := hE.2.2.2.1
  unfold op_seed at hK
  by_cases h : v < nI 0
  · have h' : ¬ nI 0 ≤ v := by rw [i_le]; rw [i_lt] at h; omega
    refine CallAt.of (k := 93) (cd := k_X5_seed) ok_X5_seed (by decide) rfl rfl rfl ?_
    show V _ i_X5_seed k_X5_seed 0 [.ref 0, .int v, .null] [] _ _
    refine V_run ok_X5_seed 60 0 ?_
    simp (disch := omega) only [eng, c_X5_seed, r_X5_seed, tbl, true_and, Nat.reduceAdd, Nat.reduceLT, ↓reduceIte, n_eq, n_lt, n_le, n_cl, n_inT, nI_add, bI_eq0, bI_eq1, not_true_eq_false, not_false_eq_true, true_implies, false_implies, implies_true, and_true, Bool.not_eq_false, Bool.not_eq_true, Nat.reduceEqDiff, Nat.reduceLeDiff, Classical.not_not, List.length_cons, List.length_nil, Int.reduceAdd, z_cast, Nat.reducePow, false_or, Nat.reduceLT, Nat.sub_zero, Nat.le_refl, h']
    try simp only [iteP, Classical.not_not, Bool.not_eq_false, Bool.not_eq_true]
    rw [if_pos h] at hK
    exact hK σ hC FrX.rfl'
  · rw [if_neg h] at hK
    obtain ⟨v', hv, rfl⟩ := nI_of h
    rw [n_cl hv] at hK
    refine CallAt.of (k := 93) (cd := k_X5_seed) ok_X5_seed (by decide) rfl rfl rfl ?_
    show V _ i_X5_seed k_X5_seed 0 [.ref 0, .int (nI v'), .null] [] _ _
    refine V_run ok_X5_seed 60 0 ?_
    simp (disch := omega) only [eng, c_X5_seed, r_X5_seed, tbl, true_and, Nat.reduceAdd, Nat.reduceLT, ↓reduceIte, n_eq, n_lt, n_le, n_cl, n_inT, nI_add, bI_eq0, bI_eq1, not_true_eq_false, not_false_eq_true, true_implies, false_implies, implies_true, and_true, Bool.not_eq_false, Bool.not_eq_true, Nat.reduceEqDiff, Nat.reduceLeDiff, Classical.not_not, List.length_cons, List.length_nil, Int.reduceAdd, z_cast, Nat.reducePow, false_or, Nat.reduceLT, Nat.sub_zero, Nat.le_refl, Nat.zero_le, fd]
    try simp only [iteP, Classical.not_not, Bool.not_eq_false, Bool.not_eq_true]
    exact hK _ (hC.es (FrE.rfl'.wr (by omega)) (Wf_draw hW hv) (XE_draw hE)) (FrX.rfl'.wr (by decide))
def op_image (A : AS) : Int32 × AS := (nI 1, (A.1, some A.1, A.2.2))
theorem X_image {l : Launch} {A : AS} {σ : St} {K : Int32 → St → Prop} (hC : CX A σ) (hK : ∀ σ', CX (op_image A).2 σ' → FrX σ σ' → K (op_image A).1 σ') : CallAt l 94 [.ref 0] σ K := by
  have hW := hC.1.1
  have hE := hC.2.1
  unfold op_image at hK
  refine CallAt.of (k := 94) (cd := k_X5_image) ok_X5_image (by decide) rfl rfl rfl ?_
  show V _ i_X5_image k_X5_image 0 [.ref 0] [] _ _
  refine V_run ok_X5_image 60 0 ?_
  simp (disch := omega) only [eng, c_X5_image, r_X5_image, tbl, true_and, Nat.reduceAdd, Nat.reduceLT, ↓reduceIte, n_eq, n_lt, n_le, n_cl, n_inT, nI_add, bI_eq0, bI_eq1, not_true_eq_false, not_false_eq_true, true_implies, false_implies, implies_true, and_true, Bool.not_eq_false, Bool.not_eq_true, Nat.reduceEqDiff, Nat.reduceLeDiff, Classical.not_not, List.length_cons, List.length_nil, Int.reduceAdd, z_cast, Nat.reducePow, false_or, Nat.reduceLT, Nat.sub_zero, Nat.le_refl]
  try simp only [iteP, Classical.not_not, Bool.not_eq_false, Bool.not_eq_true]
  refine x_takeFrom e200 e100 (by decide) hW hE (fun σ' hE' hf' => ?_)
  obtain ⟨a1, a2, a3, a4, a5, a6⟩ := hC
  have fr : ∀ k, k ≠ 0 → wr σ' 0 7 (nI 1) k = σ' k := fun k hk => wr_ne k hk
  have hx : XE 200 A.1 (wr σ' 0 7 (nI 1)) := hE'.frame (fun k h1 h2 => fr k (by omega))
  refine hK _ ⟨⟨hW, fun E' he => ?_, a1.2.2⟩, hE.frame (fun k h1 h2 => by rw [fr k (by omega)]; exact hf' k (by omega)), by simp [wr_at, bI], fun E' he => ?_, ⟨by rw [fr 400 (by omega), hf' 400 (by omega)]; exact a5.1, fun i hi => by rw [fr 401 (by omega), hf' 401 (by omega)]; exact a5.2 i hi⟩, ⟨fun s hs => by rw [fr 501 (by omega), fr 502 (by omega), hf' 501 (by omega), hf' 502 (by omega)]; exact a6.1 s hs, fun j hj => by rw [fr 503 (by omega), hf' 503 (by omega)]; exact a6.2 j hj⟩⟩ ((hf'.x e200).wr (by decide))
  · cases he; exact hW
  · cases he; exact hx
def op_restore (A : AS) : Int32 × AS := match A.2.1 with
  | none => (-4, A)
  | some E => (nI 1, setE A E)
theorem X_restore {l : Launch} {A : AS} {σ : St} {K : Int32 → St → Prop} (hC : CX A σ) (hK : ∀ σ', CX (op_restore A).2 σ' → FrX σ σ' → K (op_restore A).1 σ') : CallAt l 95 [.ref 0] σ K := by
  have hi := hC.2.2.1
  unfold op_restore at hK
  cases h : A.2.1 with
  | none =>
    rw [h] at hK hi
    have hi' : σ 0 7 = nI 0 := hi
    refine CallAt.of (k := 95) (cd := k_X5_restore) ok_X5_restore (by decide) rfl rfl rfl ?_
    show V _ i_X5_restore k_X5_restore 0 [.ref 0] [] _ _
    refine V_run ok_X5_restore 60 0 ?_
    simp (disch := omega) only [eng, c_X5_restore, r_X5_restore, tbl, true_and, Nat.reduceAdd, Nat.reduceLT, ↓reduceIte, n_eq, n_lt, n_le, n_cl, n_inT, nI_add, bI_eq0, bI_eq1, not_true_eq_false, not_false_eq_true, true_implies, false_implies, implies_true, and_true, Bool.not_eq_false, Bool.not_eq_true, Nat.reduceEqDiff, Nat.reduceLeDiff, Classical.not_not, List.length_cons, List.length_nil, Int.reduceAdd, z_cast, Nat.reducePow, false_or, Nat.reduceLT, Nat.sub_zero, Nat.le_refl, hi']
    try simp only [iteP, Classical.not_not, Bool.not_eq_false, Bool.not_eq_true]
    exact hK σ hC FrX.rfl'
  | some E =>
    rw [h] at hK hi
    have hi' : σ 0 7 = nI 1 := hi
    refine CallAt.of (k := 95) (cd := k_X5_restore) ok_X5_restore (by decide) rfl rfl rfl ?_
    show V _ i_X5_restore k_X5_restore 0 [.ref 0] [] _ _
    refine V_run ok_X5_restore 60 0 ?_
    simp (disch := omega) only [eng, c_X5_restore, r_X5_restore, tbl, true_and, Nat.reduceAdd, Nat.reduceLT, ↓reduceIte, n_eq, n_lt, n_le, n_cl, n_inT, nI_add, bI_eq0, bI_eq1, not_true_eq_false, not_false_eq_true, true_implies, false_implies, implies_true, and_true, Bool.not_eq_false, Bool.not_eq_true, Nat.reduceEqDiff, Nat.reduceLeDiff, Classical.not_not, List.length_cons, List.length_nil, Int.reduceAdd, z_cast, Nat.reducePow, false_or, Nat.reduceLT, Nat.sub_zero, Nat.le_refl, hi']
    try simp only [iteP, Classical.not_not, Bool.not_eq_false, Bool.not_eq_true]
    have hW' := hC.1.2.1 E h
    refine x_takeFrom e100 e200 (by decide) hW' (hC.2.2.2.1 E h) (fun σ' hE' hf' => ?_)
    exact hK σ' (hC.es hf' hW' hE') (hf'.x e100)
