theorem m_psb {l : Launch} {p c : Nat} {E : Es} {σ : St} {K : Int32 → St → Prop} (hW : Wf E) (hE : MPR E σ) (hp : p < E 12 0) (hc : c < E 12 0) (hK : K (bI (psb E p c)) σ) : CallAt l 127 [.ref 900, .int (nI p), .int (nI c)] σ K := by
  have hc12 := p12 hW hc
  have fc := hE.2.2.2.1 c hc
  have wc := hW.2.2.2.1 c hc
  have f1 := fa12 hW hc
  have f2 := mo12 hW hc
  have w1 : E 1 c = 12 ∨ E 1 c < c := by
    rcases wc.2.2.1 with q | q
    · exact Or.inl q
    · exact Or.inr q.1
  have w2 : E 2 c = 12 ∨ E 2 c < c := by
    rcases wc.2.2.2.1 with q | q
    · exact Or.inl q
    · exact Or.inr q.1
  unfold psb at hK
  by_cases q1 : E 1 c = 12 <;> by_cases q2 : E 2 c = 12
  · refine CallAt.of (k := 127) (cd := k_X6_isParentsSibling) ok_X6_isParentsSibling (by decide) rfl rfl rfl ?_
    show V _ i_X6_isParentsSibling k_X6_isParentsSibling 0 [.ref 900, .int (nI p), .int (nI c), .null] [] _ _
    refine V_run ok_X6_isParentsSibling 80 0 ?_
    simp (disch := omega) only [eng, c_X6_isParentsSibling, r_X6_isParentsSibling, tbl, true_and, Nat.reduceAdd, Nat.reduceLT, ↓reduceIte, n_eq, n_lt, n_le, n_cl, n_inT, nI_add, bI_eq0, bI_eq1, not_true_eq_false, not_false_eq_true, true_implies, false_implies, implies_true, and_true, Bool.not_eq_false, Bool.not_eq_true, Nat.reduceEqDiff, Nat.reduceLeDiff, Classical.not_not, List.length_cons, List.length_nil, Int.reduceAdd, z_cast, Nat.reducePow, false_or, Nat.reduceLT, Nat.sub_zero, Nat.le_refl, fc, q1, q2]
    try simp only [iteP, Classical.not_not, Bool.not_eq_false, Bool.not_eq_true]
    have e1 : (E 1 c != 12) = false := by simp [q1]
    have e2 : (E 2 c != 12) = false := by simp [q2]
    rw [e1, e2] at hK
    exact hK
  · refine CallAt.of (k := 127) (cd := k_X6_isParentsSibling) ok_X6_isParentsSibling (by decide) rfl rfl rfl ?_
    show V _ i_X6_isParentsSibling k_X6_isParentsSibling 0 [.ref 900, .int (nI p), .int (nI c), .null] [] _ _
    refine V_run ok_X6_isParentsSibling 80 0 ?_
    simp (disch := omega) only [eng, c_X6_isParentsSibling, r_X6_isParentsSibling, tbl, true_and, Nat.reduceAdd, Nat.reduceLT, ↓reduceIte, n_eq, n_lt, n_le, n_cl, n_inT, nI_add, bI_eq0, bI_eq1, not_true_eq_false, not_false_eq_true, true_implies, false_implies, implies_true, and_true, Bool.not_eq_false, Bool.not_eq_true, Nat.reduceEqDiff, Nat.reduceLeDiff, Classical.not_not, List.length_cons, List.length_nil, Int.reduceAdd, z_cast, Nat.reducePow, false_or, Nat.reduceLT, Nat.sub_zero, Nat.le_refl, fc, q1, q2]
    try simp only [iteP, Classical.not_not, Bool.not_eq_false, Bool.not_eq_true]
    rw [show (E 1 c != 12) = false by simp [q1], show (E 2 c != 12) = true by simp [q2], Bool.false_and, Bool.false_or, Bool.true_and] at hK
    refine m_sib hW hE hp (by omega) ?_
    cases k1 : sib E p (E 2 c)
    all_goals
      rw [k1] at hK
      simp (disch := omega) only [n_eq, n_lt, n_le, n_cl, n_inT, nI_add, bI_eq0, bI_eq1, not_true_eq_false, not_false_eq_true, true_implies, false_implies, implies_true, and_true, Bool.not_eq_false, Bool.not_eq_true, Nat.reduceEqDiff, Nat.reduceLeDiff, Classical.not_not, List.length_cons, List.length_nil, Int.reduceAdd, z_cast, Nat.reducePow, false_or, Nat.reduceLT, Nat.sub_zero, Nat.le_refl, true_and, ↓reduceIte, iteP, Bool.true_eq_false, Bool.false_eq_true]
      exact hK
  · refine CallAt.of (k := 127) (cd := k_X6_isParentsSibling) ok_X6_isParentsSibling (by decide) rfl rfl rfl ?_
    show V _ i_X6_isParentsSibling k_X6_isParentsSibling 0 [.ref 900, .int (nI p), .int (nI c), .null] [] _ _
    refine V_run ok_X6_isParentsSibling 80 0 ?_
    simp (disch := omega) only [eng, c_X6_isParentsSibling, r_X6_isParentsSibling, tbl, true_and, Nat.reduceAdd, Nat.reduceLT, ↓reduceIte, n_eq, n_lt, n_le, n_cl, n_inT, nI_add, bI_eq0, bI_eq1, not_true_eq_false, not_false_eq_true, true_implies, false_implies, implies_true, and_true, Bool.not_eq_false, Bool.not_eq_true, Nat.reduceEqDiff, Nat.reduceLeDiff, Classical.not_not, List.length_cons, List.length_nil, Int.reduceAdd, z_cast, Nat.reducePow, false_or, Nat.reduceLT, Nat.sub_zero, Nat.le_refl, fc, q1, q2]
    try simp only [iteP, Classical.not_not, Bool.not_eq_false, Bool.not_eq_true]
    rw [show (E 1 c != 12) = true by simp [q1], show (E 2 c != 12) = false by simp [q2], Bool.false_and, Bool.or_false, Bool.true_and] at hK
    refine m_sib hW hE hp (by omega) ?_
    cases k1 : sib E p (E 1 c)
    all_goals
      rw [k1] at hK
      simp (disch := omega) only [n_eq, n_lt, n_le, n_cl, n_inT, nI_add, bI_eq0, bI_eq1, not_true_eq_false, not_false_eq_true, true_implies, false_implies, implies_true, and_true, Bool.not_eq_false, Bool.not_eq_true, Nat.reduceEqDiff, Nat.reduceLeDiff, Classical.not_not, List.length_cons, List.length_nil, Int.reduceAdd, z_cast, Nat.reducePow, false_or, Nat.reduceLT, Nat.sub_zero, Nat.le_refl, true_and, ↓reduceIte, iteP, Bool.true_eq_false, Bool.false_eq_true, fc, q2]
      exact hK
  · refine CallAt.of (k := 127) (cd := k_X6_isParentsSibling) ok_X6_isParentsSibling (by decide) rfl rfl rfl ?_
    show V _ i_X6_isParentsSibling k_X6_isParentsSibling 0 [.ref 900, .int (nI p), .int (nI c), .null] [] _ _
    refine V_run ok_X6_isParentsSibling 80 0 ?_
    simp (disch := omega) only [eng, c_X6_isParentsSibling, r_X6_isParentsSibling, tbl, true_and, Nat.reduceAdd, Nat.reduceLT, ↓reduceIte, n_eq, n_lt, n_le, n_cl, n_inT, nI_add, bI_eq0, bI_eq1, not_true_eq_false, not_false_eq_true, true_implies, false_implies, implies_true, and_true, Bool.not_eq_false, Bool.not_eq_true, Nat.reduceEqDiff, Nat.reduceLeDiff, Classical.not_not, List.length_cons, List.length_nil, Int.reduceAdd, z_cast, Nat.reducePow, false_or, Nat.reduceLT, Nat.sub_zero, Nat.le_refl, fc, q1, q2]
    try simp only [iteP, Classical.not_not, Bool.not_eq_false, Bool.not_eq_true]
    rw [show (E 1 c != 12) = true by simp [q1], show (E 2 c != 12) = true by simp [q2], Bool.true_and, Bool.true_and] at hK
    refine m_sib hW hE hp (by omega) ?_
    cases k1 : sib E p (E 1 c) with
    | true =>
      rw [k1] at hK
      simp (disch := omega) only [n_eq, n_lt, n_le, n_cl, n_inT, nI_add, bI_eq0, bI_eq1, not_true_eq_false, not_false_eq_true, true_implies, false_implies, implies_true, and_true, Bool.not_eq_false, Bool.not_eq_true, Nat.reduceEqDiff, Nat.reduceLeDiff, Classical.not_not, List.length_cons, List.length_nil, Int.reduceAdd, z_cast, Nat.reducePow, false_or, Nat.reduceLT, Nat.sub_zero, Nat.le_refl, true_and, ↓reduceIte, iteP, Bool.true_eq_false, Bool.false_eq_true]
      exact hK
    | false =>
      rw [k1, Bool.false_or] at hK
      simp (disch := omega) only [n_eq, n_lt, n_le, n_cl, n_inT, nI_add, bI_eq0, bI_eq1, not_true_eq_false, not_false_eq_true, true_implies, false_implies, implies_true, and_true, Bool.not_eq_false, Bool.not_eq_true, Nat.reduceEqDiff, Nat.reduceLeDiff, Classical.not_not, List.length_cons, List.length_nil, Int.reduceAdd, z_cast, Nat.reducePow, false_or, Nat.reduceLT, Nat.sub_zero, Nat.le_refl, true_and, ↓reduceIte, iteP, Bool.true_eq_false, Bool.false_eq_true, fc, q2]
      refine m_sib hW hE hp (by omega) ?_
      cases k2 : sib E p (E 2 c)
      all_goals
        rw [k2] at hK
        simp (disch := omega) only [n_eq, n_lt, n_le, n_cl, n_inT, nI_add, bI_eq0, bI_eq1, not_true_eq_false, not_false_eq_true, true_implies, false_implies, implies_true, and_true, Bool.not_eq_false, Bool.not_eq_true, Nat.reduceEqDiff, Nat.reduceLeDiff, Classical.not_not, List.length_cons, List.length_nil, Int.reduceAdd, z_cast, Nat.reducePow, false_or, Nat.reduceLT, Nat.sub_zero, Nat.le_refl, true_and, ↓reduceIte, iteP, Bool.true_eq_false, Bool.false_eq_true]
        exact hK
theorem m_cou {l : Launch} {a c : Nat} {E : Es} {σ : St} {K : Int32 → St → Prop} (hW : Wf E) (hE : MPR E σ) (ha : a < E 12 0) (hc : c < E 12 0) (hK : K (bI (cou E a c)) σ) : CallAt l 128 [.ref 900, .int (nI a), .int (nI c)] σ K := by
  have ha12 := p12 hW ha
  have hc12 := p12 hW hc
  have fc := hE.2.2.2.1 c hc
  have wc := hW.2.2.2.1 c hc
  have f1 := fa12 hW hc
  have f2 := mo12 hW hc
  have w1 : E 1 c = 12 ∨ E 1 c < c := by
    rcases wc.2.2.1 with q | q
    · exact Or.inl q
    · exact Or.inr q.1
  have w2 : E 2 c = 12 ∨ E 2 c < c := by
    rcases wc.2.2.2.1 with q | q
    · exact Or.inl q
    · exact Or.inr q.1
  unfold cou at hK
  have fin : ∀ b : Bool, K (bI (b && a != c && !sib E a c)) σ → b = true → ¬ a = c → CallAt l 118 [.ref 900, .int (nI a), .int (nI c)] σ (fun r' σ' => (¬ r' = nI 0 → K (nI 0) σ') ∧ (r' = nI 0 → K (nI 1) σ')) := fun b hK hb hz => by
    refine m_sib hW hE ha hc ?_
    rw [hb, show (a != c) = true by simp [hz], Bool.true_and, Bool.true_and] at hK
    cases k1 : sib E a c
    all_goals
      rw [k1] at hK
      simp (disch := omega) only [n_eq, n_lt, n_le, n_cl, n_inT, nI_add, bI_eq0, bI_eq1, not_true_eq_false, not_false_eq_true, true_implies, false_implies, implies_true, and_true, Bool.not_eq_false, Bool.not_eq_true, Nat.reduceEqDiff, Nat.reduceLeDiff, Classical.not_not, List.length_cons, List.length_nil, Int.reduceAdd, z_cast, Nat.reducePow, false_or, Nat.reduceLT, Nat.sub_zero, Nat.le_refl, true_and, ↓reduceIte, iteP, Bool.true_eq_false, Bool.false_eq_true]
      exact hK
  by_cases hz : a = c
  case pos =>
    rw [show (a != c) = false by simp [hz], Bool.and_false, Bool.false_and] at hK
    by_cases q1 : E 1 c = 12 <;> by_cases q2 : E 2 c = 12
    · refine CallAt.of (k := 128) (cd := k_X6_areCousins) ok_X6_areCousins (by decide) rfl rfl rfl ?_
      show V _ i_X6_areCousins k_X6_areCousins 0 [.ref 900, .int (nI a), .int (nI c), .null, .null] [] _ _
      refine V_run ok_X6_areCousins 90 0 ?_
      simp (disch := omega) only [eng, c_X6_areCousins, r_X6_areCousins, tbl, true_and, Nat.reduceAdd, Nat.reduceLT, ↓reduceIte, n_eq, n_lt, n_le, n_cl, n_inT, nI_add, bI_eq0, bI_eq1, not_true_eq_false, not_false_eq_true, true_implies, false_implies, implies_true, and_true, Bool.not_eq_false, Bool.not_eq_true, Nat.reduceEqDiff, Nat.reduceLeDiff, Classical.not_not, List.length_cons, List.length_nil, Int.reduceAdd, z_cast, Nat.reducePow, false_or, Nat.reduceLT, Nat.sub_zero, Nat.le_refl, fc, q1, q2, hz]
      try simp only [iteP, Classical.not_not, Bool.not_eq_false, Bool.not_eq_true]
      exact hK
    · refine CallAt.of (k := 128) (cd := k_X6_areCousins) ok_X6_areCousins (by decide) rfl rfl rfl ?_
      show V _ i_X6_areCousins k_X6_areCousins 0 [.ref 900, .int (nI a), .int (nI c), .null, .null] [] _ _
      refine V_run ok_X6_areCousins 90 0 ?_
      simp (disch := omega) only [eng, c_X6_areCousins, r_X6_areCousins, tbl, true_and, Nat.reduceAdd, Nat.reduceLT, ↓reduceIte, n_eq, n_lt, n_le, n_cl, n_inT, nI_add, bI_eq0, bI_eq1, not_true_eq_false, not_false_eq_true, true_implies, false_implies, implies_true, and_true, Bool.not_eq_false, Bool.not_eq_true, Nat.reduceEqDiff, Nat.reduceLeDiff, Classical.not_not, List.length_cons, List.length_nil, Int.reduceAdd, z_cast, Nat.reducePow, false_or, Nat.reduceLT, Nat.sub_zero, Nat.le_refl, fc, q1, q2, hz]
      try simp only [iteP, Classical.not_not, Bool.not_eq_false, Bool.not_eq_true]
      refine m_psb hW hE (by omega) (by omega) ?_
      cases k1 : psb E (E 2 c) c
      all_goals
        simp (disch := omega) only [n_eq, n_lt, n_le, n_cl, n_inT, nI_add, bI_eq0, bI_eq1, not_true_eq_false, not_false_eq_true, true_implies, false_implies, implies_true, and_true, Bool.not_eq_false, Bool.not_eq_true, Nat.reduceEqDiff, Nat.reduceLeDiff, Classical.not_not, List.length_cons, List.length_nil, Int.reduceAdd, z_cast, Nat.reducePow, false_or, Nat.reduceLT, Nat.sub_zero, Nat.le_refl, true_and, ↓reduceIte, iteP, Bool.true_eq_false, Bool.false_eq_true]
        exact hK
    · refine CallAt.of (k := 128) (cd := k_X6_areCousins) ok_X6_areCousins (by decide) rfl rfl rfl ?_
      show V _ i_X6_areCousins k_X6_areCousins 0 [.ref 900, .int (nI a), .int (nI c), .null, .null] [] _ _
      refine V_run ok_X6_areCousins 90 0 ?_
      simp (disch := omega) only [eng, c_X6_areCousins, r_X6_areCousins, tbl, true_and, Nat.reduceAdd, Nat.reduceLT, ↓reduceIte, n_eq, n_lt, n_le, n_cl, n_inT, nI_add, bI_eq0, bI_eq1, not_true_eq_false, not_false_eq_true, true_implies, false_implies, implies_true, and_true, Bool.not_eq_false, Bool.not_eq_true, Nat.reduceEqDiff, Nat.reduceLeDiff, Classical.not_not, List.length_cons, List.length_nil, Int.reduceAdd, z_cast, Nat.reducePow, false_or, Nat.reduceLT, Nat.sub_zero, Nat.le_refl, fc, q1, q2, hz]
      try simp only [iteP, Classical.not_not, Bool.not_eq_false, Bool.not_eq_true]
      refine m_psb hW hE (by omega) (by omega) ?_
      cases k1 : psb E (E 1 c) c
      all_goals
        simp (disch := omega) only [n_eq, n_lt, n_le, n_cl, n_inT, nI_add, bI_eq0, bI_eq1, not_true_eq_false, not_false_eq_true, true_implies, false_implies, implies_true, and_true, Bool.not_eq_false, Bool.not_eq_true, Nat.reduceEqDiff, Nat.reduceLeDiff, Classical.not_not, List.length_cons, List.length_nil, Int.reduceAdd, z_cast, Nat.reducePow, false_or, Nat.reduceLT, Nat.sub_zero, Nat.le_refl, true_and, ↓reduceIte, iteP, Bool.true_eq_false, Bool.false_eq_true, fc, q2]
        exact hK
    · refine CallAt.of (k := 128) (cd := k_X6_areCousins) ok_X6_areCousins (by decide) rfl rfl rfl ?_
      show V _ i_X6_areCousins k_X6_areCousins 0 [.ref 900, .int (nI a), .int (nI c), .null, .null] [] _ _
      refine V_run ok_X6_areCousins 90 0 ?_
      simp (disch := omega) only [eng, c_X6_areCousins, r_X6_areCousins, tbl, true_and, Nat.reduceAdd, Nat.reduceLT, ↓reduceIte, n_eq, n_lt, n_le, n_cl, n_inT, nI_add, bI_eq0, bI_eq1, not_true_eq_false, not_false_eq_true, true_implies, false_implies, implies_true, and_true, Bool.not_eq_false, Bool.not_eq_true, Nat.reduceEqDiff, Nat.reduceLeDiff, Classical.not_not, List.length_cons, List.length_nil, Int.reduceAdd, z_cast, Nat.reducePow, false_or, Nat.reduceLT, Nat.sub_zero, Nat.le_refl, fc, q1, q2, hz]
      try simp only [iteP, Classical.not_not, Bool.not_eq_false, Bool.not_eq_true]
      refine m_psb hW hE (by omega) (by omega) ?_
      cases k1 : psb E (E 1 c) c with
      | true =>
        simp (disch := omega) only [n_eq, n_lt, n_le, n_cl, n_inT, nI_add, bI_eq0, bI_eq1, not_true_eq_false, not_false_eq_true, true_implies, false_implies, implies_true, and_true, Bool.not_eq_false, Bool.not_eq_true, Nat.reduceEqDiff, Nat.reduceLeDiff, Classical.not_not, List.length_cons, List.length_nil, Int.reduceAdd, z_cast, Nat.reducePow, false_or, Nat.reduceLT, Nat.sub_zero, Nat.le_refl, true_and, ↓reduceIte, iteP, Bool.true_eq_false, Bool.false_eq_true]
        exact hK
      | false =>
        simp (disch := omega) only [n_eq, n_lt, n_le, n_cl, n_inT, nI_add, bI_eq0, bI_eq1, not_true_eq_false, not_false_eq_true, true_implies, false_implies, implies_true, and_true, Bool.not_eq_false, Bool.not_eq_true, Nat.reduceEqDiff, Nat.reduceLeDiff, Classical.not_not, List.length_cons, List.length_nil, Int.reduceAdd, z_cast, Nat.reducePow, false_or, Nat.reduceLT, Nat.sub_zero, Nat.le_refl, true_and, ↓reduceIte, iteP, Bool.true_eq_false, Bool.false_eq_true, fc, q2]
        refine m_psb hW hE (by omega) (by omega) ?_
        cases k2 : psb E (E 2 c) c
        all_goals
          simp (disch := omega) only [n_eq, n_lt, n_le, n_cl, n_inT, nI_add, bI_eq0, bI_eq1, not_true_eq_false, not_false_eq_true, true_implies, false_implies, implies_true, and_true, Bool.not_eq_false, Bool.not_eq_true, Nat.reduceEqDiff, Nat.reduceLeDiff, Classical.not_not, List.length_cons, List.length_nil, Int.reduceAdd, z_cast, Nat.reducePow, false_or, Nat.reduceLT, Nat.sub_zero, Nat.le_refl, true_and, ↓reduceIte, iteP, Bool.true_eq_false, Bool.false_eq_true]
          exact hK
  by_cases q1 : E 1 c = 12 <;> by_cases q2 : E 2 c = 12
  · refine CallAt.of (k := 128) (cd := k_X6_areCousins) ok_X6_areCousins (by decide) rfl rfl rfl ?_
    show V _ i_X6_areCousins k_X6_areCousins 0 [.ref 900, .int (nI a), .int (nI c), .null, .null] [] _ _
    refine V_run ok_X6_areCousins 90 0 ?_
    simp (disch := omega) only [eng, c_X6_areCousins, r_X6_areCousins, tbl, true_and, Nat.reduceAdd, Nat.reduceLT, ↓reduceIte, n_eq, n_lt, n_le, n_cl, n_inT, nI_add, bI_eq0, bI_eq1, not_true_eq_false, not_false_eq_true, true_implies, false_implies, implies_true, and_true, Bool.not_eq_false, Bool.not_eq_true, Nat.reduceEqDiff, Nat.reduceLeDiff, Classical.not_not, List.length_cons, List.length_nil, Int.reduceAdd, z_cast, Nat.reducePow, false_or, Nat.reduceLT, Nat.sub_zero, Nat.le_refl, fc, q1, q2, hz]
    try simp only [iteP, Classical.not_not, Bool.not_eq_false, Bool.not_eq_true]
    have e1 : (E 1 c != 12) = false := by simp [q1]
    have e2 : (E 2 c != 12) = false := by simp [q2]
    rw [e1, e2] at hK
    exact hK
  · rw [show (E 1 c != 12) = false by simp [q1], show (E 2 c != 12) = true by simp [q2], Bool.false_and, Bool.false_or, Bool.true_and] at hK
    refine CallAt.of (k := 128) (cd := k_X6_areCousins) ok_X6_areCousins (by decide) rfl rfl rfl ?_
    show V _ i_X6_areCousins k_X6_areCousins 0 [.ref 900, .int (nI a), .int (nI c), .null, .null] [] _ _
    refine V_run ok_X6_areCousins 90 0 ?_
    simp (disch := omega) only [eng, c_X6_areCousins, r_X6_areCousins, tbl, true_and, Nat.reduceAdd, Nat.reduceLT, ↓reduceIte, n_eq, n_lt, n_le, n_cl, n_inT, nI_add, bI_eq0, bI_eq1, not_true_eq_false, not_false_eq_true, true_implies, false_implies, implies_true, and_true, Bool.not_eq_false, Bool.not_eq_true, Nat.reduceEqDiff, Nat.reduceLeDiff, Classical.not_not, List.length_cons, List.length_nil, Int.reduceAdd, z_cast, Nat.reducePow, false_or, Nat.reduceLT, Nat.sub_zero, Nat.le_refl, fc, q1, q2, hz]
    try simp only [iteP, Classical.not_not, Bool.not_eq_false, Bool.not_eq_true]
    refine m_psb hW hE (by omega) (by omega) ?_
    cases k1 : psb E (E 2 c) a with
    | false =>
      rw [k1] at hK
      simp (disch := omega) only [n_eq, n_lt, n_le, n_cl, n_inT, nI_add, bI_eq0, bI_eq1, not_true_eq_false, not_false_eq_true, true_implies, false_implies, implies_true, and_true, Bool.not_eq_false, Bool.not_eq_true, Nat.reduceEqDiff, Nat.reduceLeDiff, Classical.not_not, List.length_cons, List.length_nil, Int.reduceAdd, z_cast, Nat.reducePow, false_or, Nat.reduceLT, Nat.sub_zero, Nat.le_refl, true_and, ↓reduceIte, iteP, Bool.true_eq_false, Bool.false_eq_true]
      exact hK
    | true =>
      simp (disch := omega) only [n_eq, n_lt, n_le, n_cl, n_inT, nI_add, bI_eq0, bI_eq1, not_true_eq_false, not_false_eq_true, true_implies, false_implies, implies_true, and_true, Bool.not_eq_false, Bool.not_eq_true, Nat.reduceEqDiff, Nat.reduceLeDiff, Classical.not_not, List.length_cons, List.length_nil, Int.reduceAdd, z_cast, Nat.reducePow, false_or, Nat.reduceLT, Nat.sub_zero, Nat.le_refl, true_and, ↓reduceIte, iteP, Bool.true_eq_false, Bool.false_eq_true, hz]
      exact fin _ hK k1 hz
  · rw [show (E 1 c != 12) = true by simp [q1], show (E 2 c != 12) = false by simp [q2], Bool.false_and, Bool.or_false, Bool.true_and] at hK
    refine CallAt.of (k := 128) (cd := k_X6_areCousins) ok_X6_areCousins (by decide) rfl rfl rfl ?_
    show V _ i_X6_areCousins k_X6_areCousins 0 [.ref 900, .int (nI a), .int (nI c), .null, .null] [] _ _
    refine V_run ok_X6_areCousins 90 0 ?_
    simp (disch := omega) only [eng, c_X6_areCousins, r_X6_areCousins, tbl, true_and, Nat.reduceAdd, Nat.reduceLT, ↓reduceIte, n_eq, n_lt, n_le, n_cl, n_inT, nI_add, bI_eq0, bI_eq1, not_true_eq_false, not_false_eq_true, true_implies, false_implies, implies_true, and_true, Bool.not_eq_false, Bool.not_eq_true, Nat.reduceEqDiff, Nat.reduceLeDiff, Classical.not_not, List.length_cons, List.length_nil, Int.reduceAdd, z_cast, Nat.reducePow, false_or, Nat.reduceLT, Nat.sub_zero, Nat.le_refl, fc, q1, q2, hz]
    try simp only [iteP, Classical.not_not, Bool.not_eq_false, Bool.not_eq_true]
    refine m_psb hW hE (by omega) (by omega) ?_
    cases k1 : psb E (E 1 c) a with
    | false =>
      rw [k1] at hK
      simp (disch := omega) only [n_eq, n_lt, n_le, n_cl, n_inT, nI_add, bI_eq0, bI_eq1, not_true_eq_false, not_false_eq_true, true_implies, false_implies, implies_true, and_true, Bool.not_eq_false, Bool.not_eq_true, Nat.reduceEqDiff, Nat.reduceLeDiff, Classical.not_not, List.length_cons, List.length_nil, Int.reduceAdd, z_cast, Nat.reducePow, false_or, Nat.reduceLT, Nat.sub_zero, Nat.le_refl, true_and, ↓reduceIte, iteP, Bool.true_eq_false, Bool.false_eq_true, fc, q2]
      exact hK
    | true =>
      simp (disch := omega) only [n_eq, n_lt, n_le, n_cl, n_inT, nI_add, bI_eq0, bI_eq1, not_true_eq_false, not_false_eq_true, true_implies, false_implies, implies_true, and_true, Bool.not_eq_false, Bool.not_eq_true, Nat.reduceEqDiff, Nat.reduceLeDiff, Classical.not_not, List.length_cons, List.length_nil, Int.reduceAdd, z_cast, Nat.reducePow, false_or, Nat.reduceLT, Nat.sub_zero, Nat.le_refl, true_and, ↓reduceIte, iteP, Bool.true_eq_false, Bool.false_eq_true, hz]
      exact fin _ hK k1 hz
  · rw [show (E 1 c != 12) = true by simp [q1], show (E 2 c != 12) = true by simp [q2], Bool.true_and, Bool.true_and] at hK
    refine CallAt.of (k := 128) (cd := k_X6_areCousins) ok_X6_areCousins (by decide) rfl rfl rfl ?_
    show V _ i_X6_areCousins k_X6_areCousins 0 [.ref 900, .int (nI a), .int (nI c), .null, .null] [] _ _
    refine V_run ok_X6_areCousins 90 0 ?_
    simp (disch := omega) only [eng, c_X6_areCousins, r_X6_areCousins, tbl, true_and, Nat.reduceAdd, Nat.reduceLT, ↓reduceIte, n_eq, n_lt, n_le, n_cl, n_inT, nI_add, bI_eq0, bI_eq1, not_true_eq_false, not_false_eq_true, true_implies, false_implies, implies_true, and_true, Bool.not_eq_false, Bool.not_eq_true, Nat.reduceEqDiff, Nat.reduceLeDiff, Classical.not_not, List.length_cons, List.length_nil, Int.reduceAdd, z_cast, Nat.reducePow, false_or, Nat.reduceLT, Nat.sub_zero, Nat.le_refl, fc, q1, q2, hz]
    try simp only [iteP, Classical.not_not, Bool.not_eq_false, Bool.not_eq_true]
    refine m_psb hW hE (by omega) (by omega) ?_
    cases k1 : psb E (E 1 c) a with
    | true =>
      simp (disch := omega) only [n_eq, n_lt, n_le, n_cl, n_inT, nI_add, bI_eq0, bI_eq1, not_true_eq_false, not_false_eq_true, true_implies, false_implies, implies_true, and_true, Bool.not_eq_false, Bool.not_eq_true, Nat.reduceEqDiff, Nat.reduceLeDiff, Classical.not_not, List.length_cons, List.length_nil, Int.reduceAdd, z_cast, Nat.reducePow, false_or, Nat.reduceLT, Nat.sub_zero, Nat.le_refl, true_and, ↓reduceIte, iteP, Bool.true_eq_false, Bool.false_eq_true, hz]
      exact fin _ hK (by rw [k1]; rfl) hz
    | false =>
      rw [k1, Bool.false_or] at hK
      simp (disch := omega) only [n_eq, n_lt, n_le, n_cl, n_inT, nI_add, bI_eq0, bI_eq1, not_true_eq_false, not_false_eq_true, true_implies, false_implies, implies_true, and_true, Bool.not_eq_false, Bool.not_eq_true, Nat.reduceEqDiff, Nat.reduceLeDiff, Classical.not_not, List.length_cons, List.length_nil, Int.reduceAdd, z_cast, Nat.reducePow, false_or, Nat.reduceLT, Nat.sub_zero, Nat.le_refl, true_and, ↓reduceIte, iteP, Bool.true_eq_false, Bool.false_eq_true, fc, q2]
      refine m_psb hW hE (by omega) (by omega) ?_
      cases k2 : psb E (E 2 c) a with
      | false =>
        rw [k2] at hK
        simp (disch := omega) only [n_eq, n_lt, n_le, n_cl, n_inT, nI_add, bI_eq0, bI_eq1, not_true_eq_false, not_false_eq_true, true_implies, false_implies, implies_true, and_true, Bool.not_eq_false, Bool.not_eq_true, Nat.reduceEqDiff, Nat.reduceLeDiff, Classical.not_not, List.length_cons, List.length_nil, Int.reduceAdd, z_cast, Nat.reducePow, false_or, Nat.reduceLT, Nat.sub_zero, Nat.le_refl, true_and, ↓reduceIte, iteP, Bool.true_eq_false, Bool.false_eq_true]
        exact hK
      | true =>
        simp (disch := omega) only [n_eq, n_lt, n_le, n_cl, n_inT, nI_add, bI_eq0, bI_eq1, not_true_eq_false, not_false_eq_true, true_implies, false_implies, implies_true, and_true, Bool.not_eq_false, Bool.not_eq_true, Nat.reduceEqDiff, Nat.reduceLeDiff, Classical.not_not, List.length_cons, List.length_nil, Int.reduceAdd, z_cast, Nat.reducePow, false_or, Nat.reduceLT, Nat.sub_zero, Nat.le_refl, true_and, ↓reduceIte, iteP, Bool.true_eq_false, Bool.false_eq_true, hz]
        exact fin _ hK k2 hz
theorem z5 : ((5 : Nat) : Int) = 5 := rfl
theorem m_rel {l : Launch} {p q r : Nat} {E : Es} {σ : St} {K : Int32 → St → Prop} (hW : Wf E) (hE : MPR E σ) (hp : p < E 12 0) (hq : q < E 12 0) (hr : r ≤ 5) (hK : K (bI (rel E p q r)) σ) : CallAt l 129 [.ref 900, .int (nI p), .int (nI q), .int (nI r)] σ K := by
  have hp12 := p12 hW hp
  have hq12 := p12 hW hq
  have fp := hE.2.2.2.1 p hp
  have fq := hE.2.2.2.1 q hq
  have w0 := (hW.2.2.2.1 q hq).1
  have s12 := sp12 hW hp
  have g12 := go12 hW hp
  rcases (show r = 0 ∨ r = 1 ∨ r = 2 ∨ r = 3 ∨ r = 4 ∨ r = 5 by omega) with rfl | rfl | rfl | rfl | rfl | rfl
  · by_cases z : E 0 q = 0
    · refine CallAt.of (k := 129) (cd := k_X6_isRelation) ok_X6_isRelation (by decide) rfl rfl rfl ?_
      show V _ i_X6_isRelation k_X6_isRelation 0 [.ref 900, .int (nI p), .int (nI q), .int (nI 0)] [] _ _
      refine V_run ok_X6_isRelation 60 0 ?_
      simp (disch := omega) only [eng, c_X6_isRelation, r_X6_isRelation, tbl, true_and, Nat.reduceAdd, Nat.reduceLT, ↓reduceIte, n_eq, n_lt, n_le, n_cl, n_inT, nI_add, bI_eq0, bI_eq1, not_true_eq_false, not_false_eq_true, true_implies, false_implies, implies_true, and_true, Bool.not_eq_false, Bool.not_eq_true, Nat.reduceEqDiff, Nat.reduceLeDiff, Classical.not_not, List.length_cons, List.length_nil, Int.reduceAdd, z_cast, Nat.reducePow, false_or, Nat.reduceLT, Nat.sub_zero, Nat.le_refl, fp, fq, z, z5]
      try simp only [iteP, Classical.not_not, Bool.not_eq_false, Bool.not_eq_true]
      refine m_chi hW hE hq hp ?_
      have hK : K (bI (E 0 q == 0 && chi E q p)) σ := hK
      rw [show (E 0 q == 0) = true by simp [z], Bool.true_and] at hK
      cases k1 : chi E q p
      all_goals
        rw [k1] at hK
        simp (disch := omega) only [n_eq, n_lt, n_le, n_cl, n_inT, nI_add, bI_eq0, bI_eq1, not_true_eq_false, not_false_eq_true, true_implies, false_implies, implies_true, and_true, Bool.not_eq_false, Bool.not_eq_true, Nat.reduceEqDiff, Nat.reduceLeDiff, Classical.not_not, List.length_cons, List.length_nil, Int.reduceAdd, z_cast, Nat.reducePow, false_or, Nat.reduceLT, Nat.sub_zero, Nat.le_refl, true_and, ↓reduceIte, iteP, Bool.true_eq_false, Bool.false_eq_true]
        exact hK
    · refine CallAt.of (k := 129) (cd := k_X6_isRelation) ok_X6_isRelation (by decide) rfl rfl rfl ?_
      show V _ i_X6_isRelation k_X6_isRelation 0 [.ref 900, .int (nI p), .int (nI q), .int (nI 0)] [] _ _
      refine V_run ok_X6_isRelation 60 0 ?_
      simp (disch := omega) only [eng, c_X6_isRelation, r_X6_isRelation, tbl, true_and, Nat.reduceAdd, Nat.reduceLT, ↓reduceIte, n_eq, n_lt, n_le, n_cl, n_inT, nI_add, bI_eq0, bI_eq1, not_true_eq_false, not_false_eq_true, true_implies, false_implies, implies_true, and_true, Bool.not_eq_false, Bool.not_eq_true, Nat.reduceEqDiff, Nat.reduceLeDiff, Classical.not_not, List.length_cons, List.length_nil, Int.reduceAdd, z_cast, Nat.reducePow, false_or, Nat.reduceLT, Nat.sub_zero, Nat.le_refl, fp, fq, z, z5]
      try simp only [iteP, Classical.not_not, Bool.not_eq_false, Bool.not_eq_true]
      have hK : K (bI (E 0 q == 0 && chi E q p)) σ := hK
      rw [show (E 0 q == 0) = false by simp [z], Bool.false_and] at hK
      exact hK
  · by_cases z : E 0 q = 1
    · refine CallAt.of (k := 129) (cd := k_X6_isRelation) ok_X6_isRelation (by decide) rfl rfl rfl ?_
      show V _ i_X6_isRelation k_X6_isRelation 0 [.ref 900, .int (nI p), .int (nI q), .int (nI 1)] [] _ _
      refine V_run ok_X6_isRelation 60 0 ?_
      simp (disch := omega) only [eng, c_X6_isRelation, r_X6_isRelation, tbl, true_and, Nat.reduceAdd, Nat.reduceLT, ↓reduceIte, n_eq, n_lt, n_le, n_cl, n_inT, nI_add, bI_eq0, bI_eq1, not_true_eq_false, not_false_eq_true, true_implies, false_implies, implies_true, and_true, Bool.not_eq_false, Bool.not_eq_true, Nat.reduceEqDiff, Nat.reduceLeDiff, Classical.not_not, List.length_cons, List.length_nil, Int.reduceAdd, z_cast, Nat.reducePow, false_or, Nat.reduceLT, Nat.sub_zero, Nat.le_refl, fp, fq, z, z5]
      try simp only [iteP, Classical.not_not, Bool.not_eq_false, Bool.not_eq_true]
      refine m_chi hW hE hq hp ?_
      have hK : K (bI (E 0 q == 1 && chi E q p)) σ := hK
      rw [show (E 0 q == 1) = true by simp [z], Bool.true_and] at hK
      cases k1 : chi E q p
      all_goals
        rw [k1] at hK
        simp (disch := omega) only [n_eq, n_lt, n_le, n_cl, n_inT, nI_add, bI_eq0, bI_eq1, not_true_eq_false, not_false_eq_true, true_implies, false_implies, implies_true, and_true, Bool.not_eq_false, Bool.not_eq_true, Nat.reduceEqDiff, Nat.reduceLeDiff, Classical.not_not, List.length_cons, List.length_nil, Int.reduceAdd, z_cast, Nat.reducePow, false_or, Nat.reduceLT, Nat.sub_zero, Nat.le_refl, true_and, ↓reduceIte, iteP, Bool.true_eq_false, Bool.false_eq_true]
        exact hK
    · refine CallAt.of (k := 129) (cd := k_X6_isRelation) ok_X6_isRelation (by decide) rfl rfl rfl ?_
      show V _ i_X6_isRelation k_X6_isRelation 0 [.ref 900, .int (nI p), .int (nI q), .int (nI 1)] [] _ _
      refine V_run ok_X6_isRelation 60 0 ?_
      simp (disch := omega) only [eng, c_X6_isRelation, r_X6_isRelation, tbl, true_and, Nat.reduceAdd, Nat.reduceLT, ↓reduceIte, n_eq, n_lt, n_le, n_cl, n_inT, nI_add, bI_eq0, bI_eq1, not_true_eq_false, not_false_eq_true, true_implies, false_implies, implies_true, and_true, Bool.not_eq_false, Bool.not_eq_true, Nat.reduceEqDiff, Nat.reduceLeDiff, Classical.not_not, List.length_cons, List.length_nil, Int.reduceAdd, z_cast, Nat.reducePow, false_or, Nat.reduceLT, Nat.sub_zero, Nat.le_refl, fp, fq, z, z5]
      try simp only [iteP, Classical.not_not, Bool.not_eq_false, Bool.not_eq_true]
      have hK : K (bI (E 0 q == 1 && chi E q p)) σ := hK
      rw [show (E 0 q == 1) = false by simp [z], Bool.false_and] at hK
      exact hK
  · refine CallAt.of (k := 129) (cd := k_X6_isRelation) ok_X6_isRelation (by decide) rfl rfl rfl ?_
    show V _ i_X6_isRelation k_X6_isRelation 0 [.ref 900, .int (nI p), .int (nI q), .int (nI 2)] [] _ _
    refine V_run ok_X6_isRelation 60 0 ?_
    simp (disch := omega) only [eng, c_X6_isRelation, r_X6_isRelation, tbl, true_and, Nat.reduceAdd, Nat.reduceLT, ↓reduceIte, n_eq, n_lt, n_le, n_cl, n_inT, nI_add, bI_eq0, bI_eq1, not_true_eq_false, not_false_eq_true, true_implies, false_implies, implies_true, and_true, Bool.not_eq_false, Bool.not_eq_true, Nat.reduceEqDiff, Nat.reduceLeDiff, Classical.not_not, List.length_cons, List.length_nil, Int.reduceAdd, z_cast, Nat.reducePow, false_or, Nat.reduceLT, Nat.sub_zero, Nat.le_refl, z5]
    try simp only [iteP, Classical.not_not, Bool.not_eq_false, Bool.not_eq_true]
    refine m_sib hW hE hp hq ⟨okR_b _, hK⟩
  · refine CallAt.of (k := 129) (cd := k_X6_isRelation) ok_X6_isRelation (by decide) rfl rfl rfl ?_
    show V _ i_X6_isRelation k_X6_isRelation 0 [.ref 900, .int (nI p), .int (nI q), .int (nI 3)] [] _ _
    refine V_run ok_X6_isRelation 60 0 ?_
    simp (disch := omega) only [eng, c_X6_isRelation, r_X6_isRelation, tbl, true_and, Nat.reduceAdd, Nat.reduceLT, ↓reduceIte, n_eq, n_lt, n_le, n_cl, n_inT, nI_add, bI_eq0, bI_eq1, not_true_eq_false, not_false_eq_true, true_implies, false_implies, implies_true, and_true, Bool.not_eq_false, Bool.not_eq_true, Nat.reduceEqDiff, Nat.reduceLeDiff, Classical.not_not, List.length_cons, List.length_nil, Int.reduceAdd, z_cast, Nat.reducePow, false_or, Nat.reduceLT, Nat.sub_zero, Nat.le_refl, z5]
    try simp only [iteP, Classical.not_not, Bool.not_eq_false, Bool.not_eq_true]
    refine m_cou hW hE hp hq ⟨okR_b _, hK⟩
  · have hK : K (bI (E 3 p == q)) σ := hK
    by_cases z : E 3 p = q
    · refine CallAt.of (k := 129) (cd := k_X6_isRelation) ok_X6_isRelation (by decide) rfl rfl rfl ?_
      show V _ i_X6_isRelation k_X6_isRelation 0 [.ref 900, .int (nI p), .int (nI q), .int (nI 4)] [] _ _
      refine V_run ok_X6_isRelation 60 0 ?_
      simp (disch := omega) only [eng, c_X6_isRelation, r_X6_isRelation, tbl, true_and, Nat.reduceAdd, Nat.reduceLT, ↓reduceIte, n_eq, n_lt, n_le, n_cl, n_inT, nI_add, bI_eq0, bI_eq1, not_true_eq_false, not_false_eq_true, true_implies, false_implies, implies_true, and_true, Bool.not_eq_false, Bool.not_eq_true, Nat.reduceEqDiff, Nat.reduceLeDiff, Classical.not_not, List.length_cons, List.length_nil, Int.reduceAdd, z_cast, Nat.reducePow, false_or, Nat.reduceLT, Nat.sub_zero, Nat.le_refl, fp, fq, z, z5]
      try simp only [iteP, Classical.not_not, Bool.not_eq_false, Bool.not_eq_true]
      rw [show (E 3 p == q) = true by simp [z]] at hK; exact hK
    · refine CallAt.of (k := 129) (cd := k_X6_isRelation) ok_X6_isRelation (by decide) rfl rfl rfl ?_
      show V _ i_X6_isRelation k_X6_isRelation 0 [.ref 900, .int (nI p), .int (nI q), .int (nI 4)] [] _ _
      refine V_run ok_X6_isRelation 60 0 ?_
      simp (disch := omega) only [eng, c_X6_isRelation, r_X6_isRelation, tbl, true_and, Nat.reduceAdd, Nat.reduceLT, ↓reduceIte, n_eq, n_lt, n_le, n_cl, n_inT, nI_add, bI_eq0, bI_eq1, not_true_eq_false, not_false_eq_true, true_implies, false_implies, implies_true, and_true, Bool.not_eq_false, Bool.not_eq_true, Nat.reduceEqDiff, Nat.reduceLeDiff, Classical.not_not, List.length_cons, List.length_nil, Int.reduceAdd, z_cast, Nat.reducePow, false_or, Nat.reduceLT, Nat.sub_zero, Nat.le_refl, fp, fq, z, z5]
      try simp only [iteP, Classical.not_not, Bool.not_eq_false, Bool.not_eq_true]
      rw [show (E 3 p == q) = false by simp [z]] at hK; exact hK
  · have hK : K (bI (E 4 p == q)) σ := hK
    by_cases z : E 4 p = q
    · refine CallAt.of (k := 129) (cd := k_X6_isRelation) ok_X6_isRelation (by decide) rfl rfl rfl ?_
      show V _ i_X6_isRelation k_X6_isRelation 0 [.ref 900, .int (nI p), .int (nI q), .int (nI 5)] [] _ _
      refine V_run ok_X6_isRelation 60 0 ?_
      simp (disch := omega) only [eng, c_X6_isRelation, r_X6_isRelation, tbl, true_and, Nat.reduceAdd, Nat.reduceLT, ↓reduceIte, n_eq, n_lt, n_le, n_cl, n_inT, nI_add, bI_eq0, bI_eq1, not_true_eq_false, not_false_eq_true, true_implies, false_implies, implies_true, and_true, Bool.not_eq_false, Bool.not_eq_true, Nat.reduceEqDiff, Nat.reduceLeDiff, Classical.not_not, List.length_cons, List.length_nil, Int.reduceAdd, z_cast, Nat.reducePow, false_or, Nat.reduceLT, Nat.sub_zero, Nat.le_refl, fp, fq, z, z5]
      try simp only [iteP, Classical.not_not, Bool.not_eq_false, Bool.not_eq_true]
      rw [show (E 4 p == q) = true by simp [z]] at hK; exact hK
    · refine CallAt.of (k := 129) (cd := k_X6_isRelation) ok_X6_isRelation (by decide) rfl rfl rfl ?_
      show V _ i_X6_isRelation k_X6_isRelation 0 [.ref 900, .int (nI p), .int (nI q), .int (nI 5)] [] _ _
      refine V_run ok_X6_isRelation 60 0 ?_
      simp (disch := omega) only [eng, c_X6_isRelation, r_X6_isRelation, tbl, true_and, Nat.reduceAdd, Nat.reduceLT, ↓reduceIte, n_eq, n_lt, n_le, n_cl, n_inT, nI_add, bI_eq0, bI_eq1, not_true_eq_false, not_false_eq_true, true_implies, false_implies, implies_true, and_true, Bool.not_eq_false, Bool.not_eq_true, Nat.reduceEqDiff, Nat.reduceLeDiff, Classical.not_not, List.length_cons, List.length_nil, Int.reduceAdd, z_cast, Nat.reducePow, false_or, Nat.reduceLT, Nat.sub_zero, Nat.le_refl, fp, fq, z, z5]
      try simp only [iteP, Classical.not_not, Bool.not_eq_false, Bool.not_eq_true]
      rw [show (E 4 p == q) = false by simp [z]] at hK; exact hK
