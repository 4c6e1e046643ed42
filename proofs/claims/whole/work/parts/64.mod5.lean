theorem M_told {l : Launch} {A : AS} {p w : Int32} {σ : St} {K : Int32 → St → Prop} (hM : MX A σ) (hK : ∀ σ', MX (op_told A p w).2 σ' → FrM σ σ' → K (op_told A p w).1 σ') : CallAt l 126 [.ref 900, .int p, .int w] σ K := by
  have hW := hM.1.1
  have hE := hM.2.1
  have hn := hW.1
  have hk := hK σ hM FrM.rfl'
  unfold op_told at hk
  dsimp only at hk
  cases hw : inB w 7 with
  | false =>
    have q := inB_f (by decide) hw
    have tlz : ∀ p, tl A.1 p w = -1 := fun p => by
      unfold tl
      simp only [q.2 0 (by decide), q.2 1 (by decide), q.2 2 (by decide), q.2 3 (by decide), q.2 4 (by decide), q.2 5 (by decide), q.2 6 (by decide), if_false]
    refine CallAt.of (k := 126) (cd := k_X6_told) ok_X6_told (by decide) rfl rfl rfl ?_
    show V _ i_X6_told k_X6_told 0 [.ref 900, .int p, .int w] [] _ _
    refine V_run ok_X6_told 60 0 ?_
    simp (disch := omega) only [eng, c_X6_told, r_X6_told, tbl, true_and, Nat.reduceAdd, Nat.reduceLT, ↓reduceIte, n_eq, n_lt, n_le, n_cl, n_inT, nI_add, bI_eq0, bI_eq1, not_true_eq_false, not_false_eq_true, true_implies, false_implies, implies_true, and_true, Bool.not_eq_false, Bool.not_eq_true, Nat.reduceEqDiff, Nat.reduceLeDiff, Classical.not_not, List.length_cons, List.length_nil, Int.reduceAdd, z_cast, Nat.reducePow, false_or, Nat.reduceLT, Nat.sub_zero, Nat.le_refl, q.2 0 (by decide), q.2 1 (by decide), q.2 2 (by decide), q.2 3 (by decide), q.2 4 (by decide), q.2 5 (by decide), q.2 6 (by decide), q.1]
    try simp only [iteP, Classical.not_not, Bool.not_eq_false, Bool.not_eq_true]
    refine m_isOne hE.1 hn ?_
    rw [tlz] at hk
    cases h1 : inB p (A.1 12 0)
    all_goals
      rw [h1] at hk
      simp (disch := omega) only [n_eq, n_lt, n_le, n_cl, n_inT, nI_add, bI_eq0, bI_eq1, not_true_eq_false, not_false_eq_true, true_implies, false_implies, implies_true, and_true, Bool.not_eq_false, Bool.not_eq_true, Nat.reduceEqDiff, Nat.reduceLeDiff, Classical.not_not, List.length_cons, List.length_nil, Int.reduceAdd, z_cast, Nat.reducePow, false_or, Nat.reduceLT, Nat.sub_zero, Nat.le_refl, true_and, ↓reduceIte, iteP, Bool.true_eq_false, Bool.false_eq_true]
      exact hk
  | true =>
    obtain ⟨j, hj, rfl⟩ := inB_of hw
    cases h1 : inB p (A.1 12 0) with
    | false =>
      rw [h1] at hk
      rcases (show j = 0 ∨ j = 1 ∨ j = 2 ∨ j = 3 ∨ j = 4 ∨ j = 5 ∨ j = 6 by omega) with rfl | rfl | rfl | rfl | rfl | rfl | rfl
      all_goals
        refine CallAt.of (k := 126) (cd := k_X6_told) ok_X6_told (by decide) rfl rfl rfl ?_
        show V _ i_X6_told k_X6_told 0 [.ref 900, .int p, .int (nI _)] [] _ _
        refine V_run ok_X6_told 60 0 ?_
        simp (disch := omega) only [eng, c_X6_told, r_X6_told, tbl, true_and, Nat.reduceAdd, Nat.reduceLT, ↓reduceIte, n_eq, n_lt, n_le, n_cl, n_inT, nI_add, bI_eq0, bI_eq1, not_true_eq_false, not_false_eq_true, true_implies, false_implies, implies_true, and_true, Bool.not_eq_false, Bool.not_eq_true, Nat.reduceEqDiff, Nat.reduceLeDiff, Classical.not_not, List.length_cons, List.length_nil, Int.reduceAdd, z_cast, Nat.reducePow, false_or, Nat.reduceLT, Nat.sub_zero, Nat.le_refl]
        try simp only [iteP, Classical.not_not, Bool.not_eq_false, Bool.not_eq_true]
        refine m_isOne hE.1 hn ?_
        rw [h1]
        simp (disch := omega) only [n_eq, n_lt, n_le, n_cl, n_inT, nI_add, bI_eq0, bI_eq1, not_true_eq_false, not_false_eq_true, true_implies, false_implies, implies_true, and_true, Bool.not_eq_false, Bool.not_eq_true, Nat.reduceEqDiff, Nat.reduceLeDiff, Classical.not_not, List.length_cons, List.length_nil, Int.reduceAdd, z_cast, Nat.reducePow, false_or, Nat.reduceLT, Nat.sub_zero, Nat.le_refl, true_and, ↓reduceIte, iteP, Bool.true_eq_false, Bool.false_eq_true]
        exact hk
    | true =>
      rw [h1, if_pos rfl] at hk
      obtain ⟨p', hp, rfl⟩ := inB_of h1
      have hp12 := p12 hW hp
      have fp := hE.2.2.2.1 p' hp
      rw [n_cl (by omega)] at hk
      unfold tl at hk
      rcases (show j = 0 ∨ j = 1 ∨ j = 2 ∨ j = 3 ∨ j = 4 ∨ j = 5 ∨ j = 6 by omega) with rfl | rfl | rfl | rfl | rfl | rfl | rfl
      all_goals
        simp (disch := omega) only [n_eq, n_lt, n_le, n_cl, n_inT, nI_add, bI_eq0, bI_eq1, not_true_eq_false, not_false_eq_true, true_implies, false_implies, implies_true, and_true, Bool.not_eq_false, Bool.not_eq_true, Nat.reduceEqDiff, Nat.reduceLeDiff, Classical.not_not, List.length_cons, List.length_nil, Int.reduceAdd, z_cast, Nat.reducePow, false_or, Nat.reduceLT, Nat.sub_zero, Nat.le_refl, if_true, if_false] at hk
        refine CallAt.of (k := 126) (cd := k_X6_told) ok_X6_told (by decide) rfl rfl rfl ?_
        show V _ i_X6_told k_X6_told 0 [.ref 900, .int (nI p'), .int (nI _)] [] _ _
        refine V_run ok_X6_told 60 0 ?_
        simp (disch := omega) only [eng, c_X6_told, r_X6_told, tbl, true_and, Nat.reduceAdd, Nat.reduceLT, ↓reduceIte, n_eq, n_lt, n_le, n_cl, n_inT, nI_add, bI_eq0, bI_eq1, not_true_eq_false, not_false_eq_true, true_implies, false_implies, implies_true, and_true, Bool.not_eq_false, Bool.not_eq_true, Nat.reduceEqDiff, Nat.reduceLeDiff, Classical.not_not, List.length_cons, List.length_nil, Int.reduceAdd, z_cast, Nat.reducePow, false_or, Nat.reduceLT, Nat.sub_zero, Nat.le_refl]
        try simp only [iteP, Classical.not_not, Bool.not_eq_false, Bool.not_eq_true]
        refine m_isOne hE.1 hn ?_
        rw [h1]
        simp (disch := omega) only [n_eq, n_lt, n_le, n_cl, n_inT, nI_add, bI_eq0, bI_eq1, not_true_eq_false, not_false_eq_true, true_implies, false_implies, implies_true, and_true, Bool.not_eq_false, Bool.not_eq_true, Nat.reduceEqDiff, Nat.reduceLeDiff, Classical.not_not, List.length_cons, List.length_nil, Int.reduceAdd, z_cast, Nat.reducePow, false_or, Nat.reduceLT, Nat.sub_zero, Nat.le_refl, true_and, ↓reduceIte, iteP, Bool.true_eq_false, Bool.false_eq_true, fp]
      · exact hk
      · exact hk
      · exact hk
      · exact hk
      · exact hk
      · exact hk
      · exact m_house hW hE hp hk
theorem M_of {l : Launch} {A : AS} {t w : Int32} {σ : St} {K : Int32 → St → Prop} (hM : MX A σ) (hK : ∀ σ', MX (op_of A t w).2 σ' → FrM σ σ' → K (op_of A t w).1 σ') : CallAt l 134 [.ref 900, .int t, .int w] σ K := by
  have hW := hM.1.1
  have hE := hM.2.1
  have hn := hW.2.1
  have hk := hK σ hM FrM.rfl'
  unfold op_of at hk
  dsimp only at hk
  refine CallAt.of (k := 134) (cd := k_X6_of) ok_X6_of (by decide) rfl rfl rfl ?_
  show V _ i_X6_of k_X6_of 0 [.ref 900, .int t, .int w] [] _ _
  refine V_run ok_X6_of 60 0 ?_
  simp (disch := omega) only [eng, c_X6_of, r_X6_of, tbl, true_and, Nat.reduceAdd, Nat.reduceLT, ↓reduceIte, n_eq, n_lt, n_le, n_cl, n_inT, nI_add, bI_eq0, bI_eq1, not_true_eq_false, not_false_eq_true, true_implies, false_implies, implies_true, and_true, Bool.not_eq_false, Bool.not_eq_true, Nat.reduceEqDiff, Nat.reduceLeDiff, Classical.not_not, List.length_cons, List.length_nil, Int.reduceAdd, z_cast, Nat.reducePow, false_or, Nat.reduceLT, Nat.sub_zero, Nat.le_refl]
  try simp only [iteP, Classical.not_not, Bool.not_eq_false, Bool.not_eq_true]
  refine m_isThing hE.2.1 hn ?_
  cases h1 : inB t (A.1 12 1) with
  | false =>
    rw [h1] at hk
    simp (disch := omega) only [n_eq, n_lt, n_le, n_cl, n_inT, nI_add, bI_eq0, bI_eq1, not_true_eq_false, not_false_eq_true, true_implies, false_implies, implies_true, and_true, Bool.not_eq_false, Bool.not_eq_true, Nat.reduceEqDiff, Nat.reduceLeDiff, Classical.not_not, List.length_cons, List.length_nil, Int.reduceAdd, z_cast, Nat.reducePow, false_or, Nat.reduceLT, Nat.sub_zero, Nat.le_refl, true_and, ↓reduceIte, iteP, Bool.false_eq_true]
    exact hk
  | true =>
    simp (disch := omega) only [n_eq, n_lt, n_le, n_cl, n_inT, nI_add, bI_eq0, bI_eq1, not_true_eq_false, not_false_eq_true, true_implies, false_implies, implies_true, and_true, Bool.not_eq_false, Bool.not_eq_true, Nat.reduceEqDiff, Nat.reduceLeDiff, Classical.not_not, List.length_cons, List.length_nil, Int.reduceAdd, z_cast, Nat.reducePow, false_or, Nat.reduceLT, Nat.sub_zero, Nat.le_refl, true_and, ↓reduceIte, iteP, Bool.true_eq_false]
    refine m_rI (a := 0) (n := 3) rfl rfl ?_
    rw [← rI0 w 3]
    rw [h1, if_pos rfl] at hk
    cases hw : inB w 4 with
    | false =>
      have q := inB_f (by decide) hw
      have tlz : ∀ p, ofR A.1 p w = -1 := fun p => by
        unfold ofR
        simp only [q.2 0 (by decide), q.2 1 (by decide), q.2 2 (by decide), q.2 3 (by decide), if_false]
      rw [tlz] at hk
      simp (disch := omega) only [n_eq, n_lt, n_le, n_cl, n_inT, nI_add, bI_eq0, bI_eq1, not_true_eq_false, not_false_eq_true, true_implies, false_implies, implies_true, and_true, Bool.not_eq_false, Bool.not_eq_true, Nat.reduceEqDiff, Nat.reduceLeDiff, Classical.not_not, List.length_cons, List.length_nil, Int.reduceAdd, z_cast, Nat.reducePow, false_or, Nat.reduceLT, Nat.sub_zero, Nat.le_refl, true_and, ↓reduceIte, iteP, Bool.false_eq_true]
      exact hk
    | true =>
      obtain ⟨j, hj, rfl⟩ := inB_of hw
      obtain ⟨p', hp, rfl⟩ := inB_of h1
      have hp12 := t12 hW hp
      have fp := hE.2.2.2.2.1 p' hp
      rw [n_cl (by omega)] at hk
      unfold ofR at hk
      rcases (show j = 0 ∨ j = 1 ∨ j = 2 ∨ j = 3 by omega) with rfl | rfl | rfl | rfl
      all_goals
        simp (disch := omega) only [n_eq, n_lt, n_le, n_cl, n_inT, nI_add, bI_eq0, bI_eq1, not_true_eq_false, not_false_eq_true, true_implies, false_implies, implies_true, and_true, Bool.not_eq_false, Bool.not_eq_true, Nat.reduceEqDiff, Nat.reduceLeDiff, Classical.not_not, List.length_cons, List.length_nil, Int.reduceAdd, z_cast, Nat.reducePow, false_or, Nat.reduceLT, Nat.sub_zero, Nat.le_refl, if_true, if_false] at hk
        simp (disch := omega) only [n_eq, n_lt, n_le, n_cl, n_inT, nI_add, bI_eq0, bI_eq1, not_true_eq_false, not_false_eq_true, true_implies, false_implies, implies_true, and_true, Bool.not_eq_false, Bool.not_eq_true, Nat.reduceEqDiff, Nat.reduceLeDiff, Classical.not_not, List.length_cons, List.length_nil, Int.reduceAdd, z_cast, Nat.reducePow, false_or, Nat.reduceLT, Nat.sub_zero, Nat.le_refl, true_and, ↓reduceIte, iteP, Bool.true_eq_false, Bool.false_eq_true, fp]
        exact hk
theorem ME_draw {d : Nat} {E : Es} {σ : St} (hE : ME E σ) : ME (eu E 12 2 d) (wr σ 900 14 (nI d)) := by
  obtain ⟨a1, a2, a3, a4, a5, a6⟩ := hE
  refine ⟨by simpa [wr_at, eu] using a1, by simpa [wr_at, eu] using a2, by simp [wr_at, eu], fun p hp => ?_, fun t ht => ?_, fun k hk => ?_⟩
  · have := a4 p (by simpa [eu] using hp)
    simp [wr_at, eu, this]
  · have := a5 t (by simpa [eu] using ht)
    simp [wr_at, eu, this]
  · have := a6 k hk
    refine ⟨by simpa [wr_at, eu] using this.1, fun i hi => ?_⟩
    have := this.2 i (by simpa [eu] using hi)
    simpa [wr_at, eu] using this
theorem M_seed {l : Launch} {A : AS} {v : Int32} {σ : St} {K : Int32 → St → Prop} (hM : MX A σ) (hK : ∀ σ', MX (op_seed A v).2 σ' → FrM σ σ' → K (op_seed A v).1 σ') : CallAt l 173 [.ref 900, .int v] σ K := by
  have hW := hM.1.1
  have hE := hM.2.1
  have fd := hE.2.2.1
  unfold op_seed at hK
  by_cases h : v < nI 0
  · have h' : ¬ nI 0 ≤ v := by rw [i_le]; rw [i_lt] at h; omega
    refine CallAt.of (k := 173) (cd := k_X6_seed) ok_X6_seed (by decide) rfl rfl rfl ?_
    show V _ i_X6_seed k_X6_seed 0 [.ref 900, .int v, .null] [] _ _
    refine V_run ok_X6_seed 60 0 ?_
    simp (disch := omega) only [eng, c_X6_seed, r_X6_seed, tbl, true_and, Nat.reduceAdd, Nat.reduceLT, ↓reduceIte, n_eq, n_lt, n_le, n_cl, n_inT, nI_add, bI_eq0, bI_eq1, not_true_eq_false, not_false_eq_true, true_implies, false_implies, implies_true, and_true, Bool.not_eq_false, Bool.not_eq_true, Nat.reduceEqDiff, Nat.reduceLeDiff, Classical.not_not, List.length_cons, List.length_nil, Int.reduceAdd, z_cast, Nat.reducePow, false_or, Nat.reduceLT, Nat.sub_zero, Nat.le_refl, h', h]
    try simp only [iteP, Classical.not_not, Bool.not_eq_false, Bool.not_eq_true]
    rw [if_pos h] at hK
    exact hK σ hM FrM.rfl'
  · rw [if_neg h] at hK
    obtain ⟨v', hv, rfl⟩ := nI_of h
    rw [n_cl hv] at hK
    refine CallAt.of (k := 173) (cd := k_X6_seed) ok_X6_seed (by decide) rfl rfl rfl ?_
    show V _ i_X6_seed k_X6_seed 0 [.ref 900, .int (nI v'), .null] [] _ _
    refine V_run ok_X6_seed 60 0 ?_
    simp (disch := omega) only [eng, c_X6_seed, r_X6_seed, tbl, true_and, Nat.reduceAdd, Nat.reduceLT, ↓reduceIte, n_eq, n_lt, n_le, n_cl, n_inT, nI_add, bI_eq0, bI_eq1, not_true_eq_false, not_false_eq_true, true_implies, false_implies, implies_true, and_true, Bool.not_eq_false, Bool.not_eq_true, Nat.reduceEqDiff, Nat.reduceLeDiff, Classical.not_not, List.length_cons, List.length_nil, Int.reduceAdd, z_cast, Nat.reducePow, false_or, Nat.reduceLT, Nat.sub_zero, Nat.le_refl, Nat.zero_le, Nat.not_lt_zero, fd]
    try simp only [iteP, Classical.not_not, Bool.not_eq_false, Bool.not_eq_true]
    exact hK _ (hM.es (FrN_wr9 FrN.rfl' (Or.inr (Or.inr rfl))) (Wf_draw hW hv) (ME_draw hE)) (FrM.rfl'.wr (by decide))
theorem m_hasOther {l : Launch} {k : Nat} {σ : St} {K : Int32 → St → Prop} (hk : k < 4) (hK : K (bI (k == 1 || k == 2)) σ) : CallAt l 132 [.int (nI k)] σ K := by
  rcases (show k = 0 ∨ k = 1 ∨ k = 2 ∨ k = 3 by omega) with rfl | rfl | rfl | rfl
  all_goals
    refine CallAt.of (k := 132) (cd := k_X6_hasOther) ok_X6_hasOther (by decide) rfl rfl rfl ?_
    show V _ i_X6_hasOther k_X6_hasOther 0 [.int (nI _)] [] _ _
    refine V_run ok_X6_hasOther 30 0 ?_
    simp (disch := omega) only [eng, c_X6_hasOther, r_X6_hasOther, tbl, true_and, Nat.reduceAdd, Nat.reduceLT, ↓reduceIte, n_eq, n_lt, n_le, n_cl, n_inT, nI_add, bI_eq0, bI_eq1, not_true_eq_false, not_false_eq_true, true_implies, false_implies, implies_true, and_true, Bool.not_eq_false, Bool.not_eq_true, Nat.reduceEqDiff, Nat.reduceLeDiff, Classical.not_not, List.length_cons, List.length_nil, Int.reduceAdd, z_cast, Nat.reducePow, false_or, Nat.reduceLT, Nat.sub_zero, Nat.le_refl]
    try simp only [iteP, Classical.not_not, Bool.not_eq_false, Bool.not_eq_true]
    exact hK
