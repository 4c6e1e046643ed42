theorem i_add0 (x : Int32) : x + nI 0 = x := Int32.add_zero x
theorem i_sub0 (x : Int32) : x - nI 0 = x := Int32.sub_zero x
theorem lp_bal (l : Launch) {p : Nat} {E : Es} {σ : St} {K : Int32 → St → Prop} (hW : Wf E) (hE : ME E σ) (hp : p < 12) (hK : K (owe E p (E 12 1)) σ) : ∀ (n t : Nat), t + n = E 12 1 → ∀ v : Value, V l i_X6_balanceOf k_X6_balanceOf 4 [.ref 900, .int (nI p), .int (owe E p t), .int (nI t), v] [] σ K
  | 0, t, ht, v => by
    have ht : t = E 12 1 := by omega
    subst ht
    have hn12 := hW.2.1
    have e11 := hE.2.1
    refine V_run ok_X6_balanceOf 60 4 ?_
    simp (disch := omega) only [eng, c_X6_balanceOf, r_X6_balanceOf, tbl, true_and, Nat.reduceAdd, Nat.reduceLT, ↓reduceIte, n_eq, n_lt, n_le, n_cl, n_inT, nI_add, bI_eq0, bI_eq1, not_true_eq_false, not_false_eq_true, true_implies, false_implies, implies_true, and_true, Bool.not_eq_false, Bool.not_eq_true, Nat.reduceEqDiff, Nat.reduceLeDiff, Classical.not_not, List.length_cons, List.length_nil, Int.reduceAdd, z_cast, Nat.reducePow, false_or, Nat.reduceLT, Nat.sub_zero, Nat.le_refl, e11]
    try simp only [iteP, Classical.not_not, Bool.not_eq_false, Bool.not_eq_true]
    exact hK
  | n + 1, t, ht, v => by
    have ht1 : t < E 12 1 := by omega
    have hn12 := hW.2.1
    have h12 := t12 hW ht1
    have e11 := hE.2.1
    have ft := hE.2.2.2.2.1 t ht1
    have h14 := ho14 hW ht1
    have h15 := ot12 hW ht1
    have wt := hW.2.2.2.2.1 t ht1
    have wk := wt.1
    have h9 := wt.2.2.2.2.1
    have ih := lp_bal l hW hE hp hK n (t + 1) (by omega)
    unfold owe at ih
    have hz : ¬ E 12 1 ≤ t := by omega
    by_cases h1 : E 6 t = 1
    case neg =>
      rw [if_neg (fun z => h1 z.1), if_neg (fun z => h1 z.1)] at ih
      refine V_run ok_X6_balanceOf 80 4 ?_
      simp (disch := omega) only [eng, c_X6_balanceOf, r_X6_balanceOf, tbl, true_and, Nat.reduceAdd, Nat.reduceLT, ↓reduceIte, n_eq, n_lt, n_le, n_cl, n_inT, nI_add, bI_eq0, bI_eq1, not_true_eq_false, not_false_eq_true, true_implies, false_implies, implies_true, and_true, Bool.not_eq_false, Bool.not_eq_true, Nat.reduceEqDiff, Nat.reduceLeDiff, Classical.not_not, List.length_cons, List.length_nil, Int.reduceAdd, z_cast, Nat.reducePow, false_or, Nat.reduceLT, Nat.sub_zero, Nat.le_refl, e11, ft, hz, h1, i_add0, i_sub0]
      try simp only [iteP, Classical.not_not, Bool.not_eq_false, Bool.not_eq_true]
      exact ih _
    by_cases h8 : 12 ≤ E 8 t
    · have e9 := h9 h8
      rw [if_neg (fun z => by omega), if_neg (fun z => by omega)] at ih
      refine V_run ok_X6_balanceOf 80 4 ?_
      simp (disch := omega) only [eng, c_X6_balanceOf, r_X6_balanceOf, tbl, true_and, Nat.reduceAdd, Nat.reduceLT, ↓reduceIte, n_eq, n_lt, n_le, n_cl, n_inT, nI_add, bI_eq0, bI_eq1, not_true_eq_false, not_false_eq_true, true_implies, false_implies, implies_true, and_true, Bool.not_eq_false, Bool.not_eq_true, Nat.reduceEqDiff, Nat.reduceLeDiff, Classical.not_not, List.length_cons, List.length_nil, Int.reduceAdd, z_cast, Nat.reducePow, false_or, Nat.reduceLT, Nat.sub_zero, Nat.le_refl, e11, ft, hz, h1, h8, i_add0, i_sub0]
      try simp only [iteP, Classical.not_not, Bool.not_eq_false, Bool.not_eq_true]
      exact ih _
    by_cases h2 : E 9 t = p <;> by_cases h3 : E 8 t = p
    · exact absurd (h3.trans h2.symm) (wt.2.2.2.2.2 (by omega))
    · rw [if_neg (fun z => h3 z.2), if_pos ⟨h1, h2⟩] at ih
      refine V_run ok_X6_balanceOf 80 4 ?_
      simp (disch := omega) only [eng, c_X6_balanceOf, r_X6_balanceOf, tbl, true_and, Nat.reduceAdd, Nat.reduceLT, ↓reduceIte, n_eq, n_lt, n_le, n_cl, n_inT, nI_add, bI_eq0, bI_eq1, not_true_eq_false, not_false_eq_true, true_implies, false_implies, implies_true, and_true, Bool.not_eq_false, Bool.not_eq_true, Nat.reduceEqDiff, Nat.reduceLeDiff, Classical.not_not, List.length_cons, List.length_nil, Int.reduceAdd, z_cast, Nat.reducePow, false_or, Nat.reduceLT, Nat.sub_zero, Nat.le_refl, e11, ft, hz, h1, h8, h2, h3, i_add0, i_sub0]
      try simp only [iteP, Classical.not_not, Bool.not_eq_false, Bool.not_eq_true]
      exact ih _
    · rw [if_pos ⟨h1, h3⟩, if_neg (fun z => h2 z.2)] at ih
      have h8' : ¬ 12 ≤ p := by omega
      refine V_run ok_X6_balanceOf 80 4 ?_
      simp (disch := omega) only [eng, c_X6_balanceOf, r_X6_balanceOf, tbl, true_and, Nat.reduceAdd, Nat.reduceLT, ↓reduceIte, n_eq, n_lt, n_le, n_cl, n_inT, nI_add, bI_eq0, bI_eq1, not_true_eq_false, not_false_eq_true, true_implies, false_implies, implies_true, and_true, Bool.not_eq_false, Bool.not_eq_true, Nat.reduceEqDiff, Nat.reduceLeDiff, Classical.not_not, List.length_cons, List.length_nil, Int.reduceAdd, z_cast, Nat.reducePow, false_or, Nat.reduceLT, Nat.sub_zero, Nat.le_refl, e11, ft, hz, h1, h8, h8', h2, h3, i_add0, i_sub0]
      try simp only [iteP, Classical.not_not, Bool.not_eq_false, Bool.not_eq_true]
      exact ih _
    · rw [if_neg (fun z => h3 z.2), if_neg (fun z => h2 z.2)] at ih
      refine V_run ok_X6_balanceOf 80 4 ?_
      simp (disch := omega) only [eng, c_X6_balanceOf, r_X6_balanceOf, tbl, true_and, Nat.reduceAdd, Nat.reduceLT, ↓reduceIte, n_eq, n_lt, n_le, n_cl, n_inT, nI_add, bI_eq0, bI_eq1, not_true_eq_false, not_false_eq_true, true_implies, false_implies, implies_true, and_true, Bool.not_eq_false, Bool.not_eq_true, Nat.reduceEqDiff, Nat.reduceLeDiff, Classical.not_not, List.length_cons, List.length_nil, Int.reduceAdd, z_cast, Nat.reducePow, false_or, Nat.reduceLT, Nat.sub_zero, Nat.le_refl, e11, ft, hz, h1, h8, h2, h3, i_add0, i_sub0]
      try simp only [iteP, Classical.not_not, Bool.not_eq_false, Bool.not_eq_true]
      exact ih _
theorem m_bal {l : Launch} {p : Nat} {E : Es} {σ : St} {K : Int32 → St → Prop} (hW : Wf E) (hE : ME E σ) (hp : p < 12) (hK : K (owe E p (E 12 1)) σ) : CallAt l 153 [.ref 900, .int (nI p)] σ K := by
  refine CallAt.of (k := 153) (cd := k_X6_balanceOf) ok_X6_balanceOf (by decide) rfl rfl rfl ?_
  show V _ i_X6_balanceOf k_X6_balanceOf 0 [.ref 900, .int (nI p), .null, .null, .null] [] _ _
  refine V_run ok_X6_balanceOf 30 0 ?_
  simp (disch := omega) only [eng, c_X6_balanceOf, r_X6_balanceOf, tbl, true_and, Nat.reduceAdd, Nat.reduceLT, ↓reduceIte, n_eq, n_lt, n_le, n_cl, n_inT, nI_add, bI_eq0, bI_eq1, not_true_eq_false, not_false_eq_true, true_implies, false_implies, implies_true, and_true, Bool.not_eq_false, Bool.not_eq_true, Nat.reduceEqDiff, Nat.reduceLeDiff, Classical.not_not, List.length_cons, List.length_nil, Int.reduceAdd, z_cast, Nat.reducePow, false_or, Nat.reduceLT, Nat.sub_zero, Nat.le_refl]
  try simp only [iteP, Classical.not_not, Bool.not_eq_false, Bool.not_eq_true]
  exact lp_bal l hW hE hp hK (E 12 1) 0 (by omega) _
theorem M_balance {l : Launch} {A : AS} {p : Int32} {σ : St} {K : Int32 → St → Prop} (hM : MX A σ) (hK : ∀ σ', MX (op_balance A p).2 σ' → FrM σ σ' → K (op_balance A p).1 σ') : CallAt l 154 [.ref 900, .int p] σ K := by
  have hW := hM.1.1
  have hE := hM.2.1
  have hk := hK σ hM FrM.rfl'
  unfold op_balance at hk
  dsimp only at hk
  refine CallAt.of (k := 154) (cd := k_X6_balance) ok_X6_balance (by decide) rfl rfl rfl ?_
  show V _ i_X6_balance k_X6_balance 0 [.ref 900, .int p] [] _ _
  refine V_run ok_X6_balance 60 0 ?_
  simp (disch := omega) only [eng, c_X6_balance, r_X6_balance, tbl, true_and, Nat.reduceAdd, Nat.reduceLT, ↓reduceIte, n_eq, n_lt, n_le, n_cl, n_inT, nI_add, bI_eq0, bI_eq1, not_true_eq_false, not_false_eq_true, true_implies, false_implies, implies_true, and_true, Bool.not_eq_false, Bool.not_eq_true, Nat.reduceEqDiff, Nat.reduceLeDiff, Classical.not_not, List.length_cons, List.length_nil, Int.reduceAdd, z_cast, Nat.reducePow, false_or, Nat.reduceLT, Nat.sub_zero, Nat.le_refl]
  try simp only [iteP, Classical.not_not, Bool.not_eq_false, Bool.not_eq_true]
  refine m_isOne hE.1 hW.1 ?_
  cases h1 : inB p (A.1 12 0) with
  | false =>
    rw [h1] at hk
    simp (disch := omega) only [n_eq, n_lt, n_le, n_cl, n_inT, nI_add, bI_eq0, bI_eq1, not_true_eq_false, not_false_eq_true, true_implies, false_implies, implies_true, and_true, Bool.not_eq_false, Bool.not_eq_true, Nat.reduceEqDiff, Nat.reduceLeDiff, Classical.not_not, List.length_cons, List.length_nil, Int.reduceAdd, z_cast, Nat.reducePow, false_or, Nat.reduceLT, Nat.sub_zero, Nat.le_refl, true_and, ↓reduceIte, iteP, Bool.false_eq_true]
    exact hk
  | true =>
    rw [h1, if_pos rfl] at hk
    simp (disch := omega) only [n_eq, n_lt, n_le, n_cl, n_inT, nI_add, bI_eq0, bI_eq1, not_true_eq_false, not_false_eq_true, true_implies, false_implies, implies_true, and_true, Bool.not_eq_false, Bool.not_eq_true, Nat.reduceEqDiff, Nat.reduceLeDiff, Classical.not_not, List.length_cons, List.length_nil, Int.reduceAdd, z_cast, Nat.reducePow, false_or, Nat.reduceLT, Nat.sub_zero, Nat.le_refl, true_and, ↓reduceIte, iteP, Bool.true_eq_false]
    obtain ⟨p', hp, rfl⟩ := inB_of h1
    have hp12 := p12 hW hp
    rw [n_cl (by omega)] at hk
    exact m_bal hW hE hp12 hk
theorem lp_mpaid (l : Launch) {E : Es} {σ : St} {K : Int32 → St → Prop} (hW : Wf E) (hE : ME E σ) (hK : K (paE E (E 12 0)) σ) : ∀ (n p : Nat), p + n = E 12 0 → ∀ v : Value, V l i_X6_paid k_X6_paid 4 [.ref 900, .int (paE E p), .int (nI p), v] [] σ K
  | 0, p, hp, v => by
    have hp : p = E 12 0 := by omega
    subst hp
    have hn12 := hW.1
    have e6 := hE.1
    refine V_run ok_X6_paid 60 4 ?_
    simp (disch := omega) only [eng, c_X6_paid, r_X6_paid, tbl, true_and, Nat.reduceAdd, Nat.reduceLT, ↓reduceIte, n_eq, n_lt, n_le, n_cl, n_inT, nI_add, bI_eq0, bI_eq1, not_true_eq_false, not_false_eq_true, true_implies, false_implies, implies_true, and_true, Bool.not_eq_false, Bool.not_eq_true, Nat.reduceEqDiff, Nat.reduceLeDiff, Classical.not_not, List.length_cons, List.length_nil, Int.reduceAdd, z_cast, Nat.reducePow, false_or, Nat.reduceLT, Nat.sub_zero, Nat.le_refl, e6]
    try simp only [iteP, Classical.not_not, Bool.not_eq_false, Bool.not_eq_true]
    exact hK
  | n + 1, p, hp, v => by
    have hp1 : p < E 12 0 := by omega
    have hn12 := hW.1
    have e6 := hE.1
    have hz : ¬ E 12 0 ≤ p := by omega
    have ih := lp_mpaid l hW hE hK n (p + 1) (by omega)
    unfold paE at ih
    refine V_run ok_X6_paid 60 4 ?_
    simp (disch := omega) only [eng, c_X6_paid, r_X6_paid, tbl, true_and, Nat.reduceAdd, Nat.reduceLT, ↓reduceIte, n_eq, n_lt, n_le, n_cl, n_inT, nI_add, bI_eq0, bI_eq1, not_true_eq_false, not_false_eq_true, true_implies, false_implies, implies_true, and_true, Bool.not_eq_false, Bool.not_eq_true, Nat.reduceEqDiff, Nat.reduceLeDiff, Classical.not_not, List.length_cons, List.length_nil, Int.reduceAdd, z_cast, Nat.reducePow, false_or, Nat.reduceLT, Nat.sub_zero, Nat.le_refl, e6, hz]
    try simp only [iteP, Classical.not_not, Bool.not_eq_false, Bool.not_eq_true]
    refine m_bal hW hE (by omega) ?_
    have hle : (owe E p (E 12 1) ≤ nI 0) = ¬ (nI 0 < owe E p (E 12 1)) := by rw [i_le, i_lt]; apply propext; omega
    by_cases hq : nI 0 < owe E p (E 12 1)
    · rw [if_pos hq] at ih
      have hle' : ¬ owe E p (E 12 1) ≤ nI 0 := by rw [hle]; exact fun z => z hq
      simp (disch := omega) only [n_eq, n_lt, n_le, n_cl, n_inT, nI_add, bI_eq0, bI_eq1, not_true_eq_false, not_false_eq_true, true_implies, false_implies, implies_true, and_true, Bool.not_eq_false, Bool.not_eq_true, Nat.reduceEqDiff, Nat.reduceLeDiff, Classical.not_not, List.length_cons, List.length_nil, Int.reduceAdd, z_cast, Nat.reducePow, false_or, Nat.reduceLT, Nat.sub_zero, Nat.le_refl, true_and, ↓reduceIte, iteP, hq, hle', i_add0]
      exact ih _
    · rw [if_neg hq, i_add0] at ih
      have hle' : (owe E p (E 12 1) ≤ nI 0) = True := by rw [hle]; exact eq_true hq
      simp (disch := omega) only [n_eq, n_lt, n_le, n_cl, n_inT, nI_add, bI_eq0, bI_eq1, not_true_eq_false, not_false_eq_true, true_implies, false_implies, implies_true, and_true, Bool.not_eq_false, Bool.not_eq_true, Nat.reduceEqDiff, Nat.reduceLeDiff, Classical.not_not, List.length_cons, List.length_nil, Int.reduceAdd, z_cast, Nat.reducePow, false_or, Nat.reduceLT, Nat.sub_zero, Nat.le_refl, true_and, ↓reduceIte, iteP, hq, hle', i_add0]
      exact ih _
theorem M_paid {l : Launch} {A : AS} {σ : St} {K : Int32 → St → Prop} (hM : MX A σ) (hK : ∀ σ', MX (op_paid A).2 σ' → FrM σ σ' → K (op_paid A).1 σ') : CallAt l 155 [.ref 900] σ K := by
  have hk := hK σ hM FrM.rfl'
  refine CallAt.of (k := 155) (cd := k_X6_paid) ok_X6_paid (by decide) rfl rfl rfl ?_
  show V _ i_X6_paid k_X6_paid 0 [.ref 900, .null, .null, .null] [] _ _
  refine V_run ok_X6_paid 60 0 ?_
  simp (disch := omega) only [eng, c_X6_paid, r_X6_paid, tbl, true_and, Nat.reduceAdd, Nat.reduceLT, ↓reduceIte, n_eq, n_lt, n_le, n_cl, n_inT, nI_add, bI_eq0, bI_eq1, not_true_eq_false, not_false_eq_true, true_implies, false_implies, implies_true, and_true, Bool.not_eq_false, Bool.not_eq_true, Nat.reduceEqDiff, Nat.reduceLeDiff, Classical.not_not, List.length_cons, List.length_nil, Int.reduceAdd, z_cast, Nat.reducePow, false_or, Nat.reduceLT, Nat.sub_zero, Nat.le_refl]
  try simp only [iteP, Classical.not_not, Bool.not_eq_false, Bool.not_eq_true]
  exact lp_mpaid l hM.1.1 hM.2.1 hk (A.1 12 0) 0 (by omega) _
theorem lp_mgathers (l : Launch) {h k : Nat} {E : Es} {σ : St} {K : Int32 → St → Prop} (hW : Wf E) (hE : ME E σ) (hh : h < 12) (hk : k < 4) (hK : K (nI (gat E h k (E 12 1))) σ) : ∀ (n t : Nat), t + n = E 12 1 → ∀ v : Value, V l i_X6_gathers k_X6_gathers 18 [.ref 900, .int (nI h), .int (nI k), .int (nI (gat E h k t)), .int (nI t), v] [] σ K
  | 0, t, ht, v => by
    have ht : t = E 12 1 := by omega
    subst ht
    have hn12 := hW.2.1
    have e11 := hE.2.1
    refine V_run ok_X6_gathers 60 18 ?_
    simp (disch := omega) only [eng, c_X6_gathers, r_X6_gathers, tbl, true_and, Nat.reduceAdd, Nat.reduceLT, ↓reduceIte, n_eq, n_lt, n_le, n_cl, n_inT, nI_add, bI_eq0, bI_eq1, not_true_eq_false, not_false_eq_true, true_implies, false_implies, implies_true, and_true, Bool.not_eq_false, Bool.not_eq_true, Nat.reduceEqDiff, Nat.reduceLeDiff, Classical.not_not, List.length_cons, List.length_nil, Int.reduceAdd, z_cast, Nat.reducePow, false_or, Nat.reduceLT, Nat.sub_zero, Nat.le_refl, e11]
    try simp only [iteP, Classical.not_not, Bool.not_eq_false, Bool.not_eq_true]
    exact hK
  | n + 1, t, ht, v => by
    have ht1 : t < E 12 1 := by omega
    have hn12 := hW.2.1
    have hn := hW.1
    have h12 := t12 hW ht1
    have e11 := hE.2.1
    have ft := hE.2.2.2.2.1 t ht1
    have wt := hW.2.2.2.2.1 t ht1
    have wk := wt.1
    have h14 := ho14 hW ht1
    have hz : ¬ E 12 1 ≤ t := by omega
    have ih := lp_mgathers l hW hE hh hk hK n (t + 1) (by omega)
    unfold gat at ih
    by_cases h1 : E 6 t = k
    case neg =>
      rw [if_neg (fun z => h1 z.1)] at ih
      refine V_run ok_X6_gathers 80 18 ?_
      simp (disch := omega) only [eng, c_X6_gathers, r_X6_gathers, tbl, true_and, Nat.reduceAdd, Nat.reduceLT, ↓reduceIte, n_eq, n_lt, n_le, n_cl, n_inT, nI_add, bI_eq0, bI_eq1, not_true_eq_false, not_false_eq_true, true_implies, false_implies, implies_true, and_true, Bool.not_eq_false, Bool.not_eq_true, Nat.reduceEqDiff, Nat.reduceLeDiff, Classical.not_not, List.length_cons, List.length_nil, Int.reduceAdd, z_cast, Nat.reducePow, false_or, Nat.reduceLT, Nat.sub_zero, Nat.le_refl, e11, ft, hz, h1, Nat.add_zero]
      try simp only [iteP, Classical.not_not, Bool.not_eq_false, Bool.not_eq_true]
      exact ih _
    by_cases h8 : 12 ≤ E 8 t
    · rw [if_neg (fun z => by omega)] at ih
      refine V_run ok_X6_gathers 80 18 ?_
      simp (disch := omega) only [eng, c_X6_gathers, r_X6_gathers, tbl, true_and, Nat.reduceAdd, Nat.reduceLT, ↓reduceIte, n_eq, n_lt, n_le, n_cl, n_inT, nI_add, bI_eq0, bI_eq1, not_true_eq_false, not_false_eq_true, true_implies, false_implies, implies_true, and_true, Bool.not_eq_false, Bool.not_eq_true, Nat.reduceEqDiff, Nat.reduceLeDiff, Classical.not_not, List.length_cons, List.length_nil, Int.reduceAdd, z_cast, Nat.reducePow, false_or, Nat.reduceLT, Nat.sub_zero, Nat.le_refl, e11, ft, hz, h1, h8, Nat.add_zero]
      try simp only [iteP, Classical.not_not, Bool.not_eq_false, Bool.not_eq_true]
      exact ih _
    have h8' : E 8 t < E 12 0 := by rcases wt.2.2.1 with q | q | q <;> omega
    refine V_run ok_X6_gathers 80 18 ?_
    simp (disch := omega) only [eng, c_X6_gathers, r_X6_gathers, tbl, true_and, Nat.reduceAdd, Nat.reduceLT, ↓reduceIte, n_eq, n_lt, n_le, n_cl, n_inT, nI_add, bI_eq0, bI_eq1, not_true_eq_false, not_false_eq_true, true_implies, false_implies, implies_true, and_true, Bool.not_eq_false, Bool.not_eq_true, Nat.reduceEqDiff, Nat.reduceLeDiff, Classical.not_not, List.length_cons, List.length_nil, Int.reduceAdd, z_cast, Nat.reducePow, false_or, Nat.reduceLT, Nat.sub_zero, Nat.le_refl, e11, ft, hz, h1, h8, Nat.add_zero]
    try simp only [iteP, Classical.not_not, Bool.not_eq_false, Bool.not_eq_true]
    refine m_house hW hE h8' ?_
    have hl := hous_lt hW h8'
    by_cases h2 : hous E (E 8 t) = h
    · rw [if_pos ⟨h1, h8', h2⟩] at ih
      simp (disch := omega) only [n_eq, n_lt, n_le, n_cl, n_inT, nI_add, bI_eq0, bI_eq1, not_true_eq_false, not_false_eq_true, true_implies, false_implies, implies_true, and_true, Bool.not_eq_false, Bool.not_eq_true, Nat.reduceEqDiff, Nat.reduceLeDiff, Classical.not_not, List.length_cons, List.length_nil, Int.reduceAdd, z_cast, Nat.reducePow, false_or, Nat.reduceLT, Nat.sub_zero, Nat.le_refl, true_and, ↓reduceIte, iteP, h2, ft]
      exact ih _
    · rw [if_neg (fun z => h2 z.2.2)] at ih
      simp (disch := omega) only [n_eq, n_lt, n_le, n_cl, n_inT, nI_add, bI_eq0, bI_eq1, not_true_eq_false, not_false_eq_true, true_implies, false_implies, implies_true, and_true, Bool.not_eq_false, Bool.not_eq_true, Nat.reduceEqDiff, Nat.reduceLeDiff, Classical.not_not, List.length_cons, List.length_nil, Int.reduceAdd, z_cast, Nat.reducePow, false_or, Nat.reduceLT, Nat.sub_zero, Nat.le_refl, true_and, ↓reduceIte, iteP, h2, ft, Nat.add_zero]
      exact ih _
theorem M_gathers {l : Launch} {A : AS} {h k : Int32} {σ : St} {K : Int32 → St → Prop} (hM : MX A σ) (hK : ∀ σ', MX (op_gathers A h k).2 σ' → FrM σ σ' → K (op_gathers A h k).1 σ') : CallAt l 152 [.ref 900, .int h, .int k] σ K := by
  have hW := hM.1.1
  have hE := hM.2.1
  have hk := hK σ hM FrM.rfl'
  unfold op_gathers at hk
  dsimp only at hk
  refine CallAt.of (k := 152) (cd := k_X6_gathers) ok_X6_gathers (by decide) rfl rfl rfl ?_
  show V _ i_X6_gathers k_X6_gathers 0 [.ref 900, .int h, .int k, .null, .null, .null] [] _ _
  refine V_run ok_X6_gathers 60 0 ?_
  simp (disch := omega) only [eng, c_X6_gathers, r_X6_gathers, tbl, true_and, Nat.reduceAdd, Nat.reduceLT, ↓reduceIte, n_eq, n_lt, n_le, n_cl, n_inT, nI_add, bI_eq0, bI_eq1, not_true_eq_false, not_false_eq_true, true_implies, false_implies, implies_true, and_true, Bool.not_eq_false, Bool.not_eq_true, Nat.reduceEqDiff, Nat.reduceLeDiff, Classical.not_not, List.length_cons, List.length_nil, Int.reduceAdd, z_cast, Nat.reducePow, false_or, Nat.reduceLT, Nat.sub_zero, Nat.le_refl]
  try simp only [iteP, Classical.not_not, Bool.not_eq_false, Bool.not_eq_true]
  refine m_rI (a := 0) (n := 11) rfl rfl ?_
  rw [← rI0 h 11]
  cases h0 : inB h 12 with
  | false =>
    rw [h0] at hk
    simp (disch := omega) only [n_eq, n_lt, n_le, n_cl, n_inT, nI_add, bI_eq0, bI_eq1, not_true_eq_false, not_false_eq_true, true_implies, false_implies, implies_true, and_true, Bool.not_eq_false, Bool.not_eq_true, Nat.reduceEqDiff, Nat.reduceLeDiff, Classical.not_not, List.length_cons, List.length_nil, Int.reduceAdd, z_cast, Nat.reducePow, false_or, Nat.reduceLT, Nat.sub_zero, Nat.le_refl, true_and, ↓reduceIte, iteP, Bool.false_eq_true]
    exact hk
  | true =>
    simp (disch := omega) only [n_eq, n_lt, n_le, n_cl, n_inT, nI_add, bI_eq0, bI_eq1, not_true_eq_false, not_false_eq_true, true_implies, false_implies, implies_true, and_true, Bool.not_eq_false, Bool.not_eq_true, Nat.reduceEqDiff, Nat.reduceLeDiff, Classical.not_not, List.length_cons, List.length_nil, Int.reduceAdd, z_cast, Nat.reducePow, false_or, Nat.reduceLT, Nat.sub_zero, Nat.le_refl, true_and, ↓reduceIte, iteP, Bool.true_eq_false]
    refine m_rI (a := 0) (n := 3) rfl rfl ?_
    rw [← rI0 k 3]
    cases h1 : inB k 4 with
    | false =>
      rw [h0, h1] at hk
      simp (disch := omega) only [n_eq, n_lt, n_le, n_cl, n_inT, nI_add, bI_eq0, bI_eq1, not_true_eq_false, not_false_eq_true, true_implies, false_implies, implies_true, and_true, Bool.not_eq_false, Bool.not_eq_true, Nat.reduceEqDiff, Nat.reduceLeDiff, Classical.not_not, List.length_cons, List.length_nil, Int.reduceAdd, z_cast, Nat.reducePow, false_or, Nat.reduceLT, Nat.sub_zero, Nat.le_refl, true_and, ↓reduceIte, iteP, Bool.false_eq_true]
      exact hk
    | true =>
      obtain ⟨h', hh', rfl⟩ := inB_of h0
      obtain ⟨k', hk', rfl⟩ := inB_of h1
      rw [h0, h1, Bool.and_self, if_pos rfl, n_cl (by omega), n_cl (by omega)] at hk
      simp (disch := omega) only [n_eq, n_lt, n_le, n_cl, n_inT, nI_add, bI_eq0, bI_eq1, not_true_eq_false, not_false_eq_true, true_implies, false_implies, implies_true, and_true, Bool.not_eq_false, Bool.not_eq_true, Nat.reduceEqDiff, Nat.reduceLeDiff, Classical.not_not, List.length_cons, List.length_nil, Int.reduceAdd, z_cast, Nat.reducePow, false_or, Nat.reduceLT, Nat.sub_zero, Nat.le_refl, true_and, ↓reduceIte, iteP, Bool.true_eq_false]
      exact lp_mgathers l hW hE (by omega) hk' hk (A.1 12 1) 0 (by omega) _
