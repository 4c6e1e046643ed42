theorem or0 (a : Nat) : nI a ||| nI 0 = nI a := by rw [fa_or, Nat.or_zero]
theorem lp_kinOf (l : Launch) {p r : Nat} {E : Es} {σ : St} {K : Int32 → St → Prop} (hW : Wf E) (hE : MPR E σ) (hp : p < E 12 0) (hr : r ≤ 5) (hK : K (nI (kin E p r)) σ) : ∀ (n q : Nat), q + n = E 12 0 → V l i_X6_kinOf k_X6_kinOf 4 [.ref 900, .int (nI p), .int (nI r), .int (nI (bits (fun q => E 5 q == 1 && q != p && rel E p q r) q)), .int (nI q)] [] σ K
  | 0, q, hq => by
    have hq : q = E 12 0 := by omega
    have hn12 := hW.1
    have e6 := hE.1
    subst hq
    refine V_run ok_X6_kinOf 60 4 ?_
    simp (disch := omega) only [eng, c_X6_kinOf, r_X6_kinOf, tbl, true_and, Nat.reduceAdd, Nat.reduceLT, ↓reduceIte, n_eq, n_lt, n_le, n_cl, n_inT, nI_add, bI_eq0, bI_eq1, not_true_eq_false, not_false_eq_true, true_implies, false_implies, implies_true, and_true, Bool.not_eq_false, Bool.not_eq_true, Nat.reduceEqDiff, Nat.reduceLeDiff, Classical.not_not, List.length_cons, List.length_nil, Int.reduceAdd, z_cast, Nat.reducePow, false_or, Nat.reduceLT, Nat.sub_zero, Nat.le_refl, e6]
    try simp only [iteP, Classical.not_not, Bool.not_eq_false, Bool.not_eq_true]
    exact hK
  | n + 1, q, hq => by
    have hq1 : q < E 12 0 := by omega
    have hn12 := hW.1
    have hp12 := p12 hW hp
    have e6 := hE.1
    have fq := hE.2.2.2.1 q hq1
    have w5 := (hW.2.2.2.1 q hq1).2.1
    have h1 : ¬ E 12 0 ≤ q := by omega
    have ih := lp_kinOf l hW hE hp hr hK n (q + 1) (by omega)
    have hno : (E 5 q == 1 && q != p && rel E p q r) = false → bits (fun q => E 5 q == 1 && q != p && rel E p q r) (q + 1) = bits (fun q => E 5 q == 1 && q != p && rel E p q r) q := fun z => by
      show _ ||| (if (E 5 q == 1 && q != p && rel E p q r) = true then 2 ^ q else 0) = _
      rw [z]; simp
    by_cases z1 : E 5 q = 1
    case neg =>
      rw [hno (by simp [z1])] at ih
      refine V_run ok_X6_kinOf 60 4 ?_
      simp (disch := omega) only [eng, c_X6_kinOf, r_X6_kinOf, tbl, true_and, Nat.reduceAdd, Nat.reduceLT, ↓reduceIte, n_eq, n_lt, n_le, n_cl, n_inT, nI_add, bI_eq0, bI_eq1, not_true_eq_false, not_false_eq_true, true_implies, false_implies, implies_true, and_true, Bool.not_eq_false, Bool.not_eq_true, Nat.reduceEqDiff, Nat.reduceLeDiff, Classical.not_not, List.length_cons, List.length_nil, Int.reduceAdd, z_cast, Nat.reducePow, false_or, Nat.reduceLT, Nat.sub_zero, Nat.le_refl, e6, h1, fq, z1, or0]
      try simp only [iteP, Classical.not_not, Bool.not_eq_false, Bool.not_eq_true]
      exact ih
    by_cases z2 : q = p
    · rw [hno (by simp [z2])] at ih
      have z3 : (nI q = nI p) = True := by rw [z2]; exact eq_true rfl
      have fq' : σ 906 q = nI 1 := by rw [fq.2.2.2.2.2, z1]
      clear hno
      subst z2
      refine V_run ok_X6_kinOf 60 4 ?_
      simp (disch := omega) only [eng, c_X6_kinOf, r_X6_kinOf, tbl, true_and, Nat.reduceAdd, Nat.reduceLT, ↓reduceIte, n_eq, n_lt, n_le, n_cl, n_inT, nI_add, bI_eq0, bI_eq1, not_true_eq_false, not_false_eq_true, true_implies, false_implies, implies_true, and_true, Bool.not_eq_false, Bool.not_eq_true, Nat.reduceEqDiff, Nat.reduceLeDiff, Classical.not_not, List.length_cons, List.length_nil, Int.reduceAdd, z_cast, Nat.reducePow, false_or, Nat.reduceLT, Nat.sub_zero, Nat.le_refl, e6, h1, fq', or0]
      try simp only [iteP, Classical.not_not, Bool.not_eq_false, Bool.not_eq_true]
      exact ih
    refine V_run ok_X6_kinOf 60 4 ?_
    simp (disch := omega) only [eng, c_X6_kinOf, r_X6_kinOf, tbl, true_and, Nat.reduceAdd, Nat.reduceLT, ↓reduceIte, n_eq, n_lt, n_le, n_cl, n_inT, nI_add, bI_eq0, bI_eq1, not_true_eq_false, not_false_eq_true, true_implies, false_implies, implies_true, and_true, Bool.not_eq_false, Bool.not_eq_true, Nat.reduceEqDiff, Nat.reduceLeDiff, Classical.not_not, List.length_cons, List.length_nil, Int.reduceAdd, z_cast, Nat.reducePow, false_or, Nat.reduceLT, Nat.sub_zero, Nat.le_refl, e6, h1, fq, z1, z2, or0]
    try simp only [iteP, Classical.not_not, Bool.not_eq_false, Bool.not_eq_true]
    refine m_rel hW hE hp hq1 hr ?_
    cases z3 : rel E p q r with
    | false =>
      rw [hno (by simp [z3])] at ih
      simp (disch := omega) only [n_eq, n_lt, n_le, n_cl, n_inT, nI_add, bI_eq0, bI_eq1, not_true_eq_false, not_false_eq_true, true_implies, false_implies, implies_true, and_true, Bool.not_eq_false, Bool.not_eq_true, Nat.reduceEqDiff, Nat.reduceLeDiff, Classical.not_not, List.length_cons, List.length_nil, Int.reduceAdd, z_cast, Nat.reducePow, false_or, Nat.reduceLT, Nat.sub_zero, Nat.le_refl, true_and, ↓reduceIte, iteP, Bool.false_eq_true, or0]
      exact ih
    | true =>
      have ht : (E 5 q == 1 && q != p && rel E p q r) = true := by simp [z1, z2, z3]
      have e := acc_t (f := fun q => E 5 q == 1 && q != p && rel E p q r) ht (by omega)
      simp (disch := omega) only [n_eq, n_lt, n_le, n_cl, n_inT, nI_add, bI_eq0, bI_eq1, not_true_eq_false, not_false_eq_true, true_implies, false_implies, implies_true, and_true, Bool.not_eq_false, Bool.not_eq_true, Nat.reduceEqDiff, Nat.reduceLeDiff, Classical.not_not, List.length_cons, List.length_nil, Int.reduceAdd, z_cast, Nat.reducePow, false_or, Nat.reduceLT, Nat.sub_zero, Nat.le_refl, true_and, ↓reduceIte, iteP, Bool.true_eq_false, e]
      exact ih
theorem m_kinOf {l : Launch} {p r : Nat} {E : Es} {σ : St} {K : Int32 → St → Prop} (hW : Wf E) (hE : MPR E σ) (hp : p < E 12 0) (hr : r ≤ 5) (hK : K (nI (kin E p r)) σ) : CallAt l 130 [.ref 900, .int (nI p), .int (nI r)] σ K := by
  refine CallAt.of (k := 130) (cd := k_X6_kinOf) ok_X6_kinOf (by decide) rfl rfl rfl ?_
  show V _ i_X6_kinOf k_X6_kinOf 0 [.ref 900, .int (nI p), .int (nI r), .null, .null] [] _ _
  refine V_run ok_X6_kinOf 30 0 ?_
  simp (disch := omega) only [eng, c_X6_kinOf, r_X6_kinOf, tbl, true_and, Nat.reduceAdd, Nat.reduceLT, ↓reduceIte, n_eq, n_lt, n_le, n_cl, n_inT, nI_add, bI_eq0, bI_eq1, not_true_eq_false, not_false_eq_true, true_implies, false_implies, implies_true, and_true, Bool.not_eq_false, Bool.not_eq_true, Nat.reduceEqDiff, Nat.reduceLeDiff, Classical.not_not, List.length_cons, List.length_nil, Int.reduceAdd, z_cast, Nat.reducePow, false_or, Nat.reduceLT, Nat.sub_zero, Nat.le_refl]
  try simp only [iteP, Classical.not_not, Bool.not_eq_false, Bool.not_eq_true]
  exact lp_kinOf l hW hE hp hr hK (E 12 0) 0 (by omega)
theorem M_kin {l : Launch} {A : AS} {p r : Int32} {σ : St} {K : Int32 → St → Prop} (hM : MX A σ) (hK : ∀ σ', MX (op_kin A p r).2 σ' → FrM σ σ' → K (op_kin A p r).1 σ') : CallAt l 131 [.ref 900, .int p, .int r] σ K := by
  have hW := hM.1.1
  have hE := hM.2.1
  have hn := hW.1
  have hk := hK σ hM FrM.rfl'
  unfold op_kin at hk
  dsimp only at hk
  refine CallAt.of (k := 131) (cd := k_X6_kin) ok_X6_kin (by decide) rfl rfl rfl ?_
  show V _ i_X6_kin k_X6_kin 0 [.ref 900, .int p, .int r] [] _ _
  refine V_run ok_X6_kin 60 0 ?_
  simp (disch := omega) only [eng, c_X6_kin, r_X6_kin, tbl, true_and, Nat.reduceAdd, Nat.reduceLT, ↓reduceIte, n_eq, n_lt, n_le, n_cl, n_inT, nI_add, bI_eq0, bI_eq1, not_true_eq_false, not_false_eq_true, true_implies, false_implies, implies_true, and_true, Bool.not_eq_false, Bool.not_eq_true, Nat.reduceEqDiff, Nat.reduceLeDiff, Classical.not_not, List.length_cons, List.length_nil, Int.reduceAdd, z_cast, Nat.reducePow, false_or, Nat.reduceLT, Nat.sub_zero, Nat.le_refl]
  try simp only [iteP, Classical.not_not, Bool.not_eq_false, Bool.not_eq_true]
  refine m_isOne hE.1 hn ?_
  cases h1 : inB p (A.1 12 0) with
  | false =>
    rw [h1] at hk
    simp (disch := omega) only [n_eq, n_lt, n_le, n_cl, n_inT, nI_add, bI_eq0, bI_eq1, not_true_eq_false, not_false_eq_true, true_implies, false_implies, implies_true, and_true, Bool.not_eq_false, Bool.not_eq_true, Nat.reduceEqDiff, Nat.reduceLeDiff, Classical.not_not, List.length_cons, List.length_nil, Int.reduceAdd, z_cast, Nat.reducePow, false_or, Nat.reduceLT, Nat.sub_zero, Nat.le_refl, true_and, ↓reduceIte, iteP, Bool.false_eq_true]
    exact hk
  | true =>
    simp (disch := omega) only [n_eq, n_lt, n_le, n_cl, n_inT, nI_add, bI_eq0, bI_eq1, not_true_eq_false, not_false_eq_true, true_implies, false_implies, implies_true, and_true, Bool.not_eq_false, Bool.not_eq_true, Nat.reduceEqDiff, Nat.reduceLeDiff, Classical.not_not, List.length_cons, List.length_nil, Int.reduceAdd, z_cast, Nat.reducePow, false_or, Nat.reduceLT, Nat.sub_zero, Nat.le_refl, true_and, ↓reduceIte, iteP, Bool.true_eq_false]
    refine m_rI (a := 0) (n := 5) rfl rfl ?_
    rw [← rI0 r 5]
    cases h2 : inB r 6 with
    | false =>
      rw [h1, h2] at hk
      simp (disch := omega) only [n_eq, n_lt, n_le, n_cl, n_inT, nI_add, bI_eq0, bI_eq1, not_true_eq_false, not_false_eq_true, true_implies, false_implies, implies_true, and_true, Bool.not_eq_false, Bool.not_eq_true, Nat.reduceEqDiff, Nat.reduceLeDiff, Classical.not_not, List.length_cons, List.length_nil, Int.reduceAdd, z_cast, Nat.reducePow, false_or, Nat.reduceLT, Nat.sub_zero, Nat.le_refl, true_and, ↓reduceIte, iteP, Bool.false_eq_true]
      exact hk
    | true =>
      rw [h1, h2, Bool.and_self, if_pos rfl] at hk
      obtain ⟨p', hp, rfl⟩ := inB_of h1
      obtain ⟨r', hr, rfl⟩ := inB_of h2
      have hp12 := p12 hW hp
      rw [n_cl (by omega), n_cl (by omega)] at hk
      simp (disch := omega) only [n_eq, n_lt, n_le, n_cl, n_inT, nI_add, bI_eq0, bI_eq1, not_true_eq_false, not_false_eq_true, true_implies, false_implies, implies_true, and_true, Bool.not_eq_false, Bool.not_eq_true, Nat.reduceEqDiff, Nat.reduceLeDiff, Classical.not_not, List.length_cons, List.length_nil, Int.reduceAdd, z_cast, Nat.reducePow, false_or, Nat.reduceLT, Nat.sub_zero, Nat.le_refl, true_and, ↓reduceIte, iteP, Bool.true_eq_false]
      exact m_kinOf hW hE.q hp (by omega) hk
theorem cb_zero (m : Nat) : ∀ q, (∀ j, j < q → m.testBit j = false) → cb m q = 0
  | 0, _ => rfl
  | q + 1, h => by
    show cb m q + (m.testBit q).toNat = 0
    rw [cb_zero m q (fun j hj => h j (by omega)), h q (by omega)]
    rfl
theorem low_at {m q : Nat} (hq : q < 12) (hb : m.testBit q = true) (h : ∀ j, j < q → m.testBit j = false) : low m = q := by
  unfold low
  rw [← cb_zero m q h]
  exact nth_of_cb hq hb
theorem lp_heirI (l : Launch) {p k i m : Nat} {E : Es} {σ : St} {K : Int32 → St → Prop} (hW : Wf E) (hE : MPR E σ) (hm : m < 4096) (hml : ∀ j, E 12 0 ≤ j → m.testBit j = false) (h0 : m = 0 → V l i_X6_heirOf k_X6_heirOf 2 [.ref 900, .int (nI p), .int (nI k), .int (nI (i + 1)), .int (nI m), .int (nI (E 12 0))] [] σ K) (hK : m ≠ 0 → K (nI (low m)) σ) : ∀ (n q : Nat), q + n = E 12 0 → (∀ j, j < q → m.testBit j = false) → V l i_X6_heirOf k_X6_heirOf 22 [.ref 900, .int (nI p), .int (nI k), .int (nI i), .int (nI m), .int (nI q)] [] σ K
  | 0, q, hq, hz => by
    have hq : q = E 12 0 := by omega
    have hn12 := hW.1
    have e6 := hE.1
    subst hq
    refine V_run ok_X6_heirOf 60 22 ?_
    simp (disch := omega) only [eng, c_X6_heirOf, r_X6_heirOf, tbl, true_and, Nat.reduceAdd, Nat.reduceLT, ↓reduceIte, n_eq, n_lt, n_le, n_cl, n_inT, nI_add, bI_eq0, bI_eq1, not_true_eq_false, not_false_eq_true, true_implies, false_implies, implies_true, and_true, Bool.not_eq_false, Bool.not_eq_true, Nat.reduceEqDiff, Nat.reduceLeDiff, Classical.not_not, List.length_cons, List.length_nil, Int.reduceAdd, z_cast, Nat.reducePow, false_or, Nat.reduceLT, Nat.sub_zero, Nat.le_refl, e6]
    try simp only [iteP, Classical.not_not, Bool.not_eq_false, Bool.not_eq_true]
    refine h0 (Nat.eq_of_testBit_eq (fun j => ?_))
    rw [Nat.zero_testBit]
    by_cases z : j < E 12 0
    · exact hz j z
    · exact hml j (by omega)
  | n + 1, q, hq, hz => by
    have hq1 : q < E 12 0 := by omega
    have hn12 := hW.1
    have e6 := hE.1
    have h1 : ¬ E 12 0 ≤ q := by omega
    refine V_run ok_X6_heirOf 60 22 ?_
    simp (disch := omega) only [eng, c_X6_heirOf, r_X6_heirOf, tbl, true_and, Nat.reduceAdd, Nat.reduceLT, ↓reduceIte, n_eq, n_lt, n_le, n_cl, n_inT, nI_add, bI_eq0, bI_eq1, not_true_eq_false, not_false_eq_true, true_implies, false_implies, implies_true, and_true, Bool.not_eq_false, Bool.not_eq_true, Nat.reduceEqDiff, Nat.reduceLeDiff, Classical.not_not, List.length_cons, List.length_nil, Int.reduceAdd, z_cast, Nat.reducePow, false_or, Nat.reduceLT, Nat.sub_zero, Nat.le_refl, e6, h1]
    try simp only [iteP, Classical.not_not, Bool.not_eq_false, Bool.not_eq_true]
    refine m_has (m := m) (j := q) (by omega) (by omega) ?_
    cases hb : m.testBit q with
    | true =>
      simp (disch := omega) only [n_eq, n_lt, n_le, n_cl, n_inT, nI_add, bI_eq0, bI_eq1, not_true_eq_false, not_false_eq_true, true_implies, false_implies, implies_true, and_true, Bool.not_eq_false, Bool.not_eq_true, Nat.reduceEqDiff, Nat.reduceLeDiff, Classical.not_not, List.length_cons, List.length_nil, Int.reduceAdd, z_cast, Nat.reducePow, false_or, Nat.reduceLT, Nat.sub_zero, Nat.le_refl, true_and, ↓reduceIte, iteP, Bool.true_eq_false]
      have := hK (fun z => by rw [z, Nat.zero_testBit] at hb; cases hb)
      rw [low_at (by omega) hb hz] at this
      exact this
    | false =>
      simp (disch := omega) only [n_eq, n_lt, n_le, n_cl, n_inT, nI_add, bI_eq0, bI_eq1, not_true_eq_false, not_false_eq_true, true_implies, false_implies, implies_true, and_true, Bool.not_eq_false, Bool.not_eq_true, Nat.reduceEqDiff, Nat.reduceLeDiff, Classical.not_not, List.length_cons, List.length_nil, Int.reduceAdd, z_cast, Nat.reducePow, false_or, Nat.reduceLT, Nat.sub_zero, Nat.le_refl, true_and, ↓reduceIte, iteP, Bool.false_eq_true]
      exact lp_heirI l hW hE hm hml h0 hK n (q + 1) (by omega) (fun j hj => by
        by_cases z : j = q
        · rw [z]; exact hb
        · exact hz j (by omega))
theorem lp_heirO (l : Launch) {p k : Nat} {E : Es} {σ : St} {K : Int32 → St → Prop} (hW : Wf E) (hE : MPR E σ) (hp : p < E 12 0) (hk : k < 4) : ∀ (n i : Nat), i + n = E 11 k → K (nI (heiF E p k n i)) σ → ∀ v4 v5 : Value, V l i_X6_heirOf k_X6_heirOf 2 [.ref 900, .int (nI p), .int (nI k), .int (nI i), v4, v5] [] σ K
  | 0, i, hi, hK, v4, v5 => by
    have hi : i = E 11 k := by omega
    have fk := (hE.2.2.2.2.2 k hk).1
    have w3 := (hW.2.2.2.2.2 k hk).2.1
    subst hi
    refine V_run ok_X6_heirOf 60 2 ?_
    simp (disch := omega) only [eng, c_X6_heirOf, r_X6_heirOf, tbl, true_and, Nat.reduceAdd, Nat.reduceLT, ↓reduceIte, n_eq, n_lt, n_le, n_cl, n_inT, nI_add, bI_eq0, bI_eq1, not_true_eq_false, not_false_eq_true, true_implies, false_implies, implies_true, and_true, Bool.not_eq_false, Bool.not_eq_true, Nat.reduceEqDiff, Nat.reduceLeDiff, Classical.not_not, List.length_cons, List.length_nil, Int.reduceAdd, z_cast, Nat.reducePow, false_or, Nat.reduceLT, Nat.sub_zero, Nat.le_refl, fk]
    try simp only [iteP, Classical.not_not, Bool.not_eq_false, Bool.not_eq_true]
    exact hK
  | n + 1, i, hi, hK, v4, v5 => by
    have hi1 : i < E 11 k := by omega
    have fk := (hE.2.2.2.2.2 k hk).1
    have fr := (hE.2.2.2.2.2 k hk).2 i hi1
    have w3 := (hW.2.2.2.2.2 k hk).2.1
    have wr5 := (hW.2.2.2.2.2 k hk).2.2 i hi1
    have h1 : ¬ E 11 k ≤ i := by omega
    have hn12 := hW.1
    unfold heiF at hK
    refine V_run ok_X6_heirOf 60 2 ?_
    simp (disch := omega) only [eng, c_X6_heirOf, r_X6_heirOf, tbl, true_and, Nat.reduceAdd, Nat.reduceLT, ↓reduceIte, n_eq, n_lt, n_le, n_cl, n_inT, nI_add, bI_eq0, bI_eq1, not_true_eq_false, not_false_eq_true, true_implies, false_implies, implies_true, and_true, Bool.not_eq_false, Bool.not_eq_true, Nat.reduceEqDiff, Nat.reduceLeDiff, Classical.not_not, List.length_cons, List.length_nil, Int.reduceAdd, z_cast, Nat.reducePow, false_or, Nat.reduceLT, Nat.sub_zero, Nat.le_refl, fk, h1, fr, pk_mul]
    try simp only [iteP, Classical.not_not, Bool.not_eq_false, Bool.not_eq_true]
    refine m_kinOf hW hE hp wr5 ?_
    have hlt : kin E p (E 10 (3 * k + i)) < 4096 := bits12 hn12
    have hml : ∀ j, E 12 0 ≤ j → (kin E p (E 10 (3 * k + i))).testBit j = false := fun j hj => by
      unfold kin
      rw [bits_tb, decide_eq_false (by omega), Bool.false_and]
    generalize kin E p (E 10 (3 * k + i)) = m at hK hlt hml ⊢
    refine lp_heirI l hW hE hlt hml (fun z => ?_) (fun z => ?_) (E 12 0) 0 (by omega) (fun j hj => absurd hj (Nat.not_lt_zero j))
    · rw [if_pos z] at hK
      exact lp_heirO l hW hE hp hk n (i + 1) (by omega) hK _ _
    · rw [if_neg z] at hK; exact hK
theorem m_heirOf {l : Launch} {p k : Nat} {E : Es} {σ : St} {K : Int32 → St → Prop} (hW : Wf E) (hE : MPR E σ) (hp : p < E 12 0) (hk : k < 4) (hK : K (nI (heir E p k)) σ) : CallAt l 136 [.ref 900, .int (nI p), .int (nI k)] σ K := by
  refine CallAt.of (k := 136) (cd := k_X6_heirOf) ok_X6_heirOf (by decide) rfl rfl rfl ?_
  show V _ i_X6_heirOf k_X6_heirOf 0 [.ref 900, .int (nI p), .int (nI k), .null, .null, .null] [] _ _
  refine V_run ok_X6_heirOf 30 0 ?_
  simp (disch := omega) only [eng, c_X6_heirOf, r_X6_heirOf, tbl, true_and, Nat.reduceAdd, Nat.reduceLT, ↓reduceIte, n_eq, n_lt, n_le, n_cl, n_inT, nI_add, bI_eq0, bI_eq1, not_true_eq_false, not_false_eq_true, true_implies, false_implies, implies_true, and_true, Bool.not_eq_false, Bool.not_eq_true, Nat.reduceEqDiff, Nat.reduceLeDiff, Classical.not_not, List.length_cons, List.length_nil, Int.reduceAdd, z_cast, Nat.reducePow, false_or, Nat.reduceLT, Nat.sub_zero, Nat.le_refl]
  try simp only [iteP, Classical.not_not, Bool.not_eq_false, Bool.not_eq_true]
  exact lp_heirO l hW hE hp hk (E 11 k) 0 (by omega) hK _ _
theorem M_heir {l : Launch} {A : AS} {p k : Int32} {σ : St} {K : Int32 → St → Prop} (hM : MX A σ) (hK : ∀ σ', MX (op_heir A p k).2 σ' → FrM σ σ' → K (op_heir A p k).1 σ') : CallAt l 137 [.ref 900, .int p, .int k] σ K := by
  have hW := hM.1.1
  have hE := hM.2.1
  have hn := hW.1
  have hk := hK σ hM FrM.rfl'
  unfold op_heir at hk
  dsimp only at hk
  refine CallAt.of (k := 137) (cd := k_X6_heir) ok_X6_heir (by decide) rfl rfl rfl ?_
  show V _ i_X6_heir k_X6_heir 0 [.ref 900, .int p, .int k, .null] [] _ _
  refine V_run ok_X6_heir 60 0 ?_
  simp (disch := omega) only [eng, c_X6_heir, r_X6_heir, tbl, true_and, Nat.reduceAdd, Nat.reduceLT, ↓reduceIte, n_eq, n_lt, n_le, n_cl, n_inT, nI_add, bI_eq0, bI_eq1, not_true_eq_false, not_false_eq_true, true_implies, false_implies, implies_true, and_true, Bool.not_eq_false, Bool.not_eq_true, Nat.reduceEqDiff, Nat.reduceLeDiff, Classical.not_not, List.length_cons, List.length_nil, Int.reduceAdd, z_cast, Nat.reducePow, false_or, Nat.reduceLT, Nat.sub_zero, Nat.le_refl]
  try simp only [iteP, Classical.not_not, Bool.not_eq_false, Bool.not_eq_true]
  refine m_isOne hE.1 hn ?_
  cases h1 : inB p (A.1 12 0) with
  | false =>
    rw [h1] at hk
    simp (disch := omega) only [n_eq, n_lt, n_le, n_cl, n_inT, nI_add, bI_eq0, bI_eq1, not_true_eq_false, not_false_eq_true, true_implies, false_implies, implies_true, and_true, Bool.not_eq_false, Bool.not_eq_true, Nat.reduceEqDiff, Nat.reduceLeDiff, Classical.not_not, List.length_cons, List.length_nil, Int.reduceAdd, z_cast, Nat.reducePow, false_or, Nat.reduceLT, Nat.sub_zero, Nat.le_refl, true_and, ↓reduceIte, iteP, Bool.false_eq_true]
    exact hk
  | true =>
    simp (disch := omega) only [n_eq, n_lt, n_le, n_cl, n_inT, nI_add, bI_eq0, bI_eq1, not_true_eq_false, not_false_eq_true, true_implies, false_implies, implies_true, and_true, Bool.not_eq_false, Bool.not_eq_true, Nat.reduceEqDiff, Nat.reduceLeDiff, Classical.not_not, List.length_cons, List.length_nil, Int.reduceAdd, z_cast, Nat.reducePow, false_or, Nat.reduceLT, Nat.sub_zero, Nat.le_refl, true_and, ↓reduceIte, iteP, Bool.true_eq_false]
    refine m_rI (a := 0) (n := 3) rfl rfl ?_
    rw [← rI0 k 3]
    cases h2 : inB k 4 with
    | false =>
      rw [h1, h2] at hk
      simp (disch := omega) only [n_eq, n_lt, n_le, n_cl, n_inT, nI_add, bI_eq0, bI_eq1, not_true_eq_false, not_false_eq_true, true_implies, false_implies, implies_true, and_true, Bool.not_eq_false, Bool.not_eq_true, Nat.reduceEqDiff, Nat.reduceLeDiff, Classical.not_not, List.length_cons, List.length_nil, Int.reduceAdd, z_cast, Nat.reducePow, false_or, Nat.reduceLT, Nat.sub_zero, Nat.le_refl, true_and, ↓reduceIte, iteP, Bool.false_eq_true]
      exact hk
    | true =>
      rw [h1, h2, Bool.and_self, if_pos rfl] at hk
      obtain ⟨p', hp, rfl⟩ := inB_of h1
      obtain ⟨k', hk', rfl⟩ := inB_of h2
      have hp12 := p12 hW hp
      have fp := hE.2.2.2.1 p' hp
      have w5 := (hW.2.2.2.1 p' hp).2.1
      rw [n_cl (by omega), n_cl (by omega)] at hk
      by_cases z : A.1 5 p' = 0
      · rw [if_neg (by omega)] at hk
        simp (disch := omega) only [n_eq, n_lt, n_le, n_cl, n_inT, nI_add, bI_eq0, bI_eq1, not_true_eq_false, not_false_eq_true, true_implies, false_implies, implies_true, and_true, Bool.not_eq_false, Bool.not_eq_true, Nat.reduceEqDiff, Nat.reduceLeDiff, Classical.not_not, List.length_cons, List.length_nil, Int.reduceAdd, z_cast, Nat.reducePow, false_or, Nat.reduceLT, Nat.sub_zero, Nat.le_refl, true_and, ↓reduceIte, iteP, Bool.true_eq_false, fp, z]
        exact hk
      · rw [if_pos (by omega)] at hk
        simp (disch := omega) only [n_eq, n_lt, n_le, n_cl, n_inT, nI_add, bI_eq0, bI_eq1, not_true_eq_false, not_false_eq_true, true_implies, false_implies, implies_true, and_true, Bool.not_eq_false, Bool.not_eq_true, Nat.reduceEqDiff, Nat.reduceLeDiff, Classical.not_not, List.length_cons, List.length_nil, Int.reduceAdd, z_cast, Nat.reducePow, false_or, Nat.reduceLT, Nat.sub_zero, Nat.le_refl, true_and, ↓reduceIte, iteP, Bool.true_eq_false, fp, z]
        refine m_heirOf hW hE.q hp hk' ?_
        have hh := heir12 hW p' k'
        simp (disch := omega) only [n_eq, n_lt, n_le, n_cl, n_inT, nI_add, bI_eq0, bI_eq1, not_true_eq_false, not_false_eq_true, true_implies, false_implies, implies_true, and_true, Bool.not_eq_false, Bool.not_eq_true, Nat.reduceEqDiff, Nat.reduceLeDiff, Classical.not_not, List.length_cons, List.length_nil, Int.reduceAdd, z_cast, Nat.reducePow, false_or, Nat.reduceLT, Nat.sub_zero, Nat.le_refl, true_and, ↓reduceIte, iteP]
        refine ⟨fun z => ?_, fun z => ?_⟩
        · first | (rw [if_pos z] at hk; exact hk) | (rw [if_neg z] at hk; exact hk)
        · first | (rw [if_pos z] at hk; exact hk) | (rw [if_neg z] at hk; exact hk)
