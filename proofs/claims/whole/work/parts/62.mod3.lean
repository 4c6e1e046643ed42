theorem m_can {l : Launch} {a c : Nat} {E : Es} {σ : St} {K : Int32 → St → Prop} (hW : Wf E) (hE : ME E σ) (ha : a < E 12 0) (hc : c < E 12 0) (h0 : E 0 a = 0) (h1 : E 0 c = 1) (hK : K (bI (can E a c)) σ) : CallAt l 120 [.ref 900, .int (nI a), .int (nI c)] σ K := by
  have ha12 := p12 hW ha
  have hc12 := p12 hW hc
  have fa := hE.2.2.2.1 a ha
  have fc := hE.2.2.2.1 c hc
  have wa := hW.2.2.2.1 a ha
  have wc := hW.2.2.2.1 c hc
  have l1 := wa.2.1
  have l2 := wc.2.1
  have s1 := sp12 hW ha
  have s2 := sp12 hW hc
  have hf : ∀ (P : Prop), (can E a c = true → P) → ¬ P → can E a c = false := fun P h1 h2 => by
    cases hz : can E a c
    · rfl
    · exact absurd (h1 hz) h2
  by_cases q1 : E 5 a = 1
  case neg =>
    rw [hf _ (fun z => (can_iff.mp z).2.2.2.2.1) q1] at hK
    refine CallAt.of (k := 120) (cd := k_X6_canMarry) ok_X6_canMarry (by decide) rfl rfl rfl ?_
    show V _ i_X6_canMarry k_X6_canMarry 0 [.ref 900, .int (nI a), .int (nI c), .null] [] _ _
    refine V_run ok_X6_canMarry 80 0 ?_
    simp (disch := omega) only [eng, c_X6_canMarry, r_X6_canMarry, tbl, true_and, Nat.reduceAdd, Nat.reduceLT, ↓reduceIte, n_eq, n_lt, n_le, n_cl, n_inT, nI_add, bI_eq0, bI_eq1, not_true_eq_false, not_false_eq_true, true_implies, false_implies, implies_true, and_true, Bool.not_eq_false, Bool.not_eq_true, Nat.reduceEqDiff, Nat.reduceLeDiff, Classical.not_not, List.length_cons, List.length_nil, Int.reduceAdd, z_cast, Nat.reducePow, false_or, Nat.reduceLT, Nat.sub_zero, Nat.le_refl, fa, fc, q1]
    try simp only [iteP, Classical.not_not, Bool.not_eq_false, Bool.not_eq_true]
    exact hK
  by_cases q2 : E 5 c = 1
  case neg =>
    rw [hf _ (fun z => (can_iff.mp z).2.2.2.2.2.1) q2] at hK
    refine CallAt.of (k := 120) (cd := k_X6_canMarry) ok_X6_canMarry (by decide) rfl rfl rfl ?_
    show V _ i_X6_canMarry k_X6_canMarry 0 [.ref 900, .int (nI a), .int (nI c), .null] [] _ _
    refine V_run ok_X6_canMarry 80 0 ?_
    simp (disch := omega) only [eng, c_X6_canMarry, r_X6_canMarry, tbl, true_and, Nat.reduceAdd, Nat.reduceLT, ↓reduceIte, n_eq, n_lt, n_le, n_cl, n_inT, nI_add, bI_eq0, bI_eq1, not_true_eq_false, not_false_eq_true, true_implies, false_implies, implies_true, and_true, Bool.not_eq_false, Bool.not_eq_true, Nat.reduceEqDiff, Nat.reduceLeDiff, Classical.not_not, List.length_cons, List.length_nil, Int.reduceAdd, z_cast, Nat.reducePow, false_or, Nat.reduceLT, Nat.sub_zero, Nat.le_refl, fa, fc, q1, q2]
    try simp only [iteP, Classical.not_not, Bool.not_eq_false, Bool.not_eq_true]
    exact hK
  by_cases q3 : E 3 a = 12
  case neg =>
    rw [hf _ (fun z => (can_iff.mp z).2.2.2.2.2.2.1) q3] at hK
    refine CallAt.of (k := 120) (cd := k_X6_canMarry) ok_X6_canMarry (by decide) rfl rfl rfl ?_
    show V _ i_X6_canMarry k_X6_canMarry 0 [.ref 900, .int (nI a), .int (nI c), .null] [] _ _
    refine V_run ok_X6_canMarry 80 0 ?_
    simp (disch := omega) only [eng, c_X6_canMarry, r_X6_canMarry, tbl, true_and, Nat.reduceAdd, Nat.reduceLT, ↓reduceIte, n_eq, n_lt, n_le, n_cl, n_inT, nI_add, bI_eq0, bI_eq1, not_true_eq_false, not_false_eq_true, true_implies, false_implies, implies_true, and_true, Bool.not_eq_false, Bool.not_eq_true, Nat.reduceEqDiff, Nat.reduceLeDiff, Classical.not_not, List.length_cons, List.length_nil, Int.reduceAdd, z_cast, Nat.reducePow, false_or, Nat.reduceLT, Nat.sub_zero, Nat.le_refl, fa, fc, q1, q2, q3]
    try simp only [iteP, Classical.not_not, Bool.not_eq_false, Bool.not_eq_true]
    exact hK
  by_cases q4 : E 3 c = 12
  case neg =>
    rw [hf _ (fun z => (can_iff.mp z).2.2.2.2.2.2.2.1) q4] at hK
    refine CallAt.of (k := 120) (cd := k_X6_canMarry) ok_X6_canMarry (by decide) rfl rfl rfl ?_
    show V _ i_X6_canMarry k_X6_canMarry 0 [.ref 900, .int (nI a), .int (nI c), .null] [] _ _
    refine V_run ok_X6_canMarry 80 0 ?_
    simp (disch := omega) only [eng, c_X6_canMarry, r_X6_canMarry, tbl, true_and, Nat.reduceAdd, Nat.reduceLT, ↓reduceIte, n_eq, n_lt, n_le, n_cl, n_inT, nI_add, bI_eq0, bI_eq1, not_true_eq_false, not_false_eq_true, true_implies, false_implies, implies_true, and_true, Bool.not_eq_false, Bool.not_eq_true, Nat.reduceEqDiff, Nat.reduceLeDiff, Classical.not_not, List.length_cons, List.length_nil, Int.reduceAdd, z_cast, Nat.reducePow, false_or, Nat.reduceLT, Nat.sub_zero, Nat.le_refl, fa, fc, q1, q2, q3, q4]
    try simp only [iteP, Classical.not_not, Bool.not_eq_false, Bool.not_eq_true]
    exact hK
  have hne : a ≠ c := fun z => by rw [z] at h0; omega
  have ck : can E a c = (!sib E a c && (!chi E a c && !chi E c a)) := by
    have n1 : E 1 a ≠ c := fun z => by rcases wa.2.2.1 with q | q; omega; rw [z] at q; omega
    have n2 : E 2 c ≠ a := fun z => by rcases wc.2.2.2.1 with q | q; omega; rw [z] at q; omega
    rw [Bool.eq_iff_iff, can_iff]
    simp only [sib, chi, Bool.and_eq_true, Bool.not_eq_true', Bool.and_eq_false_iff, Bool.or_eq_false_iff, bne_iff_ne, beq_iff_eq, ne_eq, bne_eq_false_iff_eq, beq_eq_false_iff_ne]
    constructor
    · rintro ⟨-, -, -, -, -, -, -, -, z1, z2, z3, z4⟩
      refine ⟨Or.inr ⟨?_, ?_⟩, ⟨n1, z4⟩, z3, n2⟩
      · by_cases q : E 1 a = 12
        · exact Or.inl q
        · exact Or.inr (fun y => z1 ⟨q, y⟩)
      · by_cases q : E 2 a = 12
        · exact Or.inl q
        · exact Or.inr (fun y => z2 ⟨q, y⟩)
    · rintro ⟨z1, z2, z3⟩
      rcases z1 with z1 | z1
      · exact absurd z1 hne
      · exact ⟨ha, hc, h0, h1, q1, q2, q3, q4, fun y => by rcases z1.1 with q | q; exact y.1 q; exact q y.2, fun y => by rcases z1.2 with q | q; exact y.1 q; exact q y.2, z3.1, z2.2⟩
  rw [ck] at hK
  refine CallAt.of (k := 120) (cd := k_X6_canMarry) ok_X6_canMarry (by decide) rfl rfl rfl ?_
  show V _ i_X6_canMarry k_X6_canMarry 0 [.ref 900, .int (nI a), .int (nI c), .null] [] _ _
  refine V_run ok_X6_canMarry 80 0 ?_
  simp (disch := omega) only [eng, c_X6_canMarry, r_X6_canMarry, tbl, true_and, Nat.reduceAdd, Nat.reduceLT, ↓reduceIte, n_eq, n_lt, n_le, n_cl, n_inT, nI_add, bI_eq0, bI_eq1, not_true_eq_false, not_false_eq_true, true_implies, false_implies, implies_true, and_true, Bool.not_eq_false, Bool.not_eq_true, Nat.reduceEqDiff, Nat.reduceLeDiff, Classical.not_not, List.length_cons, List.length_nil, Int.reduceAdd, z_cast, Nat.reducePow, false_or, Nat.reduceLT, Nat.sub_zero, Nat.le_refl, fa, fc, q1, q2, q3, q4]
  try simp only [iteP, Classical.not_not, Bool.not_eq_false, Bool.not_eq_true]
  refine m_sib hW hE.q ha hc ?_
  cases k1 : sib E a c with
  | true =>
    rw [k1] at hK
    simp (disch := omega) only [n_eq, n_lt, n_le, n_cl, n_inT, nI_add, bI_eq0, bI_eq1, not_true_eq_false, not_false_eq_true, true_implies, false_implies, implies_true, and_true, Bool.not_eq_false, Bool.not_eq_true, Nat.reduceEqDiff, Nat.reduceLeDiff, Classical.not_not, List.length_cons, List.length_nil, Int.reduceAdd, z_cast, Nat.reducePow, false_or, Nat.reduceLT, Nat.sub_zero, Nat.le_refl, true_and, ↓reduceIte, iteP, Bool.true_eq_false]
    exact hK
  | false =>
    rw [k1, Bool.not_false, Bool.true_and] at hK
    simp (disch := omega) only [n_eq, n_lt, n_le, n_cl, n_inT, nI_add, bI_eq0, bI_eq1, not_true_eq_false, not_false_eq_true, true_implies, false_implies, implies_true, and_true, Bool.not_eq_false, Bool.not_eq_true, Nat.reduceEqDiff, Nat.reduceLeDiff, Classical.not_not, List.length_cons, List.length_nil, Int.reduceAdd, z_cast, Nat.reducePow, false_or, Nat.reduceLT, Nat.sub_zero, Nat.le_refl, true_and, ↓reduceIte, iteP, Bool.false_eq_true]
    refine m_chi hW hE.q ha hc ?_
    cases k2 : chi E a c with
    | true =>
      rw [k2] at hK
      simp (disch := omega) only [n_eq, n_lt, n_le, n_cl, n_inT, nI_add, bI_eq0, bI_eq1, not_true_eq_false, not_false_eq_true, true_implies, false_implies, implies_true, and_true, Bool.not_eq_false, Bool.not_eq_true, Nat.reduceEqDiff, Nat.reduceLeDiff, Classical.not_not, List.length_cons, List.length_nil, Int.reduceAdd, z_cast, Nat.reducePow, false_or, Nat.reduceLT, Nat.sub_zero, Nat.le_refl, true_and, ↓reduceIte, iteP, Bool.true_eq_false]
      exact hK
    | false =>
      rw [k2, Bool.not_false, Bool.true_and] at hK
      simp (disch := omega) only [n_eq, n_lt, n_le, n_cl, n_inT, nI_add, bI_eq0, bI_eq1, not_true_eq_false, not_false_eq_true, true_implies, false_implies, implies_true, and_true, Bool.not_eq_false, Bool.not_eq_true, Nat.reduceEqDiff, Nat.reduceLeDiff, Classical.not_not, List.length_cons, List.length_nil, Int.reduceAdd, z_cast, Nat.reducePow, false_or, Nat.reduceLT, Nat.sub_zero, Nat.le_refl, true_and, ↓reduceIte, iteP, Bool.false_eq_true]
      refine m_chi hW hE.q hc ha ?_
      cases k3 : chi E c a
      all_goals
        rw [k3] at hK
        simp (disch := omega) only [n_eq, n_lt, n_le, n_cl, n_inT, nI_add, bI_eq0, bI_eq1, not_true_eq_false, not_false_eq_true, true_implies, false_implies, implies_true, and_true, Bool.not_eq_false, Bool.not_eq_true, Nat.reduceEqDiff, Nat.reduceLeDiff, Classical.not_not, List.length_cons, List.length_nil, Int.reduceAdd, z_cast, Nat.reducePow, false_or, Nat.reduceLT, Nat.sub_zero, Nat.le_refl, true_and, ↓reduceIte, iteP, Bool.true_eq_false, Bool.false_eq_true]
        exact hK
theorem m_wed {l : Launch} {a c : Nat} {E : Es} {σ : St} {K : Int32 → St → Prop} (hW : Wf E) (hE : ME E σ) (ha : a < E 12 0) (hc : c < E 12 0) (hne : a ≠ c) (hK : ∀ σ', ME (joi E a c) σ' → FrN σ σ' → (∀ k, k ≠ 904 → σ' k = σ k) → K 0 σ') : CallAt l 121 [.ref 900, .int (nI a), .int (nI c)] σ K := by
  have ha12 := p12 hW ha
  have hc12 := p12 hW hc
  obtain ⟨a1, a2, a3, a4, a5, a6⟩ := hE
  refine CallAt.of (k := 121) (cd := k_X6_marryNow) ok_X6_marryNow (by decide) rfl rfl rfl ?_
  show V _ i_X6_marryNow k_X6_marryNow 0 [.ref 900, .int (nI a), .int (nI c)] [] _ _
  refine V_run ok_X6_marryNow 50 0 ?_
  simp (disch := omega) only [eng, c_X6_marryNow, r_X6_marryNow, tbl, true_and, Nat.reduceAdd, Nat.reduceLT, ↓reduceIte, n_eq, n_lt, n_le, n_cl, n_inT, nI_add, bI_eq0, bI_eq1, not_true_eq_false, not_false_eq_true, true_implies, false_implies, implies_true, and_true, Bool.not_eq_false, Bool.not_eq_true, Nat.reduceEqDiff, Nat.reduceLeDiff, Classical.not_not, List.length_cons, List.length_nil, Int.reduceAdd, z_cast, Nat.reducePow, false_or, Nat.reduceLT, Nat.sub_zero, Nat.le_refl]
  try simp only [iteP, Classical.not_not, Bool.not_eq_false, Bool.not_eq_true]
  refine hK _ ⟨?_, ?_, ?_, fun p hp => ?_, fun t ht => ?_, fun k hk => ?_⟩ ?_ (fun k hk => by simp (disch := omega) only [wrq])
  · simpa [wr_at, joi] using a1
  · simpa [wr_at, joi] using a2
  · simpa [wr_at, joi] using a3
  · have := a4 p (by simpa [joi] using hp)
    by_cases z : p = c
    · subst z; simp [wr_at, joi, this]
    · by_cases z2 : p = a
      · subst z2; simp [wr_at, joi, this, z]
      · simp [wr_at, joi, this, z, z2]
  · have := a5 t (by simpa [joi] using ht)
    simp [wr_at, joi, this]
  · have := a6 k hk
    refine ⟨by simpa [wr_at, joi] using this.1, fun i hi => ?_⟩
    have := this.2 i (by simpa [joi] using hi)
    simpa [wr_at, joi] using this
  · exact ⟨fun k h1 h2 => by simp (disch := omega) only [wrq], fun j h1 h2 h3 => by simp [wr_at]⟩
theorem M_marry {l : Launch} {A : AS} {a c : Int32} {σ : St} {K : Int32 → St → Prop} (hM : MX A σ) (hK : ∀ σ', MX (op_marry A a c).2 σ' → FrM σ σ' → K (op_marry A a c).1 σ') : CallAt l 122 [.ref 900, .int a, .int c] σ K := by
  have hW := hM.1.1
  have hE := hM.2.1
  have hn := hW.1
  unfold op_marry at hK
  have bad : (isS A.1 a 0 && isS A.1 c 1) = false → K (-1) σ := fun h => by rw [h] at hK; exact hK σ hM FrM.rfl'
  refine CallAt.of (k := 122) (cd := k_X6_marry) ok_X6_marry (by decide) rfl rfl rfl ?_
  show V _ i_X6_marry k_X6_marry 0 [.ref 900, .int a, .int c] [] _ _
  refine V_run ok_X6_marry 60 0 ?_
  simp (disch := omega) only [eng, c_X6_marry, r_X6_marry, tbl, true_and, Nat.reduceAdd, Nat.reduceLT, ↓reduceIte, n_eq, n_lt, n_le, n_cl, n_inT, nI_add, bI_eq0, bI_eq1, not_true_eq_false, not_false_eq_true, true_implies, false_implies, implies_true, and_true, Bool.not_eq_false, Bool.not_eq_true, Nat.reduceEqDiff, Nat.reduceLeDiff, Classical.not_not, List.length_cons, List.length_nil, Int.reduceAdd, z_cast, Nat.reducePow, false_or, Nat.reduceLT, Nat.sub_zero, Nat.le_refl]
  try simp only [iteP, Classical.not_not, Bool.not_eq_false, Bool.not_eq_true]
  refine m_isOne hE.1 hn ?_
  cases h1 : inB a (A.1 12 0) with
  | false =>
    simp (disch := omega) only [n_eq, n_lt, n_le, n_cl, n_inT, nI_add, bI_eq0, bI_eq1, not_true_eq_false, not_false_eq_true, true_implies, false_implies, implies_true, and_true, Bool.not_eq_false, Bool.not_eq_true, Nat.reduceEqDiff, Nat.reduceLeDiff, Classical.not_not, List.length_cons, List.length_nil, Int.reduceAdd, z_cast, Nat.reducePow, false_or, Nat.reduceLT, Nat.sub_zero, Nat.le_refl, true_and, ↓reduceIte, iteP, Bool.false_eq_true]
    exact bad (by simp [isS, h1])
  | true =>
    simp (disch := omega) only [n_eq, n_lt, n_le, n_cl, n_inT, nI_add, bI_eq0, bI_eq1, not_true_eq_false, not_false_eq_true, true_implies, false_implies, implies_true, and_true, Bool.not_eq_false, Bool.not_eq_true, Nat.reduceEqDiff, Nat.reduceLeDiff, Classical.not_not, List.length_cons, List.length_nil, Int.reduceAdd, z_cast, Nat.reducePow, false_or, Nat.reduceLT, Nat.sub_zero, Nat.le_refl, true_and, ↓reduceIte, iteP, Bool.true_eq_false]
    refine m_isOne hE.1 hn ?_
    cases h2 : inB c (A.1 12 0) with
    | false =>
      simp (disch := omega) only [n_eq, n_lt, n_le, n_cl, n_inT, nI_add, bI_eq0, bI_eq1, not_true_eq_false, not_false_eq_true, true_implies, false_implies, implies_true, and_true, Bool.not_eq_false, Bool.not_eq_true, Nat.reduceEqDiff, Nat.reduceLeDiff, Classical.not_not, List.length_cons, List.length_nil, Int.reduceAdd, z_cast, Nat.reducePow, false_or, Nat.reduceLT, Nat.sub_zero, Nat.le_refl, true_and, ↓reduceIte, iteP, Bool.false_eq_true]
      exact bad (by simp [isS, h2])
    | true =>
      obtain ⟨a', ha, rfl⟩ := inB_of h1
      obtain ⟨c', hc, rfl⟩ := inB_of h2
      have ha12 := p12 hW ha
      have hc12 := p12 hW hc
      have fa := (hE.2.2.2.1 a' ha).1
      have fc := (hE.2.2.2.1 c' hc).1
      have w1 := (hW.2.2.2.1 a' ha).1
      have w2 := (hW.2.2.2.1 c' hc).1
      by_cases z1 : A.1 0 a' = 0
      case neg =>
        simp (disch := omega) only [n_eq, n_lt, n_le, n_cl, n_inT, nI_add, bI_eq0, bI_eq1, not_true_eq_false, not_false_eq_true, true_implies, false_implies, implies_true, and_true, Bool.not_eq_false, Bool.not_eq_true, Nat.reduceEqDiff, Nat.reduceLeDiff, Classical.not_not, List.length_cons, List.length_nil, Int.reduceAdd, z_cast, Nat.reducePow, false_or, Nat.reduceLT, Nat.sub_zero, Nat.le_refl, true_and, ↓reduceIte, iteP, Bool.true_eq_false, fa, fc, z1]
        exact bad (by simp [isS, n_cl (show a' < 2147483648 by omega), z1])
      by_cases z2 : A.1 0 c' = 1
      case neg =>
        simp (disch := omega) only [n_eq, n_lt, n_le, n_cl, n_inT, nI_add, bI_eq0, bI_eq1, not_true_eq_false, not_false_eq_true, true_implies, false_implies, implies_true, and_true, Bool.not_eq_false, Bool.not_eq_true, Nat.reduceEqDiff, Nat.reduceLeDiff, Classical.not_not, List.length_cons, List.length_nil, Int.reduceAdd, z_cast, Nat.reducePow, false_or, Nat.reduceLT, Nat.sub_zero, Nat.le_refl, true_and, ↓reduceIte, iteP, Bool.true_eq_false, fa, fc, z1, z2]
        exact bad (by simp [isS, n_cl (show c' < 2147483648 by omega), z2])
      have e1 : isS A.1 (nI a') 0 = true := by simp [isS, n_cl (show a' < 2147483648 by omega), z1, h1]
      have e2 : isS A.1 (nI c') 1 = true := by simp [isS, n_cl (show c' < 2147483648 by omega), z2, h2]
      rw [e1, e2, Bool.and_self, if_pos rfl, n_cl (by omega), n_cl (by omega)] at hK
      simp (disch := omega) only [n_eq, n_lt, n_le, n_cl, n_inT, nI_add, bI_eq0, bI_eq1, not_true_eq_false, not_false_eq_true, true_implies, false_implies, implies_true, and_true, Bool.not_eq_false, Bool.not_eq_true, Nat.reduceEqDiff, Nat.reduceLeDiff, Classical.not_not, List.length_cons, List.length_nil, Int.reduceAdd, z_cast, Nat.reducePow, false_or, Nat.reduceLT, Nat.sub_zero, Nat.le_refl, true_and, ↓reduceIte, iteP, Bool.true_eq_false, fa, fc, z1, z2]
      refine m_can hW hE ha hc z1 z2 ?_
      cases hz : can A.1 a' c' with
      | false =>
        rw [hz] at hK
        simp (disch := omega) only [n_eq, n_lt, n_le, n_cl, n_inT, nI_add, bI_eq0, bI_eq1, not_true_eq_false, not_false_eq_true, true_implies, false_implies, implies_true, and_true, Bool.not_eq_false, Bool.not_eq_true, Nat.reduceEqDiff, Nat.reduceLeDiff, Classical.not_not, List.length_cons, List.length_nil, Int.reduceAdd, z_cast, Nat.reducePow, false_or, Nat.reduceLT, Nat.sub_zero, Nat.le_refl, true_and, ↓reduceIte, iteP, Bool.false_eq_true]
        exact hK σ hM FrM.rfl'
      | true =>
        rw [hz, if_pos rfl] at hK
        simp (disch := omega) only [n_eq, n_lt, n_le, n_cl, n_inT, nI_add, bI_eq0, bI_eq1, not_true_eq_false, not_false_eq_true, true_implies, false_implies, implies_true, and_true, Bool.not_eq_false, Bool.not_eq_true, Nat.reduceEqDiff, Nat.reduceLeDiff, Classical.not_not, List.length_cons, List.length_nil, Int.reduceAdd, z_cast, Nat.reducePow, false_or, Nat.reduceLT, Nat.sub_zero, Nat.le_refl, true_and, ↓reduceIte, iteP, Bool.true_eq_false]
        refine m_wed hW hE ha hc (fun z => by rw [z] at z1; omega) (fun σ' hE' hf' _ => ?_)
        exact hK σ' (hM.es hf' (Wf_joi hW hz) hE') hf'.m
