theorem ME_par {i k v : Nat} {E : Es} {σ : St} (hE : ME E σ) (hi : i = 1 ∨ i = 2 ∨ i = 4) : ME (eu E i k v) (wr σ (901 + i) k (nI v)) := by
  obtain ⟨a1, a2, a3, a4, a5, a6⟩ := hE
  have e : ∀ i' j, i' ≠ i → eu E i k v i' j = E i' j := fun i' j h => by simp [eu, h]
  have g : ∀ c, c ≠ 901 + i → wr σ (901 + i) k (nI v) c = σ c := fun c h => wr_ne c h
  have x : eu E i k v i k = v := by simp [eu]
  have x2 : ∀ j, j ≠ k → eu E i k v i j = E i j := fun j h => by simp [eu, h]
  have y : ∀ c j, c = 901 + i → wr σ (901 + i) k (nI v) c j = if j = k then nI v else σ c j := fun c j h => by subst h; simp [wr_at]
  refine ⟨by rw [g _ (by omega), e _ _ (by omega)]; exact a1, by rw [g _ (by omega), e _ _ (by omega)]; exact a2, by rw [g _ (by omega), e _ _ (by omega)]; exact a3, fun p hp => ?_, fun t ht => ?_, fun k' hk => ?_⟩
  · rw [e _ _ (by omega)] at hp
    have := a4 p hp
    rw [g 901 (by omega), g 904 (by omega), g 906 (by omega), e 0 _ (by omega), e 3 _ (by omega), e 5 _ (by omega)]
    rcases hi with rfl | rfl | rfl
    · rw [g 903 (by omega), g 905 (by omega), e 2 _ (by omega), e 4 _ (by omega), y 902 p rfl]
      refine ⟨this.1, ?_, this.2.2⟩
      by_cases z : p = k
      · rw [if_pos z, z, x]
      · rw [if_neg z, x2 p z]; exact this.2.1
    · rw [g 902 (by omega), g 905 (by omega), e 1 _ (by omega), e 4 _ (by omega), y 903 p rfl]
      refine ⟨this.1, this.2.1, ?_, this.2.2.2⟩
      by_cases z : p = k
      · rw [if_pos z, z, x]
      · rw [if_neg z, x2 p z]; exact this.2.2.1
    · rw [g 902 (by omega), g 903 (by omega), e 1 _ (by omega), e 2 _ (by omega), y 905 p rfl]
      refine ⟨this.1, this.2.1, this.2.2.1, this.2.2.2.1, ?_, this.2.2.2.2.2⟩
      by_cases z : p = k
      · rw [if_pos z, z, x]
      · rw [if_neg z, x2 p z]; exact this.2.2.2.2.1
  · rw [e _ _ (by omega)] at ht
    rw [g 908 (by omega), g 909 (by omega), g 910 (by omega), g 911 (by omega), e 6 _ (by omega), e 7 _ (by omega), e 8 _ (by omega), e 9 _ (by omega)]
    exact a5 t ht
  · rw [g 914 (by omega), g 913 (by omega), e 11 _ (by omega)]
    exact ⟨(a6 k' hk).1, fun i' hi' => by rw [e 10 _ (by omega)]; exact (a6 k' hk).2 i' hi'⟩
theorem M_adopt {l : Launch} {A : AS} {c m : Int32} {σ : St} {K : Int32 → St → Prop} (hM : MX A σ) (hK : ∀ σ', MX (op_adopt A c m).2 σ' → FrM σ σ' → K (op_adopt A c m).1 σ') : CallAt l 123 [.ref 900, .int c, .int m] σ K := by
  have hW := hM.1.1
  have hE := hM.2.1
  have hn := hW.1
  unfold op_adopt at hK
  have bad : (inB c (A.1 12 0) && isS A.1 m 0 && decide (m < c)) = false → K (-1) σ := fun h => by rw [h] at hK; exact hK σ hM FrM.rfl'
  refine CallAt.of (k := 123) (cd := k_X6_adopt) ok_X6_adopt (by decide) rfl rfl rfl ?_
  show V _ i_X6_adopt k_X6_adopt 0 [.ref 900, .int c, .int m, .null] [] _ _
  refine V_run ok_X6_adopt 60 0 ?_
  simp (disch := omega) only [eng, c_X6_adopt, r_X6_adopt, tbl, true_and, Nat.reduceAdd, Nat.reduceLT, ↓reduceIte, n_eq, n_lt, n_le, n_cl, n_inT, nI_add, bI_eq0, bI_eq1, not_true_eq_false, not_false_eq_true, true_implies, false_implies, implies_true, and_true, Bool.not_eq_false, Bool.not_eq_true, Nat.reduceEqDiff, Nat.reduceLeDiff, Classical.not_not, List.length_cons, List.length_nil, Int.reduceAdd, z_cast, Nat.reducePow, false_or, Nat.reduceLT, Nat.sub_zero, Nat.le_refl]
  try simp only [iteP, Classical.not_not, Bool.not_eq_false, Bool.not_eq_true]
  refine m_isOne hE.1 hn ?_
  cases h1 : inB c (A.1 12 0) with
  | false =>
    simp (disch := omega) only [n_eq, n_lt, n_le, n_cl, n_inT, nI_add, bI_eq0, bI_eq1, not_true_eq_false, not_false_eq_true, true_implies, false_implies, implies_true, and_true, Bool.not_eq_false, Bool.not_eq_true, Nat.reduceEqDiff, Nat.reduceLeDiff, Classical.not_not, List.length_cons, List.length_nil, Int.reduceAdd, z_cast, Nat.reducePow, false_or, Nat.reduceLT, Nat.sub_zero, Nat.le_refl, true_and, ↓reduceIte, iteP, Bool.false_eq_true]
    exact bad (by simp [h1])
  | true =>
    simp (disch := omega) only [n_eq, n_lt, n_le, n_cl, n_inT, nI_add, bI_eq0, bI_eq1, not_true_eq_false, not_false_eq_true, true_implies, false_implies, implies_true, and_true, Bool.not_eq_false, Bool.not_eq_true, Nat.reduceEqDiff, Nat.reduceLeDiff, Classical.not_not, List.length_cons, List.length_nil, Int.reduceAdd, z_cast, Nat.reducePow, false_or, Nat.reduceLT, Nat.sub_zero, Nat.le_refl, true_and, ↓reduceIte, iteP, Bool.true_eq_false]
    refine m_isOne hE.1 hn ?_
    cases h2 : inB m (A.1 12 0) with
    | false =>
      simp (disch := omega) only [n_eq, n_lt, n_le, n_cl, n_inT, nI_add, bI_eq0, bI_eq1, not_true_eq_false, not_false_eq_true, true_implies, false_implies, implies_true, and_true, Bool.not_eq_false, Bool.not_eq_true, Nat.reduceEqDiff, Nat.reduceLeDiff, Classical.not_not, List.length_cons, List.length_nil, Int.reduceAdd, z_cast, Nat.reducePow, false_or, Nat.reduceLT, Nat.sub_zero, Nat.le_refl, true_and, ↓reduceIte, iteP, Bool.false_eq_true]
      exact bad (by simp [isS, h2])
    | true =>
      obtain ⟨c', hc, rfl⟩ := inB_of h1
      obtain ⟨m', hm, rfl⟩ := inB_of h2
      have hc12 := p12 hW hc
      have hm12 := p12 hW hm
      have fc := hE.2.2.2.1 c' hc
      have fm := hE.2.2.2.1 m' hm
      have w1 := (hW.2.2.2.1 m' hm).1
      have w2 := (hW.2.2.2.1 m' hm).2.1
      have w3 := (hW.2.2.2.1 c' hc).2.1
      by_cases z1 : A.1 0 m' = 0
      case neg =>
        simp (disch := omega) only [n_eq, n_lt, n_le, n_cl, n_inT, nI_add, bI_eq0, bI_eq1, not_true_eq_false, not_false_eq_true, true_implies, false_implies, implies_true, and_true, Bool.not_eq_false, Bool.not_eq_true, Nat.reduceEqDiff, Nat.reduceLeDiff, Classical.not_not, List.length_cons, List.length_nil, Int.reduceAdd, z_cast, Nat.reducePow, false_or, Nat.reduceLT, Nat.sub_zero, Nat.le_refl, true_and, ↓reduceIte, iteP, Bool.true_eq_false, fm, z1]
        exact bad (by simp [isS, n_cl (show m' < 2147483648 by omega), z1])
      by_cases z2 : m' < c'
      case neg =>
        have z3 : c' ≤ m' := by omega
        simp (disch := omega) only [n_eq, n_lt, n_le, n_cl, n_inT, nI_add, bI_eq0, bI_eq1, not_true_eq_false, not_false_eq_true, true_implies, false_implies, implies_true, and_true, Bool.not_eq_false, Bool.not_eq_true, Nat.reduceEqDiff, Nat.reduceLeDiff, Classical.not_not, List.length_cons, List.length_nil, Int.reduceAdd, z_cast, Nat.reducePow, false_or, Nat.reduceLT, Nat.sub_zero, Nat.le_refl, true_and, ↓reduceIte, iteP, Bool.true_eq_false, fm, z1, z2, z3]
        exact bad (by rw [decide_eq_false (by rw [n_lt (by omega) (by omega)]; exact z2), Bool.and_false])
      have z3 : ¬ c' ≤ m' := by omega
      have e1 : isS A.1 (nI m') 0 = true := by simp [isS, n_cl (show m' < 2147483648 by omega), z1, h2]
      rw [h1, e1, decide_eq_true (show nI m' < nI c' by rw [n_lt (by omega) (by omega)]; exact z2), Bool.and_self, Bool.and_self, if_pos rfl, n_cl (by omega), n_cl (by omega)] at hK
      by_cases z4 : A.1 5 c' = 0
      · rw [if_neg (fun z => by omega)] at hK
        simp (disch := omega) only [n_eq, n_lt, n_le, n_cl, n_inT, nI_add, bI_eq0, bI_eq1, not_true_eq_false, not_false_eq_true, true_implies, false_implies, implies_true, and_true, Bool.not_eq_false, Bool.not_eq_true, Nat.reduceEqDiff, Nat.reduceLeDiff, Classical.not_not, List.length_cons, List.length_nil, Int.reduceAdd, z_cast, Nat.reducePow, false_or, Nat.reduceLT, Nat.sub_zero, Nat.le_refl, true_and, ↓reduceIte, iteP, Bool.true_eq_false, fm, fc, z1, z2, z3, z4]
        exact hK σ hM FrM.rfl'
      by_cases z5 : A.1 5 m' = 0
      · rw [if_neg (fun z => by omega)] at hK
        simp (disch := omega) only [n_eq, n_lt, n_le, n_cl, n_inT, nI_add, bI_eq0, bI_eq1, not_true_eq_false, not_false_eq_true, true_implies, false_implies, implies_true, and_true, Bool.not_eq_false, Bool.not_eq_true, Nat.reduceEqDiff, Nat.reduceLeDiff, Classical.not_not, List.length_cons, List.length_nil, Int.reduceAdd, z_cast, Nat.reducePow, false_or, Nat.reduceLT, Nat.sub_zero, Nat.le_refl, true_and, ↓reduceIte, iteP, Bool.true_eq_false, fm, fc, z1, z2, z3, z4, z5]
        exact hK σ hM FrM.rfl'
      rw [if_pos (by omega)] at hK
      simp (disch := omega) only [n_eq, n_lt, n_le, n_cl, n_inT, nI_add, bI_eq0, bI_eq1, not_true_eq_false, not_false_eq_true, true_implies, false_implies, implies_true, and_true, Bool.not_eq_false, Bool.not_eq_true, Nat.reduceEqDiff, Nat.reduceLeDiff, Classical.not_not, List.length_cons, List.length_nil, Int.reduceAdd, z_cast, Nat.reducePow, false_or, Nat.reduceLT, Nat.sub_zero, Nat.le_refl, true_and, ↓reduceIte, iteP, Bool.true_eq_false, fm, fc, z1, z2, z3, z4, z5]
      exact hK _ (hM.es (FrN.rfl'.wr (by decide) (by decide)) (Wf_par hW (Or.inl ⟨rfl, rfl⟩) z2 z1) (ME_par hE (Or.inl rfl))) (FrM.rfl'.wr (by decide))
theorem M_god {l : Launch} {A : AS} {p c : Int32} {σ : St} {K : Int32 → St → Prop} (hM : MX A σ) (hK : ∀ σ', MX (op_god A p c).2 σ' → FrM σ σ' → K (op_god A p c).1 σ') : CallAt l 124 [.ref 900, .int p, .int c] σ K := by
  have hW := hM.1.1
  have hE := hM.2.1
  have hn := hW.1
  unfold op_god at hK
  rcases Classical.propComplete (c = p) with g | g <;> rcases Classical.propComplete (c = nI 12) with g2 | g2
  all_goals
    refine CallAt.of (k := 124) (cd := k_X6_god) ok_X6_god (by decide) rfl rfl rfl ?_
    show V _ i_X6_god k_X6_god 0 [.ref 900, .int p, .int c, .null] [] _ _
    refine V_run ok_X6_god 60 0 ?_
    simp (disch := omega) only [eng, c_X6_god, r_X6_god, tbl, true_and, Nat.reduceAdd, Nat.reduceLT, ↓reduceIte, n_eq, n_lt, n_le, n_cl, n_inT, nI_add, bI_eq0, bI_eq1, not_true_eq_false, not_false_eq_true, true_implies, false_implies, implies_true, and_true, Bool.not_eq_false, Bool.not_eq_true, Nat.reduceEqDiff, Nat.reduceLeDiff, Classical.not_not, List.length_cons, List.length_nil, Int.reduceAdd, z_cast, Nat.reducePow, false_or, Nat.reduceLT, Nat.sub_zero, Nat.le_refl, g, g2]
    try simp only [iteP, Classical.not_not, Bool.not_eq_false, Bool.not_eq_true]
    refine m_isOne hE.1 hn ?_
    cases h1 : inB p (A.1 12 0)
    case false =>
      rw [h1] at hK
      simp (disch := omega) only [n_eq, n_lt, n_le, n_cl, n_inT, nI_add, bI_eq0, bI_eq1, not_true_eq_false, not_false_eq_true, true_implies, false_implies, implies_true, and_true, Bool.not_eq_false, Bool.not_eq_true, Nat.reduceEqDiff, Nat.reduceLeDiff, Classical.not_not, List.length_cons, List.length_nil, Int.reduceAdd, z_cast, Nat.reducePow, false_or, Nat.reduceLT, Nat.sub_zero, Nat.le_refl, true_and, ↓reduceIte, iteP, Bool.false_eq_true]
      exact hK σ hM FrM.rfl'
    rw [h1] at hK
    simp only [ne_eq, g, g2, not_true_eq_false, not_false_eq_true, decide_false, decide_true, Bool.and_false, Bool.false_and, Bool.true_and, Bool.true_or, Bool.false_or, Bool.false_eq_true, if_false, if_true] at hK
    simp (disch := omega) only [n_eq, n_lt, n_le, n_cl, n_inT, nI_add, bI_eq0, bI_eq1, not_true_eq_false, not_false_eq_true, true_implies, false_implies, implies_true, and_true, Bool.not_eq_false, Bool.not_eq_true, Nat.reduceEqDiff, Nat.reduceLeDiff, Classical.not_not, List.length_cons, List.length_nil, Int.reduceAdd, z_cast, Nat.reducePow, false_or, Nat.reduceLT, Nat.sub_zero, Nat.le_refl, true_and, ↓reduceIte, iteP, Bool.true_eq_false]
  · exact hK σ hM FrM.rfl'
  · refine m_isOne hE.1 hn ?_
    cases h2 : inB c (A.1 12 0)
    all_goals
      simp (disch := omega) only [n_eq, n_lt, n_le, n_cl, n_inT, nI_add, bI_eq0, bI_eq1, not_true_eq_false, not_false_eq_true, true_implies, false_implies, implies_true, and_true, Bool.not_eq_false, Bool.not_eq_true, Nat.reduceEqDiff, Nat.reduceLeDiff, Classical.not_not, List.length_cons, List.length_nil, Int.reduceAdd, z_cast, Nat.reducePow, false_or, Nat.reduceLT, Nat.sub_zero, Nat.le_refl, true_and, ↓reduceIte, iteP, Bool.true_eq_false, Bool.false_eq_true, g]
      exact hK σ hM FrM.rfl'
  · have g2 : c = nI 12 := of_eq_true g2
    subst g2
    obtain ⟨p', hp, rfl⟩ := inB_of h1
    have fp := (hE.2.2.2.1 p' hp).2.2.2.2.1
    have hp12 := p12 hW hp
    rw [n_cl (by omega), n_cl (by omega)] at hK
    simp (disch := omega) only [n_eq, n_lt, n_le, n_cl, n_inT, nI_add, bI_eq0, bI_eq1, not_true_eq_false, not_false_eq_true, true_implies, false_implies, implies_true, and_true, Bool.not_eq_false, Bool.not_eq_true, Nat.reduceEqDiff, Nat.reduceLeDiff, Classical.not_not, List.length_cons, List.length_nil, Int.reduceAdd, z_cast, Nat.reducePow, false_or, Nat.reduceLT, Nat.sub_zero, Nat.le_refl, true_and, ↓reduceIte, iteP, fp, g]
    exact hK _ (hM.es (FrN.rfl'.wr (by decide) (by decide)) (Wf_god hW (Or.inl rfl)) (ME_par hE (Or.inr (Or.inr rfl)))) (FrM.rfl'.wr (by decide))
  · refine m_isOne hE.1 hn ?_
    cases h2 : inB c (A.1 12 0)
    · rw [h2] at hK
      simp (disch := omega) only [n_eq, n_lt, n_le, n_cl, n_inT, nI_add, bI_eq0, bI_eq1, not_true_eq_false, not_false_eq_true, true_implies, false_implies, implies_true, and_true, Bool.not_eq_false, Bool.not_eq_true, Nat.reduceEqDiff, Nat.reduceLeDiff, Classical.not_not, List.length_cons, List.length_nil, Int.reduceAdd, z_cast, Nat.reducePow, false_or, Nat.reduceLT, Nat.sub_zero, Nat.le_refl, true_and, ↓reduceIte, iteP, Bool.false_eq_true]
      exact hK σ hM FrM.rfl'
    · rw [h2, if_pos rfl] at hK
      obtain ⟨p', hp, rfl⟩ := inB_of h1
      obtain ⟨c', hc, rfl⟩ := inB_of h2
      have fp := (hE.2.2.2.1 p' hp).2.2.2.2.1
      have hp12 := p12 hW hp
      have hc12 := p12 hW hc
      rw [n_cl (by omega), n_cl (by omega)] at hK
      have g' : ¬ c' = p' := by have := of_eq_false g; rwa [n_eq (by omega) (by omega)] at this
      simp (disch := omega) only [n_eq, n_lt, n_le, n_cl, n_inT, nI_add, bI_eq0, bI_eq1, not_true_eq_false, not_false_eq_true, true_implies, false_implies, implies_true, and_true, Bool.not_eq_false, Bool.not_eq_true, Nat.reduceEqDiff, Nat.reduceLeDiff, Classical.not_not, List.length_cons, List.length_nil, Int.reduceAdd, z_cast, Nat.reducePow, false_or, Nat.reduceLT, Nat.sub_zero, Nat.le_refl, true_and, ↓reduceIte, iteP, Bool.true_eq_false, fp, g']
      exact hK _ (hM.es (FrN.rfl'.wr (by decide) (by decide)) (Wf_god hW (Or.inr ⟨hc, g'⟩)) (ME_par hE (Or.inr (Or.inr rfl)))) (FrM.rfl'.wr (by decide))
theorem lp_mhouse (l : Launch) {x : Int32} {E : Es} {σ : St} {K : Int32 → St → Prop} (hW : Wf E) (hE : ME E σ) : ∀ (n h : Nat), h < n → h < E 12 0 → E 0 h = 0 → K (nI (faU E n h)) σ → ∀ v : Value, V l i_X6_houseOf k_X6_houseOf 4 [.ref 900, .int x, .int (nI h), .int (nI 1), v] [] σ K
  | 0, h, hn, _, _, _, _ => absurd hn (Nat.not_lt_zero h)
  | n + 1, h, hn, hh, h0, hK, v => by
    have hh12 := p12 hW hh
    have fh := hE.2.2.2.1 h hh
    have f12 := fa12 hW hh
    unfold faU at hK
    by_cases z : E 1 h = 12
    · rw [if_pos z] at hK
      refine V_run ok_X6_houseOf 60 4 ?_
      simp (disch := omega) only [eng, c_X6_houseOf, r_X6_houseOf, tbl, true_and, Nat.reduceAdd, Nat.reduceLT, ↓reduceIte, n_eq, n_lt, n_le, n_cl, n_inT, nI_add, bI_eq0, bI_eq1, not_true_eq_false, not_false_eq_true, true_implies, false_implies, implies_true, and_true, Bool.not_eq_false, Bool.not_eq_true, Nat.reduceEqDiff, Nat.reduceLeDiff, Classical.not_not, List.length_cons, List.length_nil, Int.reduceAdd, z_cast, Nat.reducePow, false_or, Nat.reduceLT, Nat.sub_zero, Nat.le_refl, fh, h0, z]
      try simp only [iteP, Classical.not_not, Bool.not_eq_false, Bool.not_eq_true]
      refine V_run ok_X6_houseOf 60 4 ?_
      simp (disch := omega) only [eng, c_X6_houseOf, r_X6_houseOf, tbl, true_and, Nat.reduceAdd, Nat.reduceLT, ↓reduceIte, n_eq, n_lt, n_le, n_cl, n_inT, nI_add, bI_eq0, bI_eq1, not_true_eq_false, not_false_eq_true, true_implies, false_implies, implies_true, and_true, Bool.not_eq_false, Bool.not_eq_true, Nat.reduceEqDiff, Nat.reduceLeDiff, Classical.not_not, List.length_cons, List.length_nil, Int.reduceAdd, z_cast, Nat.reducePow, false_or, Nat.reduceLT, Nat.sub_zero, Nat.le_refl]
      try simp only [iteP, Classical.not_not, Bool.not_eq_false, Bool.not_eq_true]
      exact hK
    · rw [if_neg z] at hK
      have w := (hW.2.2.2.1 h hh).2.2.1
      have w2 : E 1 h < h ∧ E 0 (E 1 h) = 0 := by rcases w with q | q; exact absurd q z; exact q
      refine V_run ok_X6_houseOf 60 4 ?_
      simp (disch := omega) only [eng, c_X6_houseOf, r_X6_houseOf, tbl, true_and, Nat.reduceAdd, Nat.reduceLT, ↓reduceIte, n_eq, n_lt, n_le, n_cl, n_inT, nI_add, bI_eq0, bI_eq1, not_true_eq_false, not_false_eq_true, true_implies, false_implies, implies_true, and_true, Bool.not_eq_false, Bool.not_eq_true, Nat.reduceEqDiff, Nat.reduceLeDiff, Classical.not_not, List.length_cons, List.length_nil, Int.reduceAdd, z_cast, Nat.reducePow, false_or, Nat.reduceLT, Nat.sub_zero, Nat.le_refl, fh, h0, z]
      try simp only [iteP, Classical.not_not, Bool.not_eq_false, Bool.not_eq_true]
      exact lp_mhouse l hW hE n (E 1 h) (by omega) (by omega) w2.2 hK _
theorem faU_st {E : Es} (hW : Wf E) : ∀ (n h : Nat), h < n → h < E 12 0 → ∀ m, n ≤ m → faU E m h = faU E n h
  | 0, h, hn, _, _, _ => absurd hn (Nat.not_lt_zero h)
  | n + 1, h, hn, hh, m, hm => by
    obtain ⟨m', rfl⟩ : ∃ m', m = m' + 1 := ⟨m - 1, by omega⟩
    unfold faU
    by_cases z : E 1 h = 12
    · rw [if_pos z, if_pos z]
    · rw [if_neg z, if_neg z]
      have w := (hW.2.2.2.1 h hh).2.2.1
      have w2 : E 1 h < h := by rcases w with q | q; exact absurd q z; exact q.1
      exact faU_st hW n (E 1 h) (by omega) (by omega) m' (by omega)
theorem m_house {l : Launch} {p : Nat} {E : Es} {σ : St} {K : Int32 → St → Prop} (hW : Wf E) (hE : ME E σ) (hp : p < E 12 0) (hK : K (nI (hous E p)) σ) : CallAt l 125 [.ref 900, .int (nI p)] σ K := by
  have hp12 := p12 hW hp
  have fp := hE.2.2.2.1 p hp
  have wp := hW.2.2.2.1 p hp
  have s12 := sp12 hW hp
  have f12 := fa12 hW hp
  have hn := hW.1
  unfold hous at hK
  refine CallAt.of (k := 125) (cd := k_X6_houseOf) ok_X6_houseOf (by decide) rfl rfl rfl ?_
  show V _ i_X6_houseOf k_X6_houseOf 0 [.ref 900, .int (nI p), .null, .null, .null] [] _ _
  refine V_run ok_X6_houseOf 30 0 ?_
  simp (disch := omega) only [eng, c_X6_houseOf, r_X6_houseOf, tbl, true_and, Nat.reduceAdd, Nat.reduceLT, ↓reduceIte, n_eq, n_lt, n_le, n_cl, n_inT, nI_add, bI_eq0, bI_eq1, not_true_eq_false, not_false_eq_true, true_implies, false_implies, implies_true, and_true, Bool.not_eq_false, Bool.not_eq_true, Nat.reduceEqDiff, Nat.reduceLeDiff, Classical.not_not, List.length_cons, List.length_nil, Int.reduceAdd, z_cast, Nat.reducePow, false_or, Nat.reduceLT, Nat.sub_zero, Nat.le_refl]
  try simp only [iteP, Classical.not_not, Bool.not_eq_false, Bool.not_eq_true]
  by_cases h0 : E 0 p = 0
  · rw [if_neg (by omega)] at hK
    exact lp_mhouse l hW hE 12 p hp12 hp h0 hK _
  have h1 : E 0 p = 1 := by have := wp.1; omega
  by_cases h3 : E 3 p = 12
  · rw [if_neg (fun z => z.2 h3)] at hK
    unfold faU at hK
    by_cases z : E 1 p = 12
    · rw [if_pos z] at hK
      refine V_run ok_X6_houseOf 60 4 ?_
      simp (disch := omega) only [eng, c_X6_houseOf, r_X6_houseOf, tbl, true_and, Nat.reduceAdd, Nat.reduceLT, ↓reduceIte, n_eq, n_lt, n_le, n_cl, n_inT, nI_add, bI_eq0, bI_eq1, not_true_eq_false, not_false_eq_true, true_implies, false_implies, implies_true, and_true, Bool.not_eq_false, Bool.not_eq_true, Nat.reduceEqDiff, Nat.reduceLeDiff, Classical.not_not, List.length_cons, List.length_nil, Int.reduceAdd, z_cast, Nat.reducePow, false_or, Nat.reduceLT, Nat.sub_zero, Nat.le_refl, fp, h1, h3, z]
      try simp only [iteP, Classical.not_not, Bool.not_eq_false, Bool.not_eq_true]
      refine V_run ok_X6_houseOf 60 4 ?_
      simp (disch := omega) only [eng, c_X6_houseOf, r_X6_houseOf, tbl, true_and, Nat.reduceAdd, Nat.reduceLT, ↓reduceIte, n_eq, n_lt, n_le, n_cl, n_inT, nI_add, bI_eq0, bI_eq1, not_true_eq_false, not_false_eq_true, true_implies, false_implies, implies_true, and_true, Bool.not_eq_false, Bool.not_eq_true, Nat.reduceEqDiff, Nat.reduceLeDiff, Classical.not_not, List.length_cons, List.length_nil, Int.reduceAdd, z_cast, Nat.reducePow, false_or, Nat.reduceLT, Nat.sub_zero, Nat.le_refl]
      try simp only [iteP, Classical.not_not, Bool.not_eq_false, Bool.not_eq_true]
      exact hK
    · rw [if_neg z] at hK
      have w2 : E 1 p < p ∧ E 0 (E 1 p) = 0 := by rcases wp.2.2.1 with q | q; exact absurd q z; exact q
      refine V_run ok_X6_houseOf 60 4 ?_
      simp (disch := omega) only [eng, c_X6_houseOf, r_X6_houseOf, tbl, true_and, Nat.reduceAdd, Nat.reduceLT, ↓reduceIte, n_eq, n_lt, n_le, n_cl, n_inT, nI_add, bI_eq0, bI_eq1, not_true_eq_false, not_false_eq_true, true_implies, false_implies, implies_true, and_true, Bool.not_eq_false, Bool.not_eq_true, Nat.reduceEqDiff, Nat.reduceLeDiff, Classical.not_not, List.length_cons, List.length_nil, Int.reduceAdd, z_cast, Nat.reducePow, false_or, Nat.reduceLT, Nat.sub_zero, Nat.le_refl, fp, h1, h3, z]
      try simp only [iteP, Classical.not_not, Bool.not_eq_false, Bool.not_eq_true]
      exact lp_mhouse l hW hE 11 (E 1 p) (by omega) (by omega) w2.2 hK _
  · rw [if_pos ⟨h1, h3⟩] at hK
    have w2 : E 3 p < E 12 0 ∧ E 0 (E 3 p) ≠ E 0 p := by rcases wp.2.2.2.2.1 with q | q; exact absurd q h3; exact q
    have w3 := (hW.2.2.2.1 (E 3 p) w2.1).1
    refine V_run ok_X6_houseOf 60 4 ?_
    simp (disch := omega) only [eng, c_X6_houseOf, r_X6_houseOf, tbl, true_and, Nat.reduceAdd, Nat.reduceLT, ↓reduceIte, n_eq, n_lt, n_le, n_cl, n_inT, nI_add, bI_eq0, bI_eq1, not_true_eq_false, not_false_eq_true, true_implies, false_implies, implies_true, and_true, Bool.not_eq_false, Bool.not_eq_true, Nat.reduceEqDiff, Nat.reduceLeDiff, Classical.not_not, List.length_cons, List.length_nil, Int.reduceAdd, z_cast, Nat.reducePow, false_or, Nat.reduceLT, Nat.sub_zero, Nat.le_refl, fp, h1, h3]
    try simp only [iteP, Classical.not_not, Bool.not_eq_false, Bool.not_eq_true]
    exact lp_mhouse l hW hE 12 (E 3 p) (by omega) w2.1 (by omega) hK _
