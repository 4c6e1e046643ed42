theorem m_isParent {l : Launch} {E : Es} {x : Int32} {w : Nat} {σ : St} {K : Int32 → St → Prop} (hW : Wf E) (hE : ME E σ) (hw : w ≤ 1) (hK : K (bI (pOk E x w)) σ) : CallAt l 115 [.ref 900, .int x, .int (nI w)] σ K := by
  unfold pOk isS at hK
  rcases Classical.propComplete (x = nI 12) with g | g
  · have := of_eq_true g
    subst this
    refine CallAt.of (k := 115) (cd := k_X6_isParent) ok_X6_isParent (by decide) rfl rfl rfl ?_
    show V _ i_X6_isParent k_X6_isParent 0 [.ref 900, .int (nI 12), .int (nI w)] [] _ _
    refine V_run ok_X6_isParent 50 0 ?_
    simp (disch := omega) only [eng, c_X6_isParent, r_X6_isParent, tbl, true_and, Nat.reduceAdd, Nat.reduceLT, ↓reduceIte, n_eq, n_lt, n_le, n_cl, n_inT, nI_add, bI_eq0, bI_eq1, not_true_eq_false, not_false_eq_true, true_implies, false_implies, implies_true, and_true, Bool.not_eq_false, Bool.not_eq_true, Nat.reduceEqDiff, Nat.reduceLeDiff, Classical.not_not, List.length_cons, List.length_nil, Int.reduceAdd, z_cast, Nat.reducePow, false_or, Nat.reduceLT, Nat.sub_zero, Nat.le_refl]
    try simp only [iteP, Classical.not_not, Bool.not_eq_false, Bool.not_eq_true]
    rw [decide_eq_true rfl, Bool.true_or] at hK
    exact hK
  · rw [decide_eq_false (of_eq_false g), Bool.false_or] at hK
    refine CallAt.of (k := 115) (cd := k_X6_isParent) ok_X6_isParent (by decide) rfl rfl rfl ?_
    show V _ i_X6_isParent k_X6_isParent 0 [.ref 900, .int x, .int (nI w)] [] _ _
    refine V_run ok_X6_isParent 50 0 ?_
    simp (disch := omega) only [eng, c_X6_isParent, r_X6_isParent, tbl, true_and, Nat.reduceAdd, Nat.reduceLT, ↓reduceIte, n_eq, n_lt, n_le, n_cl, n_inT, nI_add, bI_eq0, bI_eq1, not_true_eq_false, not_false_eq_true, true_implies, false_implies, implies_true, and_true, Bool.not_eq_false, Bool.not_eq_true, Nat.reduceEqDiff, Nat.reduceLeDiff, Classical.not_not, List.length_cons, List.length_nil, Int.reduceAdd, z_cast, Nat.reducePow, false_or, Nat.reduceLT, Nat.sub_zero, Nat.le_refl, g]
    try simp only [iteP, Classical.not_not, Bool.not_eq_false, Bool.not_eq_true]
    refine m_isOne hE.1 hW.1 ?_
    cases h : inB x (E 12 0) with
    | false =>
      rw [h] at hK
      simp (disch := omega) only [n_eq, n_lt, n_le, n_cl, n_inT, nI_add, bI_eq0, bI_eq1, not_true_eq_false, not_false_eq_true, true_implies, false_implies, implies_true, and_true, Bool.not_eq_false, Bool.not_eq_true, Nat.reduceEqDiff, Nat.reduceLeDiff, Classical.not_not, List.length_cons, List.length_nil, Int.reduceAdd, z_cast, Nat.reducePow, false_or, Nat.reduceLT, Nat.sub_zero, Nat.le_refl, true_and, ↓reduceIte, iteP, Bool.false_eq_true]
      exact hK
    | true =>
      obtain ⟨p, hp, rfl⟩ := inB_of h
      have hp12 := p12 hW hp
      have fp := (hE.2.2.2.1 p hp).1
      have w5 := (hW.2.2.2.1 p hp).1
      rw [h, n_cl (by omega), Bool.true_and] at hK
      by_cases z : E 0 p = w
      · rw [show (E 0 p == w) = true by simpa using z] at hK
        simp (disch := omega) only [n_eq, n_lt, n_le, n_cl, n_inT, nI_add, bI_eq0, bI_eq1, not_true_eq_false, not_false_eq_true, true_implies, false_implies, implies_true, and_true, Bool.not_eq_false, Bool.not_eq_true, Nat.reduceEqDiff, Nat.reduceLeDiff, Classical.not_not, List.length_cons, List.length_nil, Int.reduceAdd, z_cast, Nat.reducePow, false_or, Nat.reduceLT, Nat.sub_zero, Nat.le_refl, true_and, ↓reduceIte, iteP, Bool.true_eq_false, fp, z]
        exact hK
      · rw [show (E 0 p == w) = false by simpa using z] at hK
        simp (disch := omega) only [n_eq, n_lt, n_le, n_cl, n_inT, nI_add, bI_eq0, bI_eq1, not_true_eq_false, not_false_eq_true, true_implies, false_implies, implies_true, and_true, Bool.not_eq_false, Bool.not_eq_true, Nat.reduceEqDiff, Nat.reduceLeDiff, Classical.not_not, List.length_cons, List.length_nil, Int.reduceAdd, z_cast, Nat.reducePow, false_or, Nat.reduceLT, Nat.sub_zero, Nat.le_refl, true_and, ↓reduceIte, iteP, Bool.true_eq_false, fp, z]
        exact hK
theorem rI01 (s : Int32) : rI s 0 1 = decide (s = nI 0 ∨ s = nI 1) := by
  unfold rI
  congr 1
  apply propext
  rw [i_eq, i_eq, nI_nn 0 (by decide), nI_nn 1 (by decide)]
  omega
theorem M_person {l : Launch} {A : AS} {s f m : Int32} {σ : St} {K : Int32 → St → Prop} (hM : MX A σ) (hK : ∀ σ', MX (op_person A s f m).2 σ' → FrM σ σ' → K (op_person A s f m).1 σ') : CallAt l 116 [.ref 900, .int s, .int f, .int m] σ K := by
  have hW := hM.1.1
  have hE := hM.2.1
  have hn := hW.1
  have bad : (decide (s = nI 0 ∨ s = nI 1) && pOk A.1 f 0 && pOk A.1 m 1) = false → K (-1) σ := fun h => by
    have := hK σ
    unfold op_person at this
    rw [h] at this
    exact this hM FrM.rfl'
  have e6 := hE.1
  refine CallAt.of (k := 116) (cd := k_X6_person) ok_X6_person (by decide) rfl rfl rfl ?_
  show V _ i_X6_person k_X6_person 0 [.ref 900, .int s, .int f, .int m] [] _ _
  refine V_run ok_X6_person 60 0 ?_
  simp (disch := omega) only [eng, c_X6_person, r_X6_person, tbl, true_and, Nat.reduceAdd, Nat.reduceLT, ↓reduceIte, n_eq, n_lt, n_le, n_cl, n_inT, nI_add, bI_eq0, bI_eq1, not_true_eq_false, not_false_eq_true, true_implies, false_implies, implies_true, and_true, Bool.not_eq_false, Bool.not_eq_true, Nat.reduceEqDiff, Nat.reduceLeDiff, Classical.not_not, List.length_cons, List.length_nil, Int.reduceAdd, z_cast, Nat.reducePow, false_or, Nat.reduceLT, Nat.sub_zero, Nat.le_refl, e6]
  try simp only [iteP, Classical.not_not, Bool.not_eq_false, Bool.not_eq_true]
  refine m_rI (a := 0) (n := 1) rfl rfl ?_
  rw [rI01]
  cases h1 : decide (s = nI 0 ∨ s = nI 1) with
  | false =>
    simp (disch := omega) only [n_eq, n_lt, n_le, n_cl, n_inT, nI_add, bI_eq0, bI_eq1, not_true_eq_false, not_false_eq_true, true_implies, false_implies, implies_true, and_true, Bool.not_eq_false, Bool.not_eq_true, Nat.reduceEqDiff, Nat.reduceLeDiff, Classical.not_not, List.length_cons, List.length_nil, Int.reduceAdd, z_cast, Nat.reducePow, false_or, Nat.reduceLT, Nat.sub_zero, Nat.le_refl, true_and, ↓reduceIte, iteP, Bool.false_eq_true]
    exact bad (by rw [h1]; rfl)
  | true =>
    simp (disch := omega) only [n_eq, n_lt, n_le, n_cl, n_inT, nI_add, bI_eq0, bI_eq1, not_true_eq_false, not_false_eq_true, true_implies, false_implies, implies_true, and_true, Bool.not_eq_false, Bool.not_eq_true, Nat.reduceEqDiff, Nat.reduceLeDiff, Classical.not_not, List.length_cons, List.length_nil, Int.reduceAdd, z_cast, Nat.reducePow, false_or, Nat.reduceLT, Nat.sub_zero, Nat.le_refl, true_and, ↓reduceIte, iteP, Bool.true_eq_false]
    refine m_isParent hW hE (by decide) ?_
    cases h2 : pOk A.1 f 0 with
    | false =>
      simp (disch := omega) only [n_eq, n_lt, n_le, n_cl, n_inT, nI_add, bI_eq0, bI_eq1, not_true_eq_false, not_false_eq_true, true_implies, false_implies, implies_true, and_true, Bool.not_eq_false, Bool.not_eq_true, Nat.reduceEqDiff, Nat.reduceLeDiff, Classical.not_not, List.length_cons, List.length_nil, Int.reduceAdd, z_cast, Nat.reducePow, false_or, Nat.reduceLT, Nat.sub_zero, Nat.le_refl, true_and, ↓reduceIte, iteP, Bool.false_eq_true]
      exact bad (by rw [h1, h2]; rfl)
    | true =>
      simp (disch := omega) only [n_eq, n_lt, n_le, n_cl, n_inT, nI_add, bI_eq0, bI_eq1, not_true_eq_false, not_false_eq_true, true_implies, false_implies, implies_true, and_true, Bool.not_eq_false, Bool.not_eq_true, Nat.reduceEqDiff, Nat.reduceLeDiff, Classical.not_not, List.length_cons, List.length_nil, Int.reduceAdd, z_cast, Nat.reducePow, false_or, Nat.reduceLT, Nat.sub_zero, Nat.le_refl, true_and, ↓reduceIte, iteP, Bool.true_eq_false]
      refine m_isParent hW hE (by decide) ?_
      cases h3 : pOk A.1 m 1 with
      | false =>
        simp (disch := omega) only [n_eq, n_lt, n_le, n_cl, n_inT, nI_add, bI_eq0, bI_eq1, not_true_eq_false, not_false_eq_true, true_implies, false_implies, implies_true, and_true, Bool.not_eq_false, Bool.not_eq_true, Nat.reduceEqDiff, Nat.reduceLeDiff, Classical.not_not, List.length_cons, List.length_nil, Int.reduceAdd, z_cast, Nat.reducePow, false_or, Nat.reduceLT, Nat.sub_zero, Nat.le_refl, true_and, ↓reduceIte, iteP, Bool.false_eq_true]
        exact bad (by rw [h1, h2, h3]; rfl)
      | true =>
        unfold op_person at hK
        rw [h1, h2, h3, Bool.and_self, Bool.and_self, if_pos rfl] at hK
        by_cases hz : A.1 12 0 = 12
        · rw [if_pos (by omega)] at hK
          simp (disch := omega) only [n_eq, n_lt, n_le, n_cl, n_inT, nI_add, bI_eq0, bI_eq1, not_true_eq_false, not_false_eq_true, true_implies, false_implies, implies_true, and_true, Bool.not_eq_false, Bool.not_eq_true, Nat.reduceEqDiff, Nat.reduceLeDiff, Classical.not_not, List.length_cons, List.length_nil, Int.reduceAdd, z_cast, Nat.reducePow, false_or, Nat.reduceLT, Nat.sub_zero, Nat.le_refl, true_and, ↓reduceIte, iteP, Bool.true_eq_false, e6, hz]
          exact hK σ hM FrM.rfl'
        · rw [if_neg (by omega)] at hK
          obtain ⟨f', hf1, rfl, hf2, hf3⟩ := pOk_of hn h2
          obtain ⟨m', hm1, rfl, hm2, hm3⟩ := pOk_of hn h3
          obtain ⟨s', hs1, rfl, hs2⟩ : ∃ s' : Nat, s' ≤ 1 ∧ s = nI s' ∧ s.toNatClampNeg = s' := by
            rcases of_decide_eq_true h1 with rfl | rfl
            · exact ⟨0, by omega, rfl, n_cl (by decide)⟩
            · exact ⟨1, by omega, rfl, n_cl (by decide)⟩
          rw [hf2, hm2, hs2] at hK
          simp (disch := omega) only [n_eq, n_lt, n_le, n_cl, n_inT, nI_add, bI_eq0, bI_eq1, not_true_eq_false, not_false_eq_true, true_implies, false_implies, implies_true, and_true, Bool.not_eq_false, Bool.not_eq_true, Nat.reduceEqDiff, Nat.reduceLeDiff, Classical.not_not, List.length_cons, List.length_nil, Int.reduceAdd, z_cast, Nat.reducePow, false_or, Nat.reduceLT, Nat.sub_zero, Nat.le_refl, true_and, ↓reduceIte, iteP, Bool.true_eq_false, e6, hz]
          refine m_add hW hE (by omega) (fun σ' hE' hf' => ?_)
          have e6' := hE'.1
          rw [show addE A.1 s' f' m' 12 0 = A.1 12 0 + 1 by simp [addE]] at e6'
          have e9 := pk_sub (a := A.1 12 0 + 1) (b := 1) (by omega)
          simp (disch := omega) only [n_eq, n_lt, n_le, n_cl, n_inT, nI_add, bI_eq0, bI_eq1, not_true_eq_false, not_false_eq_true, true_implies, false_implies, implies_true, and_true, Bool.not_eq_false, Bool.not_eq_true, Nat.reduceEqDiff, Nat.reduceLeDiff, Classical.not_not, List.length_cons, List.length_nil, Int.reduceAdd, z_cast, Nat.reducePow, false_or, Nat.reduceLT, Nat.sub_zero, Nat.le_refl, true_and, ↓reduceIte, iteP, e6', e9, Nat.add_sub_cancel]
          exact hK σ' (hM.es hf' (Wf_addE hW (by omega) hs1 hf3 hm3) hE') hf'.m
theorem m_alike {l : Launch} {a b : Nat} {σ : St} {K : Int32 → St → Prop} (ha : a ≤ 12) (hb : b ≤ 12) (hK : K (bI (a != 12 && a == b)) σ) : CallAt l 117 [.int (nI a), .int (nI b)] σ K := by
  by_cases h1 : a = 12
  · refine CallAt.of (k := 117) (cd := k_X6_areAlike) ok_X6_areAlike (by decide) rfl rfl rfl ?_
    show V _ i_X6_areAlike k_X6_areAlike 0 [.int (nI a), .int (nI b)] [] _ _
    refine V_run ok_X6_areAlike 30 0 ?_
    simp (disch := omega) only [eng, c_X6_areAlike, r_X6_areAlike, tbl, true_and, Nat.reduceAdd, Nat.reduceLT, ↓reduceIte, n_eq, n_lt, n_le, n_cl, n_inT, nI_add, bI_eq0, bI_eq1, not_true_eq_false, not_false_eq_true, true_implies, false_implies, implies_true, and_true, Bool.not_eq_false, Bool.not_eq_true, Nat.reduceEqDiff, Nat.reduceLeDiff, Classical.not_not, List.length_cons, List.length_nil, Int.reduceAdd, z_cast, Nat.reducePow, false_or, Nat.reduceLT, Nat.sub_zero, Nat.le_refl, h1]
    try simp only [iteP, Classical.not_not, Bool.not_eq_false, Bool.not_eq_true]
    rw [show (a != 12 && a == b) = false by simp [h1]] at hK; exact hK
  · by_cases h2 : a = b
    · subst h2
      refine CallAt.of (k := 117) (cd := k_X6_areAlike) ok_X6_areAlike (by decide) rfl rfl rfl ?_
      show V _ i_X6_areAlike k_X6_areAlike 0 [.int (nI a), .int (nI a)] [] _ _
      refine V_run ok_X6_areAlike 30 0 ?_
      simp (disch := omega) only [eng, c_X6_areAlike, r_X6_areAlike, tbl, true_and, Nat.reduceAdd, Nat.reduceLT, ↓reduceIte, n_eq, n_lt, n_le, n_cl, n_inT, nI_add, bI_eq0, bI_eq1, not_true_eq_false, not_false_eq_true, true_implies, false_implies, implies_true, and_true, Bool.not_eq_false, Bool.not_eq_true, Nat.reduceEqDiff, Nat.reduceLeDiff, Classical.not_not, List.length_cons, List.length_nil, Int.reduceAdd, z_cast, Nat.reducePow, false_or, Nat.reduceLT, Nat.sub_zero, Nat.le_refl, h1]
      try simp only [iteP, Classical.not_not, Bool.not_eq_false, Bool.not_eq_true]
      rw [show (a != 12 && a == a) = true by simp [h1]] at hK; first | exact hK | exact ⟨fun _ => hK, fun z => absurd rfl z⟩
    · refine CallAt.of (k := 117) (cd := k_X6_areAlike) ok_X6_areAlike (by decide) rfl rfl rfl ?_
      show V _ i_X6_areAlike k_X6_areAlike 0 [.int (nI a), .int (nI b)] [] _ _
      refine V_run ok_X6_areAlike 30 0 ?_
      simp (disch := omega) only [eng, c_X6_areAlike, r_X6_areAlike, tbl, true_and, Nat.reduceAdd, Nat.reduceLT, ↓reduceIte, n_eq, n_lt, n_le, n_cl, n_inT, nI_add, bI_eq0, bI_eq1, not_true_eq_false, not_false_eq_true, true_implies, false_implies, implies_true, and_true, Bool.not_eq_false, Bool.not_eq_true, Nat.reduceEqDiff, Nat.reduceLeDiff, Classical.not_not, List.length_cons, List.length_nil, Int.reduceAdd, z_cast, Nat.reducePow, false_or, Nat.reduceLT, Nat.sub_zero, Nat.le_refl, h1, h2]
      try simp only [iteP, Classical.not_not, Bool.not_eq_false, Bool.not_eq_true]
      rw [show (a != 12 && a == b) = false by simp [h2]] at hK; exact hK
theorem m_sib {l : Launch} {a c : Nat} {E : Es} {σ : St} {K : Int32 → St → Prop} (hW : Wf E) (hE : MPR E σ) (ha : a < E 12 0) (hc : c < E 12 0) (hK : K (bI (sib E a c)) σ) : CallAt l 118 [.ref 900, .int (nI a), .int (nI c)] σ K := by
  have ha12 := p12 hW ha
  have hc12 := p12 hW hc
  have fa := hE.2.2.2.1 a ha
  have fc := hE.2.2.2.1 c hc
  unfold sib at hK
  by_cases h1 : a = c
  · refine CallAt.of (k := 118) (cd := k_X6_areSiblings) ok_X6_areSiblings (by decide) rfl rfl rfl ?_
    show V _ i_X6_areSiblings k_X6_areSiblings 0 [.ref 900, .int (nI a), .int (nI c)] [] _ _
    refine V_run ok_X6_areSiblings 60 0 ?_
    simp (disch := omega) only [eng, c_X6_areSiblings, r_X6_areSiblings, tbl, true_and, Nat.reduceAdd, Nat.reduceLT, ↓reduceIte, n_eq, n_lt, n_le, n_cl, n_inT, nI_add, bI_eq0, bI_eq1, not_true_eq_false, not_false_eq_true, true_implies, false_implies, implies_true, and_true, Bool.not_eq_false, Bool.not_eq_true, Nat.reduceEqDiff, Nat.reduceLeDiff, Classical.not_not, List.length_cons, List.length_nil, Int.reduceAdd, z_cast, Nat.reducePow, false_or, Nat.reduceLT, Nat.sub_zero, Nat.le_refl, h1]
    try simp only [iteP, Classical.not_not, Bool.not_eq_false, Bool.not_eq_true]
    rw [show (a != c) = false by simp [h1]] at hK; exact hK
  · refine CallAt.of (k := 118) (cd := k_X6_areSiblings) ok_X6_areSiblings (by decide) rfl rfl rfl ?_
    show V _ i_X6_areSiblings k_X6_areSiblings 0 [.ref 900, .int (nI a), .int (nI c)] [] _ _
    refine V_run ok_X6_areSiblings 60 0 ?_
    simp (disch := omega) only [eng, c_X6_areSiblings, r_X6_areSiblings, tbl, true_and, Nat.reduceAdd, Nat.reduceLT, ↓reduceIte, n_eq, n_lt, n_le, n_cl, n_inT, nI_add, bI_eq0, bI_eq1, not_true_eq_false, not_false_eq_true, true_implies, false_implies, implies_true, and_true, Bool.not_eq_false, Bool.not_eq_true, Nat.reduceEqDiff, Nat.reduceLeDiff, Classical.not_not, List.length_cons, List.length_nil, Int.reduceAdd, z_cast, Nat.reducePow, false_or, Nat.reduceLT, Nat.sub_zero, Nat.le_refl, h1, fa, fc]
    try simp only [iteP, Classical.not_not, Bool.not_eq_false, Bool.not_eq_true]
    rw [show (a != c) = true by simp [h1], Bool.true_and] at hK
    refine m_alike (fa12 hW ha) (fa12 hW hc) ?_
    cases h2 : (E 1 a != 12 && E 1 a == E 1 c) with
    | true =>
      rw [h2] at hK
      simp (disch := omega) only [n_eq, n_lt, n_le, n_cl, n_inT, nI_add, bI_eq0, bI_eq1, not_true_eq_false, not_false_eq_true, true_implies, false_implies, implies_true, and_true, Bool.not_eq_false, Bool.not_eq_true, Nat.reduceEqDiff, Nat.reduceLeDiff, Classical.not_not, List.length_cons, List.length_nil, Int.reduceAdd, z_cast, Nat.reducePow, false_or, Nat.reduceLT, Nat.sub_zero, Nat.le_refl, true_and, ↓reduceIte, iteP, Bool.true_eq_false]
      exact hK
    | false =>
      rw [h2, Bool.false_or] at hK
      simp (disch := omega) only [n_eq, n_lt, n_le, n_cl, n_inT, nI_add, bI_eq0, bI_eq1, not_true_eq_false, not_false_eq_true, true_implies, false_implies, implies_true, and_true, Bool.not_eq_false, Bool.not_eq_true, Nat.reduceEqDiff, Nat.reduceLeDiff, Classical.not_not, List.length_cons, List.length_nil, Int.reduceAdd, z_cast, Nat.reducePow, false_or, Nat.reduceLT, Nat.sub_zero, Nat.le_refl, true_and, ↓reduceIte, iteP, Bool.false_eq_true, fa, fc]
      refine m_alike (mo12 hW ha) (mo12 hW hc) ?_
      cases h3 : (E 2 a != 12 && E 2 a == E 2 c)
      all_goals
        rw [h3] at hK
        simp (disch := omega) only [n_eq, n_lt, n_le, n_cl, n_inT, nI_add, bI_eq0, bI_eq1, not_true_eq_false, not_false_eq_true, true_implies, false_implies, implies_true, and_true, Bool.not_eq_false, Bool.not_eq_true, Nat.reduceEqDiff, Nat.reduceLeDiff, Classical.not_not, List.length_cons, List.length_nil, Int.reduceAdd, z_cast, Nat.reducePow, false_or, Nat.reduceLT, Nat.sub_zero, Nat.le_refl, true_and, ↓reduceIte, iteP, Bool.true_eq_false, Bool.false_eq_true]
        exact hK
theorem m_chi {l : Launch} {c p : Nat} {E : Es} {σ : St} {K : Int32 → St → Prop} (hW : Wf E) (hE : MPR E σ) (hc : c < E 12 0) (hp : p < E 12 0) (hK : K (bI (chi E c p)) σ) : CallAt l 119 [.ref 900, .int (nI c), .int (nI p)] σ K := by
  have hc12 := p12 hW hc
  have hp12 := p12 hW hp
  have fc := hE.2.2.2.1 c hc
  have f1 := fa12 hW hc
  have f2 := mo12 hW hc
  unfold chi at hK
  by_cases h1 : E 1 c = p
  · refine CallAt.of (k := 119) (cd := k_X6_isChild) ok_X6_isChild (by decide) rfl rfl rfl ?_
    show V _ i_X6_isChild k_X6_isChild 0 [.ref 900, .int (nI c), .int (nI p)] [] _ _
    refine V_run ok_X6_isChild 60 0 ?_
    simp (disch := omega) only [eng, c_X6_isChild, r_X6_isChild, tbl, true_and, Nat.reduceAdd, Nat.reduceLT, ↓reduceIte, n_eq, n_lt, n_le, n_cl, n_inT, nI_add, bI_eq0, bI_eq1, not_true_eq_false, not_false_eq_true, true_implies, false_implies, implies_true, and_true, Bool.not_eq_false, Bool.not_eq_true, Nat.reduceEqDiff, Nat.reduceLeDiff, Classical.not_not, List.length_cons, List.length_nil, Int.reduceAdd, z_cast, Nat.reducePow, false_or, Nat.reduceLT, Nat.sub_zero, Nat.le_refl, h1, fc]
    try simp only [iteP, Classical.not_not, Bool.not_eq_false, Bool.not_eq_true]
    rw [show (E 1 c == p) = true by simp [h1], Bool.true_or] at hK; exact hK
  · rw [show (E 1 c == p) = false by simp [h1], Bool.false_or] at hK
    by_cases h2 : E 2 c = p
    · refine CallAt.of (k := 119) (cd := k_X6_isChild) ok_X6_isChild (by decide) rfl rfl rfl ?_
      show V _ i_X6_isChild k_X6_isChild 0 [.ref 900, .int (nI c), .int (nI p)] [] _ _
      refine V_run ok_X6_isChild 60 0 ?_
      simp (disch := omega) only [eng, c_X6_isChild, r_X6_isChild, tbl, true_and, Nat.reduceAdd, Nat.reduceLT, ↓reduceIte, n_eq, n_lt, n_le, n_cl, n_inT, nI_add, bI_eq0, bI_eq1, not_true_eq_false, not_false_eq_true, true_implies, false_implies, implies_true, and_true, Bool.not_eq_false, Bool.not_eq_true, Nat.reduceEqDiff, Nat.reduceLeDiff, Classical.not_not, List.length_cons, List.length_nil, Int.reduceAdd, z_cast, Nat.reducePow, false_or, Nat.reduceLT, Nat.sub_zero, Nat.le_refl, h1, h2, fc]
      try simp only [iteP, Classical.not_not, Bool.not_eq_false, Bool.not_eq_true]
      rw [show (E 2 c == p) = true by simp [h2]] at hK; exact hK
    · refine CallAt.of (k := 119) (cd := k_X6_isChild) ok_X6_isChild (by decide) rfl rfl rfl ?_
      show V _ i_X6_isChild k_X6_isChild 0 [.ref 900, .int (nI c), .int (nI p)] [] _ _
      refine V_run ok_X6_isChild 60 0 ?_
      simp (disch := omega) only [eng, c_X6_isChild, r_X6_isChild, tbl, true_and, Nat.reduceAdd, Nat.reduceLT, ↓reduceIte, n_eq, n_lt, n_le, n_cl, n_inT, nI_add, bI_eq0, bI_eq1, not_true_eq_false, not_false_eq_true, true_implies, false_implies, implies_true, and_true, Bool.not_eq_false, Bool.not_eq_true, Nat.reduceEqDiff, Nat.reduceLeDiff, Classical.not_not, List.length_cons, List.length_nil, Int.reduceAdd, z_cast, Nat.reducePow, false_or, Nat.reduceLT, Nat.sub_zero, Nat.le_refl, h1, h2, fc]
      try simp only [iteP, Classical.not_not, Bool.not_eq_false, Bool.not_eq_true]
      rw [show (E 2 c == p) = false by simp [h2]] at hK; exact hK
