theorem faU_lt {E : Es} (hW : Wf E) : ∀ (n h : Nat), h < E 12 0 → faU E n h < E 12 0
  | 0, h, hh => hh
  | n + 1, h, hh => by
    unfold faU
    split
    · exact hh
    · rename_i hz
      rcases (hW.2.2.2.1 h hh).2.2.1 with q | q
      · exact absurd q hz
      · exact faU_lt hW n (E 1 h) (by omega)
theorem hous_lt {E : Es} (hW : Wf E) {p : Nat} (hp : p < E 12 0) : hous E p < E 12 0 := by
  unfold hous
  apply faU_lt hW
  split
  · rename_i h
    rcases (hW.2.2.2.1 p hp).2.2.2.2.1 with q | q
    · exact absurd q h.2
    · exact q.1
  · exact hp
theorem x_isIn {l : Launch} {b t h : Nat} {E : Es} {σ : St} {K : Int32 → St → Prop} (hb : Eb b) (hW : Wf E) (hE : XE b E σ) (ht : t < E 12 1) (hh : h < 12) (hK : K (bI (decide (E 8 t < E 12 0 ∧ hous E (E 8 t) = h))) σ) : CallAt l 14 [.ref b, .int (nI t), .int (nI h)] σ K := by
  have h12 := t12 hW ht
  have hn12 := hW.1
  have ft := hE.2.2.2.2.2.1 t ht
  have f1 := ho14 hW ht
  refine CallAt.of (k := 14) (cd := k_X0_isIn) ok_X0_isIn (by decide) rfl rfl rfl ?_
  show V _ i_X0_isIn k_X0_isIn 0 [.ref b, .int (nI t), .int (nI h)] [] _ _
  refine V_run ok_X0_isIn 60 0 ?_
  simp (disch := omega) only [eng, c_X0_isIn, r_X0_isIn, tbl, true_and, Nat.reduceAdd, Nat.reduceLT, ↓reduceIte, n_eq, n_lt, n_le, n_cl, n_inT, nI_add, bI_eq0, bI_eq1, not_true_eq_false, not_false_eq_true, true_implies, false_implies, implies_true, and_true, Bool.not_eq_false, Bool.not_eq_true, Nat.reduceEqDiff, Nat.reduceLeDiff, Classical.not_not, List.length_cons, List.length_nil, Int.reduceAdd, z_cast, Nat.reducePow, false_or, Nat.reduceLT, Nat.sub_zero, Nat.le_refl, ebT hb, ft]
  try simp only [iteP, Classical.not_not, Bool.not_eq_false, Bool.not_eq_true]
  refine x_known hb hE.1 hW.1 ?_
  rw [inB_n (by omega)]
  simp (disch := omega) only [n_eq, n_lt, n_le, n_cl, n_inT, nI_add, bI_eq0, bI_eq1, not_true_eq_false, not_false_eq_true, true_implies, false_implies, implies_true, and_true, Bool.not_eq_false, Bool.not_eq_true, Nat.reduceEqDiff, Nat.reduceLeDiff, Classical.not_not, List.length_cons, List.length_nil, Int.reduceAdd, z_cast, Nat.reducePow, false_or, Nat.reduceLT, Nat.sub_zero, Nat.le_refl, true_and, ↓reduceIte, iteP, ft, ebT hb, decide_eq_false_iff_not, decide_eq_true_eq]
  refine ⟨fun q => ?_, fun q => x_house hb hW hE q ?_⟩
  · rw [decide_eq_false (fun z => q z.1)] at hK; exact hK
  · have := hous_lt hW q
    simp (disch := omega) only [n_eq, n_lt, n_le, n_cl, n_inT, nI_add, bI_eq0, bI_eq1, not_true_eq_false, not_false_eq_true, true_implies, false_implies, implies_true, and_true, Bool.not_eq_false, Bool.not_eq_true, Nat.reduceEqDiff, Nat.reduceLeDiff, Classical.not_not, List.length_cons, List.length_nil, Int.reduceAdd, z_cast, Nat.reducePow, false_or, Nat.reduceLT, Nat.sub_zero, Nat.le_refl, true_and, ↓reduceIte, iteP]
    refine ⟨fun z => ?_, fun z => ?_⟩
    · rw [decide_eq_false (fun y => z y.2)] at hK; exact hK
    · rw [decide_eq_true ⟨q, z⟩] at hK; exact hK
/-- whether two can marry -/
def can (E : Es) (a c : Nat) : Bool := decide (a < E 12 0 ∧ c < E 12 0 ∧ E 0 a = 0 ∧ E 0 c = 1 ∧ E 5 a = 1 ∧ E 5 c = 1 ∧ E 3 a = 12 ∧ E 3 c = 12 ∧ ¬ (E 1 a ≠ 12 ∧ E 1 a = E 1 c) ∧ ¬ (E 2 a ≠ 12 ∧ E 2 a = E 2 c) ∧ E 1 c ≠ a ∧ E 2 a ≠ c)
theorem XE.sx {b : Nat} {E : Es} {σ : St} (hW : Wf E) (hE : XE b E σ) : ∀ p, p < E 12 0 → σ (b + 3) p = nI (E 0 p) ∧ E 0 p ≤ 1 := fun p hp => ⟨(hE.2.2.2.2.1 p hp).1, (hW.2.2.2.1 p hp).1⟩
theorem x_canMarry {l : Launch} {b a c : Nat} {E : Es} {σ : St} {K : Int32 → St → Prop} (hb : Eb b) (hW : Wf E) (hE : XE b E σ) (ha : a < 12) (hc : c < 12) (hK : K (bI (can E a c)) σ) : CallAt l 11 [.ref b, .int (nI a), .int (nI c)] σ K := by
  have hn12 := hW.1
  have bad : ¬ (a < E 12 0 ∧ c < E 12 0 ∧ E 0 a = 0 ∧ E 0 c = 1 ∧ E 5 a = 1 ∧ E 5 c = 1) → K (nI 0) σ := by
    intro h
    have : can E a c = false := by
      unfold can
      exact decide_eq_false (fun z => h ⟨z.1, z.2.1, z.2.2.1, z.2.2.2.1, z.2.2.2.2.1, z.2.2.2.2.2.1⟩)
    rw [this] at hK; exact hK
  refine CallAt.of (k := 11) (cd := k_X0_canMarry) ok_X0_canMarry (by decide) rfl rfl rfl ?_
  show V _ i_X0_canMarry k_X0_canMarry 0 [.ref b, .int (nI a), .int (nI c)] [] _ _
  refine V_run ok_X0_canMarry 18 0 ?_
  simp (disch := omega) only [eng, c_X0_canMarry, r_X0_canMarry, tbl, true_and, Nat.reduceAdd, Nat.reduceLT, ↓reduceIte, n_eq, n_lt, n_le, n_cl, n_inT, nI_add, bI_eq0, bI_eq1, not_true_eq_false, not_false_eq_true, true_implies, false_implies, implies_true, and_true, Bool.not_eq_false, Bool.not_eq_true, Nat.reduceEqDiff, Nat.reduceLeDiff, Classical.not_not, List.length_cons, List.length_nil, Int.reduceAdd, z_cast, Nat.reducePow, false_or, Nat.reduceLT, Nat.sub_zero, Nat.le_refl, ebT hb]
  try simp only [iteP, Classical.not_not, Bool.not_eq_false, Bool.not_eq_true]
  refine x_isOf hb hE.1 hW.1 (hE.sx hW) (by decide) ?_
  rw [inB_n (by omega), n_cl (by omega)]
  simp (disch := omega) only [n_eq, n_lt, n_le, n_cl, n_inT, nI_add, bI_eq0, bI_eq1, not_true_eq_false, not_false_eq_true, true_implies, false_implies, implies_true, and_true, Bool.not_eq_false, Bool.not_eq_true, Nat.reduceEqDiff, Nat.reduceLeDiff, Classical.not_not, List.length_cons, List.length_nil, Int.reduceAdd, z_cast, Nat.reducePow, false_or, Nat.reduceLT, Nat.sub_zero, Nat.le_refl, true_and, ↓reduceIte, iteP, Bool.and_eq_false_iff, Bool.and_eq_true, decide_eq_false_iff_not, decide_eq_true_eq, beq_eq_false_iff_ne, beq_iff_eq, ne_eq, not_or]
  refine ⟨fun h => bad (fun z => by rcases h with h | h; exact h z.1; exact h z.2.2.1), fun h1 => ?_⟩
  refine x_isOf hb hE.1 hW.1 (hE.sx hW) (by decide) ?_
  rw [inB_n (by omega), n_cl (by omega)]
  simp (disch := omega) only [n_eq, n_lt, n_le, n_cl, n_inT, nI_add, bI_eq0, bI_eq1, not_true_eq_false, not_false_eq_true, true_implies, false_implies, implies_true, and_true, Bool.not_eq_false, Bool.not_eq_true, Nat.reduceEqDiff, Nat.reduceLeDiff, Classical.not_not, List.length_cons, List.length_nil, Int.reduceAdd, z_cast, Nat.reducePow, false_or, Nat.reduceLT, Nat.sub_zero, Nat.le_refl, true_and, ↓reduceIte, iteP, Bool.and_eq_false_iff, Bool.and_eq_true, decide_eq_false_iff_not, decide_eq_true_eq, beq_eq_false_iff_ne, beq_iff_eq, ne_eq, not_or]
  refine ⟨fun h => bad (fun z => by rcases h with h | h; exact h z.2.1; exact h z.2.2.2.1), fun h2 => ?_⟩
  refine x_lives hb hW hE ?_
  rw [inB_n (by omega), n_cl (by omega)]
  simp (disch := omega) only [n_eq, n_lt, n_le, n_cl, n_inT, nI_add, bI_eq0, bI_eq1, not_true_eq_false, not_false_eq_true, true_implies, false_implies, implies_true, and_true, Bool.not_eq_false, Bool.not_eq_true, Nat.reduceEqDiff, Nat.reduceLeDiff, Classical.not_not, List.length_cons, List.length_nil, Int.reduceAdd, z_cast, Nat.reducePow, false_or, Nat.reduceLT, Nat.sub_zero, Nat.le_refl, true_and, ↓reduceIte, iteP, Bool.and_eq_false_iff, Bool.and_eq_true, decide_eq_false_iff_not, decide_eq_true_eq, beq_eq_false_iff_ne, beq_iff_eq, ne_eq, not_or]
  refine ⟨fun h => bad (fun z => by rcases h with h | h; exact h z.1; exact h z.2.2.2.2.1), fun h3 => ?_⟩
  refine x_lives hb hW hE ?_
  rw [inB_n (by omega), n_cl (by omega)]
  simp (disch := omega) only [n_eq, n_lt, n_le, n_cl, n_inT, nI_add, bI_eq0, bI_eq1, not_true_eq_false, not_false_eq_true, true_implies, false_implies, implies_true, and_true, Bool.not_eq_false, Bool.not_eq_true, Nat.reduceEqDiff, Nat.reduceLeDiff, Classical.not_not, List.length_cons, List.length_nil, Int.reduceAdd, z_cast, Nat.reducePow, false_or, Nat.reduceLT, Nat.sub_zero, Nat.le_refl, true_and, ↓reduceIte, iteP, Bool.and_eq_false_iff, Bool.and_eq_true, decide_eq_false_iff_not, decide_eq_true_eq, beq_eq_false_iff_ne, beq_iff_eq, ne_eq, not_or]
  have fa := hE.2.2.2.2.1 a h1.1
  have fc := hE.2.2.2.2.1 c h2.1
  have a1 := fa12 hW h1.1
  have a2 := mo12 hW h1.1
  have a3 := sp12 hW h1.1
  have c1 := fa12 hW h2.1
  have c2 := mo12 hW h2.1
  have c3 := sp12 hW h2.1
  refine ⟨fun h4 => ?_, fun h => ?_⟩
  case refine_2 =>
    refine V_run ok_X0_canMarry 5 18 ?_
    simp (disch := omega) only [eng, c_X0_canMarry, r_X0_canMarry, tbl, true_and, Nat.reduceAdd, Nat.reduceLT, ↓reduceIte, n_eq, n_lt, n_le, n_cl, n_inT, nI_add, bI_eq0, bI_eq1, not_true_eq_false, not_false_eq_true, true_implies, false_implies, implies_true, and_true, Bool.not_eq_false, Bool.not_eq_true, Nat.reduceEqDiff, Nat.reduceLeDiff, Classical.not_not, List.length_cons, List.length_nil, Int.reduceAdd, z_cast, Nat.reducePow, false_or, Nat.reduceLT, Nat.sub_zero, Nat.le_refl]
    try simp only [iteP, Classical.not_not, Bool.not_eq_false, Bool.not_eq_true]
    exact bad (fun z => by rcases h with h | h; exact h z.2.1; exact h z.2.2.2.2.2)
  have no : ¬ (E 3 a = 12 ∧ E 3 c = 12 ∧ ¬ (E 1 a ≠ 12 ∧ E 1 a = E 1 c) ∧ ¬ (E 2 a ≠ 12 ∧ E 2 a = E 2 c) ∧ E 1 c ≠ a ∧ E 2 a ≠ c) → K (nI 0) σ := by
    intro h
    have : can E a c = false := by
      unfold can
      exact decide_eq_false (fun z => h z.2.2.2.2.2.2)
    rw [this] at hK; exact hK
  by_cases g1 : E 3 a = 12
  case neg =>
    refine V_run ok_X0_canMarry 80 20 ?_
    simp (disch := omega) only [eng, c_X0_canMarry, r_X0_canMarry, tbl, true_and, Nat.reduceAdd, Nat.reduceLT, ↓reduceIte, n_eq, n_lt, n_le, n_cl, n_inT, nI_add, bI_eq0, bI_eq1, not_true_eq_false, not_false_eq_true, true_implies, false_implies, implies_true, and_true, Bool.not_eq_false, Bool.not_eq_true, Nat.reduceEqDiff, Nat.reduceLeDiff, Classical.not_not, List.length_cons, List.length_nil, Int.reduceAdd, z_cast, Nat.reducePow, false_or, Nat.reduceLT, Nat.sub_zero, Nat.le_refl, fa, fc, ebT hb, g1]
    try simp only [iteP, Classical.not_not, Bool.not_eq_false, Bool.not_eq_true]
    exact no (fun z => g1 z.1)
  by_cases g2 : E 3 c = 12
  case neg =>
    refine V_run ok_X0_canMarry 80 20 ?_
    simp (disch := omega) only [eng, c_X0_canMarry, r_X0_canMarry, tbl, true_and, Nat.reduceAdd, Nat.reduceLT, ↓reduceIte, n_eq, n_lt, n_le, n_cl, n_inT, nI_add, bI_eq0, bI_eq1, not_true_eq_false, not_false_eq_true, true_implies, false_implies, implies_true, and_true, Bool.not_eq_false, Bool.not_eq_true, Nat.reduceEqDiff, Nat.reduceLeDiff, Classical.not_not, List.length_cons, List.length_nil, Int.reduceAdd, z_cast, Nat.reducePow, false_or, Nat.reduceLT, Nat.sub_zero, Nat.le_refl, fa, fc, ebT hb, g1, g2]
    try simp only [iteP, Classical.not_not, Bool.not_eq_false, Bool.not_eq_true]
    exact no (fun z => g2 z.2.1)
  rcases Classical.propComplete (E 1 a = 12) with g3 | g3 <;> rcases Classical.propComplete (E 1 a = E 1 c) with g4 | g4 <;> rcases Classical.propComplete (E 2 a = 12) with g5 | g5 <;> rcases Classical.propComplete (E 2 a = E 2 c) with g6 | g6 <;> rcases Classical.propComplete (E 1 c = a) with g7 | g7 <;> rcases Classical.propComplete (E 2 a = c) with g8 | g8
  all_goals
    simp only [can, h1, h2, h3.2, h4.2, g1, g2, g3, g4, g5, g6, g7, g8, ne_eq, not_true_eq_false, not_false_eq_true, and_true, true_and, and_false, false_and, decide_true, decide_false] at hK
    refine V_run ok_X0_canMarry 80 20 ?_
    simp (disch := omega) only [eng, c_X0_canMarry, r_X0_canMarry, tbl, true_and, Nat.reduceAdd, Nat.reduceLT, ↓reduceIte, n_eq, n_lt, n_le, n_cl, n_inT, nI_add, bI_eq0, bI_eq1, not_true_eq_false, not_false_eq_true, true_implies, false_implies, implies_true, and_true, Bool.not_eq_false, Bool.not_eq_true, Nat.reduceEqDiff, Nat.reduceLeDiff, Classical.not_not, List.length_cons, List.length_nil, Int.reduceAdd, z_cast, Nat.reducePow, false_or, Nat.reduceLT, Nat.sub_zero, Nat.le_refl, fa, fc, ebT hb, g1, g2, g3, g4, g5, g6, g7, g8]
    try simp only [iteP, Classical.not_not, Bool.not_eq_false, Bool.not_eq_true]
    exact hK
