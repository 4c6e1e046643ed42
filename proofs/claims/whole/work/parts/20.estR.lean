theorem x_lives {l : Launch} {b : Nat} {E : Es} {x : Int32} {σ : St} {K : Int32 → St → Prop} (hb : Eb b) (hW : Wf E) (hE : XE b E σ) (hK : K (bI (inB x (E 12 0) && E 5 x.toNatClampNeg == 1)) σ) : CallAt l 4 [.ref b, .int x] σ K := by
  refine CallAt.of (k := 4) (cd := k_X0_lives) ok_X0_lives (by decide) rfl rfl rfl ?_
  show V _ i_X0_lives k_X0_lives 0 [.ref b, .int x] [] _ _
  refine V_run ok_X0_lives 50 0 ?_
  simp (disch := omega) only [eng, c_X0_lives, r_X0_lives, tbl, true_and, Nat.reduceAdd, Nat.reduceLT, ↓reduceIte, n_eq, n_lt, n_le, n_cl, n_inT, nI_add, bI_eq0, bI_eq1, not_true_eq_false, not_false_eq_true, true_implies, false_implies, implies_true, and_true, Bool.not_eq_false, Bool.not_eq_true, Nat.reduceEqDiff, Nat.reduceLeDiff, Classical.not_not, List.length_cons, List.length_nil, Int.reduceAdd, z_cast, Nat.reducePow, false_or, Nat.reduceLT, Nat.sub_zero, Nat.le_refl, ebT hb]
  try simp only [iteP, Classical.not_not, Bool.not_eq_false, Bool.not_eq_true]
  refine x_known hb hE.1 hW.1 ?_
  simp only [bI_eq0, Bool.not_eq_false]
  refine ⟨fun h => ?_, fun h1 => ?_⟩
  · rw [h] at hK; exact hK
  · obtain ⟨j, hj, rfl⟩ := inB_of h1
    have h12 := p12 hW hj
    rw [h1, n_cl (by omega)] at hK
    rw [hE.2.1]
    refine x_has (m := lvm E) (j := j) (by have := lvm_lt hW; omega) (by omega) ?_
    simp only [bI_eq0, lvm_tb, hj, decide_true, Bool.true_and]
    refine ⟨fun h2 => ?_, fun h2 => ?_⟩
    · rw [h2] at hK; exact hK
    · rw [show (E 5 j == 1) = true by simpa using h2] at hK; exact hK
theorem x_allLive {l : Launch} {b m : Nat} {E : Es} {σ : St} {K : Int32 → St → Prop} (hb : Eb b) (hW : Wf E) (hE : XE b E σ) (hm : m < 4096) (hK : K (bI (allL E m)) σ) : CallAt l 7 [.ref b, .int (nI m)] σ K := by
  refine CallAt.of (k := 7) (cd := k_X0_allLive) ok_X0_allLive (by decide) rfl rfl rfl ?_
  show V _ i_X0_allLive k_X0_allLive 0 [.ref b, .int (nI m)] [] _ _
  refine V_run ok_X0_allLive 50 0 ?_
  simp (disch := omega) only [eng, c_X0_allLive, r_X0_allLive, tbl, true_and, Nat.reduceAdd, Nat.reduceLT, ↓reduceIte, n_eq, n_lt, n_le, n_cl, n_inT, nI_add, bI_eq0, bI_eq1, not_true_eq_false, not_false_eq_true, true_implies, false_implies, implies_true, and_true, Bool.not_eq_false, Bool.not_eq_true, Nat.reduceEqDiff, Nat.reduceLeDiff, Classical.not_not, List.length_cons, List.length_nil, Int.reduceAdd, z_cast, Nat.reducePow, false_or, Nat.reduceLT, Nat.sub_zero, Nat.le_refl, ebT hb, hE.2.1, n_not]
  try simp only [iteP, Classical.not_not, Bool.not_eq_false, Bool.not_eq_true]
  have hlt : m &&& (lvm E ^^^ 4294967295) < 2147483648 := Nat.lt_of_le_of_lt Nat.and_le_left (by omega)
  have key : (m &&& (lvm E ^^^ 4294967295) = 0) ↔ (∀ j, j < 12 → m.testBit j = true → j < E 12 0 ∧ E 5 j = 1) := by
    constructor
    · intro h j hj hb
      have h1 : (m &&& (lvm E ^^^ 4294967295)).testBit j = false := by rw [h]; simp
      rw [Nat.testBit_and, tb_not, lvm_tb, hb] at h1
      have : decide (j < 32) = true := by simp; omega
      rw [this] at h1
      simp at h1
      exact h1
    · intro h
      apply Nat.eq_of_testBit_eq
      intro j
      rw [Nat.testBit_and, tb_not, lvm_tb, Nat.zero_testBit]
      by_cases hj : j < 12
      · cases hmj : m.testBit j with
        | false => simp
        | true =>
          obtain ⟨h1, h2⟩ := h j hj hmj
          have : decide (j < 32) = true := by simp; omega
          simp [h1, h2, this]
      · have : m.testBit j = false := Nat.testBit_lt_two_pow (Nat.lt_of_lt_of_le hm (by rw [show 4096 = 2 ^ 12 by decide]; exact Nat.pow_le_pow_right (by decide) (by omega)))
        simp [this]
  simp only [n_eq hlt (show 0 < 2147483648 by decide), Classical.not_not]
  refine ⟨fun h => ?_, fun h => ?_⟩
  · rw [show allL E m = false from Bool.eq_false_iff.mpr (fun z => h (key.mpr (allL_iff.mp z)))] at hK; exact hK
  · rw [allL_iff.mpr (key.mp h)] at hK; exact hK
theorem lp_children (l : Launch) {b m : Nat} {E : Es} {σ : St} {K : Int32 → St → Prop} (hb : Eb b) (hW : Wf E) (hE : XE b E σ) (hm : m < 2147483648) (hK : K (nI (bits (fun q => m.testBit (E 1 q) || m.testBit (E 2 q)) (E 12 0))) σ) : ∀ (n q : Nat), q + n = E 12 0 → V l i_X0_childrenOf k_X0_childrenOf 4 [.ref b, .int (nI m), .int (nI (bits (fun q => m.testBit (E 1 q) || m.testBit (E 2 q)) q)), .int (nI q)] [] σ K
  | 0, q, hq => by
    have hq : q = E 12 0 := by omega
    subst hq
    have hn12 := hW.1
    refine V_run ok_X0_childrenOf 50 4 ?_
    simp (disch := omega) only [eng, c_X0_childrenOf, r_X0_childrenOf, tbl, true_and, Nat.reduceAdd, Nat.reduceLT, ↓reduceIte, n_eq, n_lt, n_le, n_cl, n_inT, nI_add, bI_eq0, bI_eq1, not_true_eq_false, not_false_eq_true, true_implies, false_implies, implies_true, and_true, Bool.not_eq_false, Bool.not_eq_true, Nat.reduceEqDiff, Nat.reduceLeDiff, Classical.not_not, List.length_cons, List.length_nil, Int.reduceAdd, z_cast, Nat.reducePow, false_or, Nat.reduceLT, Nat.sub_zero, Nat.le_refl, ebT hb, hE.1, Nat.le_refl]
    try simp only [iteP, Classical.not_not, Bool.not_eq_false, Bool.not_eq_true]
    exact hK
  | n + 1, q, hq => by
    have hq1 : q < E 12 0 := by omega
    have hn12 := hW.1
    have h12 := p12 hW hq1
    have hf := fa12 hW hq1
    have hmo := mo12 hW hq1
    have hp := hE.2.2.2.2.1 q hq1
    have ih := lp_children l hb hW hE hm hK n (q + 1) (by omega)
    refine V_run ok_X0_childrenOf 50 4 ?_
    simp (disch := omega) only [eng, c_X0_childrenOf, r_X0_childrenOf, tbl, true_and, Nat.reduceAdd, Nat.reduceLT, ↓reduceIte, n_eq, n_lt, n_le, n_cl, n_inT, nI_add, bI_eq0, bI_eq1, not_true_eq_false, not_false_eq_true, true_implies, false_implies, implies_true, and_true, Bool.not_eq_false, Bool.not_eq_true, Nat.reduceEqDiff, Nat.reduceLeDiff, Classical.not_not, List.length_cons, List.length_nil, Int.reduceAdd, z_cast, Nat.reducePow, false_or, Nat.reduceLT, Nat.sub_zero, Nat.le_refl, ebT hb, hE.1, hp, Nat.not_le.mpr hq1]
    try simp only [iteP, Classical.not_not, Bool.not_eq_false, Bool.not_eq_true]
    refine x_has (j := E 1 q) hm (by omega) ?_
    simp (disch := omega) only [n_eq, n_lt, n_le, n_cl, n_inT, nI_add, bI_eq0, bI_eq1, not_true_eq_false, not_false_eq_true, true_implies, false_implies, implies_true, and_true, Bool.not_eq_false, Bool.not_eq_true, Nat.reduceEqDiff, Nat.reduceLeDiff, Classical.not_not, List.length_cons, List.length_nil, Int.reduceAdd, z_cast, Nat.reducePow, false_or, Nat.reduceLT, Nat.sub_zero, Nat.le_refl, hp, true_and]
    refine ⟨fun h => ?_, fun h => x_has (j := E 2 q) hm (by omega) ?_⟩
    · rw [acc_t (by simp [h]) h12]; exact ih
    · simp (disch := omega) only [n_eq, n_lt, n_le, n_cl, n_inT, nI_add, bI_eq0, bI_eq1, not_true_eq_false, not_false_eq_true, true_implies, false_implies, implies_true, and_true, Bool.not_eq_false, Bool.not_eq_true, Nat.reduceEqDiff, Nat.reduceLeDiff, Classical.not_not, List.length_cons, List.length_nil, Int.reduceAdd, z_cast, Nat.reducePow, false_or, Nat.reduceLT, Nat.sub_zero, Nat.le_refl, hp]
      refine ⟨fun h2 => ?_, fun h2 => ?_⟩
      · rw [bits_s0 (by simp [h, h2])] at ih; exact ih
      · rw [acc_t (by simp [h2]) h12]; exact ih
theorem x_children {l : Launch} {b m : Nat} {E : Es} {σ : St} {K : Int32 → St → Prop} (hb : Eb b) (hW : Wf E) (hE : XE b E σ) (hm : m < 2147483648) (hK : K (nI (bits (fun q => m.testBit (E 1 q) || m.testBit (E 2 q)) (E 12 0))) σ) : CallAt l 15 [.ref b, .int (nI m)] σ K := by
  refine CallAt.of (k := 15) (cd := k_X0_childrenOf) ok_X0_childrenOf (by decide) rfl rfl rfl ?_
  show V _ i_X0_childrenOf k_X0_childrenOf 0 [.ref b, .int (nI m), .null, .null] [] _ _
  refine V_run ok_X0_childrenOf 50 0 ?_
  simp (disch := omega) only [eng, c_X0_childrenOf, r_X0_childrenOf, tbl, true_and, Nat.reduceAdd, Nat.reduceLT, ↓reduceIte, n_eq, n_lt, n_le, n_cl, n_inT, nI_add, bI_eq0, bI_eq1, not_true_eq_false, not_false_eq_true, true_implies, false_implies, implies_true, and_true, Bool.not_eq_false, Bool.not_eq_true, Nat.reduceEqDiff, Nat.reduceLeDiff, Classical.not_not, List.length_cons, List.length_nil, Int.reduceAdd, z_cast, Nat.reducePow, false_or, Nat.reduceLT, Nat.sub_zero, Nat.le_refl]
  try simp only [iteP, Classical.not_not, Bool.not_eq_false, Bool.not_eq_true]
  exact lp_children l hb hW hE hm hK (E 12 0) 0 (by omega)
theorem sib_dec (E : Es) (p q : Nat) : sib E p q = decide (¬ q = p ∧ ((¬ E 1 p = 12 ∧ E 1 q = E 1 p) ∨ (¬ E 2 p = 12 ∧ E 2 q = E 2 p))) := by
  rw [Bool.eq_iff_iff]
  simp only [sib, Bool.and_eq_true, Bool.or_eq_true, bne_iff_ne, beq_iff_eq, decide_eq_true_eq, ne_eq]
  constructor
  · rintro ⟨h1, h2⟩
    exact ⟨fun z => h1 z.symm, h2.imp (fun z => ⟨z.1, z.2.symm⟩) (fun z => ⟨z.1, z.2.symm⟩)⟩
  · rintro ⟨h1, h2⟩
    exact ⟨fun z => h1 z.symm, h2.imp (fun z => ⟨z.1, z.2.symm⟩) (fun z => ⟨z.1, z.2.symm⟩)⟩
def sibM (E : Es) (p : Nat) : Nat := if p < E 12 0 then bits (sib E p) (E 12 0) else 0
theorem lp_sib (l : Launch) {b p : Nat} {E : Es} {σ : St} {K : Int32 → St → Prop} (hb : Eb b) (hW : Wf E) (hE : XE b E σ) (hp : p < E 12 0) (hK : K (nI (bits (sib E p) (E 12 0))) σ) : ∀ (n q : Nat), q + n = E 12 0 → ∀ v4 v5 : Value, V l i_X0_siblingsOf k_X0_siblingsOf 10 [.ref b, .int (nI p), .int (nI (bits (sib E p) q)), .int (nI q), v4, v5] [] σ K
  | 0, q, hq, v4, v5 => by
    have hq : q = E 12 0 := by omega
    subst hq
    have hn12 := hW.1
    refine V_run ok_X0_siblingsOf 60 10 ?_
    simp (disch := omega) only [eng, c_X0_siblingsOf, r_X0_siblingsOf, tbl, true_and, Nat.reduceAdd, Nat.reduceLT, ↓reduceIte, n_eq, n_lt, n_le, n_cl, n_inT, nI_add, bI_eq0, bI_eq1, not_true_eq_false, not_false_eq_true, true_implies, false_implies, implies_true, and_true, Bool.not_eq_false, Bool.not_eq_true, Nat.reduceEqDiff, Nat.reduceLeDiff, Classical.not_not, List.length_cons, List.length_nil, Int.reduceAdd, z_cast, Nat.reducePow, false_or, Nat.reduceLT, Nat.sub_zero, Nat.le_refl, ebT hb, hE.1, Nat.le_refl]
    try simp only [iteP, Classical.not_not, Bool.not_eq_false, Bool.not_eq_true]
    exact hK
  | n + 1, q, hq, v4, v5 => by
    have hq1 : q < E 12 0 := by omega
    have hn12 := hW.1
    have h12 := p12 hW hq1
    have hp12 := p12 hW hp
    have f1 := fa12 hW hq1
    have f2 := mo12 hW hq1
    have f3 := fa12 hW hp
    have f4 := mo12 hW hp
    have fq := hE.2.2.2.2.1 q hq1
    have fp := hE.2.2.2.2.1 p hp
    have ih := lp_sib l hb hW hE hp hK n (q + 1) (by omega)
    have hs : sib E p q = decide (¬ q = p ∧ ((¬ E 1 p = 12 ∧ E 1 q = E 1 p) ∨ (¬ E 2 p = 12 ∧ E 2 q = E 2 p))) := sib_dec E p q
    have iT : sib E p q = true → ∀ v4 v5 : Value, V l i_X0_siblingsOf k_X0_siblingsOf 10 [.ref b, .int (nI p), .int (nI (bits (sib E p) q) ||| nI 1 <<< (nI q &&& 31)), .int (nI (q + 1)), v4, v5] [] σ K := fun h => by rw [acc_t h h12]; exact ih
    have iF : sib E p q = false → ∀ v4 v5 : Value, V l i_X0_siblingsOf k_X0_siblingsOf 10 [.ref b, .int (nI p), .int (nI (bits (sib E p) q)), .int (nI (q + 1)), v4, v5] [] σ K := fun h => by rw [bits_s0 h] at ih; exact ih
    rcases Classical.propComplete (E 1 p = 12) with h1 | h1 <;> rcases Classical.propComplete (E 1 q = E 1 p) with h2 | h2 <;> rcases Classical.propComplete (E 2 p = 12) with h3 | h3 <;> rcases Classical.propComplete (E 2 q = E 2 p) with h4 | h4 <;> rcases Classical.propComplete (q = p) with h5 | h5
    all_goals
      refine V_run ok_X0_siblingsOf 60 10 ?_
      simp (disch := omega) only [eng, c_X0_siblingsOf, r_X0_siblingsOf, tbl, true_and, Nat.reduceAdd, Nat.reduceLT, ↓reduceIte, n_eq, n_lt, n_le, n_cl, n_inT, nI_add, bI_eq0, bI_eq1, not_true_eq_false, not_false_eq_true, true_implies, false_implies, implies_true, and_true, Bool.not_eq_false, Bool.not_eq_true, Nat.reduceEqDiff, Nat.reduceLeDiff, Classical.not_not, List.length_cons, List.length_nil, Int.reduceAdd, z_cast, Nat.reducePow, false_or, Nat.reduceLT, Nat.sub_zero, Nat.le_refl, ebT hb, hE.1, fq, fp, Nat.not_le.mpr hq1, h1, h2, h3, h4, h5]
      try simp only [iteP, Classical.not_not, Bool.not_eq_false, Bool.not_eq_true]
      first
        | (refine iF ?_ _ _; rw [hs]; simp [h1, h2, h3, h4, h5]; done)
        | (refine iT ?_ _ _; rw [hs]; simp [h1, h2, h3, h4, h5]; done)
theorem x_siblings {l : Launch} {b p : Nat} {E : Es} {σ : St} {K : Int32 → St → Prop} (hb : Eb b) (hW : Wf E) (hE : XE b E σ) (hp : p ≤ 12) (hK : K (nI (sibM E p)) σ) : CallAt l 16 [.ref b, .int (nI p)] σ K := by
  refine CallAt.of (k := 16) (cd := k_X0_siblingsOf) ok_X0_siblingsOf (by decide) rfl rfl rfl ?_
  show V _ i_X0_siblingsOf k_X0_siblingsOf 0 [.ref b, .int (nI p), .null, .null, .null, .null] [] _ _
  refine V_run ok_X0_siblingsOf 60 0 ?_
  simp (disch := omega) only [eng, c_X0_siblingsOf, r_X0_siblingsOf, tbl, true_and, Nat.reduceAdd, Nat.reduceLT, ↓reduceIte, n_eq, n_lt, n_le, n_cl, n_inT, nI_add, bI_eq0, bI_eq1, not_true_eq_false, not_false_eq_true, true_implies, false_implies, implies_true, and_true, Bool.not_eq_false, Bool.not_eq_true, Nat.reduceEqDiff, Nat.reduceLeDiff, Classical.not_not, List.length_cons, List.length_nil, Int.reduceAdd, z_cast, Nat.reducePow, false_or, Nat.reduceLT, Nat.sub_zero, Nat.le_refl, ebT hb]
  try simp only [iteP, Classical.not_not, Bool.not_eq_false, Bool.not_eq_true]
  refine x_known hb hE.1 hW.1 ?_
  rw [inB_n (by omega)]
  unfold sibM at hK
  by_cases h : p < E 12 0
  · rw [if_pos h] at hK
    simp (disch := omega) only [n_eq, n_lt, n_le, n_cl, n_inT, nI_add, bI_eq0, bI_eq1, not_true_eq_false, not_false_eq_true, true_implies, false_implies, implies_true, and_true, Bool.not_eq_false, Bool.not_eq_true, Nat.reduceEqDiff, Nat.reduceLeDiff, Classical.not_not, List.length_cons, List.length_nil, Int.reduceAdd, z_cast, Nat.reducePow, false_or, Nat.reduceLT, Nat.sub_zero, Nat.le_refl, true_and, ↓reduceIte, iteP, h, decide_true, Bool.true_eq_false]
    exact lp_sib l hb hW hE h hK (E 12 0) 0 (by omega) _ _
  · rw [if_neg h] at hK
    simp (disch := omega) only [n_eq, n_lt, n_le, n_cl, n_inT, nI_add, bI_eq0, bI_eq1, not_true_eq_false, not_false_eq_true, true_implies, false_implies, implies_true, and_true, Bool.not_eq_false, Bool.not_eq_true, Nat.reduceEqDiff, Nat.reduceLeDiff, Classical.not_not, List.length_cons, List.length_nil, Int.reduceAdd, z_cast, Nat.reducePow, false_or, Nat.reduceLT, Nat.sub_zero, Nat.le_refl, true_and, ↓reduceIte, iteP, h, decide_false, Bool.false_eq_true]
    exact hK
