/-! rules as texts in the reference -/
theorem dig_all : (List.range 3).all (fun i => (List.range 64).all (fun r => (List.range 8).all (fun d => decide (r < 8 ^ i → (rowG (r + d * 8 ^ i) (i + 1) 0 0 = (rowG r i 0 0 && decide (d ≤ 5) && !(rset r i).testBit d)) ∧ rset (r + d * 8 ^ i) (i + 1) = rset r i ||| 2 ^ d ∧ (r + d * 8 ^ i) / 8 ^ i % 8 = d)))) = true := by decide +kernel
theorem dig_ok {i r d : Nat} (hi : i < 3) (hr : r < 8 ^ i) (hd : d < 8) : (rowG (r + d * 8 ^ i) (i + 1) 0 0 = (rowG r i 0 0 && decide (d ≤ 5) && !(rset r i).testBit d)) ∧ rset (r + d * 8 ^ i) (i + 1) = rset r i ||| 2 ^ d ∧ (r + d * 8 ^ i) / 8 ^ i % 8 = d := by
  have p8 := (pow8 hi).1
  have h1 := List.all_eq_true.mp dig_all i (List.mem_range.mpr hi)
  have h2 := List.all_eq_true.mp h1 r (List.mem_range.mpr (by omega))
  have h3 := List.all_eq_true.mp h2 d (List.mem_range.mpr hd)
  exact of_decide_eq_true h3 hr
theorem dig_old {i j r d : Nat} (hj : j < i) (hi : i < 3) (hr : r < 8 ^ i) : (r + d * 8 ^ i) / 8 ^ j % 8 = r / 8 ^ j % 8 := by
  rcases (show (i = 1 ∧ j = 0) ∨ (i = 2 ∧ j = 0) ∨ (i = 2 ∧ j = 1) by omega) with ⟨rfl, rfl⟩ | ⟨rfl, rfl⟩ | ⟨rfl, rfl⟩
  · simp only [show (8 : Nat) ^ 1 = 8 by decide, show (8 : Nat) ^ 0 = 1 by decide] at *; omega
  · simp only [show (8 : Nat) ^ 2 = 64 by decide, show (8 : Nat) ^ 0 = 1 by decide] at *; omega
  · simp only [show (8 : Nat) ^ 2 = 64 by decide, show (8 : Nat) ^ 1 = 8 by decide] at *; omega
theorem rI_dig {tp : Nat → Nat} {ln : Nat} (hw : TpW tp ln) (p : Nat) : rI (cZ tp ln p) 48 57 = decide (48 ≤ cN tp ln p ∧ cN tp ln p ≤ 57) := by
  rcases cZ_c hw p with ⟨e1, e2, _⟩ | ⟨e1, e2, e3, _⟩
  · rw [e1, e2]; decide
  · rw [e1]
    unfold rI
    rw [nI_nn _ (by omega)]
    apply Bool.eq_iff_iff.mpr
    simp only [decide_eq_true_eq]
    omega
theorem rI_d5 {tp : Nat → Nat} {ln : Nat} (hw : TpW tp ln) (p : Nat) : rI (cZ tp ln p - nI 48) 0 5 = decide (48 ≤ cN tp ln p ∧ cN tp ln p ≤ 53) := by
  rcases cZ_c hw p with ⟨e1, e2, _⟩ | ⟨e1, e2, e3, _⟩
  · rw [e1, e2]; decide
  · rw [e1]
    unfold rI
    rw [pk_sub_toInt (by omega) (by decide)]
    apply Bool.eq_iff_iff.mpr
    simp only [decide_eq_true_eq]
    omega
theorem dig_v {tp : Nat → Nat} {ln : Nat} (hw : TpW tp ln) (p : Nat) (h : 48 ≤ cN tp ln p) : cZ tp ln p - nI 48 = nI (cN tp ln p - 48) := by
  rcases cZ_c hw p with ⟨e1, e2, _⟩ | ⟨e1, e2, e3, _⟩
  · omega
  · rw [e1, pk_sub h]
/-- what the digits of the k-th rule are, and what stands before it -/
def DgS (k i r : Nat) (σ0 σ : St) : Prop := (∀ j, j < i → σ 920 (5 * k + 2 + j) = nI (r / 8 ^ j % 8)) ∧ ∀ x, x < 5 * k → σ 920 x = σ0 920 x
theorem DgS.pl {k i r : Nat} {v : Int32} {σ0 σ : St} (h : DgS k i r σ0 σ) : DgS k i r σ0 (wr σ 900 17 v) :=
  ⟨fun j hj => by rw [wr_ne 920 (by decide)]; exact h.1 j hj, fun x hx => by rw [wr_ne 920 (by decide)]; exact h.2 x hx⟩
/-- the digit's test and its writing, from place 73 on -/
theorem m_dig (l : Launch) {tp : Nat → Nat} {ln p k i r : Nat} {c kd' : Int32} {v6 : Value} {σ0 σ : St} {K : Int32 → St → Prop} (hw : TpW tp ln) (hS : RM tp ln p σ) (hk : k ≤ 3) (hi : i ≤ 3) (hr : r < 8 ^ i) (hi0 : i = 0 ∨ rowG r i 0 0 = true) (hD : DgS k i r σ0 σ) (hF : FrY σ0 σ)
    (h0 : ¬ (i < 3 ∧ 48 ≤ cN tp ln p ∧ cN tp ln p ≤ 53 ∧ rowG (r + (cN tp ln p - 48) * 8 ^ i) (i + 1) 0 0 = true) → K (nI 0) σ)
    (h1 : i < 3 → 48 ≤ cN tp ln p → cN tp ln p ≤ 53 → rowG (r + (cN tp ln p - 48) * 8 ^ i) (i + 1) 0 0 = true → ∀ σ', RM tp ln (p + 1) σ' → DgS k (i + 1) (r + (cN tp ln p - 48) * 8 ^ i) σ0 σ' → FrY σ0 σ' → ∀ v6, V l i_X6_readRule k_X6_readRule 62 [.ref 900, .int (nI k), .int c, .int kd', .int (nI (rset (r + (cN tp ln p - 48) * 8 ^ i) (i + 1))), .int (nI (i + 1)), v6] [] σ' K) : V l i_X6_readRule k_X6_readRule 73 [.ref 900, .int (nI k), .int c, .int kd', .int (nI (rset r i)), .int (nI i), v6] [.int (cZ tp ln p)] σ K := by
  have hrow : rowG r i 0 0 = true := by
    rcases hi0 with rfl | h
    · rfl
    · exact h
  refine V_run ok_X6_readRule 8 73 ?_
  simp (disch := omega) only [eng, c_X6_readRule, r_X6_readRule, tbl, true_and, Nat.reduceAdd, Nat.reduceLT, ↓reduceIte, n_eq, n_lt, n_le, n_cl, n_inT, nI_add, bI_eq0, bI_eq1, not_true_eq_false, not_false_eq_true, true_implies, false_implies, implies_true, and_true, Bool.not_eq_false, Bool.not_eq_true, Nat.reduceEqDiff, Nat.reduceLeDiff, Classical.not_not, List.length_cons, List.length_nil, Int.reduceAdd, z_cast, Nat.reducePow, false_or, Nat.reduceLT, Nat.sub_zero, Nat.le_refl]
  try simp only [iteP, Classical.not_not, Bool.not_eq_false, Bool.not_eq_true]
  refine m_rI (a := 0) (n := 5) rfl rfl ?_
  rw [rI_d5 hw]
  by_cases z : 48 ≤ cN tp ln p ∧ cN tp ln p ≤ 53
  case neg =>
    rw [decide_eq_false z]
    refine V_run ok_X6_readRule 10 81 ?_
    simp (disch := omega) only [eng, c_X6_readRule, r_X6_readRule, tbl, true_and, Nat.reduceAdd, Nat.reduceLT, ↓reduceIte, n_eq, n_lt, n_le, n_cl, n_inT, nI_add, bI_eq0, bI_eq1, not_true_eq_false, not_false_eq_true, true_implies, false_implies, implies_true, and_true, Bool.not_eq_false, Bool.not_eq_true, Nat.reduceEqDiff, Nat.reduceLeDiff, Classical.not_not, List.length_cons, List.length_nil, Int.reduceAdd, z_cast, Nat.reducePow, false_or, Nat.reduceLT, Nat.sub_zero, Nat.le_refl, Bool.false_eq_true]
    try simp only [iteP, Classical.not_not, Bool.not_eq_false, Bool.not_eq_true]
    exact h0 (fun y => z ⟨y.2.1, y.2.2.1⟩)
  rw [decide_eq_true z, dig_v hw p z.1]
  have hpl : p + 1 ≤ ln := nb_lt (c := cN tp ln p) (by omega) rfl
  have hd : cN tp ln p - 48 ≤ 5 := by omega
  have z1 := z.1
  have z2 := z.2
  have hs := rset_lt r i
  generalize hde : cN tp ln p - 48 = d at *
  refine V_run ok_X6_readRule 4 81 ?_
  simp (disch := omega) only [eng, c_X6_readRule, r_X6_readRule, tbl, true_and, Nat.reduceAdd, Nat.reduceLT, ↓reduceIte, n_eq, n_lt, n_le, n_cl, n_inT, nI_add, bI_eq0, bI_eq1, not_true_eq_false, not_false_eq_true, true_implies, false_implies, implies_true, and_true, Bool.not_eq_false, Bool.not_eq_true, Nat.reduceEqDiff, Nat.reduceLeDiff, Classical.not_not, List.length_cons, List.length_nil, Int.reduceAdd, z_cast, Nat.reducePow, false_or, Nat.reduceLT, Nat.sub_zero, Nat.le_refl, Bool.true_eq_false]
  try simp only [iteP, Classical.not_not, Bool.not_eq_false, Bool.not_eq_true]
  refine m_has (by omega) (by omega) ?_
  cases hb : (rset r i).testBit d with
  | true =>
    refine V_run ok_X6_readRule 10 85 ?_
    simp (disch := omega) only [eng, c_X6_readRule, r_X6_readRule, tbl, true_and, Nat.reduceAdd, Nat.reduceLT, ↓reduceIte, n_eq, n_lt, n_le, n_cl, n_inT, nI_add, bI_eq0, bI_eq1, not_true_eq_false, not_false_eq_true, true_implies, false_implies, implies_true, and_true, Bool.not_eq_false, Bool.not_eq_true, Nat.reduceEqDiff, Nat.reduceLeDiff, Classical.not_not, List.length_cons, List.length_nil, Int.reduceAdd, z_cast, Nat.reducePow, false_or, Nat.reduceLT, Nat.sub_zero, Nat.le_refl, Bool.true_eq_false]
    try simp only [iteP, Classical.not_not, Bool.not_eq_false, Bool.not_eq_true]
    refine h0 (fun y => ?_)
    have := (dig_ok y.1 hr (show d < 8 by omega)).1
    rw [this, hb] at y
    simp at y
  | false =>
    by_cases y : i = 3
    · refine V_run ok_X6_readRule 20 85 ?_
      simp (disch := omega) only [eng, c_X6_readRule, r_X6_readRule, tbl, true_and, Nat.reduceAdd, Nat.reduceLT, ↓reduceIte, n_eq, n_lt, n_le, n_cl, n_inT, nI_add, bI_eq0, bI_eq1, not_true_eq_false, not_false_eq_true, true_implies, false_implies, implies_true, and_true, Bool.not_eq_false, Bool.not_eq_true, Nat.reduceEqDiff, Nat.reduceLeDiff, Classical.not_not, List.length_cons, List.length_nil, Int.reduceAdd, z_cast, Nat.reducePow, false_or, Nat.reduceLT, Nat.sub_zero, Nat.le_refl, Bool.false_eq_true, y]
      try simp only [iteP, Classical.not_not, Bool.not_eq_false, Bool.not_eq_true]
      exact h0 (fun x => by omega)
    · have hi3 : i < 3 := by omega
      have dk := dig_ok hi3 hr (show d < 8 by omega)
      have e2 := n_shl1 d (by omega)
      have p17 := hS.2.2.1
      have hrow2 : rowG (r + d * 8 ^ i) (i + 1) 0 0 = true := by rw [dk.1, hrow, hb, decide_eq_true hd]; rfl
      have u := h1 hi3 z1 z2 hrow2
      rw [dk.2.1] at u
      refine V_run ok_X6_readRule 60 85 ?_
      simp (disch := omega) only [eng, c_X6_readRule, r_X6_readRule, tbl, true_and, Nat.reduceAdd, Nat.reduceLT, ↓reduceIte, n_eq, n_lt, n_le, n_cl, n_inT, nI_add, bI_eq0, bI_eq1, not_true_eq_false, not_false_eq_true, true_implies, false_implies, implies_true, and_true, Bool.not_eq_false, Bool.not_eq_true, Nat.reduceEqDiff, Nat.reduceLeDiff, Classical.not_not, List.length_cons, List.length_nil, Int.reduceAdd, z_cast, Nat.reducePow, false_or, Nat.reduceLT, Nat.sub_zero, Nat.le_refl, Bool.false_eq_true, y, e2, fa_or, pk_mul, p17, wrq]
      try simp only [iteP, Classical.not_not, Bool.not_eq_false, Bool.not_eq_true]
      refine u _ (hS.rd.pl hpl) ⟨fun j hj => ?_, fun x hx => ?_⟩ hF.rd.pl _
      · rw [wr_ne 920 (by decide)]
        by_cases x : j = i
        · subst x
          simp (disch := omega) only [wrq]
          rw [dk.2.2]
        · rw [wr_at, if_neg (by omega), dig_old (by omega) hi3 hr]
          exact hD.1 j (by omega)
      · rw [wr_ne 920 (by decide), wr_at, if_neg (by omega)]
        exact hD.2 x hx
