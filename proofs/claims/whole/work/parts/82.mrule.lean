/-! rules in the reference -/
def rset (r : Nat) : Nat → Nat
  | 0 => 0
  | k + 1 => rset r k ||| 2 ^ (r / 2 ^ (3 * k) % 8)
theorem rset_lt (r : Nat) : ∀ k, rset r k < 256
  | 0 => (by decide : 0 < 256)
  | k + 1 => Nat.or_lt_two_pow (n := 8) (rset_lt r k) (Nat.pow_lt_pow_right (a := 2) (by decide) (Nat.mod_lt _ (by decide)))
theorem rset_all : (List.range 4).all (fun n => (List.range 512).all (fun r => decide (rowG r n 0 0 = decide (¬ pcnt (rset r n) < n ∧ ¬ 63 < rset r n)))) = true := by decide +kernel
theorem rset_row {r n : Nat} (hn : n ≤ 3) (hr : r < 512) : rowG r n 0 0 = decide (¬ pcnt (rset r n) < n ∧ ¬ 63 < rset r n) :=
  of_decide_eq_true (List.all_eq_true.mp (List.all_eq_true.mp rset_all n (List.mem_range.mpr (by omega))) r (List.mem_range.mpr hr))
def wasF (E : Es) (k : Nat) : Nat → Nat
  | 0 => 0
  | i + 1 => wasF E k i + E 10 (3 * k + i) * 8 ^ i
theorem wasF_lt {E : Es} {k : Nat} (h : WfR E k) : ∀ i, i ≤ E 11 k → wasF E k i < 8 ^ i
  | 0, _ => (by decide : 0 < 1)
  | i + 1, hi => by
    have h3 := h.2.1
    have := h.2.2 i (by omega)
    exact row_lt (by omega) (wasF_lt h i (by omega)) (by omega)
theorem wasF_rw {E : Es} {k : Nat} (h : WfR E k) : wasF E k (E 11 k) = rw8 E k := by
  have h1 := h.1
  have h3 := h.2.1
  unfold rw8
  rcases (show E 11 k = 1 ∨ E 11 k = 2 ∨ E 11 k = 3 by omega) with z | z | z
  · rw [z, if_neg (by decide), if_neg (by decide)]; simp [wasF]
  · rw [z, if_pos (by decide), if_neg (by decide)]; simp [wasF]; omega
  · rw [z, if_pos (by decide), if_pos (by decide)]; simp [wasF]; omega
theorem lp_rule1 (l : Launch) {kk : Int32} {r n : Nat} {v6 : Value} {σ : St} {K : Int32 → St → Prop} (hr : r < 512) (hn : n ≤ 3) (hN : V l i_X6_rule k_X6_rule 48 [.ref 900, .int kk, .int (nI r), .int (nI n), .int (nI (rset r n)), .int (nI n), v6] [] σ K) : ∀ (m i : Nat), i + m = n → V l i_X6_rule k_X6_rule 31 [.ref 900, .int kk, .int (nI r), .int (nI n), .int (nI (rset r i)), .int (nI i), v6] [] σ K
  | 0, i, hi => by
    have hi : i = n := by omega
    subst hi
    refine V_run ok_X6_rule 3 31 ?_
    simp (disch := omega) only [eng, c_X6_rule, r_X6_rule, tbl, true_and, Nat.reduceAdd, Nat.reduceLT, ↓reduceIte, n_eq, n_lt, n_le, n_cl, n_inT, nI_add, bI_eq0, bI_eq1, not_true_eq_false, not_false_eq_true, true_implies, false_implies, implies_true, and_true, Bool.not_eq_false, Bool.not_eq_true, Nat.reduceEqDiff, Nat.reduceLeDiff, Classical.not_not, List.length_cons, List.length_nil, Int.reduceAdd, z_cast, Nat.reducePow, false_or, Nat.reduceLT, Nat.sub_zero, Nat.le_refl]
    try simp only [iteP, Classical.not_not, Bool.not_eq_false, Bool.not_eq_true]
    exact hN
  | m + 1, i, hi => by
    have h1 : ¬ n ≤ i := by omega
    have e1 := n_shr (m := r) (j := 3 * i) (by omega) (by omega)
    have h8 : r / 2 ^ (3 * i) % 8 < 8 := Nat.mod_lt _ (by decide)
    have e2 := n_shl1 (r / 2 ^ (3 * i) % 8) (by omega)
    have ih := lp_rule1 l hr hn hN m (i + 1) (by omega)
    refine V_run ok_X6_rule 60 31 ?_
    simp (disch := omega) only [eng, c_X6_rule, r_X6_rule, tbl, true_and, Nat.reduceAdd, Nat.reduceLT, ↓reduceIte, n_eq, n_lt, n_le, n_cl, n_inT, nI_add, bI_eq0, bI_eq1, not_true_eq_false, not_false_eq_true, true_implies, false_implies, implies_true, and_true, Bool.not_eq_false, Bool.not_eq_true, Nat.reduceEqDiff, Nat.reduceLeDiff, Classical.not_not, List.length_cons, List.length_nil, Int.reduceAdd, z_cast, Nat.reducePow, false_or, Nat.reduceLT, Nat.sub_zero, Nat.le_refl, h1, pk_mul, e1, n_and7, e2, fa_or]
    try simp only [iteP, Classical.not_not, Bool.not_eq_false, Bool.not_eq_true]
    exact ih
theorem lp_rule2 (l : Launch) {k n : Nat} {vr vs : Int32} {E : Es} {σ : St} {K : Int32 → St → Prop} (hW : Wf E) (hE : ME E σ) (hk : k < 4) (hN : V l i_X6_rule k_X6_rule 84 [.ref 900, .int (nI k), .int vr, .int (nI n), .int vs, .int (nI (rw8 E k)), .int (nI (E 11 k))] [] σ K) : ∀ (m i : Nat), i + m = E 11 k → V l i_X6_rule k_X6_rule 61 [.ref 900, .int (nI k), .int vr, .int (nI n), .int vs, .int (nI (wasF E k i)), .int (nI i)] [] σ K
  | 0, i, hi => by
    have hi : i = E 11 k := by omega
    have w := hW.2.2.2.2.2 k hk
    have w3 := w.2.1
    have fk := (hE.2.2.2.2.2 k hk).1
    rw [← wasF_rw w] at hN
    subst hi
    refine V_run ok_X6_rule 6 61 ?_
    simp (disch := omega) only [eng, c_X6_rule, r_X6_rule, tbl, true_and, Nat.reduceAdd, Nat.reduceLT, ↓reduceIte, n_eq, n_lt, n_le, n_cl, n_inT, nI_add, bI_eq0, bI_eq1, not_true_eq_false, not_false_eq_true, true_implies, false_implies, implies_true, and_true, Bool.not_eq_false, Bool.not_eq_true, Nat.reduceEqDiff, Nat.reduceLeDiff, Classical.not_not, List.length_cons, List.length_nil, Int.reduceAdd, z_cast, Nat.reducePow, false_or, Nat.reduceLT, Nat.sub_zero, Nat.le_refl, fk]
    try simp only [iteP, Classical.not_not, Bool.not_eq_false, Bool.not_eq_true]
    exact hN
  | m + 1, i, hi => by
    have w := hW.2.2.2.2.2 k hk
    have w3 := w.2.1
    have fk := (hE.2.2.2.2.2 k hk).1
    have fr := (hE.2.2.2.2.2 k hk).2 i (by omega)
    have h1 : ¬ E 11 k ≤ i := by omega
    have h5 := w.2.2 i (by omega)
    have e1 := or_dig (i := i) (r := wasF E k i) (d := E 10 (3 * k + i)) (by omega) (wasF_lt w i (by omega)) (by omega)
    have ih := lp_rule2 l hW hE hk hN m (i + 1) (by omega)
    refine V_run ok_X6_rule 60 61 ?_
    simp (disch := omega) only [eng, c_X6_rule, r_X6_rule, tbl, true_and, Nat.reduceAdd, Nat.reduceLT, ↓reduceIte, n_eq, n_lt, n_le, n_cl, n_inT, nI_add, bI_eq0, bI_eq1, not_true_eq_false, not_false_eq_true, true_implies, false_implies, implies_true, and_true, Bool.not_eq_false, Bool.not_eq_true, Nat.reduceEqDiff, Nat.reduceLeDiff, Classical.not_not, List.length_cons, List.length_nil, Int.reduceAdd, z_cast, Nat.reducePow, false_or, Nat.reduceLT, Nat.sub_zero, Nat.le_refl, h1, fk, pk_mul, fr, e1]
    try simp only [iteP, Classical.not_not, Bool.not_eq_false, Bool.not_eq_true]
    exact ih
theorem lp_rule3 (l : Launch) {k r n : Nat} {vs va : Int32} {σ0 : St} {K : Int32 → St → Prop} (hk : k < 4) (hr : r < 512) (hn : n ≤ 3) (hK : ∀ σ', (∀ j, j < n → σ' 913 (3 * k + j) = nI (r / 2 ^ (3 * j) % 8)) → (∀ c j, (c = 913 ∧ 3 * k ≤ j ∧ j < 3 * k + 3) ∨ σ' c j = σ0 c j) → K va σ') : ∀ (m i : Nat) (σ : St), i + m = n → (∀ j, j < i → σ 913 (3 * k + j) = nI (r / 2 ^ (3 * j) % 8)) → (∀ c j, (c = 913 ∧ 3 * k ≤ j ∧ j < 3 * k + 3) ∨ σ c j = σ0 c j) → V l i_X6_rule k_X6_rule 91 [.ref 900, .int (nI k), .int (nI r), .int (nI n), .int vs, .int va, .int (nI i)] [] σ K
  | 0, i, σ, hi, h1, h2 => by
    have hi : i = n := by omega
    subst hi
    refine V_run ok_X6_rule 60 91 ?_
    simp (disch := omega) only [eng, c_X6_rule, r_X6_rule, tbl, true_and, Nat.reduceAdd, Nat.reduceLT, ↓reduceIte, n_eq, n_lt, n_le, n_cl, n_inT, nI_add, bI_eq0, bI_eq1, not_true_eq_false, not_false_eq_true, true_implies, false_implies, implies_true, and_true, Bool.not_eq_false, Bool.not_eq_true, Nat.reduceEqDiff, Nat.reduceLeDiff, Classical.not_not, List.length_cons, List.length_nil, Int.reduceAdd, z_cast, Nat.reducePow, false_or, Nat.reduceLT, Nat.sub_zero, Nat.le_refl]
    try simp only [iteP, Classical.not_not, Bool.not_eq_false, Bool.not_eq_true]
    exact hK σ h1 h2
  | m + 1, i, σ, hi, h1, h2 => by
    have h0 : ¬ n ≤ i := by omega
    have e1 := n_shr (m := r) (j := 3 * i) (by omega) (by omega)
    refine V_run ok_X6_rule 60 91 ?_
    simp (disch := omega) only [eng, c_X6_rule, r_X6_rule, tbl, true_and, Nat.reduceAdd, Nat.reduceLT, ↓reduceIte, n_eq, n_lt, n_le, n_cl, n_inT, nI_add, bI_eq0, bI_eq1, not_true_eq_false, not_false_eq_true, true_implies, false_implies, implies_true, and_true, Bool.not_eq_false, Bool.not_eq_true, Nat.reduceEqDiff, Nat.reduceLeDiff, Classical.not_not, List.length_cons, List.length_nil, Int.reduceAdd, z_cast, Nat.reducePow, false_or, Nat.reduceLT, Nat.sub_zero, Nat.le_refl, h0, pk_mul, e1, n_and7]
    try simp only [iteP, Classical.not_not, Bool.not_eq_false, Bool.not_eq_true]
    refine lp_rule3 l hk hr hn hK m (i + 1) _ (by omega) (fun j hj => ?_) (fun c j => ?_)
    · by_cases z : j = i
      · subst z; simp [wr_at]
      · rw [wr_at, if_neg (by omega)]; exact h1 j (by omega)
    · by_cases z : c = 913 ∧ j = 3 * k + i
      · exact Or.inl ⟨z.1, by omega, by omega⟩
      · rw [wr_at, if_neg z]; exact h2 c j
theorem ME_setR {E : Es} {k r n : Nat} {σ σ' : St} (hW : Wf E) (hE : ME E σ) (hn : n ≤ 3) (h1 : ∀ j, j < n → σ' 913 (3 * k + j) = nI (r / 2 ^ (3 * j) % 8)) (h2 : ∀ c j, (c = 913 ∧ 3 * k ≤ j ∧ j < 3 * k + 3) ∨ σ' c j = wr σ 914 k (nI n) c j) : ME (setR E k r n) σ' := by
  obtain ⟨a1, a2, a3, a4, a5, a6⟩ := hE
  have fr : ∀ c j, c ≠ 913 → c ≠ 914 → σ' c j = σ c j := fun c j z1 z2 => by
    rcases h2 c j with q | q
    · exact absurd q.1 z1
    · rw [q, wr_at, if_neg (fun y => z2 y.1)]
  have es : ∀ i j, i ≠ 10 → i ≠ 11 → setR E k r n i j = E i j := fun i j z1 z2 => by simp [setR, z1, z2]
  refine ⟨?_, ?_, ?_, fun p hp => ?_, fun t ht => ?_, fun k' hk' => ?_⟩
  · rw [fr 900 _ (by decide) (by decide), es 12 _ (by decide) (by decide)]; exact a1
  · rw [fr 900 _ (by decide) (by decide), es 12 _ (by decide) (by decide)]; exact a2
  · rw [fr 900 _ (by decide) (by decide), es 12 _ (by decide) (by decide)]; exact a3
  · rw [es 12 _ (by decide) (by decide)] at hp
    have := a4 p hp
    simp (disch := decide) only [fr, es]
    exact this
  · rw [es 12 _ (by decide) (by decide)] at ht
    have := a5 t ht
    simp (disch := decide) only [fr, es]
    exact this
  · by_cases z : k' = k
    · subst z
      have e11 : setR E k' r n 11 k' = n := by simp [setR]
      rw [e11]
      refine ⟨?_, fun i hi => ?_⟩
      · rcases h2 914 k' with q | q
        · exact absurd q.1 (by decide)
        · rw [q]; simp [wr_at]
      · rw [h1 i hi]
        have e10 : setR E k' r n 10 (3 * k' + i) = r / 8 ^ i % 8 := by
          unfold setR
          rw [if_neg (by omega), if_pos ⟨rfl, by omega, by omega⟩, show 3 * k' + i - 3 * k' = i by omega]
        rw [e10, Nat.pow_mul]
    · have w := hW.2.2.2.2.2 k' hk'
      have w3 := w.2.1
      have b := a6 k' hk'
      rw [(setR_other z).2]
      refine ⟨?_, fun i hi => ?_⟩
      · rcases h2 914 k' with q | q
        · exact absurd q.1 (by decide)
        · rw [q, wr_at, if_neg (fun y => z y.2)]; exact b.1
      · have e10 : setR E k r n 10 (3 * k' + i) = E 10 (3 * k' + i) := by
          unfold setR
          rw [if_neg (by omega), if_neg (by omega)]
        rw [e10]
        rcases h2 913 (3 * k' + i) with q | q
        · omega
        · rw [q, wr_at, if_neg (fun y => absurd y.1 (by decide))]; exact b.2 i hi
theorem sh8 : ∀ n, n < 4 → 1 ≤ n → (nI 1 <<< (nI (3 * n) &&& 31) - nI 1).toInt64.toInt = ((8 ^ n - 1 : Nat) : Int) := by decide +kernel
theorem M_rule {l : Launch} {A : AS} {k r n : Int32} {σ : St} {K : Int32 → St → Prop} (hM : MX A σ) (hK : ∀ σ', MX (op_rule A k r n).2 σ' → FrM σ σ' → K (op_rule A k r n).1 σ') : CallAt l 135 [.ref 900, .int k, .int r, .int n] σ K := by
  have hW := hM.1.1
  have hE := hM.2.1
  unfold op_rule at hK
  have bad : (inB k 4 && rI n 1 3 && rowOk r n.toNatClampNeg) = false → K (-1) σ := fun h => by
    rw [h] at hK
    exact hK σ hM FrM.rfl'
  refine CallAt.of (k := 135) (cd := k_X6_rule) ok_X6_rule (by decide) rfl rfl rfl ?_
  show V _ i_X6_rule k_X6_rule 0 [.ref 900, .int k, .int r, .int n, .null, .null, .null] [] _ _
  refine V_run ok_X6_rule 60 0 ?_
  simp (disch := omega) only [eng, c_X6_rule, r_X6_rule, tbl, true_and, Nat.reduceAdd, Nat.reduceLT, ↓reduceIte, n_eq, n_lt, n_le, n_cl, n_inT, nI_add, bI_eq0, bI_eq1, not_true_eq_false, not_false_eq_true, true_implies, false_implies, implies_true, and_true, Bool.not_eq_false, Bool.not_eq_true, Nat.reduceEqDiff, Nat.reduceLeDiff, Classical.not_not, List.length_cons, List.length_nil, Int.reduceAdd, z_cast, Nat.reducePow, false_or, Nat.reduceLT, Nat.sub_zero, Nat.le_refl]
  try simp only [iteP, Classical.not_not, Bool.not_eq_false, Bool.not_eq_true]
  refine m_rI (a := 0) (n := 3) rfl rfl ?_
  rw [← rI0 k 3]
  cases h1 : inB k 4 with
  | false =>
    simp (disch := omega) only [n_eq, n_lt, n_le, n_cl, n_inT, nI_add, bI_eq0, bI_eq1, not_true_eq_false, not_false_eq_true, true_implies, false_implies, implies_true, and_true, Bool.not_eq_false, Bool.not_eq_true, Nat.reduceEqDiff, Nat.reduceLeDiff, Classical.not_not, List.length_cons, List.length_nil, Int.reduceAdd, z_cast, Nat.reducePow, false_or, Nat.reduceLT, Nat.sub_zero, Nat.le_refl, true_and, ↓reduceIte, iteP, Bool.false_eq_true]
    exact bad (by rw [h1]; rfl)
  | true =>
    simp (disch := omega) only [n_eq, n_lt, n_le, n_cl, n_inT, nI_add, bI_eq0, bI_eq1, not_true_eq_false, not_false_eq_true, true_implies, false_implies, implies_true, and_true, Bool.not_eq_false, Bool.not_eq_true, Nat.reduceEqDiff, Nat.reduceLeDiff, Classical.not_not, List.length_cons, List.length_nil, Int.reduceAdd, z_cast, Nat.reducePow, false_or, Nat.reduceLT, Nat.sub_zero, Nat.le_refl, true_and, ↓reduceIte, iteP, Bool.true_eq_false]
    refine m_rI (a := 1) (n := 3) rfl rfl ?_
    rcases rng n 1 3 (by decide) (by decide) with ⟨g0, g⟩ | ⟨g0, g⟩ | ⟨g0, n', q1, q3, rfl⟩
    iterate 2
      · rw [g0]
        simp (disch := omega) only [n_eq, n_lt, n_le, n_cl, n_inT, nI_add, bI_eq0, bI_eq1, not_true_eq_false, not_false_eq_true, true_implies, false_implies, implies_true, and_true, Bool.not_eq_false, Bool.not_eq_true, Nat.reduceEqDiff, Nat.reduceLeDiff, Classical.not_not, List.length_cons, List.length_nil, Int.reduceAdd, z_cast, Nat.reducePow, false_or, Nat.reduceLT, Nat.sub_zero, Nat.le_refl, true_and, ↓reduceIte, iteP, Bool.false_eq_true]
        exact bad (by rw [h1, g0]; rfl)
    rw [g0]
    obtain ⟨k', hk', rfl⟩ := inB_of h1
    have p8 : (8 : Nat) ^ n' ≤ 512 := by
      rcases (show n' = 1 ∨ n' = 2 ∨ n' = 3 by omega) with rfl | rfl | rfl <;> decide
    have p1 : 1 ≤ (8 : Nat) ^ n' := Nat.pow_pos (by decide)
    simp (disch := omega) only [n_eq, n_lt, n_le, n_cl, n_inT, nI_add, bI_eq0, bI_eq1, not_true_eq_false, not_false_eq_true, true_implies, false_implies, implies_true, and_true, Bool.not_eq_false, Bool.not_eq_true, Nat.reduceEqDiff, Nat.reduceLeDiff, Classical.not_not, List.length_cons, List.length_nil, Int.reduceAdd, z_cast, Nat.reducePow, false_or, Nat.reduceLT, Nat.sub_zero, Nat.le_refl, true_and, ↓reduceIte, iteP, Bool.true_eq_false, pk_mul]
    refine m_rI (a := 0) (n := 8 ^ n' - 1) rfl (sh8 n' (by omega) q1) ?_
    rw [← rI0 r (8 ^ n' - 1), show 8 ^ n' - 1 + 1 = 8 ^ n' by omega]
    cases h2 : inB r (8 ^ n') with
    | false =>
      simp (disch := omega) only [n_eq, n_lt, n_le, n_cl, n_inT, nI_add, bI_eq0, bI_eq1, not_true_eq_false, not_false_eq_true, true_implies, false_implies, implies_true, and_true, Bool.not_eq_false, Bool.not_eq_true, Nat.reduceEqDiff, Nat.reduceLeDiff, Classical.not_not, List.length_cons, List.length_nil, Int.reduceAdd, z_cast, Nat.reducePow, false_or, Nat.reduceLT, Nat.sub_zero, Nat.le_refl, true_and, ↓reduceIte, iteP, Bool.false_eq_true]
      refine bad ?_
      rw [h1, g0, n_cl (by omega), Bool.true_and, Bool.true_and]
      cases h3 : rowOk r n' with
      | false => rfl
      | true =>
        obtain ⟨r', z1, rfl, z2, z3⟩ := rowOk_of h3
        rw [inB_n z1, decide_eq_true z2] at h2
        cases h2
    | true =>
      obtain ⟨r', hr', rfl⟩ := inB_of h2
      have hrow : rowOk (nI r') n' = decide (¬ pcnt (rset r' n') < n' ∧ ¬ 63 < rset r' n') := by
        rw [rowOk_n q3 q1 hr', rset_row q3 (by omega)]
      have hs := rset_lt r' n'
      have hp12 := pcF_le (rset r' n') 12
      have hpc : pcnt (rset r' n') ≤ 12 := hp12
      simp (disch := omega) only [n_eq, n_lt, n_le, n_cl, n_inT, nI_add, bI_eq0, bI_eq1, not_true_eq_false, not_false_eq_true, true_implies, false_implies, implies_true, and_true, Bool.not_eq_false, Bool.not_eq_true, Nat.reduceEqDiff, Nat.reduceLeDiff, Classical.not_not, List.length_cons, List.length_nil, Int.reduceAdd, z_cast, Nat.reducePow, false_or, Nat.reduceLT, Nat.sub_zero, Nat.le_refl, true_and, ↓reduceIte, iteP, Bool.true_eq_false]
      refine lp_rule1 l (by omega) q3 ?_ n' 0 (by omega)
      by_cases y1 : pcnt (rset r' n') < n'
      · refine V_run ok_X6_rule 60 48 ?_
        simp (disch := omega) only [eng, c_X6_rule, r_X6_rule, tbl, true_and, Nat.reduceAdd, Nat.reduceLT, ↓reduceIte, n_eq, n_lt, n_le, n_cl, n_inT, nI_add, bI_eq0, bI_eq1, not_true_eq_false, not_false_eq_true, true_implies, false_implies, implies_true, and_true, Bool.not_eq_false, Bool.not_eq_true, Nat.reduceEqDiff, Nat.reduceLeDiff, Classical.not_not, List.length_cons, List.length_nil, Int.reduceAdd, z_cast, Nat.reducePow, false_or, Nat.reduceLT, Nat.sub_zero, Nat.le_refl]
        try simp only [iteP, Classical.not_not, Bool.not_eq_false, Bool.not_eq_true]
        refine m_ones (by omega) ?_
        simp (disch := omega) only [n_eq, n_lt, n_le, n_cl, n_inT, nI_add, bI_eq0, bI_eq1, not_true_eq_false, not_false_eq_true, true_implies, false_implies, implies_true, and_true, Bool.not_eq_false, Bool.not_eq_true, Nat.reduceEqDiff, Nat.reduceLeDiff, Classical.not_not, List.length_cons, List.length_nil, Int.reduceAdd, z_cast, Nat.reducePow, false_or, Nat.reduceLT, Nat.sub_zero, Nat.le_refl, true_and, ↓reduceIte, iteP, y1]
        exact bad (by rw [h1, g0, n_cl (by omega), hrow, decide_eq_false (fun z => z.1 y1)]; rfl)
      by_cases y2 : 63 < rset r' n'
      · have y3 : ¬ rset r' n' ≤ 63 := by omega
        refine V_run ok_X6_rule 60 48 ?_
        simp (disch := omega) only [eng, c_X6_rule, r_X6_rule, tbl, true_and, Nat.reduceAdd, Nat.reduceLT, ↓reduceIte, n_eq, n_lt, n_le, n_cl, n_inT, nI_add, bI_eq0, bI_eq1, not_true_eq_false, not_false_eq_true, true_implies, false_implies, implies_true, and_true, Bool.not_eq_false, Bool.not_eq_true, Nat.reduceEqDiff, Nat.reduceLeDiff, Classical.not_not, List.length_cons, List.length_nil, Int.reduceAdd, z_cast, Nat.reducePow, false_or, Nat.reduceLT, Nat.sub_zero, Nat.le_refl]
        try simp only [iteP, Classical.not_not, Bool.not_eq_false, Bool.not_eq_true]
        refine m_ones (by omega) ?_
        simp (disch := omega) only [n_eq, n_lt, n_le, n_cl, n_inT, nI_add, bI_eq0, bI_eq1, not_true_eq_false, not_false_eq_true, true_implies, false_implies, implies_true, and_true, Bool.not_eq_false, Bool.not_eq_true, Nat.reduceEqDiff, Nat.reduceLeDiff, Classical.not_not, List.length_cons, List.length_nil, Int.reduceAdd, z_cast, Nat.reducePow, false_or, Nat.reduceLT, Nat.sub_zero, Nat.le_refl, true_and, ↓reduceIte, iteP, y1, y3]
        exact bad (by rw [h1, g0, n_cl (by omega), hrow, decide_eq_false (fun z => z.2 y2)]; rfl)
      have y3 : rset r' n' ≤ 63 := by omega
      have ok : rowOk (nI r') n' = true := by rw [hrow]; exact decide_eq_true ⟨y1, y2⟩
      obtain ⟨_, _, _, _, ok3⟩ := rowOk_of ok
      rw [h1, g0, n_cl (by omega), ok, Bool.and_self, Bool.and_self, if_pos rfl, n_cl (by omega), n_cl (by omega)] at hK
      refine V_run ok_X6_rule 60 48 ?_
      simp (disch := omega) only [eng, c_X6_rule, r_X6_rule, tbl, true_and, Nat.reduceAdd, Nat.reduceLT, ↓reduceIte, n_eq, n_lt, n_le, n_cl, n_inT, nI_add, bI_eq0, bI_eq1, not_true_eq_false, not_false_eq_true, true_implies, false_implies, implies_true, and_true, Bool.not_eq_false, Bool.not_eq_true, Nat.reduceEqDiff, Nat.reduceLeDiff, Classical.not_not, List.length_cons, List.length_nil, Int.reduceAdd, z_cast, Nat.reducePow, false_or, Nat.reduceLT, Nat.sub_zero, Nat.le_refl]
      try simp only [iteP, Classical.not_not, Bool.not_eq_false, Bool.not_eq_true]
      refine m_ones (by omega) ?_
      simp (disch := omega) only [n_eq, n_lt, n_le, n_cl, n_inT, nI_add, bI_eq0, bI_eq1, not_true_eq_false, not_false_eq_true, true_implies, false_implies, implies_true, and_true, Bool.not_eq_false, Bool.not_eq_true, Nat.reduceEqDiff, Nat.reduceLeDiff, Classical.not_not, List.length_cons, List.length_nil, Int.reduceAdd, z_cast, Nat.reducePow, false_or, Nat.reduceLT, Nat.sub_zero, Nat.le_refl, true_and, ↓reduceIte, iteP, y1, y3]
      refine lp_rule2 l hW hE hk' ?_ (A.1 11 k') 0 (by omega)
      refine V_run ok_X6_rule 60 84 ?_
      simp (disch := omega) only [eng, c_X6_rule, r_X6_rule, tbl, true_and, Nat.reduceAdd, Nat.reduceLT, ↓reduceIte, n_eq, n_lt, n_le, n_cl, n_inT, nI_add, bI_eq0, bI_eq1, not_true_eq_false, not_false_eq_true, true_implies, false_implies, implies_true, and_true, Bool.not_eq_false, Bool.not_eq_true, Nat.reduceEqDiff, Nat.reduceLeDiff, Classical.not_not, List.length_cons, List.length_nil, Int.reduceAdd, z_cast, Nat.reducePow, false_or, Nat.reduceLT, Nat.sub_zero, Nat.le_refl]
      try simp only [iteP, Classical.not_not, Bool.not_eq_false, Bool.not_eq_true]
      refine lp_rule3 l (σ0 := wr σ 914 k' (nI n')) hk' (by omega) q3 (fun σ' g1 g2 => ?_) n' 0 _ (by omega) (fun j hj => absurd hj (Nat.not_lt_zero j)) (fun c j => Or.inr rfl)
      have fN : FrN σ σ' := by
        refine ⟨fun c z1 z2 => funext fun j => ?_, fun j _ _ _ => ?_⟩
        · rcases g2 c j with q | q
          · omega
          · rw [q, wr_at, if_neg (by omega)]
        · rcases g2 900 j with q | q
          · omega
          · rw [q, wr_at, if_neg (by omega)]
      refine hK σ' (hM.es fN (Wf_setR hW hk' q1 q3 ?_) (ME_setR hW hE q3 g1 g2)) fN.m
      rw [rset_row q3 (by omega)]; exact decide_eq_true ⟨y1, y2⟩
