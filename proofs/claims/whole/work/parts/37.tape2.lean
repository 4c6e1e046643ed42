/-! bytes of a long -/
def bL (w : Int64) (i : Nat) : Int64 := w >>> ((nI (8 * i)).toInt64 &&& 63) &&& 255
def bN (w : Int64) (i : Nat) : Nat := (bL w i).toBitVec.toNat
theorem bN_lt (w : Int64) (i : Nat) : bN w i < 256 := by
  unfold bN bL
  rw [show ∀ a b : Int64, (a &&& b).toBitVec = a.toBitVec &&& b.toBitVec from fun _ _ => rfl, BitVec.toNat_and]
  exact Nat.lt_of_le_of_lt Nat.and_le_right (by decide)
theorem bL_N (w : Int64) (i : Nat) : bL w i = lN (bN w i) := by
  unfold bN lN
  apply Int64.toBitVec_inj.1
  show (bL w i).toBitVec = BitVec.ofNat 64 (bL w i).toBitVec.toNat
  simp
theorem bL_i (w : Int64) (i : Nat) : (bL w i).toInt32 = nI (bN w i) := by rw [bL_N, lN_i]
theorem x_byteOf {l : Launch} {w : Int64} {i : Nat} {σ : St} {K : Int32 → St → Prop} (hi : i < 8) (hK : K (nI (bN w i)) σ) : CallAt l 55 [.ref 400, .long w, .int (nI i)] σ K := by
  refine CallAt.of (k := 55) (cd := k_X4_byteOf) ok_X4_byteOf (by decide) rfl rfl rfl ?_
  show V _ i_X4_byteOf k_X4_byteOf 0 [.ref 400, .long w, .null, .int (nI i)] [] _ _
  refine V_run ok_X4_byteOf 60 0 ?_
  simp (disch := omega) only [eng, c_X4_byteOf, r_X4_byteOf, tbl, true_and, Nat.reduceAdd, Nat.reduceLT, ↓reduceIte, n_eq, n_lt, n_le, n_cl, n_inT, nI_add, bI_eq0, bI_eq1, not_true_eq_false, not_false_eq_true, true_implies, false_implies, implies_true, and_true, Bool.not_eq_false, Bool.not_eq_true, Nat.reduceEqDiff, Nat.reduceLeDiff, Classical.not_not, List.length_cons, List.length_nil, Int.reduceAdd, z_cast, Nat.reducePow, false_or, Nat.reduceLT, Nat.sub_zero, Nat.le_refl, pk_mul]
  try simp only [iteP, Classical.not_not, Bool.not_eq_false, Bool.not_eq_true]
  rw [← bL_i] at hK
  exact hK
def okB (w : Int64) : Nat → Nat → Bool
  | 0, _ => true
  | n + 1, i => decide (32 ≤ bN w i ∧ bN w i ≤ 126) && okB w n (i + 1)
theorem okB_at {w : Int64} : ∀ {n i : Nat}, okB w n i = true → ∀ j, i ≤ j → j < i + n → 32 ≤ bN w j ∧ bN w j ≤ 126
  | 0, i, _, j, h1, h2 => by omega
  | n + 1, i, h, j, h1, h2 => by
    unfold okB at h
    simp only [Bool.and_eq_true, decide_eq_true_eq] at h
    by_cases e : j = i
    · subst e; exact h.1
    · exact okB_at h.2 j (by omega) (by omega)
/-- the tape with n bytes of w behind it -/
def tpW (tp : Nat → Nat) (ln : Nat) (w : Int64) (n : Nat) : Nat → Nat := fun j => if j < ln then tp j else bN w (n - 1 - (j - ln))
theorem lp_put2 (l : Launch) {tp : Nat → Nat} {ln n : Nat} {w : Int64} {σ0 : St} {K : Int32 → St → Prop} (hn : n ≤ 8) (hl : ln + n ≤ 120) (hK : ∀ σ, TpX (tpW tp ln w n) (ln + n) σ → (∀ k, k ≠ 400 → k ≠ 401 → σ k = σ0 k) → K (nI (ln + n)) σ) : ∀ (i : Nat) (σ : St), i ≤ n → TpX (tpW tp ln w n) (ln + (n - i)) σ → (∀ k, k ≠ 400 → k ≠ 401 → σ k = σ0 k) → V l i_X4_put k_X4_put 41 [.ref 400, .long w, .null, .int (nI n), .int (nI i + (-1))] [] σ K
  | 0, σ, hi, hT, hF => by
    have e : nI 0 + (-1) < nI 0 := by decide
    refine V_run ok_X4_put 60 41 ?_
    simp (disch := omega) only [eng, c_X4_put, r_X4_put, tbl, true_and, Nat.reduceAdd, Nat.reduceLT, ↓reduceIte, n_eq, n_lt, n_le, n_cl, n_inT, nI_add, bI_eq0, bI_eq1, not_true_eq_false, not_false_eq_true, true_implies, false_implies, implies_true, and_true, Bool.not_eq_false, Bool.not_eq_true, Nat.reduceEqDiff, Nat.reduceLeDiff, Classical.not_not, List.length_cons, List.length_nil, Int.reduceAdd, z_cast, Nat.reducePow, false_or, Nat.reduceLT, Nat.sub_zero, Nat.le_refl, e, hT.1]
    try simp only [iteP, Classical.not_not, Bool.not_eq_false, Bool.not_eq_true]
    exact hK σ hT hF
  | i + 1, σ, hi, hT, hF => by
    have e : nI (i + 1) + (-1) = nI i := pk_m1 i
    have e2 : ¬ i < 0 := by omega
    have e3 : ln + (n - (i + 1)) < 120 := by omega
    rw [e]
    refine V_run ok_X4_put 60 41 ?_
    simp (disch := omega) only [eng, c_X4_put, r_X4_put, tbl, true_and, Nat.reduceAdd, Nat.reduceLT, ↓reduceIte, n_eq, n_lt, n_le, n_cl, n_inT, nI_add, bI_eq0, bI_eq1, not_true_eq_false, not_false_eq_true, true_implies, false_implies, implies_true, and_true, Bool.not_eq_false, Bool.not_eq_true, Nat.reduceEqDiff, Nat.reduceLeDiff, Classical.not_not, List.length_cons, List.length_nil, Int.reduceAdd, z_cast, Nat.reducePow, false_or, Nat.reduceLT, Nat.sub_zero, Nat.le_refl, e2, hT.1]
    try simp only [iteP, Classical.not_not, Bool.not_eq_false, Bool.not_eq_true]
    refine x_byteOf (by omega) ?_
    simp (disch := omega) only [n_eq, n_lt, n_le, n_cl, n_inT, nI_add, bI_eq0, bI_eq1, not_true_eq_false, not_false_eq_true, true_implies, false_implies, implies_true, and_true, Bool.not_eq_false, Bool.not_eq_true, Nat.reduceEqDiff, Nat.reduceLeDiff, Classical.not_not, List.length_cons, List.length_nil, Int.reduceAdd, z_cast, Nat.reducePow, false_or, Nat.reduceLT, Nat.sub_zero, Nat.le_refl, true_and, ↓reduceIte, iteP, hT.1, wrq]
    have ih := lp_put2 l (tp := tp) hn hl hK i (wr (wr σ 401 (ln + (n - (i + 1))) (nI (bN w i))) 400 1 (nI (ln + (n - (i + 1)) + 1))) (by omega) ⟨?_, fun j hj => ?_⟩ (fun k h1 h2 => ?_)
    · exact ih
    · simp (disch := omega) only [wrq]; congr 1; omega
    · simp (disch := omega) only [wrq]
      by_cases z : j = ln + (n - (i + 1))
      · subst z
        simp (disch := omega) only [wrq]
        unfold tpW
        rw [if_neg (by omega)]
        congr 2; omega
      · simp (disch := omega) only [wrq]
        exact hT.2 j (by omega)
    · simp (disch := omega) only [wrq]; exact hF k h1 h2
theorem lp_put1 (l : Launch) {n : Nat} {w : Int64} {σ : St} {K : Int32 → St → Prop} (hn : n ≤ 8) : ∀ (m i : Nat), i + m = n → (okB w m i = false → K (-1) σ) → (okB w m i = true → V l i_X4_put k_X4_put 29 [.ref 400, .long w, .null, .int (nI n), .int (nI n)] [] σ K) → V l i_X4_put k_X4_put 10 [.ref 400, .long w, .null, .int (nI n), .int (nI i)] [] σ K
  | 0, i, h, hF, hK => by
    have hi : i = n := by omega
    subst hi
    refine V_run ok_X4_put 3 10 ?_
    simp (disch := omega) only [eng, c_X4_put, r_X4_put, tbl, true_and, Nat.reduceAdd, Nat.reduceLT, ↓reduceIte, n_eq, n_lt, n_le, n_cl, n_inT, nI_add, bI_eq0, bI_eq1, not_true_eq_false, not_false_eq_true, true_implies, false_implies, implies_true, and_true, Bool.not_eq_false, Bool.not_eq_true, Nat.reduceEqDiff, Nat.reduceLeDiff, Classical.not_not, List.length_cons, List.length_nil, Int.reduceAdd, z_cast, Nat.reducePow, false_or, Nat.reduceLT, Nat.sub_zero, Nat.le_refl]
    try simp only [iteP, Classical.not_not, Bool.not_eq_false, Bool.not_eq_true]
    exact hK rfl
  | m + 1, i, h, hF, hK => by
    have h1 : ¬ n ≤ i := by omega
    have hb := bN_lt w i
    unfold okB at hF hK
    refine V_run ok_X4_put 60 10 ?_
    simp (disch := omega) only [eng, c_X4_put, r_X4_put, tbl, true_and, Nat.reduceAdd, Nat.reduceLT, ↓reduceIte, n_eq, n_lt, n_le, n_cl, n_inT, nI_add, bI_eq0, bI_eq1, not_true_eq_false, not_false_eq_true, true_implies, false_implies, implies_true, and_true, Bool.not_eq_false, Bool.not_eq_true, Nat.reduceEqDiff, Nat.reduceLeDiff, Classical.not_not, List.length_cons, List.length_nil, Int.reduceAdd, z_cast, Nat.reducePow, false_or, Nat.reduceLT, Nat.sub_zero, Nat.le_refl, h1]
    try simp only [iteP, Classical.not_not, Bool.not_eq_false, Bool.not_eq_true]
    refine x_byteOf (by omega) ?_
    simp (disch := omega) only [n_eq, n_lt, n_le, n_cl, n_inT, nI_add, bI_eq0, bI_eq1, not_true_eq_false, not_false_eq_true, true_implies, false_implies, implies_true, and_true, Bool.not_eq_false, Bool.not_eq_true, Nat.reduceEqDiff, Nat.reduceLeDiff, Classical.not_not, List.length_cons, List.length_nil, Int.reduceAdd, z_cast, Nat.reducePow, false_or, Nat.reduceLT, Nat.sub_zero, Nat.le_refl, true_and, ↓reduceIte, iteP]
    refine ⟨fun h2 => ?_, fun h2 => x_byteOf (by omega) ?_⟩
    · exact hF (by simp; omega)
    · simp (disch := omega) only [n_eq, n_lt, n_le, n_cl, n_inT, nI_add, bI_eq0, bI_eq1, not_true_eq_false, not_false_eq_true, true_implies, false_implies, implies_true, and_true, Bool.not_eq_false, Bool.not_eq_true, Nat.reduceEqDiff, Nat.reduceLeDiff, Classical.not_not, List.length_cons, List.length_nil, Int.reduceAdd, z_cast, Nat.reducePow, false_or, Nat.reduceLT, Nat.sub_zero, Nat.le_refl, true_and, ↓reduceIte, iteP]
      refine ⟨fun h3 => ?_, fun h3 => ?_⟩
      · have e : decide (32 ≤ bN w i ∧ bN w i ≤ 126) = true := by simp; omega
        rw [e, Bool.true_and] at hF hK
        exact lp_put1 l hn m (i + 1) (by omega) hF hK
      · exact hF (by simp; omega)
theorem x_put8 {l : Launch} {tp : Nat → Nat} {ln : Nat} {x : Int32} {w : Int64} {σ : St} {K : Int32 → St → Prop} (hw : TpW tp ln) (hT : TpX tp ln σ) (h0 : x < nI 1 ∨ nI 8 < x → K (-1) σ) (h1 : ∀ n, 1 ≤ n → n ≤ 8 → x = nI n → okB w n 0 = false → K (-1) σ) (h2 : ∀ n, 1 ≤ n → n ≤ 8 → x = nI n → okB w n 0 = true → 120 < ln + n → K (-3) σ)
    (hK : ∀ n, 1 ≤ n → n ≤ 8 → x = nI n → okB w n 0 = true → ln + n ≤ 120 → ∀ σ', TpX (tpW tp ln w n) (ln + n) σ' → (∀ k, k ≠ 400 → k ≠ 401 → σ' k = σ k) → K (nI (ln + n)) σ') : CallAt l 54 [.ref 400, .long w, .int x] σ K := by
  have hl := hw.1
  refine CallAt.of (k := 54) (cd := k_X4_put) ok_X4_put (by decide) rfl rfl rfl ?_
  show V _ i_X4_put k_X4_put 0 [.ref 400, .long w, .null, .int x, .null] [] _ _
  refine V_run ok_X4_put 60 0 ?_
  simp (disch := omega) only [eng, c_X4_put, r_X4_put, tbl, true_and, Nat.reduceAdd, Nat.reduceLT, ↓reduceIte, n_eq, n_lt, n_le, n_cl, n_inT, nI_add, bI_eq0, bI_eq1, not_true_eq_false, not_false_eq_true, true_implies, false_implies, implies_true, and_true, Bool.not_eq_false, Bool.not_eq_true, Nat.reduceEqDiff, Nat.reduceLeDiff, Classical.not_not, List.length_cons, List.length_nil, Int.reduceAdd, z_cast, Nat.reducePow, false_or, Nat.reduceLT, Nat.sub_zero, Nat.le_refl]
  try simp only [iteP, Classical.not_not, Bool.not_eq_false, Bool.not_eq_true]
  refine ⟨fun z => h0 (Or.inl z), fun z => ⟨fun z2 => ?_, fun z2 => h0 (Or.inr (by rw [i_lt]; rw [i_le] at z2; omega))⟩⟩
  obtain ⟨n, hn, rfl⟩ : ∃ n : Nat, n ≤ 8 ∧ x = nI n := by
    rw [i_lt, nI_nn 1 (by decide)] at z
    rw [i_le, nI_nn 8 (by decide)] at z2
    have h3 : ¬ x < 0 := by rw [i_lt]; have : (0 : Int32).toInt = 0 := rfl; omega
    obtain ⟨j, hj, rfl⟩ := nI_of h3
    rw [nI_toInt hj] at z2
    exact ⟨j, by omega, rfl⟩
  have hn1 : 1 ≤ n := by rw [n_lt (by omega) (by decide)] at z; omega
  refine lp_put1 l hn n 0 (by omega) (h1 n hn1 hn rfl) (fun hok => ?_)
  have e1 := pk_sub (a := 120) (b := n) (by omega)
  have e2 := pk_sub (a := n) (b := 1) (by omega)
  refine V_run ok_X4_put 60 29 ?_
  simp (disch := omega) only [eng, c_X4_put, r_X4_put, tbl, true_and, Nat.reduceAdd, Nat.reduceLT, ↓reduceIte, n_eq, n_lt, n_le, n_cl, n_inT, nI_add, bI_eq0, bI_eq1, not_true_eq_false, not_false_eq_true, true_implies, false_implies, implies_true, and_true, Bool.not_eq_false, Bool.not_eq_true, Nat.reduceEqDiff, Nat.reduceLeDiff, Classical.not_not, List.length_cons, List.length_nil, Int.reduceAdd, z_cast, Nat.reducePow, false_or, Nat.reduceLT, Nat.sub_zero, Nat.le_refl, hT.1, e1, e2]
  try simp only [iteP, Classical.not_not, Bool.not_eq_false, Bool.not_eq_true]
  refine ⟨fun y => ?_, fun y => h2 n hn1 hn rfl hok (by omega)⟩
  have := lp_put2 l (tp := tp) (ln := ln) (w := w) hn (by omega) (hK n hn1 hn rfl hok (by omega)) n σ (Nat.le_refl n) ⟨by rw [hT.1]; congr 1; omega, fun j hj => ?_⟩ (fun _ _ _ => rfl)
  · rw [show nI n + (-1) = nI (n - 1) from sb_m1 hn1] at this
    exact this
  · have : j < ln := by omega
    rw [hT.2 j this]; unfold tpW; rw [if_pos this]
theorem x_kindOf {l : Launch} {c : Nat} {σ : St} {K : Int32 → St → Prop} (hc : c ≤ 126) (hK : K (nI (if c = 108 then 0 else if c = 100 then 1 else if c = 113 then 2 else if c = 106 then 3 else 4)) σ) : CallAt l 69 [.ref 400, .int (nI c)] σ K := by
  have e1 : Int32.ofInt 100 = nI 100 := rfl
  have e2 : Int32.ofInt 106 = nI 106 := rfl
  have e3 : Int32.ofInt 108 = nI 108 := rfl
  have e4 : Int32.ofInt 113 = nI 113 := rfl
  refine CallAt.of (k := 69) (cd := k_X4_kindOf) ok_X4_kindOf (by decide) rfl rfl rfl ?_
  show V _ i_X4_kindOf k_X4_kindOf 0 [.ref 400, .int (nI c)] [] _ _
  refine V_run ok_X4_kindOf 60 0 ?_
  simp (disch := omega) only [eng, c_X4_kindOf, r_X4_kindOf, tbl, true_and, Nat.reduceAdd, Nat.reduceLT, ↓reduceIte, n_eq, n_lt, n_le, n_cl, n_inT, nI_add, bI_eq0, bI_eq1, not_true_eq_false, not_false_eq_true, true_implies, false_implies, implies_true, and_true, Bool.not_eq_false, Bool.not_eq_true, Nat.reduceEqDiff, Nat.reduceLeDiff, Classical.not_not, List.length_cons, List.length_nil, Int.reduceAdd, z_cast, Nat.reducePow, false_or, Nat.reduceLT, Nat.sub_zero, Nat.le_refl, e1, e2, e3, e4]
  try simp only [iteP, Classical.not_not, Bool.not_eq_false, Bool.not_eq_true]
  refine ⟨fun h => ?_, fun h => ⟨fun h2 => ?_, fun h2 => ⟨fun h3 => ?_, fun h3 => ⟨fun h4 => ?_, fun h4 => ?_⟩⟩⟩⟩
  · subst h; exact hK
  · subst h2; exact hK
  · subst h3; exact hK
  · subst h4; exact hK
  · rw [if_neg h3, if_neg h, if_neg h4, if_neg h2] at hK; exact hK
