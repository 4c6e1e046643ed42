/-! sheets -/
def SWf (ln : Nat → Int32) (z : Nat → Nat) : Prop := ∀ s, s < 4 → (ln s = -1 ∨ ln s = nI 0 ∨ ln s = nI 1 ∨ ln s = nI 2) ∧ z s ≤ 24
def SX (ln : Nat → Int32) (z : Nat → Nat) (it : Nat → Int32) (σ : St) : Prop := (∀ s, s < 4 → σ 501 s = ln s ∧ σ 502 s = nI (z s)) ∧ ∀ j, j < 96 → σ 503 j = it j
def spB (z : Nat) (f n : Int32) : Bool := decide (0 ≤ n.toInt ∧ 0 ≤ f.toInt ∧ f.toInt + n.toInt ≤ z)
def lkR (ln : Nat → Int32) (z : Nat → Nat) (x y f n : Int32) : Int32 :=
  if inB x 4 && inB y 3 then (if ln x.toNatClampNeg = -1 then -11 else if ln x.toNatClampNeg = y then (if spB (z x.toNatClampNeg) f n then nI 0 else -13) else -12) else -1
def cvt (ln v : Int32) : Int32 := if ln = nI 0 then v.toInt8.toInt32 else if ln = nI 1 then v.toInt16.toInt32 else v
theorem x_isSheet {l : Launch} {x : Int32} {σ : St} {K : Int32 → St → Prop} (hK : K (bI (inB x 4)) σ) : CallAt l 37 [.int x] σ K := by
  refine CallAt.of (k := 37) (cd := k_X2_isSheet) ok_X2_isSheet (by decide) rfl rfl rfl ?_
  show V _ i_X2_isSheet k_X2_isSheet 0 [.int x] [] _ _
  refine V_run ok_X2_isSheet 50 0 ?_
  simp (disch := omega) only [eng, c_X2_isSheet, r_X2_isSheet, tbl, true_and, Nat.reduceAdd, Nat.reduceLT, ↓reduceIte, n_eq, n_lt, n_le, n_cl, n_inT, nI_add, bI_eq0, bI_eq1, not_true_eq_false, not_false_eq_true, true_implies, false_implies, implies_true, and_true, Bool.not_eq_false, Bool.not_eq_true, Nat.reduceEqDiff, Nat.reduceLeDiff, Classical.not_not, List.length_cons, List.length_nil, Int.reduceAdd, z_cast, Nat.reducePow, false_or, Nat.reduceLT, Nat.sub_zero, Nat.le_refl]
  try simp only [iteP, Classical.not_not, Bool.not_eq_false, Bool.not_eq_true]
  refine ⟨fun h => ?_, fun h => ⟨fun h2 => ?_, fun h2 => ?_⟩⟩
  · rw [inB_neg h] at hK; exact hK
  · rw [inB_big (by omega) h2] at hK; exact hK
  · rw [inB_ok (by omega) h h2] at hK; exact hK
theorem x_isLane {l : Launch} {x : Int32} {σ : St} {K : Int32 → St → Prop} (hK : K (bI (inB x 3)) σ) : CallAt l 38 [.int x] σ K := by
  refine CallAt.of (k := 38) (cd := k_X2_isLane) ok_X2_isLane (by decide) rfl rfl rfl ?_
  show V _ i_X2_isLane k_X2_isLane 0 [.int x] [] _ _
  refine V_run ok_X2_isLane 50 0 ?_
  simp (disch := omega) only [eng, c_X2_isLane, r_X2_isLane, tbl, true_and, Nat.reduceAdd, Nat.reduceLT, ↓reduceIte, n_eq, n_lt, n_le, n_cl, n_inT, nI_add, bI_eq0, bI_eq1, not_true_eq_false, not_false_eq_true, true_implies, false_implies, implies_true, and_true, Bool.not_eq_false, Bool.not_eq_true, Nat.reduceEqDiff, Nat.reduceLeDiff, Classical.not_not, List.length_cons, List.length_nil, Int.reduceAdd, z_cast, Nat.reducePow, false_or, Nat.reduceLT, Nat.sub_zero, Nat.le_refl]
  try simp only [iteP, Classical.not_not, Bool.not_eq_false, Bool.not_eq_true]
  refine ⟨fun h => ?_, fun h => ⟨fun h2 => ?_, fun h2 => ?_⟩⟩
  · rw [inB_neg h] at hK; exact hK
  · have : inB x 3 = false := by rw [i_lt, nI_nn 2 (by decide)] at h2; simp [inB]; omega
    rw [this] at hK; exact hK
  · have : inB x 3 = true := by rw [i_lt, nI_nn 2 (by decide)] at h2; rw [i_lt, nI_nn 0 (by decide)] at h; simp [inB]; omega
    rw [this] at hK; exact hK
theorem x_holds {l : Launch} {s : Nat} {ln : Nat → Int32} {σ : St} {K : Int32 → St → Prop} (hs : s < 4) (hl : σ 501 s = ln s) (hK : K (bI (decide (ln s ≠ -1))) σ) : CallAt l 39 [.ref 500, .int (nI s)] σ K := by
  by_cases h : ln s = -1
  · refine CallAt.of (k := 39) (cd := k_X2_holds) ok_X2_holds (by decide) rfl rfl rfl ?_
    show V _ i_X2_holds k_X2_holds 0 [.ref 500, .int (nI s)] [] _ _
    refine V_run ok_X2_holds 50 0 ?_
    simp (disch := omega) only [eng, c_X2_holds, r_X2_holds, tbl, true_and, Nat.reduceAdd, Nat.reduceLT, ↓reduceIte, n_eq, n_lt, n_le, n_cl, n_inT, nI_add, bI_eq0, bI_eq1, not_true_eq_false, not_false_eq_true, true_implies, false_implies, implies_true, and_true, Bool.not_eq_false, Bool.not_eq_true, Nat.reduceEqDiff, Nat.reduceLeDiff, Classical.not_not, List.length_cons, List.length_nil, Int.reduceAdd, z_cast, Nat.reducePow, false_or, Nat.reduceLT, Nat.sub_zero, Nat.le_refl, hl, h]
    try simp only [iteP, Classical.not_not, Bool.not_eq_false, Bool.not_eq_true]
    rw [decide_eq_false (by simpa using h)] at hK; exact hK
  · refine CallAt.of (k := 39) (cd := k_X2_holds) ok_X2_holds (by decide) rfl rfl rfl ?_
    show V _ i_X2_holds k_X2_holds 0 [.ref 500, .int (nI s)] [] _ _
    refine V_run ok_X2_holds 50 0 ?_
    simp (disch := omega) only [eng, c_X2_holds, r_X2_holds, tbl, true_and, Nat.reduceAdd, Nat.reduceLT, ↓reduceIte, n_eq, n_lt, n_le, n_cl, n_inT, nI_add, bI_eq0, bI_eq1, not_true_eq_false, not_false_eq_true, true_implies, false_implies, implies_true, and_true, Bool.not_eq_false, Bool.not_eq_true, Nat.reduceEqDiff, Nat.reduceLeDiff, Classical.not_not, List.length_cons, List.length_nil, Int.reduceAdd, z_cast, Nat.reducePow, false_or, Nat.reduceLT, Nat.sub_zero, Nat.le_refl, hl, h]
    try simp only [iteP, Classical.not_not, Bool.not_eq_false, Bool.not_eq_true]
    rw [decide_eq_true h] at hK; exact hK
theorem i_sub {z : Nat} {n : Int32} (hz : z ≤ 24) (hn : 0 ≤ n.toInt) : (nI z - n).toInt = (z : Int) - n.toInt := by
  rw [Int32.toInt_sub, nI_nn z (by omega)]
  have h2 : n.toInt < 2 ^ 31 := Int32.toInt_lt n
  exact Int.bmod_eq_of_le (by omega) (by omega)
theorem x_spans {l : Launch} {s : Nat} {z : Nat} {f n : Int32} {σ : St} {K : Int32 → St → Prop} (hs : s < 4) (hl : σ 502 s = nI z) (hz : z ≤ 24) (hK : K (bI (spB z f n)) σ) : CallAt l 40 [.ref 500, .int (nI s), .int f, .int n] σ K := by
  refine CallAt.of (k := 40) (cd := k_X2_spans) ok_X2_spans (by decide) rfl rfl rfl ?_
  show V _ i_X2_spans k_X2_spans 0 [.ref 500, .int (nI s), .int f, .int n] [] _ _
  refine V_run ok_X2_spans 50 0 ?_
  simp (disch := omega) only [eng, c_X2_spans, r_X2_spans, tbl, true_and, Nat.reduceAdd, Nat.reduceLT, ↓reduceIte, n_eq, n_lt, n_le, n_cl, n_inT, nI_add, bI_eq0, bI_eq1, not_true_eq_false, not_false_eq_true, true_implies, false_implies, implies_true, and_true, Bool.not_eq_false, Bool.not_eq_true, Nat.reduceEqDiff, Nat.reduceLeDiff, Classical.not_not, List.length_cons, List.length_nil, Int.reduceAdd, z_cast, Nat.reducePow, false_or, Nat.reduceLT, Nat.sub_zero, Nat.le_refl, hl]
  try simp only [iteP, Classical.not_not, Bool.not_eq_false, Bool.not_eq_true]
  have e0 : (nI 0).toInt = 0 := nI_nn 0 (by decide)
  refine ⟨fun h => ?_, fun h => ⟨fun h2 => ?_, fun h2 => ⟨fun h3 => ?_, fun h3 => ?_⟩⟩⟩
  · rw [i_lt, e0] at h
    have : spB z f n = false := by simp [spB]; omega
    rw [this] at hK; exact hK
  · rw [i_lt, e0] at h2
    have : spB z f n = false := by simp [spB]; omega
    rw [this] at hK; exact hK
  · rw [i_lt, e0] at h h2
    rw [i_lt, i_sub hz (by omega)] at h3
    have : spB z f n = false := by simp [spB]; omega
    rw [this] at hK; exact hK
  · rw [i_lt, e0] at h h2
    rw [i_lt, i_sub hz (by omega)] at h3
    have : spB z f n = true := by simp [spB]; omega
    rw [this] at hK; exact hK
theorem x_look {l : Launch} {ln : Nat → Int32} {z : Nat → Nat} {it : Nat → Int32} {x y f n : Int32} {σ : St} {K : Int32 → St → Prop} (hw : SWf ln z) (hS : SX ln z it σ) (hK : K (lkR ln z x y f n) σ) : CallAt l 41 [.ref 500, .int x, .int y, .int f, .int n] σ K := by
  unfold lkR at hK
  refine CallAt.of (k := 41) (cd := k_X2_look) ok_X2_look (by decide) rfl rfl rfl ?_
  show V _ i_X2_look k_X2_look 0 [.ref 500, .int x, .int y, .int f, .int n] [] _ _
  refine V_run ok_X2_look 60 0 ?_
  simp (disch := omega) only [eng, c_X2_look, r_X2_look, tbl, true_and, Nat.reduceAdd, Nat.reduceLT, ↓reduceIte, n_eq, n_lt, n_le, n_cl, n_inT, nI_add, bI_eq0, bI_eq1, not_true_eq_false, not_false_eq_true, true_implies, false_implies, implies_true, and_true, Bool.not_eq_false, Bool.not_eq_true, Nat.reduceEqDiff, Nat.reduceLeDiff, Classical.not_not, List.length_cons, List.length_nil, Int.reduceAdd, z_cast, Nat.reducePow, false_or, Nat.reduceLT, Nat.sub_zero, Nat.le_refl]
  try simp only [iteP, Classical.not_not, Bool.not_eq_false, Bool.not_eq_true]
  refine x_isSheet ?_
  simp (disch := omega) only [n_eq, n_lt, n_le, n_cl, n_inT, nI_add, bI_eq0, bI_eq1, not_true_eq_false, not_false_eq_true, true_implies, false_implies, implies_true, and_true, Bool.not_eq_false, Bool.not_eq_true, Nat.reduceEqDiff, Nat.reduceLeDiff, Classical.not_not, List.length_cons, List.length_nil, Int.reduceAdd, z_cast, Nat.reducePow, false_or, Nat.reduceLT, Nat.sub_zero, Nat.le_refl, true_and, ↓reduceIte, iteP]
  refine ⟨fun h => ?_, fun h1 => x_isLane ?_⟩
  · rw [h] at hK; exact hK
  simp (disch := omega) only [n_eq, n_lt, n_le, n_cl, n_inT, nI_add, bI_eq0, bI_eq1, not_true_eq_false, not_false_eq_true, true_implies, false_implies, implies_true, and_true, Bool.not_eq_false, Bool.not_eq_true, Nat.reduceEqDiff, Nat.reduceLeDiff, Classical.not_not, List.length_cons, List.length_nil, Int.reduceAdd, z_cast, Nat.reducePow, false_or, Nat.reduceLT, Nat.sub_zero, Nat.le_refl, true_and, ↓reduceIte, iteP]
  refine ⟨fun h2 => ?_, fun h => ?_⟩
  case refine_2 => rw [h, Bool.and_false] at hK; exact hK
  obtain ⟨s, hs, rfl⟩ := inB_of h1
  have e := hS.1 s hs
  have w := hw s hs
  rw [h1, h2, Bool.and_self, if_pos rfl, n_cl (by omega)] at hK
  refine x_holds hs e.1 ?_
  simp (disch := omega) only [n_eq, n_lt, n_le, n_cl, n_inT, nI_add, bI_eq0, bI_eq1, not_true_eq_false, not_false_eq_true, true_implies, false_implies, implies_true, and_true, Bool.not_eq_false, Bool.not_eq_true, Nat.reduceEqDiff, Nat.reduceLeDiff, Classical.not_not, List.length_cons, List.length_nil, Int.reduceAdd, z_cast, Nat.reducePow, false_or, Nat.reduceLT, Nat.sub_zero, Nat.le_refl, true_and, ↓reduceIte, iteP, e, decide_eq_true_eq, decide_eq_false_iff_not, ne_eq]
  refine ⟨fun h3 => ⟨fun h4 => ?_, fun h4 => ?_⟩, fun h3 => ?_⟩
  · rw [if_neg h3, if_pos h4] at hK
    refine x_spans hs e.2 w.2 ?_
    simp (disch := omega) only [n_eq, n_lt, n_le, n_cl, n_inT, nI_add, bI_eq0, bI_eq1, not_true_eq_false, not_false_eq_true, true_implies, false_implies, implies_true, and_true, Bool.not_eq_false, Bool.not_eq_true, Nat.reduceEqDiff, Nat.reduceLeDiff, Classical.not_not, List.length_cons, List.length_nil, Int.reduceAdd, z_cast, Nat.reducePow, false_or, Nat.reduceLT, Nat.sub_zero, Nat.le_refl, true_and, ↓reduceIte, iteP]
    refine ⟨fun h5 => ?_, fun h5 => ?_⟩
    · rw [h5] at hK; exact hK
    · rw [h5] at hK; exact hK
  · rw [if_neg h3, if_neg h4] at hK; exact hK
  · rw [if_pos h3] at hK; exact hK
theorem x_get {l : Launch} {s i : Nat} {σ : St} {K : Int32 → St → Prop} (hs : s < 4) (hi : i < 24) (hK : K (σ 503 (24 * s + i)) σ) : CallAt l 43 [.ref 500, .int (nI s), .int (nI i)] σ K := by
  have e : s * 24 + i = 24 * s + i := by omega
  refine CallAt.of (k := 43) (cd := k_X2_get) ok_X2_get (by decide) rfl rfl rfl ?_
  show V _ i_X2_get k_X2_get 0 [.ref 500, .int (nI s), .int (nI i)] [] _ _
  refine V_run ok_X2_get 50 0 ?_
  simp (disch := omega) only [eng, c_X2_get, r_X2_get, tbl, true_and, Nat.reduceAdd, Nat.reduceLT, ↓reduceIte, n_eq, n_lt, n_le, n_cl, n_inT, nI_add, bI_eq0, bI_eq1, not_true_eq_false, not_false_eq_true, true_implies, false_implies, implies_true, and_true, Bool.not_eq_false, Bool.not_eq_true, Nat.reduceEqDiff, Nat.reduceLeDiff, Classical.not_not, List.length_cons, List.length_nil, Int.reduceAdd, z_cast, Nat.reducePow, false_or, Nat.reduceLT, Nat.sub_zero, Nat.le_refl, pk_mul]
  try simp only [iteP, Classical.not_not, Bool.not_eq_false, Bool.not_eq_true]
  rw [e]; exact hK
theorem x_put {l : Launch} {s i : Nat} {ln v : Int32} {σ : St} {K : Int32 → St → Prop} (hs : s < 4) (hi : i < 24) (hl : σ 501 s = ln) (hK : K 0 (wr σ 503 (24 * s + i) (cvt ln v))) : CallAt l 44 [.ref 500, .int (nI s), .int (nI i), .int v] σ K := by
  have e : s * 24 + i = 24 * s + i := by omega
  unfold cvt at hK
  refine CallAt.of (k := 44) (cd := k_X2_put) ok_X2_put (by decide) rfl rfl rfl ?_
  show V _ i_X2_put k_X2_put 0 [.ref 500, .int (nI s), .int (nI i), .int v, .null] [] _ _
  refine V_run ok_X2_put 50 0 ?_
  simp (disch := omega) only [eng, c_X2_put, r_X2_put, tbl, true_and, Nat.reduceAdd, Nat.reduceLT, ↓reduceIte, n_eq, n_lt, n_le, n_cl, n_inT, nI_add, bI_eq0, bI_eq1, not_true_eq_false, not_false_eq_true, true_implies, false_implies, implies_true, and_true, Bool.not_eq_false, Bool.not_eq_true, Nat.reduceEqDiff, Nat.reduceLeDiff, Classical.not_not, List.length_cons, List.length_nil, Int.reduceAdd, z_cast, Nat.reducePow, false_or, Nat.reduceLT, Nat.sub_zero, Nat.le_refl, pk_mul, hl]
  try simp only [iteP, Classical.not_not, Bool.not_eq_false, Bool.not_eq_true]
  rw [e]
  refine ⟨fun h => ⟨fun h2 => ?_, fun h2 => ?_⟩, fun h => ?_⟩
  · rw [if_neg h, if_neg h2] at hK; exact hK
  · rw [if_neg h, if_pos h2] at hK; exact hK
  · rw [if_pos h] at hK; exact hK
theorem x_move {l : Launch} {f i t j n : Nat} {σ : St} {K : Int32 → St → Prop} (hf : f < 4) (ht : t < 4) (hi : i + n ≤ 24) (hj : j + n ≤ 24) (hK : K 0 (wrR σ 503 (va_cpy (σ 503) (σ 503) (24 * f + i) (24 * t + j) n))) : CallAt l 45 [.ref 500, .int (nI f), .int (nI i), .int (nI t), .int (nI j), .int (nI n)] σ K := by
  have e : f * 24 + i = 24 * f + i := by omega
  have e2 : t * 24 + j = 24 * t + j := by omega
  have g1 : 24 * f + i + n ≤ 96 := by omega
  have g2 : 24 * t + j + n ≤ 96 := by omega
  refine CallAt.of (k := 45) (cd := k_X2_move) ok_X2_move (by decide) rfl rfl rfl ?_
  show V _ i_X2_move k_X2_move 0 [.ref 500, .int (nI f), .int (nI i), .int (nI t), .int (nI j), .int (nI n)] [] _ _
  refine V_run ok_X2_move 50 0 ?_
  simp (disch := omega) only [eng, c_X2_move, r_X2_move, tbl, true_and, Nat.reduceAdd, Nat.reduceLT, ↓reduceIte, n_eq, n_lt, n_le, n_cl, n_inT, nI_add, bI_eq0, bI_eq1, not_true_eq_false, not_false_eq_true, true_implies, false_implies, implies_true, and_true, Bool.not_eq_false, Bool.not_eq_true, Nat.reduceEqDiff, Nat.reduceLeDiff, Classical.not_not, List.length_cons, List.length_nil, Int.reduceAdd, z_cast, Nat.reducePow, false_or, Nat.reduceLT, Nat.sub_zero, Nat.le_refl, pk_mul, n_neg, e, e2, g1, g2]
  try simp only [iteP, Classical.not_not, Bool.not_eq_false, Bool.not_eq_true]
  exact hK
/-- the first i of a sheet's places are 0 -/
def zr (it : Nat → Int32) (s i : Nat) : Nat → Int32 := fun j => if 24 * s ≤ j ∧ j < 24 * s + i then nI 0 else it j
theorem lp_renew (l : Launch) {s : Nat} {y n0 : Int32} {σ0 : St} {K : Int32 → St → Prop} (hs : s < 4) (hK : K 0 (wrR σ0 503 (zr (σ0 503) s 24))) : ∀ (n i : Nat), i + n = 24 → V l i_X2_renew k_X2_renew 12 [.ref 500, .int (nI s), .int y, .int n0, .int (nI i)] [] (wrR σ0 503 (zr (σ0 503) s i)) K
  | 0, i, hi => by
    have hi : i = 24 := by omega
    subst hi
    refine V_run ok_X2_renew 50 12 ?_
    simp (disch := omega) only [eng, c_X2_renew, r_X2_renew, tbl, true_and, Nat.reduceAdd, Nat.reduceLT, ↓reduceIte, n_eq, n_lt, n_le, n_cl, n_inT, nI_add, bI_eq0, bI_eq1, not_true_eq_false, not_false_eq_true, true_implies, false_implies, implies_true, and_true, Bool.not_eq_false, Bool.not_eq_true, Nat.reduceEqDiff, Nat.reduceLeDiff, Classical.not_not, List.length_cons, List.length_nil, Int.reduceAdd, z_cast, Nat.reducePow, false_or, Nat.reduceLT, Nat.sub_zero, Nat.le_refl]
    try simp only [iteP, Classical.not_not, Bool.not_eq_false, Bool.not_eq_true]
    exact hK
  | n + 1, i, hi => by
    have hi1 : ¬ 24 ≤ i := by omega
    have ih := lp_renew l (y := y) (n0 := n0) hs hK n (i + 1) (by omega)
    have e : s * 24 + i = 24 * s + i := by omega
    refine V_run ok_X2_renew 50 12 ?_
    simp (disch := omega) only [eng, c_X2_renew, r_X2_renew, tbl, true_and, Nat.reduceAdd, Nat.reduceLT, ↓reduceIte, n_eq, n_lt, n_le, n_cl, n_inT, nI_add, bI_eq0, bI_eq1, not_true_eq_false, not_false_eq_true, true_implies, false_implies, implies_true, and_true, Bool.not_eq_false, Bool.not_eq_true, Nat.reduceEqDiff, Nat.reduceLeDiff, Classical.not_not, List.length_cons, List.length_nil, Int.reduceAdd, z_cast, Nat.reducePow, false_or, Nat.reduceLT, Nat.sub_zero, Nat.le_refl, hi1, pk_mul, e]
    try simp only [iteP, Classical.not_not, Bool.not_eq_false, Bool.not_eq_true]
    have e2 : wr (wrR σ0 503 (zr (σ0 503) s i)) 503 (24 * s + i) (nI 0) = wrR σ0 503 (zr (σ0 503) s (i + 1)) := by
      funext k j
      rw [wr_at, wrR_at, wrR_at]
      by_cases hk : k = 503
      · subst hk
        simp only [true_and, if_true, zr]
        by_cases hj : j = 24 * s + i
        · rw [if_pos hj, if_pos (by omega)]
        · rw [if_neg hj]
          by_cases h2 : 24 * s ≤ j ∧ j < 24 * s + i
          · rw [if_pos h2, if_pos (by omega)]
          · rw [if_neg h2, if_neg (by omega)]
      · simp [hk]
    rw [e2]
    exact ih
theorem x_renew {l : Launch} {s n : Nat} {y : Int32} {σ : St} {K : Int32 → St → Prop} (hs : s < 4) (hK : K 0 (wrR (wr (wr σ 501 s y) 502 s (nI n)) 503 (zr (σ 503) s 24))) : CallAt l 42 [.ref 500, .int (nI s), .int y, .int (nI n)] σ K := by
  refine CallAt.of (k := 42) (cd := k_X2_renew) ok_X2_renew (by decide) rfl rfl rfl ?_
  show V _ i_X2_renew k_X2_renew 0 [.ref 500, .int (nI s), .int y, .int (nI n), .null] [] _ _
  refine V_run ok_X2_renew 50 0 ?_
  simp (disch := omega) only [eng, c_X2_renew, r_X2_renew, tbl, true_and, Nat.reduceAdd, Nat.reduceLT, ↓reduceIte, n_eq, n_lt, n_le, n_cl, n_inT, nI_add, bI_eq0, bI_eq1, not_true_eq_false, not_false_eq_true, true_implies, false_implies, implies_true, and_true, Bool.not_eq_false, Bool.not_eq_true, Nat.reduceEqDiff, Nat.reduceLeDiff, Classical.not_not, List.length_cons, List.length_nil, Int.reduceAdd, z_cast, Nat.reducePow, false_or, Nat.reduceLT, Nat.sub_zero, Nat.le_refl]
  try simp only [iteP, Classical.not_not, Bool.not_eq_false, Bool.not_eq_true]
  have e : wr (wr σ 501 s y) 502 s (nI n) = wrR (wr (wr σ 501 s y) 502 s (nI n)) 503 (zr ((wr (wr σ 501 s y) 502 s (nI n)) 503) s 0) := by
    funext k j
    rw [wrR_at]
    by_cases hk : k = 503
    · subst hk
      have : ∀ j, zr ((wr (wr σ 501 s y) 502 s (nI n)) 503) s 0 j = (wr (wr σ 501 s y) 502 s (nI n)) 503 j := fun j => by unfold zr; rw [if_neg (by omega)]
      rw [if_pos rfl, this]
    · rw [if_neg hk]
  rw [e]
  refine lp_renew l hs ?_ 24 0 (by omega)
  have e3 : (wr (wr σ 501 s y) 502 s (nI n)) 503 = σ 503 := by simp (disch := omega) only [wrq]
  rw [e3]
  exact hK
