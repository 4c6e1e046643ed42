/-! sheets -/
def setS (A : AS) (ln : Nat → Int32) (z : Nat → Nat) (it : Nat → Int32) : AS := (A.1, A.2.1, A.2.2.1, (ln, z, it))
theorem CX.sh {A : AS} {ln : Nat → Int32} {z : Nat → Nat} {it : Nat → Int32} {σ σ' : St} (h : CX A σ) (hf : ∀ k, k < 501 ∨ 504 ≤ k → σ' k = σ k) (hw : SWf ln z) (hS : SX ln z it σ') : CX (setS A ln z it) σ' := by
  obtain ⟨a1, a2, a3, a4, a5, a6⟩ := h
  exact ⟨⟨a1.1, a1.2.1, a1.2.2.1, hw⟩, a2.frame (fun k h1 h2 => hf k (by omega)), by rw [hf 0 (by omega)]; exact a3, fun E' he => (a4 E' he).frame (fun k h1 h2 => hf k (by omega)), ⟨by rw [hf 400 (by omega)]; exact a5.1, fun i hi => by rw [hf 401 (by omega)]; exact a5.2 i hi⟩, hS⟩
theorem lk_of {ln : Nat → Int32} {z : Nat → Nat} {x y f n : Int32} (hw : SWf ln z) (h : lkR ln z x y f n = nI 0) : ∃ s, s < 4 ∧ x = nI s ∧ x.toNatClampNeg = s ∧ ln s = y ∧ inB y 3 = true ∧ spB (z s) f n = true := by
  unfold lkR at h
  split at h
  · rename_i c
    rw [Bool.and_eq_true] at c
    obtain ⟨s, hs, rfl⟩ := inB_of c.1
    rw [n_cl (by omega)] at h ⊢
    split at h
    · exact absurd h (by decide)
    · split at h
      · rename_i c2
        split at h
        · rename_i c3; exact ⟨s, hs, rfl, rfl, c2, c.2, c3⟩
        · exact absurd h (by decide)
      · exact absurd h (by decide)
  · exact absurd h (by decide)
theorem sp_of {z N : Nat} {f : Int32} (hz : z ≤ 24) (hN : N < 2147483648) (h : spB z f (nI N) = true) : ∃ a, f = nI a ∧ f.toNatClampNeg = a ∧ a + N ≤ z := by
  unfold spB at h
  rw [decide_eq_true_eq, nI_nn N hN] at h
  have h3 : ¬ f < 0 := by rw [i_lt]; show ¬ f.toInt < 0; omega
  obtain ⟨a, ha, rfl⟩ := nI_of h3
  rw [nI_toInt ha] at h
  exact ⟨a, rfl, n_cl ha, by omega⟩
def ui (it : Nat → Int32) (j : Nat) (v : Int32) : Nat → Int32 := fun j' => if j' = j then v else it j'
def op_item (A : AS) (x y i v : Int32) : Int32 × AS :=
  if lkR A.2.2.2.1 A.2.2.2.2.1 x y i (nI 1) = nI 0 then (nI 1, setS A A.2.2.2.1 A.2.2.2.2.1 (ui A.2.2.2.2.2 (24 * x.toNatClampNeg + i.toNatClampNeg) (cvt y v))) else (lkR A.2.2.2.1 A.2.2.2.2.1 x y i (nI 1), A)
theorem X_item {l : Launch} {A : AS} {x y i v : Int32} {σ : St} {K : Int32 → St → Prop} (hC : CX A σ) (hK : ∀ σ', CX (op_item A x y i v).2 σ' → FrX σ σ' → K (op_item A x y i v).1 σ') : CallAt l 101 [.ref 0, .int x, .int y, .int i, .int v] σ K := by
  have hw := hC.1.2.2.2
  have hS := hC.2.2.2.2.2
  unfold op_item at hK
  refine CallAt.of (k := 101) (cd := k_X5_item) ok_X5_item (by decide) rfl rfl rfl ?_
  show V _ i_X5_item k_X5_item 0 [.ref 0, .int x, .int y, .int i, .int v, .null] [] _ _
  refine V_run ok_X5_item 60 0 ?_
  simp (disch := omega) only [eng, c_X5_item, r_X5_item, tbl, true_and, Nat.reduceAdd, Nat.reduceLT, ↓reduceIte, n_eq, n_lt, n_le, n_cl, n_inT, nI_add, bI_eq0, bI_eq1, not_true_eq_false, not_false_eq_true, true_implies, false_implies, implies_true, and_true, Bool.not_eq_false, Bool.not_eq_true, Nat.reduceEqDiff, Nat.reduceLeDiff, Classical.not_not, List.length_cons, List.length_nil, Int.reduceAdd, z_cast, Nat.reducePow, false_or, Nat.reduceLT, Nat.sub_zero, Nat.le_refl]
  try simp only [iteP, Classical.not_not, Bool.not_eq_false, Bool.not_eq_true]
  refine x_look hw hS ?_
  by_cases h : lkR A.2.2.2.1 A.2.2.2.2.1 x y i (nI 1) = nI 0
  · rw [if_pos h] at hK
    obtain ⟨s, hs, rfl, hs2, hln, hy, hsp⟩ := lk_of hw h
    have hz := (hw s hs).2
    obtain ⟨a, rfl, ha2, ha⟩ := sp_of hz (by decide) hsp
    rw [hs2, ha2] at hK
    simp (disch := omega) only [n_eq, n_lt, n_le, n_cl, n_inT, nI_add, bI_eq0, bI_eq1, not_true_eq_false, not_false_eq_true, true_implies, false_implies, implies_true, and_true, Bool.not_eq_false, Bool.not_eq_true, Nat.reduceEqDiff, Nat.reduceLeDiff, Classical.not_not, List.length_cons, List.length_nil, Int.reduceAdd, z_cast, Nat.reducePow, false_or, Nat.reduceLT, Nat.sub_zero, Nat.le_refl, true_and, ↓reduceIte, iteP, h]
    refine x_put (ln := y) hs (by omega) (by rw [(hS.1 s hs).1, hln]) ?_
    refine hK _ (hC.sh (fun k hk => wr_ne k (by omega)) hw ⟨fun s' hs' => by rw [wr_ne 501 (by decide), wr_ne 502 (by decide)]; exact hS.1 s' hs', fun j hj => ?_⟩) (FrX.rfl'.wr (by decide))
    unfold ui
    by_cases z : j = 24 * s + a
    · rw [if_pos z, z]; simp [wr_at]
    · rw [if_neg z]; have := hS.2 j hj; simp [wr_at, z, this]
  · rw [if_neg h] at hK
    simp (disch := omega) only [n_eq, n_lt, n_le, n_cl, n_inT, nI_add, bI_eq0, bI_eq1, not_true_eq_false, not_false_eq_true, true_implies, false_implies, implies_true, and_true, Bool.not_eq_false, Bool.not_eq_true, Nat.reduceEqDiff, Nat.reduceLeDiff, Classical.not_not, List.length_cons, List.length_nil, Int.reduceAdd, z_cast, Nat.reducePow, false_or, Nat.reduceLT, Nat.sub_zero, Nat.le_refl, true_and, ↓reduceIte, iteP, h]
    exact hK σ hC FrX.rfl'
def op_drop (A : AS) (x : Int32) : Int32 × AS :=
  if inB x 4 = true then (if A.2.2.2.1 x.toNatClampNeg = -1 then (-11, A) else (nI (A.2.2.2.2.1 x.toNatClampNeg), setS A (ui A.2.2.2.1 x.toNatClampNeg (-1)) A.2.2.2.2.1 A.2.2.2.2.2)) else (-1, A)
theorem X_drop {l : Launch} {A : AS} {x : Int32} {σ : St} {K : Int32 → St → Prop} (hC : CX A σ) (hK : ∀ σ', CX (op_drop A x).2 σ' → FrX σ σ' → K (op_drop A x).1 σ') : CallAt l 100 [.ref 0, .int x] σ K := by
  have hw := hC.1.2.2.2
  have hS := hC.2.2.2.2.2
  unfold op_drop at hK
  refine CallAt.of (k := 100) (cd := k_X5_drop) ok_X5_drop (by decide) rfl rfl rfl ?_
  show V _ i_X5_drop k_X5_drop 0 [.ref 0, .int x] [] _ _
  refine V_run ok_X5_drop 60 0 ?_
  simp (disch := omega) only [eng, c_X5_drop, r_X5_drop, tbl, true_and, Nat.reduceAdd, Nat.reduceLT, ↓reduceIte, n_eq, n_lt, n_le, n_cl, n_inT, nI_add, bI_eq0, bI_eq1, not_true_eq_false, not_false_eq_true, true_implies, false_implies, implies_true, and_true, Bool.not_eq_false, Bool.not_eq_true, Nat.reduceEqDiff, Nat.reduceLeDiff, Classical.not_not, List.length_cons, List.length_nil, Int.reduceAdd, z_cast, Nat.reducePow, false_or, Nat.reduceLT, Nat.sub_zero, Nat.le_refl]
  try simp only [iteP, Classical.not_not, Bool.not_eq_false, Bool.not_eq_true]
  refine x_isSheet ?_
  cases h1 : inB x 4 with
  | false =>
    rw [h1] at hK
    simp (disch := omega) only [n_eq, n_lt, n_le, n_cl, n_inT, nI_add, bI_eq0, bI_eq1, not_true_eq_false, not_false_eq_true, true_implies, false_implies, implies_true, and_true, Bool.not_eq_false, Bool.not_eq_true, Nat.reduceEqDiff, Nat.reduceLeDiff, Classical.not_not, List.length_cons, List.length_nil, Int.reduceAdd, z_cast, Nat.reducePow, false_or, Nat.reduceLT, Nat.sub_zero, Nat.le_refl, true_and, ↓reduceIte, iteP, Bool.false_eq_true]
    exact hK σ hC FrX.rfl'
  | true =>
    obtain ⟨s, hs, rfl⟩ := inB_of h1
    rw [h1, if_pos rfl, n_cl (by omega)] at hK
    simp (disch := omega) only [n_eq, n_lt, n_le, n_cl, n_inT, nI_add, bI_eq0, bI_eq1, not_true_eq_false, not_false_eq_true, true_implies, false_implies, implies_true, and_true, Bool.not_eq_false, Bool.not_eq_true, Nat.reduceEqDiff, Nat.reduceLeDiff, Classical.not_not, List.length_cons, List.length_nil, Int.reduceAdd, z_cast, Nat.reducePow, false_or, Nat.reduceLT, Nat.sub_zero, Nat.le_refl, true_and, ↓reduceIte, iteP, Bool.true_eq_false]
    refine x_holds (ln := A.2.2.2.1) hs (hS.1 s hs).1 ?_
    have fz := (hS.1 s hs).2
    by_cases h : A.2.2.2.1 s = -1
    · rw [if_pos h] at hK
      rw [decide_eq_false (by simpa using h)]
      simp (disch := omega) only [n_eq, n_lt, n_le, n_cl, n_inT, nI_add, bI_eq0, bI_eq1, not_true_eq_false, not_false_eq_true, true_implies, false_implies, implies_true, and_true, Bool.not_eq_false, Bool.not_eq_true, Nat.reduceEqDiff, Nat.reduceLeDiff, Classical.not_not, List.length_cons, List.length_nil, Int.reduceAdd, z_cast, Nat.reducePow, false_or, Nat.reduceLT, Nat.sub_zero, Nat.le_refl, true_and, ↓reduceIte, iteP, Bool.false_eq_true]
      exact hK σ hC FrX.rfl'
    · rw [if_neg h] at hK
      rw [decide_eq_true h]
      simp (disch := omega) only [n_eq, n_lt, n_le, n_cl, n_inT, nI_add, bI_eq0, bI_eq1, not_true_eq_false, not_false_eq_true, true_implies, false_implies, implies_true, and_true, Bool.not_eq_false, Bool.not_eq_true, Nat.reduceEqDiff, Nat.reduceLeDiff, Classical.not_not, List.length_cons, List.length_nil, Int.reduceAdd, z_cast, Nat.reducePow, false_or, Nat.reduceLT, Nat.sub_zero, Nat.le_refl, true_and, ↓reduceIte, iteP, Bool.true_eq_false, fz, wrq]
      refine hK _ (hC.sh (fun k hk => wr_ne k (by omega)) (fun s' hs' => ⟨?_, (hw s' hs').2⟩) ⟨fun s' hs' => ⟨?_, ?_⟩, fun j hj => by rw [wr_ne 503 (by decide)]; exact hS.2 j hj⟩) (FrX.rfl'.wr (by decide))
      · unfold ui
        split
        · exact Or.inl rfl
        · exact (hw s' hs').1
      · unfold ui
        by_cases z : s' = s
        · rw [if_pos z, z]; simp [wr_at]
        · rw [if_neg z]; have := (hS.1 s' hs').1; simp [wr_at, z, this]
      · rw [wr_ne 502 (by decide)]; exact (hS.1 s' hs').2
def op_sheet (A : AS) (x y n : Int32) : Int32 × AS :=
  if (inB x 4 && inB y 3 && decide (n ≤ nI 24)) = true then (if n < nI 0 then (-14, A) else (n, setS A (ui A.2.2.2.1 x.toNatClampNeg y) (fun s => if s = x.toNatClampNeg then n.toNatClampNeg else A.2.2.2.2.1 s) (zr A.2.2.2.2.2 x.toNatClampNeg 24))) else (-1, A)
theorem X_sheet {l : Launch} {A : AS} {x y n : Int32} {σ : St} {K : Int32 → St → Prop} (hC : CX A σ) (hK : ∀ σ', CX (op_sheet A x y n).2 σ' → FrX σ σ' → K (op_sheet A x y n).1 σ') : CallAt l 99 [.ref 0, .int x, .int y, .int n] σ K := by
  have hw := hC.1.2.2.2
  have hS := hC.2.2.2.2.2
  unfold op_sheet at hK
  rcases Classical.propComplete (n ≤ nI 24) with g | g <;> rcases Classical.propComplete (n < nI 0) with g2 | g2
  all_goals
    have g3 : (nI 24 < n) = ¬ (n ≤ nI 24) := by rw [i_lt, i_le]; apply propext; omega
    have g4 : (nI 0 ≤ n) = ¬ (n < nI 0) := by rw [i_lt, i_le]; apply propext; omega
    rw [g] at g3
    rw [g2] at g4
    refine CallAt.of (k := 99) (cd := k_X5_sheet) ok_X5_sheet (by decide) rfl rfl rfl ?_
    show V _ i_X5_sheet k_X5_sheet 0 [.ref 0, .int x, .int y, .int n] [] _ _
    refine V_run ok_X5_sheet 60 0 ?_
    simp (disch := omega) only [eng, c_X5_sheet, r_X5_sheet, tbl, true_and, Nat.reduceAdd, Nat.reduceLT, ↓reduceIte, n_eq, n_lt, n_le, n_cl, n_inT, nI_add, bI_eq0, bI_eq1, not_true_eq_false, not_false_eq_true, true_implies, false_implies, implies_true, and_true, Bool.not_eq_false, Bool.not_eq_true, Nat.reduceEqDiff, Nat.reduceLeDiff, Classical.not_not, List.length_cons, List.length_nil, Int.reduceAdd, z_cast, Nat.reducePow, false_or, Nat.reduceLT, Nat.sub_zero, Nat.le_refl, g, g2, g3, g4]
    try simp only [iteP, Classical.not_not, Bool.not_eq_false, Bool.not_eq_true]
    refine x_isSheet ?_
    cases h1 : inB x 4
    case false =>
      rw [h1] at hK
      simp (disch := omega) only [n_eq, n_lt, n_le, n_cl, n_inT, nI_add, bI_eq0, bI_eq1, not_true_eq_false, not_false_eq_true, true_implies, false_implies, implies_true, and_true, Bool.not_eq_false, Bool.not_eq_true, Nat.reduceEqDiff, Nat.reduceLeDiff, Classical.not_not, List.length_cons, List.length_nil, Int.reduceAdd, z_cast, Nat.reducePow, false_or, Nat.reduceLT, Nat.sub_zero, Nat.le_refl, true_and, ↓reduceIte, iteP, Bool.false_eq_true]
      exact hK σ hC FrX.rfl'
    rw [h1, Bool.true_and] at hK
    simp (disch := omega) only [n_eq, n_lt, n_le, n_cl, n_inT, nI_add, bI_eq0, bI_eq1, not_true_eq_false, not_false_eq_true, true_implies, false_implies, implies_true, and_true, Bool.not_eq_false, Bool.not_eq_true, Nat.reduceEqDiff, Nat.reduceLeDiff, Classical.not_not, List.length_cons, List.length_nil, Int.reduceAdd, z_cast, Nat.reducePow, false_or, Nat.reduceLT, Nat.sub_zero, Nat.le_refl, true_and, ↓reduceIte, iteP, Bool.true_eq_false, g, g2, g3, g4]
    refine x_isLane ?_
    cases h2 : inB y 3
    case false =>
      rw [h2] at hK
      simp (disch := omega) only [n_eq, n_lt, n_le, n_cl, n_inT, nI_add, bI_eq0, bI_eq1, not_true_eq_false, not_false_eq_true, true_implies, false_implies, implies_true, and_true, Bool.not_eq_false, Bool.not_eq_true, Nat.reduceEqDiff, Nat.reduceLeDiff, Classical.not_not, List.length_cons, List.length_nil, Int.reduceAdd, z_cast, Nat.reducePow, false_or, Nat.reduceLT, Nat.sub_zero, Nat.le_refl, true_and, ↓reduceIte, iteP, Bool.false_eq_true]
      exact hK σ hC FrX.rfl'
    rw [h2, Bool.true_and] at hK
    simp only [g, g2, decide_true, decide_false, Bool.false_eq_true, if_true, if_false] at hK
    simp (disch := omega) only [n_eq, n_lt, n_le, n_cl, n_inT, nI_add, bI_eq0, bI_eq1, not_true_eq_false, not_false_eq_true, true_implies, false_implies, implies_true, and_true, Bool.not_eq_false, Bool.not_eq_true, Nat.reduceEqDiff, Nat.reduceLeDiff, Classical.not_not, List.length_cons, List.length_nil, Int.reduceAdd, z_cast, Nat.reducePow, false_or, Nat.reduceLT, Nat.sub_zero, Nat.le_refl, true_and, ↓reduceIte, iteP, Bool.true_eq_false, g, g2, g3, g4]
  · exact hK σ hC FrX.rfl'
  · obtain ⟨s, hs, rfl⟩ := inB_of h1
    obtain ⟨y', hy, rfl⟩ := inB_of h2
    obtain ⟨n', hn, rfl⟩ := nI_of (of_eq_false g2)
    have hn24 : n' ≤ 24 := by have := of_eq_true g; rwa [n_le (by omega) (by omega)] at this
    rw [n_cl (by omega), n_cl (by omega)] at hK
    refine x_renew hs ?_
    refine hK _ (hC.sh (fun k hk => ?_) (fun s' hs' => ⟨?_, ?_⟩) ⟨fun s' hs' => ⟨?_, ?_⟩, fun j hj => ?_⟩) (fun k hk => ?_)
    · simp (disch := omega) only [wrq]
    · unfold ui
      split
      · rcases (show y' = 0 ∨ y' = 1 ∨ y' = 2 by omega) with rfl | rfl | rfl <;> simp
      · exact (hw s' hs').1
    · split
      · exact hn24
      · exact (hw s' hs').2
    · unfold ui
      by_cases z : s' = s
      · rw [if_pos z, z]; simp (disch := omega) only [wrq]
      · rw [if_neg z]; simp (disch := omega) only [wrq]; exact (hS.1 s' hs').1
    · dsimp only
      by_cases z : s' = s
      · rw [if_pos z, z]; simp (disch := omega) only [wrq]
      · rw [if_neg z]; simp (disch := omega) only [wrq]; exact (hS.1 s' hs').2
    · have := hS.2 j hj
      simp (disch := omega) only [wrq]
      unfold zr
      rw [this]
    · simp (disch := omega) only [wrq]
  · exact hK σ hC FrX.rfl'
  · exact hK σ hC FrX.rfl'
