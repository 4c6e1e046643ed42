theorem inB_f {x : Int32} {n : Nat} (hn : n < 2147483648) (h : inB x n = false) : (x < nI 0 ∨ nI n ≤ x) = True ∧ ∀ j, j < n → (x = nI j) = False := by
  refine ⟨eq_true ?_, fun j hj => eq_false (fun z => ?_)⟩
  · by_cases h0 : x < nI 0
    · exact Or.inl h0
    · by_cases h1 : nI n ≤ x
      · exact Or.inr h1
      · rw [inB_ok hn h0 h1] at h; cases h
  · subst z
    rw [inB_n (by omega)] at h
    simp [hj] at h
def tl (E : Es) (p : Nat) (w : Int32) : Int32 := if w = nI 0 then nI (E 0 p) else if w = nI 1 then nI (E 5 p) else if w = nI 2 then nI (E 1 p) else if w = nI 3 then nI (E 2 p) else if w = nI 4 then nI (E 3 p) else if w = nI 5 then nI (E 4 p) else if w = nI 6 then nI (hous E p) else -1
def op_told (A : AS) (p w : Int32) : Int32 × AS := (if inB p (A.1 12 0) = true then tl A.1 p.toNatClampNeg w else -1, A)
theorem X_told {l : Launch} {A : AS} {p w : Int32} {σ : St} {K : Int32 → St → Prop} (hC : CX A σ) (hK : ∀ σ', CX (op_told A p w).2 σ' → FrX σ σ' → K (op_told A p w).1 σ') : CallAt l 76 [.ref 0, .int p, .int w] σ K := by
  have hW := hC.1.1
  have hE := hC.2.1
  have hn := hW.1
  have hk := hK σ hC FrX.rfl'
  unfold op_told at hk
  dsimp only at hk
  cases hw : inB w 7 with
  | false =>
    have q := inB_f (by decide) hw
    have tlz : ∀ p, tl A.1 p w = -1 := fun p => by
      unfold tl
      simp only [q.2 0 (by decide), q.2 1 (by decide), q.2 2 (by decide), q.2 3 (by decide), q.2 4 (by decide), q.2 5 (by decide), q.2 6 (by decide), if_false]
    refine CallAt.of (k := 76) (cd := k_X5_told) ok_X5_told (by decide) rfl rfl rfl ?_
    show V _ i_X5_told k_X5_told 0 [.ref 0, .int p, .int w] [] _ _
    refine V_run ok_X5_told 60 0 ?_
    simp (disch := omega) only [eng, c_X5_told, r_X5_told, tbl, true_and, Nat.reduceAdd, Nat.reduceLT, ↓reduceIte, n_eq, n_lt, n_le, n_cl, n_inT, nI_add, bI_eq0, bI_eq1, not_true_eq_false, not_false_eq_true, true_implies, false_implies, implies_true, and_true, Bool.not_eq_false, Bool.not_eq_true, Nat.reduceEqDiff, Nat.reduceLeDiff, Classical.not_not, List.length_cons, List.length_nil, Int.reduceAdd, z_cast, Nat.reducePow, false_or, Nat.reduceLT, Nat.sub_zero, Nat.le_refl, q.2 0 (by decide), q.2 1 (by decide), q.2 2 (by decide), q.2 3 (by decide), q.2 4 (by decide), q.2 5 (by decide), q.2 6 (by decide), q.1]
    try simp only [iteP, Classical.not_not, Bool.not_eq_false, Bool.not_eq_true]
    refine x_known e100 hE.1 hn ?_
    rw [tlz] at hk
    cases h1 : inB p (A.1 12 0)
    all_goals
      rw [h1] at hk
      simp (disch := omega) only [n_eq, n_lt, n_le, n_cl, n_inT, nI_add, bI_eq0, bI_eq1, not_true_eq_false, not_false_eq_true, true_implies, false_implies, implies_true, and_true, Bool.not_eq_false, Bool.not_eq_true, Nat.reduceEqDiff, Nat.reduceLeDiff, Classical.not_not, List.length_cons, List.length_nil, Int.reduceAdd, z_cast, Nat.reducePow, false_or, Nat.reduceLT, Nat.sub_zero, Nat.le_refl, true_and, ↓reduceIte, iteP, Bool.true_eq_false, Bool.false_eq_true]
      exact hk
  | true =>
    obtain ⟨j, hj, rfl⟩ := inB_of hw
    cases h1 : inB p (A.1 12 0) with
    | false =>
      rw [h1] at hk
      rcases (show j = 0 ∨ j = 1 ∨ j = 2 ∨ j = 3 ∨ j = 4 ∨ j = 5 ∨ j = 6 by omega) with rfl | rfl | rfl | rfl | rfl | rfl | rfl
      all_goals
        refine CallAt.of (k := 76) (cd := k_X5_told) ok_X5_told (by decide) rfl rfl rfl ?_
        show V _ i_X5_told k_X5_told 0 [.ref 0, .int p, .int (nI _)] [] _ _
        refine V_run ok_X5_told 60 0 ?_
        simp (disch := omega) only [eng, c_X5_told, r_X5_told, tbl, true_and, Nat.reduceAdd, Nat.reduceLT, ↓reduceIte, n_eq, n_lt, n_le, n_cl, n_inT, nI_add, bI_eq0, bI_eq1, not_true_eq_false, not_false_eq_true, true_implies, false_implies, implies_true, and_true, Bool.not_eq_false, Bool.not_eq_true, Nat.reduceEqDiff, Nat.reduceLeDiff, Classical.not_not, List.length_cons, List.length_nil, Int.reduceAdd, z_cast, Nat.reducePow, false_or, Nat.reduceLT, Nat.sub_zero, Nat.le_refl]
        try simp only [iteP, Classical.not_not, Bool.not_eq_false, Bool.not_eq_true]
        refine x_known e100 hE.1 hn ?_
        rw [h1]
        simp (disch := omega) only [n_eq, n_lt, n_le, n_cl, n_inT, nI_add, bI_eq0, bI_eq1, not_true_eq_false, not_false_eq_true, true_implies, false_implies, implies_true, and_true, Bool.not_eq_false, Bool.not_eq_true, Nat.reduceEqDiff, Nat.reduceLeDiff, Classical.not_not, List.length_cons, List.length_nil, Int.reduceAdd, z_cast, Nat.reducePow, false_or, Nat.reduceLT, Nat.sub_zero, Nat.le_refl, true_and, ↓reduceIte, iteP, Bool.true_eq_false, Bool.false_eq_true]
        exact hk
    | true =>
      rw [h1, if_pos rfl] at hk
      obtain ⟨p', hp, rfl⟩ := inB_of h1
      have hp12 := p12 hW hp
      have fp := hE.2.2.2.2.1 p' hp
      have w5 := (hW.2.2.2.1 p' hp).2.1
      rw [n_cl (by omega)] at hk
      unfold tl at hk
      rcases (show j = 0 ∨ j = 1 ∨ j = 2 ∨ j = 3 ∨ j = 4 ∨ j = 5 ∨ j = 6 by omega) with rfl | rfl | rfl | rfl | rfl | rfl | rfl
      all_goals
        simp (disch := omega) only [n_eq, n_lt, n_le, n_cl, n_inT, nI_add, bI_eq0, bI_eq1, not_true_eq_false, not_false_eq_true, true_implies, false_implies, implies_true, and_true, Bool.not_eq_false, Bool.not_eq_true, Nat.reduceEqDiff, Nat.reduceLeDiff, Classical.not_not, List.length_cons, List.length_nil, Int.reduceAdd, z_cast, Nat.reducePow, false_or, Nat.reduceLT, Nat.sub_zero, Nat.le_refl, if_true, if_false] at hk
        refine CallAt.of (k := 76) (cd := k_X5_told) ok_X5_told (by decide) rfl rfl rfl ?_
        show V _ i_X5_told k_X5_told 0 [.ref 0, .int (nI p'), .int (nI _)] [] _ _
        refine V_run ok_X5_told 60 0 ?_
        simp (disch := omega) only [eng, c_X5_told, r_X5_told, tbl, true_and, Nat.reduceAdd, Nat.reduceLT, ↓reduceIte, n_eq, n_lt, n_le, n_cl, n_inT, nI_add, bI_eq0, bI_eq1, not_true_eq_false, not_false_eq_true, true_implies, false_implies, implies_true, and_true, Bool.not_eq_false, Bool.not_eq_true, Nat.reduceEqDiff, Nat.reduceLeDiff, Classical.not_not, List.length_cons, List.length_nil, Int.reduceAdd, z_cast, Nat.reducePow, false_or, Nat.reduceLT, Nat.sub_zero, Nat.le_refl]
        try simp only [iteP, Classical.not_not, Bool.not_eq_false, Bool.not_eq_true]
        refine x_known e100 hE.1 hn ?_
        rw [h1]
        simp (disch := omega) only [n_eq, n_lt, n_le, n_cl, n_inT, nI_add, bI_eq0, bI_eq1, not_true_eq_false, not_false_eq_true, true_implies, false_implies, implies_true, and_true, Bool.not_eq_false, Bool.not_eq_true, Nat.reduceEqDiff, Nat.reduceLeDiff, Classical.not_not, List.length_cons, List.length_nil, Int.reduceAdd, z_cast, Nat.reducePow, false_or, Nat.reduceLT, Nat.sub_zero, Nat.le_refl, true_and, ↓reduceIte, iteP, Bool.true_eq_false, Bool.false_eq_true, fp]
      · exact hk
      · refine x_lives e100 hW hE ?_
        rw [show (inB (nI p') (A.1 12 0) && A.1 5 (nI p').toNatClampNeg == 1) = livX A.1 (nI p') from rfl, livX_n hn hp]
        cases h3 : (A.1 5 p' == 1)
        · have : A.1 5 p' = 0 := by have : A.1 5 p' ≠ 1 := by simpa using h3
                                    omega
          rw [this] at hk
          simp (disch := omega) only [n_eq, n_lt, n_le, n_cl, n_inT, nI_add, bI_eq0, bI_eq1, not_true_eq_false, not_false_eq_true, true_implies, false_implies, implies_true, and_true, Bool.not_eq_false, Bool.not_eq_true, Nat.reduceEqDiff, Nat.reduceLeDiff, Classical.not_not, List.length_cons, List.length_nil, Int.reduceAdd, z_cast, Nat.reducePow, false_or, Nat.reduceLT, Nat.sub_zero, Nat.le_refl, true_and, ↓reduceIte, iteP, Bool.true_eq_false, Bool.false_eq_true]
          exact hk
        · have : A.1 5 p' = 1 := by simpa using h3
          rw [this] at hk
          simp (disch := omega) only [n_eq, n_lt, n_le, n_cl, n_inT, nI_add, bI_eq0, bI_eq1, not_true_eq_false, not_false_eq_true, true_implies, false_implies, implies_true, and_true, Bool.not_eq_false, Bool.not_eq_true, Nat.reduceEqDiff, Nat.reduceLeDiff, Classical.not_not, List.length_cons, List.length_nil, Int.reduceAdd, z_cast, Nat.reducePow, false_or, Nat.reduceLT, Nat.sub_zero, Nat.le_refl, true_and, ↓reduceIte, iteP, Bool.true_eq_false, Bool.false_eq_true]
          exact hk
      · exact hk
      · exact hk
      · exact hk
      · exact hk
      · exact x_house e100 hW hE hp hk
def op_kin (A : AS) (p r : Int32) : Int32 × AS := (if (inB p (A.1 12 0) && inB r 6) = true then nI (kin A.1 p.toNatClampNeg r.toNatClampNeg) else -1, A)
theorem inB_lt {x : Int32} {n : Nat} (hn : n < 2147483648) (h : ¬ x < nI 0) : inB x (n + 1) = decide (¬ nI n < x) := by
  rw [i_lt, nI_nn 0 (by decide)] at h
  unfold inB
  have : (nI n < x) = ((n : Int) < x.toInt) := by rw [i_lt, nI_nn n hn]
  simp only [this]
  congr 1
  apply propext
  omega
theorem X_kin {l : Launch} {A : AS} {p r : Int32} {σ : St} {K : Int32 → St → Prop} (hC : CX A σ) (hK : ∀ σ', CX (op_kin A p r).2 σ' → FrX σ σ' → K (op_kin A p r).1 σ') : CallAt l 77 [.ref 0, .int p, .int r] σ K := by
  have hW := hC.1.1
  have hE := hC.2.1
  have hn := hW.1
  have hk := hK σ hC FrX.rfl'
  unfold op_kin at hk
  dsimp only at hk
  rcases Classical.propComplete (r < nI 0) with g | g <;> rcases Classical.propComplete (r ≤ nI 5) with g2 | g2
  all_goals
    refine CallAt.of (k := 77) (cd := k_X5_kin) ok_X5_kin (by decide) rfl rfl rfl ?_
    show V _ i_X5_kin k_X5_kin 0 [.ref 0, .int p, .int r] [] _ _
    refine V_run ok_X5_kin 60 0 ?_
    simp (disch := omega) only [eng, c_X5_kin, r_X5_kin, tbl, true_and, Nat.reduceAdd, Nat.reduceLT, ↓reduceIte, n_eq, n_lt, n_le, n_cl, n_inT, nI_add, bI_eq0, bI_eq1, not_true_eq_false, not_false_eq_true, true_implies, false_implies, implies_true, and_true, Bool.not_eq_false, Bool.not_eq_true, Nat.reduceEqDiff, Nat.reduceLeDiff, Classical.not_not, List.length_cons, List.length_nil, Int.reduceAdd, z_cast, Nat.reducePow, false_or, Nat.reduceLT, Nat.sub_zero, Nat.le_refl, g, g2]
    try simp only [iteP, Classical.not_not, Bool.not_eq_false, Bool.not_eq_true]
    refine x_known e100 hE.1 hn ?_
    cases h1 : inB p (A.1 12 0)
    case false =>
      rw [h1] at hk
      simp (disch := omega) only [n_eq, n_lt, n_le, n_cl, n_inT, nI_add, bI_eq0, bI_eq1, not_true_eq_false, not_false_eq_true, true_implies, false_implies, implies_true, and_true, Bool.not_eq_false, Bool.not_eq_true, Nat.reduceEqDiff, Nat.reduceLeDiff, Classical.not_not, List.length_cons, List.length_nil, Int.reduceAdd, z_cast, Nat.reducePow, false_or, Nat.reduceLT, Nat.sub_zero, Nat.le_refl, true_and, ↓reduceIte, iteP, Bool.false_eq_true]
      exact hk
    rw [h1, Bool.true_and] at hk
    simp (disch := omega) only [n_eq, n_lt, n_le, n_cl, n_inT, nI_add, bI_eq0, bI_eq1, not_true_eq_false, not_false_eq_true, true_implies, false_implies, implies_true, and_true, Bool.not_eq_false, Bool.not_eq_true, Nat.reduceEqDiff, Nat.reduceLeDiff, Classical.not_not, List.length_cons, List.length_nil, Int.reduceAdd, z_cast, Nat.reducePow, false_or, Nat.reduceLT, Nat.sub_zero, Nat.le_refl, true_and, ↓reduceIte, iteP, Bool.true_eq_false]
  · rw [inB_neg (of_eq_true g)] at hk; exact hk
  · rw [inB_neg (of_eq_true g)] at hk; exact hk
  rotate_left
  · rw [inB_lt (n := 5) (by decide) (of_eq_false g), decide_eq_false (by have := of_eq_false g2; simpa using this)] at hk; exact hk
  · have hr : inB r 6 = true := by rw [inB_lt (n := 5) (by decide) (of_eq_false g), decide_eq_true (by have := of_eq_true g2; simpa using this)]
    rw [hr, if_pos rfl] at hk
    obtain ⟨p', hp, rfl⟩ := inB_of h1
    obtain ⟨r', hr', rfl⟩ := inB_of hr
    have hp12 := p12 hW hp
    rw [n_cl (by omega), n_cl (by omega)] at hk
    exact x_related e100 hW hE hp (by omega) hk
theorem Wf_addT {E : Es} (hW : Wf E) {k w h o : Nat} (hn : E 12 1 < 12) (hk : k ≤ 3) (hw : w ≤ 99) (hh : h < E 12 0) (ho : o = 12 ∨ (o < E 12 0 ∧ o ≠ h)) : Wf (addT E k w h o) := by
  obtain ⟨a1, a2, a3, a4, a5, a6⟩ := hW
  have e0 : addT E k w h o 12 0 = E 12 0 := by simp [addT]
  have e1 : addT E k w h o 12 1 = E 12 1 + 1 := by simp [addT]
  have e2 : addT E k w h o 12 2 = E 12 2 := by simp [addT]
  refine ⟨by rw [e0]; exact a1, by rw [e1]; omega, by rw [e2]; exact a3, fun q hq => ?_, fun t ht => ?_, fun k' hk' => ?_⟩
  · rw [e0] at hq
    have := a4 q hq
    unfold WfP at this ⊢
    simpa [addT] using this
  · rw [e1] at ht
    by_cases z : t = E 12 1
    · subst z
      unfold WfT
      have x6 : addT E k w h o 6 (E 12 1) = k := by simp [addT]
      have x7 : addT E k w h o 7 (E 12 1) = w := by simp [addT]
      have x8 : addT E k w h o 8 (E 12 1) = h := by simp [addT]
      have x9 : addT E k w h o 9 (E 12 1) = o := by simp [addT]
      rw [x6, x7, x8, x9, e0]
      refine ⟨hk, hw, Or.inr (Or.inr hh), ?_, fun q => by omega, fun q => ?_⟩
      · rcases ho with q | q; exact Or.inl q; exact Or.inr q.1
      · rcases ho with y | y; omega; exact Ne.symm y.2
    · have := a5 t (by omega)
      unfold WfT at this ⊢
      rw [e0]
      simpa [addT, z] using this
  · have := a6 k' hk'
    unfold WfR at this ⊢
    simpa [addT] using this
def op_thing (A : AS) (k w h o : Int32) : Int32 × AS :=
  if (inB k 4 && inB w 100 && livX A.1 h && (if k.toNatClampNeg = 1 ∨ k.toNatClampNeg = 2 then livX A.1 o && decide (o ≠ h) else decide (o = nI 12))) = true then (if 12 ≤ A.1 12 1 then (-3, A) else (nI (A.1 12 1), setE A (addT A.1 k.toNatClampNeg w.toNatClampNeg h.toNatClampNeg o.toNatClampNeg))) else (-1, A)
theorem livX_of {E : Es} (hn : E 12 0 ≤ 12) {x : Int32} (h : livX E x = true) : ∃ j, j < E 12 0 ∧ x = nI j ∧ x.toNatClampNeg = j ∧ E 5 j = 1 := by
  unfold livX at h
  simp only [Bool.and_eq_true, beq_iff_eq] at h
  obtain ⟨j, hj, rfl⟩ := inB_of h.1
  rw [n_cl (by omega)] at h
  exact ⟨j, hj, rfl, n_cl (by omega), h.2⟩
theorem x_livX {l : Launch} {b : Nat} {E : Es} {x : Int32} {σ : St} {K : Int32 → St → Prop} (hb : Eb b) (hW : Wf E) (hE : XE b E σ) (hK : K (bI (livX E x)) σ) : CallAt l 4 [.ref b, .int x] σ K := x_lives hb hW hE hK
theorem X_thing {l : Launch} {A : AS} {k w h o : Int32} {σ : St} {K : Int32 → St → Prop} (hC : CX A σ) (hK : ∀ σ', CX (op_thing A k w h o).2 σ' → FrX σ σ' → K (op_thing A k w h o).1 σ') : CallAt l 78 [.ref 0, .int k, .int w, .int h, .int o] σ K := by
  have hW := hC.1.1
  have hE := hC.2.1
  have hn := hW.1
  unfold op_thing at hK
  have add : ∀ k' w' h' o' : Nat, k' ≤ 3 → w' ≤ 99 → h' < A.1 12 0 → (o' = 12 ∨ (o' < A.1 12 0 ∧ o' ≠ h')) → (∀ σ', CX (if 12 ≤ A.1 12 1 then ((-3 : Int32), A) else (nI (A.1 12 1), setE A (addT A.1 k' w' h' o'))).2 σ' → FrX σ σ' → K (if 12 ≤ A.1 12 1 then ((-3 : Int32), A) else (nI (A.1 12 1), setE A (addT A.1 k' w' h' o'))).1 σ') → CallAt l 9 [.ref 100, .int (nI k'), .int (nI w'), .int (nI h'), .int (nI o')] σ (fun r' σ' => K r' σ') := by
    intro k' w' h' o' q1 q2 q3 q4 hk
    refine x_addThing e100 hW hE (fun z => ?_) (fun z σ' hE' hf' => ?_)
    · rw [if_pos z] at hk; exact hk σ hC FrX.rfl'
    · rw [if_neg (by omega)] at hk
      exact hk σ' (hC.es hf' (Wf_addT hW z q1 q2 q3 q4) hE') (hf'.x e100)
  rcases Classical.propComplete (w < nI 0) with g | g <;> rcases Classical.propComplete (nI 99 < w) with g2 | g2
  all_goals
    refine CallAt.of (k := 78) (cd := k_X5_thing) ok_X5_thing (by decide) rfl rfl rfl ?_
    show V _ i_X5_thing k_X5_thing 0 [.ref 0, .int k, .int w, .int h, .int o] [] _ _
    refine V_run ok_X5_thing 60 0 ?_
    simp (disch := omega) only [eng, c_X5_thing, r_X5_thing, tbl, true_and, Nat.reduceAdd, Nat.reduceLT, ↓reduceIte, n_eq, n_lt, n_le, n_cl, n_inT, nI_add, bI_eq0, bI_eq1, not_true_eq_false, not_false_eq_true, true_implies, false_implies, implies_true, and_true, Bool.not_eq_false, Bool.not_eq_true, Nat.reduceEqDiff, Nat.reduceLeDiff, Classical.not_not, List.length_cons, List.length_nil, Int.reduceAdd, z_cast, Nat.reducePow, false_or, Nat.reduceLT, Nat.sub_zero, Nat.le_refl, g, g2]
    try simp only [iteP, Classical.not_not, Bool.not_eq_false, Bool.not_eq_true]
    refine x_isKind ?_
    cases h1 : inB k 4
    case false =>
      rw [h1] at hK
      simp (disch := omega) only [n_eq, n_lt, n_le, n_cl, n_inT, nI_add, bI_eq0, bI_eq1, not_true_eq_false, not_false_eq_true, true_implies, false_implies, implies_true, and_true, Bool.not_eq_false, Bool.not_eq_true, Nat.reduceEqDiff, Nat.reduceLeDiff, Classical.not_not, List.length_cons, List.length_nil, Int.reduceAdd, z_cast, Nat.reducePow, false_or, Nat.reduceLT, Nat.sub_zero, Nat.le_refl, true_and, ↓reduceIte, iteP, Bool.false_eq_true]
      exact hK σ hC FrX.rfl'
    rw [h1, Bool.true_and] at hK
    simp (disch := omega) only [n_eq, n_lt, n_le, n_cl, n_inT, nI_add, bI_eq0, bI_eq1, not_true_eq_false, not_false_eq_true, true_implies, false_implies, implies_true, and_true, Bool.not_eq_false, Bool.not_eq_true, Nat.reduceEqDiff, Nat.reduceLeDiff, Classical.not_not, List.length_cons, List.length_nil, Int.reduceAdd, z_cast, Nat.reducePow, false_or, Nat.reduceLT, Nat.sub_zero, Nat.le_refl, true_and, ↓reduceIte, iteP, Bool.true_eq_false]
  · rw [inB_neg (of_eq_true g)] at hK; exact hK σ hC FrX.rfl'
  · rw [inB_neg (of_eq_true g)] at hK; exact hK σ hC FrX.rfl'
  · rw [inB_lt (n := 99) (by decide) (of_eq_false g), decide_eq_false (by simpa using of_eq_true g2)] at hK; exact hK σ hC FrX.rfl'
  have hw : inB w 100 = true := by rw [inB_lt (n := 99) (by decide) (of_eq_false g), decide_eq_true (of_eq_false g2)]
  rw [hw, Bool.true_and] at hK
  refine x_livX e100 hW hE ?_
  cases h2 : livX A.1 h with
  | false =>
    rw [h2] at hK
    simp (disch := omega) only [n_eq, n_lt, n_le, n_cl, n_inT, nI_add, bI_eq0, bI_eq1, not_true_eq_false, not_false_eq_true, true_implies, false_implies, implies_true, and_true, Bool.not_eq_false, Bool.not_eq_true, Nat.reduceEqDiff, Nat.reduceLeDiff, Classical.not_not, List.length_cons, List.length_nil, Int.reduceAdd, z_cast, Nat.reducePow, false_or, Nat.reduceLT, Nat.sub_zero, Nat.le_refl, true_and, ↓reduceIte, iteP, Bool.false_eq_true]
    exact hK σ hC FrX.rfl'
  | true =>
    rw [h2, Bool.true_and] at hK
    obtain ⟨k', hk', rfl⟩ := inB_of h1
    obtain ⟨w', hw', rfl⟩ := inB_of hw
    obtain ⟨h', hh', rfl, hh2, hh3⟩ := livX_of hn h2
    rw [n_cl (show k' < 2147483648 by omega), n_cl (show w' < 2147483648 by omega), hh2] at hK
    simp (disch := omega) only [n_eq, n_lt, n_le, n_cl, n_inT, nI_add, bI_eq0, bI_eq1, not_true_eq_false, not_false_eq_true, true_implies, false_implies, implies_true, and_true, Bool.not_eq_false, Bool.not_eq_true, Nat.reduceEqDiff, Nat.reduceLeDiff, Classical.not_not, List.length_cons, List.length_nil, Int.reduceAdd, z_cast, Nat.reducePow, false_or, Nat.reduceLT, Nat.sub_zero, Nat.le_refl, true_and, ↓reduceIte, iteP, Bool.true_eq_false]
    refine x_hasOther hk' ?_
    cases h3 : (k' == 1 || k' == 2) with
    | false =>
      have h3' : ¬ (k' = 1 ∨ k' = 2) := by simpa using h3
      rw [if_neg h3'] at hK
      rcases Classical.propComplete (o = nI 12) with g3 | g3
      · have := of_eq_true g3
        subst this
        rw [decide_eq_true rfl, if_pos rfl, n_cl (by decide)] at hK
        simp (disch := omega) only [n_eq, n_lt, n_le, n_cl, n_inT, nI_add, bI_eq0, bI_eq1, not_true_eq_false, not_false_eq_true, true_implies, false_implies, implies_true, and_true, Bool.not_eq_false, Bool.not_eq_true, Nat.reduceEqDiff, Nat.reduceLeDiff, Classical.not_not, List.length_cons, List.length_nil, Int.reduceAdd, z_cast, Nat.reducePow, false_or, Nat.reduceLT, Nat.sub_zero, Nat.le_refl, true_and, ↓reduceIte, iteP, Bool.false_eq_true, Bool.true_eq_false]
        exact add k' w' h' 12 (by omega) (by omega) hh' (Or.inl rfl) hK
      · rw [decide_eq_false (of_eq_false g3)] at hK
        simp (disch := omega) only [n_eq, n_lt, n_le, n_cl, n_inT, nI_add, bI_eq0, bI_eq1, not_true_eq_false, not_false_eq_true, true_implies, false_implies, implies_true, and_true, Bool.not_eq_false, Bool.not_eq_true, Nat.reduceEqDiff, Nat.reduceLeDiff, Classical.not_not, List.length_cons, List.length_nil, Int.reduceAdd, z_cast, Nat.reducePow, false_or, Nat.reduceLT, Nat.sub_zero, Nat.le_refl, true_and, ↓reduceIte, iteP, Bool.false_eq_true, g3]
        exact hK σ hC FrX.rfl'
    | true =>
      have h3' : (k' = 1 ∨ k' = 2) := by simpa using h3
      rw [if_pos h3'] at hK
      simp (disch := omega) only [n_eq, n_lt, n_le, n_cl, n_inT, nI_add, bI_eq0, bI_eq1, not_true_eq_false, not_false_eq_true, true_implies, false_implies, implies_true, and_true, Bool.not_eq_false, Bool.not_eq_true, Nat.reduceEqDiff, Nat.reduceLeDiff, Classical.not_not, List.length_cons, List.length_nil, Int.reduceAdd, z_cast, Nat.reducePow, false_or, Nat.reduceLT, Nat.sub_zero, Nat.le_refl, true_and, ↓reduceIte, iteP, Bool.true_eq_false]
      refine x_livX e100 hW hE ?_
      cases h4 : livX A.1 o with
      | false =>
        rw [h4] at hK
        simp (disch := omega) only [n_eq, n_lt, n_le, n_cl, n_inT, nI_add, bI_eq0, bI_eq1, not_true_eq_false, not_false_eq_true, true_implies, false_implies, implies_true, and_true, Bool.not_eq_false, Bool.not_eq_true, Nat.reduceEqDiff, Nat.reduceLeDiff, Classical.not_not, List.length_cons, List.length_nil, Int.reduceAdd, z_cast, Nat.reducePow, false_or, Nat.reduceLT, Nat.sub_zero, Nat.le_refl, true_and, ↓reduceIte, iteP, Bool.false_eq_true]
        exact hK σ hC FrX.rfl'
      | true =>
        obtain ⟨o', ho', rfl, ho2, ho3⟩ := livX_of hn h4
        rw [h4, Bool.true_and, ho2] at hK
        have hh12 := p12 hW hh'
        have ho12 := p12 hW ho'
        by_cases g4 : o' = h'
        · subst g4
          rw [decide_eq_false (by simp)] at hK
          simp (disch := omega) only [n_eq, n_lt, n_le, n_cl, n_inT, nI_add, bI_eq0, bI_eq1, not_true_eq_false, not_false_eq_true, true_implies, false_implies, implies_true, and_true, Bool.not_eq_false, Bool.not_eq_true, Nat.reduceEqDiff, Nat.reduceLeDiff, Classical.not_not, List.length_cons, List.length_nil, Int.reduceAdd, z_cast, Nat.reducePow, false_or, Nat.reduceLT, Nat.sub_zero, Nat.le_refl, true_and, ↓reduceIte, iteP, Bool.true_eq_false]
          exact hK σ hC FrX.rfl'
        · rw [decide_eq_true (by rw [ne_eq, n_eq (by omega) (by omega)]; exact g4), if_pos rfl] at hK
          simp (disch := omega) only [n_eq, n_lt, n_le, n_cl, n_inT, nI_add, bI_eq0, bI_eq1, not_true_eq_false, not_false_eq_true, true_implies, false_implies, implies_true, and_true, Bool.not_eq_false, Bool.not_eq_true, Nat.reduceEqDiff, Nat.reduceLeDiff, Classical.not_not, List.length_cons, List.length_nil, Int.reduceAdd, z_cast, Nat.reducePow, false_or, Nat.reduceLT, Nat.sub_zero, Nat.le_refl, true_and, ↓reduceIte, iteP, Bool.true_eq_false, g4]
          exact add k' w' h' o' (by omega) (by omega) hh' (Or.inr ⟨ho', g4⟩) hK
