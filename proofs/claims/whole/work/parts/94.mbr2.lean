/-- what brings stands on: E is kept aside, the deaths are told -/
def BrC (E : Es) (N t h at' : Nat) (d : Nat → Int32) (σ : St) : Prop := Wf E ∧ N ≤ 8 ∧ at' + N ≤ 96 ∧ t < E 12 1 ∧ h < 12 ∧ (∀ i, i < N → σ 928 (at' + i) = d i) ∧ AsK E σ
theorem lp_brX (l : Launch) {n N t h at' j : Nat} {d : Nat → Int32} {E F : Es} {σ0 σ : St} {K : Int32 → St → Prop} (hC : BrC E N t h at' d σ0) (hn : n ≤ 2) (hj : j ≤ n) (hS : SmE E F) (hE : ME F σ) (hf : FrN σ0 σ) (hK : ∀ σ', ME E σ' → FrN σ0 σ' → K (nI 0) σ') : V l i_X6_brings k_X6_brings 4 [.ref 900, .int (nI n), .int (nI t), .int (nI h), .int (nI at'), .int (nI N), .int (nI 0), .int (nI j)] [] σ K := by
  obtain ⟨hW, hN, ha, ht, hh, hd, hA⟩ := hC
  have fin : CallAt l 157 [.ref 900] σ (fun _ σ' => K (nI 0) σ') := by
    refine m_back hW hS hE (hA.fr (hf.1 921 (by decide) (by decide))) (fun σ3 hE3 hf3 => ?_)
    exact hK σ3 hE3 (hf.trans hf3)
  by_cases z : n ≤ j
  · refine V_run ok_X6_brings 60 4 ?_
    simp (disch := omega) only [eng, c_X6_brings, r_X6_brings, tbl, true_and, Nat.reduceAdd, Nat.reduceLT, ↓reduceIte, n_eq, n_lt, n_le, n_cl, n_inT, nI_add, bI_eq0, bI_eq1, not_true_eq_false, not_false_eq_true, true_implies, false_implies, implies_true, and_true, Bool.not_eq_false, Bool.not_eq_true, Nat.reduceEqDiff, Nat.reduceLeDiff, Classical.not_not, List.length_cons, List.length_nil, Int.reduceAdd, z_cast, Nat.reducePow, false_or, Nat.reduceLT, Nat.sub_zero, Nat.le_refl, z]
    try simp only [iteP, Classical.not_not, Bool.not_eq_false, Bool.not_eq_true]
    exact fin
  · refine V_run ok_X6_brings 60 4 ?_
    simp (disch := omega) only [eng, c_X6_brings, r_X6_brings, tbl, true_and, Nat.reduceAdd, Nat.reduceLT, ↓reduceIte, n_eq, n_lt, n_le, n_cl, n_inT, nI_add, bI_eq0, bI_eq1, not_true_eq_false, not_false_eq_true, true_implies, false_implies, implies_true, and_true, Bool.not_eq_false, Bool.not_eq_true, Nat.reduceEqDiff, Nat.reduceLeDiff, Classical.not_not, List.length_cons, List.length_nil, Int.reduceAdd, z_cast, Nat.reducePow, false_or, Nat.reduceLT, Nat.sub_zero, Nat.le_refl, z]
    try simp only [iteP, Classical.not_not, Bool.not_eq_false, Bool.not_eq_true]
    exact fin
theorem lp_brS (l : Launch) {n N t h at' j q : Nat} {d : Nat → Int32} {E F : Es} {σ0 σ : St} {K : Int32 → St → Prop} (hC : BrC E N t h at' d σ0) (hn : n ≤ 2) (hj : j < n) (hq : q < 144) (h929 : σ0 929 j = nI q) (hS : SmE E F) (hWF : Wf F) (hE : ME F σ) (hf : FrN σ0 σ) (h0 : can F (q / 12) (q % 12) = false → ∀ σ', ME E σ' → FrN σ0 σ' → K (nI 0) σ') (h1 : can F (q / 12) (q % 12) = true → ∀ σ', ME (joi F (q / 12) (q % 12)) σ' → FrN σ0 σ' → V l i_X6_brings k_X6_brings 4 [.ref 900, .int (nI n), .int (nI t), .int (nI h), .int (nI at'), .int (nI N), .int (nI 1), .int (nI (j + 1))] [] σ' K) : V l i_X6_brings k_X6_brings 4 [.ref 900, .int (nI n), .int (nI t), .int (nI h), .int (nI at'), .int (nI N), .int (nI 1), .int (nI j)] [] σ K := by
  have z : ¬ n ≤ j := by omega
  have e : σ 929 j = nI q := by rw [hf.1 929 (by decide) (by decide)]; exact h929
  obtain ⟨q1, q2⟩ := car_q (w := q / 12) (i := q % 12) (k := q) (by omega) (by omega) (by omega)
  refine V_run ok_X6_brings 60 4 ?_
  simp (disch := omega) only [eng, c_X6_brings, r_X6_brings, tbl, true_and, Nat.reduceAdd, Nat.reduceLT, ↓reduceIte, n_eq, n_lt, n_le, n_cl, n_inT, nI_add, bI_eq0, bI_eq1, not_true_eq_false, not_false_eq_true, true_implies, false_implies, implies_true, and_true, Bool.not_eq_false, Bool.not_eq_true, Nat.reduceEqDiff, Nat.reduceLeDiff, Classical.not_not, List.length_cons, List.length_nil, Int.reduceAdd, z_cast, Nat.reducePow, false_or, Nat.reduceLT, Nat.sub_zero, Nat.le_refl, z, e]
  try simp only [iteP, Classical.not_not, Bool.not_eq_false, Bool.not_eq_true]
  refine m_canPair hWF hE hq ?_
  cases hc : can F (q / 12) (q % 12) with
  | false =>
    simp (disch := omega) only [n_eq, n_lt, n_le, n_cl, n_inT, nI_add, bI_eq0, bI_eq1, not_true_eq_false, not_false_eq_true, true_implies, false_implies, implies_true, and_true, Bool.not_eq_false, Bool.not_eq_true, Nat.reduceEqDiff, Nat.reduceLeDiff, Classical.not_not, List.length_cons, List.length_nil, Int.reduceAdd, z_cast, Nat.reducePow, false_or, Nat.reduceLT, Nat.sub_zero, Nat.le_refl, true_and, ↓reduceIte, iteP, Bool.false_eq_true]
    exact lp_brX l hC hn (by omega) hS hE hf (h0 hc)
  | true =>
    have ci := can_iff.mp hc
    have ne : q / 12 ≠ q % 12 := fun y => by
      have a := ci.2.2.1
      have b := ci.2.2.2.1
      rw [y] at a
      omega
    simp (disch := omega) only [n_eq, n_lt, n_le, n_cl, n_inT, nI_add, bI_eq0, bI_eq1, not_true_eq_false, not_false_eq_true, true_implies, false_implies, implies_true, and_true, Bool.not_eq_false, Bool.not_eq_true, Nat.reduceEqDiff, Nat.reduceLeDiff, Classical.not_not, List.length_cons, List.length_nil, Int.reduceAdd, z_cast, Nat.reducePow, false_or, Nat.reduceLT, Nat.sub_zero, Nat.le_refl, true_and, ↓reduceIte, iteP, Bool.true_eq_false, e, q1, q2, n_ne0]
    refine m_wed hWF hE ci.1 ci.2.1 ne (fun σ' hE' hf' _ => ?_)
    exact h1 hc σ' hE' (hf.trans hf')
theorem bI_false : bI false = nI 0 := rfl
theorem m_brings0 {l : Launch} {N t h at' : Nat} {d : Nat → Int32} {E : Es} {σ : St} {K : Int32 → St → Prop} (hC : BrC E N t h at' d σ) (hE : ME E σ) (hK : ∀ σ', ME E σ' → FrN σ σ' → K (bI (brM E none none t h d N)) σ') : CallAt l 182 [.ref 900, .int (nI 0), .int (nI t), .int (nI h), .int (nI at'), .int (nI N)] σ K := by
  obtain ⟨hW, hN, ha, ht, hh, hd, hA⟩ := hC
  refine CallAt.of (k := 182) (cd := k_X6_brings) ok_X6_brings (by decide) rfl rfl rfl ?_
  show V _ i_X6_brings k_X6_brings 0 [.ref 900, .int (nI 0), .int (nI t), .int (nI h), .int (nI at'), .int (nI N), .null, .null] [] _ _
  refine V_run ok_X6_brings 20 0 ?_
  simp (disch := omega) only [eng, c_X6_brings, r_X6_brings, tbl, true_and, Nat.reduceAdd, Nat.reduceLT, ↓reduceIte, n_eq, n_lt, n_le, n_cl, n_inT, nI_add, bI_eq0, bI_eq1, not_true_eq_false, not_false_eq_true, true_implies, false_implies, implies_true, and_true, Bool.not_eq_false, Bool.not_eq_true, Nat.reduceEqDiff, Nat.reduceLeDiff, Classical.not_not, List.length_cons, List.length_nil, Int.reduceAdd, z_cast, Nat.reducePow, false_or, Nat.reduceLT, Nat.sub_zero, Nat.le_refl]
  try simp only [iteP, Classical.not_not, Bool.not_eq_false, Bool.not_eq_true]
  refine V_run ok_X6_brings 3 4 ?_
  simp (disch := omega) only [eng, c_X6_brings, r_X6_brings, tbl, true_and, Nat.reduceAdd, Nat.reduceLT, ↓reduceIte, n_eq, n_lt, n_le, n_cl, n_inT, nI_add, bI_eq0, bI_eq1, not_true_eq_false, not_false_eq_true, true_implies, false_implies, implies_true, and_true, Bool.not_eq_false, Bool.not_eq_true, Nat.reduceEqDiff, Nat.reduceLeDiff, Classical.not_not, List.length_cons, List.length_nil, Int.reduceAdd, z_cast, Nat.reducePow, false_or, Nat.reduceLT, Nat.sub_zero, Nat.le_refl]
  try simp only [iteP, Classical.not_not, Bool.not_eq_false, Bool.not_eq_true]
  exact m_brEnd l hW hN ha ht hh hd hA SmE.rfl' hW hE FrN.rfl' hK
theorem m_brings1 {l : Launch} {N t h at' q : Nat} {d : Nat → Int32} {E : Es} {σ : St} {K : Int32 → St → Prop} (hC : BrC E N t h at' d σ) (hE : ME E σ) (hq : q < 144) (h929 : σ 929 0 = nI q) (hK : ∀ σ', ME E σ' → FrN σ σ' → K (bI (brM E (some q) none t h d N)) σ') : CallAt l 182 [.ref 900, .int (nI 1), .int (nI t), .int (nI h), .int (nI at'), .int (nI N)] σ K := by
  have hW := hC.1
  unfold brM brE at hK
  refine CallAt.of (k := 182) (cd := k_X6_brings) ok_X6_brings (by decide) rfl rfl rfl ?_
  show V _ i_X6_brings k_X6_brings 0 [.ref 900, .int (nI 1), .int (nI t), .int (nI h), .int (nI at'), .int (nI N), .null, .null] [] _ _
  refine V_run ok_X6_brings 20 0 ?_
  simp (disch := omega) only [eng, c_X6_brings, r_X6_brings, tbl, true_and, Nat.reduceAdd, Nat.reduceLT, ↓reduceIte, n_eq, n_lt, n_le, n_cl, n_inT, nI_add, bI_eq0, bI_eq1, not_true_eq_false, not_false_eq_true, true_implies, false_implies, implies_true, and_true, Bool.not_eq_false, Bool.not_eq_true, Nat.reduceEqDiff, Nat.reduceLeDiff, Classical.not_not, List.length_cons, List.length_nil, Int.reduceAdd, z_cast, Nat.reducePow, false_or, Nat.reduceLT, Nat.sub_zero, Nat.le_refl]
  try simp only [iteP, Classical.not_not, Bool.not_eq_false, Bool.not_eq_true]
  refine lp_brS l hC (by decide) (by decide) hq h929 SmE.rfl' hW hE FrN.rfl' (fun hc => ?_) (fun hc σ1 hE1 hf1 => ?_)
  · have e : wE E (some q) = none := by unfold wE; simp [hc]
    rw [e, Bool.and_false] at hK
    exact hK
  · have e : wE E (some q) = some (joi E (q / 12) (q % 12)) := by unfold wE; simp [hc]
    have e5 := wE_5 e
    rw [e] at hK
    dsimp only [wE] at hK
    obtain ⟨_, hN, ha, ht, hh, hd, hA⟩ := hC
    refine V_run ok_X6_brings 3 4 ?_
    simp (disch := omega) only [eng, c_X6_brings, r_X6_brings, tbl, true_and, Nat.reduceAdd, Nat.reduceLT, ↓reduceIte, n_eq, n_lt, n_le, n_cl, n_inT, nI_add, bI_eq0, bI_eq1, not_true_eq_false, not_false_eq_true, true_implies, false_implies, implies_true, and_true, Bool.not_eq_false, Bool.not_eq_true, Nat.reduceEqDiff, Nat.reduceLeDiff, Classical.not_not, List.length_cons, List.length_nil, Int.reduceAdd, z_cast, Nat.reducePow, false_or, Nat.reduceLT, Nat.sub_zero, Nat.le_refl]
    try simp only [iteP, Classical.not_not, Bool.not_eq_false, Bool.not_eq_true]
    refine m_brEnd l hW hN ha ht hh hd hA (SmE_joi SmE.rfl') (Wf_joi hW hc) hE1 hf1 ?_
    rw [fst_cong d N 0 _ E e5.1 (by rw [e5.2])]
    exact hK
theorem m_brings2 {l : Launch} {N t h at' q r : Nat} {d : Nat → Int32} {E : Es} {σ : St} {K : Int32 → St → Prop} (hC : BrC E N t h at' d σ) (hE : ME E σ) (hq : q < 144) (hr : r < 144) (h929 : σ 929 0 = nI q) (h929b : σ 929 1 = nI r) (hK : ∀ σ', ME E σ' → FrN σ σ' → K (bI (brM E (some q) (some r) t h d N)) σ') : CallAt l 182 [.ref 900, .int (nI 2), .int (nI t), .int (nI h), .int (nI at'), .int (nI N)] σ K := by
  have hW := hC.1
  unfold brM brE at hK
  refine CallAt.of (k := 182) (cd := k_X6_brings) ok_X6_brings (by decide) rfl rfl rfl ?_
  show V _ i_X6_brings k_X6_brings 0 [.ref 900, .int (nI 2), .int (nI t), .int (nI h), .int (nI at'), .int (nI N), .null, .null] [] _ _
  refine V_run ok_X6_brings 20 0 ?_
  simp (disch := omega) only [eng, c_X6_brings, r_X6_brings, tbl, true_and, Nat.reduceAdd, Nat.reduceLT, ↓reduceIte, n_eq, n_lt, n_le, n_cl, n_inT, nI_add, bI_eq0, bI_eq1, not_true_eq_false, not_false_eq_true, true_implies, false_implies, implies_true, and_true, Bool.not_eq_false, Bool.not_eq_true, Nat.reduceEqDiff, Nat.reduceLeDiff, Classical.not_not, List.length_cons, List.length_nil, Int.reduceAdd, z_cast, Nat.reducePow, false_or, Nat.reduceLT, Nat.sub_zero, Nat.le_refl]
  try simp only [iteP, Classical.not_not, Bool.not_eq_false, Bool.not_eq_true]
  refine lp_brS l hC (by decide) (by decide) hq h929 SmE.rfl' hW hE FrN.rfl' (fun hc => ?_) (fun hc σ1 hE1 hf1 => ?_)
  · have e : wE E (some q) = none := by unfold wE; simp [hc]
    rw [e, Bool.and_false] at hK
    exact hK
  · have e : wE E (some q) = some (joi E (q / 12) (q % 12)) := by unfold wE; simp [hc]
    have e5 := wE_5 e
    have hW1 := Wf_joi hW hc
    rw [e] at hK
    dsimp only at hK
    have s1 : SmE E (joi E (q / 12) (q % 12)) := SmE_joi SmE.rfl'
    generalize joi E (q / 12) (q % 12) = E1 at *
    refine lp_brS l hC (by decide) (by decide) hr h929b s1 hW1 hE1 hf1 (fun hc2 => ?_) (fun hc2 σ2 hE2 hf2 => ?_)
    · have e : wE E1 (some r) = none := by unfold wE; simp [hc2]
      rw [e, Bool.and_false] at hK
      exact hK
    · have e : wE E1 (some r) = some (joi E1 (r / 12) (r % 12)) := by unfold wE; simp [hc2]
      have e6 := wE_5 e
      rw [e] at hK
      dsimp only at hK
      obtain ⟨_, hN, ha, ht, hh, hd, hA⟩ := hC
      refine V_run ok_X6_brings 3 4 ?_
      simp (disch := omega) only [eng, c_X6_brings, r_X6_brings, tbl, true_and, Nat.reduceAdd, Nat.reduceLT, ↓reduceIte, n_eq, n_lt, n_le, n_cl, n_inT, nI_add, bI_eq0, bI_eq1, not_true_eq_false, not_false_eq_true, true_implies, false_implies, implies_true, and_true, Bool.not_eq_false, Bool.not_eq_true, Nat.reduceEqDiff, Nat.reduceLeDiff, Classical.not_not, List.length_cons, List.length_nil, Int.reduceAdd, z_cast, Nat.reducePow, false_or, Nat.reduceLT, Nat.sub_zero, Nat.le_refl]
      try simp only [iteP, Classical.not_not, Bool.not_eq_false, Bool.not_eq_true]
      refine m_brEnd l hW hN ha ht hh hd hA (SmE_joi s1) (Wf_joi hW1 hc2) hE2 hf2 ?_
      rw [fst_cong d N 0 _ E (e6.1.trans e5.1) (by rw [e6.2, e5.2])]
      exact hK
