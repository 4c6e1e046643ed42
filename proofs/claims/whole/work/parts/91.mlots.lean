theorem sh_0 : ∀ j, j < 12 → nI 0 <<< (nI j &&& 31) = nI 0 := by decide +kernel
theorem lp_lotIn (l : Launch) {n s i w : Int32} {G : Es} {σ : St} {K : Int32 → St → Prop} (hW : Wf G) (hE : ME G σ) (hN : V l i_X6_lots k_X6_lots 66 [.ref 900, .int n, .int s, .int i, .int w, .int (nI (lvm G)), .int (nI (wvm G)), .int (nI (G 12 0))] [] σ K) : ∀ (q p : Nat), p + q = G 12 0 → V l i_X6_lots k_X6_lots 25 [.ref 900, .int n, .int s, .int i, .int w, .int (nI (bits (fun p => G 5 p == 1) p)), .int (nI (bits (fun p => G 0 p == 1 && G 5 p == 1 && G 3 p != 12) p)), .int (nI p)] [] σ K
  | 0, p, hp => by
    have hp : p = G 12 0 := by omega
    subst hp
    have e6 := hE.1
    have hn := hW.1
    refine V_run ok_X6_lots 4 25 ?_
    simp (disch := omega) only [eng, c_X6_lots, r_X6_lots, tbl, true_and, Nat.reduceAdd, Nat.reduceLT, ↓reduceIte, n_eq, n_lt, n_le, n_cl, n_inT, nI_add, bI_eq0, bI_eq1, not_true_eq_false, not_false_eq_true, true_implies, false_implies, implies_true, and_true, Bool.not_eq_false, Bool.not_eq_true, Nat.reduceEqDiff, Nat.reduceLeDiff, Classical.not_not, List.length_cons, List.length_nil, Int.reduceAdd, z_cast, Nat.reducePow, false_or, Nat.reduceLT, Nat.sub_zero, Nat.le_refl, e6]
    try simp only [iteP, Classical.not_not, Bool.not_eq_false, Bool.not_eq_true]
    exact hN
  | q + 1, p, hp => by
    have hp1 : p < G 12 0 := by omega
    have hp12 := p12 hW hp1
    have e6 := hE.1
    have hn := hW.1
    have h0 : ¬ G 12 0 ≤ p := by omega
    have fp := hE.2.2.2.1 p hp1
    have w5 := (hW.2.2.2.1 p hp1).2.1
    have w0 := (hW.2.2.2.1 p hp1).1
    have w3 := sp12 hW hp1
    have ih := lp_lotIn l hW hE hN q (p + 1) (by omega)
    by_cases z5 : G 5 p = 1
    case neg =>
      have f5 : G 5 p = 0 := by omega
      have eL : nI (bits (fun p => G 5 p == 1) p) ||| nI 0 <<< (nI p &&& 31) = nI (bits (fun p => G 5 p == 1) (p + 1)) := by
        rw [sh_0 p hp12, or0, bits_s0 (by simp [f5])]
      have eW : nI (bits (fun p => G 0 p == 1 && G 5 p == 1 && G 3 p != 12) p) ||| nI 0 = nI (bits (fun p => G 0 p == 1 && G 5 p == 1 && G 3 p != 12) (p + 1)) := by
        rw [or0, bits_s0 (by simp [f5])]
      refine V_run ok_X6_lots 60 25 ?_
      simp (disch := omega) only [eng, c_X6_lots, r_X6_lots, tbl, true_and, Nat.reduceAdd, Nat.reduceLT, ↓reduceIte, n_eq, n_lt, n_le, n_cl, n_inT, nI_add, bI_eq0, bI_eq1, not_true_eq_false, not_false_eq_true, true_implies, false_implies, implies_true, and_true, Bool.not_eq_false, Bool.not_eq_true, Nat.reduceEqDiff, Nat.reduceLeDiff, Classical.not_not, List.length_cons, List.length_nil, Int.reduceAdd, z_cast, Nat.reducePow, false_or, Nat.reduceLT, Nat.sub_zero, Nat.le_refl, e6, h0, fp, f5, eL, eW]
      try simp only [iteP, Classical.not_not, Bool.not_eq_false, Bool.not_eq_true]
      exact ih
    have eL : nI (bits (fun p => G 5 p == 1) p) ||| nI 1 <<< (nI p &&& 31) = nI (bits (fun p => G 5 p == 1) (p + 1)) := acc_t (f := fun p => G 5 p == 1) (by simp [z5]) hp12
    by_cases z0 : G 0 p = 1
    case neg =>
      have eW : nI (bits (fun p => G 0 p == 1 && G 5 p == 1 && G 3 p != 12) p) ||| nI 0 = nI (bits (fun p => G 0 p == 1 && G 5 p == 1 && G 3 p != 12) (p + 1)) := by
        rw [or0, bits_s0 (by simp [z0])]
      refine V_run ok_X6_lots 60 25 ?_
      simp (disch := omega) only [eng, c_X6_lots, r_X6_lots, tbl, true_and, Nat.reduceAdd, Nat.reduceLT, ↓reduceIte, n_eq, n_lt, n_le, n_cl, n_inT, nI_add, bI_eq0, bI_eq1, not_true_eq_false, not_false_eq_true, true_implies, false_implies, implies_true, and_true, Bool.not_eq_false, Bool.not_eq_true, Nat.reduceEqDiff, Nat.reduceLeDiff, Classical.not_not, List.length_cons, List.length_nil, Int.reduceAdd, z_cast, Nat.reducePow, false_or, Nat.reduceLT, Nat.sub_zero, Nat.le_refl, e6, h0, fp, z5, z0, eL, eW]
      try simp only [iteP, Classical.not_not, Bool.not_eq_false, Bool.not_eq_true]
      exact ih
    by_cases z3 : G 3 p = 12
    · have eW : nI (bits (fun p => G 0 p == 1 && G 5 p == 1 && G 3 p != 12) p) ||| nI 0 = nI (bits (fun p => G 0 p == 1 && G 5 p == 1 && G 3 p != 12) (p + 1)) := by
        rw [or0, bits_s0 (by simp [z3])]
      refine V_run ok_X6_lots 60 25 ?_
      simp (disch := omega) only [eng, c_X6_lots, r_X6_lots, tbl, true_and, Nat.reduceAdd, Nat.reduceLT, ↓reduceIte, n_eq, n_lt, n_le, n_cl, n_inT, nI_add, bI_eq0, bI_eq1, not_true_eq_false, not_false_eq_true, true_implies, false_implies, implies_true, and_true, Bool.not_eq_false, Bool.not_eq_true, Nat.reduceEqDiff, Nat.reduceLeDiff, Classical.not_not, List.length_cons, List.length_nil, Int.reduceAdd, z_cast, Nat.reducePow, false_or, Nat.reduceLT, Nat.sub_zero, Nat.le_refl, e6, h0, fp, z5, z0, z3, eL, eW]
      try simp only [iteP, Classical.not_not, Bool.not_eq_false, Bool.not_eq_true]
      exact ih
    · have eW : nI (bits (fun p => G 0 p == 1 && G 5 p == 1 && G 3 p != 12) p) ||| nI 1 <<< (nI p &&& 31) = nI (bits (fun p => G 0 p == 1 && G 5 p == 1 && G 3 p != 12) (p + 1)) := acc_t (f := fun p => G 0 p == 1 && G 5 p == 1 && G 3 p != 12) (by simp [z5, z0, z3]) hp12
      refine V_run ok_X6_lots 60 25 ?_
      simp (disch := omega) only [eng, c_X6_lots, r_X6_lots, tbl, true_and, Nat.reduceAdd, Nat.reduceLT, ↓reduceIte, n_eq, n_lt, n_le, n_cl, n_inT, nI_add, bI_eq0, bI_eq1, not_true_eq_false, not_false_eq_true, true_implies, false_implies, implies_true, and_true, Bool.not_eq_false, Bool.not_eq_true, Nat.reduceEqDiff, Nat.reduceLeDiff, Classical.not_not, List.length_cons, List.length_nil, Int.reduceAdd, z_cast, Nat.reducePow, false_or, Nat.reduceLT, Nat.sub_zero, Nat.le_refl, e6, h0, fp, z5, z0, z3, eL, eW]
      try simp only [iteP, Classical.not_not, Bool.not_eq_false, Bool.not_eq_true]
      exact ih
theorem m_lot1 (l : Launch) {n i : Nat} {s : Int32} {F : Es} {σ : St} {v4 v5 v6 v7 : Value} {K : Int32 → St → Prop} (hn : n ≤ 30) (hi : i < n) (hW : Wf F) (hE : ME F σ) (hN : ∀ (R : Es × Nat), R = lotE F → ∀ (σ' : St) (v4 v5 v6 v7 : Value), ME R.1 σ' → FrN σ σ' → V l i_X6_lots k_X6_lots 12 [.ref 900, .int (nI n), .int (s + nI R.2), .int (nI (i + 1)), v4, v5, v6, v7] [] σ' K) : V l i_X6_lots k_X6_lots 12 [.ref 900, .int (nI n), .int s, .int (nI i), v4, v5, v6, v7] [] σ K := by
  have h0 : ¬ n ≤ i := by omega
  have s0 : s + nI 0 = s := by
    rw [show nI 0 = 0 from rfl]; simp
  refine V_run ok_X6_lots 40 12 ?_
  simp (disch := omega) only [eng, c_X6_lots, r_X6_lots, tbl, true_and, Nat.reduceAdd, Nat.reduceLT, ↓reduceIte, n_eq, n_lt, n_le, n_cl, n_inT, nI_add, bI_eq0, bI_eq1, not_true_eq_false, not_false_eq_true, true_implies, false_implies, implies_true, and_true, Bool.not_eq_false, Bool.not_eq_true, Nat.reduceEqDiff, Nat.reduceLeDiff, Classical.not_not, List.length_cons, List.length_nil, Int.reduceAdd, z_cast, Nat.reducePow, false_or, Nat.reduceLT, Nat.sub_zero, Nat.le_refl, h0]
  try simp only [iteP, Classical.not_not, Bool.not_eq_false, Bool.not_eq_true]
  refine m_draw hW hE (by decide) (by decide) (fun σ1 hE1 hf1 => ?_)
  have hE1 : ME (dw F) σ1 := hE1
  have hW1 := Wf_dw hW
  have e6 := hE1.1
  rw [dw_0] at e6
  have hn12 := hW.1
  have w3 : nd F / 65536 % 3 < 3 := Nat.mod_lt _ (by decide)
  have hlv := lvm_lt hW
  have hwv := wvm_lt hW
  have gL : ∀ x, nthF (lvm F) 12 x ≤ 12 := fun x => nth_le12 _ 12 x (by omega)
  refine lp_lotIn l hW1 hE1 ?_ (dw F 12 0) 0 (by omega)
  rw [lvm_dw, wvm_dw]
  by_cases zw : nd F / 65536 % 3 = 0
  · by_cases zl : lvm F = 0
    · have hR : ((dw F, 0) : Es × Nat) = lotE F := by unfold lotE; rw [if_pos zw, if_pos zl]
      have u := hN _ hR σ1
      rw [show nI ((dw F, 0) : Es × Nat).2 = nI 0 from rfl, s0] at u
      refine V_run ok_X6_lots 60 66 ?_
      simp (disch := omega) only [eng, c_X6_lots, r_X6_lots, tbl, true_and, Nat.reduceAdd, Nat.reduceLT, ↓reduceIte, n_eq, n_lt, n_le, n_cl, n_inT, nI_add, bI_eq0, bI_eq1, not_true_eq_false, not_false_eq_true, true_implies, false_implies, implies_true, and_true, Bool.not_eq_false, Bool.not_eq_true, Nat.reduceEqDiff, Nat.reduceLeDiff, Classical.not_not, List.length_cons, List.length_nil, Int.reduceAdd, z_cast, Nat.reducePow, false_or, Nat.reduceLT, Nat.sub_zero, Nat.le_refl, zw, zl]
      try simp only [iteP, Classical.not_not, Bool.not_eq_false, Bool.not_eq_true]
      exact u _ _ _ _ hE1 hf1
    · have hw := lot_who (m := lvm F) (x := nd (dw F) / 65536) hlv zl
      have hp := pcF_pos (m := lvm F) (by omega) hlv
      have hp2 : pcnt (lvm F) ≤ 12 := pcF_le _ 12
      have hR : (die (dw (dw F)) (nthF (lvm F) 12 (nd (dw F) / 65536 % pcnt (lvm F))), 1) = lotE F := by unfold lotE; rw [if_pos zw, if_neg zl]
      have hl := lv_at2 hw.2
      have u := fun σ' v4 v5 v6 v7 => hN _ hR σ' v4 v5 v6 v7
      have hx : nd (dw F) / 65536 % pcnt (lvm F) < pcnt (lvm F) := Nat.mod_lt _ hp
      dsimp only at u
      refine V_run ok_X6_lots 60 66 ?_
      simp (disch := omega) only [eng, c_X6_lots, r_X6_lots, tbl, true_and, Nat.reduceAdd, Nat.reduceLT, ↓reduceIte, n_eq, n_lt, n_le, n_cl, n_inT, nI_add, bI_eq0, bI_eq1, not_true_eq_false, not_false_eq_true, true_implies, false_implies, implies_true, and_true, Bool.not_eq_false, Bool.not_eq_true, Nat.reduceEqDiff, Nat.reduceLeDiff, Classical.not_not, List.length_cons, List.length_nil, Int.reduceAdd, z_cast, Nat.reducePow, false_or, Nat.reduceLT, Nat.sub_zero, Nat.le_refl, zw, zl]
      try simp only [iteP, Classical.not_not, Bool.not_eq_false, Bool.not_eq_true]
      refine m_ones hlv ?_
      refine m_draw hW1 hE1 hp hp2 (fun σ2 hE2 hf2 => ?_)
      have hE2 : ME (dw (dw F)) σ2 := hE2
      refine m_nth hlv hx ?_
      generalize nthF (lvm F) 12 (nd (dw F) / 65536 % pcnt (lvm F)) = p at hw hl u ⊢
      refine m_die (Wf_dw hW1) hE2 (by rw [dw_0, dw_0]; exact hl.1) (by rw [dw_ne _ _ _ (by decide), dw_ne _ _ _ (by decide)]; exact hl.2) (fun σ3 hE3 hf3 => ?_)
      exact u σ3 _ _ _ _ hE3 ((hf1.trans hf2).trans hf3)
  · have zw2 : ¬ nd F / 65536 % 3 ≤ 0 := by omega
    by_cases zn : 12 ≤ F 12 0
    · have hR : ((dw F, 0) : Es × Nat) = lotE F := by unfold lotE; rw [if_neg zw, if_pos (Or.inl zn)]
      have u := hN _ hR σ1
      rw [show nI ((dw F, 0) : Es × Nat).2 = nI 0 from rfl, s0] at u
      refine V_run ok_X6_lots 60 66 ?_
      simp (disch := omega) only [eng, c_X6_lots, r_X6_lots, tbl, true_and, Nat.reduceAdd, Nat.reduceLT, ↓reduceIte, n_eq, n_lt, n_le, n_cl, n_inT, nI_add, bI_eq0, bI_eq1, not_true_eq_false, not_false_eq_true, true_implies, false_implies, implies_true, and_true, Bool.not_eq_false, Bool.not_eq_true, Nat.reduceEqDiff, Nat.reduceLeDiff, Classical.not_not, List.length_cons, List.length_nil, Int.reduceAdd, z_cast, Nat.reducePow, false_or, Nat.reduceLT, Nat.sub_zero, Nat.le_refl, zw, zw2, e6, zn]
      try simp only [iteP, Classical.not_not, Bool.not_eq_false, Bool.not_eq_true]
      exact u _ _ _ _ hE1 hf1
    by_cases zv : wvm F = 0
    · have hR : ((dw F, 0) : Es × Nat) = lotE F := by unfold lotE; rw [if_neg zw, if_pos (Or.inr zv)]
      have u := hN _ hR σ1
      rw [show nI ((dw F, 0) : Es × Nat).2 = nI 0 from rfl, s0] at u
      refine V_run ok_X6_lots 60 66 ?_
      simp (disch := omega) only [eng, c_X6_lots, r_X6_lots, tbl, true_and, Nat.reduceAdd, Nat.reduceLT, ↓reduceIte, n_eq, n_lt, n_le, n_cl, n_inT, nI_add, bI_eq0, bI_eq1, not_true_eq_false, not_false_eq_true, true_implies, false_implies, implies_true, and_true, Bool.not_eq_false, Bool.not_eq_true, Nat.reduceEqDiff, Nat.reduceLeDiff, Classical.not_not, List.length_cons, List.length_nil, Int.reduceAdd, z_cast, Nat.reducePow, false_or, Nat.reduceLT, Nat.sub_zero, Nat.le_refl, zw, zw2, e6, zn, zv]
      try simp only [iteP, Classical.not_not, Bool.not_eq_false, Bool.not_eq_true]
      exact u _ _ _ _ hE1 hf1
    · have hw := lot_who (m := wvm F) (x := nd (dw F) / 65536) hwv zv
      have hp := pcF_pos (m := wvm F) (by omega) hwv
      have hp2 : pcnt (wvm F) ≤ 12 := pcF_le _ 12
      have hR : (addE (dw (dw (dw F))) (nd (dw (dw F)) / 65536 % 2) (F 3 (nthF (wvm F) 12 (nd (dw F) / 65536 % pcnt (wvm F)))) (nthF (wvm F) 12 (nd (dw F) / 65536 % pcnt (wvm F))), 100) = lotE F := by unfold lotE; rw [if_neg zw, if_neg (fun z => by rcases z with z | z <;> omega)]
      have hl := wv_at hw.2
      have u := fun σ' v4 v5 v6 v7 => hN _ hR σ' v4 v5 v6 v7
      have hx : nd (dw F) / 65536 % pcnt (wvm F) < pcnt (wvm F) := Nat.mod_lt _ hp
      dsimp only at u
      refine V_run ok_X6_lots 60 66 ?_
      simp (disch := omega) only [eng, c_X6_lots, r_X6_lots, tbl, true_and, Nat.reduceAdd, Nat.reduceLT, ↓reduceIte, n_eq, n_lt, n_le, n_cl, n_inT, nI_add, bI_eq0, bI_eq1, not_true_eq_false, not_false_eq_true, true_implies, false_implies, implies_true, and_true, Bool.not_eq_false, Bool.not_eq_true, Nat.reduceEqDiff, Nat.reduceLeDiff, Classical.not_not, List.length_cons, List.length_nil, Int.reduceAdd, z_cast, Nat.reducePow, false_or, Nat.reduceLT, Nat.sub_zero, Nat.le_refl, zw, zw2, e6, zn, zv]
      try simp only [iteP, Classical.not_not, Bool.not_eq_false, Bool.not_eq_true]
      refine m_ones hwv ?_
      refine m_draw hW1 hE1 hp hp2 (fun σ2 hE2 hf2 => ?_)
      have hE2 : ME (dw (dw F)) σ2 := hE2
      have hW2 := Wf_dw hW1
      refine m_nth hwv hx ?_
      generalize nthF (wvm F) 12 (nd (dw F) / 65536 % pcnt (wvm F)) = p at hw hl u ⊢
      refine m_draw hW2 hE2 (by decide) (by decide) (fun σ3 hE3 hf3 => ?_)
      have hE3 : ME (dw (dw (dw F))) σ3 := hE3
      have hW3 := Wf_dw hW2
      have f3 := (hE3.2.2.2.1 p (by rw [dw_0, dw_0, dw_0]; exact hl.1)).2.2.2.1
      rw [dw_ne _ _ _ (by decide), dw_ne _ _ _ (by decide), dw_ne _ _ _ (by decide)] at f3
      have hp12 := p12 hW hl.1
      simp (disch := omega) only [n_eq, n_lt, n_le, n_cl, n_inT, nI_add, bI_eq0, bI_eq1, not_true_eq_false, not_false_eq_true, true_implies, false_implies, implies_true, and_true, Bool.not_eq_false, Bool.not_eq_true, Nat.reduceEqDiff, Nat.reduceLeDiff, Classical.not_not, List.length_cons, List.length_nil, Int.reduceAdd, z_cast, Nat.reducePow, false_or, Nat.reduceLT, Nat.sub_zero, Nat.le_refl, true_and, ↓reduceIte, iteP, f3]
      refine m_add hW3 hE3 (by rw [dw_0, dw_0, dw_0]; omega) (fun σ4 hE4 hf4 => ?_)
      exact u σ4 _ _ _ _ hE4 (((hf1.trans hf2).trans hf3).trans hf4)
theorem lp_mlots (l : Launch) {N : Nat} {E : Es} {f : Es → Es × Nat} {σ0 : St} {K : Int32 → St → Prop} (hf : ∀ E, Wf E → Wf (f E).1) (hx : ∀ (i : Nat) (s : Int32) (F : Es) (σ : St) (v4 v5 v6 v7 : Value), i < N → Wf F → ME F σ → (∀ (R : Es × Nat), R = f F → ∀ (σ' : St) (v4 v5 v6 v7 : Value), ME R.1 σ' → FrN σ σ' → V l i_X6_lots k_X6_lots 12 [.ref 900, .int (nI N), .int (s + nI R.2), .int (nI (i + 1)), v4, v5, v6, v7] [] σ' K) → V l i_X6_lots k_X6_lots 12 [.ref 900, .int (nI N), .int s, .int (nI i), v4, v5, v6, v7] [] σ K) (hW : Wf E) (hN : N ≤ 30) (hK : ∀ σ', ME (itL f E N).1 σ' → FrN σ0 σ' → K (nI (itL f E N).2) σ') : ∀ (n i : Nat) (σ : St) (v4 v5 v6 v7 : Value), i + n = N → ME (itL f E i).1 σ → FrN σ0 σ → V l i_X6_lots k_X6_lots 12 [.ref 900, .int (nI N), .int (nI (itL f E i).2), .int (nI i), v4, v5, v6, v7] [] σ K
  | 0, i, σ, v4, v5, v6, v7, hi, hE, hF => by
    have hi : i = N := by omega
    subst hi
    refine V_run ok_X6_lots 60 12 ?_
    simp (disch := omega) only [eng, c_X6_lots, r_X6_lots, tbl, true_and, Nat.reduceAdd, Nat.reduceLT, ↓reduceIte, n_eq, n_lt, n_le, n_cl, n_inT, nI_add, bI_eq0, bI_eq1, not_true_eq_false, not_false_eq_true, true_implies, false_implies, implies_true, and_true, Bool.not_eq_false, Bool.not_eq_true, Nat.reduceEqDiff, Nat.reduceLeDiff, Classical.not_not, List.length_cons, List.length_nil, Int.reduceAdd, z_cast, Nat.reducePow, false_or, Nat.reduceLT, Nat.sub_zero, Nat.le_refl]
    try simp only [iteP, Classical.not_not, Bool.not_eq_false, Bool.not_eq_true]
    exact hK σ hE hF
  | n + 1, i, σ, v4, v5, v6, v7, hi, hE, hF => by
    refine hx i _ _ σ v4 v5 v6 v7 (by omega) (Wf_itL hf hW i) hE (fun R hR σ' v4 v5 v6 v7 hE' hF' => ?_)
    subst hR
    have ih := lp_mlots l hf hx hW hN hK n (i + 1) σ' v4 v5 v6 v7 (by omega) hE' (hF.trans hF')
    rw [itL_2, ← nI_add] at ih
    exact ih
theorem M_lotsG {l : Launch} {A : AS} {n : Int32} {f : Es → Es × Nat} {σ : St} {K : Int32 → St → Prop} (hf : ∀ E, Wf E → Wf (f E).1) (hx : ∀ (N i : Nat) (s : Int32) (F : Es) (σ : St) (v4 v5 v6 v7 : Value), N ≤ 30 → i < N → Wf F → ME F σ → (∀ (R : Es × Nat), R = f F → ∀ (σ' : St) (v4 v5 v6 v7 : Value), ME R.1 σ' → FrN σ σ' → V l i_X6_lots k_X6_lots 12 [.ref 900, .int (nI N), .int (s + nI R.2), .int (nI (i + 1)), v4, v5, v6, v7] [] σ' K) → V l i_X6_lots k_X6_lots 12 [.ref 900, .int (nI N), .int s, .int (nI i), v4, v5, v6, v7] [] σ K) (hM : MX A σ) (hK : ∀ σ', MX (op_lotsG f A n).2 σ' → FrM σ σ' → K (op_lotsG f A n).1 σ') : CallAt l 172 [.ref 900, .int n] σ K := by
  unfold op_lotsG at hK
  refine CallAt.of (k := 172) (cd := k_X6_lots) ok_X6_lots (by decide) rfl rfl rfl ?_
  show V _ i_X6_lots k_X6_lots 0 [.ref 900, .int n, .null, .null, .null, .null, .null, .null] [] _ _
  refine V_run ok_X6_lots 60 0 ?_
  simp (disch := omega) only [eng, c_X6_lots, r_X6_lots, tbl, true_and, Nat.reduceAdd, Nat.reduceLT, ↓reduceIte, n_eq, n_lt, n_le, n_cl, n_inT, nI_add, bI_eq0, bI_eq1, not_true_eq_false, not_false_eq_true, true_implies, false_implies, implies_true, and_true, Bool.not_eq_false, Bool.not_eq_true, Nat.reduceEqDiff, Nat.reduceLeDiff, Classical.not_not, List.length_cons, List.length_nil, Int.reduceAdd, z_cast, Nat.reducePow, false_or, Nat.reduceLT, Nat.sub_zero, Nat.le_refl]
  try simp only [iteP, Classical.not_not, Bool.not_eq_false, Bool.not_eq_true]
  refine m_rI (a := 1) (n := 30) rfl rfl ?_
  rcases rng n 1 30 (by decide) (by decide) with ⟨g0, g⟩ | ⟨g0, g⟩ | ⟨g0, n', h1, h3, rfl⟩
  iterate 2
    · rw [g0] at hK ⊢
      simp (disch := omega) only [n_eq, n_lt, n_le, n_cl, n_inT, nI_add, bI_eq0, bI_eq1, not_true_eq_false, not_false_eq_true, true_implies, false_implies, implies_true, and_true, Bool.not_eq_false, Bool.not_eq_true, Nat.reduceEqDiff, Nat.reduceLeDiff, Classical.not_not, List.length_cons, List.length_nil, Int.reduceAdd, z_cast, Nat.reducePow, false_or, Nat.reduceLT, Nat.sub_zero, Nat.le_refl, true_and, ↓reduceIte, iteP, Bool.false_eq_true]
      exact hK σ hM FrM.rfl'
  rw [g0, if_pos rfl, n_cl (by omega)] at hK
  rw [g0]
  simp (disch := omega) only [n_eq, n_lt, n_le, n_cl, n_inT, nI_add, bI_eq0, bI_eq1, not_true_eq_false, not_false_eq_true, true_implies, false_implies, implies_true, and_true, Bool.not_eq_false, Bool.not_eq_true, Nat.reduceEqDiff, Nat.reduceLeDiff, Classical.not_not, List.length_cons, List.length_nil, Int.reduceAdd, z_cast, Nat.reducePow, false_or, Nat.reduceLT, Nat.sub_zero, Nat.le_refl, true_and, ↓reduceIte, iteP, Bool.true_eq_false]
  have z := lp_mlots l (K := K) (σ0 := σ) (N := n') (f := f) hf (fun i s F σ v4 v5 v6 v7 => hx n' i s F σ v4 v5 v6 v7 h3) hM.1.1 h3 (fun σ' hE' hF' => hK σ' (hM.es hF' (Wf_itL hf hM.1.1 n') hE') hF'.m) n' 0 σ .null .null .null .null (by omega) (by rw [itL_0]; exact hM.2.1) FrN.rfl'
  rw [itL_0] at z
  exact z
theorem hx_mlot (l : Launch) (K : Int32 → St → Prop) (N i : Nat) (s : Int32) (F : Es) (σ : St) (v4 v5 v6 v7 : Value) (h1 : N ≤ 30) (h2 : i < N) (h3 : Wf F) (h4 : ME F σ) (h5 : ∀ (R : Es × Nat), R = lotE F → ∀ (σ' : St) (v4 v5 v6 v7 : Value), ME R.1 σ' → FrN σ σ' → V l i_X6_lots k_X6_lots 12 [.ref 900, .int (nI N), .int (s + nI R.2), .int (nI (i + 1)), v4, v5, v6, v7] [] σ' K) : V l i_X6_lots k_X6_lots 12 [.ref 900, .int (nI N), .int s, .int (nI i), v4, v5, v6, v7] [] σ K := m_lot1 l h1 h2 h3 h4 h5
theorem M_lots {l : Launch} {A : AS} {n : Int32} {σ : St} {K : Int32 → St → Prop} (hM : MX A σ) (hK : ∀ σ', MX (op_lotsG lotE A n).2 σ' → FrM σ σ' → K (op_lotsG lotE A n).1 σ') : CallAt l 172 [.ref 900, .int n] σ K :=
  M_lotsG hf_lot (hx_mlot l K) hM hK
