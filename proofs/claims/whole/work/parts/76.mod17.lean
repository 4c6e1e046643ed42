theorem M_count {l : Launch} {A : AS} {w : Int32} {σ : St} {K : Int32 → St → Prop} (hM : MX A σ) (hK : ∀ σ', MX (op_count A w).2 σ' → FrM σ σ' → K (op_count A w).1 σ') : CallAt l 148 [.ref 900, .int w] σ K := by
  have hW := hM.1.1
  have hE := hM.2.1
  have hn := hW.1
  have hn1 := hW.2.1
  have e6 := hE.1
  have e11 := hE.2.1
  have hk := hK σ hM FrM.rfl'
  unfold op_count coR at hk
  dsimp only at hk
  have hc := cnt2 A.1 (A.1 12 1)
  have s1 := pk_sub (a := A.1 12 1) (b := cnt A.1 12 (A.1 12 1)) (by omega)
  have s2 := pk_sub (a := A.1 12 1 - cnt A.1 12 (A.1 12 1)) (b := cnt A.1 13 (A.1 12 1)) (by omega)
  rw [s1, s2] at hk
  refine CallAt.of (k := 148) (cd := k_X6_count) ok_X6_count (by decide) rfl rfl rfl ?_
  show V _ i_X6_count k_X6_count 0 [.ref 900, .int w, .null, .null, .null, .null, .null, .null] [] _ _
  refine V_run ok_X6_count 30 0 ?_
  simp (disch := omega) only [eng, c_X6_count, r_X6_count, tbl, true_and, Nat.reduceAdd, Nat.reduceLT, ↓reduceIte, n_eq, n_lt, n_le, n_cl, n_inT, nI_add, bI_eq0, bI_eq1, not_true_eq_false, not_false_eq_true, true_implies, false_implies, implies_true, and_true, Bool.not_eq_false, Bool.not_eq_true, Nat.reduceEqDiff, Nat.reduceLeDiff, Classical.not_not, List.length_cons, List.length_nil, Int.reduceAdd, z_cast, Nat.reducePow, false_or, Nat.reduceLT, Nat.sub_zero, Nat.le_refl]
  try simp only [iteP, Classical.not_not, Bool.not_eq_false, Bool.not_eq_true]
  have z := lp_count1 (K := K) (w := w) l hW hE (fun v7 => ?_) .null .null .null .null (A.1 12 0) 0 (by omega)
  · exact z
  have z2 := lp_count2 (K := K) (w := w) (lv := nI (pcnt (lvm A.1))) l hW hE ?_ (A.1 12 1) 0 (by omega)
  · exact z2
  cases hw : inB w 7 with
  | false =>
    have q := inB_f (by decide) hw
    simp only [q.2 0 (by decide), q.2 1 (by decide), q.2 2 (by decide), q.2 3 (by decide), q.2 4 (by decide), q.2 5 (by decide), q.2 6 (by decide), if_false] at hk
    refine V_run ok_X6_count 60 27 ?_
    simp (disch := omega) only [eng, c_X6_count, r_X6_count, tbl, true_and, Nat.reduceAdd, Nat.reduceLT, ↓reduceIte, n_eq, n_lt, n_le, n_cl, n_inT, nI_add, bI_eq0, bI_eq1, not_true_eq_false, not_false_eq_true, true_implies, false_implies, implies_true, and_true, Bool.not_eq_false, Bool.not_eq_true, Nat.reduceEqDiff, Nat.reduceLeDiff, Classical.not_not, List.length_cons, List.length_nil, Int.reduceAdd, z_cast, Nat.reducePow, false_or, Nat.reduceLT, Nat.sub_zero, Nat.le_refl, e11, q.2 0 (by decide), q.2 1 (by decide), q.2 2 (by decide), q.2 3 (by decide), q.2 4 (by decide), q.2 5 (by decide), q.2 6 (by decide), q.1]
    try simp only [iteP, Classical.not_not, Bool.not_eq_false, Bool.not_eq_true]
    exact hk
  | true =>
    obtain ⟨j, hj, rfl⟩ := inB_of hw
    rcases (show j = 0 ∨ j = 1 ∨ j = 2 ∨ j = 3 ∨ j = 4 ∨ j = 5 ∨ j = 6 by omega) with rfl | rfl | rfl | rfl | rfl | rfl | rfl
    all_goals
      simp (disch := omega) only [n_eq, n_lt, n_le, n_cl, n_inT, nI_add, bI_eq0, bI_eq1, not_true_eq_false, not_false_eq_true, true_implies, false_implies, implies_true, and_true, Bool.not_eq_false, Bool.not_eq_true, Nat.reduceEqDiff, Nat.reduceLeDiff, Classical.not_not, List.length_cons, List.length_nil, Int.reduceAdd, z_cast, Nat.reducePow, false_or, Nat.reduceLT, Nat.sub_zero, Nat.le_refl, if_true, if_false] at hk
      refine V_run ok_X6_count 60 27 ?_
      simp (disch := omega) only [eng, c_X6_count, r_X6_count, tbl, true_and, Nat.reduceAdd, Nat.reduceLT, ↓reduceIte, n_eq, n_lt, n_le, n_cl, n_inT, nI_add, bI_eq0, bI_eq1, not_true_eq_false, not_false_eq_true, true_implies, false_implies, implies_true, and_true, Bool.not_eq_false, Bool.not_eq_true, Nat.reduceEqDiff, Nat.reduceLeDiff, Classical.not_not, List.length_cons, List.length_nil, Int.reduceAdd, z_cast, Nat.reducePow, false_or, Nat.reduceLT, Nat.sub_zero, Nat.le_refl, e6, e11]
      try simp only [iteP, Classical.not_not, Bool.not_eq_false, Bool.not_eq_true]
      exact hk
