theorem cb_lvm {E : Es} (hW : Wf E) {p : Nat} (hp : p < E 12 0) : cb (lvm E) (p + 1) = cb (lvm E) p + E 5 p := by
  show cb (lvm E) p + ((lvm E).testBit p).toNat = _
  rw [lvm_tb, decide_eq_true hp, Bool.true_and]
  have := (hW.2.2.2.1 p hp).2.1
  rcases (show E 5 p = 0 ∨ E 5 p = 1 by omega) with z | z <;> simp [z]
theorem cb_st {E : Es} : ∀ n, cb (lvm E) (E 12 0 + n) = cb (lvm E) (E 12 0)
  | 0 => rfl
  | n + 1 => by
    show cb (lvm E) (E 12 0 + n) + ((lvm E).testBit (E 12 0 + n)).toNat = _
    rw [cb_st n, lvm_tb, decide_eq_false (by omega), Bool.false_and]
    rfl
theorem pc_lvm {E : Es} (hW : Wf E) : pcnt (lvm E) = cb (lvm E) (E 12 0) := by
  have := hW.1
  rw [pcnt_cb, ← cb_st (12 - E 12 0), show E 12 0 + (12 - E 12 0) = 12 by omega]
theorem cnt2 (E : Es) : ∀ n, cnt E 12 n + cnt E 13 n ≤ n
  | 0 => Nat.le_refl 0
  | n + 1 => by
    have := cnt2 E n
    unfold cnt
    split <;> split <;> omega
theorem lp_count2 (l : Launch) {w lv : Int32} {E : Es} {σ : St} {K : Int32 → St → Prop} (hW : Wf E) (hE : ME E σ) (hN : V l i_X6_count k_X6_count 27 [.ref 900, .int w, .int lv, .int (nI (E 12 1 - cnt E 12 (E 12 1) - cnt E 13 (E 12 1))), .int (nI (cnt E 12 (E 12 1))), .int (nI (cnt E 13 (E 12 1))), .int (nI (lan E (E 12 1))), .int (nI (E 12 1))] [] σ K) : ∀ (n t : Nat), t + n = E 12 1 → V l i_X6_count k_X6_count 27 [.ref 900, .int w, .int lv, .int (nI (t - cnt E 12 t - cnt E 13 t)), .int (nI (cnt E 12 t)), .int (nI (cnt E 13 t)), .int (nI (lan E t)), .int (nI t)] [] σ K
  | 0, t, ht => by
    have ht : t = E 12 1 := by omega
    rw [ht]; exact hN
  | n + 1, t, ht => by
    have ht1 : t < E 12 1 := by omega
    have hn12 := hW.2.1
    have hn := hW.1
    have h12 := t12 hW ht1
    have e11 := hE.2.1
    have ft := hE.2.2.2.2.1 t ht1
    have wt := hW.2.2.2.2.1 t ht1
    have wk := wt.1
    have h14 := ho14 hW ht1
    have hz : ¬ E 12 1 ≤ t := by omega
    have hc := cnt2 E t
    have ih := lp_count2 l hW hE hN n (t + 1) (by omega)
    have c12 : cnt E 12 (t + 1) = cnt E 12 t + (if E 8 t = 12 then 1 else 0) := rfl
    have c13 : cnt E 13 (t + 1) = cnt E 13 t + (if E 8 t = 13 then 1 else 0) := rfl
    have cl : lan E (t + 1) = lan E t + (if E 6 t = 0 ∧ E 8 t < E 12 0 then E 7 t else 0) := rfl
    rw [c12, c13, cl] at ih
    by_cases h8 : 12 ≤ E 8 t
    · by_cases h9 : E 8 t = 12
      · have h10 : ¬ E 8 t = 13 := by omega
        rw [if_pos h9, if_neg h10, if_neg (fun z => by omega), show t + 1 - (cnt E 12 t + 1) - (cnt E 13 t + 0) = t - cnt E 12 t - cnt E 13 t by omega] at ih
        have f8 : σ 910 t = nI 12 := by rw [ft.2.2.1, h9]
        refine V_run ok_X6_count 90 27 ?_
        simp (disch := omega) only [eng, c_X6_count, r_X6_count, tbl, true_and, Nat.reduceAdd, Nat.reduceLT, ↓reduceIte, n_eq, n_lt, n_le, n_cl, n_inT, nI_add, bI_eq0, bI_eq1, not_true_eq_false, not_false_eq_true, true_implies, false_implies, implies_true, and_true, Bool.not_eq_false, Bool.not_eq_true, Nat.reduceEqDiff, Nat.reduceLeDiff, Classical.not_not, List.length_cons, List.length_nil, Int.reduceAdd, z_cast, Nat.reducePow, false_or, Nat.reduceLT, Nat.sub_zero, Nat.le_refl, e11, hz, f8, Nat.add_zero]
        try simp only [iteP, Classical.not_not, Bool.not_eq_false, Bool.not_eq_true]
        exact ih
      · have h10 : E 8 t = 13 := by omega
        rw [if_neg h9, if_pos h10, if_neg (fun z => by omega), show t + 1 - (cnt E 12 t + 0) - (cnt E 13 t + 1) = t - cnt E 12 t - cnt E 13 t by omega] at ih
        have f8 : σ 910 t = nI 13 := by rw [ft.2.2.1, h10]
        refine V_run ok_X6_count 90 27 ?_
        simp (disch := omega) only [eng, c_X6_count, r_X6_count, tbl, true_and, Nat.reduceAdd, Nat.reduceLT, ↓reduceIte, n_eq, n_lt, n_le, n_cl, n_inT, nI_add, bI_eq0, bI_eq1, not_true_eq_false, not_false_eq_true, true_implies, false_implies, implies_true, and_true, Bool.not_eq_false, Bool.not_eq_true, Nat.reduceEqDiff, Nat.reduceLeDiff, Classical.not_not, List.length_cons, List.length_nil, Int.reduceAdd, z_cast, Nat.reducePow, false_or, Nat.reduceLT, Nat.sub_zero, Nat.le_refl, e11, hz, f8, Nat.add_zero]
        try simp only [iteP, Classical.not_not, Bool.not_eq_false, Bool.not_eq_true]
        exact ih
    · have h9 : ¬ E 8 t = 12 := by omega
      have h10 : ¬ E 8 t = 13 := by omega
      have h8' : E 8 t < E 12 0 := by rcases wt.2.2.1 with q | q | q <;> omega
      rw [if_neg h9, if_neg h10, show t + 1 - (cnt E 12 t + 0) - (cnt E 13 t + 0) = t - cnt E 12 t - cnt E 13 t + 1 by omega] at ih
      by_cases h6 : E 6 t = 0
      · rw [if_pos ⟨h6, h8'⟩] at ih
        refine V_run ok_X6_count 90 27 ?_
        simp (disch := omega) only [eng, c_X6_count, r_X6_count, tbl, true_and, Nat.reduceAdd, Nat.reduceLT, ↓reduceIte, n_eq, n_lt, n_le, n_cl, n_inT, nI_add, bI_eq0, bI_eq1, not_true_eq_false, not_false_eq_true, true_implies, false_implies, implies_true, and_true, Bool.not_eq_false, Bool.not_eq_true, Nat.reduceEqDiff, Nat.reduceLeDiff, Classical.not_not, List.length_cons, List.length_nil, Int.reduceAdd, z_cast, Nat.reducePow, false_or, Nat.reduceLT, Nat.sub_zero, Nat.le_refl, e11, hz, ft, h8, h9, h10, h6, Nat.add_zero]
        try simp only [iteP, Classical.not_not, Bool.not_eq_false, Bool.not_eq_true]
        exact ih
      · rw [if_neg (fun z => h6 z.1)] at ih
        refine V_run ok_X6_count 90 27 ?_
        simp (disch := omega) only [eng, c_X6_count, r_X6_count, tbl, true_and, Nat.reduceAdd, Nat.reduceLT, ↓reduceIte, n_eq, n_lt, n_le, n_cl, n_inT, nI_add, bI_eq0, bI_eq1, not_true_eq_false, not_false_eq_true, true_implies, false_implies, implies_true, and_true, Bool.not_eq_false, Bool.not_eq_true, Nat.reduceEqDiff, Nat.reduceLeDiff, Classical.not_not, List.length_cons, List.length_nil, Int.reduceAdd, z_cast, Nat.reducePow, false_or, Nat.reduceLT, Nat.sub_zero, Nat.le_refl, e11, hz, ft, h8, h9, h10, h6, Nat.add_zero]
        try simp only [iteP, Classical.not_not, Bool.not_eq_false, Bool.not_eq_true]
        exact ih
theorem lp_count1 (l : Launch) {w : Int32} {E : Es} {σ : St} {K : Int32 → St → Prop} (hW : Wf E) (hE : ME E σ) (hN : ∀ v7 : Value, V l i_X6_count k_X6_count 27 [.ref 900, .int w, .int (nI (pcnt (lvm E))), .int (nI 0), .int (nI 0), .int (nI 0), .int (nI 0), .int (nI 0)] [] σ K) (v4 v5 v6 v7 : Value) : ∀ (n p : Nat), p + n = E 12 0 → V l i_X6_count k_X6_count 4 [.ref 900, .int w, .int (nI (cb (lvm E) p)), .int (nI p), v4, v5, v6, v7] [] σ K
  | 0, p, hp => by
    have hp : p = E 12 0 := by omega
    subst hp
    have hn12 := hW.1
    have e6 := hE.1
    have := hN v7
    rw [pc_lvm hW] at this
    refine V_run ok_X6_count 60 4 ?_
    simp (disch := omega) only [eng, c_X6_count, r_X6_count, tbl, true_and, Nat.reduceAdd, Nat.reduceLT, ↓reduceIte, n_eq, n_lt, n_le, n_cl, n_inT, nI_add, bI_eq0, bI_eq1, not_true_eq_false, not_false_eq_true, true_implies, false_implies, implies_true, and_true, Bool.not_eq_false, Bool.not_eq_true, Nat.reduceEqDiff, Nat.reduceLeDiff, Classical.not_not, List.length_cons, List.length_nil, Int.reduceAdd, z_cast, Nat.reducePow, false_or, Nat.reduceLT, Nat.sub_zero, Nat.le_refl, e6]
    try simp only [iteP, Classical.not_not, Bool.not_eq_false, Bool.not_eq_true]
    exact this
  | n + 1, p, hp => by
    have hp1 : p < E 12 0 := by omega
    have hn12 := hW.1
    have e6 := hE.1
    have fp := (hE.2.2.2.1 p hp1).2.2.2.2.2
    have hz : ¬ E 12 0 ≤ p := by omega
    have ih := lp_count1 l hW hE hN v4 v5 v6 v7 n (p + 1) (by omega)
    rw [cb_lvm hW hp1] at ih
    refine V_run ok_X6_count 60 4 ?_
    simp (disch := omega) only [eng, c_X6_count, r_X6_count, tbl, true_and, Nat.reduceAdd, Nat.reduceLT, ↓reduceIte, n_eq, n_lt, n_le, n_cl, n_inT, nI_add, bI_eq0, bI_eq1, not_true_eq_false, not_false_eq_true, true_implies, false_implies, implies_true, and_true, Bool.not_eq_false, Bool.not_eq_true, Nat.reduceEqDiff, Nat.reduceLeDiff, Classical.not_not, List.length_cons, List.length_nil, Int.reduceAdd, z_cast, Nat.reducePow, false_or, Nat.reduceLT, Nat.sub_zero, Nat.le_refl, e6, fp, hz]
    try simp only [iteP, Classical.not_not, Bool.not_eq_false, Bool.not_eq_true]
    exact ih
