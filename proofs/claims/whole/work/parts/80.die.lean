theorem mid_q {E : Es} {p : Nat} {g g' : Nat → Nat × Nat} {σ : St} (h : ME (mid E p g) σ) : MPR (mid E p g') σ := h.q
theorem Wf_mid0 {E : Es} {p : Nat} (hW : Wf E) : Wf (mid E p (fun _ => (12, 12))) := by
  obtain ⟨a1, a2, a3, a4, a5, a6⟩ := hW
  refine ⟨a1, a2, a3, fun q hq => ?_, fun t ht => ?_, fun k hk => a6 k hk⟩
  · obtain ⟨b1, b2, b3, b4, b5, b6, b7⟩ := a4 q hq
    refine ⟨b1, ?_, b3, b4, b5, b6, fun h1 => ?_⟩
    · have : (if 5 = 5 ∧ q = p then 0 else E 5 q) ≤ 1 := by split <;> omega
      exact this
    · have h1 : (if 5 = 5 ∧ q = p then 0 else E 5 q) = 1 := h1
      have h2 : E 5 q = 1 := by
        split at h1
        · cases h1
        · exact h1
      exact b7 h2
  · obtain ⟨b1, b2, b3⟩ := a5 t ht
    exact ⟨b1, b2, Or.inl rfl, Or.inl rfl, fun _ => rfl, fun z => absurd (show 12 < 12 from z) (by omega)⟩
theorem lp_die1 (l : Launch) {p : Nat} {E : Es} {σ0 : St} {K : Int32 → St → Prop} (hW : Wf E) (hp : p < E 12 0) (hN : ∀ (g : Nat → Nat × Nat) (σ : St) (v4 : Value), ME (mid E p g) σ → (∀ j, j < E 12 1 → g j = d1 E p j) → FrN σ0 σ → V l i_X6_die k_X6_die 50 [.ref 900, .int (nI p), .int (nI (cnt E p (E 12 1))), .int (nI 0), v4] [] σ K) : ∀ (n t : Nat) (g : Nat → Nat × Nat) (σ : St) (v4 : Value), t + n = E 12 1 → ME (mid E p g) σ → (∀ j, j < t → g j = d1 E p j) → (∀ j, t ≤ j → g j = (E 8 j, E 9 j)) → FrN σ0 σ → V l i_X6_die k_X6_die 9 [.ref 900, .int (nI p), .int (nI (cnt E p t)), .int (nI t), v4] [] σ K
  | 0, t, g, σ, v4, ht, hE, h1, h2, hf => by
    have ht : t = E 12 1 := by omega
    have e11 : σ 900 11 = nI (E 12 1) := hE.2.1
    have hn := hW.2.1
    subst ht
    refine V_run ok_X6_die 20 9 ?_
    simp (disch := omega) only [eng, c_X6_die, r_X6_die, tbl, true_and, Nat.reduceAdd, Nat.reduceLT, ↓reduceIte, n_eq, n_lt, n_le, n_cl, n_inT, nI_add, bI_eq0, bI_eq1, not_true_eq_false, not_false_eq_true, true_implies, false_implies, implies_true, and_true, Bool.not_eq_false, Bool.not_eq_true, Nat.reduceEqDiff, Nat.reduceLeDiff, Classical.not_not, List.length_cons, List.length_nil, Int.reduceAdd, z_cast, Nat.reducePow, false_or, Nat.reduceLT, Nat.sub_zero, Nat.le_refl, e11]
    try simp only [iteP, Classical.not_not, Bool.not_eq_false, Bool.not_eq_true]
    exact hN g σ v4 hE h1 hf
  | n + 1, t, g, σ, v4, ht, hE, h1, h2, hf => by
    have ht1 : t < E 12 1 := by omega
    have hn := hW.2.1
    have h12 := t12 hW ht1
    have hp12 := p12 hW hp
    have e11 : σ 900 11 = nI (E 12 1) := hE.2.1
    have hz : ¬ E 12 1 ≤ t := by omega
    have ft : σ 908 t = nI (E 6 t) ∧ σ 909 t = nI (E 7 t) ∧ σ 910 t = nI (E 8 t) ∧ σ 911 t = nI (E 9 t) := by
      have := mid_t hE ht1
      rw [h2 t (Nat.le_refl t)] at this
      exact this
    have h14 := ho14 hW ht1
    have h15 := ot12 hW ht1
    have wk := (hW.2.2.2.2.1 t ht1).1
    have c1 : cnt E p (t + 1) = cnt E p t + (if E 8 t = p then 1 else 0) := rfl
    have up : ∀ x y : Nat, d1 E p t = (x, y) → ∀ v : Value, V l i_X6_die k_X6_die 9 [.ref 900, .int (nI p), .int (nI (cnt E p (t + 1))), .int (nI (t + 1)), v] [] (wr (wr σ 910 t (nI x)) 911 t (nI y)) K := fun x y hx v => by
      refine lp_die1 l hW hp hN n (t + 1) (fun j => if j = t then (x, y) else g j) _ v (by omega) (mid_set hE) (fun j hj => ?_) (fun j hj => ?_) ((hf.wr (by omega) (by omega)).wr (by omega) (by omega))
      · by_cases z : j = t
        · subst z; simp [hx]
        · simp only [z, if_false]; exact h1 j (by omega)
      · have z : ¬ j = t := by omega
        simp only [z, if_false]; exact h2 j (by omega)
    by_cases z : E 8 t = p
    · rw [if_pos z] at c1
      have hx : d1 E p t = (heir E p (E 6 t), if heir E p (E 6 t) = 12 then 12 else E 9 t) := by unfold d1; rw [if_pos z]
      have q12 := heir12 hW p (E 6 t)
      refine V_run ok_X6_die 60 9 ?_
      simp (disch := omega) only [eng, c_X6_die, r_X6_die, tbl, true_and, Nat.reduceAdd, Nat.reduceLT, ↓reduceIte, n_eq, n_lt, n_le, n_cl, n_inT, nI_add, bI_eq0, bI_eq1, not_true_eq_false, not_false_eq_true, true_implies, false_implies, implies_true, and_true, Bool.not_eq_false, Bool.not_eq_true, Nat.reduceEqDiff, Nat.reduceLeDiff, Classical.not_not, List.length_cons, List.length_nil, Int.reduceAdd, z_cast, Nat.reducePow, false_or, Nat.reduceLT, Nat.sub_zero, Nat.le_refl, e11, hz, ft, z]
      try simp only [iteP, Classical.not_not, Bool.not_eq_false, Bool.not_eq_true]
      refine m_heirOf (Wf_mid0 hW) (mid_q hE) hp (by omega) ?_
      rw [mid_heir]
      have u := up _ _ hx (.int (nI (heir E p (E 6 t))))
      rw [c1] at u
      by_cases y : heir E p (E 6 t) = 12
      · rw [if_pos y] at u
        simp (disch := omega) only [n_eq, n_lt, n_le, n_cl, n_inT, nI_add, bI_eq0, bI_eq1, not_true_eq_false, not_false_eq_true, true_implies, false_implies, implies_true, and_true, Bool.not_eq_false, Bool.not_eq_true, Nat.reduceEqDiff, Nat.reduceLeDiff, Classical.not_not, List.length_cons, List.length_nil, Int.reduceAdd, z_cast, Nat.reducePow, false_or, Nat.reduceLT, Nat.sub_zero, Nat.le_refl, true_and, ↓reduceIte, iteP, y, wrq]
        rw [y] at u
        exact u
      · rw [if_neg y] at u
        simp (disch := omega) only [n_eq, n_lt, n_le, n_cl, n_inT, nI_add, bI_eq0, bI_eq1, not_true_eq_false, not_false_eq_true, true_implies, false_implies, implies_true, and_true, Bool.not_eq_false, Bool.not_eq_true, Nat.reduceEqDiff, Nat.reduceLeDiff, Classical.not_not, List.length_cons, List.length_nil, Int.reduceAdd, z_cast, Nat.reducePow, false_or, Nat.reduceLT, Nat.sub_zero, Nat.le_refl, true_and, ↓reduceIte, iteP, y, wrq, ft]
        exact u
    · rw [if_neg z, Nat.add_zero] at c1
      refine V_run ok_X6_die 60 9 ?_
      simp (disch := omega) only [eng, c_X6_die, r_X6_die, tbl, true_and, Nat.reduceAdd, Nat.reduceLT, ↓reduceIte, n_eq, n_lt, n_le, n_cl, n_inT, nI_add, bI_eq0, bI_eq1, not_true_eq_false, not_false_eq_true, true_implies, false_implies, implies_true, and_true, Bool.not_eq_false, Bool.not_eq_true, Nat.reduceEqDiff, Nat.reduceLeDiff, Classical.not_not, List.length_cons, List.length_nil, Int.reduceAdd, z_cast, Nat.reducePow, false_or, Nat.reduceLT, Nat.sub_zero, Nat.le_refl, e11, hz, ft, z]
      try simp only [iteP, Classical.not_not, Bool.not_eq_false, Bool.not_eq_true]
      have hx : d1 E p t = (E 8 t, E 9 t) := by unfold d1; rw [if_neg z]
      have u := up _ _ hx v4
      rw [c1, wr_same (k := 910) (by exact ft.2.2.1), wr_same (by exact ft.2.2.2)] at u
      exact u
theorem d1_le {E : Es} (hW : Wf E) {p t : Nat} (ht : t < E 12 1) : (d1 E p t).1 ≤ 13 ∧ (d1 E p t).2 ≤ 12 := by
  have h14 := ho14 hW ht
  have h15 := ot12 hW ht
  have q12 := heir12 hW p (E 6 t)
  unfold d1
  split
  · refine ⟨by dsimp only; omega, ?_⟩
    dsimp only
    split <;> omega
  · exact ⟨h14, h15⟩
theorem d2_le {E : Es} (hW : Wf E) {p t : Nat} (ht : t < E 12 1) : (d2 E p t).1 ≤ 13 ∧ (d2 E p t).2 ≤ 12 := by
  have h1 := d1_le hW (p := p) ht
  have q12 := heir12 hW p (if E 6 t = 1 then 0 else 2)
  unfold d2
  generalize heir E p (if E 6 t = 1 then 0 else 2) = a at q12 ⊢
  split
  · split
    · exact ⟨by decide, by decide⟩
    · exact ⟨h1.1, q12⟩
  · exact h1
theorem lp_die2 (l : Launch) {p : Nat} {c : Int32} {E : Es} {σ0 : St} {K : Int32 → St → Prop} (hW : Wf E) (hp : p < E 12 0) (hN : ∀ (g : Nat → Nat × Nat) (σ : St) (v4 : Value), ME (mid E p g) σ → (∀ j, j < E 12 1 → g j = d2 E p j) → FrN σ0 σ → V l i_X6_die k_X6_die 95 [.ref 900, .int (nI p), .int c, .int (nI 0), v4] [] σ K) : ∀ (n t : Nat) (g : Nat → Nat × Nat) (σ : St) (v4 : Value), t + n = E 12 1 → ME (mid E p g) σ → (∀ j, j < t → g j = d2 E p j) → (∀ j, t ≤ j → j < E 12 1 → g j = d1 E p j) → FrN σ0 σ → V l i_X6_die k_X6_die 50 [.ref 900, .int (nI p), .int c, .int (nI t), v4] [] σ K
  | 0, t, g, σ, v4, ht, hE, h1, h2, hf => by
    have ht : t = E 12 1 := by omega
    have e11 : σ 900 11 = nI (E 12 1) := hE.2.1
    have hn := hW.2.1
    subst ht
    refine V_run ok_X6_die 20 50 ?_
    simp (disch := omega) only [eng, c_X6_die, r_X6_die, tbl, true_and, Nat.reduceAdd, Nat.reduceLT, ↓reduceIte, n_eq, n_lt, n_le, n_cl, n_inT, nI_add, bI_eq0, bI_eq1, not_true_eq_false, not_false_eq_true, true_implies, false_implies, implies_true, and_true, Bool.not_eq_false, Bool.not_eq_true, Nat.reduceEqDiff, Nat.reduceLeDiff, Classical.not_not, List.length_cons, List.length_nil, Int.reduceAdd, z_cast, Nat.reducePow, false_or, Nat.reduceLT, Nat.sub_zero, Nat.le_refl, e11]
    try simp only [iteP, Classical.not_not, Bool.not_eq_false, Bool.not_eq_true]
    exact hN g σ v4 hE h1 hf
  | n + 1, t, g, σ, v4, ht, hE, h1, h2, hf => by
    have ht1 : t < E 12 1 := by omega
    have hn := hW.2.1
    have h12 := t12 hW ht1
    have hp12 := p12 hW hp
    have e11 : σ 900 11 = nI (E 12 1) := hE.2.1
    have hz : ¬ E 12 1 ≤ t := by omega
    have ft : σ 908 t = nI (E 6 t) ∧ σ 909 t = nI (E 7 t) ∧ σ 910 t = nI (d1 E p t).1 ∧ σ 911 t = nI (d1 E p t).2 := by
      have := mid_t hE ht1
      rw [h2 t (Nat.le_refl t) ht1] at this
      exact this
    have hd := d1_le hW (p := p) ht1
    have wk := (hW.2.2.2.2.1 t ht1).1
    have up : ∀ x y : Nat, d2 E p t = (x, y) → ∀ v : Value, V l i_X6_die k_X6_die 50 [.ref 900, .int (nI p), .int c, .int (nI (t + 1)), v] [] (wr (wr σ 910 t (nI x)) 911 t (nI y)) K := fun x y hx v => by
      refine lp_die2 l hW hp hN n (t + 1) (fun j => if j = t then (x, y) else g j) _ v (by omega) (mid_set hE) (fun j hj => ?_) (fun j hj hj2 => ?_) ((hf.wr (by omega) (by omega)).wr (by omega) (by omega))
      · by_cases z : j = t
        · subst z; simp [hx]
        · simp only [z, if_false]; exact h1 j (by omega)
      · have z : ¬ j = t := by omega
        simp only [z, if_false]; exact h2 j (by omega) hj2
    have same : ¬ ((d1 E p t).1 < 12 ∧ (d1 E p t).2 = p) → ∀ v : Value, V l i_X6_die k_X6_die 50 [.ref 900, .int (nI p), .int c, .int (nI (t + 1)), v] [] σ K := fun hx v => by
      have u := up (d1 E p t).1 (d1 E p t).2 (by unfold d2; rw [if_neg hx]) v
      rw [wr_same (k := 910) (by exact ft.2.2.1), wr_same (by exact ft.2.2.2)] at u
      exact u
    by_cases z : 12 ≤ (d1 E p t).1
    · refine V_run ok_X6_die 60 50 ?_
      simp (disch := omega) only [eng, c_X6_die, r_X6_die, tbl, true_and, Nat.reduceAdd, Nat.reduceLT, ↓reduceIte, n_eq, n_lt, n_le, n_cl, n_inT, nI_add, bI_eq0, bI_eq1, not_true_eq_false, not_false_eq_true, true_implies, false_implies, implies_true, and_true, Bool.not_eq_false, Bool.not_eq_true, Nat.reduceEqDiff, Nat.reduceLeDiff, Classical.not_not, List.length_cons, List.length_nil, Int.reduceAdd, z_cast, Nat.reducePow, false_or, Nat.reduceLT, Nat.sub_zero, Nat.le_refl, e11, hz, ft, z]
      try simp only [iteP, Classical.not_not, Bool.not_eq_false, Bool.not_eq_true]
      exact same (fun q => by omega) v4
    by_cases z2 : (d1 E p t).2 = p
    case neg =>
      refine V_run ok_X6_die 60 50 ?_
      simp (disch := omega) only [eng, c_X6_die, r_X6_die, tbl, true_and, Nat.reduceAdd, Nat.reduceLT, ↓reduceIte, n_eq, n_lt, n_le, n_cl, n_inT, nI_add, bI_eq0, bI_eq1, not_true_eq_false, not_false_eq_true, true_implies, false_implies, implies_true, and_true, Bool.not_eq_false, Bool.not_eq_true, Nat.reduceEqDiff, Nat.reduceLeDiff, Classical.not_not, List.length_cons, List.length_nil, Int.reduceAdd, z_cast, Nat.reducePow, false_or, Nat.reduceLT, Nat.sub_zero, Nat.le_refl, e11, hz, ft, z, z2]
      try simp only [iteP, Classical.not_not, Bool.not_eq_false, Bool.not_eq_true]
      exact same (fun q => z2 q.2) v4
    have hx : d2 E p t = if heir E p (if E 6 t = 1 then 0 else 2) = 12 then (12, 12) else ((d1 E p t).1, heir E p (if E 6 t = 1 then 0 else 2)) := by
      unfold d2; rw [if_pos ⟨by omega, z2⟩]
    have endA : ∀ k : Nat, k = (if E 6 t = 1 then 0 else 2) → heir E p k = 12 → ∀ v : Value, V l i_X6_die k_X6_die 50 [.ref 900, .int (nI p), .int c, .int (nI (t + 1)), v] [] (wr (wr (wr σ 911 t (nI 12)) 910 t (nI 12)) 911 t (nI 12)) K := fun k hk2 y v => by
      rw [← hk2, if_pos y] at hx
      have u := up _ _ hx v
      have e : wr (wr (wr σ 911 t (nI 12)) 910 t (nI 12)) 911 t (nI 12) = wr (wr σ 910 t (nI 12)) 911 t (nI 12) := by
        funext k' j'
        simp only [wr_at]
        split
        · rfl
        · split <;> rfl
      rw [e]; exact u
    have endB : ∀ k : Nat, k = (if E 6 t = 1 then 0 else 2) → ¬ heir E p k = 12 → ∀ v : Value, V l i_X6_die k_X6_die 50 [.ref 900, .int (nI p), .int c, .int (nI (t + 1)), v] [] (wr σ 911 t (nI (heir E p k))) K := fun k hk2 y v => by
      rw [← hk2, if_neg y] at hx
      have u := up _ _ hx v
      rw [wr_same (k := 910) (by exact ft.2.2.1)] at u
      exact u
    by_cases z3 : E 6 t = 1
    · have q12 := heir12 hW p 0
      refine V_run ok_X6_die 60 50 ?_
      simp (disch := omega) only [eng, c_X6_die, r_X6_die, tbl, true_and, Nat.reduceAdd, Nat.reduceLT, ↓reduceIte, n_eq, n_lt, n_le, n_cl, n_inT, nI_add, bI_eq0, bI_eq1, not_true_eq_false, not_false_eq_true, true_implies, false_implies, implies_true, and_true, Bool.not_eq_false, Bool.not_eq_true, Nat.reduceEqDiff, Nat.reduceLeDiff, Classical.not_not, List.length_cons, List.length_nil, Int.reduceAdd, z_cast, Nat.reducePow, false_or, Nat.reduceLT, Nat.sub_zero, Nat.le_refl, e11, hz, ft, z, z2, z3]
      try simp only [iteP, Classical.not_not, Bool.not_eq_false, Bool.not_eq_true]
      refine m_heirOf (Wf_mid0 hW) (mid_q hE) hp (by omega) ?_
      rw [mid_heir]
      by_cases y : heir E p 0 = 12
      · simp (disch := omega) only [n_eq, n_lt, n_le, n_cl, n_inT, nI_add, bI_eq0, bI_eq1, not_true_eq_false, not_false_eq_true, true_implies, false_implies, implies_true, and_true, Bool.not_eq_false, Bool.not_eq_true, Nat.reduceEqDiff, Nat.reduceLeDiff, Classical.not_not, List.length_cons, List.length_nil, Int.reduceAdd, z_cast, Nat.reducePow, false_or, Nat.reduceLT, Nat.sub_zero, Nat.le_refl, true_and, ↓reduceIte, iteP, y]
        refine m_end1 (by omega) ?_
        exact endA 0 (by rw [if_pos z3]) y _
      · simp (disch := omega) only [n_eq, n_lt, n_le, n_cl, n_inT, nI_add, bI_eq0, bI_eq1, not_true_eq_false, not_false_eq_true, true_implies, false_implies, implies_true, and_true, Bool.not_eq_false, Bool.not_eq_true, Nat.reduceEqDiff, Nat.reduceLeDiff, Classical.not_not, List.length_cons, List.length_nil, Int.reduceAdd, z_cast, Nat.reducePow, false_or, Nat.reduceLT, Nat.sub_zero, Nat.le_refl, true_and, ↓reduceIte, iteP, y]
        exact endB 0 (by rw [if_pos z3]) y _
    · have q12 := heir12 hW p 2
      refine V_run ok_X6_die 60 50 ?_
      simp (disch := omega) only [eng, c_X6_die, r_X6_die, tbl, true_and, Nat.reduceAdd, Nat.reduceLT, ↓reduceIte, n_eq, n_lt, n_le, n_cl, n_inT, nI_add, bI_eq0, bI_eq1, not_true_eq_false, not_false_eq_true, true_implies, false_implies, implies_true, and_true, Bool.not_eq_false, Bool.not_eq_true, Nat.reduceEqDiff, Nat.reduceLeDiff, Classical.not_not, List.length_cons, List.length_nil, Int.reduceAdd, z_cast, Nat.reducePow, false_or, Nat.reduceLT, Nat.sub_zero, Nat.le_refl, e11, hz, ft, z, z2, z3]
      try simp only [iteP, Classical.not_not, Bool.not_eq_false, Bool.not_eq_true]
      refine m_heirOf (Wf_mid0 hW) (mid_q hE) hp (by omega) ?_
      rw [mid_heir]
      by_cases y : heir E p 2 = 12
      · simp (disch := omega) only [n_eq, n_lt, n_le, n_cl, n_inT, nI_add, bI_eq0, bI_eq1, not_true_eq_false, not_false_eq_true, true_implies, false_implies, implies_true, and_true, Bool.not_eq_false, Bool.not_eq_true, Nat.reduceEqDiff, Nat.reduceLeDiff, Classical.not_not, List.length_cons, List.length_nil, Int.reduceAdd, z_cast, Nat.reducePow, false_or, Nat.reduceLT, Nat.sub_zero, Nat.le_refl, true_and, ↓reduceIte, iteP, y]
        refine m_end1 (by omega) ?_
        exact endA 2 (by rw [if_neg z3]) y _
      · simp (disch := omega) only [n_eq, n_lt, n_le, n_cl, n_inT, nI_add, bI_eq0, bI_eq1, not_true_eq_false, not_false_eq_true, true_implies, false_implies, implies_true, and_true, Bool.not_eq_false, Bool.not_eq_true, Nat.reduceEqDiff, Nat.reduceLeDiff, Classical.not_not, List.length_cons, List.length_nil, Int.reduceAdd, z_cast, Nat.reducePow, false_or, Nat.reduceLT, Nat.sub_zero, Nat.le_refl, true_and, ↓reduceIte, iteP, y]
        exact endB 2 (by rw [if_neg z3]) y _
theorem lp_die3 (l : Launch) {p : Nat} {c : Int32} {E : Es} {σ0 : St} {K : Int32 → St → Prop} (hW : Wf E) (hp : p < E 12 0) (hN : ∀ (g : Nat → Nat × Nat) (σ : St) (v3 v4 : Value), ME (mid E p g) σ → (∀ j, j < E 12 1 → g j = d3 E p j) → FrN σ0 σ → V l i_X6_die k_X6_die 120 [.ref 900, .int (nI p), .int c, v3, v4] [] σ K) : ∀ (n t : Nat) (g : Nat → Nat × Nat) (σ : St) (v4 : Value), t + n = E 12 1 → ME (mid E p g) σ → (∀ j, j < t → g j = d3 E p j) → (∀ j, t ≤ j → j < E 12 1 → g j = d2 E p j) → FrN σ0 σ → V l i_X6_die k_X6_die 95 [.ref 900, .int (nI p), .int c, .int (nI t), v4] [] σ K
  | 0, t, g, σ, v4, ht, hE, h1, h2, hf => by
    have ht : t = E 12 1 := by omega
    have e11 : σ 900 11 = nI (E 12 1) := hE.2.1
    have hn := hW.2.1
    subst ht
    refine V_run ok_X6_die 4 95 ?_
    simp (disch := omega) only [eng, c_X6_die, r_X6_die, tbl, true_and, Nat.reduceAdd, Nat.reduceLT, ↓reduceIte, n_eq, n_lt, n_le, n_cl, n_inT, nI_add, bI_eq0, bI_eq1, not_true_eq_false, not_false_eq_true, true_implies, false_implies, implies_true, and_true, Bool.not_eq_false, Bool.not_eq_true, Nat.reduceEqDiff, Nat.reduceLeDiff, Classical.not_not, List.length_cons, List.length_nil, Int.reduceAdd, z_cast, Nat.reducePow, false_or, Nat.reduceLT, Nat.sub_zero, Nat.le_refl, e11]
    try simp only [iteP, Classical.not_not, Bool.not_eq_false, Bool.not_eq_true]
    exact hN g σ _ v4 hE h1 hf
  | n + 1, t, g, σ, v4, ht, hE, h1, h2, hf => by
    have ht1 : t < E 12 1 := by omega
    have hn := hW.2.1
    have h12 := t12 hW ht1
    have hp12 := p12 hW hp
    have e11 : σ 900 11 = nI (E 12 1) := hE.2.1
    have hz : ¬ E 12 1 ≤ t := by omega
    have ft : σ 908 t = nI (E 6 t) ∧ σ 909 t = nI (E 7 t) ∧ σ 910 t = nI (d2 E p t).1 ∧ σ 911 t = nI (d2 E p t).2 := by
      have := mid_t hE ht1
      rw [h2 t (Nat.le_refl t) ht1] at this
      exact this
    have hd := d2_le hW (p := p) ht1
    have up : ∀ x y : Nat, d3 E p t = (x, y) → V l i_X6_die k_X6_die 95 [.ref 900, .int (nI p), .int c, .int (nI (t + 1)), v4] [] (wr (wr σ 910 t (nI x)) 911 t (nI y)) K := fun x y hx => by
      refine lp_die3 l hW hp hN n (t + 1) (fun j => if j = t then (x, y) else g j) _ v4 (by omega) (mid_set hE) (fun j hj => ?_) (fun j hj hj2 => ?_) ((hf.wr (by omega) (by omega)).wr (by omega) (by omega))
      · by_cases z : j = t
        · subst z; simp [hx]
        · simp only [z, if_false]; exact h1 j (by omega)
      · have z : ¬ j = t := by omega
        simp only [z, if_false]; exact h2 j (by omega) hj2
    have same : ¬ ((d2 E p t).1 < 12 ∧ (d2 E p t).1 = (d2 E p t).2) → V l i_X6_die k_X6_die 95 [.ref 900, .int (nI p), .int c, .int (nI (t + 1)), v4] [] σ K := fun hx => by
      have u := up (d2 E p t).1 (d2 E p t).2 (by unfold d3; rw [if_neg hx])
      rw [wr_same (k := 910) (by exact ft.2.2.1), wr_same (by exact ft.2.2.2)] at u
      exact u
    by_cases z : 12 ≤ (d2 E p t).1
    · refine V_run ok_X6_die 60 95 ?_
      simp (disch := omega) only [eng, c_X6_die, r_X6_die, tbl, true_and, Nat.reduceAdd, Nat.reduceLT, ↓reduceIte, n_eq, n_lt, n_le, n_cl, n_inT, nI_add, bI_eq0, bI_eq1, not_true_eq_false, not_false_eq_true, true_implies, false_implies, implies_true, and_true, Bool.not_eq_false, Bool.not_eq_true, Nat.reduceEqDiff, Nat.reduceLeDiff, Classical.not_not, List.length_cons, List.length_nil, Int.reduceAdd, z_cast, Nat.reducePow, false_or, Nat.reduceLT, Nat.sub_zero, Nat.le_refl, e11, hz, ft, z]
      try simp only [iteP, Classical.not_not, Bool.not_eq_false, Bool.not_eq_true]
      exact same (fun q => by omega)
    by_cases z2 : (d2 E p t).1 = (d2 E p t).2
    case neg =>
      refine V_run ok_X6_die 60 95 ?_
      simp (disch := omega) only [eng, c_X6_die, r_X6_die, tbl, true_and, Nat.reduceAdd, Nat.reduceLT, ↓reduceIte, n_eq, n_lt, n_le, n_cl, n_inT, nI_add, bI_eq0, bI_eq1, not_true_eq_false, not_false_eq_true, true_implies, false_implies, implies_true, and_true, Bool.not_eq_false, Bool.not_eq_true, Nat.reduceEqDiff, Nat.reduceLeDiff, Classical.not_not, List.length_cons, List.length_nil, Int.reduceAdd, z_cast, Nat.reducePow, false_or, Nat.reduceLT, Nat.sub_zero, Nat.le_refl, e11, hz, ft, z, z2]
      try simp only [iteP, Classical.not_not, Bool.not_eq_false, Bool.not_eq_true]
      exact same (fun q => z2 q.2)
    have u := up 13 12 (by unfold d3; rw [if_pos ⟨by omega, z2⟩])
    have fz : (σ 910 t = σ 911 t) = True := by rw [ft.2.2.1, ft.2.2.2, z2]; exact eq_true rfl
    have f0 : (nI 12 ≤ σ 910 t) = False := by rw [ft.2.2.1, n_le (by omega) (by omega)]; exact eq_false z
    refine V_run ok_X6_die 60 95 ?_
    simp (disch := omega) only [eng, c_X6_die, r_X6_die, tbl, true_and, Nat.reduceAdd, Nat.reduceLT, ↓reduceIte, n_eq, n_lt, n_le, n_cl, n_inT, nI_add, bI_eq0, bI_eq1, not_true_eq_false, not_false_eq_true, true_implies, false_implies, implies_true, and_true, Bool.not_eq_false, Bool.not_eq_true, Nat.reduceEqDiff, Nat.reduceLeDiff, Classical.not_not, List.length_cons, List.length_nil, Int.reduceAdd, z_cast, Nat.reducePow, false_or, Nat.reduceLT, Nat.sub_zero, Nat.le_refl, e11, hz, f0, fz]
    try simp only [iteP, Classical.not_not, Bool.not_eq_false, Bool.not_eq_true]
    refine m_end1 (by omega) ?_
    exact u
theorem ME_die {E : Es} {p : Nat} {g : Nat → Nat × Nat} {σ σ' : St} (hW : Wf E) (hp : p < E 12 0) (hE : ME (mid E p g) σ) (hg : ∀ j, j < E 12 1 → g j = d3 E p j) (h1 : ∀ q, q < E 12 0 → σ' 904 q = if E 3 p ≠ 12 ∧ q = E 3 p then nI 12 else σ 904 q) (h2 : ∀ k, k ≠ 904 → σ' k = σ k) : ME (die E p) σ' := by
  obtain ⟨a1, a2, a3, a4, a5, a6⟩ := hE
  refine ⟨?_, ?_, ?_, fun q hq => ?_, fun t ht => ?_, fun k hk => ?_⟩
  · rw [h2 900 (by decide), die_12]; exact a1
  · rw [h2 900 (by decide), die_12]; exact a2
  · rw [h2 900 (by decide), die_12]; exact a3
  · rw [die_12] at hq
    have b := a4 q hq
    rw [h2 901 (by decide), h2 902 (by decide), h2 903 (by decide), h2 905 (by decide), h2 906 (by decide), h1 q hq]
    simp only [mid] at b
    simp [die]
    simp at b
    refine ⟨b.1, b.2.1, b.2.2.1, ?_, b.2.2.2.2.1, b.2.2.2.2.2⟩
    split
    · rfl
    · exact b.2.2.2.1
  · rw [die_12] at ht
    have b := a5 t ht
    rw [h2 908 (by decide), h2 909 (by decide), h2 910 (by decide), h2 911 (by decide)]
    have hg' := hg t ht
    rw [d3_pas hW hp ht] at hg'
    simp [mid, hg'] at b
    simp [die, ht, b]
  · have b := a6 k hk
    rw [h2 913 (by decide), h2 914 (by decide)]
    simp [mid] at b
    simp [die]
    exact b
theorem m_die {l : Launch} {p : Nat} {E : Es} {σ : St} {K : Int32 → St → Prop} (hW : Wf E) (hE : ME E σ) (hp : p < E 12 0) (hl : E 5 p = 1) (hK : ∀ σ', ME (die E p) σ' → FrN σ σ' → K (nI (cnt E p (E 12 1))) σ') : CallAt l 150 [.ref 900, .int (nI p)] σ K := by
  have hp12 := p12 hW hp
  have hn := hW.1
  have e0 : ME (mid E p (fun j => (E 8 j, E 9 j))) (wr σ 906 p (nI 0)) := by
    obtain ⟨a1, a2, a3, a4, a5, a6⟩ := hE
    refine ⟨by simpa [wr_at, mid] using a1, by simpa [wr_at, mid] using a2, by simpa [wr_at, mid] using a3, fun q hq => ?_, fun s hs => ?_, fun k hk => ?_⟩
    · have := a4 q hq
      by_cases z : q = p
      · subst z; simp [wr_at, mid, this]
      · simp [wr_at, mid, z, this]
    · have := a5 s hs
      simp [wr_at, mid, this]
    · have := a6 k hk
      refine ⟨by simpa [wr_at, mid] using this.1, fun i hi => ?_⟩
      have := this.2 i hi
      simpa [wr_at, mid] using this
  refine CallAt.of (k := 150) (cd := k_X6_die) ok_X6_die (by decide) rfl rfl rfl ?_
  show V _ i_X6_die k_X6_die 0 [.ref 900, .int (nI p), .null, .null, .null] [] _ _
  refine V_run ok_X6_die 20 0 ?_
  simp (disch := omega) only [eng, c_X6_die, r_X6_die, tbl, true_and, Nat.reduceAdd, Nat.reduceLT, ↓reduceIte, n_eq, n_lt, n_le, n_cl, n_inT, nI_add, bI_eq0, bI_eq1, not_true_eq_false, not_false_eq_true, true_implies, false_implies, implies_true, and_true, Bool.not_eq_false, Bool.not_eq_true, Nat.reduceEqDiff, Nat.reduceLeDiff, Classical.not_not, List.length_cons, List.length_nil, Int.reduceAdd, z_cast, Nat.reducePow, false_or, Nat.reduceLT, Nat.sub_zero, Nat.le_refl]
  try simp only [iteP, Classical.not_not, Bool.not_eq_false, Bool.not_eq_true]
  refine lp_die1 l (σ0 := σ) hW hp (fun g1 σ1 v4 g1E g1d g1f => ?_) (E 12 1) 0 _ (wr σ 906 p (nI 0)) _ (by omega) e0 (fun j hj => absurd hj (Nat.not_lt_zero j)) (fun j _ => rfl) (FrN.rfl'.wr (by omega) (by omega))
  refine lp_die2 l (σ0 := σ) hW hp (fun g2 σ2 v4 g2E g2d g2f => ?_) (E 12 1) 0 g1 σ1 v4 (by omega) g1E (fun j hj => absurd hj (Nat.not_lt_zero j)) (fun j _ hj => g1d j hj) g1f
  refine lp_die3 l (σ0 := σ) hW hp (fun g3 σ3 v3 v4 g3E g3d g3f => ?_) (E 12 1) 0 g2 σ2 v4 (by omega) g2E (fun j hj => absurd hj (Nat.not_lt_zero j)) (fun j _ hj => g2d j hj) g2f
  have f3 : ∀ q, q < E 12 0 → σ3 904 q = nI (E 3 q) := fun q hq => (g3E.2.2.2.1 q hq).2.2.2.1
  have fp := f3 p hp
  have wp := hW.2.2.2.1 p hp
  have s12 := sp12 hW hp
  by_cases z : E 3 p = 12
  · refine V_run ok_X6_die 40 120 ?_
    simp (disch := omega) only [eng, c_X6_die, r_X6_die, tbl, true_and, Nat.reduceAdd, Nat.reduceLT, ↓reduceIte, n_eq, n_lt, n_le, n_cl, n_inT, nI_add, bI_eq0, bI_eq1, not_true_eq_false, not_false_eq_true, true_implies, false_implies, implies_true, and_true, Bool.not_eq_false, Bool.not_eq_true, Nat.reduceEqDiff, Nat.reduceLeDiff, Classical.not_not, List.length_cons, List.length_nil, Int.reduceAdd, z_cast, Nat.reducePow, false_or, Nat.reduceLT, Nat.sub_zero, Nat.le_refl, fp, z]
    try simp only [iteP, Classical.not_not, Bool.not_eq_false, Bool.not_eq_true]
    refine hK σ3 (ME_die hW hp g3E g3d (fun q _ => ?_) (fun _ _ => rfl)) g3f
    rw [if_neg (fun y => y.1 z)]
  · have hs : E 3 p < E 12 0 := by rcases wp.2.2.2.2.1 with q | q <;> omega
    have fs := f3 (E 3 p) hs
    rw [wp.2.2.2.2.2.2 hl z] at fs
    refine V_run ok_X6_die 40 120 ?_
    simp (disch := omega) only [eng, c_X6_die, r_X6_die, tbl, true_and, Nat.reduceAdd, Nat.reduceLT, ↓reduceIte, n_eq, n_lt, n_le, n_cl, n_inT, nI_add, bI_eq0, bI_eq1, not_true_eq_false, not_false_eq_true, true_implies, false_implies, implies_true, and_true, Bool.not_eq_false, Bool.not_eq_true, Nat.reduceEqDiff, Nat.reduceLeDiff, Classical.not_not, List.length_cons, List.length_nil, Int.reduceAdd, z_cast, Nat.reducePow, false_or, Nat.reduceLT, Nat.sub_zero, Nat.le_refl, fp, fs, z]
    try simp only [iteP, Classical.not_not, Bool.not_eq_false, Bool.not_eq_true]
    refine hK _ (ME_die hW hp g3E g3d (fun q _ => ?_) (fun k hk => wr_ne k hk)) (g3f.wr (by omega) (by omega))
    rw [wr_at]
    simp [z]
theorem M_dies {l : Launch} {A : AS} {p : Int32} {σ : St} {K : Int32 → St → Prop} (hM : MX A σ) (hK : ∀ σ', MX (op_dies A p).2 σ' → FrM σ σ' → K (op_dies A p).1 σ') : CallAt l 151 [.ref 900, .int p] σ K := by
  have hW := hM.1.1
  have hE := hM.2.1
  have hn := hW.1
  unfold op_dies at hK
  refine CallAt.of (k := 151) (cd := k_X6_dies) ok_X6_dies (by decide) rfl rfl rfl ?_
  show V _ i_X6_dies k_X6_dies 0 [.ref 900, .int p] [] _ _
  refine V_run ok_X6_dies 60 0 ?_
  simp (disch := omega) only [eng, c_X6_dies, r_X6_dies, tbl, true_and, Nat.reduceAdd, Nat.reduceLT, ↓reduceIte, n_eq, n_lt, n_le, n_cl, n_inT, nI_add, bI_eq0, bI_eq1, not_true_eq_false, not_false_eq_true, true_implies, false_implies, implies_true, and_true, Bool.not_eq_false, Bool.not_eq_true, Nat.reduceEqDiff, Nat.reduceLeDiff, Classical.not_not, List.length_cons, List.length_nil, Int.reduceAdd, z_cast, Nat.reducePow, false_or, Nat.reduceLT, Nat.sub_zero, Nat.le_refl]
  try simp only [iteP, Classical.not_not, Bool.not_eq_false, Bool.not_eq_true]
  refine m_isOne hE.1 hn ?_
  cases h1 : inB p (A.1 12 0) with
  | false =>
    rw [h1] at hK
    simp (disch := omega) only [n_eq, n_lt, n_le, n_cl, n_inT, nI_add, bI_eq0, bI_eq1, not_true_eq_false, not_false_eq_true, true_implies, false_implies, implies_true, and_true, Bool.not_eq_false, Bool.not_eq_true, Nat.reduceEqDiff, Nat.reduceLeDiff, Classical.not_not, List.length_cons, List.length_nil, Int.reduceAdd, z_cast, Nat.reducePow, false_or, Nat.reduceLT, Nat.sub_zero, Nat.le_refl, true_and, ↓reduceIte, iteP, Bool.false_eq_true]
    exact hK σ hM FrM.rfl'
  | true =>
    obtain ⟨p', hp, rfl⟩ := inB_of h1
    have hp12 := p12 hW hp
    have fp := (hE.2.2.2.1 p' hp).2.2.2.2.2
    have w5 := (hW.2.2.2.1 p' hp).2.1
    rw [h1, if_pos rfl, n_cl (by omega)] at hK
    by_cases z : A.1 5 p' = 0
    · rw [if_neg (by omega)] at hK
      simp (disch := omega) only [n_eq, n_lt, n_le, n_cl, n_inT, nI_add, bI_eq0, bI_eq1, not_true_eq_false, not_false_eq_true, true_implies, false_implies, implies_true, and_true, Bool.not_eq_false, Bool.not_eq_true, Nat.reduceEqDiff, Nat.reduceLeDiff, Classical.not_not, List.length_cons, List.length_nil, Int.reduceAdd, z_cast, Nat.reducePow, false_or, Nat.reduceLT, Nat.sub_zero, Nat.le_refl, true_and, ↓reduceIte, iteP, Bool.true_eq_false, fp, z]
      exact hK σ hM FrM.rfl'
    · have z1 : A.1 5 p' = 1 := by omega
      rw [if_pos z1] at hK
      simp (disch := omega) only [n_eq, n_lt, n_le, n_cl, n_inT, nI_add, bI_eq0, bI_eq1, not_true_eq_false, not_false_eq_true, true_implies, false_implies, implies_true, and_true, Bool.not_eq_false, Bool.not_eq_true, Nat.reduceEqDiff, Nat.reduceLeDiff, Classical.not_not, List.length_cons, List.length_nil, Int.reduceAdd, z_cast, Nat.reducePow, false_or, Nat.reduceLT, Nat.sub_zero, Nat.le_refl, true_and, ↓reduceIte, iteP, Bool.true_eq_false, fp, z]
      refine m_die hW hE hp z1 (fun σ' hE' hf' => ?_)
      exact hK σ' (hM.es hf' (Wf_die hW hp z1) hE') hf'.m
