theorem lp_dieAll (l : Launch) {at' N M : Nat} {d : Nat → Int32} {E : Es} {σ0 : St} {K : Int32 → St → Prop} (hN : N ≤ 8) (ha : at' + N ≤ 96) (hd : ∀ i, i < N → σ0 928 (at' + i) = d i)
    (hK : ∀ F σ', SmE E F → Wf F → ME F σ' → FrN σ0 σ' → (¬ M < N → F = dieN E (fun i => (d i).toNatClampNeg) N) → K (if M < N then nI M else -4) σ') : ∀ (q i : Nat) (σ : St), i + q = N → Wf (dieN E (fun i => (d i).toNatClampNeg) i) → ME (dieN E (fun i => (d i).toNatClampNeg) i) σ → FrN σ0 σ → fstE d q i (dieN E (fun i => (d i).toNatClampNeg) i) = M → V l i_X6_dieAll k_X6_dieAll 2 [.ref 900, .int (nI at'), .int (nI N), .int (nI i)] [] σ K
  | 0, i, σ, hi, hW, hE, hf, hs => by
    have hi : i = N := by omega
    subst hi
    have hs : i = M := hs
    have hk := hK _ σ (SmE_dieN SmE.rfl' _) hW hE hf (fun _ => rfl)
    rw [← hs, if_neg (by omega)] at hk
    refine V_run ok_X6_dieAll 60 2 ?_
    simp (disch := omega) only [eng, c_X6_dieAll, r_X6_dieAll, tbl, true_and, Nat.reduceAdd, Nat.reduceLT, ↓reduceIte, n_eq, n_lt, n_le, n_cl, n_inT, nI_add, bI_eq0, bI_eq1, not_true_eq_false, not_false_eq_true, true_implies, false_implies, implies_true, and_true, Bool.not_eq_false, Bool.not_eq_true, Nat.reduceEqDiff, Nat.reduceLeDiff, Classical.not_not, List.length_cons, List.length_nil, Int.reduceAdd, z_cast, Nat.reducePow, false_or, Nat.reduceLT, Nat.sub_zero, Nat.le_refl]
    try simp only [iteP, Classical.not_not, Bool.not_eq_false, Bool.not_eq_true]
    exact hk
  | q + 1, i, σ, hi, hW, hE, hf, hs => by
    have h0 : ¬ N ≤ i := by omega
    have e1 : σ 928 (at' + i) = d i := by rw [hf.1 928 (by decide) (by decide)]; exact hd i (by omega)
    unfold fstE at hs
    refine V_run ok_X6_dieAll 60 2 ?_
    simp (disch := omega) only [eng, c_X6_dieAll, r_X6_dieAll, tbl, true_and, Nat.reduceAdd, Nat.reduceLT, ↓reduceIte, n_eq, n_lt, n_le, n_cl, n_inT, nI_add, bI_eq0, bI_eq1, not_true_eq_false, not_false_eq_true, true_implies, false_implies, implies_true, and_true, Bool.not_eq_false, Bool.not_eq_true, Nat.reduceEqDiff, Nat.reduceLeDiff, Classical.not_not, List.length_cons, List.length_nil, Int.reduceAdd, z_cast, Nat.reducePow, false_or, Nat.reduceLT, Nat.sub_zero, Nat.le_refl, h0, e1]
    try simp only [iteP, Classical.not_not, Bool.not_eq_false, Bool.not_eq_true]
    refine m_livX hW hE ?_
    cases h1 : livX (dieN E (fun i => (d i).toNatClampNeg) i) (d i) with
    | false =>
      rw [h1, if_neg (by decide)] at hs
      have hk := hK _ σ (SmE_dieN SmE.rfl' _) hW hE hf (fun z => absurd (by omega) z)
      rw [← hs, if_pos (by omega)] at hk
      simp (disch := omega) only [n_eq, n_lt, n_le, n_cl, n_inT, nI_add, bI_eq0, bI_eq1, not_true_eq_false, not_false_eq_true, true_implies, false_implies, implies_true, and_true, Bool.not_eq_false, Bool.not_eq_true, Nat.reduceEqDiff, Nat.reduceLeDiff, Classical.not_not, List.length_cons, List.length_nil, Int.reduceAdd, z_cast, Nat.reducePow, false_or, Nat.reduceLT, Nat.sub_zero, Nat.le_refl, true_and, ↓reduceIte, iteP, Bool.false_eq_true]
      exact hk
    | true =>
      rw [h1, if_pos rfl] at hs
      obtain ⟨p, hp, e2, e3, hl⟩ := livX_of hW.1 h1
      simp (disch := omega) only [n_eq, n_lt, n_le, n_cl, n_inT, nI_add, bI_eq0, bI_eq1, not_true_eq_false, not_false_eq_true, true_implies, false_implies, implies_true, and_true, Bool.not_eq_false, Bool.not_eq_true, Nat.reduceEqDiff, Nat.reduceLeDiff, Classical.not_not, List.length_cons, List.length_nil, Int.reduceAdd, z_cast, Nat.reducePow, false_or, Nat.reduceLT, Nat.sub_zero, Nat.le_refl, true_and, ↓reduceIte, iteP, Bool.true_eq_false, e1]
      rw [e2]
      refine m_die hW hE hp hl (fun σ' hE' hf' => ?_)
      have e4 : dieN E (fun i => (d i).toNatClampNeg) (i + 1) = die (dieN E (fun i => (d i).toNatClampNeg) i) p := by
        show die _ (d i).toNatClampNeg = _
        rw [e3]
      refine lp_dieAll l hN ha hd hK q (i + 1) σ' (by omega) ?_ ?_ (hf.trans hf') ?_
      · rw [e4]; exact Wf_die hW hp hl
      · rw [e4]; exact hE'
      · rw [e4]; rw [e3] at hs; exact hs
theorem m_dieAll {l : Launch} {at' N : Nat} {d : Nat → Int32} {E : Es} {σ : St} {K : Int32 → St → Prop} (hW : Wf E) (hE : ME E σ) (hN : N ≤ 8) (ha : at' + N ≤ 96) (hd : ∀ i, i < N → σ 928 (at' + i) = d i)
    (hK : ∀ F σ', SmE E F → Wf F → ME F σ' → FrN σ σ' → (¬ fstE d N 0 E < N → F = dieN E (fun i => (d i).toNatClampNeg) N) → K (if fstE d N 0 E < N then nI (fstE d N 0 E) else -4) σ') : CallAt l 179 [.ref 900, .int (nI at'), .int (nI N)] σ K := by
  refine CallAt.of (k := 179) (cd := k_X6_dieAll) ok_X6_dieAll (by decide) rfl rfl rfl ?_
  show V _ i_X6_dieAll k_X6_dieAll 0 [.ref 900, .int (nI at'), .int (nI N), .null] [] _ _
  refine V_run ok_X6_dieAll 20 0 ?_
  simp (disch := omega) only [eng, c_X6_dieAll, r_X6_dieAll, tbl, true_and, Nat.reduceAdd, Nat.reduceLT, ↓reduceIte, n_eq, n_lt, n_le, n_cl, n_inT, nI_add, bI_eq0, bI_eq1, not_true_eq_false, not_false_eq_true, true_implies, false_implies, implies_true, and_true, Bool.not_eq_false, Bool.not_eq_true, Nat.reduceEqDiff, Nat.reduceLeDiff, Classical.not_not, List.length_cons, List.length_nil, Int.reduceAdd, z_cast, Nat.reducePow, false_or, Nat.reduceLT, Nat.sub_zero, Nat.le_refl]
  try simp only [iteP, Classical.not_not, Bool.not_eq_false, Bool.not_eq_true]
  exact lp_dieAll l hN ha hd hK N 0 σ (by omega) hW hE FrN.rfl' rfl
theorem M_judged {l : Launch} {A : AS} {x y f n : Int32} {σ : St} {K : Int32 → St → Prop} (hM : MX A σ) (hK : ∀ σ', MX (op_judged A x y f n).2 σ' → FrM σ σ' → K (op_judged A x y f n).1 σ') : CallAt l 180 [.ref 900, .int x, .int y, .int f, .int n] σ K := by
  have hw := hM.1.2.2.2
  have hS := hM.2.2.2.2.2
  have hW := hM.1.1
  have hE := hM.2.1
  unfold op_judged at hK
  refine CallAt.of (k := 180) (cd := k_X6_judged) ok_X6_judged (by decide) rfl rfl rfl ?_
  show V _ i_X6_judged k_X6_judged 0 [.ref 900, .int x, .int y, .int f, .int n, .null, .null] [] _ _
  refine V_run ok_X6_judged 80 0 ?_
  simp (disch := omega) only [eng, c_X6_judged, r_X6_judged, tbl, true_and, Nat.reduceAdd, Nat.reduceLT, ↓reduceIte, n_eq, n_lt, n_le, n_cl, n_inT, nI_add, bI_eq0, bI_eq1, not_true_eq_false, not_false_eq_true, true_implies, false_implies, implies_true, and_true, Bool.not_eq_false, Bool.not_eq_true, Nat.reduceEqDiff, Nat.reduceLeDiff, Classical.not_not, List.length_cons, List.length_nil, Int.reduceAdd, z_cast, Nat.reducePow, false_or, Nat.reduceLT, Nat.sub_zero, Nat.le_refl]
  try simp only [iteP, Classical.not_not, Bool.not_eq_false, Bool.not_eq_true]
  refine m_isSheet ?_
  cases h0 : (inB x 4 && inB y 3) with
  | false =>
    have hk : K (-1) σ := by
      have := hK σ hM FrM.rfl'
      dsimp only at this
      rw [lk_out h0] at this
      split at this
      · rw [if_neg (by decide)] at this; exact this
      · exact this
    simp (disch := omega) only [n_eq, n_lt, n_le, n_cl, n_inT, nI_add, bI_eq0, bI_eq1, not_true_eq_false, not_false_eq_true, true_implies, false_implies, implies_true, and_true, Bool.not_eq_false, Bool.not_eq_true, Nat.reduceEqDiff, Nat.reduceLeDiff, Classical.not_not, List.length_cons, List.length_nil, Int.reduceAdd, z_cast, Nat.reducePow, false_or, Nat.reduceLT, Nat.sub_zero, Nat.le_refl, true_and, ↓reduceIte, iteP, Bool.false_eq_true]
    exact hk
  | true =>
    rw [Bool.and_eq_true] at h0
    obtain ⟨s, hs, rfl⟩ := inB_of h0.1
    obtain ⟨y', hy, rfl⟩ := inB_of h0.2
    simp (disch := omega) only [n_eq, n_lt, n_le, n_cl, n_inT, nI_add, bI_eq0, bI_eq1, not_true_eq_false, not_false_eq_true, true_implies, false_implies, implies_true, and_true, Bool.not_eq_false, Bool.not_eq_true, Nat.reduceEqDiff, Nat.reduceLeDiff, Classical.not_not, List.length_cons, List.length_nil, Int.reduceAdd, z_cast, Nat.reducePow, false_or, Nat.reduceLT, Nat.sub_zero, Nat.le_refl, true_and, ↓reduceIte, iteP, Bool.true_eq_false]
    refine m_rI (a := 1) (n := 8) rfl rfl ?_
    rcases rng n 1 8 (by decide) (by decide) with ⟨g0, g⟩ | ⟨g0, g⟩ | ⟨g0, n', q1, q3, rfl⟩
    iterate 2
      · rw [g0] at hK ⊢
        simp (disch := omega) only [n_eq, n_lt, n_le, n_cl, n_inT, nI_add, bI_eq0, bI_eq1, not_true_eq_false, not_false_eq_true, true_implies, false_implies, implies_true, and_true, Bool.not_eq_false, Bool.not_eq_true, Nat.reduceEqDiff, Nat.reduceLeDiff, Classical.not_not, List.length_cons, List.length_nil, Int.reduceAdd, z_cast, Nat.reducePow, false_or, Nat.reduceLT, Nat.sub_zero, Nat.le_refl, true_and, ↓reduceIte, iteP, Bool.false_eq_true]
        exact hK σ hM FrM.rfl'
    rw [g0, if_pos rfl] at hK
    simp (disch := omega) only [n_cl] at hK
    rw [g0]
    simp (disch := omega) only [n_eq, n_lt, n_le, n_cl, n_inT, nI_add, bI_eq0, bI_eq1, not_true_eq_false, not_false_eq_true, true_implies, false_implies, implies_true, and_true, Bool.not_eq_false, Bool.not_eq_true, Nat.reduceEqDiff, Nat.reduceLeDiff, Classical.not_not, List.length_cons, List.length_nil, Int.reduceAdd, z_cast, Nat.reducePow, false_or, Nat.reduceLT, Nat.sub_zero, Nat.le_refl, true_and, ↓reduceIte, iteP, Bool.true_eq_false]
    refine m_lacks (N := n') (z := A.2.2.2.2.1 s) hs hy (by omega) (hw s hs).2 (hw s hs).1 (hS.1 s hs).1 (hS.1 s hs).2 ?_
    rw [← lk_in (ln := A.2.2.2.1) (z := A.2.2.2.2.1) hs hy]
    by_cases h : lkR A.2.2.2.1 A.2.2.2.2.1 (nI s) (nI y') f (nI n') = nI 0
    · rw [if_pos h] at hK
      obtain ⟨s2, hs2, e1, e2, hln, -, hsp⟩ := lk_of hw h
      rw [n_cl (by omega)] at e2
      subst e2
      obtain ⟨a, rfl, ha2, ha⟩ := sp_of (hw s hs).2 (by omega) hsp
      have hz24 := (hw s hs).2
      rw [ha2] at hK
      rw [h]
      simp (disch := omega) only [n_eq, n_lt, n_le, n_cl, n_inT, nI_add, bI_eq0, bI_eq1, not_true_eq_false, not_false_eq_true, true_implies, false_implies, implies_true, and_true, Bool.not_eq_false, Bool.not_eq_true, Nat.reduceEqDiff, Nat.reduceLeDiff, Classical.not_not, List.length_cons, List.length_nil, Int.reduceAdd, z_cast, Nat.reducePow, false_or, Nat.reduceLT, Nat.sub_zero, Nat.le_refl, true_and, ↓reduceIte, iteP, Nat.le_refl, pk_mul]
      refine m_keep hW hE (fun σ1 k1 k2 => ?_)
      have hE1 : ME A.1 σ1 := hE.fr (fun k _ _ => k2 k (by omega)) (by rw [k2 900 (by decide)]) (by rw [k2 900 (by decide)]) (by rw [k2 900 (by decide)])
      refine m_dieAll (d := fun i => A.2.2.2.2.2 (24 * s + (a + i))) hW hE1 q3 (by omega) (fun i hi => ?_) (fun F σ2 hF hWF hE2 hf2 _ => ?_)
      · rw [k2 928 (by decide), Nat.add_assoc]; exact hS.2 _ (by omega)
      · refine m_back hW hF hE2 (k1.fr (hf2.1 921 (by decide) (by decide))) (fun σ3 hE3 hf3 => ?_)
        have fq : FrQ σ σ3 := ((FrQ_one (Or.inl rfl) k2).trans hf2.q).trans hf3.q
        have hk := hK σ3 (hM.q fq hW hE3) fq.m
        exact hk
    · rw [if_neg h] at hK
      have hg := lk_ge (lk_neg h)
      simp (disch := omega) only [n_eq, n_lt, n_le, n_cl, n_inT, nI_add, bI_eq0, bI_eq1, not_true_eq_false, not_false_eq_true, true_implies, false_implies, implies_true, and_true, Bool.not_eq_false, Bool.not_eq_true, Nat.reduceEqDiff, Nat.reduceLeDiff, Classical.not_not, List.length_cons, List.length_nil, Int.reduceAdd, z_cast, Nat.reducePow, false_or, Nat.reduceLT, Nat.sub_zero, Nat.le_refl, true_and, ↓reduceIte, iteP, hg]
      exact hK σ hM FrM.rfl'
