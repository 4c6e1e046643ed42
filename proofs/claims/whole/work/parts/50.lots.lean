/-! lots -/
def addL (q : Es × Nat) (s : Nat) : Es × Nat := (q.1, s + q.2)
theorem addL_1 (q : Es × Nat) (s : Nat) : (addL q s).1 = q.1 := rfl
theorem addL_2 (q : Es × Nat) (s : Nat) : (addL q s).2 = s + q.2 := rfl
def itL (f : Es → Es × Nat) (E : Es) : Nat → Es × Nat
  | 0 => (E, 0)
  | n + 1 => addL (f (itL f E n).1) (itL f E n).2
theorem itL_0 (f : Es → Es × Nat) (E : Es) : itL f E 0 = (E, 0) := rfl
theorem itL_1 (f : Es → Es × Nat) (E : Es) (n : Nat) : (itL f E (n + 1)).1 = (f (itL f E n).1).1 := rfl
theorem itL_2 (f : Es → Es × Nat) (E : Es) (n : Nat) : (itL f E (n + 1)).2 = (itL f E n).2 + (f (itL f E n).1).2 := rfl
theorem Wf_itL {f : Es → Es × Nat} (hf : ∀ E, Wf E → Wf (f E).1) {E : Es} (hW : Wf E) (n : Nat) : Wf (itL f E n).1 := by
  induction n with
  | zero => exact hW
  | succ n ih => rw [itL_1]; exact hf _ ih
def op_lotsG (f : Es → Es × Nat) (A : AS) (n : Int32) : Int32 × AS := if rI n 1 30 = true then (nI (itL f A.1 n.toNatClampNeg).2, setE A (itL f A.1 n.toNatClampNeg).1) else (-1, A)
theorem lp_lots (l : Launch) {N : Nat} {E : Es} {f : Es → Es × Nat} {σ0 : St} {K : Int32 → St → Prop} (hf : ∀ E, Wf E → Wf (f E).1) (hx : ∀ (E : Es) (σ : St) (K : Int32 → St → Prop), Wf E → XE 100 E σ → (∀ σ', XE 100 (f E).1 σ' → FrE 100 σ σ' → K (nI (f E).2) σ') → CallAt l 31 [.ref 100] σ K) (hW : Wf E) (hN : N ≤ 30) (hK : ∀ σ', XE 100 (itL f E N).1 σ' → FrE 100 σ0 σ' → K (nI (itL f E N).2) σ') : ∀ (n i : Nat) (σ : St), i + n = N → XE 100 (itL f E i).1 σ → FrE 100 σ0 σ → V l i_X5_lots k_X5_lots 12 [.ref 0, .int (nI N), .int (nI (itL f E i).2), .int (nI i)] [] σ K
  | 0, i, σ, hi, hE, hF => by
    have hi : i = N := by omega
    subst hi
    refine V_run ok_X5_lots 60 12 ?_
    simp (disch := omega) only [eng, c_X5_lots, r_X5_lots, tbl, true_and, Nat.reduceAdd, Nat.reduceLT, ↓reduceIte, n_eq, n_lt, n_le, n_cl, n_inT, nI_add, bI_eq0, bI_eq1, not_true_eq_false, not_false_eq_true, true_implies, false_implies, implies_true, and_true, Bool.not_eq_false, Bool.not_eq_true, Nat.reduceEqDiff, Nat.reduceLeDiff, Classical.not_not, List.length_cons, List.length_nil, Int.reduceAdd, z_cast, Nat.reducePow, false_or, Nat.reduceLT, Nat.sub_zero, Nat.le_refl]
    try simp only [iteP, Classical.not_not, Bool.not_eq_false, Bool.not_eq_true]
    exact hK σ hE hF
  | n + 1, i, σ, hi, hE, hF => by
    have h1 : ¬ N ≤ i := by omega
    refine V_run ok_X5_lots 60 12 ?_
    simp (disch := omega) only [eng, c_X5_lots, r_X5_lots, tbl, true_and, Nat.reduceAdd, Nat.reduceLT, ↓reduceIte, n_eq, n_lt, n_le, n_cl, n_inT, nI_add, bI_eq0, bI_eq1, not_true_eq_false, not_false_eq_true, true_implies, false_implies, implies_true, and_true, Bool.not_eq_false, Bool.not_eq_true, Nat.reduceEqDiff, Nat.reduceLeDiff, Classical.not_not, List.length_cons, List.length_nil, Int.reduceAdd, z_cast, Nat.reducePow, false_or, Nat.reduceLT, Nat.sub_zero, Nat.le_refl, h1]
    try simp only [iteP, Classical.not_not, Bool.not_eq_false, Bool.not_eq_true]
    refine hx _ _ _ (Wf_itL hf hW i) hE (fun σ' hE' hF' => ?_)
    have ih := lp_lots l hf hx hW hN hK n (i + 1) σ' (by omega) hE' (hF.trans hF')
    rw [itL_2] at ih
    simp (disch := omega) only [n_eq, n_lt, n_le, n_cl, n_inT, nI_add, bI_eq0, bI_eq1, not_true_eq_false, not_false_eq_true, true_implies, false_implies, implies_true, and_true, Bool.not_eq_false, Bool.not_eq_true, Nat.reduceEqDiff, Nat.reduceLeDiff, Classical.not_not, List.length_cons, List.length_nil, Int.reduceAdd, z_cast, Nat.reducePow, false_or, Nat.reduceLT, Nat.sub_zero, Nat.le_refl, true_and, ↓reduceIte, iteP]
    exact ih
theorem X_lotsG {l : Launch} {A : AS} {n : Int32} {f : Es → Es × Nat} {σ : St} {K : Int32 → St → Prop} (hf : ∀ E, Wf E → Wf (f E).1) (hx : ∀ (E : Es) (σ : St) (K : Int32 → St → Prop), Wf E → XE 100 E σ → (∀ σ', XE 100 (f E).1 σ' → FrE 100 σ σ' → K (nI (f E).2) σ') → CallAt l 31 [.ref 100] σ K) (hC : CX A σ) (hK : ∀ σ', CX (op_lotsG f A n).2 σ' → FrX σ σ' → K (op_lotsG f A n).1 σ') : CallAt l 92 [.ref 0, .int n] σ K := by
  unfold op_lotsG at hK
  rcases rng n 1 30 (by decide) (by decide) with ⟨g0, g⟩ | ⟨g0, g⟩ | ⟨g0, n', h1, h3, rfl⟩
  iterate 2
    · refine CallAt.of (k := 92) (cd := k_X5_lots) ok_X5_lots (by decide) rfl rfl rfl ?_
      show V _ i_X5_lots k_X5_lots 0 [.ref 0, .int n, .null, .null] [] _ _
      refine V_run ok_X5_lots 60 0 ?_
      simp (disch := omega) only [eng, c_X5_lots, r_X5_lots, tbl, true_and, Nat.reduceAdd, Nat.reduceLT, ↓reduceIte, n_eq, n_lt, n_le, n_cl, n_inT, nI_add, bI_eq0, bI_eq1, not_true_eq_false, not_false_eq_true, true_implies, false_implies, implies_true, and_true, Bool.not_eq_false, Bool.not_eq_true, Nat.reduceEqDiff, Nat.reduceLeDiff, Classical.not_not, List.length_cons, List.length_nil, Int.reduceAdd, z_cast, Nat.reducePow, false_or, Nat.reduceLT, Nat.sub_zero, Nat.le_refl, g]
      try simp only [iteP, Classical.not_not, Bool.not_eq_false, Bool.not_eq_true]
      rw [g0] at hK
      exact hK σ hC FrX.rfl'
  have z1 : ¬ n' < 1 := by omega
  rw [g0, if_pos rfl, n_cl (by omega)] at hK
  refine CallAt.of (k := 92) (cd := k_X5_lots) ok_X5_lots (by decide) rfl rfl rfl ?_
  show V _ i_X5_lots k_X5_lots 0 [.ref 0, .int (nI n'), .null, .null] [] _ _
  refine V_run ok_X5_lots 60 0 ?_
  simp (disch := omega) only [eng, c_X5_lots, r_X5_lots, tbl, true_and, Nat.reduceAdd, Nat.reduceLT, ↓reduceIte, n_eq, n_lt, n_le, n_cl, n_inT, nI_add, bI_eq0, bI_eq1, not_true_eq_false, not_false_eq_true, true_implies, false_implies, implies_true, and_true, Bool.not_eq_false, Bool.not_eq_true, Nat.reduceEqDiff, Nat.reduceLeDiff, Classical.not_not, List.length_cons, List.length_nil, Int.reduceAdd, z_cast, Nat.reducePow, false_or, Nat.reduceLT, Nat.sub_zero, Nat.le_refl, z1, h3]
  try simp only [iteP, Classical.not_not, Bool.not_eq_false, Bool.not_eq_true]
  have z := lp_lots l (K := K) (σ0 := σ) (N := n') (f := f) hf hx hC.1.1 h3 (fun σ' hE' hF' => hK σ' (hC.es hF' (Wf_itL hf hC.1.1 n') hE') (hF'.x e100)) n' 0 σ (by omega) (by rw [itL_0]; exact hC.2.1) FrE.rfl'
  rw [itL_0] at z
  exact z
theorem hf_lot (E : Es) (h : Wf E) : Wf (lotE E).1 := Wf_lot h
theorem hx_lot (l : Launch) (E : Es) (σ : St) (K : Int32 → St → Prop) (h1 : Wf E) (h2 : XE 100 E σ) (h3 : ∀ σ', XE 100 (lotE E).1 σ' → FrE 100 σ σ' → K (nI (lotE E).2) σ') : CallAt l 31 [.ref 100] σ K := x_lot e100 h1 h2 h3
theorem X_lots {l : Launch} {A : AS} {n : Int32} {σ : St} {K : Int32 → St → Prop} (hC : CX A σ) (hK : ∀ σ', CX (op_lotsG lotE A n).2 σ' → FrX σ σ' → K (op_lotsG lotE A n).1 σ') : CallAt l 92 [.ref 0, .int n] σ K :=
  X_lotsG hf_lot (hx_lot l) hC hK
