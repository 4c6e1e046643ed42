def cpI (it : Nat → Int32) (s d n : Nat) : Nat → Int32 := fun j => if d ≤ j ∧ j < d + n then it (s + (j - d)) else it j
def op_copy (A : AS) (f i t j n : Int32) : Int32 × AS :=
  if (inB f 4 && inB t 4) = true then (if A.2.2.2.1 f.toNatClampNeg = -1 ∨ A.2.2.2.1 t.toNatClampNeg = -1 then (-11, A) else if A.2.2.2.1 f.toNatClampNeg = A.2.2.2.1 t.toNatClampNeg then
    (if (spB (A.2.2.2.2.1 f.toNatClampNeg) i n && spB (A.2.2.2.2.1 t.toNatClampNeg) j n) = true then (n, setS A A.2.2.2.1 A.2.2.2.2.1 (cpI A.2.2.2.2.2 (24 * f.toNatClampNeg + i.toNatClampNeg) (24 * t.toNatClampNeg + j.toNatClampNeg) n.toNatClampNeg)) else (-13, A)) else (-12, A)) else (-1, A)
theorem sp_n {z : Nat} {f n : Int32} (h : spB z f n = true) : ∃ N, N ≤ z ∧ n = nI N ∧ N < 2147483648 := by
  unfold spB at h
  rw [decide_eq_true_eq] at h
  have h3 : ¬ n < 0 := by rw [i_lt]; show ¬ n.toInt < 0; omega
  obtain ⟨a, ha, rfl⟩ := nI_of h3
  rw [nI_toInt ha] at h
  exact ⟨a, by omega, rfl, ha⟩
theorem X_copy {l : Launch} {A : AS} {f i t j n : Int32} {σ : St} {K : Int32 → St → Prop} (hC : CX A σ) (hK : ∀ σ', CX (op_copy A f i t j n).2 σ' → FrX σ σ' → K (op_copy A f i t j n).1 σ') : CallAt l 102 [.ref 0, .int f, .int i, .int t, .int j, .int n] σ K := by
  have hw := hC.1.2.2.2
  have hS := hC.2.2.2.2.2
  unfold op_copy at hK
  refine CallAt.of (k := 102) (cd := k_X5_copy) ok_X5_copy (by decide) rfl rfl rfl ?_
  show V _ i_X5_copy k_X5_copy 0 [.ref 0, .int f, .int i, .int t, .int j, .int n] [] _ _
  refine V_run ok_X5_copy 80 0 ?_
  simp (disch := omega) only [eng, c_X5_copy, r_X5_copy, tbl, true_and, Nat.reduceAdd, Nat.reduceLT, ↓reduceIte, n_eq, n_lt, n_le, n_cl, n_inT, nI_add, bI_eq0, bI_eq1, not_true_eq_false, not_false_eq_true, true_implies, false_implies, implies_true, and_true, Bool.not_eq_false, Bool.not_eq_true, Nat.reduceEqDiff, Nat.reduceLeDiff, Classical.not_not, List.length_cons, List.length_nil, Int.reduceAdd, z_cast, Nat.reducePow, false_or, Nat.reduceLT, Nat.sub_zero, Nat.le_refl]
  try simp only [iteP, Classical.not_not, Bool.not_eq_false, Bool.not_eq_true]
  refine x_isSheet ?_
  cases h1 : inB f 4 with
  | false =>
    rw [h1] at hK
    simp (disch := omega) only [n_eq, n_lt, n_le, n_cl, n_inT, nI_add, bI_eq0, bI_eq1, not_true_eq_false, not_false_eq_true, true_implies, false_implies, implies_true, and_true, Bool.not_eq_false, Bool.not_eq_true, Nat.reduceEqDiff, Nat.reduceLeDiff, Classical.not_not, List.length_cons, List.length_nil, Int.reduceAdd, z_cast, Nat.reducePow, false_or, Nat.reduceLT, Nat.sub_zero, Nat.le_refl, true_and, ↓reduceIte, iteP, Bool.false_eq_true]
    exact hK σ hC FrX.rfl'
  | true =>
    rw [h1, Bool.true_and] at hK
    simp (disch := omega) only [n_eq, n_lt, n_le, n_cl, n_inT, nI_add, bI_eq0, bI_eq1, not_true_eq_false, not_false_eq_true, true_implies, false_implies, implies_true, and_true, Bool.not_eq_false, Bool.not_eq_true, Nat.reduceEqDiff, Nat.reduceLeDiff, Classical.not_not, List.length_cons, List.length_nil, Int.reduceAdd, z_cast, Nat.reducePow, false_or, Nat.reduceLT, Nat.sub_zero, Nat.le_refl, true_and, ↓reduceIte, iteP, Bool.true_eq_false]
    refine x_isSheet ?_
    cases h2 : inB t 4 with
    | false =>
      rw [h2] at hK
      simp (disch := omega) only [n_eq, n_lt, n_le, n_cl, n_inT, nI_add, bI_eq0, bI_eq1, not_true_eq_false, not_false_eq_true, true_implies, false_implies, implies_true, and_true, Bool.not_eq_false, Bool.not_eq_true, Nat.reduceEqDiff, Nat.reduceLeDiff, Classical.not_not, List.length_cons, List.length_nil, Int.reduceAdd, z_cast, Nat.reducePow, false_or, Nat.reduceLT, Nat.sub_zero, Nat.le_refl, true_and, ↓reduceIte, iteP, Bool.false_eq_true]
      exact hK σ hC FrX.rfl'
    | true =>
      obtain ⟨f', hf, rfl⟩ := inB_of h1
      obtain ⟨t', ht, rfl⟩ := inB_of h2
      rw [h2, if_pos rfl, n_cl (show f' < 2147483648 by omega), n_cl (show t' < 2147483648 by omega)] at hK
      simp (disch := omega) only [n_eq, n_lt, n_le, n_cl, n_inT, nI_add, bI_eq0, bI_eq1, not_true_eq_false, not_false_eq_true, true_implies, false_implies, implies_true, and_true, Bool.not_eq_false, Bool.not_eq_true, Nat.reduceEqDiff, Nat.reduceLeDiff, Classical.not_not, List.length_cons, List.length_nil, Int.reduceAdd, z_cast, Nat.reducePow, false_or, Nat.reduceLT, Nat.sub_zero, Nat.le_refl, true_and, ↓reduceIte, iteP, Bool.true_eq_false]
      have ff := (hS.1 f' hf).1
      have ft := (hS.1 t' ht).1
      refine x_holds (ln := A.2.2.2.1) hf ff ?_
      by_cases h3 : A.2.2.2.1 f' = -1
      · rw [if_pos (Or.inl h3)] at hK
        rw [decide_eq_false (by simpa using h3)]
        simp (disch := omega) only [n_eq, n_lt, n_le, n_cl, n_inT, nI_add, bI_eq0, bI_eq1, not_true_eq_false, not_false_eq_true, true_implies, false_implies, implies_true, and_true, Bool.not_eq_false, Bool.not_eq_true, Nat.reduceEqDiff, Nat.reduceLeDiff, Classical.not_not, List.length_cons, List.length_nil, Int.reduceAdd, z_cast, Nat.reducePow, false_or, Nat.reduceLT, Nat.sub_zero, Nat.le_refl, true_and, ↓reduceIte, iteP, Bool.false_eq_true]
        exact hK σ hC FrX.rfl'
      rw [decide_eq_true h3]
      simp (disch := omega) only [n_eq, n_lt, n_le, n_cl, n_inT, nI_add, bI_eq0, bI_eq1, not_true_eq_false, not_false_eq_true, true_implies, false_implies, implies_true, and_true, Bool.not_eq_false, Bool.not_eq_true, Nat.reduceEqDiff, Nat.reduceLeDiff, Classical.not_not, List.length_cons, List.length_nil, Int.reduceAdd, z_cast, Nat.reducePow, false_or, Nat.reduceLT, Nat.sub_zero, Nat.le_refl, true_and, ↓reduceIte, iteP, Bool.true_eq_false]
      refine x_holds (ln := A.2.2.2.1) ht ft ?_
      by_cases h4 : A.2.2.2.1 t' = -1
      · rw [if_pos (Or.inr h4)] at hK
        rw [decide_eq_false (by simpa using h4)]
        simp (disch := omega) only [n_eq, n_lt, n_le, n_cl, n_inT, nI_add, bI_eq0, bI_eq1, not_true_eq_false, not_false_eq_true, true_implies, false_implies, implies_true, and_true, Bool.not_eq_false, Bool.not_eq_true, Nat.reduceEqDiff, Nat.reduceLeDiff, Classical.not_not, List.length_cons, List.length_nil, Int.reduceAdd, z_cast, Nat.reducePow, false_or, Nat.reduceLT, Nat.sub_zero, Nat.le_refl, true_and, ↓reduceIte, iteP, Bool.false_eq_true]
        exact hK σ hC FrX.rfl'
      rw [decide_eq_true h4]
      rw [if_neg (fun z => z.elim h3 h4)] at hK
      by_cases h5 : A.2.2.2.1 f' = A.2.2.2.1 t'
      case neg =>
        rw [if_neg h5] at hK
        simp (disch := omega) only [n_eq, n_lt, n_le, n_cl, n_inT, nI_add, bI_eq0, bI_eq1, not_true_eq_false, not_false_eq_true, true_implies, false_implies, implies_true, and_true, Bool.not_eq_false, Bool.not_eq_true, Nat.reduceEqDiff, Nat.reduceLeDiff, Classical.not_not, List.length_cons, List.length_nil, Int.reduceAdd, z_cast, Nat.reducePow, false_or, Nat.reduceLT, Nat.sub_zero, Nat.le_refl, true_and, ↓reduceIte, iteP, Bool.true_eq_false, ff, ft, h5]
        exact hK σ hC FrX.rfl'
      rw [if_pos h5] at hK
      simp (disch := omega) only [n_eq, n_lt, n_le, n_cl, n_inT, nI_add, bI_eq0, bI_eq1, not_true_eq_false, not_false_eq_true, true_implies, false_implies, implies_true, and_true, Bool.not_eq_false, Bool.not_eq_true, Nat.reduceEqDiff, Nat.reduceLeDiff, Classical.not_not, List.length_cons, List.length_nil, Int.reduceAdd, z_cast, Nat.reducePow, false_or, Nat.reduceLT, Nat.sub_zero, Nat.le_refl, true_and, ↓reduceIte, iteP, Bool.true_eq_false, ff, ft, h5]
      have zf := (hw f' hf).2
      have zt := (hw t' ht).2
      refine x_spans hf (hS.1 f' hf).2 zf ?_
      cases h6 : spB (A.2.2.2.2.1 f') i n with
      | false =>
        rw [h6] at hK
        simp (disch := omega) only [n_eq, n_lt, n_le, n_cl, n_inT, nI_add, bI_eq0, bI_eq1, not_true_eq_false, not_false_eq_true, true_implies, false_implies, implies_true, and_true, Bool.not_eq_false, Bool.not_eq_true, Nat.reduceEqDiff, Nat.reduceLeDiff, Classical.not_not, List.length_cons, List.length_nil, Int.reduceAdd, z_cast, Nat.reducePow, false_or, Nat.reduceLT, Nat.sub_zero, Nat.le_refl, true_and, ↓reduceIte, iteP, Bool.false_eq_true]
        exact hK σ hC FrX.rfl'
      | true =>
        rw [h6, Bool.true_and] at hK
        simp (disch := omega) only [n_eq, n_lt, n_le, n_cl, n_inT, nI_add, bI_eq0, bI_eq1, not_true_eq_false, not_false_eq_true, true_implies, false_implies, implies_true, and_true, Bool.not_eq_false, Bool.not_eq_true, Nat.reduceEqDiff, Nat.reduceLeDiff, Classical.not_not, List.length_cons, List.length_nil, Int.reduceAdd, z_cast, Nat.reducePow, false_or, Nat.reduceLT, Nat.sub_zero, Nat.le_refl, true_and, ↓reduceIte, iteP, Bool.true_eq_false]
        refine x_spans ht (hS.1 t' ht).2 zt ?_
        cases h7 : spB (A.2.2.2.2.1 t') j n with
        | false =>
          rw [h7] at hK
          simp (disch := omega) only [n_eq, n_lt, n_le, n_cl, n_inT, nI_add, bI_eq0, bI_eq1, not_true_eq_false, not_false_eq_true, true_implies, false_implies, implies_true, and_true, Bool.not_eq_false, Bool.not_eq_true, Nat.reduceEqDiff, Nat.reduceLeDiff, Classical.not_not, List.length_cons, List.length_nil, Int.reduceAdd, z_cast, Nat.reducePow, false_or, Nat.reduceLT, Nat.sub_zero, Nat.le_refl, true_and, ↓reduceIte, iteP, Bool.false_eq_true]
          exact hK σ hC FrX.rfl'
        | true =>
          rw [h7, if_pos rfl] at hK
          obtain ⟨n', hn, rfl, hn2⟩ := sp_n h6
          obtain ⟨i', rfl, hi2, hi⟩ := sp_of zf hn2 h6
          obtain ⟨j', rfl, hj2, hj⟩ := sp_of zt hn2 h7
          rw [hi2, hj2, n_cl hn2] at hK
          simp (disch := omega) only [n_eq, n_lt, n_le, n_cl, n_inT, nI_add, bI_eq0, bI_eq1, not_true_eq_false, not_false_eq_true, true_implies, false_implies, implies_true, and_true, Bool.not_eq_false, Bool.not_eq_true, Nat.reduceEqDiff, Nat.reduceLeDiff, Classical.not_not, List.length_cons, List.length_nil, Int.reduceAdd, z_cast, Nat.reducePow, false_or, Nat.reduceLT, Nat.sub_zero, Nat.le_refl, true_and, ↓reduceIte, iteP, Bool.true_eq_false]
          refine x_move hf ht (by omega) (by omega) ?_
          refine hK _ (hC.sh (fun k hk => ?_) hw ⟨fun s' hs' => ?_, fun q hq => ?_⟩) (fun k hk => ?_)
          · simp (disch := omega) only [wrq]
          · simp (disch := omega) only [wrq]; exact hS.1 s' hs'
          · simp (disch := omega) only [wrq]
            unfold va_cpy cpI
            split
            · rename_i c; exact hS.2 _ (by omega)
            · exact hS.2 q hq
          · simp (disch := omega) only [wrq]
def fiI (E : Es) (it : Nat → Int32) (b n : Nat) : Nat → Int32 := fun j => if b ≤ j ∧ j < b + n then nI (E 8 (j - b)) else it j
def op_film (A : AS) (x y f : Int32) : Int32 × AS :=
  if lkR A.2.2.2.1 A.2.2.2.2.1 x y f (nI (A.1 12 1)) = nI 0 then (nI (A.1 12 1), setS A A.2.2.2.1 A.2.2.2.2.1 (fiI A.1 A.2.2.2.2.2 (24 * x.toNatClampNeg + f.toNatClampNeg) (A.1 12 1))) else (lkR A.2.2.2.1 A.2.2.2.2.1 x y f (nI (A.1 12 1)), A)
theorem cvt_s : ∀ h, h < 14 → ∀ y, y < 3 → cvt (nI y) (nI h) = nI h := by decide +kernel
theorem lp_film (l : Launch) {s a : Nat} {y : Nat} {E : Es} {it : Nat → Int32} {σ0 : St} {K : Int32 → St → Prop} (hW : Wf E) (hE : XE 100 E σ0) (hs : s < 4) (hy : y < 3) (ha : a + E 12 1 ≤ 24) (hl : σ0 501 s = nI y) (hK : ∀ σ' : St, (∀ j, j < 96 → σ' 503 j = fiI E it (24 * s + a) (E 12 1) j) → (∀ k, k ≠ 503 → σ' k = σ0 k) → K (nI (E 12 1)) σ') : ∀ (n t : Nat) (σ : St), t + n = E 12 1 → (∀ j, j < 96 → σ 503 j = fiI E it (24 * s + a) t j) → (∀ k, k ≠ 503 → σ k = σ0 k) → V l i_X5_film k_X5_film 16 [.ref 0, .int (nI s), .int (nI y), .int (nI a), .int (nI 0), .int (nI t)] [] σ K
  | 0, t, σ, ht, g1, g2 => by
    have ht : t = E 12 1 := by omega
    subst ht
    have hn12 := hW.2.1
    have e7 : σ 100 7 = nI (E 12 1) := by rw [g2 100 (by decide)]; exact hE.2.2.1
    refine V_run ok_X5_film 60 16 ?_
    simp (disch := omega) only [eng, c_X5_film, r_X5_film, tbl, true_and, Nat.reduceAdd, Nat.reduceLT, ↓reduceIte, n_eq, n_lt, n_le, n_cl, n_inT, nI_add, bI_eq0, bI_eq1, not_true_eq_false, not_false_eq_true, true_implies, false_implies, implies_true, and_true, Bool.not_eq_false, Bool.not_eq_true, Nat.reduceEqDiff, Nat.reduceLeDiff, Classical.not_not, List.length_cons, List.length_nil, Int.reduceAdd, z_cast, Nat.reducePow, false_or, Nat.reduceLT, Nat.sub_zero, Nat.le_refl, e7]
    try simp only [iteP, Classical.not_not, Bool.not_eq_false, Bool.not_eq_true]
    exact hK σ g1 g2
  | n + 1, t, σ, ht, g1, g2 => by
    have ht1 : t < E 12 1 := by omega
    have hn12 := hW.2.1
    have e7 : σ 100 7 = nI (E 12 1) := by rw [g2 100 (by decide)]; exact hE.2.2.1
    have ft : σ 111 t = nI (E 8 t) := by rw [g2 111 (by decide)]; exact (hE.2.2.2.2.2.1 t ht1).2.2.1
    have h14 := ho14 hW ht1
    refine V_run ok_X5_film 60 16 ?_
    simp (disch := omega) only [eng, c_X5_film, r_X5_film, tbl, true_and, Nat.reduceAdd, Nat.reduceLT, ↓reduceIte, n_eq, n_lt, n_le, n_cl, n_inT, nI_add, bI_eq0, bI_eq1, not_true_eq_false, not_false_eq_true, true_implies, false_implies, implies_true, and_true, Bool.not_eq_false, Bool.not_eq_true, Nat.reduceEqDiff, Nat.reduceLeDiff, Classical.not_not, List.length_cons, List.length_nil, Int.reduceAdd, z_cast, Nat.reducePow, false_or, Nat.reduceLT, Nat.sub_zero, Nat.le_refl, e7, ft, Nat.not_le.mpr ht1]
    try simp only [iteP, Classical.not_not, Bool.not_eq_false, Bool.not_eq_true]
    refine x_put (ln := nI y) hs (by omega) (by rw [g2 501 (by decide)]; exact hl) ?_
    rw [cvt_s (E 8 t) (by omega) y hy]
    refine lp_film l hW hE hs hy ha hl hK n (t + 1) _ (by omega) (fun j hj => ?_) (fun k hk => ?_)
    · have := g1 j hj
      unfold fiI at this ⊢
      by_cases z : j = 24 * s + (a + t)
      · subst z
        rw [if_pos (by omega)]
        simp (disch := omega) only [wrq]
        congr 2
        omega
      · simp (disch := omega) only [wrq]
        rw [this]
        by_cases z2 : 24 * s + a ≤ j ∧ j < 24 * s + a + t
        · rw [if_pos z2, if_pos (by omega)]
        · rw [if_neg z2, if_neg (by omega)]
    · simp (disch := omega) only [wrq]; exact g2 k hk
theorem X_film {l : Launch} {A : AS} {x y f : Int32} {σ : St} {K : Int32 → St → Prop} (hC : CX A σ) (hK : ∀ σ', CX (op_film A x y f).2 σ' → FrX σ σ' → K (op_film A x y f).1 σ') : CallAt l 98 [.ref 0, .int x, .int y, .int f] σ K := by
  have hw := hC.1.2.2.2
  have hS := hC.2.2.2.2.2
  have hW := hC.1.1
  have hE := hC.2.1
  have hn12 := hW.2.1
  have e7 := hE.2.2.1
  unfold op_film at hK
  refine CallAt.of (k := 98) (cd := k_X5_film) ok_X5_film (by decide) rfl rfl rfl ?_
  show V _ i_X5_film k_X5_film 0 [.ref 0, .int x, .int y, .int f, .null, .null] [] _ _
  refine V_run ok_X5_film 60 0 ?_
  simp (disch := omega) only [eng, c_X5_film, r_X5_film, tbl, true_and, Nat.reduceAdd, Nat.reduceLT, ↓reduceIte, n_eq, n_lt, n_le, n_cl, n_inT, nI_add, bI_eq0, bI_eq1, not_true_eq_false, not_false_eq_true, true_implies, false_implies, implies_true, and_true, Bool.not_eq_false, Bool.not_eq_true, Nat.reduceEqDiff, Nat.reduceLeDiff, Classical.not_not, List.length_cons, List.length_nil, Int.reduceAdd, z_cast, Nat.reducePow, false_or, Nat.reduceLT, Nat.sub_zero, Nat.le_refl, e7]
  try simp only [iteP, Classical.not_not, Bool.not_eq_false, Bool.not_eq_true]
  refine x_look hw hS ?_
  by_cases h : lkR A.2.2.2.1 A.2.2.2.2.1 x y f (nI (A.1 12 1)) = nI 0
  · rw [if_pos h] at hK
    obtain ⟨s, hs, rfl, hs2, hln, hy, hsp⟩ := lk_of hw h
    have hz := (hw s hs).2
    obtain ⟨a, rfl, ha2, ha⟩ := sp_of hz (by omega) hsp
    obtain ⟨y', hy', rfl⟩ := inB_of hy
    rw [hs2, ha2] at hK
    rw [h]
    simp (disch := omega) only [n_eq, n_lt, n_le, n_cl, n_inT, nI_add, bI_eq0, bI_eq1, not_true_eq_false, not_false_eq_true, true_implies, false_implies, implies_true, and_true, Bool.not_eq_false, Bool.not_eq_true, Nat.reduceEqDiff, Nat.reduceLeDiff, Classical.not_not, List.length_cons, List.length_nil, Int.reduceAdd, z_cast, Nat.reducePow, false_or, Nat.reduceLT, Nat.sub_zero, Nat.le_refl, true_and, ↓reduceIte, iteP]
    refine lp_film l (it := A.2.2.2.2.2) hW hE hs hy' (by omega) (by rw [(hS.1 s hs).1]; exact hln) (fun σ' k1 k2 => ?_) (A.1 12 1) 0 σ (by omega) (fun j hj => ?_) (fun _ _ => rfl)
    · exact hK σ' (hC.sh (fun k hk => k2 k (by omega)) hw ⟨fun s' hs' => by rw [k2 501 (by decide), k2 502 (by decide)]; exact hS.1 s' hs', k1⟩) (fun k hk => k2 k (by omega))
    · unfold fiI
      rw [if_neg (by omega)]
      exact hS.2 j hj
  · rw [if_neg h] at hK
    simp (disch := omega) only [n_eq, n_lt, n_le, n_cl, n_inT, nI_add, bI_eq0, bI_eq1, not_true_eq_false, not_false_eq_true, true_implies, false_implies, implies_true, and_true, Bool.not_eq_false, Bool.not_eq_true, Nat.reduceEqDiff, Nat.reduceLeDiff, Classical.not_not, List.length_cons, List.length_nil, Int.reduceAdd, z_cast, Nat.reducePow, false_or, Nat.reduceLT, Nat.sub_zero, Nat.le_refl, true_and, ↓reduceIte, iteP, h]
    exact hK σ hC FrX.rfl'
def op_judged (A : AS) (x y f n : Int32) : Int32 × AS :=
  (if rI n 1 8 = true then (if lkR A.2.2.2.1 A.2.2.2.2.1 x y f n = nI 0 then (if fstE (fun i => A.2.2.2.2.2 (24 * x.toNatClampNeg + (f.toNatClampNeg + i))) n.toNatClampNeg 0 A.1 < n.toNatClampNeg then nI (fstE (fun i => A.2.2.2.2.2 (24 * x.toNatClampNeg + (f.toNatClampNeg + i))) n.toNatClampNeg 0 A.1) else -4) else lkR A.2.2.2.1 A.2.2.2.2.1 x y f n) else -1, A)
theorem fst_le (d : Nat → Int32) : ∀ (n i : Nat) (E : Es), i ≤ fstE d n i E ∧ fstE d n i E ≤ i + n
  | 0, i, E => ⟨Nat.le_refl _, Nat.le_refl _⟩
  | n + 1, i, E => by
    unfold fstE
    split
    · have := fst_le d n (i + 1) (die E (d i).toNatClampNeg); omega
    · omega
theorem CX.su {A : AS} {σ σ' : St} (h : CX A σ) (hf : ∀ k, k < 600 ∨ 900 ≤ k → σ' k = σ k) : CX A σ' := h.fr (fun k hk => hf k (by omega)) (by rw [hf 400 (by omega)])
theorem X_judged {l : Launch} {A : AS} {x y f n : Int32} {σ : St} {K : Int32 → St → Prop} (hC : CX A σ) (hK : ∀ σ', CX (op_judged A x y f n).2 σ' → FrX σ σ' → K (op_judged A x y f n).1 σ') : CallAt l 96 [.ref 0, .int x, .int y, .int f, .int n] σ K := by
  have hw := hC.1.2.2.2
  have hS := hC.2.2.2.2.2
  have hW := hC.1.1
  have hE := hC.2.1
  unfold op_judged at hK
  rcases rng n 1 8 (by decide) (by decide) with ⟨g0, g⟩ | ⟨g0, g⟩ | ⟨g0, n', h1, h3, rfl⟩
  iterate 2
    · refine CallAt.of (k := 96) (cd := k_X5_judged) ok_X5_judged (by decide) rfl rfl rfl ?_
      show V _ i_X5_judged k_X5_judged 0 [.ref 0, .int x, .int y, .int f, .int n, .null, .null] [] _ _
      refine V_run ok_X5_judged 60 0 ?_
      simp (disch := omega) only [eng, c_X5_judged, r_X5_judged, tbl, true_and, Nat.reduceAdd, Nat.reduceLT, ↓reduceIte, n_eq, n_lt, n_le, n_cl, n_inT, nI_add, bI_eq0, bI_eq1, not_true_eq_false, not_false_eq_true, true_implies, false_implies, implies_true, and_true, Bool.not_eq_false, Bool.not_eq_true, Nat.reduceEqDiff, Nat.reduceLeDiff, Classical.not_not, List.length_cons, List.length_nil, Int.reduceAdd, z_cast, Nat.reducePow, false_or, Nat.reduceLT, Nat.sub_zero, Nat.le_refl, g]
      try simp only [iteP, Classical.not_not, Bool.not_eq_false, Bool.not_eq_true]
      rw [g0] at hK
      exact hK σ hC FrX.rfl'
  have z1 : ¬ n' < 1 := by omega
  rw [g0, if_pos rfl, n_cl (by omega)] at hK
  refine CallAt.of (k := 96) (cd := k_X5_judged) ok_X5_judged (by decide) rfl rfl rfl ?_
  show V _ i_X5_judged k_X5_judged 0 [.ref 0, .int x, .int y, .int f, .int (nI n'), .null, .null] [] _ _
  refine V_run ok_X5_judged 60 0 ?_
  simp (disch := omega) only [eng, c_X5_judged, r_X5_judged, tbl, true_and, Nat.reduceAdd, Nat.reduceLT, ↓reduceIte, n_eq, n_lt, n_le, n_cl, n_inT, nI_add, bI_eq0, bI_eq1, not_true_eq_false, not_false_eq_true, true_implies, false_implies, implies_true, and_true, Bool.not_eq_false, Bool.not_eq_true, Nat.reduceEqDiff, Nat.reduceLeDiff, Classical.not_not, List.length_cons, List.length_nil, Int.reduceAdd, z_cast, Nat.reducePow, false_or, Nat.reduceLT, Nat.sub_zero, Nat.le_refl, z1, h3]
  try simp only [iteP, Classical.not_not, Bool.not_eq_false, Bool.not_eq_true]
  refine x_look hw hS ?_
  by_cases h : lkR A.2.2.2.1 A.2.2.2.2.1 x y f (nI n') = nI 0
  · rw [if_pos h] at hK
    obtain ⟨s, hs, rfl, hs2, hln, hy, hsp⟩ := lk_of hw h
    have hz := (hw s hs).2
    obtain ⟨a, rfl, ha2, ha⟩ := sp_of hz (by omega) hsp
    rw [hs2, ha2] at hK
    simp (disch := omega) only [n_eq, n_lt, n_le, n_cl, n_inT, nI_add, bI_eq0, bI_eq1, not_true_eq_false, not_false_eq_true, true_implies, false_implies, implies_true, and_true, Bool.not_eq_false, Bool.not_eq_true, Nat.reduceEqDiff, Nat.reduceLeDiff, Classical.not_not, List.length_cons, List.length_nil, Int.reduceAdd, z_cast, Nat.reducePow, false_or, Nat.reduceLT, Nat.sub_zero, Nat.le_refl, true_and, ↓reduceIte, iteP, h]
    refine x_tell hs (by omega) h3 (fun σ1 q1 q2 q3 => ?_)
    have hC1 : CX A σ1 := hC.su (fun k hk => q3 k (by omega) (by omega))
    have e1 := hC1.2.1.2.1
    have hf := fst_le (fun i => A.2.2.2.2.2 (24 * s + (a + i))) n' 0 A.1
    simp (disch := omega) only [n_eq, n_lt, n_le, n_cl, n_inT, nI_add, bI_eq0, bI_eq1, not_true_eq_false, not_false_eq_true, true_implies, false_implies, implies_true, and_true, Bool.not_eq_false, Bool.not_eq_true, Nat.reduceEqDiff, Nat.reduceLeDiff, Classical.not_not, List.length_cons, List.length_nil, Int.reduceAdd, z_cast, Nat.reducePow, false_or, Nat.reduceLT, Nat.sub_zero, Nat.le_refl, true_and, ↓reduceIte, iteP, e1]
    refine x_first (d := fun i => A.2.2.2.2.2 (24 * s + (a + i))) hW h3 q1 (fun i hi => by rw [q2 i hi]; exact hS.2 _ (by omega)) ?_
    generalize fstE (fun i => A.2.2.2.2.2 (24 * s + (a + i))) n' 0 A.1 = k at hf hK ⊢
    have hX : FrX σ σ1 := fun k hk => q3 k (by omega) (by omega)
    by_cases hz : k < n'
    · have hz2 : ¬ n' ≤ k := by omega
      rw [if_pos hz] at hK
      simp (disch := omega) only [n_eq, n_lt, n_le, n_cl, n_inT, nI_add, bI_eq0, bI_eq1, not_true_eq_false, not_false_eq_true, true_implies, false_implies, implies_true, and_true, Bool.not_eq_false, Bool.not_eq_true, Nat.reduceEqDiff, Nat.reduceLeDiff, Classical.not_not, List.length_cons, List.length_nil, Int.reduceAdd, z_cast, Nat.reducePow, false_or, Nat.reduceLT, Nat.sub_zero, Nat.le_refl, true_and, ↓reduceIte, iteP, hz, hz2]
      exact hK σ1 hC1 hX
    · have hz2 : n' ≤ k := by omega
      rw [if_neg hz] at hK
      simp (disch := omega) only [n_eq, n_lt, n_le, n_cl, n_inT, nI_add, bI_eq0, bI_eq1, not_true_eq_false, not_false_eq_true, true_implies, false_implies, implies_true, and_true, Bool.not_eq_false, Bool.not_eq_true, Nat.reduceEqDiff, Nat.reduceLeDiff, Classical.not_not, List.length_cons, List.length_nil, Int.reduceAdd, z_cast, Nat.reducePow, false_or, Nat.reduceLT, Nat.sub_zero, Nat.le_refl, true_and, ↓reduceIte, iteP, hz, hz2]
      exact hK σ1 hC1 hX
  · rw [if_neg h] at hK
    simp (disch := omega) only [n_eq, n_lt, n_le, n_cl, n_inT, nI_add, bI_eq0, bI_eq1, not_true_eq_false, not_false_eq_true, true_implies, false_implies, implies_true, and_true, Bool.not_eq_false, Bool.not_eq_true, Nat.reduceEqDiff, Nat.reduceLeDiff, Classical.not_not, List.length_cons, List.length_nil, Int.reduceAdd, z_cast, Nat.reducePow, false_or, Nat.reduceLT, Nat.sub_zero, Nat.le_refl, true_and, ↓reduceIte, iteP, h]
    exact hK σ hC FrX.rfl'
