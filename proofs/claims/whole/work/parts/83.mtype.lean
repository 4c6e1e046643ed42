theorem m_byte {l : Launch} {b : Nat} {σ : St} {K : Int32 → St → Prop} (hb : b < 256) (hK : K (bI (decide (32 ≤ b ∧ b ≤ 126))) σ) : CallAt l 108 [.long (lN b), .long 32, .long 126] σ K := by
  refine m_in ?_
  rw [pk_lT (by omega), show (32 : Int64).toInt = 32 from rfl, show (126 : Int64).toInt = 126 from rfl]
  have : decide ((32 : Int) ≤ b ∧ (b : Int) ≤ 126) = decide (32 ≤ b ∧ b ≤ 126) := by
    congr 1
    apply propext
    omega
  rw [this]; exact hK
theorem okB_mk {w : Int64} : ∀ (n i : Nat), (∀ j, i ≤ j → j < i + n → 32 ≤ bN w j ∧ bN w j ≤ 126) → okB w n i = true
  | 0, i, _ => rfl
  | n + 1, i, h => by
    unfold okB
    rw [decide_eq_true (h i (by omega) (by omega)), okB_mk n (i + 1) (fun j h1 h2 => h j (by omega) (by omega))]
    rfl
theorem lp_type1 (l : Launch) {n : Nat} {w : Int64} {σ : St} {K : Int32 → St → Prop} (hn : n ≤ 8) (hF : okB w n 0 = false → K (-1) σ) (hN : okB w n 0 = true → V l i_X6_type k_X6_type 29 [.ref 900, .long w, .null, .int (nI n), .int (nI 0 + (-1))] [] σ K) : ∀ i : Nat, i ≤ n → (∀ j, i ≤ j → j < n → 32 ≤ bN w j ∧ bN w j ≤ 126) → V l i_X6_type k_X6_type 12 [.ref 900, .long w, .null, .int (nI n), .int (nI i + (-1))] [] σ K
  | 0, hi, h => by
    have e : nI 0 + (-1) < nI 0 := by decide
    refine V_run ok_X6_type 2 12 ?_
    simp (disch := omega) only [eng, c_X6_type, r_X6_type, tbl, true_and, Nat.reduceAdd, Nat.reduceLT, ↓reduceIte, n_eq, n_lt, n_le, n_cl, n_inT, nI_add, bI_eq0, bI_eq1, not_true_eq_false, not_false_eq_true, true_implies, false_implies, implies_true, and_true, Bool.not_eq_false, Bool.not_eq_true, Nat.reduceEqDiff, Nat.reduceLeDiff, Classical.not_not, List.length_cons, List.length_nil, Int.reduceAdd, z_cast, Nat.reducePow, false_or, Nat.reduceLT, Nat.sub_zero, Nat.le_refl, e]
    try simp only [iteP, Classical.not_not, Bool.not_eq_false, Bool.not_eq_true]
    exact hN (okB_mk n 0 (fun j _ h2 => h j (by omega) (by omega)))
  | i + 1, hi, h => by
    have e : nI (i + 1) + (-1) = nI i := pk_m1 i
    have e2 : ¬ i < 0 := by omega
    have hb := bN_lt w i
    have e4 : (w >>> ((nI (8 * i)).toInt64 &&& 63) &&& 255) = lN (bN w i) := bL_N w i
    rw [e]
    refine V_run ok_X6_type 60 12 ?_
    simp (disch := omega) only [eng, c_X6_type, r_X6_type, tbl, true_and, Nat.reduceAdd, Nat.reduceLT, ↓reduceIte, n_eq, n_lt, n_le, n_cl, n_inT, nI_add, bI_eq0, bI_eq1, not_true_eq_false, not_false_eq_true, true_implies, false_implies, implies_true, and_true, Bool.not_eq_false, Bool.not_eq_true, Nat.reduceEqDiff, Nat.reduceLeDiff, Classical.not_not, List.length_cons, List.length_nil, Int.reduceAdd, z_cast, Nat.reducePow, false_or, Nat.reduceLT, Nat.sub_zero, Nat.le_refl, e2, pk_mul, e4]
    try simp only [iteP, Classical.not_not, Bool.not_eq_false, Bool.not_eq_true]
    refine m_byte hb ?_
    by_cases z : 32 ≤ bN w i ∧ bN w i ≤ 126
    · rw [decide_eq_true z]
      simp (disch := omega) only [n_eq, n_lt, n_le, n_cl, n_inT, nI_add, bI_eq0, bI_eq1, not_true_eq_false, not_false_eq_true, true_implies, false_implies, implies_true, and_true, Bool.not_eq_false, Bool.not_eq_true, Nat.reduceEqDiff, Nat.reduceLeDiff, Classical.not_not, List.length_cons, List.length_nil, Int.reduceAdd, z_cast, Nat.reducePow, false_or, Nat.reduceLT, Nat.sub_zero, Nat.le_refl, true_and, ↓reduceIte, iteP, Bool.true_eq_false]
      exact lp_type1 l hn hF hN i (by omega) (fun j h1 h2 => by
        by_cases y : j = i
        · rw [y]; exact z
        · exact h j (by omega) h2)
    · rw [decide_eq_false z]
      simp (disch := omega) only [n_eq, n_lt, n_le, n_cl, n_inT, nI_add, bI_eq0, bI_eq1, not_true_eq_false, not_false_eq_true, true_implies, false_implies, implies_true, and_true, Bool.not_eq_false, Bool.not_eq_true, Nat.reduceEqDiff, Nat.reduceLeDiff, Classical.not_not, List.length_cons, List.length_nil, Int.reduceAdd, z_cast, Nat.reducePow, false_or, Nat.reduceLT, Nat.sub_zero, Nat.le_refl, true_and, ↓reduceIte, iteP, Bool.false_eq_true]
      refine hF ?_
      cases h3 : okB w n 0 with
      | false => rfl
      | true => exact absurd (okB_at h3 i (by omega) (by omega)) z
theorem lp_type2 (l : Launch) {tp : Nat → Nat} {ln n : Nat} {w : Int64} {σ0 : St} {K : Int32 → St → Prop} (hn : n ≤ 8) (hl : ln + n ≤ 120) (hK : ∀ σ : St, σ 900 16 = nI (ln + n) → (∀ j, j < ln + n → σ 916 j = nI (tpW tp ln w n j)) → (∀ k, k ≠ 900 → k ≠ 916 → σ k = σ0 k) → (∀ j, j ≠ 16 → σ 900 j = σ0 900 j) → K (nI (ln + n)) σ) : ∀ (i : Nat) (σ : St), i ≤ n → σ 900 16 = nI (ln + (n - i)) → (∀ j, j < ln + (n - i) → σ 916 j = nI (tpW tp ln w n j)) → (∀ k, k ≠ 900 → k ≠ 916 → σ k = σ0 k) → (∀ j, j ≠ 16 → σ 900 j = σ0 900 j) → V l i_X6_type k_X6_type 41 [.ref 900, .long w, .null, .int (nI n), .int (nI i + (-1))] [] σ K
  | 0, σ, hi, g1, g2, g3, g4 => by
    have e : nI 0 + (-1) < nI 0 := by decide
    rw [Nat.sub_zero] at g1 g2
    refine V_run ok_X6_type 60 41 ?_
    simp (disch := omega) only [eng, c_X6_type, r_X6_type, tbl, true_and, Nat.reduceAdd, Nat.reduceLT, ↓reduceIte, n_eq, n_lt, n_le, n_cl, n_inT, nI_add, bI_eq0, bI_eq1, not_true_eq_false, not_false_eq_true, true_implies, false_implies, implies_true, and_true, Bool.not_eq_false, Bool.not_eq_true, Nat.reduceEqDiff, Nat.reduceLeDiff, Classical.not_not, List.length_cons, List.length_nil, Int.reduceAdd, z_cast, Nat.reducePow, false_or, Nat.reduceLT, Nat.sub_zero, Nat.le_refl, e, g1]
    try simp only [iteP, Classical.not_not, Bool.not_eq_false, Bool.not_eq_true]
    exact hK σ g1 g2 g3 g4
  | i + 1, σ, hi, g1, g2, g3, g4 => by
    have e : nI (i + 1) + (-1) = nI i := pk_m1 i
    have e2 : ¬ i < 0 := by omega
    have e3 : ln + (n - (i + 1)) < 120 := by omega
    have e4 : (w >>> ((nI (8 * i)).toInt64 &&& 63) &&& 255) = lN (bN w i) := bL_N w i
    rw [e]
    refine V_run ok_X6_type 60 41 ?_
    simp (disch := omega) only [eng, c_X6_type, r_X6_type, tbl, true_and, Nat.reduceAdd, Nat.reduceLT, ↓reduceIte, n_eq, n_lt, n_le, n_cl, n_inT, nI_add, bI_eq0, bI_eq1, not_true_eq_false, not_false_eq_true, true_implies, false_implies, implies_true, and_true, Bool.not_eq_false, Bool.not_eq_true, Nat.reduceEqDiff, Nat.reduceLeDiff, Classical.not_not, List.length_cons, List.length_nil, Int.reduceAdd, z_cast, Nat.reducePow, false_or, Nat.reduceLT, Nat.sub_zero, Nat.le_refl, e2, g1, pk_mul, e4, lN_i, wrq]
    try simp only [iteP, Classical.not_not, Bool.not_eq_false, Bool.not_eq_true]
    have ih := lp_type2 l (tp := tp) hn hl hK i (wr (wr σ 916 (ln + (n - (i + 1))) (nI (bN w i))) 900 16 (nI (ln + (n - (i + 1)) + 1))) (by omega) ?_ (fun j hj => ?_) (fun k h1 h2 => ?_) (fun j hj => ?_)
    · exact ih
    · simp (disch := omega) only [wrq]; congr 1; omega
    · simp (disch := omega) only [wrq]
      by_cases z : j = ln + (n - (i + 1))
      · subst z
        simp (disch := omega) only [wrq]
        unfold tpW
        rw [if_neg (by omega)]
        congr 2; omega
      · simp (disch := omega) only [wrq]
        exact g2 j (by omega)
    · simp (disch := omega) only [wrq]; exact g3 k h1 h2
    · simp (disch := omega) only [wrq]; exact g4 j hj
theorem ME.fr {E : Es} {σ σ' : St} (h : ME E σ) (hf : ∀ k, 901 ≤ k → k ≤ 914 → σ' k = σ k) (h6 : σ' 900 6 = σ 900 6) (h11 : σ' 900 11 = σ 900 11) (h14 : σ' 900 14 = σ 900 14) : ME E σ' := by
  unfold ME at h ⊢
  rw [h6, h11, h14, hf 901 (by omega) (by omega), hf 902 (by omega) (by omega), hf 903 (by omega) (by omega), hf 904 (by omega) (by omega), hf 905 (by omega) (by omega), hf 906 (by omega) (by omega), hf 908 (by omega) (by omega), hf 909 (by omega) (by omega), hf 910 (by omega) (by omega), hf 911 (by omega) (by omega), hf 913 (by omega) (by omega), hf 914 (by omega) (by omega)]
  exact h
/-- the reference's cells of the tape alone -/
def FrP (σ σ' : St) : Prop := (∀ k, k ≠ 900 → k ≠ 916 → k ≠ 920 → σ' k = σ k) ∧ ∀ j, j ≠ 16 → j ≠ 17 → j ≠ 18 → σ' 900 j = σ 900 j
theorem FrP.rfl' {σ : St} : FrP σ σ := ⟨fun _ _ _ _ => rfl, fun _ _ _ _ => rfl⟩
theorem FrP.trans {σ σ' σ'' : St} (h : FrP σ σ') (h2 : FrP σ' σ'') : FrP σ σ'' := ⟨fun k a b c => (h2.1 k a b c).trans (h.1 k a b c), fun j a b c => (h2.2 j a b c).trans (h.2 j a b c)⟩
theorem FrP.m {σ σ' : St} (h : FrP σ σ') : FrM σ σ' := fun k hk => h.1 k (by omega) (by omega) (by omega)
theorem MX.tp {A : AS} {tp : Nat → Nat} {ln : Nat} {σ σ' : St} (h : MX A σ) (hf : FrP σ σ') (hw : TpW tp ln) (h1 : σ' 900 16 = nI ln) (h2 : ∀ i, i < ln → σ' 916 i = nI (tp i)) : MX (A.1, A.2.1, (tp, ln), A.2.2.2) σ' := by
  obtain ⟨a1, a2, a3, a4, a5, a6⟩ := h
  refine ⟨⟨a1.1, a1.2.1, hw, a1.2.2.2⟩, a2.fr (fun k _ _ => hf.1 k (by omega) (by omega) (by omega)) (hf.2 6 (by omega) (by omega) (by omega)) (hf.2 11 (by omega) (by omega) (by omega)) (hf.2 14 (by omega) (by omega) (by omega)), by rw [hf.2 22 (by omega) (by omega) (by omega)]; exact a3, fun E' he => (a4 E' he).frame (hf.1 924 (by omega) (by omega) (by omega)), ⟨h1, h2⟩, ⟨fun s hs => by rw [hf.1 926 (by omega) (by omega) (by omega), hf.1 927 (by omega) (by omega) (by omega)]; exact a6.1 s hs, fun j hj => by rw [hf.1 928 (by omega) (by omega) (by omega)]; exact a6.2 j hj⟩⟩
theorem M_type {l : Launch} {A : AS} {w : Int64} {n : Int32} {σ : St} {K : Int32 → St → Prop} (hM : MX A σ) (hK : ∀ σ', MX (op_type A w n).2 σ' → FrM σ σ' → K (op_type A w n).1 σ') : CallAt l 138 [.ref 900, .long w, .int n] σ K := by
  unfold op_type at hK
  have hw := hM.1.2.2.1
  have hln := hw.1
  have t1 := hM.2.2.2.2.1.1
  have t2 := hM.2.2.2.2.1.2
  refine CallAt.of (k := 138) (cd := k_X6_type) ok_X6_type (by decide) rfl rfl rfl ?_
  show V _ i_X6_type k_X6_type 0 [.ref 900, .long w, .null, .int n, .null] [] _ _
  refine V_run ok_X6_type 60 0 ?_
  simp (disch := omega) only [eng, c_X6_type, r_X6_type, tbl, true_and, Nat.reduceAdd, Nat.reduceLT, ↓reduceIte, n_eq, n_lt, n_le, n_cl, n_inT, nI_add, bI_eq0, bI_eq1, not_true_eq_false, not_false_eq_true, true_implies, false_implies, implies_true, and_true, Bool.not_eq_false, Bool.not_eq_true, Nat.reduceEqDiff, Nat.reduceLeDiff, Classical.not_not, List.length_cons, List.length_nil, Int.reduceAdd, z_cast, Nat.reducePow, false_or, Nat.reduceLT, Nat.sub_zero, Nat.le_refl]
  try simp only [iteP, Classical.not_not, Bool.not_eq_false, Bool.not_eq_true]
  refine m_rI (a := 1) (n := 8) rfl rfl ?_
  rcases rng n 1 8 (by decide) (by decide) with ⟨g0, g⟩ | ⟨g0, g⟩ | ⟨g0, n', q1, q3, rfl⟩
  iterate 2
    · rw [g0] at hK ⊢
      simp (disch := omega) only [n_eq, n_lt, n_le, n_cl, n_inT, nI_add, bI_eq0, bI_eq1, not_true_eq_false, not_false_eq_true, true_implies, false_implies, implies_true, and_true, Bool.not_eq_false, Bool.not_eq_true, Nat.reduceEqDiff, Nat.reduceLeDiff, Classical.not_not, List.length_cons, List.length_nil, Int.reduceAdd, z_cast, Nat.reducePow, false_or, Nat.reduceLT, Nat.sub_zero, Nat.le_refl, true_and, ↓reduceIte, iteP, Bool.false_eq_true]
      exact hK σ hM FrM.rfl'
  rw [g0, n_cl (by omega), Bool.true_and] at hK
  rw [g0]
  have e2 := pk_sub (a := n') (b := 1) (by omega)
  have e3 : nI n' + (-1) = nI (n' - 1) := sb_m1 q1
  simp (disch := omega) only [n_eq, n_lt, n_le, n_cl, n_inT, nI_add, bI_eq0, bI_eq1, not_true_eq_false, not_false_eq_true, true_implies, false_implies, implies_true, and_true, Bool.not_eq_false, Bool.not_eq_true, Nat.reduceEqDiff, Nat.reduceLeDiff, Classical.not_not, List.length_cons, List.length_nil, Int.reduceAdd, z_cast, Nat.reducePow, false_or, Nat.reduceLT, Nat.sub_zero, Nat.le_refl, true_and, ↓reduceIte, iteP, Bool.true_eq_false, e2]
  rw [← e3]
  refine lp_type1 l q3 (fun h => ?_) (fun h => ?_) n' (Nat.le_refl _) (fun j h1 h2 => absurd h2 (by omega))
  · rw [h] at hK; exact hK σ hM FrM.rfl'
  rw [h, if_pos rfl] at hK
  by_cases z : 120 < A.2.2.1.2 + n'
  · rw [if_pos z] at hK
    have z2 : ¬ A.2.2.1.2 + n' ≤ 120 := by omega
    refine V_run ok_X6_type 60 29 ?_
    simp (disch := omega) only [eng, c_X6_type, r_X6_type, tbl, true_and, Nat.reduceAdd, Nat.reduceLT, ↓reduceIte, n_eq, n_lt, n_le, n_cl, n_inT, nI_add, bI_eq0, bI_eq1, not_true_eq_false, not_false_eq_true, true_implies, false_implies, implies_true, and_true, Bool.not_eq_false, Bool.not_eq_true, Nat.reduceEqDiff, Nat.reduceLeDiff, Classical.not_not, List.length_cons, List.length_nil, Int.reduceAdd, z_cast, Nat.reducePow, false_or, Nat.reduceLT, Nat.sub_zero, Nat.le_refl, t1, z2]
    try simp only [iteP, Classical.not_not, Bool.not_eq_false, Bool.not_eq_true]
    exact hK σ hM FrM.rfl'
  · rw [if_neg z] at hK
    have z2 : A.2.2.1.2 + n' ≤ 120 := by omega
    refine V_run ok_X6_type 60 29 ?_
    simp (disch := omega) only [eng, c_X6_type, r_X6_type, tbl, true_and, Nat.reduceAdd, Nat.reduceLT, ↓reduceIte, n_eq, n_lt, n_le, n_cl, n_inT, nI_add, bI_eq0, bI_eq1, not_true_eq_false, not_false_eq_true, true_implies, false_implies, implies_true, and_true, Bool.not_eq_false, Bool.not_eq_true, Nat.reduceEqDiff, Nat.reduceLeDiff, Classical.not_not, List.length_cons, List.length_nil, Int.reduceAdd, z_cast, Nat.reducePow, false_or, Nat.reduceLT, Nat.sub_zero, Nat.le_refl, t1, z2, e2]
    try simp only [iteP, Classical.not_not, Bool.not_eq_false, Bool.not_eq_true]
    rw [← e3]
    refine lp_type2 l (tp := A.2.2.1.1) (ln := A.2.2.1.2) (σ0 := σ) q3 z2 (fun σ' g1 g2 g3 g4 => ?_) n' σ (Nat.le_refl _) (by rw [Nat.sub_self]; exact t1) (fun j hj => ?_) (fun _ _ _ => rfl) (fun _ _ => rfl)
    · have hf : FrP σ σ' := ⟨fun k h1 h2 _ => g3 k h1 h2, fun j h1 _ _ => g4 j h1⟩
      exact hK σ' (hM.tp hf (TpW_put hw h z2) g1 g2) hf.m
    · have : j < A.2.2.1.2 := by omega
      rw [t2 j this]; unfold tpW; rw [if_pos this]
