theorem rS_in (i : Int32) : decide ((-1 : Int64).toInt ≤ i.toInt64.toInt ∧ i.toInt64.toInt ≤ (3 : Int64).toInt) = rS i := by
  rw [Int32.toInt_toInt64]
  unfold rS inB
  have e : (i = -1) = (i.toInt = -1) := by rw [i_eq]; rfl
  apply Bool.eq_iff_iff.mpr
  simp only [Bool.or_eq_true, decide_eq_true_eq, e]
  show (-1 : Int) ≤ i.toInt ∧ i.toInt ≤ 3 ↔ _
  omega
theorem m_rS {l : Launch} {i : Int32} {σ : St} {K : Int32 → St → Prop} (hK : K (bI (rS i)) σ) : CallAt l 108 [.long i.toInt64, .long (-1), .long 3] σ K := by
  refine m_in ?_
  rw [rS_in]; exact hK
theorem MX.w {A : AS} {E : Es} {σ σ' : St} (h : MX A σ) (hf : FrW σ σ') (hW : Wf E) (hE : ME E σ') : MX (setE A E) σ' :=
  h.g (fun k hk => hf.1 k (by omega) (by omega) (by omega) (by omega)) (fun j hj => hf.2 j (by omega) (by omega) (by omega)) hW hE
theorem M_wed {l : Launch} {A : AS} {t h x y f n i : Int32} {σ : St} {K : Int32 → St → Prop} (hM : MX A σ) (hK : ∀ σ', MX (op_wed A t h x y f n i).2 σ' → FrM σ σ' → K (op_wed A t h x y f n i).1 σ') : CallAt l 184 [.ref 900, .int t, .int h, .int x, .int y, .int f, .int n, .int i] σ K := by
  have hw := hM.1.2.2.2
  have hS := hM.2.2.2.2.2
  have hW := hM.1.1
  have hE := hM.2.1
  have hn1 := hW.2.1
  unfold op_wed at hK
  have bad : (inB t (A.1 12 1) && inB h 12 && rI n 1 8 && rS i) = false → K (-1) σ := fun z => by
    have := hK σ hM FrM.rfl'
    rw [z] at this
    exact this
  refine CallAt.of (k := 184) (cd := k_X6_wed) ok_X6_wed (by decide) rfl rfl rfl ?_
  show V _ i_X6_wed k_X6_wed 0 [.ref 900, .int t, .int h, .int x, .int y, .int f, .int n, .int i, .null, .null] [] _ _
  refine V_run ok_X6_wed 26 0 ?_
  simp (disch := omega) only [eng, c_X6_wed, r_X6_wed, tbl, true_and, Nat.reduceAdd, Nat.reduceLT, ↓reduceIte, n_eq, n_lt, n_le, n_cl, n_inT, nI_add, bI_eq0, bI_eq1, not_true_eq_false, not_false_eq_true, true_implies, false_implies, implies_true, and_true, Bool.not_eq_false, Bool.not_eq_true, Nat.reduceEqDiff, Nat.reduceLeDiff, Classical.not_not, List.length_cons, List.length_nil, Int.reduceAdd, z_cast, Nat.reducePow, false_or, Nat.reduceLT, Nat.sub_zero, Nat.le_refl]
  try simp only [iteP, Classical.not_not, Bool.not_eq_false, Bool.not_eq_true]
  refine m_isThing hE.2.1 hn1 ?_
  cases h1 : inB t (A.1 12 1) with
  | false =>
    simp (disch := omega) only [n_eq, n_lt, n_le, n_cl, n_inT, nI_add, bI_eq0, bI_eq1, not_true_eq_false, not_false_eq_true, true_implies, false_implies, implies_true, and_true, Bool.not_eq_false, Bool.not_eq_true, Nat.reduceEqDiff, Nat.reduceLeDiff, Classical.not_not, List.length_cons, List.length_nil, Int.reduceAdd, z_cast, Nat.reducePow, false_or, Nat.reduceLT, Nat.sub_zero, Nat.le_refl, true_and, ↓reduceIte, iteP, Bool.false_eq_true]
    exact bad (by rw [h1]; rfl)
  | true =>
  simp (disch := omega) only [n_eq, n_lt, n_le, n_cl, n_inT, nI_add, bI_eq0, bI_eq1, not_true_eq_false, not_false_eq_true, true_implies, false_implies, implies_true, and_true, Bool.not_eq_false, Bool.not_eq_true, Nat.reduceEqDiff, Nat.reduceLeDiff, Classical.not_not, List.length_cons, List.length_nil, Int.reduceAdd, z_cast, Nat.reducePow, false_or, Nat.reduceLT, Nat.sub_zero, Nat.le_refl, true_and, ↓reduceIte, iteP, Bool.true_eq_false]
  refine m_rI (a := 0) (n := 11) rfl rfl ?_
  rw [← rI0 h 11]
  cases h2 : inB h 12 with
  | false =>
    simp (disch := omega) only [n_eq, n_lt, n_le, n_cl, n_inT, nI_add, bI_eq0, bI_eq1, not_true_eq_false, not_false_eq_true, true_implies, false_implies, implies_true, and_true, Bool.not_eq_false, Bool.not_eq_true, Nat.reduceEqDiff, Nat.reduceLeDiff, Classical.not_not, List.length_cons, List.length_nil, Int.reduceAdd, z_cast, Nat.reducePow, false_or, Nat.reduceLT, Nat.sub_zero, Nat.le_refl, true_and, ↓reduceIte, iteP, Bool.false_eq_true]
    exact bad (by rw [h2, Bool.and_false]; rfl)
  | true =>
  simp (disch := omega) only [n_eq, n_lt, n_le, n_cl, n_inT, nI_add, bI_eq0, bI_eq1, not_true_eq_false, not_false_eq_true, true_implies, false_implies, implies_true, and_true, Bool.not_eq_false, Bool.not_eq_true, Nat.reduceEqDiff, Nat.reduceLeDiff, Classical.not_not, List.length_cons, List.length_nil, Int.reduceAdd, z_cast, Nat.reducePow, false_or, Nat.reduceLT, Nat.sub_zero, Nat.le_refl, true_and, ↓reduceIte, iteP, Bool.true_eq_false]
  refine m_isSheet ?_
  cases h0 : (inB x 4 && inB y 3) with
  | false =>
    have hk : K (-1) σ := by
      have := hK σ hM FrM.rfl'
      dsimp only at this
      rw [lk_out h0] at this
      split at this
      · rw [if_neg (by decide)] at this; exact this
      · exact this
    simp (disch := omega) only [n_eq, n_lt, n_le, n_cl, n_inT, nI_add, bI_eq0, bI_eq1, not_true_eq_false, not_false_eq_true, true_implies, false_implies, implies_true, and_true, Bool.not_eq_false, Bool.not_eq_true, Nat.reduceEqDiff, Nat.reduceLeDiff, Classical.not_not, List.length_cons, List.length_nil, Int.reduceAdd, z_cast, Nat.reducePow, false_or, Nat.reduceLT, Nat.sub_zero, Nat.le_refl, true_and, ↓reduceIte, iteP, Bool.false_eq_true]
    exact hk
  | true =>
  rw [Bool.and_eq_true] at h0
  obtain ⟨s, hs, rfl⟩ := inB_of h0.1
  obtain ⟨y', hy, rfl⟩ := inB_of h0.2
  simp (disch := omega) only [n_eq, n_lt, n_le, n_cl, n_inT, nI_add, bI_eq0, bI_eq1, not_true_eq_false, not_false_eq_true, true_implies, false_implies, implies_true, and_true, Bool.not_eq_false, Bool.not_eq_true, Nat.reduceEqDiff, Nat.reduceLeDiff, Classical.not_not, List.length_cons, List.length_nil, Int.reduceAdd, z_cast, Nat.reducePow, false_or, Nat.reduceLT, Nat.sub_zero, Nat.le_refl, true_and, ↓reduceIte, iteP, Bool.true_eq_false]
  refine m_rI (a := 1) (n := 8) rfl rfl ?_
  rcases rng n 1 8 (by decide) (by decide) with ⟨g0, g⟩ | ⟨g0, g⟩ | ⟨g0, n', q1, q3, rfl⟩
  iterate 2
    · rw [g0]
      simp (disch := omega) only [n_eq, n_lt, n_le, n_cl, n_inT, nI_add, bI_eq0, bI_eq1, not_true_eq_false, not_false_eq_true, true_implies, false_implies, implies_true, and_true, Bool.not_eq_false, Bool.not_eq_true, Nat.reduceEqDiff, Nat.reduceLeDiff, Classical.not_not, List.length_cons, List.length_nil, Int.reduceAdd, z_cast, Nat.reducePow, false_or, Nat.reduceLT, Nat.sub_zero, Nat.le_refl, true_and, ↓reduceIte, iteP, Bool.false_eq_true]
      exact bad (by rw [g0, Bool.and_false]; rfl)
  rw [g0]
  simp (disch := omega) only [n_eq, n_lt, n_le, n_cl, n_inT, nI_add, bI_eq0, bI_eq1, not_true_eq_false, not_false_eq_true, true_implies, false_implies, implies_true, and_true, Bool.not_eq_false, Bool.not_eq_true, Nat.reduceEqDiff, Nat.reduceLeDiff, Classical.not_not, List.length_cons, List.length_nil, Int.reduceAdd, z_cast, Nat.reducePow, false_or, Nat.reduceLT, Nat.sub_zero, Nat.le_refl, true_and, ↓reduceIte, iteP, Bool.true_eq_false]
  refine m_rS ?_
  cases h4 : rS i with
  | false =>
    simp (disch := omega) only [n_eq, n_lt, n_le, n_cl, n_inT, nI_add, bI_eq0, bI_eq1, not_true_eq_false, not_false_eq_true, true_implies, false_implies, implies_true, and_true, Bool.not_eq_false, Bool.not_eq_true, Nat.reduceEqDiff, Nat.reduceLeDiff, Classical.not_not, List.length_cons, List.length_nil, Int.reduceAdd, z_cast, Nat.reducePow, false_or, Nat.reduceLT, Nat.sub_zero, Nat.le_refl, true_and, ↓reduceIte, iteP, Bool.false_eq_true]
    refine V_run ok_X6_wed 10 26 ?_
    simp (disch := omega) only [eng, c_X6_wed, r_X6_wed, tbl, true_and, Nat.reduceAdd, Nat.reduceLT, ↓reduceIte, n_eq, n_lt, n_le, n_cl, n_inT, nI_add, bI_eq0, bI_eq1, not_true_eq_false, not_false_eq_true, true_implies, false_implies, implies_true, and_true, Bool.not_eq_false, Bool.not_eq_true, Nat.reduceEqDiff, Nat.reduceLeDiff, Classical.not_not, List.length_cons, List.length_nil, Int.reduceAdd, z_cast, Nat.reducePow, false_or, Nat.reduceLT, Nat.sub_zero, Nat.le_refl]
    try simp only [iteP, Classical.not_not, Bool.not_eq_false, Bool.not_eq_true]
    exact bad (by rw [h4, Bool.and_false])
  | true =>
  obtain ⟨t', ht, rfl⟩ := inB_of h1
  obtain ⟨h', hh, rfl⟩ := inB_of h2
  rw [h1, h2, g0, h4, Bool.and_self, Bool.and_self, Bool.and_self, if_pos rfl] at hK
  have ht12 := t12 hW ht
  simp (disch := omega) only [n_cl] at hK
  simp (disch := omega) only [n_eq, n_lt, n_le, n_cl, n_inT, nI_add, bI_eq0, bI_eq1, not_true_eq_false, not_false_eq_true, true_implies, false_implies, implies_true, and_true, Bool.not_eq_false, Bool.not_eq_true, Nat.reduceEqDiff, Nat.reduceLeDiff, Classical.not_not, List.length_cons, List.length_nil, Int.reduceAdd, z_cast, Nat.reducePow, false_or, Nat.reduceLT, Nat.sub_zero, Nat.le_refl, true_and, ↓reduceIte, iteP, Bool.true_eq_false]
  refine V_run ok_X6_wed 60 28 ?_
  simp (disch := omega) only [eng, c_X6_wed, r_X6_wed, tbl, true_and, Nat.reduceAdd, Nat.reduceLT, ↓reduceIte, n_eq, n_lt, n_le, n_cl, n_inT, nI_add, bI_eq0, bI_eq1, not_true_eq_false, not_false_eq_true, true_implies, false_implies, implies_true, and_true, Bool.not_eq_false, Bool.not_eq_true, Nat.reduceEqDiff, Nat.reduceLeDiff, Classical.not_not, List.length_cons, List.length_nil, Int.reduceAdd, z_cast, Nat.reducePow, false_or, Nat.reduceLT, Nat.sub_zero, Nat.le_refl]
  try simp only [iteP, Classical.not_not, Bool.not_eq_false, Bool.not_eq_true]
  refine m_lacks (N := n') (z := A.2.2.2.2.1 s) hs hy (by omega) (hw s hs).2 (hw s hs).1 (hS.1 s hs).1 (hS.1 s hs).2 ?_
  rw [← lk_in (ln := A.2.2.2.1) (z := A.2.2.2.2.1) hs hy]
  by_cases hl : lkR A.2.2.2.1 A.2.2.2.2.1 (nI s) (nI y') f (nI n') = nI 0
  case neg =>
    rw [if_neg hl] at hK
    have hg := lk_ge (lk_neg hl)
    simp (disch := omega) only [n_eq, n_lt, n_le, n_cl, n_inT, nI_add, bI_eq0, bI_eq1, not_true_eq_false, not_false_eq_true, true_implies, false_implies, implies_true, and_true, Bool.not_eq_false, Bool.not_eq_true, Nat.reduceEqDiff, Nat.reduceLeDiff, Classical.not_not, List.length_cons, List.length_nil, Int.reduceAdd, z_cast, Nat.reducePow, false_or, Nat.reduceLT, Nat.sub_zero, Nat.le_refl, true_and, ↓reduceIte, iteP, hg]
    exact hK σ hM FrM.rfl'
  rw [if_pos hl] at hK
  obtain ⟨s2, hs2, e1, e2, hln, -, hsp⟩ := lk_of hw hl
  rw [n_cl (by omega)] at e2
  subst e2
  obtain ⟨a, rfl, ha2, ha⟩ := sp_of (hw s hs).2 (by omega) hsp
  have hz24 := (hw s hs).2
  rw [ha2] at hK
  rw [hl]
  simp (disch := omega) only [n_eq, n_lt, n_le, n_cl, n_inT, nI_add, bI_eq0, bI_eq1, not_true_eq_false, not_false_eq_true, true_implies, false_implies, implies_true, and_true, Bool.not_eq_false, Bool.not_eq_true, Nat.reduceEqDiff, Nat.reduceLeDiff, Classical.not_not, List.length_cons, List.length_nil, Int.reduceAdd, z_cast, Nat.reducePow, false_or, Nat.reduceLT, Nat.sub_zero, Nat.le_refl, true_and, ↓reduceIte, iteP, Nat.le_refl, pk_mul]
  refine m_findWed (d := fun i => A.2.2.2.2.2 (24 * s + (a + i))) hW hE q3 (by omega) ht hh (fun i hi => ?_) (fun σ1 hE1 hf1 hL => ?_)
  · rw [Nat.add_assoc]; exact hS.2 _ (by omega)
  have hk := hK σ1 (hM.w hf1 hW hE1) hf1.m
  have ew : (if fstE (fun i => A.2.2.2.2.2 (24 * s + (a + i))) n' 0 A.1 < n' then (-2 : Int32) else wdR (wedE A.1 t' h' (fun j => (A.2.2.2.2.2 (24 * s + (a + j))).toNatClampNeg) n') i) = wdR (wedM A.1 t' h' (fun i => A.2.2.2.2.2 (24 * s + (a + i))) n') i := by
    rw [wedM_eq]
    split
    · rfl
    · rfl
  rw [ew] at hk
  generalize wedM A.1 t' h' (fun i => A.2.2.2.2.2 (24 * s + (a + i))) n' = W at hk hL ⊢
  cases W with
  | none =>
    have z : ¬ nI 0 ≤ resM none := by decide
    simp (disch := omega) only [n_eq, n_lt, n_le, n_cl, n_inT, nI_add, bI_eq0, bI_eq1, not_true_eq_false, not_false_eq_true, true_implies, false_implies, implies_true, and_true, Bool.not_eq_false, Bool.not_eq_true, Nat.reduceEqDiff, Nat.reduceLeDiff, Classical.not_not, List.length_cons, List.length_nil, Int.reduceAdd, z_cast, Nat.reducePow, false_or, Nat.reduceLT, Nat.sub_zero, Nat.le_refl, true_and, ↓reduceIte, iteP, z]
    exact hk
  | some L =>
    obtain ⟨l1, l2, l3⟩ := hL L rfl
    have er : resM (some L) = nI L.length := rfl
    rw [er]
    rcases rS_c i with ⟨w0, _⟩ | ⟨w0, _⟩ | ⟨_, rfl⟩ | ⟨_, j, hj, rfl⟩
    · rw [h4] at w0; cases w0
    · rw [h4] at w0; cases w0
    · have z : ¬ nI 0 ≤ (-1 : Int32) := by decide
      have hk : K (nI L.length) σ1 := hk
      simp (disch := omega) only [n_eq, n_lt, n_le, n_cl, n_inT, nI_add, bI_eq0, bI_eq1, not_true_eq_false, not_false_eq_true, true_implies, false_implies, implies_true, and_true, Bool.not_eq_false, Bool.not_eq_true, Nat.reduceEqDiff, Nat.reduceLeDiff, Classical.not_not, List.length_cons, List.length_nil, Int.reduceAdd, z_cast, Nat.reducePow, false_or, Nat.reduceLT, Nat.sub_zero, Nat.le_refl, true_and, ↓reduceIte, iteP, z, Nat.zero_le]
      exact hk
    · have ne : ¬ nI j = (-1 : Int32) := by
        rw [i_eq, nI_nn _ (by omega)]
        show ¬ ((j : Int) = -1)
        omega
      unfold wdR at hk
      dsimp only at hk
      rw [if_neg ne, n_cl (by omega)] at hk
      by_cases z : j < 2 * L.length
      · rw [if_pos z] at hk
        have f9 := l1 (j / 2) (by omega)
        have lt := l3 (j / 2) (by omega)
        have d1 := pk_div (a := j) (d := 2) (by omega) (by decide) (by decide)
        have d2 := pk_rem (a := j) (d := 2) (by omega) (by decide) (by decide)
        rw [d1] at d2
        generalize L.getD (j / 2) 0 = q at *
        obtain ⟨c1, c2⟩ := car_q (w := q / 12) (i := q % 12) (k := q) (by omega) (by omega) (by omega)
        rw [pk_mul] at d2 c2
        by_cases y : j % 2 = 0
        · rw [if_pos y] at hk
          simp (disch := omega) only [n_eq, n_lt, n_le, n_cl, n_inT, nI_add, bI_eq0, bI_eq1, not_true_eq_false, not_false_eq_true, true_implies, false_implies, implies_true, and_true, Bool.not_eq_false, Bool.not_eq_true, Nat.reduceEqDiff, Nat.reduceLeDiff, Classical.not_not, List.length_cons, List.length_nil, Int.reduceAdd, z_cast, Nat.reducePow, false_or, Nat.reduceLT, Nat.sub_zero, Nat.le_refl, true_and, ↓reduceIte, iteP, Nat.zero_le, pk_mul, z, d1, d2, y, f9, c1, c2, n_ne0]
          exact hk
        · rw [if_neg y] at hk
          simp (disch := omega) only [n_eq, n_lt, n_le, n_cl, n_inT, nI_add, bI_eq0, bI_eq1, not_true_eq_false, not_false_eq_true, true_implies, false_implies, implies_true, and_true, Bool.not_eq_false, Bool.not_eq_true, Nat.reduceEqDiff, Nat.reduceLeDiff, Classical.not_not, List.length_cons, List.length_nil, Int.reduceAdd, z_cast, Nat.reducePow, false_or, Nat.reduceLT, Nat.sub_zero, Nat.le_refl, true_and, ↓reduceIte, iteP, Nat.zero_le, pk_mul, z, d1, d2, y, f9, c1, c2, n_ne0]
          exact hk
      · rw [if_neg z] at hk
        simp (disch := omega) only [n_eq, n_lt, n_le, n_cl, n_inT, nI_add, bI_eq0, bI_eq1, not_true_eq_false, not_false_eq_true, true_implies, false_implies, implies_true, and_true, Bool.not_eq_false, Bool.not_eq_true, Nat.reduceEqDiff, Nat.reduceLeDiff, Classical.not_not, List.length_cons, List.length_nil, Int.reduceAdd, z_cast, Nat.reducePow, false_or, Nat.reduceLT, Nat.sub_zero, Nat.le_refl, true_and, ↓reduceIte, iteP, Nat.zero_le, pk_mul, z]
        exact hk
