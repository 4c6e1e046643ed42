theorem fst_all (d : Nat → Int32) (E : Es) : ∀ (n i : Nat), i + n ≤ fstE d n i (dieN E (fun j => (d j).toNatClampNeg) i) → ∀ j, i ≤ j → j < i + n → livX (dieN E (fun j => (d j).toNatClampNeg) j) (d j) = true
  | 0, i, _, j, h1, h2 => absurd h2 (by omega)
  | n + 1, i, h, j, h1, h2 => by
    unfold fstE at h
    split at h
    · rename_i c
      by_cases z : j = i
      · subst z; exact c
      · exact fst_all d E n (i + 1) (by show i + 1 + n ≤ fstE d n (i + 1) (die (dieN E (fun j => (d j).toNatClampNeg) i) (d i).toNatClampNeg); omega) j (by omega) (by omega)
    · omega
def wdR (o : Option (List Nat)) (i : Int32) : Int32 := match o with
  | none => -2
  | some L => if i = -1 then nI L.length else if i.toNatClampNeg < 2 * L.length then (if i.toNatClampNeg % 2 = 0 then nI (L.getD (i.toNatClampNeg / 2) 0 / 12) else nI (L.getD (i.toNatClampNeg / 2) 0 % 12)) else -4
def rS (i : Int32) : Bool := decide (i = -1) || inB i 4
def op_wed (A : AS) (t h x y f n i : Int32) : Int32 × AS :=
  (if (inB t (A.1 12 1) && inB h 12 && rI n 1 8 && rS i) = true then (if lkR A.2.2.2.1 A.2.2.2.2.1 x y f n = nI 0 then (if fstE (fun i => A.2.2.2.2.2 (24 * x.toNatClampNeg + (f.toNatClampNeg + i))) n.toNatClampNeg 0 A.1 < n.toNatClampNeg then -2 else wdR (wedE A.1 t.toNatClampNeg h.toNatClampNeg (fun j => (A.2.2.2.2.2 (24 * x.toNatClampNeg + (f.toNatClampNeg + j))).toNatClampNeg) n.toNatClampNeg) i) else lkR A.2.2.2.1 A.2.2.2.2.1 x y f n) else -1, A)
theorem rS_c (i : Int32) : (rS i = false ∧ (i < -1) = True) ∨ (rS i = false ∧ (i < -1) = False ∧ (nI 4 ≤ i) = True ∧ (i < nI 4) = False) ∨ (rS i = true ∧ i = -1) ∨ (rS i = true ∧ ∃ j, j < 4 ∧ i = nI j) := by
  have e1 : (i < -1) = (i.toInt < -1) := by rw [i_lt]; rfl
  have e2 : (nI 4 ≤ i) = (4 ≤ i.toInt) := by rw [i_le, nI_nn 4 (by decide)]; rfl
  have e3 : (i < nI 4) = (i.toInt < 4) := by rw [i_lt, nI_nn 4 (by decide)]; rfl
  have e4 : (i = -1) = (i.toInt = -1) := by rw [i_eq]; rfl
  rw [e1, e2, e3]
  unfold rS
  by_cases q1 : i.toInt < -1
  · refine Or.inl ⟨?_, eq_true q1⟩
    rw [decide_eq_false (by rw [e4]; omega)]
    simp [inB]; omega
  · by_cases q2 : 4 ≤ i.toInt
    · refine Or.inr (Or.inl ⟨?_, eq_false q1, eq_true q2, eq_false (by omega)⟩)
      rw [decide_eq_false (by rw [e4]; omega)]
      simp [inB]; omega
    · refine Or.inr (Or.inr ?_)
      by_cases q3 : i = -1
      · left; subst q3; exact ⟨rfl, rfl⟩
      · right
        have q4 : ¬ i.toInt = -1 := by rwa [e4] at q3
        have : inB i 4 = true := by simp [inB]; omega
        exact ⟨by rw [this, Bool.or_true], inB_of this⟩
theorem wedE_len {E : Es} {t h N : Nat} {f : Nat → Nat} {L : List Nat} (hL : wedE E t h f N = some L) : L.length ≤ 2 := by
  unfold wedE at hL
  split at hL
  · cases hL; simp
  · split at hL
    · cases hL; simp
    · split at hL
      · cases hL; simp
      · cases hL
theorem X_wed {l : Launch} {A : AS} {t h x y f n i : Int32} {σ : St} {K : Int32 → St → Prop} (hC : CX A σ) (hK : ∀ σ', CX (op_wed A t h x y f n i).2 σ' → FrX σ σ' → K (op_wed A t h x y f n i).1 σ') : CallAt l 97 [.ref 0, .int t, .int h, .int x, .int y, .int f, .int n, .int i] σ K := by
  have hw := hC.1.2.2.2
  have hS := hC.2.2.2.2.2
  have hW := hC.1.1
  have hE := hC.2.1
  have hn12 := hW.2.1
  unfold op_wed at hK
  have hbad : (inB t (A.1 12 1) && inB h 12 && rI n 1 8 && rS i) = false → K (-1) σ := fun z => by rw [z] at hK; exact hK σ hC FrX.rfl'
  rw [rI0 h 11] at hbad hK
  rcases rng h 0 11 (by decide) (by decide) with ⟨g0, g⟩ | ⟨g0, g⟩ | ⟨g0, h', -, hh, rfl⟩
  · refine CallAt.of (k := 97) (cd := k_X5_wed) ok_X5_wed (by decide) rfl rfl rfl ?_
    show V _ i_X5_wed k_X5_wed 0 [.ref 0, .int t, .int h, .int x, .int y, .int f, .int n, .int i, .null, .null] [] _ _
    refine V_run ok_X5_wed 20 0 ?_
    simp (disch := omega) only [eng, c_X5_wed, r_X5_wed, tbl, true_and, Nat.reduceAdd, Nat.reduceLT, ↓reduceIte, n_eq, n_lt, n_le, n_cl, n_inT, nI_add, bI_eq0, bI_eq1, not_true_eq_false, not_false_eq_true, true_implies, false_implies, implies_true, and_true, Bool.not_eq_false, Bool.not_eq_true, Nat.reduceEqDiff, Nat.reduceLeDiff, Classical.not_not, List.length_cons, List.length_nil, Int.reduceAdd, z_cast, Nat.reducePow, false_or, Nat.reduceLT, Nat.sub_zero, Nat.le_refl, g]
    try simp only [iteP, Classical.not_not, Bool.not_eq_false, Bool.not_eq_true]
    refine x_isThing e100 hE.2.2.1 hn12 ?_
    cases h1 : inB t (A.1 12 1)
    all_goals
      simp (disch := omega) only [n_eq, n_lt, n_le, n_cl, n_inT, nI_add, bI_eq0, bI_eq1, not_true_eq_false, not_false_eq_true, true_implies, false_implies, implies_true, and_true, Bool.not_eq_false, Bool.not_eq_true, Nat.reduceEqDiff, Nat.reduceLeDiff, Classical.not_not, List.length_cons, List.length_nil, Int.reduceAdd, z_cast, Nat.reducePow, false_or, Nat.reduceLT, Nat.sub_zero, Nat.le_refl, true_and, ↓reduceIte, iteP, Bool.true_eq_false, Bool.false_eq_true, g]
      exact hbad (by rw [g0, Bool.and_false, Bool.false_and, Bool.false_and])
  · have g5 : (h < nI 12) = False := eq_false (by have q : nI 12 ≤ h := of_eq_true g.2.2.2; rw [i_le] at q; rw [i_lt]; omega)
    refine CallAt.of (k := 97) (cd := k_X5_wed) ok_X5_wed (by decide) rfl rfl rfl ?_
    show V _ i_X5_wed k_X5_wed 0 [.ref 0, .int t, .int h, .int x, .int y, .int f, .int n, .int i, .null, .null] [] _ _
    refine V_run ok_X5_wed 20 0 ?_
    simp (disch := omega) only [eng, c_X5_wed, r_X5_wed, tbl, true_and, Nat.reduceAdd, Nat.reduceLT, ↓reduceIte, n_eq, n_lt, n_le, n_cl, n_inT, nI_add, bI_eq0, bI_eq1, not_true_eq_false, not_false_eq_true, true_implies, false_implies, implies_true, and_true, Bool.not_eq_false, Bool.not_eq_true, Nat.reduceEqDiff, Nat.reduceLeDiff, Classical.not_not, List.length_cons, List.length_nil, Int.reduceAdd, z_cast, Nat.reducePow, false_or, Nat.reduceLT, Nat.sub_zero, Nat.le_refl, g, g5]
    try simp only [iteP, Classical.not_not, Bool.not_eq_false, Bool.not_eq_true]
    refine x_isThing e100 hE.2.2.1 hn12 ?_
    cases h1 : inB t (A.1 12 1)
    all_goals
      simp (disch := omega) only [n_eq, n_lt, n_le, n_cl, n_inT, nI_add, bI_eq0, bI_eq1, not_true_eq_false, not_false_eq_true, true_implies, false_implies, implies_true, and_true, Bool.not_eq_false, Bool.not_eq_true, Nat.reduceEqDiff, Nat.reduceLeDiff, Classical.not_not, List.length_cons, List.length_nil, Int.reduceAdd, z_cast, Nat.reducePow, false_or, Nat.reduceLT, Nat.sub_zero, Nat.le_refl, true_and, ↓reduceIte, iteP, Bool.true_eq_false, Bool.false_eq_true, g, g5]
      exact hbad (by rw [g0, Bool.and_false, Bool.false_and, Bool.false_and])
  have z12 : h' < 12 := by omega
  rcases rng n 1 8 (by decide) (by decide) with ⟨k0, k⟩ | ⟨k0, k⟩ | ⟨k0, n', hn1, hn8, rfl⟩
  iterate 2
    · refine CallAt.of (k := 97) (cd := k_X5_wed) ok_X5_wed (by decide) rfl rfl rfl ?_
      show V _ i_X5_wed k_X5_wed 0 [.ref 0, .int t, .int (nI h'), .int x, .int y, .int f, .int n, .int i, .null, .null] [] _ _
      refine V_run ok_X5_wed 30 0 ?_
      simp (disch := omega) only [eng, c_X5_wed, r_X5_wed, tbl, true_and, Nat.reduceAdd, Nat.reduceLT, ↓reduceIte, n_eq, n_lt, n_le, n_cl, n_inT, nI_add, bI_eq0, bI_eq1, not_true_eq_false, not_false_eq_true, true_implies, false_implies, implies_true, and_true, Bool.not_eq_false, Bool.not_eq_true, Nat.reduceEqDiff, Nat.reduceLeDiff, Classical.not_not, List.length_cons, List.length_nil, Int.reduceAdd, z_cast, Nat.reducePow, false_or, Nat.reduceLT, Nat.sub_zero, Nat.le_refl, z12, Nat.not_lt_zero, k]
      try simp only [iteP, Classical.not_not, Bool.not_eq_false, Bool.not_eq_true]
      refine x_isThing e100 hE.2.2.1 hn12 ?_
      cases h1 : inB t (A.1 12 1)
      all_goals
        simp (disch := omega) only [n_eq, n_lt, n_le, n_cl, n_inT, nI_add, bI_eq0, bI_eq1, not_true_eq_false, not_false_eq_true, true_implies, false_implies, implies_true, and_true, Bool.not_eq_false, Bool.not_eq_true, Nat.reduceEqDiff, Nat.reduceLeDiff, Classical.not_not, List.length_cons, List.length_nil, Int.reduceAdd, z_cast, Nat.reducePow, false_or, Nat.reduceLT, Nat.sub_zero, Nat.le_refl, true_and, ↓reduceIte, iteP, Bool.true_eq_false, Bool.false_eq_true, k, z12, Nat.not_lt_zero]
        exact hbad (by rw [k0, Bool.and_false, Bool.false_and])
  have zn : ¬ n' < 1 := by omega
  have zn2 : ¬ 8 < n' := by omega
  rcases rS_c i with ⟨m0, m⟩ | ⟨m0, m⟩ | m
  iterate 2
    · refine CallAt.of (k := 97) (cd := k_X5_wed) ok_X5_wed (by decide) rfl rfl rfl ?_
      show V _ i_X5_wed k_X5_wed 0 [.ref 0, .int t, .int (nI h'), .int x, .int y, .int f, .int (nI n'), .int i, .null, .null] [] _ _
      refine V_run ok_X5_wed 40 0 ?_
      simp (disch := omega) only [eng, c_X5_wed, r_X5_wed, tbl, true_and, Nat.reduceAdd, Nat.reduceLT, ↓reduceIte, n_eq, n_lt, n_le, n_cl, n_inT, nI_add, bI_eq0, bI_eq1, not_true_eq_false, not_false_eq_true, true_implies, false_implies, implies_true, and_true, Bool.not_eq_false, Bool.not_eq_true, Nat.reduceEqDiff, Nat.reduceLeDiff, Classical.not_not, List.length_cons, List.length_nil, Int.reduceAdd, z_cast, Nat.reducePow, false_or, Nat.reduceLT, Nat.sub_zero, Nat.le_refl, z12, Nat.not_lt_zero, zn, zn2, hn8, m]
      try simp only [iteP, Classical.not_not, Bool.not_eq_false, Bool.not_eq_true]
      refine x_isThing e100 hE.2.2.1 hn12 ?_
      cases h1 : inB t (A.1 12 1)
      all_goals
        simp (disch := omega) only [n_eq, n_lt, n_le, n_cl, n_inT, nI_add, bI_eq0, bI_eq1, not_true_eq_false, not_false_eq_true, true_implies, false_implies, implies_true, and_true, Bool.not_eq_false, Bool.not_eq_true, Nat.reduceEqDiff, Nat.reduceLeDiff, Classical.not_not, List.length_cons, List.length_nil, Int.reduceAdd, z_cast, Nat.reducePow, false_or, Nat.reduceLT, Nat.sub_zero, Nat.le_refl, true_and, ↓reduceIte, iteP, Bool.true_eq_false, Bool.false_eq_true, m, z12, Nat.not_lt_zero, zn, zn2, hn8]
        exact hbad (by rw [m0, Bool.and_false])
  have hi0 : rS i = true := by rcases m with q | q; exact q.1; exact q.1
  have ha1 : (i < -1) = False := by
    rcases m with ⟨-, rfl⟩ | ⟨-, j, hj, rfl⟩
    · exact eq_false (by decide)
    · rw [i_lt, nI_nn j (by omega)]; exact eq_false (by show ¬ (j : Int) < -1; omega)
  have ha2 : (nI 4 ≤ i) = False ∧ (i < nI 4) = True := by
    rcases m with ⟨-, rfl⟩ | ⟨-, j, hj, rfl⟩
    · exact ⟨eq_false (by decide), eq_true (by decide)⟩
    · rw [n_le (by omega) (by omega), n_lt (by omega) (by omega)]; exact ⟨eq_false (by omega), eq_true hj⟩
  refine CallAt.of (k := 97) (cd := k_X5_wed) ok_X5_wed (by decide) rfl rfl rfl ?_
  show V _ i_X5_wed k_X5_wed 0 [.ref 0, .int t, .int (nI h'), .int x, .int y, .int f, .int (nI n'), .int i, .null, .null] [] _ _
  refine V_run ok_X5_wed 110 0 ?_
  simp (disch := omega) only [eng, c_X5_wed, r_X5_wed, tbl, true_and, Nat.reduceAdd, Nat.reduceLT, ↓reduceIte, n_eq, n_lt, n_le, n_cl, n_inT, nI_add, bI_eq0, bI_eq1, not_true_eq_false, not_false_eq_true, true_implies, false_implies, implies_true, and_true, Bool.not_eq_false, Bool.not_eq_true, Nat.reduceEqDiff, Nat.reduceLeDiff, Classical.not_not, List.length_cons, List.length_nil, Int.reduceAdd, z_cast, Nat.reducePow, false_or, Nat.reduceLT, Nat.sub_zero, Nat.le_refl, z12, Nat.not_lt_zero, zn, zn2, hn8, ha1, ha2]
  try simp only [iteP, Classical.not_not, Bool.not_eq_false, Bool.not_eq_true]
  refine x_isThing e100 hE.2.2.1 hn12 ?_
  cases h1 : inB t (A.1 12 1) with
  | false =>
    simp (disch := omega) only [n_eq, n_lt, n_le, n_cl, n_inT, nI_add, bI_eq0, bI_eq1, not_true_eq_false, not_false_eq_true, true_implies, false_implies, implies_true, and_true, Bool.not_eq_false, Bool.not_eq_true, Nat.reduceEqDiff, Nat.reduceLeDiff, Classical.not_not, List.length_cons, List.length_nil, Int.reduceAdd, z_cast, Nat.reducePow, false_or, Nat.reduceLT, Nat.sub_zero, Nat.le_refl, true_and, ↓reduceIte, iteP, Bool.false_eq_true]
    exact hbad (by rw [h1]; rfl)
  | true =>
    obtain ⟨t', ht, rfl⟩ := inB_of h1
    rw [h1, g0, k0, hi0] at hK
    simp only [Bool.and_self, if_true] at hK
    rw [n_cl (show n' < 2147483648 by omega), n_cl (show t' < 2147483648 by omega), n_cl (show h' < 2147483648 by omega)] at hK
    simp (disch := omega) only [n_eq, n_lt, n_le, n_cl, n_inT, nI_add, bI_eq0, bI_eq1, not_true_eq_false, not_false_eq_true, true_implies, false_implies, implies_true, and_true, Bool.not_eq_false, Bool.not_eq_true, Nat.reduceEqDiff, Nat.reduceLeDiff, Classical.not_not, List.length_cons, List.length_nil, Int.reduceAdd, z_cast, Nat.reducePow, false_or, Nat.reduceLT, Nat.sub_zero, Nat.le_refl, true_and, ↓reduceIte, iteP, Bool.true_eq_false, z12, Nat.not_lt_zero, zn, zn2, hn8, ha1, ha2]
    refine x_look hw hS ?_
    by_cases h : lkR A.2.2.2.1 A.2.2.2.2.1 x y f (nI n') = nI 0
    case neg =>
      rw [if_neg h] at hK
      simp (disch := omega) only [n_eq, n_lt, n_le, n_cl, n_inT, nI_add, bI_eq0, bI_eq1, not_true_eq_false, not_false_eq_true, true_implies, false_implies, implies_true, and_true, Bool.not_eq_false, Bool.not_eq_true, Nat.reduceEqDiff, Nat.reduceLeDiff, Classical.not_not, List.length_cons, List.length_nil, Int.reduceAdd, z_cast, Nat.reducePow, false_or, Nat.reduceLT, Nat.sub_zero, Nat.le_refl, true_and, ↓reduceIte, iteP, h]
      exact hK σ hC FrX.rfl'
    rw [if_pos h] at hK
    obtain ⟨s, hs, rfl, hs2, hln, hy, hsp⟩ := lk_of hw h
    have hz := (hw s hs).2
    obtain ⟨a, rfl, hga2, ha⟩ := sp_of hz (by omega) hsp
    rw [hs2, hga2] at hK
    simp (disch := omega) only [n_eq, n_lt, n_le, n_cl, n_inT, nI_add, bI_eq0, bI_eq1, not_true_eq_false, not_false_eq_true, true_implies, false_implies, implies_true, and_true, Bool.not_eq_false, Bool.not_eq_true, Nat.reduceEqDiff, Nat.reduceLeDiff, Classical.not_not, List.length_cons, List.length_nil, Int.reduceAdd, z_cast, Nat.reducePow, false_or, Nat.reduceLT, Nat.sub_zero, Nat.le_refl, true_and, ↓reduceIte, iteP, h]
    refine x_tell hs (by omega) hn8 (fun σ1 q1 q2 q3 => ?_)
    have hC1 : CX A σ1 := hC.su (fun k hk => q3 k (by omega) (by omega))
    have e1 := hC1.2.1.2.1
    have hX : FrX σ σ1 := fun k hk => q3 k (by omega) (by omega)
    have hf := fst_le (fun i => A.2.2.2.2.2 (24 * s + (a + i))) n' 0 A.1
    have hall := fst_all (fun i => A.2.2.2.2.2 (24 * s + (a + i))) A.1 n' 0
    have q2' : ∀ i, i < n' → σ1 702 i = A.2.2.2.2.2 (24 * s + (a + i)) := fun i hi => by rw [q2 i hi]; exact hS.2 _ (by omega)
    simp (disch := omega) only [n_eq, n_lt, n_le, n_cl, n_inT, nI_add, bI_eq0, bI_eq1, not_true_eq_false, not_false_eq_true, true_implies, false_implies, implies_true, and_true, Bool.not_eq_false, Bool.not_eq_true, Nat.reduceEqDiff, Nat.reduceLeDiff, Classical.not_not, List.length_cons, List.length_nil, Int.reduceAdd, z_cast, Nat.reducePow, false_or, Nat.reduceLT, Nat.sub_zero, Nat.le_refl, true_and, ↓reduceIte, iteP, e1]
    refine x_first (d := fun i => A.2.2.2.2.2 (24 * s + (a + i))) hW hn8 q1 q2' ?_
    have hall : n' ≤ fstE (fun i => A.2.2.2.2.2 (24 * s + (a + i))) n' 0 A.1 → ∀ j, j < n' → livX (dieN A.1 (fun j => (A.2.2.2.2.2 (24 * s + (a + j))).toNatClampNeg) j) (A.2.2.2.2.2 (24 * s + (a + j))) = true := fun z j hj => hall (by rw [Nat.zero_add]; exact z) j (by omega) (by omega)
    generalize fstE (fun i => A.2.2.2.2.2 (24 * s + (a + i))) n' 0 A.1 = k at hf hK hall ⊢
    by_cases hz : k < n'
    · have hz2 : ¬ n' ≤ k := by omega
      rw [if_pos hz] at hK
      simp (disch := omega) only [n_eq, n_lt, n_le, n_cl, n_inT, nI_add, bI_eq0, bI_eq1, not_true_eq_false, not_false_eq_true, true_implies, false_implies, implies_true, and_true, Bool.not_eq_false, Bool.not_eq_true, Nat.reduceEqDiff, Nat.reduceLeDiff, Classical.not_not, List.length_cons, List.length_nil, Int.reduceAdd, z_cast, Nat.reducePow, false_or, Nat.reduceLT, Nat.sub_zero, Nat.le_refl, true_and, ↓reduceIte, iteP, hz, hz2]
      exact hK σ1 hC1 hX
    have hz2 : n' ≤ k := by omega
    rw [if_neg hz] at hK
    have hall := hall hz2
    simp (disch := omega) only [n_eq, n_lt, n_le, n_cl, n_inT, nI_add, bI_eq0, bI_eq1, not_true_eq_false, not_false_eq_true, true_implies, false_implies, implies_true, and_true, Bool.not_eq_false, Bool.not_eq_true, Nat.reduceEqDiff, Nat.reduceLeDiff, Classical.not_not, List.length_cons, List.length_nil, Int.reduceAdd, z_cast, Nat.reducePow, false_or, Nat.reduceLT, Nat.sub_zero, Nat.le_refl, true_and, ↓reduceIte, iteP, hz, hz2]
    have hSu : SuC A.1 n' t' h' (fun j => (A.2.2.2.2.2 (24 * s + (a + j))).toNatClampNeg) σ1 := by
      refine ⟨hW, hC1.2.1, hn8, ht, by omega, q1, fun i hi => ?_, fun i hi => ?_⟩
      · rw [q2' i hi]
        obtain ⟨j, hj, e, e2, e3⟩ := livX_of (by rw [dieN_12]; exact hW.1) (hall i hi)
        dsimp only
        rw [e2, e]
      · obtain ⟨j, hj, e, e2, e3⟩ := livX_of (by rw [dieN_12]; exact hW.1) (hall i hi)
        rw [dieN_12] at hj
        dsimp only
        rw [e2]
        exact ⟨hj, e3⟩
    refine x_fewest hSu (fun σ2 k1 k2 => ?_)
    have hC2 : CX A σ2 := hC1.su (fun k hk => k1 k (by omega) (by omega))
    have hX2 : FrX σ σ2 := hX.trans (fun k hk => k1 k (by omega) (by omega))
    have hk := hK σ2 hC2 hX2
    have hlen := fun L => wedE_len (E := A.1) (t := t') (h := h') (N := n') (f := fun j => (A.2.2.2.2.2 (24 * s + (a + j))).toNatClampNeg) (L := L)
    generalize wedE A.1 t' h' (fun j => (A.2.2.2.2.2 (24 * s + (a + j))).toNatClampNeg) n' = o at hk k2 hlen ⊢
    have m2 : ((-2 : Int32) < nI 0) = True ∧ (nI 0 ≤ (-2 : Int32)) = False := ⟨eq_true (by decide), eq_false (by decide)⟩
    have m1 : ((-1 : Int32) < nI 0) = True ∧ (nI 0 ≤ (-1 : Int32)) = False := ⟨eq_true (by decide), eq_false (by decide)⟩
    cases o with
    | none =>
      have e : resW none = -2 := rfl
      rw [e]
      simp (disch := omega) only [n_eq, n_lt, n_le, n_cl, n_inT, nI_add, bI_eq0, bI_eq1, not_true_eq_false, not_false_eq_true, true_implies, false_implies, implies_true, and_true, Bool.not_eq_false, Bool.not_eq_true, Nat.reduceEqDiff, Nat.reduceLeDiff, Classical.not_not, List.length_cons, List.length_nil, Int.reduceAdd, z_cast, Nat.reducePow, false_or, Nat.reduceLT, Nat.sub_zero, Nat.le_refl, true_and, ↓reduceIte, iteP, m2]
      exact hk
    | some L =>
      have e : resW (some L) = nI L.length := rfl
      have hL := hlen L rfl
      have hwd := k2 L rfl
      rw [e]
      unfold wdR at hk
      dsimp only at hk
      rcases m with ⟨-, rfl⟩ | ⟨-, j, hj, rfl⟩
      · rw [if_pos rfl] at hk
        simp (disch := omega) only [n_eq, n_lt, n_le, n_cl, n_inT, nI_add, bI_eq0, bI_eq1, not_true_eq_false, not_false_eq_true, true_implies, false_implies, implies_true, and_true, Bool.not_eq_false, Bool.not_eq_true, Nat.reduceEqDiff, Nat.reduceLeDiff, Classical.not_not, List.length_cons, List.length_nil, Int.reduceAdd, z_cast, Nat.reducePow, false_or, Nat.reduceLT, Nat.sub_zero, Nat.le_refl, true_and, ↓reduceIte, iteP, m1, Nat.not_lt_zero]
        exact hk
      · rw [if_neg (by rw [i_eq, nI_nn j (by omega)]; show ¬ (j : Int) = -1; omega), n_cl (by omega)] at hk
        by_cases hj2 : j < 2 * L.length
        · rw [if_pos hj2] at hk
          have hj3 : ¬ 2 * L.length ≤ j := by omega
          simp (disch := omega) only [n_eq, n_lt, n_le, n_cl, n_inT, nI_add, bI_eq0, bI_eq1, not_true_eq_false, not_false_eq_true, true_implies, false_implies, implies_true, and_true, Bool.not_eq_false, Bool.not_eq_true, Nat.reduceEqDiff, Nat.reduceLeDiff, Classical.not_not, List.length_cons, List.length_nil, Int.reduceAdd, z_cast, Nat.reducePow, false_or, Nat.reduceLT, Nat.sub_zero, Nat.le_refl, true_and, ↓reduceIte, iteP, Nat.not_lt_zero, Nat.zero_le, pk_mul, hj2, hj3]
          have w := hwd (j / 2) (by omega)
          by_cases hm : j % 2 = 0
          · rw [if_pos hm] at hk
            rw [show 2 * (j / 2) = j by omega] at w
            rw [w.1]; exact hk
          · rw [if_neg hm] at hk
            rw [show 2 * (j / 2) + 1 = j by omega] at w
            rw [w.2]; exact hk
        · rw [if_neg hj2] at hk
          have hj3 : 2 * L.length ≤ j := by omega
          simp (disch := omega) only [n_eq, n_lt, n_le, n_cl, n_inT, nI_add, bI_eq0, bI_eq1, not_true_eq_false, not_false_eq_true, true_implies, false_implies, implies_true, and_true, Bool.not_eq_false, Bool.not_eq_true, Nat.reduceEqDiff, Nat.reduceLeDiff, Classical.not_not, List.length_cons, List.length_nil, Int.reduceAdd, z_cast, Nat.reducePow, false_or, Nat.reduceLT, Nat.sub_zero, Nat.le_refl, true_and, ↓reduceIte, iteP, Nat.not_lt_zero, Nat.zero_le, pk_mul, hj2, hj3]
          exact hk
