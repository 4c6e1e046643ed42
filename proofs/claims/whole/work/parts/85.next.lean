/-! the next row of deaths -/
def sK (f : Nat → Nat) : Nat → Option Nat
  | 0 => none
  | k + 1 => if f (k + 1) < f k then sK f k else some k
def sJ (f : Nat → Nat) (x : Nat) : Nat → Nat
  | 0 => 0
  | j + 1 => if f (j + 1) < x then sJ f x j else j + 1
def swp (f : Nat → Nat) (a b : Nat) : Nat → Nat := fun i => if i = b then f a else if i = a then f b else f i
def rvF : Nat → Nat → Nat → (Nat → Nat) → Nat → Nat
  | 0, _, _, f => f
  | n + 1, a, b, f => if a < b then rvF n (a + 1) (b - 1) (swp f a b) else f
def nxK (f : Nat → Nat) (n k : Nat) : Nat → Nat := rvF 5 (k + 1) (n - 1) (swp f k (sJ f (f k) (n - 1)))
theorem sK_lt {f : Nat → Nat} : ∀ {K k : Nat}, sK f K = some k → k < K ∧ ¬ f (k + 1) < f k
  | 0, k, h => by cases h
  | K + 1, k, h => by
    unfold sK at h
    split at h
    · have := sK_lt h
      exact ⟨by omega, this.2⟩
    · rename_i z
      have h := Option.some.inj h
      subst h
      exact ⟨by omega, z⟩
theorem lp_no3 (l : Launch) {n : Nat} {v2 v3 : Int32} {σ0 : St} {K : Int32 → St → Prop} (hn : n ≤ 5) (F : Nat → Nat) (hK : ∀ σ' : St, (∀ i, i < n → σ' 922 i = nI (F i)) → (∀ c, c ≠ 922 → σ' c = σ0 c) → K (nI 1) σ') : ∀ (q a b : Nat) (f : Nat → Nat) (σ : St) (v4 : Value), b < a + q → b < n → a ≤ n → (∀ i, i < n → σ 922 i = nI (f i)) → (∀ c, c ≠ 922 → σ c = σ0 c) → F = rvF q a b f → V l i_X6_nextOrder k_X6_nextOrder 64 [.ref 900, .int (nI n), .int v2, .int v3, v4, .int (nI b), .int (nI a)] [] σ K
  | 0, a, b, f, σ, v4, hq, hb, ha, h1, h2, hF => by
    have z : b ≤ a := by omega
    refine V_run ok_X6_nextOrder 60 64 ?_
    simp (disch := omega) only [eng, c_X6_nextOrder, r_X6_nextOrder, tbl, true_and, Nat.reduceAdd, Nat.reduceLT, ↓reduceIte, n_eq, n_lt, n_le, n_cl, n_inT, nI_add, bI_eq0, bI_eq1, not_true_eq_false, not_false_eq_true, true_implies, false_implies, implies_true, and_true, Bool.not_eq_false, Bool.not_eq_true, Nat.reduceEqDiff, Nat.reduceLeDiff, Classical.not_not, List.length_cons, List.length_nil, Int.reduceAdd, z_cast, Nat.reducePow, false_or, Nat.reduceLT, Nat.sub_zero, Nat.le_refl, z]
    try simp only [iteP, Classical.not_not, Bool.not_eq_false, Bool.not_eq_true]
    rw [hF] at hK
    exact hK σ h1 h2
  | q + 1, a, b, f, σ, v4, hq, hb, ha, h1, h2, hF => by
    unfold rvF at hF
    by_cases z : a < b
    · rw [if_pos z] at hF
      have z2 : ¬ b ≤ a := by omega
      have f1 := h1 a (by omega)
      have f2 := h1 b hb
      have e3 : nI b + (-1) = nI (b - 1) := sb_m1 (by omega)
      refine V_run ok_X6_nextOrder 60 64 ?_
      simp (disch := omega) only [eng, c_X6_nextOrder, r_X6_nextOrder, tbl, true_and, Nat.reduceAdd, Nat.reduceLT, ↓reduceIte, n_eq, n_lt, n_le, n_cl, n_inT, nI_add, bI_eq0, bI_eq1, not_true_eq_false, not_false_eq_true, true_implies, false_implies, implies_true, and_true, Bool.not_eq_false, Bool.not_eq_true, Nat.reduceEqDiff, Nat.reduceLeDiff, Classical.not_not, List.length_cons, List.length_nil, Int.reduceAdd, z_cast, Nat.reducePow, false_or, Nat.reduceLT, Nat.sub_zero, Nat.le_refl, z2, f1, f2, wrq, e3]
      try simp only [iteP, Classical.not_not, Bool.not_eq_false, Bool.not_eq_true]
      refine lp_no3 l hn F hK q (a + 1) (b - 1) (swp f a b) _ _ (by omega) (by omega) (by omega) (fun i hi => ?_) (fun c hc => ?_) hF
      · unfold swp
        by_cases y1 : i = b
        · subst y1; simp (disch := omega) only [wrq, if_true]
        · by_cases y2 : i = a
          · subst y2; simp (disch := omega) only [wrq, y1, if_true, if_false]
          · simp (disch := omega) only [wrq, y1, y2, if_false]
            exact h1 i hi
      · simp (disch := omega) only [wrq]; exact h2 c hc
    · rw [if_neg z] at hF
      have z2 : b ≤ a := by omega
      refine V_run ok_X6_nextOrder 60 64 ?_
      simp (disch := omega) only [eng, c_X6_nextOrder, r_X6_nextOrder, tbl, true_and, Nat.reduceAdd, Nat.reduceLT, ↓reduceIte, n_eq, n_lt, n_le, n_cl, n_inT, nI_add, bI_eq0, bI_eq1, not_true_eq_false, not_false_eq_true, true_implies, false_implies, implies_true, and_true, Bool.not_eq_false, Bool.not_eq_true, Nat.reduceEqDiff, Nat.reduceLeDiff, Classical.not_not, List.length_cons, List.length_nil, Int.reduceAdd, z_cast, Nat.reducePow, false_or, Nat.reduceLT, Nat.sub_zero, Nat.le_refl, z2]
      try simp only [iteP, Classical.not_not, Bool.not_eq_false, Bool.not_eq_true]
      rw [hF] at hK
      exact hK σ h1 h2
theorem lp_no2 (l : Launch) {n k J : Nat} {f : Nat → Nat} {v4 v5 v6 : Value} {σ : St} {K : Int32 → St → Prop} (hn : n ≤ 5) (hv : ∀ i, i < n → f i ≤ 12) (h1 : ∀ i, i < n → σ 922 i = nI (f i)) (hk : ¬ f (k + 1) < f k) (hN : V l i_X6_nextOrder k_X6_nextOrder 38 [.ref 900, .int (nI n), .int (nI k), .int (nI J), v4, v5, v6] [] σ K) : ∀ j : Nat, k < j → j < n → sJ f (f k) j = J → V l i_X6_nextOrder k_X6_nextOrder 27 [.ref 900, .int (nI n), .int (nI k), .int (nI j), v4, v5, v6] [] σ K
  | 0, hkj, hj, hs => absurd hkj (Nat.not_lt_zero k)
  | j + 1, hkj, hj, hs => by
    have f1 := h1 k (by omega)
    have f2 := h1 (j + 1) hj
    have v1 := hv k (by omega)
    have v2 := hv (j + 1) hj
    unfold sJ at hs
    by_cases z : f (j + 1) < f k
    · rw [if_pos z] at hs
      have z2 : ¬ f k ≤ f (j + 1) := by omega
      have e : nI (j + 1) + (-1) = nI j := pk_m1 j
      have y : j ≠ k := fun y => hk (by rw [y] at z; exact z)
      refine V_run ok_X6_nextOrder 60 27 ?_
      simp (disch := omega) only [eng, c_X6_nextOrder, r_X6_nextOrder, tbl, true_and, Nat.reduceAdd, Nat.reduceLT, ↓reduceIte, n_eq, n_lt, n_le, n_cl, n_inT, nI_add, bI_eq0, bI_eq1, not_true_eq_false, not_false_eq_true, true_implies, false_implies, implies_true, and_true, Bool.not_eq_false, Bool.not_eq_true, Nat.reduceEqDiff, Nat.reduceLeDiff, Classical.not_not, List.length_cons, List.length_nil, Int.reduceAdd, z_cast, Nat.reducePow, false_or, Nat.reduceLT, Nat.sub_zero, Nat.le_refl, f1, f2, z2, e]
      try simp only [iteP, Classical.not_not, Bool.not_eq_false, Bool.not_eq_true]
      exact lp_no2 l hn hv h1 hk hN j (by omega) (by omega) hs
    · rw [if_neg z] at hs
      have z2 : f k ≤ f (j + 1) := by omega
      rw [← hs] at hN
      refine V_run ok_X6_nextOrder 9 27 ?_
      simp (disch := omega) only [eng, c_X6_nextOrder, r_X6_nextOrder, tbl, true_and, Nat.reduceAdd, Nat.reduceLT, ↓reduceIte, n_eq, n_lt, n_le, n_cl, n_inT, nI_add, bI_eq0, bI_eq1, not_true_eq_false, not_false_eq_true, true_implies, false_implies, implies_true, and_true, Bool.not_eq_false, Bool.not_eq_true, Nat.reduceEqDiff, Nat.reduceLeDiff, Classical.not_not, List.length_cons, List.length_nil, Int.reduceAdd, z_cast, Nat.reducePow, false_or, Nat.reduceLT, Nat.sub_zero, Nat.le_refl, f1, f2, z2]
      try simp only [iteP, Classical.not_not, Bool.not_eq_false, Bool.not_eq_true]
      exact hN
theorem sJ_in {f : Nat → Nat} {k : Nat} (hk : ¬ f (k + 1) < f k) : ∀ j, k < j → k < sJ f (f k) j ∧ sJ f (f k) j ≤ j
  | 0, h => absurd h (Nat.not_lt_zero k)
  | j + 1, h => by
    unfold sJ
    by_cases z : f (j + 1) < f k
    · rw [if_pos z]
      have y : j ≠ k := fun y => hk (by rw [y] at z; exact z)
      have := sJ_in hk j (by omega)
      omega
    · rw [if_neg z]; omega
theorem lp_no1 (l : Launch) {n : Nat} {f : Nat → Nat} {v3 v4 v5 v6 : Value} {σ : St} {K : Int32 → St → Prop} (hn : n ≤ 5) (hv : ∀ i, i < n → f i ≤ 12) (h1 : ∀ i, i < n → σ 922 i = nI (f i)) : ∀ q : Nat, q + 1 ≤ n → (sK f q = none → K (nI 0) σ) → (∀ k, sK f q = some k → V l i_X6_nextOrder k_X6_nextOrder 27 [.ref 900, .int (nI n), .int (nI k), .int (nI (n - 1)), v4, v5, v6] [] σ K) → V l i_X6_nextOrder k_X6_nextOrder 4 [.ref 900, .int (nI n), .int (nI q + (-1)), v3, v4, v5, v6] [] σ K
  | 0, hq, hF, hN => by
    have e : nI 0 + (-1) < nI 0 := by decide
    have e2 : ¬ nI 0 ≤ nI 0 + (-1) := by decide
    refine V_run ok_X6_nextOrder 60 4 ?_
    simp (disch := omega) only [eng, c_X6_nextOrder, r_X6_nextOrder, tbl, true_and, Nat.reduceAdd, Nat.reduceLT, ↓reduceIte, n_eq, n_lt, n_le, n_cl, n_inT, nI_add, bI_eq0, bI_eq1, not_true_eq_false, not_false_eq_true, true_implies, false_implies, implies_true, and_true, Bool.not_eq_false, Bool.not_eq_true, Nat.reduceEqDiff, Nat.reduceLeDiff, Classical.not_not, List.length_cons, List.length_nil, Int.reduceAdd, z_cast, Nat.reducePow, false_or, Nat.reduceLT, Nat.sub_zero, Nat.le_refl, e, e2]
    try simp only [iteP, Classical.not_not, Bool.not_eq_false, Bool.not_eq_true]
    exact hF rfl
  | q + 1, hq, hF, hN => by
    have e : nI (q + 1) + (-1) = nI q := pk_m1 q
    have e2 : ¬ q < 0 := by omega
    have e3 : 0 ≤ q := by omega
    have f1 := h1 q (by omega)
    have f2 := h1 (q + 1) (by omega)
    have v1 := hv q (by omega)
    have v2 := hv (q + 1) (by omega)
    have e4 := pk_sub (a := n) (b := 1) (by omega)
    rw [e]
    unfold sK at hF hN
    by_cases z : f (q + 1) < f q
    · rw [if_pos z] at hF hN
      have z2 : ¬ f q ≤ f (q + 1) := by omega
      refine V_run ok_X6_nextOrder 60 4 ?_
      simp (disch := omega) only [eng, c_X6_nextOrder, r_X6_nextOrder, tbl, true_and, Nat.reduceAdd, Nat.reduceLT, ↓reduceIte, n_eq, n_lt, n_le, n_cl, n_inT, nI_add, bI_eq0, bI_eq1, not_true_eq_false, not_false_eq_true, true_implies, false_implies, implies_true, and_true, Bool.not_eq_false, Bool.not_eq_true, Nat.reduceEqDiff, Nat.reduceLeDiff, Classical.not_not, List.length_cons, List.length_nil, Int.reduceAdd, z_cast, Nat.reducePow, false_or, Nat.reduceLT, Nat.sub_zero, Nat.le_refl, e2, f1, f2, z2]
      try simp only [iteP, Classical.not_not, Bool.not_eq_false, Bool.not_eq_true]
      exact lp_no1 l hn hv h1 q (by omega) hF hN
    · rw [if_neg z] at hF hN
      have z2 : f q ≤ f (q + 1) := by omega
      refine V_run ok_X6_nextOrder 60 4 ?_
      simp (disch := omega) only [eng, c_X6_nextOrder, r_X6_nextOrder, tbl, true_and, Nat.reduceAdd, Nat.reduceLT, ↓reduceIte, n_eq, n_lt, n_le, n_cl, n_inT, nI_add, bI_eq0, bI_eq1, not_true_eq_false, not_false_eq_true, true_implies, false_implies, implies_true, and_true, Bool.not_eq_false, Bool.not_eq_true, Nat.reduceEqDiff, Nat.reduceLeDiff, Classical.not_not, List.length_cons, List.length_nil, Int.reduceAdd, z_cast, Nat.reducePow, false_or, Nat.reduceLT, Nat.sub_zero, Nat.le_refl, e2, e3, f1, f2, z2, e4]
      try simp only [iteP, Classical.not_not, Bool.not_eq_false, Bool.not_eq_true]
      exact hN q rfl
theorem m_nextO {l : Launch} {n : Nat} {f : Nat → Nat} {σ : St} {K : Int32 → St → Prop} (hn : n ≤ 5) (hv : ∀ i, i < n → f i ≤ 12) (h1 : ∀ i, i < n → σ 922 i = nI (f i)) (hF : sK f (n - 1) = none → K (nI 0) σ) (hK : ∀ k, sK f (n - 1) = some k → ∀ σ' : St, (∀ i, i < n → σ' 922 i = nI (nxK f n k i)) → (∀ c, c ≠ 922 → σ' c = σ c) → K (nI 1) σ') : CallAt l 158 [.ref 900, .int (nI n)] σ K := by
  by_cases h0 : n = 0
  · subst h0
    have e : nI 0 - nI 2 < nI 0 := by decide
    have e2 : ¬ nI 0 ≤ nI 0 - nI 2 := by decide
    refine CallAt.of (k := 158) (cd := k_X6_nextOrder) ok_X6_nextOrder (by decide) rfl rfl rfl ?_
    show V _ i_X6_nextOrder k_X6_nextOrder 0 [.ref 900, .int (nI 0), .null, .null, .null, .null, .null] [] _ _
    refine V_run ok_X6_nextOrder 10 0 ?_
    simp (disch := omega) only [eng, c_X6_nextOrder, r_X6_nextOrder, tbl, true_and, Nat.reduceAdd, Nat.reduceLT, ↓reduceIte, n_eq, n_lt, n_le, n_cl, n_inT, nI_add, bI_eq0, bI_eq1, not_true_eq_false, not_false_eq_true, true_implies, false_implies, implies_true, and_true, Bool.not_eq_false, Bool.not_eq_true, Nat.reduceEqDiff, Nat.reduceLeDiff, Classical.not_not, List.length_cons, List.length_nil, Int.reduceAdd, z_cast, Nat.reducePow, false_or, Nat.reduceLT, Nat.sub_zero, Nat.le_refl]
    try simp only [iteP, Classical.not_not, Bool.not_eq_false, Bool.not_eq_true]
    refine V_run ok_X6_nextOrder 60 4 ?_
    simp (disch := omega) only [eng, c_X6_nextOrder, r_X6_nextOrder, tbl, true_and, Nat.reduceAdd, Nat.reduceLT, ↓reduceIte, n_eq, n_lt, n_le, n_cl, n_inT, nI_add, bI_eq0, bI_eq1, not_true_eq_false, not_false_eq_true, true_implies, false_implies, implies_true, and_true, Bool.not_eq_false, Bool.not_eq_true, Nat.reduceEqDiff, Nat.reduceLeDiff, Classical.not_not, List.length_cons, List.length_nil, Int.reduceAdd, z_cast, Nat.reducePow, false_or, Nat.reduceLT, Nat.sub_zero, Nat.le_refl, e, e2]
    try simp only [iteP, Classical.not_not, Bool.not_eq_false, Bool.not_eq_true]
    exact hF rfl
  · refine CallAt.of (k := 158) (cd := k_X6_nextOrder) ok_X6_nextOrder (by decide) rfl rfl rfl ?_
    show V _ i_X6_nextOrder k_X6_nextOrder 0 [.ref 900, .int (nI n), .null, .null, .null, .null, .null] [] _ _
    refine V_run ok_X6_nextOrder 10 0 ?_
    simp (disch := omega) only [eng, c_X6_nextOrder, r_X6_nextOrder, tbl, true_and, Nat.reduceAdd, Nat.reduceLT, ↓reduceIte, n_eq, n_lt, n_le, n_cl, n_inT, nI_add, bI_eq0, bI_eq1, not_true_eq_false, not_false_eq_true, true_implies, false_implies, implies_true, and_true, Bool.not_eq_false, Bool.not_eq_true, Nat.reduceEqDiff, Nat.reduceLeDiff, Classical.not_not, List.length_cons, List.length_nil, Int.reduceAdd, z_cast, Nat.reducePow, false_or, Nat.reduceLT, Nat.sub_zero, Nat.le_refl]
    try simp only [iteP, Classical.not_not, Bool.not_eq_false, Bool.not_eq_true]
    have e9 : nI n - nI 2 = nI (n - 1) + (-1) := by
      have : ∀ n, n < 6 → n ≠ 0 → nI n - nI 2 = nI (n - 1) + (-1) := by decide +kernel
      exact this n (by omega) h0
    rw [e9]
    refine lp_no1 l hn hv h1 (n - 1) (by omega) hF (fun k hk => ?_)
    have hk2 := sK_lt hk
    have hJ := sJ_in hk2.2 (n - 1) (by omega)
    have f1 := h1 k (by omega)
    have f2 := h1 (sJ f (f k) (n - 1)) (by omega)
    have e4 := pk_sub (a := n) (b := 1) (by omega)
    refine lp_no2 l hn hv h1 hk2.2 ?_ (n - 1) (by omega) (by omega) rfl
    have key := hK k hk
    unfold nxK at key
    generalize sJ f (f k) (n - 1) = J at hJ f2 key ⊢
    refine V_run ok_X6_nextOrder 60 38 ?_
    simp (disch := omega) only [eng, c_X6_nextOrder, r_X6_nextOrder, tbl, true_and, Nat.reduceAdd, Nat.reduceLT, ↓reduceIte, n_eq, n_lt, n_le, n_cl, n_inT, nI_add, bI_eq0, bI_eq1, not_true_eq_false, not_false_eq_true, true_implies, false_implies, implies_true, and_true, Bool.not_eq_false, Bool.not_eq_true, Nat.reduceEqDiff, Nat.reduceLeDiff, Classical.not_not, List.length_cons, List.length_nil, Int.reduceAdd, z_cast, Nat.reducePow, false_or, Nat.reduceLT, Nat.sub_zero, Nat.le_refl, f1, f2, wrq, e4]
    try simp only [iteP, Classical.not_not, Bool.not_eq_false, Bool.not_eq_true]
    refine lp_no3 l (σ0 := σ) hn _ key 5 (k + 1) (n - 1) (swp f k J) _ _ (by omega) (by omega) (by omega) (fun i hi => ?_) (fun c hc => ?_) rfl
    · unfold swp
      by_cases y1 : i = J
      · subst y1; simp (disch := omega) only [wrq, if_true]
      · by_cases y2 : i = k
        · subst y2; simp (disch := omega) only [wrq, y1, if_true, if_false]
        · simp (disch := omega) only [wrq, y1, y2, if_false]
          exact h1 i hi
    · simp (disch := omega) only [wrq]
theorem sK_map {N : Nat} {v g : Nat → Nat} (hv : ∀ a b, a < N → b < N → (v a < v b ↔ a < b)) : ∀ k, (∀ i, i ≤ k → g i < N) → sK (fun i => v (g i)) k = sK g k
  | 0, _ => rfl
  | k + 1, h => by
    unfold sK
    rw [sK_map hv k (fun i hi => h i (by omega))]
    by_cases z : g (k + 1) < g k
    · rw [if_pos z, if_pos ((hv _ _ (h _ (by omega)) (h _ (by omega))).mpr z)]
    · rw [if_neg z, if_neg (fun y => z ((hv _ _ (h _ (by omega)) (h _ (by omega))).mp y))]
theorem sJ_map {N x : Nat} {v g : Nat → Nat} (hv : ∀ a b, a < N → b < N → (v a < v b ↔ a < b)) (hx : x < N) : ∀ j, (∀ i, i ≤ j → g i < N) → sJ (fun i => v (g i)) (v x) j = sJ g x j
  | 0, _ => rfl
  | j + 1, h => by
    unfold sJ
    rw [sJ_map hv hx j (fun i hi => h i (by omega))]
    by_cases z : g (j + 1) < x
    · rw [if_pos z, if_pos ((hv _ _ (h _ (by omega)) hx).mpr z)]
    · rw [if_neg z, if_neg (fun y => z ((hv _ _ (h _ (by omega)) hx).mp y))]
theorem swp_map (v g : Nat → Nat) (a b : Nat) : swp (fun i => v (g i)) a b = fun i => v (swp g a b i) := by
  funext i
  unfold swp
  by_cases y1 : i = b
  · simp [y1]
  · by_cases y2 : i = a
    · by_cases y3 : a = b
      · simp [y2, y3]
      · simp [y2, y3]
    · simp [y1, y2]
theorem rv_map (v : Nat → Nat) : ∀ (n a b : Nat) (g : Nat → Nat), rvF n a b (fun i => v (g i)) = fun i => v (rvF n a b g i)
  | 0, a, b, g => rfl
  | n + 1, a, b, g => by
    unfold rvF
    by_cases z : a < b
    · rw [if_pos z, if_pos z, swp_map, rv_map v n]
    · rw [if_neg z, if_neg z]
theorem nx_map {n k : Nat} {v g : Nat → Nat} (hv : ∀ a b, a < n → b < n → (v a < v b ↔ a < b)) (hk : k < n) (h : ∀ i, i < n → g i < n) : nxK (fun i => v (g i)) n k = fun i => v (nxK g n k i) := by
  unfold nxK
  rw [sJ_map hv (h k hk) (n - 1) (fun i hi => h i (by omega)), swp_map, rv_map]
