/-! what is tried is taken back -/
theorem lp_keep (l : Launch) {σ0 : St} {K : Int32 → St → Prop} (hK : ∀ σ' : St, (∀ j, j < 12 → σ' 921 j = σ0 906 j ∧ σ' 921 (12 + j) = σ0 904 j ∧ σ' 921 (24 + j) = σ0 910 j ∧ σ' 921 (36 + j) = σ0 911 j) → (∀ k, k ≠ 921 → σ' k = σ0 k) → K 0 σ') : ∀ (n i : Nat) (σ : St), i + n = 12 → (∀ j, j < i → σ 921 j = σ0 906 j ∧ σ 921 (12 + j) = σ0 904 j ∧ σ 921 (24 + j) = σ0 910 j ∧ σ 921 (36 + j) = σ0 911 j) → (∀ k, k ≠ 921 → σ k = σ0 k) → V l i_X6_keepAside k_X6_keepAside 2 [.ref 900, .int (nI i)] [] σ K
  | 0, i, σ, hi, h1, h2 => by
    have hi : i = 12 := by omega
    subst hi
    refine V_run ok_X6_keepAside 60 2 ?_
    simp (disch := omega) only [eng, c_X6_keepAside, r_X6_keepAside, tbl, true_and, Nat.reduceAdd, Nat.reduceLT, ↓reduceIte, n_eq, n_lt, n_le, n_cl, n_inT, nI_add, bI_eq0, bI_eq1, not_true_eq_false, not_false_eq_true, true_implies, false_implies, implies_true, and_true, Bool.not_eq_false, Bool.not_eq_true, Nat.reduceEqDiff, Nat.reduceLeDiff, Classical.not_not, List.length_cons, List.length_nil, Int.reduceAdd, z_cast, Nat.reducePow, false_or, Nat.reduceLT, Nat.sub_zero, Nat.le_refl]
    try simp only [iteP, Classical.not_not, Bool.not_eq_false, Bool.not_eq_true]
    exact hK σ h1 h2
  | n + 1, i, σ, hi, h1, h2 => by
    have h0 : ¬ 12 ≤ i := by omega
    refine V_run ok_X6_keepAside 60 2 ?_
    simp (disch := omega) only [eng, c_X6_keepAside, r_X6_keepAside, tbl, true_and, Nat.reduceAdd, Nat.reduceLT, ↓reduceIte, n_eq, n_lt, n_le, n_cl, n_inT, nI_add, bI_eq0, bI_eq1, not_true_eq_false, not_false_eq_true, true_implies, false_implies, implies_true, and_true, Bool.not_eq_false, Bool.not_eq_true, Nat.reduceEqDiff, Nat.reduceLeDiff, Classical.not_not, List.length_cons, List.length_nil, Int.reduceAdd, z_cast, Nat.reducePow, false_or, Nat.reduceLT, Nat.sub_zero, Nat.le_refl, h0, wrq]
    try simp only [iteP, Classical.not_not, Bool.not_eq_false, Bool.not_eq_true]
    refine lp_keep l hK n (i + 1) _ (by omega) (fun j hj => ?_) (fun k hk => ?_)
    · by_cases z : j = i
      · subst z
        have e1 := h2 906 (by decide)
        have e2 := h2 904 (by decide)
        have e3 := h2 910 (by decide)
        have e4 := h2 911 (by decide)
        simp (disch := omega) only [wrq, e1, e2, e3, e4, true_and]
      · have := h1 j (by omega)
        simp (disch := omega) only [wrq]
        exact this
    · simp (disch := omega) only [wrq]; exact h2 k hk
theorem m_keep0 {l : Launch} {σ : St} {K : Int32 → St → Prop} (hK : ∀ σ' : St, (∀ j, j < 12 → σ' 921 j = σ 906 j ∧ σ' 921 (12 + j) = σ 904 j ∧ σ' 921 (24 + j) = σ 910 j ∧ σ' 921 (36 + j) = σ 911 j) → (∀ k, k ≠ 921 → σ' k = σ k) → K 0 σ') : CallAt l 156 [.ref 900] σ K := by
  refine CallAt.of (k := 156) (cd := k_X6_keepAside) ok_X6_keepAside (by decide) rfl rfl rfl ?_
  show V _ i_X6_keepAside k_X6_keepAside 0 [.ref 900, .null] [] _ _
  refine V_run ok_X6_keepAside 20 0 ?_
  simp (disch := omega) only [eng, c_X6_keepAside, r_X6_keepAside, tbl, true_and, Nat.reduceAdd, Nat.reduceLT, ↓reduceIte, n_eq, n_lt, n_le, n_cl, n_inT, nI_add, bI_eq0, bI_eq1, not_true_eq_false, not_false_eq_true, true_implies, false_implies, implies_true, and_true, Bool.not_eq_false, Bool.not_eq_true, Nat.reduceEqDiff, Nat.reduceLeDiff, Classical.not_not, List.length_cons, List.length_nil, Int.reduceAdd, z_cast, Nat.reducePow, false_or, Nat.reduceLT, Nat.sub_zero, Nat.le_refl]
  try simp only [iteP, Classical.not_not, Bool.not_eq_false, Bool.not_eq_true]
  exact lp_keep l hK 12 0 σ (by omega) (fun j hj => absurd hj (Nat.not_lt_zero j)) (fun _ _ => rfl)
theorem lp_back (l : Launch) {σ0 : St} {K : Int32 → St → Prop} (hK : ∀ σ' : St, (∀ j, j < 12 → σ' 906 j = σ0 921 j ∧ σ' 904 j = σ0 921 (12 + j) ∧ σ' 910 j = σ0 921 (24 + j) ∧ σ' 911 j = σ0 921 (36 + j)) → (∀ k, k ≠ 904 → k ≠ 906 → k ≠ 910 → k ≠ 911 → σ' k = σ0 k) → K 0 σ') : ∀ (n i : Nat) (σ : St), i + n = 12 → (∀ j, j < i → σ 906 j = σ0 921 j ∧ σ 904 j = σ0 921 (12 + j) ∧ σ 910 j = σ0 921 (24 + j) ∧ σ 911 j = σ0 921 (36 + j)) → (∀ k, k ≠ 904 → k ≠ 906 → k ≠ 910 → k ≠ 911 → σ k = σ0 k) → V l i_X6_bringBack k_X6_bringBack 2 [.ref 900, .int (nI i)] [] σ K
  | 0, i, σ, hi, h1, h2 => by
    have hi : i = 12 := by omega
    subst hi
    refine V_run ok_X6_bringBack 60 2 ?_
    simp (disch := omega) only [eng, c_X6_bringBack, r_X6_bringBack, tbl, true_and, Nat.reduceAdd, Nat.reduceLT, ↓reduceIte, n_eq, n_lt, n_le, n_cl, n_inT, nI_add, bI_eq0, bI_eq1, not_true_eq_false, not_false_eq_true, true_implies, false_implies, implies_true, and_true, Bool.not_eq_false, Bool.not_eq_true, Nat.reduceEqDiff, Nat.reduceLeDiff, Classical.not_not, List.length_cons, List.length_nil, Int.reduceAdd, z_cast, Nat.reducePow, false_or, Nat.reduceLT, Nat.sub_zero, Nat.le_refl]
    try simp only [iteP, Classical.not_not, Bool.not_eq_false, Bool.not_eq_true]
    exact hK σ h1 h2
  | n + 1, i, σ, hi, h1, h2 => by
    have h0 : ¬ 12 ≤ i := by omega
    have e1 := h2 921 (by decide) (by decide) (by decide) (by decide)
    refine V_run ok_X6_bringBack 60 2 ?_
    simp (disch := omega) only [eng, c_X6_bringBack, r_X6_bringBack, tbl, true_and, Nat.reduceAdd, Nat.reduceLT, ↓reduceIte, n_eq, n_lt, n_le, n_cl, n_inT, nI_add, bI_eq0, bI_eq1, not_true_eq_false, not_false_eq_true, true_implies, false_implies, implies_true, and_true, Bool.not_eq_false, Bool.not_eq_true, Nat.reduceEqDiff, Nat.reduceLeDiff, Classical.not_not, List.length_cons, List.length_nil, Int.reduceAdd, z_cast, Nat.reducePow, false_or, Nat.reduceLT, Nat.sub_zero, Nat.le_refl, h0, wrq]
    try simp only [iteP, Classical.not_not, Bool.not_eq_false, Bool.not_eq_true]
    refine lp_back l hK n (i + 1) _ (by omega) (fun j hj => ?_) (fun k g1 g2 g3 g4 => ?_)
    · by_cases z : j = i
      · subst z
        simp (disch := omega) only [wrq, e1, true_and]
      · have := h1 j (by omega)
        simp (disch := omega) only [wrq]
        exact this
    · simp (disch := omega) only [wrq]; exact h2 k g1 g2 g3 g4
theorem m_back0 {l : Launch} {σ : St} {K : Int32 → St → Prop} (hK : ∀ σ' : St, (∀ j, j < 12 → σ' 906 j = σ 921 j ∧ σ' 904 j = σ 921 (12 + j) ∧ σ' 910 j = σ 921 (24 + j) ∧ σ' 911 j = σ 921 (36 + j)) → (∀ k, k ≠ 904 → k ≠ 906 → k ≠ 910 → k ≠ 911 → σ' k = σ k) → K 0 σ') : CallAt l 157 [.ref 900] σ K := by
  refine CallAt.of (k := 157) (cd := k_X6_bringBack) ok_X6_bringBack (by decide) rfl rfl rfl ?_
  show V _ i_X6_bringBack k_X6_bringBack 0 [.ref 900, .null] [] _ _
  refine V_run ok_X6_bringBack 20 0 ?_
  simp (disch := omega) only [eng, c_X6_bringBack, r_X6_bringBack, tbl, true_and, Nat.reduceAdd, Nat.reduceLT, ↓reduceIte, n_eq, n_lt, n_le, n_cl, n_inT, nI_add, bI_eq0, bI_eq1, not_true_eq_false, not_false_eq_true, true_implies, false_implies, implies_true, and_true, Bool.not_eq_false, Bool.not_eq_true, Nat.reduceEqDiff, Nat.reduceLeDiff, Classical.not_not, List.length_cons, List.length_nil, Int.reduceAdd, z_cast, Nat.reducePow, false_or, Nat.reduceLT, Nat.sub_zero, Nat.le_refl]
  try simp only [iteP, Classical.not_not, Bool.not_eq_false, Bool.not_eq_true]
  exact lp_back l hK 12 0 σ (by omega) (fun j hj => absurd hj (Nat.not_lt_zero j)) (fun _ _ _ _ _ => rfl)
/-- what is kept aside is E's -/
def AsK (E : Es) (σ : St) : Prop := (∀ p, p < E 12 0 → σ 921 p = nI (E 5 p) ∧ σ 921 (12 + p) = nI (E 3 p)) ∧ ∀ t, t < E 12 1 → σ 921 (24 + t) = nI (E 8 t) ∧ σ 921 (36 + t) = nI (E 9 t)
/-- F is E but for lives, spouses and sides of things -/
def SmE (E F : Es) : Prop := ∀ i j, i ≠ 3 → i ≠ 5 → i ≠ 8 → i ≠ 9 → F i j = E i j
theorem SmE.rfl' {E : Es} : SmE E E := fun _ _ _ _ _ _ => rfl
theorem SmE_die {E F : Es} {p : Nat} (h : SmE E F) : SmE E (die F p) := fun i j h3 h5 h8 h9 => by
  rw [← h i j h3 h5 h8 h9]; simp [die, h3, h5, h8, h9]
theorem SmE_dieN {E F : Es} {f : Nat → Nat} (h : SmE E F) : ∀ n, SmE E (dieN F f n)
  | 0 => h
  | n + 1 => SmE_die (SmE_dieN h n)
theorem SmE_joi {E F : Es} {a c : Nat} (h : SmE E F) : SmE E (joi F a c) := fun i j h3 h5 h8 h9 => by rw [joi_ne h3]; exact h i j h3 h5 h8 h9
theorem m_keep {l : Launch} {E : Es} {σ : St} {K : Int32 → St → Prop} (hW : Wf E) (hE : ME E σ) (hK : ∀ σ', AsK E σ' → (∀ k, k ≠ 921 → σ' k = σ k) → K 0 σ') : CallAt l 156 [.ref 900] σ K := by
  refine m_keep0 (fun σ' h1 h2 => hK σ' ⟨fun p hp => ?_, fun t ht => ?_⟩ h2)
  · have b := h1 p (p12 hW hp)
    have c := hE.2.2.2.1 p hp
    exact ⟨b.1.trans c.2.2.2.2.2, b.2.1.trans c.2.2.2.1⟩
  · have b := h1 t (t12 hW ht)
    have c := hE.2.2.2.2.1 t ht
    exact ⟨b.2.2.1.trans c.2.2.1, b.2.2.2.trans c.2.2.2⟩
theorem m_back {l : Launch} {E F : Es} {σ : St} {K : Int32 → St → Prop} (hW : Wf E) (hS : SmE E F) (hE : ME F σ) (hA : AsK E σ) (hK : ∀ σ', ME E σ' → FrN σ σ' → K 0 σ') : CallAt l 157 [.ref 900] σ K := by
  refine m_back0 (fun σ' h1 h2 => hK σ' ?_ ⟨fun k z1 z2 => h2 k (by omega) (by omega) (by omega) (by omega), fun j _ _ _ => by rw [h2 900 (by decide) (by decide) (by decide) (by decide)]⟩)
  have s0 := hS 12 0 (by decide) (by decide) (by decide) (by decide)
  have s1 := hS 12 1 (by decide) (by decide) (by decide) (by decide)
  have s2 := hS 12 2 (by decide) (by decide) (by decide) (by decide)
  obtain ⟨a1, a2, a3, a4, a5, a6⟩ := hE
  rw [s0] at a1
  rw [s1] at a2
  rw [s2] at a3
  have g := fun k z1 z2 z3 z4 => h2 k z1 z2 z3 z4
  refine ⟨by rw [g 900 (by decide) (by decide) (by decide) (by decide)]; exact a1, by rw [g 900 (by decide) (by decide) (by decide) (by decide)]; exact a2, by rw [g 900 (by decide) (by decide) (by decide) (by decide)]; exact a3, fun p hp => ?_, fun t ht => ?_, fun k hk => ?_⟩
  · have b := h1 p (p12 hW hp)
    have c := a4 p (by rw [s0]; exact hp)
    have d := hA.1 p hp
    rw [hS 0 p (by decide) (by decide) (by decide) (by decide), hS 1 p (by decide) (by decide) (by decide) (by decide), hS 2 p (by decide) (by decide) (by decide) (by decide), hS 4 p (by decide) (by decide) (by decide) (by decide)] at c
    rw [g 901 (by decide) (by decide) (by decide) (by decide), g 902 (by decide) (by decide) (by decide) (by decide), g 903 (by decide) (by decide) (by decide) (by decide), g 905 (by decide) (by decide) (by decide) (by decide)]
    exact ⟨c.1, c.2.1, c.2.2.1, b.2.1.trans d.2, c.2.2.2.2.1, b.1.trans d.1⟩
  · have b := h1 t (t12 hW ht)
    have c := a5 t (by rw [s1]; exact ht)
    have d := hA.2 t ht
    rw [hS 6 t (by decide) (by decide) (by decide) (by decide), hS 7 t (by decide) (by decide) (by decide) (by decide)] at c
    rw [g 908 (by decide) (by decide) (by decide) (by decide), g 909 (by decide) (by decide) (by decide) (by decide)]
    exact ⟨c.1, c.2.1, b.2.2.1.trans d.1, b.2.2.2.trans d.2⟩
  · have c := a6 k hk
    rw [hS 11 k (by decide) (by decide) (by decide) (by decide)] at c
    rw [g 913 (by decide) (by decide) (by decide) (by decide), g 914 (by decide) (by decide) (by decide) (by decide)]
    refine ⟨c.1, fun i hi => ?_⟩
    rw [← hS 10 _ (by decide) (by decide) (by decide) (by decide)]
    exact c.2 i hi
theorem lp_firstO (l : Launch) {m : Nat} {σ0 : St} {K : Int32 → St → Prop} (hm : m < 4096) (h5 : pcnt m ≤ 5) (hK : ∀ σ' : St, (∀ i, i < pcnt m → σ' 922 i = nI (nthF m 12 i)) → (∀ k, k ≠ 922 → σ' k = σ0 k) → K (nI (pcnt m)) σ') : ∀ (n p : Nat) (σ : St), p + n = 12 → (∀ i, i < cb m p → σ 922 i = nI (nthF m 12 i)) → (∀ k, k ≠ 922 → σ k = σ0 k) → V l i_X6_firstOrder k_X6_firstOrder 4 [.ref 900, .int (nI m), .int (nI (cb m p)), .int (nI p)] [] σ K
  | 0, p, σ, hp, g3, g4 => by
    have hp : p = 12 := by omega
    subst hp
    rw [← pcnt_cb] at g3 ⊢
    refine V_run ok_X6_firstOrder 60 4 ?_
    simp (disch := omega) only [eng, c_X6_firstOrder, r_X6_firstOrder, tbl, true_and, Nat.reduceAdd, Nat.reduceLT, ↓reduceIte, n_eq, n_lt, n_le, n_cl, n_inT, nI_add, bI_eq0, bI_eq1, not_true_eq_false, not_false_eq_true, true_implies, false_implies, implies_true, and_true, Bool.not_eq_false, Bool.not_eq_true, Nat.reduceEqDiff, Nat.reduceLeDiff, Classical.not_not, List.length_cons, List.length_nil, Int.reduceAdd, z_cast, Nat.reducePow, false_or, Nat.reduceLT, Nat.sub_zero, Nat.le_refl]
    try simp only [iteP, Classical.not_not, Bool.not_eq_false, Bool.not_eq_true]
    exact hK σ g3 g4
  | n + 1, p, σ, hp, g3, g4 => by
    have hp1 : ¬ 12 ≤ p := by omega
    have hcp := cb_mono m (show p + 1 ≤ 12 by omega)
    rw [← pcnt_cb] at hcp
    have hc : cb m (p + 1) = cb m p + (m.testBit p).toNat := rfl
    have h6 : cb m p ≤ 5 := by
      have := cb_mono m (show p ≤ p + 1 by omega)
      omega
    refine V_run ok_X6_firstOrder 60 4 ?_
    simp (disch := omega) only [eng, c_X6_firstOrder, r_X6_firstOrder, tbl, true_and, Nat.reduceAdd, Nat.reduceLT, ↓reduceIte, n_eq, n_lt, n_le, n_cl, n_inT, nI_add, bI_eq0, bI_eq1, not_true_eq_false, not_false_eq_true, true_implies, false_implies, implies_true, and_true, Bool.not_eq_false, Bool.not_eq_true, Nat.reduceEqDiff, Nat.reduceLeDiff, Classical.not_not, List.length_cons, List.length_nil, Int.reduceAdd, z_cast, Nat.reducePow, false_or, Nat.reduceLT, Nat.sub_zero, Nat.le_refl, hp1]
    try simp only [iteP, Classical.not_not, Bool.not_eq_false, Bool.not_eq_true]
    refine m_has (m := m) (j := p) (by omega) (by omega) ?_
    cases hb : m.testBit p with
    | false =>
      rw [hb] at hc
      have hc : cb m (p + 1) = cb m p := hc
      simp (disch := omega) only [n_eq, n_lt, n_le, n_cl, n_inT, nI_add, bI_eq0, bI_eq1, not_true_eq_false, not_false_eq_true, true_implies, false_implies, implies_true, and_true, Bool.not_eq_false, Bool.not_eq_true, Nat.reduceEqDiff, Nat.reduceLeDiff, Classical.not_not, List.length_cons, List.length_nil, Int.reduceAdd, z_cast, Nat.reducePow, false_or, Nat.reduceLT, Nat.sub_zero, Nat.le_refl, true_and, ↓reduceIte, iteP, Bool.false_eq_true]
      have := lp_firstO l hm h5 hK n (p + 1) σ (by omega) (by rw [hc]; exact g3) g4
      rw [hc] at this
      exact this
    | true =>
      rw [hb] at hc
      have hc : cb m (p + 1) = cb m p + 1 := hc
      simp (disch := omega) only [n_eq, n_lt, n_le, n_cl, n_inT, nI_add, bI_eq0, bI_eq1, not_true_eq_false, not_false_eq_true, true_implies, false_implies, implies_true, and_true, Bool.not_eq_false, Bool.not_eq_true, Nat.reduceEqDiff, Nat.reduceLeDiff, Classical.not_not, List.length_cons, List.length_nil, Int.reduceAdd, z_cast, Nat.reducePow, false_or, Nat.reduceLT, Nat.sub_zero, Nat.le_refl, true_and, ↓reduceIte, iteP, Bool.true_eq_false, wrq]
      have := lp_firstO l hm h5 hK n (p + 1) (wr σ 922 (cb m p) (nI p)) (by omega) ?_ ?_
      · rw [hc] at this
        exact this
      · intro i hi
        rw [hc] at hi
        by_cases e : i = cb m p
        · subst e
          simp (disch := omega) only [wrq]
          rw [nth_of_cb (by omega) hb]
        · simp (disch := omega) only [wrq]
          exact g3 i (by omega)
      · intro k h1
        simp (disch := omega) only [wrq]
        exact g4 k h1
theorem m_firstO {l : Launch} {m : Nat} {σ : St} {K : Int32 → St → Prop} (hm : m < 4096) (h5 : pcnt m ≤ 5) (hK : ∀ σ' : St, (∀ i, i < pcnt m → σ' 922 i = nI (nthF m 12 i)) → (∀ k, k ≠ 922 → σ' k = σ k) → K (nI (pcnt m)) σ') : CallAt l 159 [.ref 900, .int (nI m)] σ K := by
  refine CallAt.of (k := 159) (cd := k_X6_firstOrder) ok_X6_firstOrder (by decide) rfl rfl rfl ?_
  show V _ i_X6_firstOrder k_X6_firstOrder 0 [.ref 900, .int (nI m), .null, .null] [] _ _
  refine V_run ok_X6_firstOrder 20 0 ?_
  simp (disch := omega) only [eng, c_X6_firstOrder, r_X6_firstOrder, tbl, true_and, Nat.reduceAdd, Nat.reduceLT, ↓reduceIte, n_eq, n_lt, n_le, n_cl, n_inT, nI_add, bI_eq0, bI_eq1, not_true_eq_false, not_false_eq_true, true_implies, false_implies, implies_true, and_true, Bool.not_eq_false, Bool.not_eq_true, Nat.reduceEqDiff, Nat.reduceLeDiff, Classical.not_not, List.length_cons, List.length_nil, Int.reduceAdd, z_cast, Nat.reducePow, false_or, Nat.reduceLT, Nat.sub_zero, Nat.le_refl]
  try simp only [iteP, Classical.not_not, Bool.not_eq_false, Bool.not_eq_true]
  exact lp_firstO l hm h5 hK 12 0 σ (by omega) (fun j hj => absurd hj (Nat.not_lt_zero j)) (fun _ _ => rfl)
def alF (E : Es) (m : Nat) : Nat → Bool
  | 0 => true
  | p + 1 => alF E m p && (!m.testBit p || (decide (p < E 12 0) && E 5 p == 1))
theorem alF_iff (E : Es) (m : Nat) : ∀ n, alF E m n = true ↔ ∀ j, j < n → m.testBit j = true → j < E 12 0 ∧ E 5 j = 1
  | 0 => ⟨fun _ j hj => absurd hj (Nat.not_lt_zero j), fun _ => rfl⟩
  | n + 1 => by
    unfold alF
    rw [Bool.and_eq_true, alF_iff E m n]
    simp only [Bool.or_eq_true, Bool.not_eq_true', Bool.and_eq_true, decide_eq_true_eq, beq_iff_eq]
    constructor
    · rintro ⟨h1, h2⟩ j hj hb
      by_cases z : j = n
      · subst z
        rcases h2 with q | q
        · rw [q] at hb; cases hb
        · exact q
      · exact h1 j (by omega) hb
    · intro h
      refine ⟨fun j hj hb => h j (by omega) hb, ?_⟩
      cases hb : m.testBit n with
      | false => exact Or.inl rfl
      | true => exact Or.inr (h n (by omega) hb)
theorem alF_all (E : Es) (m : Nat) : alF E m 12 = allL E m := by
  apply Bool.eq_iff_iff.mpr
  rw [alF_iff, allL_iff]
theorem lp_allLive (l : Launch) {m : Nat} {E : Es} {σ : St} {K : Int32 → St → Prop} (hW : Wf E) (hE : ME E σ) (hm : m < 4096) (hK : K (bI (allL E m)) σ) : ∀ (n p : Nat), p + n = 12 → V l i_X6_allLive k_X6_allLive 4 [.ref 900, .int (nI m), .int (bI (alF E m p)), .int (nI p)] [] σ K
  | 0, p, hp => by
    have hp : p = 12 := by omega
    subst hp
    rw [← alF_all] at hK
    refine V_run ok_X6_allLive 60 4 ?_
    simp (disch := omega) only [eng, c_X6_allLive, r_X6_allLive, tbl, true_and, Nat.reduceAdd, Nat.reduceLT, ↓reduceIte, n_eq, n_lt, n_le, n_cl, n_inT, nI_add, bI_eq0, bI_eq1, not_true_eq_false, not_false_eq_true, true_implies, false_implies, implies_true, and_true, Bool.not_eq_false, Bool.not_eq_true, Nat.reduceEqDiff, Nat.reduceLeDiff, Classical.not_not, List.length_cons, List.length_nil, Int.reduceAdd, z_cast, Nat.reducePow, false_or, Nat.reduceLT, Nat.sub_zero, Nat.le_refl]
    try simp only [iteP, Classical.not_not, Bool.not_eq_false, Bool.not_eq_true]
    exact ⟨okR_b _, hK⟩
  | n + 1, p, hp => by
    have h0 : ¬ 12 ≤ p := by omega
    have ih := lp_allLive l hW hE hm hK n (p + 1) (by omega)
    have e : alF E m (p + 1) = (alF E m p && (!m.testBit p || (decide (p < E 12 0) && E 5 p == 1))) := rfl
    rw [e] at ih
    cases h1 : alF E m p with
    | false =>
      rw [h1] at ih
      refine V_run ok_X6_allLive 60 4 ?_
      simp (disch := omega) only [eng, c_X6_allLive, r_X6_allLive, tbl, true_and, Nat.reduceAdd, Nat.reduceLT, ↓reduceIte, n_eq, n_lt, n_le, n_cl, n_inT, nI_add, bI_eq0, bI_eq1, not_true_eq_false, not_false_eq_true, true_implies, false_implies, implies_true, and_true, Bool.not_eq_false, Bool.not_eq_true, Nat.reduceEqDiff, Nat.reduceLeDiff, Classical.not_not, List.length_cons, List.length_nil, Int.reduceAdd, z_cast, Nat.reducePow, false_or, Nat.reduceLT, Nat.sub_zero, Nat.le_refl, h0]
      try simp only [iteP, Classical.not_not, Bool.not_eq_false, Bool.not_eq_true]
      exact ih
    | true =>
      rw [h1, Bool.true_and] at ih
      refine V_run ok_X6_allLive 60 4 ?_
      simp (disch := omega) only [eng, c_X6_allLive, r_X6_allLive, tbl, true_and, Nat.reduceAdd, Nat.reduceLT, ↓reduceIte, n_eq, n_lt, n_le, n_cl, n_inT, nI_add, bI_eq0, bI_eq1, not_true_eq_false, not_false_eq_true, true_implies, false_implies, implies_true, and_true, Bool.not_eq_false, Bool.not_eq_true, Nat.reduceEqDiff, Nat.reduceLeDiff, Classical.not_not, List.length_cons, List.length_nil, Int.reduceAdd, z_cast, Nat.reducePow, false_or, Nat.reduceLT, Nat.sub_zero, Nat.le_refl, h0, Bool.true_eq_false]
      try simp only [iteP, Classical.not_not, Bool.not_eq_false, Bool.not_eq_true]
      refine m_has (m := m) (j := p) (by omega) (by omega) ?_
      cases hb : m.testBit p with
      | false =>
        rw [hb] at ih
        simp (disch := omega) only [n_eq, n_lt, n_le, n_cl, n_inT, nI_add, bI_eq0, bI_eq1, not_true_eq_false, not_false_eq_true, true_implies, false_implies, implies_true, and_true, Bool.not_eq_false, Bool.not_eq_true, Nat.reduceEqDiff, Nat.reduceLeDiff, Classical.not_not, List.length_cons, List.length_nil, Int.reduceAdd, z_cast, Nat.reducePow, false_or, Nat.reduceLT, Nat.sub_zero, Nat.le_refl, true_and, ↓reduceIte, iteP, Bool.false_eq_true]
        exact ih
      | true =>
        rw [hb, Bool.not_true, Bool.false_or] at ih
        simp (disch := omega) only [n_eq, n_lt, n_le, n_cl, n_inT, nI_add, bI_eq0, bI_eq1, not_true_eq_false, not_false_eq_true, true_implies, false_implies, implies_true, and_true, Bool.not_eq_false, Bool.not_eq_true, Nat.reduceEqDiff, Nat.reduceLeDiff, Classical.not_not, List.length_cons, List.length_nil, Int.reduceAdd, z_cast, Nat.reducePow, false_or, Nat.reduceLT, Nat.sub_zero, Nat.le_refl, true_and, ↓reduceIte, iteP, Bool.true_eq_false]
        refine m_livX hW hE ?_
        have e2 : livX E (nI p) = (decide (p < E 12 0) && E 5 p == 1) := by
          unfold livX
          rw [inB_n (by omega), n_cl (by omega)]
        rw [e2]
        cases h3 : (decide (p < E 12 0) && E 5 p == 1)
        all_goals
          rw [h3] at ih
          simp (disch := omega) only [n_eq, n_lt, n_le, n_cl, n_inT, nI_add, bI_eq0, bI_eq1, not_true_eq_false, not_false_eq_true, true_implies, false_implies, implies_true, and_true, Bool.not_eq_false, Bool.not_eq_true, Nat.reduceEqDiff, Nat.reduceLeDiff, Classical.not_not, List.length_cons, List.length_nil, Int.reduceAdd, z_cast, Nat.reducePow, false_or, Nat.reduceLT, Nat.sub_zero, Nat.le_refl, true_and, ↓reduceIte, iteP, Bool.true_eq_false, Bool.false_eq_true]
          exact ih
theorem m_allLive {l : Launch} {m : Nat} {E : Es} {σ : St} {K : Int32 → St → Prop} (hW : Wf E) (hE : ME E σ) (hm : m < 4096) (hK : K (bI (allL E m)) σ) : CallAt l 160 [.ref 900, .int (nI m)] σ K := by
  refine CallAt.of (k := 160) (cd := k_X6_allLive) ok_X6_allLive (by decide) rfl rfl rfl ?_
  show V _ i_X6_allLive k_X6_allLive 0 [.ref 900, .int (nI m), .null, .null] [] _ _
  refine V_run ok_X6_allLive 20 0 ?_
  simp (disch := omega) only [eng, c_X6_allLive, r_X6_allLive, tbl, true_and, Nat.reduceAdd, Nat.reduceLT, ↓reduceIte, n_eq, n_lt, n_le, n_cl, n_inT, nI_add, bI_eq0, bI_eq1, not_true_eq_false, not_false_eq_true, true_implies, false_implies, implies_true, and_true, Bool.not_eq_false, Bool.not_eq_true, Nat.reduceEqDiff, Nat.reduceLeDiff, Classical.not_not, List.length_cons, List.length_nil, Int.reduceAdd, z_cast, Nat.reducePow, false_or, Nat.reduceLT, Nat.sub_zero, Nat.le_refl]
  try simp only [iteP, Classical.not_not, Bool.not_eq_false, Bool.not_eq_true]
  exact lp_allLive l hW hE hm hK 12 0 (by omega)
theorem m_isFew {l : Launch} {x : Int32} {σ : St} {K : Int32 → St → Prop} (hK : K (bI (inB x 4096 && decide (pcnt x.toNatClampNeg ≤ 5))) σ) : CallAt l 161 [.int x] σ K := by
  refine CallAt.of (k := 161) (cd := k_X6_isFew) ok_X6_isFew (by decide) rfl rfl rfl ?_
  show V _ i_X6_isFew k_X6_isFew 0 [.int x] [] _ _
  refine V_run ok_X6_isFew 40 0 ?_
  simp (disch := omega) only [eng, c_X6_isFew, r_X6_isFew, tbl, true_and, Nat.reduceAdd, Nat.reduceLT, ↓reduceIte, n_eq, n_lt, n_le, n_cl, n_inT, nI_add, bI_eq0, bI_eq1, not_true_eq_false, not_false_eq_true, true_implies, false_implies, implies_true, and_true, Bool.not_eq_false, Bool.not_eq_true, Nat.reduceEqDiff, Nat.reduceLeDiff, Classical.not_not, List.length_cons, List.length_nil, Int.reduceAdd, z_cast, Nat.reducePow, false_or, Nat.reduceLT, Nat.sub_zero, Nat.le_refl]
  try simp only [iteP, Classical.not_not, Bool.not_eq_false, Bool.not_eq_true]
  refine m_rI (a := 0) (n := 4095) rfl rfl ?_
  rw [← rI0 x 4095]
  cases h1 : inB x 4096 with
  | false =>
    rw [h1] at hK
    simp (disch := omega) only [n_eq, n_lt, n_le, n_cl, n_inT, nI_add, bI_eq0, bI_eq1, not_true_eq_false, not_false_eq_true, true_implies, false_implies, implies_true, and_true, Bool.not_eq_false, Bool.not_eq_true, Nat.reduceEqDiff, Nat.reduceLeDiff, Classical.not_not, List.length_cons, List.length_nil, Int.reduceAdd, z_cast, Nat.reducePow, false_or, Nat.reduceLT, Nat.sub_zero, Nat.le_refl, true_and, ↓reduceIte, iteP, Bool.false_eq_true]
    exact hK
  | true =>
    obtain ⟨m, hm, rfl⟩ := inB_of h1
    rw [h1, n_cl (by omega), Bool.true_and] at hK
    have hp12 : pcnt m ≤ 12 := pcF_le m 12
    simp (disch := omega) only [n_eq, n_lt, n_le, n_cl, n_inT, nI_add, bI_eq0, bI_eq1, not_true_eq_false, not_false_eq_true, true_implies, false_implies, implies_true, and_true, Bool.not_eq_false, Bool.not_eq_true, Nat.reduceEqDiff, Nat.reduceLeDiff, Classical.not_not, List.length_cons, List.length_nil, Int.reduceAdd, z_cast, Nat.reducePow, false_or, Nat.reduceLT, Nat.sub_zero, Nat.le_refl, true_and, ↓reduceIte, iteP, Bool.true_eq_false]
    refine m_ones hm ?_
    by_cases z : 5 < pcnt m
    · rw [decide_eq_false (by omega)] at hK
      simp (disch := omega) only [n_eq, n_lt, n_le, n_cl, n_inT, nI_add, bI_eq0, bI_eq1, not_true_eq_false, not_false_eq_true, true_implies, false_implies, implies_true, and_true, Bool.not_eq_false, Bool.not_eq_true, Nat.reduceEqDiff, Nat.reduceLeDiff, Classical.not_not, List.length_cons, List.length_nil, Int.reduceAdd, z_cast, Nat.reducePow, false_or, Nat.reduceLT, Nat.sub_zero, Nat.le_refl, true_and, ↓reduceIte, iteP, z]
      exact hK
    · rw [decide_eq_true (by omega)] at hK
      simp (disch := omega) only [n_eq, n_lt, n_le, n_cl, n_inT, nI_add, bI_eq0, bI_eq1, not_true_eq_false, not_false_eq_true, true_implies, false_implies, implies_true, and_true, Bool.not_eq_false, Bool.not_eq_true, Nat.reduceEqDiff, Nat.reduceLeDiff, Classical.not_not, List.length_cons, List.length_nil, Int.reduceAdd, z_cast, Nat.reducePow, false_or, Nat.reduceLT, Nat.sub_zero, Nat.le_refl, true_and, ↓reduceIte, iteP, z]
      exact hK
