theorem c_in : ∀ k, k < 139 → (cC k = 900 ∧ (cI k = 6 ∨ cI k = 11 ∨ cI k = 14)) ∨ (901 ≤ cC k ∧ cC k ≤ 914) := by decide +kernel
theorem c_p : ∀ p, p < 12 → (cC p = 901 ∧ cI p = p) ∧ (cC (12 + p) = 902 ∧ cI (12 + p) = p) ∧ (cC (24 + p) = 903 ∧ cI (24 + p) = p) ∧ (cC (36 + p) = 904 ∧ cI (36 + p) = p) ∧ (cC (48 + p) = 905 ∧ cI (48 + p) = p) ∧ (cC (60 + p) = 906 ∧ cI (60 + p) = p) ∧ (cC (72 + p) = 908 ∧ cI (72 + p) = p) ∧ (cC (84 + p) = 909 ∧ cI (84 + p) = p) ∧ (cC (96 + p) = 910 ∧ cI (96 + p) = p) ∧ (cC (108 + p) = 911 ∧ cI (108 + p) = p) ∧ (cC (120 + p) = 913 ∧ cI (120 + p) = p) := by decide +kernel
theorem c_r : ∀ k, k < 4 → cC (132 + k) = 914 ∧ cI (132 + k) = k := by decide +kernel
/-- which one a cell carries -/
def cA (c i : Nat) : Nat := if c = 900 then (if i = 6 then 136 else if i = 11 then 137 else 138) else if c = 914 then 132 + i else if c = 913 then 120 + i else if c < 907 then 12 * (c - 901) + i else 12 * (c - 902) + i
theorem c_inv : ∀ k, k < 139 → cA (cC k) (cI k) = k := by decide +kernel
theorem lp_store (l : Launch) {c : Nat} {σ0 : St} {K : Int32 → St → Prop} (hc : c = 924 ∨ c = 925) (hK : ∀ σ' : St, (∀ j, j < 139 → σ' c j = σ0 (cC j) (cI j)) → (∀ k, k ≠ c → σ' k = σ0 k) → K 0 σ') : ∀ (n k : Nat) (σ : St), k + n = 139 → (∀ j, j < k → σ c j = σ0 (cC j) (cI j)) → (∀ k, k ≠ c → σ k = σ0 k) → V l i_X6_store k_X6_store 2 [.ref 900, .ref c, .int (nI k)] [] σ K
  | 0, k, σ, hk, h1, h2 => by
    have hk : k = 139 := by omega
    subst hk
    refine V_run ok_X6_store 60 2 ?_
    simp (disch := omega) only [eng, c_X6_store, r_X6_store, tbl, true_and, Nat.reduceAdd, Nat.reduceLT, ↓reduceIte, n_eq, n_lt, n_le, n_cl, n_inT, nI_add, bI_eq0, bI_eq1, not_true_eq_false, not_false_eq_true, true_implies, false_implies, implies_true, and_true, Bool.not_eq_false, Bool.not_eq_true, Nat.reduceEqDiff, Nat.reduceLeDiff, Classical.not_not, List.length_cons, List.length_nil, Int.reduceAdd, z_cast, Nat.reducePow, false_or, Nat.reduceLT, Nat.sub_zero, Nat.le_refl]
    try simp only [iteP, Classical.not_not, Bool.not_eq_false, Bool.not_eq_true]
    exact hK σ h1 h2
  | n + 1, k, σ, hk, h1, h2 => by
    have h0 : ¬ 139 ≤ k := by omega
    have hin := c_in k (by omega)
    have hcls : clsOf c = 7 ∧ lenOf c = 139 := by rcases hc with rfl | rfl <;> exact ⟨rfl, rfl⟩
    refine V_run ok_X6_store 60 2 ?_
    simp (disch := omega) only [eng, c_X6_store, r_X6_store, tbl, true_and, Nat.reduceAdd, Nat.reduceLT, ↓reduceIte, n_eq, n_lt, n_le, n_cl, n_inT, nI_add, bI_eq0, bI_eq1, not_true_eq_false, not_false_eq_true, true_implies, false_implies, implies_true, and_true, Bool.not_eq_false, Bool.not_eq_true, Nat.reduceEqDiff, Nat.reduceLeDiff, Classical.not_not, List.length_cons, List.length_nil, Int.reduceAdd, z_cast, Nat.reducePow, false_or, Nat.reduceLT, Nat.sub_zero, Nat.le_refl, h0, hcls]
    try simp only [iteP, Classical.not_not, Bool.not_eq_false, Bool.not_eq_true]
    refine m_car0 (by omega) ?_
    refine lp_store l hc hK n (k + 1) _ (by omega) (fun j hj => ?_) (fun k' hk' => ?_)
    · by_cases z : j = k
      · subst z
        rw [wr_at, if_pos ⟨rfl, rfl⟩, h2 _ (by omega)]
      · rw [wr_at, if_neg (fun y => z y.2)]; exact h1 j (by omega)
    · rw [wr_ne k' hk']; exact h2 k' hk'
theorem m_store0 {l : Launch} {c : Nat} {σ : St} {K : Int32 → St → Prop} (hc : c = 924 ∨ c = 925) (hK : ∀ σ' : St, (∀ j, j < 139 → σ' c j = σ (cC j) (cI j)) → (∀ k, k ≠ c → σ' k = σ k) → K 0 σ') : CallAt l 164 [.ref 900, .ref c] σ K := by
  refine CallAt.of (k := 164) (cd := k_X6_store) ok_X6_store (by decide) rfl rfl rfl ?_
  show V _ i_X6_store k_X6_store 0 [.ref 900, .ref c, .null] [] _ _
  refine V_run ok_X6_store 20 0 ?_
  simp (disch := omega) only [eng, c_X6_store, r_X6_store, tbl, true_and, Nat.reduceAdd, Nat.reduceLT, ↓reduceIte, n_eq, n_lt, n_le, n_cl, n_inT, nI_add, bI_eq0, bI_eq1, not_true_eq_false, not_false_eq_true, true_implies, false_implies, implies_true, and_true, Bool.not_eq_false, Bool.not_eq_true, Nat.reduceEqDiff, Nat.reduceLeDiff, Classical.not_not, List.length_cons, List.length_nil, Int.reduceAdd, z_cast, Nat.reducePow, false_or, Nat.reduceLT, Nat.sub_zero, Nat.le_refl]
  try simp only [iteP, Classical.not_not, Bool.not_eq_false, Bool.not_eq_true]
  exact lp_store l hc hK 139 0 σ (by omega) (fun j hj => absurd hj (Nat.not_lt_zero j)) (fun _ _ => rfl)
theorem lp_load (l : Launch) {c : Nat} {σ0 : St} {K : Int32 → St → Prop} (hc : c = 924 ∨ c = 925) (hK : ∀ σ' : St, (∀ j, j < 139 → σ' (cC j) (cI j) = σ0 c j) → FrN σ0 σ' → K 0 σ') : ∀ (n k : Nat) (σ : St), k + n = 139 → (∀ j, j < k → σ (cC j) (cI j) = σ0 c j) → FrN σ0 σ → V l i_X6_load k_X6_load 2 [.ref 900, .ref c, .int (nI k)] [] σ K
  | 0, k, σ, hk, h1, h2 => by
    have hk : k = 139 := by omega
    subst hk
    refine V_run ok_X6_load 60 2 ?_
    simp (disch := omega) only [eng, c_X6_load, r_X6_load, tbl, true_and, Nat.reduceAdd, Nat.reduceLT, ↓reduceIte, n_eq, n_lt, n_le, n_cl, n_inT, nI_add, bI_eq0, bI_eq1, not_true_eq_false, not_false_eq_true, true_implies, false_implies, implies_true, and_true, Bool.not_eq_false, Bool.not_eq_true, Nat.reduceEqDiff, Nat.reduceLeDiff, Classical.not_not, List.length_cons, List.length_nil, Int.reduceAdd, z_cast, Nat.reducePow, false_or, Nat.reduceLT, Nat.sub_zero, Nat.le_refl]
    try simp only [iteP, Classical.not_not, Bool.not_eq_false, Bool.not_eq_true]
    exact hK σ h1 h2
  | n + 1, k, σ, hk, h1, h2 => by
    have h0 : ¬ 139 ≤ k := by omega
    have hin := c_in k (by omega)
    have hcls : clsOf c = 7 ∧ lenOf c = 139 := by rcases hc with rfl | rfl <;> exact ⟨rfl, rfl⟩
    have ec : σ c = σ0 c := h2.1 c (by omega) (by omega)
    refine V_run ok_X6_load 60 2 ?_
    simp (disch := omega) only [eng, c_X6_load, r_X6_load, tbl, true_and, Nat.reduceAdd, Nat.reduceLT, ↓reduceIte, n_eq, n_lt, n_le, n_cl, n_inT, nI_add, bI_eq0, bI_eq1, not_true_eq_false, not_false_eq_true, true_implies, false_implies, implies_true, and_true, Bool.not_eq_false, Bool.not_eq_true, Nat.reduceEqDiff, Nat.reduceLeDiff, Classical.not_not, List.length_cons, List.length_nil, Int.reduceAdd, z_cast, Nat.reducePow, false_or, Nat.reduceLT, Nat.sub_zero, Nat.le_refl, h0, hcls]
    try simp only [iteP, Classical.not_not, Bool.not_eq_false, Bool.not_eq_true]
    refine m_car1 (by omega) ?_
    refine lp_load l hc hK n (k + 1) _ (by omega) (fun j hj => ?_) ?_
    · by_cases z : j = k
      · subst z
        rw [wr_at, if_pos ⟨rfl, rfl⟩, ec]
      · rw [wr_at, if_neg (fun y => z (by rw [← c_inv j (by omega), ← c_inv k (by omega), y.1, y.2]))]; exact h1 j (by omega)
    · rcases hin with ⟨q1, q2⟩ | ⟨q1, q2⟩
      · rw [q1]; exact FrN_wr9 h2 q2
      · exact h2.wr q1 q2
theorem m_load0 {l : Launch} {c : Nat} {σ : St} {K : Int32 → St → Prop} (hc : c = 924 ∨ c = 925) (hK : ∀ σ' : St, (∀ j, j < 139 → σ' (cC j) (cI j) = σ c j) → FrN σ σ' → K 0 σ') : CallAt l 165 [.ref 900, .ref c] σ K := by
  refine CallAt.of (k := 165) (cd := k_X6_load) ok_X6_load (by decide) rfl rfl rfl ?_
  show V _ i_X6_load k_X6_load 0 [.ref 900, .ref c, .null] [] _ _
  refine V_run ok_X6_load 20 0 ?_
  simp (disch := omega) only [eng, c_X6_load, r_X6_load, tbl, true_and, Nat.reduceAdd, Nat.reduceLT, ↓reduceIte, n_eq, n_lt, n_le, n_cl, n_inT, nI_add, bI_eq0, bI_eq1, not_true_eq_false, not_false_eq_true, true_implies, false_implies, implies_true, and_true, Bool.not_eq_false, Bool.not_eq_true, Nat.reduceEqDiff, Nat.reduceLeDiff, Classical.not_not, List.length_cons, List.length_nil, Int.reduceAdd, z_cast, Nat.reducePow, false_or, Nat.reduceLT, Nat.sub_zero, Nat.le_refl]
  try simp only [iteP, Classical.not_not, Bool.not_eq_false, Bool.not_eq_true]
  exact lp_load l hc hK 139 0 σ (by omega) (fun j hj => absurd hj (Nat.not_lt_zero j)) FrN.rfl'
theorem ME_KE {c : Nat} {E : Es} {σ σ' : St} (hW : Wf E) (h : ∀ j, j < 139 → σ' c j = σ (cC j) (cI j)) : ME E σ ↔ KE c E σ' := by
  have hp : ∀ p, p < 12 → σ' c p = σ 901 p ∧ σ' c (12 + p) = σ 902 p ∧ σ' c (24 + p) = σ 903 p ∧ σ' c (36 + p) = σ 904 p ∧ σ' c (48 + p) = σ 905 p ∧ σ' c (60 + p) = σ 906 p ∧ σ' c (72 + p) = σ 908 p ∧ σ' c (84 + p) = σ 909 p ∧ σ' c (96 + p) = σ 910 p ∧ σ' c (108 + p) = σ 911 p ∧ σ' c (120 + p) = σ 913 p := fun p hp => by
    have e := c_p p hp
    rw [h p (by omega), h (12 + p) (by omega), h (24 + p) (by omega), h (36 + p) (by omega), h (48 + p) (by omega), h (60 + p) (by omega), h (72 + p) (by omega), h (84 + p) (by omega), h (96 + p) (by omega), h (108 + p) (by omega), h (120 + p) (by omega)]
    simp only [e, true_and]
  have hr : ∀ k, k < 4 → σ' c (132 + k) = σ 914 k := fun k hk => by rw [h (132 + k) (by omega), (c_r k hk).1, (c_r k hk).2]
  have g0 : σ' c 136 = σ 900 6 := h 136 (by decide)
  have g1 : σ' c 137 = σ 900 11 := h 137 (by decide)
  have g2 : σ' c 138 = σ 900 14 := h 138 (by decide)
  unfold ME KE
  rw [g0, g1, g2]
  constructor
  · rintro ⟨a1, a2, a3, a4, a5, a6⟩
    refine ⟨a1, a2, a3, fun p hp' => ?_, fun t ht => ?_, fun k hk => ?_⟩
    · simp only [hp p (p12 hW hp')]; exact a4 p hp'
    · simp only [hp t (t12 hW ht)]; exact a5 t ht
    · have w3 := (hW.2.2.2.2.2 k hk).2.1
      rw [hr k hk]
      refine ⟨(a6 k hk).1, fun i hi => ?_⟩
      rw [(hp (3 * k + i) (by omega)).2.2.2.2.2.2.2.2.2.2]; exact (a6 k hk).2 i hi
  · rintro ⟨a1, a2, a3, a4, a5, a6⟩
    refine ⟨a1, a2, a3, fun p hp' => ?_, fun t ht => ?_, fun k hk => ?_⟩
    · have := a4 p hp'; simp only [hp p (p12 hW hp')] at this; exact this
    · have := a5 t ht; simp only [hp t (t12 hW ht)] at this; exact this
    · have w3 := (hW.2.2.2.2.2 k hk).2.1
      have := a6 k hk
      rw [hr k hk] at this
      refine ⟨this.1, fun i hi => ?_⟩
      have := this.2 i hi
      rw [(hp (3 * k + i) (by omega)).2.2.2.2.2.2.2.2.2.2] at this; exact this
theorem m_store {l : Launch} {c : Nat} {E : Es} {σ : St} {K : Int32 → St → Prop} (hc : c = 924 ∨ c = 925) (hW : Wf E) (hE : ME E σ) (hK : ∀ σ', KE c E σ' → (∀ k, k ≠ c → σ' k = σ k) → K 0 σ') : CallAt l 164 [.ref 900, .ref c] σ K :=
  m_store0 hc (fun σ' h1 h2 => hK σ' ((ME_KE hW h1).mp hE) h2)
theorem m_load {l : Launch} {c : Nat} {E : Es} {σ : St} {K : Int32 → St → Prop} (hc : c = 924 ∨ c = 925) (hW : Wf E) (hE : KE c E σ) (hK : ∀ σ', ME E σ' → FrN σ σ' → K 0 σ') : CallAt l 165 [.ref 900, .ref c] σ K :=
  m_load0 hc (fun σ' h1 h2 => hK σ' ((ME_KE hW (fun j hj => (h1 j hj).symm)).mpr hE) h2)
theorem M_image {l : Launch} {A : AS} {σ : St} {K : Int32 → St → Prop} (hM : MX A σ) (hK : ∀ σ', MX (op_image A).2 σ' → FrM σ σ' → K (op_image A).1 σ') : CallAt l 166 [.ref 900] σ K := by
  have hW := hM.1.1
  have hE := hM.2.1
  unfold op_image at hK
  refine CallAt.of (k := 166) (cd := k_X6_image) ok_X6_image (by decide) rfl rfl rfl ?_
  show V _ i_X6_image k_X6_image 0 [.ref 900] [] _ _
  refine V_run ok_X6_image 60 0 ?_
  simp (disch := omega) only [eng, c_X6_image, r_X6_image, tbl, true_and, Nat.reduceAdd, Nat.reduceLT, ↓reduceIte, n_eq, n_lt, n_le, n_cl, n_inT, nI_add, bI_eq0, bI_eq1, not_true_eq_false, not_false_eq_true, true_implies, false_implies, implies_true, and_true, Bool.not_eq_false, Bool.not_eq_true, Nat.reduceEqDiff, Nat.reduceLeDiff, Classical.not_not, List.length_cons, List.length_nil, Int.reduceAdd, z_cast, Nat.reducePow, false_or, Nat.reduceLT, Nat.sub_zero, Nat.le_refl]
  try simp only [iteP, Classical.not_not, Bool.not_eq_false, Bool.not_eq_true]
  refine m_store (Or.inl rfl) hW hE (fun σ' h1 h2 => ?_)
  obtain ⟨a1, a2, a3, a4, a5, a6⟩ := hM
  have g : ∀ k, k ≠ 924 → k ≠ 900 → wr σ' 900 22 (nI 1) k = σ k := fun k z1 z2 => by rw [wr_ne k z2]; exact h2 k z1
  have g9 : ∀ j, j ≠ 22 → wr σ' 900 22 (nI 1) 900 j = σ 900 j := fun j z => by rw [wr_at, if_neg (fun y => z y.2), h2 900 (by decide)]
  refine hK _ ⟨⟨a1.1, fun E' he => by cases he; exact a1.1, a1.2.2⟩, a2.fr (fun k _ _ => g k (by omega) (by omega)) (g9 6 (by decide)) (g9 11 (by decide)) (g9 14 (by decide)), by simp [wr_at]; rfl, fun E' he => by cases he; exact h1.frame (wr_ne 924 (by decide)), ⟨by rw [g9 16 (by decide)]; exact a5.1, fun i hi => by rw [g 916 (by decide) (by decide)]; exact a5.2 i hi⟩, ⟨fun s hs => by rw [g 926 (by decide) (by decide), g 927 (by decide) (by decide)]; exact a6.1 s hs, fun j hj => by rw [g 928 (by decide) (by decide)]; exact a6.2 j hj⟩⟩ (fun k hk => g k (by omega) (by omega))
theorem M_restore {l : Launch} {A : AS} {σ : St} {K : Int32 → St → Prop} (hM : MX A σ) (hK : ∀ σ', MX (op_restore A).2 σ' → FrM σ σ' → K (op_restore A).1 σ') : CallAt l 167 [.ref 900] σ K := by
  have hi := hM.2.2.1
  unfold op_restore at hK
  cases h : A.2.1 with
  | none =>
    rw [h] at hi hK
    have hi : σ 900 22 = nI 0 := hi
    refine CallAt.of (k := 167) (cd := k_X6_restore) ok_X6_restore (by decide) rfl rfl rfl ?_
    show V _ i_X6_restore k_X6_restore 0 [.ref 900] [] _ _
    refine V_run ok_X6_restore 60 0 ?_
    simp (disch := omega) only [eng, c_X6_restore, r_X6_restore, tbl, true_and, Nat.reduceAdd, Nat.reduceLT, ↓reduceIte, n_eq, n_lt, n_le, n_cl, n_inT, nI_add, bI_eq0, bI_eq1, not_true_eq_false, not_false_eq_true, true_implies, false_implies, implies_true, and_true, Bool.not_eq_false, Bool.not_eq_true, Nat.reduceEqDiff, Nat.reduceLeDiff, Classical.not_not, List.length_cons, List.length_nil, Int.reduceAdd, z_cast, Nat.reducePow, false_or, Nat.reduceLT, Nat.sub_zero, Nat.le_refl, hi]
    try simp only [iteP, Classical.not_not, Bool.not_eq_false, Bool.not_eq_true]
    exact hK σ hM FrM.rfl'
  | some E =>
    rw [h] at hi hK
    have hi : σ 900 22 = nI 1 := hi
    have hWE := hM.1.2.1 E h
    refine CallAt.of (k := 167) (cd := k_X6_restore) ok_X6_restore (by decide) rfl rfl rfl ?_
    show V _ i_X6_restore k_X6_restore 0 [.ref 900] [] _ _
    refine V_run ok_X6_restore 60 0 ?_
    simp (disch := omega) only [eng, c_X6_restore, r_X6_restore, tbl, true_and, Nat.reduceAdd, Nat.reduceLT, ↓reduceIte, n_eq, n_lt, n_le, n_cl, n_inT, nI_add, bI_eq0, bI_eq1, not_true_eq_false, not_false_eq_true, true_implies, false_implies, implies_true, and_true, Bool.not_eq_false, Bool.not_eq_true, Nat.reduceEqDiff, Nat.reduceLeDiff, Classical.not_not, List.length_cons, List.length_nil, Int.reduceAdd, z_cast, Nat.reducePow, false_or, Nat.reduceLT, Nat.sub_zero, Nat.le_refl, hi]
    try simp only [iteP, Classical.not_not, Bool.not_eq_false, Bool.not_eq_true]
    refine m_load (Or.inl rfl) hWE (hM.2.2.2.1 E h) (fun σ' hE' hf' => ?_)
    exact hK σ' (hM.es hf' hWE hE') hf'.m
