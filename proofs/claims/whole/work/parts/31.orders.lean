/-! orders -/
def cb (m : Nat) : Nat → Nat
  | 0 => 0
  | p + 1 => cb m p + (m.testBit p).toNat
theorem cb_mono (m : Nat) {p q : Nat} (h : p ≤ q) : cb m p ≤ cb m q := by
  induction q with
  | zero => have : p = 0 := by omega
            subst this; exact Nat.le_refl _
  | succ q ih =>
    by_cases e : p = q + 1
    · subst e; exact Nat.le_refl _
    · have := ih (by omega)
      show cb m p ≤ cb m q + (m.testBit q).toNat
      omega
theorem cb_le (m : Nat) : ∀ p, cb m p ≤ p
  | 0 => Nat.le_refl 0
  | p + 1 => by
    have := cb_le m p
    show cb m p + (m.testBit p).toNat ≤ p + 1
    cases m.testBit p <;> simp <;> omega
theorem nth_cb (m : Nat) : ∀ n, n ≤ 12 → ∀ p, 12 - n ≤ p → p < 12 → m.testBit p = true → nthF m n (cb m p - cb m (12 - n)) = p
  | 0, _, p, h1, h2, _ => by omega
  | n + 1, hn, p, h1, h2, hb => by
    have e : 12 - (n + 1) = 11 - n := by omega
    rw [e] at h1 ⊢
    have e2 : 12 - n = 11 - n + 1 := by omega
    unfold nthF
    by_cases hp : p = 11 - n
    · rw [← hp, if_pos hb, if_pos (by omega)]
    · have ih := nth_cb m n (by omega) p (by omega) h2 hb
      rw [e2] at ih
      have hm := cb_mono m (show 11 - n + 1 ≤ p by omega)
      have hc : cb m (11 - n + 1) = cb m (11 - n) + (m.testBit (11 - n)).toNat := rfl
      by_cases hq : m.testBit (11 - n) = true
      · rw [hq] at hc
        have hc : cb m (11 - n + 1) = cb m (11 - n) + 1 := hc
        rw [if_pos hq, if_neg (by omega)]
        rw [show cb m p - cb m (11 - n) - 1 = cb m p - cb m (11 - n + 1) by omega]
        exact ih
      · have hq' : m.testBit (11 - n) = false := by simpa using hq
        rw [hq'] at hc
        have hc : cb m (11 - n + 1) = cb m (11 - n) := hc
        rw [if_neg hq, ← hc]
        exact ih
theorem nth_of_cb {m p : Nat} (hp : p < 12) (hb : m.testBit p = true) : nthF m 12 (cb m p) = p := by
  have := nth_cb m 12 (by omega) p (by omega) hp hb
  simpa [cb] using this
theorem pc_cb (m : Nat) : ∀ n, n ≤ 12 → pcF m n + cb m (12 - n) = cb m 12
  | 0, _ => by simp [pcF]
  | n + 1, hn => by
    have ih := pc_cb m n (by omega)
    have e : 12 - n = 11 - n + 1 := by omega
    have e2 : 12 - (n + 1) = 11 - n := by omega
    rw [e] at ih
    rw [e2]
    have hc : cb m (11 - n + 1) = cb m (11 - n) + (m.testBit (11 - n)).toNat := rfl
    unfold pcF
    omega
theorem pcnt_cb (m : Nat) : pcnt m = cb m 12 := by
  have := pc_cb m 12 (by omega)
  simpa [cb, pcnt] using this
def fct : Nat → Nat
  | 0 => 1
  | n + 1 => fct n * (n + 1)
theorem fct5 {n : Nat} (h : n ≤ 5) : fct n ≤ 120 := by
  rcases (show n = 0 ∨ n = 1 ∨ n = 2 ∨ n = 3 ∨ n = 4 ∨ n = 5 by omega) with rfl | rfl | rfl | rfl | rfl | rfl <;> decide
theorem x_takes {l : Launch} {x : Int32} {σ : St} {K : Int32 → St → Prop} (hK : K (bI (inB x 4096 && decide (pcnt x.toNatClampNeg ≤ 5))) σ) : CallAt l 33 [.int x] σ K := by
  refine CallAt.of (k := 33) (cd := k_X1_takes) ok_X1_takes (by decide) rfl rfl rfl ?_
  show V _ i_X1_takes k_X1_takes 0 [.int x] [] _ _
  refine V_run ok_X1_takes 50 0 ?_
  simp (disch := omega) only [eng, c_X1_takes, r_X1_takes, tbl, true_and, Nat.reduceAdd, Nat.reduceLT, ↓reduceIte, n_eq, n_lt, n_le, n_cl, n_inT, nI_add, bI_eq0, bI_eq1, not_true_eq_false, not_false_eq_true, true_implies, false_implies, implies_true, and_true, Bool.not_eq_false, Bool.not_eq_true, Nat.reduceEqDiff, Nat.reduceLeDiff, Classical.not_not, List.length_cons, List.length_nil, Int.reduceAdd, z_cast, Nat.reducePow, false_or, Nat.reduceLT, Nat.sub_zero, Nat.le_refl]
  try simp only [iteP, Classical.not_not, Bool.not_eq_false, Bool.not_eq_true]
  refine ⟨fun h => ?_, fun h => ⟨fun h2 => ?_, fun h2 => ?_⟩⟩
  · rw [inB_neg h] at hK; exact hK
  · have : inB x 4096 = false := by rw [i_lt, nI_nn 4095 (by decide)] at h2; simp [inB]; omega
    rw [this] at hK; exact hK
  · have h3 : inB x 4096 = true := by rw [i_lt, nI_nn 4095 (by decide)] at h2; rw [i_lt, nI_nn 0 (by decide)] at h; simp [inB]; omega
    obtain ⟨m, hm, rfl⟩ := inB_of h3
    rw [h3, n_cl (by omega)] at hK
    refine x_bitCount hm ?_
    have := pcF_le m 12
    have : pcnt m ≤ 12 := this
    simp (disch := omega) only [n_eq, n_lt, n_le, n_cl, n_inT, nI_add, bI_eq0, bI_eq1, not_true_eq_false, not_false_eq_true, true_implies, false_implies, implies_true, and_true, Bool.not_eq_false, Bool.not_eq_true, Nat.reduceEqDiff, Nat.reduceLeDiff, Classical.not_not, List.length_cons, List.length_nil, Int.reduceAdd, z_cast, Nat.reducePow, false_or, Nat.reduceLT, Nat.sub_zero, Nat.le_refl, true_and, ↓reduceIte, iteP]
    refine ⟨fun h4 => ?_, fun h4 => ?_⟩
    · rw [decide_eq_false (by omega)] at hK; exact hK
    · rw [decide_eq_true (by omega)] at hK; exact hK
theorem lp_gather (l : Launch) {m : Nat} {σ0 : St} {K : Int32 → St → Prop} (hm : m < 4096) (h5 : pcnt m ≤ 5) (hK : ∀ σ' : St, σ' 600 3 = nI (pcnt m) → σ' 600 4 = nI (fct (pcnt m)) → (∀ i, i < pcnt m → σ' 601 i = nI (nthF m 12 i)) → (∀ k, k ≠ 600 → k ≠ 601 → σ' k = σ0 k) → K 0 σ') : ∀ (n p : Nat) (σ : St), p + n = 12 → σ 600 3 = nI (cb m p) → σ 600 4 = nI (fct (cb m p)) → (∀ i, i < cb m p → σ 601 i = nI (nthF m 12 i)) → (∀ k, k ≠ 600 → k ≠ 601 → σ k = σ0 k) → V l i_X1_gather k_X1_gather 8 [.ref 600, .int (nI m), .int (nI p)] [] σ K
  | 0, p, σ, hp, g1, g2, g3, g4 => by
    have hp : p = 12 := by omega
    subst hp
    rw [← pcnt_cb] at g1 g2 g3
    refine V_run ok_X1_gather 60 8 ?_
    simp (disch := omega) only [eng, c_X1_gather, r_X1_gather, tbl, true_and, Nat.reduceAdd, Nat.reduceLT, ↓reduceIte, n_eq, n_lt, n_le, n_cl, n_inT, nI_add, bI_eq0, bI_eq1, not_true_eq_false, not_false_eq_true, true_implies, false_implies, implies_true, and_true, Bool.not_eq_false, Bool.not_eq_true, Nat.reduceEqDiff, Nat.reduceLeDiff, Classical.not_not, List.length_cons, List.length_nil, Int.reduceAdd, z_cast, Nat.reducePow, false_or, Nat.reduceLT, Nat.sub_zero, Nat.le_refl]
    try simp only [iteP, Classical.not_not, Bool.not_eq_false, Bool.not_eq_true]
    exact hK σ g1 g2 g3 g4
  | n + 1, p, σ, hp, g1, g2, g3, g4 => by
    have hp1 : ¬ 12 ≤ p := by omega
    have hcp := cb_mono m (show p + 1 ≤ 12 by omega)
    rw [← pcnt_cb] at hcp
    have hc : cb m (p + 1) = cb m p + (m.testBit p).toNat := rfl
    have hf := fct5 (show cb m p ≤ 5 by omega)
    refine V_run ok_X1_gather 60 8 ?_
    simp (disch := omega) only [eng, c_X1_gather, r_X1_gather, tbl, true_and, Nat.reduceAdd, Nat.reduceLT, ↓reduceIte, n_eq, n_lt, n_le, n_cl, n_inT, nI_add, bI_eq0, bI_eq1, not_true_eq_false, not_false_eq_true, true_implies, false_implies, implies_true, and_true, Bool.not_eq_false, Bool.not_eq_true, Nat.reduceEqDiff, Nat.reduceLeDiff, Classical.not_not, List.length_cons, List.length_nil, Int.reduceAdd, z_cast, Nat.reducePow, false_or, Nat.reduceLT, Nat.sub_zero, Nat.le_refl, hp1, g1, g2, wrq]
    try simp only [iteP, Classical.not_not, Bool.not_eq_false, Bool.not_eq_true]
    refine x_has (m := m) (j := p) (by omega) (by omega) ?_
    cases hb : m.testBit p with
    | false =>
      rw [hb] at hc
      have hc : cb m (p + 1) = cb m p := hc
      simp (disch := omega) only [n_eq, n_lt, n_le, n_cl, n_inT, nI_add, bI_eq0, bI_eq1, not_true_eq_false, not_false_eq_true, true_implies, false_implies, implies_true, and_true, Bool.not_eq_false, Bool.not_eq_true, Nat.reduceEqDiff, Nat.reduceLeDiff, Classical.not_not, List.length_cons, List.length_nil, Int.reduceAdd, z_cast, Nat.reducePow, false_or, Nat.reduceLT, Nat.sub_zero, Nat.le_refl, true_and, ↓reduceIte, iteP, Bool.false_eq_true]
      exact lp_gather l hm h5 hK n (p + 1) σ (by omega) (by rw [hc]; exact g1) (by rw [hc]; exact g2) (by rw [hc]; exact g3) g4
    | true =>
      rw [hb] at hc
      have hc : cb m (p + 1) = cb m p + 1 := hc
      have h6 : ¬ 5 ≤ cb m p := by omega
      simp (disch := omega) only [n_eq, n_lt, n_le, n_cl, n_inT, nI_add, bI_eq0, bI_eq1, not_true_eq_false, not_false_eq_true, true_implies, false_implies, implies_true, and_true, Bool.not_eq_false, Bool.not_eq_true, Nat.reduceEqDiff, Nat.reduceLeDiff, Classical.not_not, List.length_cons, List.length_nil, Int.reduceAdd, z_cast, Nat.reducePow, false_or, Nat.reduceLT, Nat.sub_zero, Nat.le_refl, true_and, ↓reduceIte, iteP, Bool.true_eq_false, g1, g2, wrq, h6, pk_mul]
      refine lp_gather l hm h5 hK n (p + 1) _ (by omega) ?_ ?_ ?_ ?_
      · rw [hc]; simp (disch := omega) only [wrq]
      · rw [hc]; simp (disch := omega) only [wrq]; rfl
      · intro i hi
        rw [hc] at hi
        by_cases e : i = cb m p
        · subst e
          simp (disch := omega) only [wrq]
          rw [nth_of_cb (by omega) hb]
        · simp (disch := omega) only [wrq]
          exact g3 i (by omega)
      · intro k h1 h2
        simp (disch := omega) only [wrq]
        exact g4 k h1 h2
theorem x_gather {l : Launch} {m : Nat} {σ : St} {K : Int32 → St → Prop} (hm : m < 4096) (h5 : pcnt m ≤ 5) (hK : ∀ σ' : St, σ' 600 3 = nI (pcnt m) → σ' 600 4 = nI (fct (pcnt m)) → (∀ i, i < pcnt m → σ' 601 i = nI (nthF m 12 i)) → (∀ k, k ≠ 600 → k ≠ 601 → σ' k = σ k) → K 0 σ') : CallAt l 34 [.ref 600, .int (nI m)] σ K := by
  refine CallAt.of (k := 34) (cd := k_X1_gather) ok_X1_gather (by decide) rfl rfl rfl ?_
  show V _ i_X1_gather k_X1_gather 0 [.ref 600, .int (nI m), .null] [] _ _
  refine V_run ok_X1_gather 60 0 ?_
  simp (disch := omega) only [eng, c_X1_gather, r_X1_gather, tbl, true_and, Nat.reduceAdd, Nat.reduceLT, ↓reduceIte, n_eq, n_lt, n_le, n_cl, n_inT, nI_add, bI_eq0, bI_eq1, not_true_eq_false, not_false_eq_true, true_implies, false_implies, implies_true, and_true, Bool.not_eq_false, Bool.not_eq_true, Nat.reduceEqDiff, Nat.reduceLeDiff, Classical.not_not, List.length_cons, List.length_nil, Int.reduceAdd, z_cast, Nat.reducePow, false_or, Nat.reduceLT, Nat.sub_zero, Nat.le_refl]
  try simp only [iteP, Classical.not_not, Bool.not_eq_false, Bool.not_eq_true]
  refine lp_gather l hm h5 hK 12 0 _ (by omega) ?_ ?_ ?_ ?_
  · simp (disch := omega) only [wrq, cb]
  · simp (disch := omega) only [wrq, cb, fct]
  · intro i hi; exact absurd hi (Nat.not_lt_zero i)
  · intro k h1 h2
    simp (disch := omega) only [wrq]
/-- the row of places that a code tells, out of those that are left -/
def layL : Nat → List Nat → Nat → List Nat
  | 0, _, _ => []
  | n + 1, L, c => L.getD (c % (n + 1)) 0 :: layL n (L.eraseIdx (c % (n + 1))) (c / (n + 1))
theorem lp_shift (l : Launch) {ch cs c : Nat} {r1 : Int32} {i0 : Int32} {a : Nat → Int32} {σ0 : St} {K : Int32 → St → Prop} (hcs : cs < ch) (hch : ch ≤ 5)
    (hN : ∀ σ : St, (∀ j, j < ch - 1 → σ 602 j = if j < cs then a j else a (j + 1)) → (∀ k, k ≠ 602 → σ k = σ0 k) → V l i_X1_lay k_X1_lay 56 [.ref 600, .int (nI c), .int r1, .int i0, .int (nI ch), .int (nI cs), .int (nI ch)] [] σ K) : ∀ (n j : Nat) (σ : St), j + n = ch → cs < j → (∀ i, i < ch → σ 602 i = if i < cs then a i else if i < j - 1 then a (i + 1) else a i) → (∀ k, k ≠ 602 → σ k = σ0 k) → V l i_X1_lay k_X1_lay 41 [.ref 600, .int (nI c), .int r1, .int i0, .int (nI ch), .int (nI cs), .int (nI j)] [] σ K
  | 0, j, σ, hj, h1, h2, h3 => by
    have hj : j = ch := by omega
    subst hj
    refine V_run ok_X1_lay 3 41 ?_
    simp (disch := omega) only [eng, c_X1_lay, r_X1_lay, tbl, true_and, Nat.reduceAdd, Nat.reduceLT, ↓reduceIte, n_eq, n_lt, n_le, n_cl, n_inT, nI_add, bI_eq0, bI_eq1, not_true_eq_false, not_false_eq_true, true_implies, false_implies, implies_true, and_true, Bool.not_eq_false, Bool.not_eq_true, Nat.reduceEqDiff, Nat.reduceLeDiff, Classical.not_not, List.length_cons, List.length_nil, Int.reduceAdd, z_cast, Nat.reducePow, false_or, Nat.reduceLT, Nat.sub_zero, Nat.le_refl]
    try simp only [iteP, Classical.not_not, Bool.not_eq_false, Bool.not_eq_true]
    refine hN σ (fun i hi => ?_) h3
    rw [h2 i (by omega)]
    by_cases z : i < cs
    · rw [if_pos z, if_pos z]
    · rw [if_neg z, if_neg z, if_pos hi]
  | n + 1, j, σ, hj, h1, h2, h3 => by
    have hj1 : ¬ ch ≤ j := by omega
    have e := pk_sub (a := j) (b := 1) (by omega)
    refine V_run ok_X1_lay 60 41 ?_
    simp (disch := omega) only [eng, c_X1_lay, r_X1_lay, tbl, true_and, Nat.reduceAdd, Nat.reduceLT, ↓reduceIte, n_eq, n_lt, n_le, n_cl, n_inT, nI_add, bI_eq0, bI_eq1, not_true_eq_false, not_false_eq_true, true_implies, false_implies, implies_true, and_true, Bool.not_eq_false, Bool.not_eq_true, Nat.reduceEqDiff, Nat.reduceLeDiff, Classical.not_not, List.length_cons, List.length_nil, Int.reduceAdd, z_cast, Nat.reducePow, false_or, Nat.reduceLT, Nat.sub_zero, Nat.le_refl, hj1, e]
    try simp only [iteP, Classical.not_not, Bool.not_eq_false, Bool.not_eq_true]
    refine lp_shift l hcs hch hN n (j + 1) _ (by omega) (by omega) (fun i hi => ?_) (fun k hk => ?_)
    · rw [wr_at]
      by_cases z : i = j - 1
      · subst z
        rw [if_pos ⟨rfl, rfl⟩, h2 j (by omega), if_neg (by omega), if_neg (by omega), if_neg (by omega), if_pos (by omega)]
        congr 1; omega
      · rw [if_neg (fun y => z y.2), h2 i hi]
        by_cases y : i < cs
        · rw [if_pos y, if_pos y]
        · rw [if_neg y, if_neg y]
          by_cases x : i < j - 1
          · rw [if_pos x, if_pos (by omega)]
          · rw [if_neg x, if_neg (by omega)]
    · simp (disch := omega) only [wrq]
      exact h3 k hk
