theorem n_and7 (m : Nat) : nI m &&& nI 7 = nI (m % 8) := by rw [fa_and, show (7 : Nat) = 2 ^ 3 - 1 by decide, Nat.and_two_pow_sub_one_eq_mod]
theorem dig {E : Es} {k i : Nat} (h : WfR E k) (hi : i < E 11 k) : rw8 E k / 2 ^ (3 * i) % 8 = E 10 (3 * k + i) := by
  obtain ⟨h1, h2, h3⟩ := h
  have d0 := h3 0 (by omega)
  rw [Nat.add_zero] at d0
  unfold rw8
  rcases (show i = 0 ∨ i = 1 ∨ i = 2 by omega) with rfl | rfl | rfl
  · have e : (if 2 ≤ E 11 k then 8 * E 10 (3 * k + 1) else 0) % 8 = 0 := by split <;> omega
    have e2 : (if 3 ≤ E 11 k then 64 * E 10 (3 * k + 2) else 0) % 8 = 0 := by split <;> omega
    simp only [Nat.mul_zero, Nat.pow_zero, Nat.div_one, Nat.add_zero]
    omega
  · rw [if_pos (by omega)]
    have d1 := h3 1 (by omega)
    have e2 : (if 3 ≤ E 11 k then 64 * E 10 (3 * k + 2) else 0) % 64 = 0 := by split <;> omega
    simp only [Nat.mul_one, show (2 : Nat) ^ 3 = 8 by decide]
    omega
  · rw [if_pos (by omega), if_pos (by omega)]
    have d1 := h3 1 (by omega)
    have d2 := h3 2 (by omega)
    simp only [show 3 * 2 = 6 by decide, show (2 : Nat) ^ 6 = 64 by decide]
    omega
theorem rw8_lt {E : Es} {k : Nat} (h : WfR E k) : rw8 E k < 512 := by
  obtain ⟨h1, h2, h3⟩ := h
  have d0 := h3 0 (by omega)
  rw [Nat.add_zero] at d0
  unfold rw8
  by_cases g1 : 2 ≤ E 11 k
  · have d1 := h3 1 (by omega)
    rw [if_pos g1]
    by_cases g2 : 3 ≤ E 11 k
    · have d2 := h3 2 (by omega)
      rw [if_pos g2]; omega
    · rw [if_neg g2]; omega
  · rw [if_neg g1, if_neg (by omega)]; omega
theorem kin_lt {E : Es} (hW : Wf E) (p r : Nat) : kin E p r < 4096 := bits12 hW.1
theorem lp_heirBy (l : Launch) {b p k : Nat} {E : Es} {σ : St} {K : Int32 → St → Prop} (hb : Eb b) (hW : Wf E) (hE : XE b E σ) (hp : p < E 12 0) (hk : k < 4) : ∀ (n i : Nat), i + n = E 11 k → K (nI (heiF E p k n i)) σ → ∀ v4 : Value, V l i_X0_heirBy k_X0_heirBy 2 [.ref b, .int (nI p), .int (nI k), .int (nI i), v4] [] σ K
  | 0, i, hi, hK, v4 => by
    have hi : i = E 11 k := by omega
    subst hi
    have wr := hW.2.2.2.2.2 k hk
    have fk := hE.2.2.2.2.2.2 k hk
    have := wr.2.1
    refine V_run ok_X0_heirBy 60 2 ?_
    simp (disch := omega) only [eng, c_X0_heirBy, r_X0_heirBy, tbl, true_and, Nat.reduceAdd, Nat.reduceLT, ↓reduceIte, n_eq, n_lt, n_le, n_cl, n_inT, nI_add, bI_eq0, bI_eq1, not_true_eq_false, not_false_eq_true, true_implies, false_implies, implies_true, and_true, Bool.not_eq_false, Bool.not_eq_true, Nat.reduceEqDiff, Nat.reduceLeDiff, Classical.not_not, List.length_cons, List.length_nil, Int.reduceAdd, z_cast, Nat.reducePow, false_or, Nat.reduceLT, Nat.sub_zero, Nat.le_refl, ebT hb, fk]
    try simp only [iteP, Classical.not_not, Bool.not_eq_false, Bool.not_eq_true]
    exact hK
  | n + 1, i, hi, hK, v4 => by
    have hi1 : i < E 11 k := by omega
    have wr := hW.2.2.2.2.2 k hk
    have fk := hE.2.2.2.2.2.2 k hk
    have h3 := wr.2.1
    have h5 := wr.2.2 i hi1
    have h8 := rw8_lt wr
    have hkl := kin_lt hW p (E 10 (3 * k + i))
    have e1 := n_shr (m := rw8 E k) (j := 3 * i) (by omega) (by omega)
    refine V_run ok_X0_heirBy 60 2 ?_
    simp (disch := omega) only [eng, c_X0_heirBy, r_X0_heirBy, tbl, true_and, Nat.reduceAdd, Nat.reduceLT, ↓reduceIte, n_eq, n_lt, n_le, n_cl, n_inT, nI_add, bI_eq0, bI_eq1, not_true_eq_false, not_false_eq_true, true_implies, false_implies, implies_true, and_true, Bool.not_eq_false, Bool.not_eq_true, Nat.reduceEqDiff, Nat.reduceLeDiff, Classical.not_not, List.length_cons, List.length_nil, Int.reduceAdd, z_cast, Nat.reducePow, false_or, Nat.reduceLT, Nat.sub_zero, Nat.le_refl, ebT hb, fk, Nat.not_le.mpr hi1, pk_mul, e1, n_and7, dig wr hi1]
    try simp only [iteP, Classical.not_not, Bool.not_eq_false, Bool.not_eq_true]
    refine x_related hb hW hE hp h5 ?_
    unfold heiF at hK
    simp (disch := omega) only [n_eq, n_lt, n_le, n_cl, n_inT, nI_add, bI_eq0, bI_eq1, not_true_eq_false, not_false_eq_true, true_implies, false_implies, implies_true, and_true, Bool.not_eq_false, Bool.not_eq_true, Nat.reduceEqDiff, Nat.reduceLeDiff, Classical.not_not, List.length_cons, List.length_nil, Int.reduceAdd, z_cast, Nat.reducePow, false_or, Nat.reduceLT, Nat.sub_zero, Nat.le_refl, true_and, ↓reduceIte, iteP]
    refine ⟨fun h => ?_, fun h => ?_⟩
    · rw [if_pos h] at hK
      exact lp_heirBy l hb hW hE hp hk n (i + 1) (by omega) hK _
    · rw [if_neg h] at hK
      exact x_member (by omega) (by omega) hK
theorem x_heirBy {l : Launch} {b p k : Nat} {E : Es} {σ : St} {K : Int32 → St → Prop} (hb : Eb b) (hW : Wf E) (hE : XE b E σ) (hp : p < E 12 0) (hk : k < 4) (hK : K (nI (heir E p k)) σ) : CallAt l 19 [.ref b, .int (nI p), .int (nI k)] σ K := by
  refine CallAt.of (k := 19) (cd := k_X0_heirBy) ok_X0_heirBy (by decide) rfl rfl rfl ?_
  show V _ i_X0_heirBy k_X0_heirBy 0 [.ref b, .int (nI p), .int (nI k), .null, .null] [] _ _
  refine V_run ok_X0_heirBy 50 0 ?_
  simp (disch := omega) only [eng, c_X0_heirBy, r_X0_heirBy, tbl, true_and, Nat.reduceAdd, Nat.reduceLT, ↓reduceIte, n_eq, n_lt, n_le, n_cl, n_inT, nI_add, bI_eq0, bI_eq1, not_true_eq_false, not_false_eq_true, true_implies, false_implies, implies_true, and_true, Bool.not_eq_false, Bool.not_eq_true, Nat.reduceEqDiff, Nat.reduceLeDiff, Classical.not_not, List.length_cons, List.length_nil, Int.reduceAdd, z_cast, Nat.reducePow, false_or, Nat.reduceLT, Nat.sub_zero, Nat.le_refl]
  try simp only [iteP, Classical.not_not, Bool.not_eq_false, Bool.not_eq_true]
  exact lp_heirBy l hb hW hE hp hk (E 11 k) 0 (by omega) hK _
/-! counts and sums over things -/
def cnt (E : Es) (w : Nat) : Nat → Nat
  | 0 => 0
  | n + 1 => cnt E w n + (if E 8 n = w then 1 else 0)
theorem cnt_le (E : Es) (w : Nat) : ∀ n, cnt E w n ≤ n
  | 0 => Nat.le_refl 0
  | n + 1 => by have := cnt_le E w n; unfold cnt; split <;> omega
theorem ho14 {E : Es} (hW : Wf E) {t : Nat} (ht : t < E 12 1) : E 8 t ≤ 13 := by
  have h1 := hW.1
  rcases (hW.2.2.2.2.1 t ht).2.2.1 with q | q | q <;> omega
theorem ot12 {E : Es} (hW : Wf E) {t : Nat} (ht : t < E 12 1) : E 9 t ≤ 12 := by
  have h1 := hW.1
  rcases (hW.2.2.2.2.1 t ht).2.2.2.1 with q | q <;> omega
theorem lp_heldBy (l : Launch) {b w : Nat} {E : Es} {σ : St} {K : Int32 → St → Prop} (hb : Eb b) (hW : Wf E) (hE : XE b E σ) (hw : w < 2147483648) (hK : K (nI (cnt E w (E 12 1))) σ) : ∀ (n t : Nat), t + n = E 12 1 → V l i_X0_heldBy k_X0_heldBy 4 [.ref b, .int (nI w), .int (nI (cnt E w t)), .int (nI t)] [] σ K
  | 0, t, ht => by
    have ht : t = E 12 1 := by omega
    subst ht
    have hn12 := hW.2.1
    refine V_run ok_X0_heldBy 50 4 ?_
    simp (disch := omega) only [eng, c_X0_heldBy, r_X0_heldBy, tbl, true_and, Nat.reduceAdd, Nat.reduceLT, ↓reduceIte, n_eq, n_lt, n_le, n_cl, n_inT, nI_add, bI_eq0, bI_eq1, not_true_eq_false, not_false_eq_true, true_implies, false_implies, implies_true, and_true, Bool.not_eq_false, Bool.not_eq_true, Nat.reduceEqDiff, Nat.reduceLeDiff, Classical.not_not, List.length_cons, List.length_nil, Int.reduceAdd, z_cast, Nat.reducePow, false_or, Nat.reduceLT, Nat.sub_zero, Nat.le_refl, ebT hb, hE.2.2.1]
    try simp only [iteP, Classical.not_not, Bool.not_eq_false, Bool.not_eq_true]
    exact hK
  | n + 1, t, ht => by
    have ht1 : t < E 12 1 := by omega
    have hn12 := hW.2.1
    have h12 := t12 hW ht1
    have hp := hE.2.2.2.2.2.1 t ht1
    have h14 := ho14 hW ht1
    have hc := cnt_le E w t
    have ih := lp_heldBy l hb hW hE hw hK n (t + 1) (by omega)
    unfold cnt at ih
    refine V_run ok_X0_heldBy 50 4 ?_
    simp (disch := omega) only [eng, c_X0_heldBy, r_X0_heldBy, tbl, true_and, Nat.reduceAdd, Nat.reduceLT, ↓reduceIte, n_eq, n_lt, n_le, n_cl, n_inT, nI_add, bI_eq0, bI_eq1, not_true_eq_false, not_false_eq_true, true_implies, false_implies, implies_true, and_true, Bool.not_eq_false, Bool.not_eq_true, Nat.reduceEqDiff, Nat.reduceLeDiff, Classical.not_not, List.length_cons, List.length_nil, Int.reduceAdd, z_cast, Nat.reducePow, false_or, Nat.reduceLT, Nat.sub_zero, Nat.le_refl, ebT hb, hE.2.2.1, hp, Nat.not_le.mpr ht1]
    try simp only [iteP, Classical.not_not, Bool.not_eq_false, Bool.not_eq_true]
    refine ⟨fun h => ?_, fun h => ?_⟩
    · rw [if_neg h] at ih; exact ih
    · rw [if_pos h] at ih; exact ih
theorem x_heldBy {l : Launch} {b w : Nat} {E : Es} {σ : St} {K : Int32 → St → Prop} (hb : Eb b) (hW : Wf E) (hE : XE b E σ) (hw : w < 2147483648) (hK : K (nI (cnt E w (E 12 1))) σ) : CallAt l 21 [.ref b, .int (nI w)] σ K := by
  refine CallAt.of (k := 21) (cd := k_X0_heldBy) ok_X0_heldBy (by decide) rfl rfl rfl ?_
  show V _ i_X0_heldBy k_X0_heldBy 0 [.ref b, .int (nI w), .null, .null] [] _ _
  refine V_run ok_X0_heldBy 50 0 ?_
  simp (disch := omega) only [eng, c_X0_heldBy, r_X0_heldBy, tbl, true_and, Nat.reduceAdd, Nat.reduceLT, ↓reduceIte, n_eq, n_lt, n_le, n_cl, n_inT, nI_add, bI_eq0, bI_eq1, not_true_eq_false, not_false_eq_true, true_implies, false_implies, implies_true, and_true, Bool.not_eq_false, Bool.not_eq_true, Nat.reduceEqDiff, Nat.reduceLeDiff, Classical.not_not, List.length_cons, List.length_nil, Int.reduceAdd, z_cast, Nat.reducePow, false_or, Nat.reduceLT, Nat.sub_zero, Nat.le_refl]
  try simp only [iteP, Classical.not_not, Bool.not_eq_false, Bool.not_eq_true]
  exact lp_heldBy l hb hW hE hw hK (E 12 1) 0 (by omega)
def lan (E : Es) : Nat → Nat
  | 0 => 0
  | n + 1 => lan E n + (if E 6 n = 0 ∧ E 8 n < E 12 0 then E 7 n else 0)
theorem lan_le {E : Es} (hW : Wf E) : ∀ n, n ≤ E 12 1 → lan E n ≤ 99 * n
  | 0, _ => Nat.le_refl 0
  | n + 1, h => by
    have := lan_le hW n (by omega)
    have := (hW.2.2.2.2.1 n (by omega)).2.1
    unfold lan; split <;> omega
theorem lp_lands (l : Launch) {b : Nat} {E : Es} {σ : St} {K : Int32 → St → Prop} (hb : Eb b) (hW : Wf E) (hE : XE b E σ) (hK : K (nI (lan E (E 12 1))) σ) : ∀ (n t : Nat), t + n = E 12 1 → V l i_X0_worthOfLands k_X0_worthOfLands 4 [.ref b, .int (nI (lan E t)), .int (nI t)] [] σ K
  | 0, t, ht => by
    have ht : t = E 12 1 := by omega
    subst ht
    have hn12 := hW.2.1
    refine V_run ok_X0_worthOfLands 50 4 ?_
    simp (disch := omega) only [eng, c_X0_worthOfLands, r_X0_worthOfLands, tbl, true_and, Nat.reduceAdd, Nat.reduceLT, ↓reduceIte, n_eq, n_lt, n_le, n_cl, n_inT, nI_add, bI_eq0, bI_eq1, not_true_eq_false, not_false_eq_true, true_implies, false_implies, implies_true, and_true, Bool.not_eq_false, Bool.not_eq_true, Nat.reduceEqDiff, Nat.reduceLeDiff, Classical.not_not, List.length_cons, List.length_nil, Int.reduceAdd, z_cast, Nat.reducePow, false_or, Nat.reduceLT, Nat.sub_zero, Nat.le_refl, ebT hb, hE.2.2.1]
    try simp only [iteP, Classical.not_not, Bool.not_eq_false, Bool.not_eq_true]
    exact hK
  | n + 1, t, ht => by
    have ht1 : t < E 12 1 := by omega
    have hn12 := hW.2.1
    have h12 := t12 hW ht1
    have hp := hE.2.2.2.2.2.1 t ht1
    have h14 := ho14 hW ht1
    have wt := hW.2.2.2.2.1 t ht1
    have wk := wt.1
    have ih := lp_lands l hb hW hE hK n (t + 1) (by omega)
    unfold lan at ih
    refine V_run ok_X0_worthOfLands 50 4 ?_
    simp (disch := omega) only [eng, c_X0_worthOfLands, r_X0_worthOfLands, tbl, true_and, Nat.reduceAdd, Nat.reduceLT, ↓reduceIte, n_eq, n_lt, n_le, n_cl, n_inT, nI_add, bI_eq0, bI_eq1, not_true_eq_false, not_false_eq_true, true_implies, false_implies, implies_true, and_true, Bool.not_eq_false, Bool.not_eq_true, Nat.reduceEqDiff, Nat.reduceLeDiff, Classical.not_not, List.length_cons, List.length_nil, Int.reduceAdd, z_cast, Nat.reducePow, false_or, Nat.reduceLT, Nat.sub_zero, Nat.le_refl, ebT hb, hE.2.2.1, hp, Nat.not_le.mpr ht1]
    try simp only [iteP, Classical.not_not, Bool.not_eq_false, Bool.not_eq_true]
    refine ⟨fun h => ?_, fun h => x_known hb hE.1 hW.1 ?_⟩
    · rw [if_neg (fun z => h z.1)] at ih; exact ih
    · rw [inB_n (by omega)]
      simp (disch := omega) only [n_eq, n_lt, n_le, n_cl, n_inT, nI_add, bI_eq0, bI_eq1, not_true_eq_false, not_false_eq_true, true_implies, false_implies, implies_true, and_true, Bool.not_eq_false, Bool.not_eq_true, Nat.reduceEqDiff, Nat.reduceLeDiff, Classical.not_not, List.length_cons, List.length_nil, Int.reduceAdd, z_cast, Nat.reducePow, false_or, Nat.reduceLT, Nat.sub_zero, Nat.le_refl, true_and, ↓reduceIte, iteP, hp, decide_eq_false_iff_not, decide_eq_true_eq]
      refine ⟨fun h2 => ?_, fun h2 => ?_⟩
      · rw [if_neg (fun z => h2 z.2)] at ih; exact ih
      · rw [if_pos ⟨h, h2⟩] at ih; exact ih
theorem x_lands {l : Launch} {b : Nat} {E : Es} {σ : St} {K : Int32 → St → Prop} (hb : Eb b) (hW : Wf E) (hE : XE b E σ) (hK : K (nI (lan E (E 12 1))) σ) : CallAt l 22 [.ref b] σ K := by
  refine CallAt.of (k := 22) (cd := k_X0_worthOfLands) ok_X0_worthOfLands (by decide) rfl rfl rfl ?_
  show V _ i_X0_worthOfLands k_X0_worthOfLands 0 [.ref b, .null, .null] [] _ _
  refine V_run ok_X0_worthOfLands 50 0 ?_
  simp (disch := omega) only [eng, c_X0_worthOfLands, r_X0_worthOfLands, tbl, true_and, Nat.reduceAdd, Nat.reduceLT, ↓reduceIte, n_eq, n_lt, n_le, n_cl, n_inT, nI_add, bI_eq0, bI_eq1, not_true_eq_false, not_false_eq_true, true_implies, false_implies, implies_true, and_true, Bool.not_eq_false, Bool.not_eq_true, Nat.reduceEqDiff, Nat.reduceLeDiff, Classical.not_not, List.length_cons, List.length_nil, Int.reduceAdd, z_cast, Nat.reducePow, false_or, Nat.reduceLT, Nat.sub_zero, Nat.le_refl]
  try simp only [iteP, Classical.not_not, Bool.not_eq_false, Bool.not_eq_true]
  exact lp_lands l hb hW hE hK (E 12 1) 0 (by omega)
def owe (E : Es) (p : Nat) : Nat → Int32
  | 0 => nI 0
  | n + 1 => if E 6 n = 1 ∧ E 8 n = p then (if E 6 n = 1 ∧ E 9 n = p then owe E p n + nI (E 7 n) else owe E p n) - nI (E 7 n) else (if E 6 n = 1 ∧ E 9 n = p then owe E p n + nI (E 7 n) else owe E p n)
theorem lp_owed (l : Launch) {b p : Nat} {E : Es} {σ : St} {K : Int32 → St → Prop} (hb : Eb b) (hW : Wf E) (hE : XE b E σ) (hp : p < 12) (hK : K (owe E p (E 12 1)) σ) : ∀ (n t : Nat), t + n = E 12 1 → V l i_X0_owedTo k_X0_owedTo 4 [.ref b, .int (nI p), .int (owe E p t), .int (nI t)] [] σ K
  | 0, t, ht => by
    have ht : t = E 12 1 := by omega
    subst ht
    have hn12 := hW.2.1
    refine V_run ok_X0_owedTo 60 4 ?_
    simp (disch := omega) only [eng, c_X0_owedTo, r_X0_owedTo, tbl, true_and, Nat.reduceAdd, Nat.reduceLT, ↓reduceIte, n_eq, n_lt, n_le, n_cl, n_inT, nI_add, bI_eq0, bI_eq1, not_true_eq_false, not_false_eq_true, true_implies, false_implies, implies_true, and_true, Bool.not_eq_false, Bool.not_eq_true, Nat.reduceEqDiff, Nat.reduceLeDiff, Classical.not_not, List.length_cons, List.length_nil, Int.reduceAdd, z_cast, Nat.reducePow, false_or, Nat.reduceLT, Nat.sub_zero, Nat.le_refl, ebT hb, hE.2.2.1]
    try simp only [iteP, Classical.not_not, Bool.not_eq_false, Bool.not_eq_true]
    exact hK
  | n + 1, t, ht => by
    have ht1 : t < E 12 1 := by omega
    have hn12 := hW.2.1
    have h12 := t12 hW ht1
    have ht := hE.2.2.2.2.2.1 t ht1
    have h14 := ho14 hW ht1
    have h15 := ot12 hW ht1
    have wk := (hW.2.2.2.2.1 t ht1).1
    have ih := lp_owed l hb hW hE hp hK n (t + 1) (by omega)
    unfold owe at ih
    rcases Classical.propComplete (E 6 t = 1) with h1 | h1 <;> rcases Classical.propComplete (E 9 t = p) with h2 | h2 <;> rcases Classical.propComplete (E 8 t = p) with h3 | h3
    all_goals
      refine V_run ok_X0_owedTo 60 4 ?_
      simp (disch := omega) only [eng, c_X0_owedTo, r_X0_owedTo, tbl, true_and, Nat.reduceAdd, Nat.reduceLT, ↓reduceIte, n_eq, n_lt, n_le, n_cl, n_inT, nI_add, bI_eq0, bI_eq1, not_true_eq_false, not_false_eq_true, true_implies, false_implies, implies_true, and_true, Bool.not_eq_false, Bool.not_eq_true, Nat.reduceEqDiff, Nat.reduceLeDiff, Classical.not_not, List.length_cons, List.length_nil, Int.reduceAdd, z_cast, Nat.reducePow, false_or, Nat.reduceLT, Nat.sub_zero, Nat.le_refl, ebT hb, hE.2.2.1, ht, Nat.not_le.mpr ht1, h1, h2, h3]
      try simp only [iteP, Classical.not_not, Bool.not_eq_false, Bool.not_eq_true]
      simp only [h1, h2, h3, and_true, and_false, true_and, false_and, if_true, if_false] at ih
      exact ih
theorem x_owed {l : Launch} {b p : Nat} {E : Es} {σ : St} {K : Int32 → St → Prop} (hb : Eb b) (hW : Wf E) (hE : XE b E σ) (hp : p < 12) (hK : K (owe E p (E 12 1)) σ) : CallAt l 23 [.ref b, .int (nI p)] σ K := by
  refine CallAt.of (k := 23) (cd := k_X0_owedTo) ok_X0_owedTo (by decide) rfl rfl rfl ?_
  show V _ i_X0_owedTo k_X0_owedTo 0 [.ref b, .int (nI p), .null, .null] [] _ _
  refine V_run ok_X0_owedTo 50 0 ?_
  simp (disch := omega) only [eng, c_X0_owedTo, r_X0_owedTo, tbl, true_and, Nat.reduceAdd, Nat.reduceLT, ↓reduceIte, n_eq, n_lt, n_le, n_cl, n_inT, nI_add, bI_eq0, bI_eq1, not_true_eq_false, not_false_eq_true, true_implies, false_implies, implies_true, and_true, Bool.not_eq_false, Bool.not_eq_true, Nat.reduceEqDiff, Nat.reduceLeDiff, Classical.not_not, List.length_cons, List.length_nil, Int.reduceAdd, z_cast, Nat.reducePow, false_or, Nat.reduceLT, Nat.sub_zero, Nat.le_refl]
  try simp only [iteP, Classical.not_not, Bool.not_eq_false, Bool.not_eq_true]
  exact lp_owed l hb hW hE hp hK (E 12 1) 0 (by omega)
/-! houses -/
theorem lp_house (l : Launch) {b : Nat} {p : Int32} {E : Es} {σ : St} {K : Int32 → St → Prop} (hb : Eb b) (hW : Wf E) (hE : XE b E σ) : ∀ (n h : Nat), n ≤ 12 → h < E 12 0 → K (nI (faU E n h)) σ → V l i_X0_houseOf k_X0_houseOf 22 [.ref b, .int p, .int (nI h), .int (nI (12 - n))] [] σ K
  | 0, h, hn, hh, hK => by
    refine V_run ok_X0_houseOf 60 22 ?_
    simp (disch := omega) only [eng, c_X0_houseOf, r_X0_houseOf, tbl, true_and, Nat.reduceAdd, Nat.reduceLT, ↓reduceIte, n_eq, n_lt, n_le, n_cl, n_inT, nI_add, bI_eq0, bI_eq1, not_true_eq_false, not_false_eq_true, true_implies, false_implies, implies_true, and_true, Bool.not_eq_false, Bool.not_eq_true, Nat.reduceEqDiff, Nat.reduceLeDiff, Classical.not_not, List.length_cons, List.length_nil, Int.reduceAdd, z_cast, Nat.reducePow, false_or, Nat.reduceLT, Nat.sub_zero, Nat.le_refl, ebT hb]
    try simp only [iteP, Classical.not_not, Bool.not_eq_false, Bool.not_eq_true]
    exact hK
  | n + 1, h, hn, hh, hK => by
    have h12 := p12 hW hh
    have hn12 := hW.1
    have fp := hE.2.2.2.2.1 h hh
    have f1 := fa12 hW hh
    have g1 : ¬ 12 ≤ 12 - (n + 1) := by omega
    refine V_run ok_X0_houseOf 60 22 ?_
    simp (disch := omega) only [eng, c_X0_houseOf, r_X0_houseOf, tbl, true_and, Nat.reduceAdd, Nat.reduceLT, ↓reduceIte, n_eq, n_lt, n_le, n_cl, n_inT, nI_add, bI_eq0, bI_eq1, not_true_eq_false, not_false_eq_true, true_implies, false_implies, implies_true, and_true, Bool.not_eq_false, Bool.not_eq_true, Nat.reduceEqDiff, Nat.reduceLeDiff, Classical.not_not, List.length_cons, List.length_nil, Int.reduceAdd, z_cast, Nat.reducePow, false_or, Nat.reduceLT, Nat.sub_zero, Nat.le_refl, ebT hb, fp, g1]
    try simp only [iteP, Classical.not_not, Bool.not_eq_false, Bool.not_eq_true]
    refine x_known hb hE.1 hW.1 ?_
    rw [inB_n (by omega)]
    simp (disch := omega) only [n_eq, n_lt, n_le, n_cl, n_inT, nI_add, bI_eq0, bI_eq1, not_true_eq_false, not_false_eq_true, true_implies, false_implies, implies_true, and_true, Bool.not_eq_false, Bool.not_eq_true, Nat.reduceEqDiff, Nat.reduceLeDiff, Classical.not_not, List.length_cons, List.length_nil, Int.reduceAdd, z_cast, Nat.reducePow, false_or, Nat.reduceLT, Nat.sub_zero, Nat.le_refl, true_and, ↓reduceIte, iteP, fp, ebT hb, decide_eq_false_iff_not, decide_eq_true_eq]
    unfold faU at hK
    refine ⟨fun q => ?_, fun q => ?_⟩
    · rw [if_pos (by rcases (hW.2.2.2.1 h hh).2.2.1 with z | z; exact z; omega)] at hK
      exact hK
    · rw [if_neg (by omega)] at hK
      rw [show 12 - (n + 1) + 1 = 12 - n by omega]
      exact lp_house l hb hW hE n (E 1 h) (by omega) q hK
theorem x_house {l : Launch} {b p : Nat} {E : Es} {σ : St} {K : Int32 → St → Prop} (hb : Eb b) (hW : Wf E) (hE : XE b E σ) (hp : p < E 12 0) (hK : K (nI (hous E p)) σ) : CallAt l 13 [.ref b, .int (nI p)] σ K := by
  have h12 := p12 hW hp
  have hn12 := hW.1
  have fp := hE.2.2.2.2.1 p hp
  have f1 := sp12 hW hp
  have f0 := (hW.2.2.2.1 p hp).1
  unfold hous at hK
  refine CallAt.of (k := 13) (cd := k_X0_houseOf) ok_X0_houseOf (by decide) rfl rfl rfl ?_
  show V _ i_X0_houseOf k_X0_houseOf 0 [.ref b, .int (nI p), .null, .null] [] _ _
  refine V_run ok_X0_houseOf 60 0 ?_
  simp (disch := omega) only [eng, c_X0_houseOf, r_X0_houseOf, tbl, true_and, Nat.reduceAdd, Nat.reduceLT, ↓reduceIte, n_eq, n_lt, n_le, n_cl, n_inT, nI_add, bI_eq0, bI_eq1, not_true_eq_false, not_false_eq_true, true_implies, false_implies, implies_true, and_true, Bool.not_eq_false, Bool.not_eq_true, Nat.reduceEqDiff, Nat.reduceLeDiff, Classical.not_not, List.length_cons, List.length_nil, Int.reduceAdd, z_cast, Nat.reducePow, false_or, Nat.reduceLT, Nat.sub_zero, Nat.le_refl, ebT hb, fp]
  try simp only [iteP, Classical.not_not, Bool.not_eq_false, Bool.not_eq_true]
  refine ⟨fun h => ?_, fun h => x_known hb hE.1 hW.1 ?_⟩
  · rw [if_neg (fun z => h z.1)] at hK
    exact lp_house l hb hW hE 12 p (by omega) hp hK
  · rw [inB_n (by omega)]
    simp (disch := omega) only [n_eq, n_lt, n_le, n_cl, n_inT, nI_add, bI_eq0, bI_eq1, not_true_eq_false, not_false_eq_true, true_implies, false_implies, implies_true, and_true, Bool.not_eq_false, Bool.not_eq_true, Nat.reduceEqDiff, Nat.reduceLeDiff, Classical.not_not, List.length_cons, List.length_nil, Int.reduceAdd, z_cast, Nat.reducePow, false_or, Nat.reduceLT, Nat.sub_zero, Nat.le_refl, true_and, ↓reduceIte, iteP, fp, ebT hb, decide_eq_false_iff_not, decide_eq_true_eq]
    refine ⟨fun q => ?_, fun q => ?_⟩
    · rw [if_neg (by rintro ⟨-, z⟩; rcases (hW.2.2.2.1 p hp).2.2.2.2.1 with y | y; exact z y; omega)] at hK
      exact lp_house l hb hW hE 12 p (by omega) hp hK
    · rw [if_pos ⟨h, by omega⟩] at hK
      exact lp_house l hb hW hE 12 (E 3 p) (by omega) q hK
