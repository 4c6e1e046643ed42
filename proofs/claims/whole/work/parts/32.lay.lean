theorem layL_len : ∀ n L c, (layL n L c).length = n
  | 0, _, _ => rfl
  | n + 1, L, c => by simp [layL, layL_len n]
theorem lp_lay (l : Launch) {N code : Nat} {mem : Nat → Nat} {T : List Nat} {σ0 : St} {K : Int32 → St → Prop} (hN : N ≤ 5) (hmem : ∀ i, mem i ≤ 12) (h600 : σ0 600 3 = nI N)
    (hK : ∀ σ : St, (∀ j, j < N → σ 603 j = nI (mem (T.getD j 0))) → (∀ k, k ≠ 602 → k ≠ 603 → σ k = σ0 k) → K 0 σ) : ∀ (n i c : Nat) (L : List Nat) (σ : St), i + n = N → c < 2147483648 → L.length = n → T.drop i = layL n L c → (∀ j, j < n → σ 602 j = nI (mem (L.getD j 0))) → (∀ j, j < i → σ 603 j = nI (mem (T.getD j 0))) → (∀ k, k ≠ 602 → k ≠ 603 → σ k = σ0 k) → ∀ v4 v5 v6 : Value, lng v4 = false → lng v5 = false → V l i_X1_lay k_X1_lay 12 [.ref 600, .int (nI code), .int (nI c), .int (nI i), v4, v5, v6] [] σ K
  | 0, i, c, L, σ, hi, hc, hL, hT, g1, g2, g3, v4, v5, v6, h4, h5 => by
    have hi : i = N := by omega
    subst hi
    have e : σ 600 3 = nI i := by rw [g3 600 (by decide) (by decide)]; exact h600
    refine V_run ok_X1_lay 60 12 ?_
    simp (disch := omega) only [eng, c_X1_lay, r_X1_lay, tbl, true_and, Nat.reduceAdd, Nat.reduceLT, ↓reduceIte, n_eq, n_lt, n_le, n_cl, n_inT, nI_add, bI_eq0, bI_eq1, not_true_eq_false, not_false_eq_true, true_implies, false_implies, implies_true, and_true, Bool.not_eq_false, Bool.not_eq_true, Nat.reduceEqDiff, Nat.reduceLeDiff, Classical.not_not, List.length_cons, List.length_nil, Int.reduceAdd, z_cast, Nat.reducePow, false_or, Nat.reduceLT, Nat.sub_zero, Nat.le_refl, e]
    try simp only [iteP, Classical.not_not, Bool.not_eq_false, Bool.not_eq_true]
    exact hK σ g2 g3
  | n + 1, i, c, L, σ, hi, hc, hL, hT, g1, g2, g3, v4, v5, v6, h4, h5 => by
    have hi1 : ¬ N ≤ i := by omega
    have e : σ 600 3 = nI N := by rw [g3 600 (by decide) (by decide)]; exact h600
    have e1 : nI N - nI i = nI (n + 1) := by rw [pk_sub (by omega)]; congr 1; omega
    have e2 := pk_div (a := c) (d := n + 1) hc (by omega) (by omega)
    have e3 : nI c - nI (c / (n + 1)) * nI (n + 1) = nI (c % (n + 1)) := by
      have := pk_rem (a := c) (d := n + 1) hc (by omega) (by omega)
      rwa [e2] at this
    have hlt : c % (n + 1) < n + 1 := Nat.mod_lt _ (by omega)
    have hne : ¬ n + 1 = 0 := by omega
    have hq := g1 (c % (n + 1)) hlt
    have hTi : T.getD i 0 = L.getD (c % (n + 1)) 0 := by
      have h1 : (T.drop i)[0]? = some (L.getD (c % (n + 1)) 0) := by rw [hT]; rfl
      rw [List.getElem?_drop] at h1
      rw [Nat.add_zero] at h1
      rw [List.getD_eq_getElem?_getD, h1]; rfl
    refine V_run ok_X1_lay 60 12 ?_
    simp (disch := omega) only [eng, c_X1_lay, r_X1_lay, tbl, true_and, Nat.reduceAdd, Nat.reduceLT, ↓reduceIte, n_eq, n_lt, n_le, n_cl, n_inT, nI_add, bI_eq0, bI_eq1, not_true_eq_false, not_false_eq_true, true_implies, false_implies, implies_true, and_true, Bool.not_eq_false, Bool.not_eq_true, Nat.reduceEqDiff, Nat.reduceLeDiff, Classical.not_not, List.length_cons, List.length_nil, Int.reduceAdd, z_cast, Nat.reducePow, false_or, Nat.reduceLT, Nat.sub_zero, Nat.le_refl, e, hi1, e1, e2, e3, n_ne0, hne, hq, h4, h5, wrq]
    try simp only [iteP, Classical.not_not, Bool.not_eq_false, Bool.not_eq_true]
    refine lp_shift l (a := fun j => nI (mem (L.getD j 0))) (σ0 := wr σ 603 i (nI (mem (L.getD (c % (n + 1)) 0)))) hlt (by omega) (fun σ1 k1 k2 => ?_) (n + 1 - (c % (n + 1) + 1)) (c % (n + 1) + 1) _ (by omega) (by omega) (fun j hj => ?_) (fun _ _ => rfl)
    · refine V_run ok_X1_lay 3 56 ?_
      simp (disch := omega) only [eng, c_X1_lay, r_X1_lay, tbl, true_and, Nat.reduceAdd, Nat.reduceLT, ↓reduceIte, n_eq, n_lt, n_le, n_cl, n_inT, nI_add, bI_eq0, bI_eq1, not_true_eq_false, not_false_eq_true, true_implies, false_implies, implies_true, and_true, Bool.not_eq_false, Bool.not_eq_true, Nat.reduceEqDiff, Nat.reduceLeDiff, Classical.not_not, List.length_cons, List.length_nil, Int.reduceAdd, z_cast, Nat.reducePow, false_or, Nat.reduceLT, Nat.sub_zero, Nat.le_refl]
      try simp only [iteP, Classical.not_not, Bool.not_eq_false, Bool.not_eq_true]
      refine lp_lay l hN hmem h600 hK n (i + 1) (c / (n + 1)) (L.eraseIdx (c % (n + 1))) σ1 (by omega) (Nat.lt_of_le_of_lt (Nat.div_le_self _ _) hc) (by rw [List.length_eraseIdx_of_lt (by omega)]; omega) ?_ (fun j hj => ?_) (fun j hj => ?_) (fun k hk1 hk2 => ?_) _ _ _ rfl rfl
      · have := congrArg List.tail hT
        rw [List.tail_drop] at this
        exact this
      · rw [k1 j (by omega)]
        have ee : (L.eraseIdx (c % (n + 1))).getD j 0 = if j < c % (n + 1) then L.getD j 0 else L.getD (j + 1) 0 := by
          rw [List.getD_eq_getElem?_getD, List.getElem?_eraseIdx]
          by_cases z : j < c % (n + 1)
          · rw [if_pos z, if_pos z, List.getD_eq_getElem?_getD]
          · rw [if_neg z, if_neg z, List.getD_eq_getElem?_getD]
        rw [ee]
        by_cases z : j < c % (n + 1)
        · rw [if_pos z, if_pos z]
        · rw [if_neg z, if_neg z]
      · rw [k2 603 (by decide), wr_at]
        by_cases z : j = i
        · subst z; rw [if_pos ⟨rfl, rfl⟩, hTi]
        · rw [if_neg (fun y => z y.2)]; exact g2 j (by omega)
      · rw [k2 k hk1]
        simp (disch := omega) only [wrq]
        exact g3 k hk1 hk2
    · have : wr σ 603 i (nI (mem (L.getD (c % (n + 1)) 0))) 602 j = nI (mem (L.getD j 0)) := by
        simp (disch := omega) only [wrq]
        exact g1 j hj
      rw [this]
      by_cases z : j < c % (n + 1)
      · rw [if_pos z]
      · rw [if_neg z, if_neg (by omega)]
theorem x_lay {l : Launch} {N code : Nat} {mem : Nat → Nat} {σ : St} {K : Int32 → St → Prop} (hN : N ≤ 5) (hmem : ∀ i, mem i ≤ 12) (h600 : σ 600 3 = nI N) (h601 : ∀ i, i < N → σ 601 i = nI (mem i)) (hc : code < 2147483648)
    (hK : ∀ σ' : St, (∀ j, j < N → σ' 603 j = nI (mem ((layL N (List.range N) code).getD j 0))) → (∀ k, k ≠ 602 → k ≠ 603 → σ' k = σ k) → K 0 σ') : CallAt l 35 [.ref 600, .int (nI code)] σ K := by
  refine CallAt.of (k := 35) (cd := k_X1_lay) ok_X1_lay (by decide) rfl rfl rfl ?_
  show V _ i_X1_lay k_X1_lay 0 [.ref 600, .int (nI code), .null, .null, .null, .null, .null] [] _ _
  refine V_run ok_X1_lay 60 0 ?_
  simp (disch := omega) only [eng, c_X1_lay, r_X1_lay, tbl, true_and, Nat.reduceAdd, Nat.reduceLT, ↓reduceIte, n_eq, n_lt, n_le, n_cl, n_inT, nI_add, bI_eq0, bI_eq1, not_true_eq_false, not_false_eq_true, true_implies, false_implies, implies_true, and_true, Bool.not_eq_false, Bool.not_eq_true, Nat.reduceEqDiff, Nat.reduceLeDiff, Classical.not_not, List.length_cons, List.length_nil, Int.reduceAdd, z_cast, Nat.reducePow, false_or, Nat.reduceLT, Nat.sub_zero, Nat.le_refl, n_neg, Nat.zero_add]
  try simp only [iteP, Classical.not_not, Bool.not_eq_false, Bool.not_eq_true]
  refine lp_lay l hN hmem (σ0 := wrR σ 602 (va_cpy (σ 601) (σ 602) 0 0 5)) (T := layL N (List.range N) code) ?_ (fun σ1 k1 k2 => hK σ1 k1 (fun k h1 h2 => ?_)) N 0 code (List.range N) _ (by omega) hc (by simp) (by simp) (fun j hj => ?_) (fun j hj => absurd hj (Nat.not_lt_zero j)) (fun _ _ _ => rfl) _ _ _ rfl rfl
  · simp (disch := omega) only [wrq]; exact h600
  · rw [k2 k h1 h2]; simp (disch := omega) only [wrq]
  · simp (disch := omega) only [wrq, cp0]
    rw [h601 j hj, List.getD_eq_getElem?_getD, List.getElem?_range hj]
    rfl
/-! a told row of deaths -/
theorem lp_tell (l : Launch) {s a N : Nat} {σ0 : St} {K : Int32 → St → Prop} (hs : s < 4) (ha : a + N ≤ 24) (hN : N ≤ 8)
    (hK : ∀ σ : St, σ 700 2 = nI N → (∀ i, i < N → σ 702 i = σ0 503 (24 * s + (a + i))) → (∀ k, k ≠ 700 → k ≠ 702 → σ k = σ0 k) → K 0 σ) : ∀ (n i : Nat) (σ : St), i + n = N → σ 700 2 = nI i → (∀ j, j < i → σ 702 j = σ0 503 (24 * s + (a + j))) → (∀ k, k ≠ 700 → k ≠ 702 → σ k = σ0 k) → V l i_X3_tell k_X3_tell 5 [.ref 700, .ref 500, .int (nI s), .int (nI a), .int (nI N), .int (nI i)] [] σ K
  | 0, i, σ, hi, g1, g2, g3 => by
    have hi : i = N := by omega
    subst hi
    refine V_run ok_X3_tell 60 5 ?_
    simp (disch := omega) only [eng, c_X3_tell, r_X3_tell, tbl, true_and, Nat.reduceAdd, Nat.reduceLT, ↓reduceIte, n_eq, n_lt, n_le, n_cl, n_inT, nI_add, bI_eq0, bI_eq1, not_true_eq_false, not_false_eq_true, true_implies, false_implies, implies_true, and_true, Bool.not_eq_false, Bool.not_eq_true, Nat.reduceEqDiff, Nat.reduceLeDiff, Classical.not_not, List.length_cons, List.length_nil, Int.reduceAdd, z_cast, Nat.reducePow, false_or, Nat.reduceLT, Nat.sub_zero, Nat.le_refl]
    try simp only [iteP, Classical.not_not, Bool.not_eq_false, Bool.not_eq_true]
    exact hK σ g1 g2 g3
  | n + 1, i, σ, hi, g1, g2, g3 => by
    have h1 : ¬ N ≤ i := by omega
    have h2 : ¬ 8 ≤ i := by omega
    refine V_run ok_X3_tell 60 5 ?_
    simp (disch := omega) only [eng, c_X3_tell, r_X3_tell, tbl, true_and, Nat.reduceAdd, Nat.reduceLT, ↓reduceIte, n_eq, n_lt, n_le, n_cl, n_inT, nI_add, bI_eq0, bI_eq1, not_true_eq_false, not_false_eq_true, true_implies, false_implies, implies_true, and_true, Bool.not_eq_false, Bool.not_eq_true, Nat.reduceEqDiff, Nat.reduceLeDiff, Classical.not_not, List.length_cons, List.length_nil, Int.reduceAdd, z_cast, Nat.reducePow, false_or, Nat.reduceLT, Nat.sub_zero, Nat.le_refl, h1, h2]
    try simp only [iteP, Classical.not_not, Bool.not_eq_false, Bool.not_eq_true]
    refine x_get hs (by omega) ?_
    simp (disch := omega) only [n_eq, n_lt, n_le, n_cl, n_inT, nI_add, bI_eq0, bI_eq1, not_true_eq_false, not_false_eq_true, true_implies, false_implies, implies_true, and_true, Bool.not_eq_false, Bool.not_eq_true, Nat.reduceEqDiff, Nat.reduceLeDiff, Classical.not_not, List.length_cons, List.length_nil, Int.reduceAdd, z_cast, Nat.reducePow, false_or, Nat.reduceLT, Nat.sub_zero, Nat.le_refl, true_and, ↓reduceIte, iteP, g1, wrq]
    refine lp_tell l hs ha hN hK n (i + 1) _ (by omega) ?_ (fun j hj => ?_) (fun k k1 k2 => ?_)
    · simp (disch := omega) only [wrq]
    · rw [g3 503 (by decide) (by decide)]
      by_cases z : j = i
      · subst z; simp (disch := omega) only [wrq]
      · simp (disch := omega) only [wrq]; exact g2 j (by omega)
    · simp (disch := omega) only [wrq]; exact g3 k k1 k2
theorem x_tell {l : Launch} {s a N : Nat} {σ : St} {K : Int32 → St → Prop} (hs : s < 4) (ha : a + N ≤ 24) (hN : N ≤ 8)
    (hK : ∀ σ' : St, σ' 700 2 = nI N → (∀ i, i < N → σ' 702 i = σ 503 (24 * s + (a + i))) → (∀ k, k ≠ 700 → k ≠ 702 → σ' k = σ k) → K 0 σ') : CallAt l 47 [.ref 700, .ref 500, .int (nI s), .int (nI a), .int (nI N)] σ K := by
  refine CallAt.of (k := 47) (cd := k_X3_tell) ok_X3_tell (by decide) rfl rfl rfl ?_
  show V _ i_X3_tell k_X3_tell 0 [.ref 700, .ref 500, .int (nI s), .int (nI a), .int (nI N), .null] [] _ _
  refine V_run ok_X3_tell 60 0 ?_
  simp (disch := omega) only [eng, c_X3_tell, r_X3_tell, tbl, true_and, Nat.reduceAdd, Nat.reduceLT, ↓reduceIte, n_eq, n_lt, n_le, n_cl, n_inT, nI_add, bI_eq0, bI_eq1, not_true_eq_false, not_false_eq_true, true_implies, false_implies, implies_true, and_true, Bool.not_eq_false, Bool.not_eq_true, Nat.reduceEqDiff, Nat.reduceLeDiff, Classical.not_not, List.length_cons, List.length_nil, Int.reduceAdd, z_cast, Nat.reducePow, false_or, Nat.reduceLT, Nat.sub_zero, Nat.le_refl]
  try simp only [iteP, Classical.not_not, Bool.not_eq_false, Bool.not_eq_true]
  refine lp_tell l hs ha hN hK N 0 _ (by omega) ?_ (fun j hj => absurd hj (Nat.not_lt_zero j)) (fun k k1 k2 => ?_)
  · simp (disch := omega) only [wrq]
  · simp (disch := omega) only [wrq]
/-- whether x lives in E -/
def livX (E : Es) (x : Int32) : Bool := inB x (E 12 0) && E 5 x.toNatClampNeg == 1
/-- the place of the first of a row who does not live when the turn comes -/
def fstE (d : Nat → Int32) : Nat → Nat → Es → Nat
  | 0, i, _ => i
  | n + 1, i, E => if livX E (d i) then fstE d n (i + 1) (die E (d i).toNatClampNeg) else i
theorem lvm_die {E : Es} (hW : Wf E) {p : Nat} (hp : p < E 12 0) : lvm (die E p) = lvm E &&& (2 ^ p ^^^ 4294967295) := by
  have := p12 hW hp
  have hn := hW.1
  rw [die_eq, lvm_bur (by rw [psn_12]; exact hn) (by omega)]
  have : lvm (psn E p (E 12 1)) = lvm E := by simp [lvm, psn]
  rw [this]
theorem lp_first (l : Launch) {N : Nat} {x : Int32} {d : Nat → Int32} {σ : St} {K : Int32 → St → Prop} (hN : N ≤ 8) (g1 : σ 700 2 = nI N) (g2 : ∀ i, i < N → σ 702 i = d i) : ∀ (n i : Nat) (E : Es), i + n = N → Wf E → K (nI (fstE d n i E)) σ → V l i_X3_firstWhoCannotDie k_X3_firstWhoCannotDie 4 [.ref 700, .int x, .int (nI (lvm E)), .int (nI i)] [] σ K
  | 0, i, E, hi, hW, hK => by
    have hi : i = N := by omega
    subst hi
    refine V_run ok_X3_firstWhoCannotDie 60 4 ?_
    simp (disch := omega) only [eng, c_X3_firstWhoCannotDie, r_X3_firstWhoCannotDie, tbl, true_and, Nat.reduceAdd, Nat.reduceLT, ↓reduceIte, n_eq, n_lt, n_le, n_cl, n_inT, nI_add, bI_eq0, bI_eq1, not_true_eq_false, not_false_eq_true, true_implies, false_implies, implies_true, and_true, Bool.not_eq_false, Bool.not_eq_true, Nat.reduceEqDiff, Nat.reduceLeDiff, Classical.not_not, List.length_cons, List.length_nil, Int.reduceAdd, z_cast, Nat.reducePow, false_or, Nat.reduceLT, Nat.sub_zero, Nat.le_refl, g1]
    try simp only [iteP, Classical.not_not, Bool.not_eq_false, Bool.not_eq_true]
    exact hK
  | n + 1, i, E, hi, hW, hK => by
    have h1 : ¬ N ≤ i := by omega
    have hv := g2 i (by omega)
    have hn12 := hW.1
    have hlv := lvm_lt hW
    unfold fstE at hK
    refine V_run ok_X3_firstWhoCannotDie 60 4 ?_
    simp (disch := omega) only [eng, c_X3_firstWhoCannotDie, r_X3_firstWhoCannotDie, tbl, true_and, Nat.reduceAdd, Nat.reduceLT, ↓reduceIte, n_eq, n_lt, n_le, n_cl, n_inT, nI_add, bI_eq0, bI_eq1, not_true_eq_false, not_false_eq_true, true_implies, false_implies, implies_true, and_true, Bool.not_eq_false, Bool.not_eq_true, Nat.reduceEqDiff, Nat.reduceLeDiff, Classical.not_not, List.length_cons, List.length_nil, Int.reduceAdd, z_cast, Nat.reducePow, false_or, Nat.reduceLT, Nat.sub_zero, Nat.le_refl, h1, g1, hv]
    try simp only [iteP, Classical.not_not, Bool.not_eq_false, Bool.not_eq_true]
    have neg : livX E (d i) = false → K (nI i) σ := fun z => by rw [z] at hK; exact hK
    refine ⟨fun h => neg (by simp [livX, inB_neg h]), fun h => ⟨fun h2 => neg ?_, fun h2 => ?_⟩⟩
    · have : inB (d i) (E 12 0) = false := by rw [i_le, nI_nn 12 (by decide)] at h2; simp [inB]; omega
      simp [livX, this]
    · obtain ⟨j, hj, hdj⟩ := inB_of (inB_ok (n := 12) (by decide) h h2)
      rw [hdj]
      have lj : livX E (d i) = (lvm E).testBit j := by
        rw [hdj, livX, inB_n (by omega), n_cl (by omega), lvm_tb]
      have e1 := n_shl1 j (by omega)
      refine x_has (m := lvm E) (j := j) (by omega) (by omega) ?_
      rw [← lj]
      simp (disch := omega) only [n_eq, n_lt, n_le, n_cl, n_inT, nI_add, bI_eq0, bI_eq1, not_true_eq_false, not_false_eq_true, true_implies, false_implies, implies_true, and_true, Bool.not_eq_false, Bool.not_eq_true, Nat.reduceEqDiff, Nat.reduceLeDiff, Classical.not_not, List.length_cons, List.length_nil, Int.reduceAdd, z_cast, Nat.reducePow, false_or, Nat.reduceLT, Nat.sub_zero, Nat.le_refl, true_and, ↓reduceIte, iteP, hv, hdj, e1, n_not]
      rw [← hdj]
      refine ⟨fun h3 => ?_, fun h3 => neg h3⟩
      rw [h3, if_pos rfl, hdj, n_cl (by omega)] at hK
      have w := lv_at2 (by rw [← lj]; exact h3)
      rw [← lvm_die hW w.1]
      exact lp_first l hN g1 g2 n (i + 1) _ (by omega) (Wf_die hW w.1 w.2) hK
theorem x_first {l : Launch} {N : Nat} {d : Nat → Int32} {E : Es} {σ : St} {K : Int32 → St → Prop} (hW : Wf E) (hN : N ≤ 8) (g1 : σ 700 2 = nI N) (g2 : ∀ i, i < N → σ 702 i = d i) (hK : K (nI (fstE d N 0 E)) σ) : CallAt l 48 [.ref 700, .int (nI (lvm E))] σ K := by
  refine CallAt.of (k := 48) (cd := k_X3_firstWhoCannotDie) ok_X3_firstWhoCannotDie (by decide) rfl rfl rfl ?_
  show V _ i_X3_firstWhoCannotDie k_X3_firstWhoCannotDie 0 [.ref 700, .int (nI (lvm E)), .null, .null] [] _ _
  refine V_run ok_X3_firstWhoCannotDie 60 0 ?_
  simp (disch := omega) only [eng, c_X3_firstWhoCannotDie, r_X3_firstWhoCannotDie, tbl, true_and, Nat.reduceAdd, Nat.reduceLT, ↓reduceIte, n_eq, n_lt, n_le, n_cl, n_inT, nI_add, bI_eq0, bI_eq1, not_true_eq_false, not_false_eq_true, true_implies, false_implies, implies_true, and_true, Bool.not_eq_false, Bool.not_eq_true, Nat.reduceEqDiff, Nat.reduceLeDiff, Classical.not_not, List.length_cons, List.length_nil, Int.reduceAdd, z_cast, Nat.reducePow, false_or, Nat.reduceLT, Nat.sub_zero, Nat.le_refl]
  try simp only [iteP, Classical.not_not, Bool.not_eq_false, Bool.not_eq_true]
  exact lp_first l hN g1 g2 N 0 E (by omega) hW hK
