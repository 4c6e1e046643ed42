theorem n_neg {a : Nat} (h : a < 2147483648) : (nI a < (0 : Int32)) = False := eq_false (fun z => by rw [i_lt, nI_nn a h] at z; have : (0 : Int32).toInt = 0 := rfl; omega)
theorem n_ne0 {a : Nat} (h : a < 2147483648) : (nI a = (0 : Int32)) = (a = 0) := n_eq (b := 0) h (by decide)
theorem cp0 {f g : Nat → Int32} {n j : Nat} (h : j < n) : va_cpy f g 0 0 n j = f j := by simp [va_cpy, h]
theorem x_takeFrom {l : Launch} {b c : Nat} {E : Es} {σ : St} {K : Int32 → St → Prop} (hb : Eb b) (hc : Eb c) (hbc : b ≠ c) (hW : Wf E) (hE : XE c E σ) (hK : ∀ σ', XE b E σ' → FrE b σ σ' → K 0 σ') : CallAt l 1 [.ref b, .ref c] σ K := by
  have hd : b + 15 ≤ c ∨ c + 15 ≤ b := by
    rcases hb with rfl | rfl | rfl | rfl <;> rcases hc with rfl | rfl | rfl | rfl <;> omega
  have n1 := hW.1
  have n2 := hW.2.1
  refine CallAt.of (k := 1) (cd := k_X0_takeFrom) ok_X0_takeFrom (by decide) rfl rfl rfl ?_
  show V _ i_X0_takeFrom k_X0_takeFrom 0 [.ref b, .ref c] [] _ _
  refine V_run ok_X0_takeFrom 130 0 ?_
  simp (disch := omega) only [eng, c_X0_takeFrom, r_X0_takeFrom, tbl, true_and, Nat.reduceAdd, Nat.reduceLT, ↓reduceIte, n_eq, n_lt, n_le, n_cl, n_inT, nI_add, bI_eq0, bI_eq1, not_true_eq_false, not_false_eq_true, true_implies, false_implies, implies_true, and_true, Bool.not_eq_false, Bool.not_eq_true, Nat.reduceEqDiff, Nat.reduceLeDiff, Classical.not_not, List.length_cons, List.length_nil, Int.reduceAdd, z_cast, Nat.reducePow, false_or, Nat.reduceLT, Nat.sub_zero, Nat.le_refl, ebT hb, ebT hc, wrq, n_neg, Nat.zero_add]
  try simp only [iteP, Classical.not_not, Bool.not_eq_false, Bool.not_eq_true]
  refine hK _ ?_ ?_
  · obtain ⟨a1, a2, a3, a4, a5, a6, a7⟩ := hE
    refine ⟨?_, ?_, ?_, ?_, fun p hp => ?_, fun t ht => ?_, fun k hk => ?_⟩
    · simp (disch := omega) only [wrq, a1]
    · simp (disch := omega) only [wrq, a2]
    · simp (disch := omega) only [wrq, a3]
    · simp (disch := omega) only [wrq, a4]
    · simp (disch := omega) only [wrq, cp0]
      exact a5 p hp
    · simp (disch := omega) only [wrq, cp0]
      exact a6 t ht
    · simp (disch := omega) only [wrq, cp0]
      exact a7 k hk
  · intro k hk
    simp (disch := omega) only [wrq]
theorem x_clear {l : Launch} {b : Nat} {E : Es} {σ : St} {K : Int32 → St → Prop} (hb : Eb b) (hE : XE b E σ) (hK : ∀ σ', XE b (fun i j => if i = 12 ∧ j < 2 then 0 else E i j) σ' → FrE b σ σ' → K 0 σ') : CallAt l 2 [.ref b] σ K := by
  refine CallAt.of (k := 2) (cd := k_X0_clear) ok_X0_clear (by decide) rfl rfl rfl ?_
  show V _ i_X0_clear k_X0_clear 0 [.ref b] [] _ _
  refine V_run ok_X0_clear 60 0 ?_
  simp (disch := omega) only [eng, c_X0_clear, r_X0_clear, tbl, true_and, Nat.reduceAdd, Nat.reduceLT, ↓reduceIte, n_eq, n_lt, n_le, n_cl, n_inT, nI_add, bI_eq0, bI_eq1, not_true_eq_false, not_false_eq_true, true_implies, false_implies, implies_true, and_true, Bool.not_eq_false, Bool.not_eq_true, Nat.reduceEqDiff, Nat.reduceLeDiff, Classical.not_not, List.length_cons, List.length_nil, Int.reduceAdd, z_cast, Nat.reducePow, false_or, Nat.reduceLT, Nat.sub_zero, Nat.le_refl, ebT hb]
  try simp only [iteP, Classical.not_not, Bool.not_eq_false, Bool.not_eq_true]
  refine hK _ ?_ (((FrE.rfl'.wr (by omega)).wr (by omega)).wr (by omega))
  obtain ⟨a1, a2, a3, a4, a5, a6, a7⟩ := hE
  refine ⟨?_, ?_, ?_, ?_, fun p hp => ?_, fun t ht => ?_, fun k hk => ?_⟩
  · simp (disch := omega) [wrq]
  · simp (disch := omega) [wrq, lvm, bits]
  · simp (disch := omega) [wrq]
  · simp (disch := omega) [wrq, a4]
  · simp at hp
  · simp at ht
  · have := a7 k hk
    simp (disch := omega) only [wrq]
    simpa [rw8] using this
def addT (E : Es) (k w h o : Nat) : Es := fun i j => if j = E 12 1 ∧ i = 6 then k else if j = E 12 1 ∧ i = 7 then w else if j = E 12 1 ∧ i = 8 then h else if j = E 12 1 ∧ i = 9 then o else if i = 12 ∧ j = 1 then E 12 1 + 1 else E i j
theorem x_addThing {l : Launch} {b k w h o : Nat} {E : Es} {σ : St} {K : Int32 → St → Prop} (hb : Eb b) (hW : Wf E) (hE : XE b E σ) (hF : 12 ≤ E 12 1 → K (-3) σ) (hK : E 12 1 < 12 → ∀ σ', XE b (addT E k w h o) σ' → FrE b σ σ' → K (nI (E 12 1)) σ') : CallAt l 9 [.ref b, .int (nI k), .int (nI w), .int (nI h), .int (nI o)] σ K := by
  have hn12 := hW.2.1
  by_cases hn : 12 ≤ E 12 1
  · refine CallAt.of (k := 9) (cd := k_X0_addThing) ok_X0_addThing (by decide) rfl rfl rfl ?_
    show V _ i_X0_addThing k_X0_addThing 0 [.ref b, .int (nI k), .int (nI w), .int (nI h), .int (nI o), .null] [] _ _
    refine V_run ok_X0_addThing 60 0 ?_
    simp (disch := omega) only [eng, c_X0_addThing, r_X0_addThing, tbl, true_and, Nat.reduceAdd, Nat.reduceLT, ↓reduceIte, n_eq, n_lt, n_le, n_cl, n_inT, nI_add, bI_eq0, bI_eq1, not_true_eq_false, not_false_eq_true, true_implies, false_implies, implies_true, and_true, Bool.not_eq_false, Bool.not_eq_true, Nat.reduceEqDiff, Nat.reduceLeDiff, Classical.not_not, List.length_cons, List.length_nil, Int.reduceAdd, z_cast, Nat.reducePow, false_or, Nat.reduceLT, Nat.sub_zero, Nat.le_refl, ebT hb, hE.2.2.1, Nat.not_lt.mpr hn]
    try simp only [iteP, Classical.not_not, Bool.not_eq_false, Bool.not_eq_true]
    exact hF hn
  · refine CallAt.of (k := 9) (cd := k_X0_addThing) ok_X0_addThing (by decide) rfl rfl rfl ?_
    show V _ i_X0_addThing k_X0_addThing 0 [.ref b, .int (nI k), .int (nI w), .int (nI h), .int (nI o), .null] [] _ _
    refine V_run ok_X0_addThing 60 0 ?_
    simp (disch := omega) only [eng, c_X0_addThing, r_X0_addThing, tbl, true_and, Nat.reduceAdd, Nat.reduceLT, ↓reduceIte, n_eq, n_lt, n_le, n_cl, n_inT, nI_add, bI_eq0, bI_eq1, not_true_eq_false, not_false_eq_true, true_implies, false_implies, implies_true, and_true, Bool.not_eq_false, Bool.not_eq_true, Nat.reduceEqDiff, Nat.reduceLeDiff, Classical.not_not, List.length_cons, List.length_nil, Int.reduceAdd, z_cast, Nat.reducePow, false_or, Nat.reduceLT, Nat.sub_zero, Nat.le_refl, ebT hb, hE.2.2.1, Nat.not_le.mp hn]
    try simp only [iteP, Classical.not_not, Bool.not_eq_false, Bool.not_eq_true]
    refine hK (by omega) _ ?_ (((((FrE.rfl'.wr (by omega)).wr (by omega)).wr (by omega)).wr (by omega)).wr (by omega))
    obtain ⟨a1, a2, a3, a4, a5, a6, a7⟩ := hE
    have e : addT E k w h o 12 1 = E 12 1 + 1 := by simp [addT]
    have e' : addT E k w h o 12 0 = E 12 0 := by simp [addT]
    have e'' : addT E k w h o 12 2 = E 12 2 := by simp [addT]
    refine ⟨by simp [wr_at, e', a1], ?_, by simp [wr_at, e], by simp [wr_at, e'', a4], ?_, ?_, ?_⟩
    · have : lvm (addT E k w h o) = lvm E := by simp [lvm, addT]
      rw [this]; simp [wr_at, a2]
    · intro p hp
      rw [e'] at hp
      have := a5 p hp
      simp [wr_at, this, addT]
    · intro t ht
      rw [e] at ht
      by_cases htn : t = E 12 1
      · subst htn
        simp [wr_at, addT]
      · have := a6 t (by omega)
        simp [wr_at, htn, this, addT]
    · intro k' hk
      have := a7 k' hk
      have e8 : rw8 (addT E k w h o) k' = rw8 E k' := by simp [rw8, addT]
      simp [wr_at, this, e8, addT]
/-- a rule of n digits of 8 -/
def setR (E : Es) (k r n : Nat) : Es := fun i j => if i = 11 ∧ j = k then n else if i = 10 ∧ 3 * k ≤ j ∧ j < 3 * k + 3 then r / 8 ^ (j - 3 * k) % 8 else E i j
theorem rw8_set {E : Es} {k r n : Nat} (h1 : 1 ≤ n) (h3 : n ≤ 3) (hr : r < 8 ^ n) : rw8 (setR E k r n) k = r := by
  have e0 : setR E k r n 10 (3 * k) = r % 8 := by simp [setR]
  have e1 : setR E k r n 10 (3 * k + 1) = r / 8 % 8 := by
    have : 3 * k + 1 - 3 * k = 1 := by omega
    simp [setR, this]
  have e2 : setR E k r n 10 (3 * k + 2) = r / 64 % 8 := by
    have : 3 * k + 2 - 3 * k = 2 := by omega
    simp [setR, this]
  have e3 : setR E k r n 11 k = n := by simp [setR]
  unfold rw8
  rw [e0, e1, e2, e3]
  rcases (show n = 1 ∨ n = 2 ∨ n = 3 by omega) with rfl | rfl | rfl
  · simp only [show (8 : Nat) ^ 1 = 8 by decide] at hr
    rw [if_neg (by decide), if_neg (by decide)]; omega
  · simp only [show (8 : Nat) ^ 2 = 64 by decide] at hr
    rw [if_pos (by decide), if_neg (by decide)]; omega
  · simp only [show (8 : Nat) ^ 3 = 512 by decide] at hr
    rw [if_pos (by decide), if_pos (by decide)]; omega
theorem setR_other {E : Es} {k r n k' : Nat} (h : k' ≠ k) : rw8 (setR E k r n) k' = rw8 E k' ∧ setR E k r n 11 k' = E 11 k' := by
  have e : ∀ i, i < 3 → setR E k r n 10 (3 * k' + i) = E 10 (3 * k' + i) := by
    intro i hi
    unfold setR
    rw [if_neg (by omega), if_neg (by omega)]
  have e4 : setR E k r n 11 k' = E 11 k' := by simp [setR, h]
  refine ⟨?_, e4⟩
  unfold rw8
  have := e 0 (by omega)
  rw [Nat.add_zero] at this
  rw [e4, this, e 1 (by omega), e 2 (by omega)]
theorem x_setRule {l : Launch} {b k r n : Nat} {E : Es} {σ : St} {K : Int32 → St → Prop} (hb : Eb b) (hE : XE b E σ) (hk : k < 4) (h1 : 1 ≤ n) (h3 : n ≤ 3) (hr : r < 8 ^ n) (hK : ∀ σ', XE b (setR E k r n) σ' → FrE b σ σ' → K 0 σ') : CallAt l 10 [.ref b, .int (nI k), .int (nI r), .int (nI n)] σ K := by
  refine CallAt.of (k := 10) (cd := k_X0_setRule) ok_X0_setRule (by decide) rfl rfl rfl ?_
  show V _ i_X0_setRule k_X0_setRule 0 [.ref b, .int (nI k), .int (nI r), .int (nI n)] [] _ _
  refine V_run ok_X0_setRule 60 0 ?_
  simp (disch := omega) only [eng, c_X0_setRule, r_X0_setRule, tbl, true_and, Nat.reduceAdd, Nat.reduceLT, ↓reduceIte, n_eq, n_lt, n_le, n_cl, n_inT, nI_add, bI_eq0, bI_eq1, not_true_eq_false, not_false_eq_true, true_implies, false_implies, implies_true, and_true, Bool.not_eq_false, Bool.not_eq_true, Nat.reduceEqDiff, Nat.reduceLeDiff, Classical.not_not, List.length_cons, List.length_nil, Int.reduceAdd, z_cast, Nat.reducePow, false_or, Nat.reduceLT, Nat.sub_zero, Nat.le_refl, ebT hb]
  try simp only [iteP, Classical.not_not, Bool.not_eq_false, Bool.not_eq_true]
  refine hK _ ?_ ((FrE.rfl'.wr (by omega)).wr (by omega))
  obtain ⟨a1, a2, a3, a4, a5, a6, a7⟩ := hE
  refine ⟨by simpa [wr_at, setR] using a1, ?_, by simpa [wr_at, setR] using a3, by simpa [wr_at, setR] using a4, ?_, ?_, ?_⟩
  · have : lvm (setR E k r n) = lvm E := by simp [lvm, setR]
    rw [this]; simp [wr_at, a2]
  · intro p hp
    have := a5 p (by simpa [setR] using hp)
    simp [wr_at, this, setR]
  · intro t ht
    have := a6 t (by simpa [setR] using ht)
    simp [wr_at, this, setR]
  · intro k' hk'
    by_cases e : k' = k
    · subst e
      rw [rw8_set h1 h3 hr]
      simp [wr_at, setR]
    · obtain ⟨e1, e2⟩ := setR_other (E := E) (r := r) (n := n) e
      rw [e1, e2]
      have := a7 k' hk'
      simp [wr_at, e, this]
def joi (E : Es) (a c : Nat) : Es := fun i j => if i = 3 ∧ j = c then a else if i = 3 ∧ j = a then c else E i j
theorem x_join {l : Launch} {b a c : Nat} {E : Es} {σ : St} {K : Int32 → St → Prop} (hb : Eb b) (hW : Wf E) (hE : XE b E σ) (ha : a < 12) (hc : c < 12) (hF : can E a c = false → K (nI 0) σ) (hK : can E a c = true → ∀ σ', XE b (joi E a c) σ' → FrE b σ σ' → K (nI 1) σ') : CallAt l 12 [.ref b, .int (nI a), .int (nI c)] σ K := by
  refine CallAt.of (k := 12) (cd := k_X0_join) ok_X0_join (by decide) rfl rfl rfl ?_
  show V _ i_X0_join k_X0_join 0 [.ref b, .int (nI a), .int (nI c)] [] _ _
  refine V_run ok_X0_join 60 0 ?_
  simp (disch := omega) only [eng, c_X0_join, r_X0_join, tbl, true_and, Nat.reduceAdd, Nat.reduceLT, ↓reduceIte, n_eq, n_lt, n_le, n_cl, n_inT, nI_add, bI_eq0, bI_eq1, not_true_eq_false, not_false_eq_true, true_implies, false_implies, implies_true, and_true, Bool.not_eq_false, Bool.not_eq_true, Nat.reduceEqDiff, Nat.reduceLeDiff, Classical.not_not, List.length_cons, List.length_nil, Int.reduceAdd, z_cast, Nat.reducePow, false_or, Nat.reduceLT, Nat.sub_zero, Nat.le_refl, ebT hb]
  try simp only [iteP, Classical.not_not, Bool.not_eq_false, Bool.not_eq_true]
  refine x_canMarry hb hW hE ha hc ?_
  simp (disch := omega) only [n_eq, n_lt, n_le, n_cl, n_inT, nI_add, bI_eq0, bI_eq1, not_true_eq_false, not_false_eq_true, true_implies, false_implies, implies_true, and_true, Bool.not_eq_false, Bool.not_eq_true, Nat.reduceEqDiff, Nat.reduceLeDiff, Classical.not_not, List.length_cons, List.length_nil, Int.reduceAdd, z_cast, Nat.reducePow, false_or, Nat.reduceLT, Nat.sub_zero, Nat.le_refl, true_and, ↓reduceIte, iteP, ebT hb]
  refine ⟨fun h => hK h _ ?_ ((FrE.rfl'.wr (by omega)).wr (by omega)), fun h => hF h⟩
  obtain ⟨a1, a2, a3, a4, a5, a6, a7⟩ := hE
  refine ⟨by simpa [wr_at, joi] using a1, ?_, by simpa [wr_at, joi] using a3, by simpa [wr_at, joi] using a4, ?_, ?_, ?_⟩
  · have : lvm (joi E a c) = lvm E := by simp [lvm, joi]
    rw [this]; simp [wr_at, a2]
  · intro p hp
    have := a5 p (by simpa [joi] using hp)
    by_cases e1 : p = c
    · subst e1; simp [wr_at, this, joi]
    · by_cases e2 : p = a
      · subst e2; simp [wr_at, this, joi, e1]
      · simp [wr_at, this, joi, e1, e2]
  · intro t ht
    have := a6 t (by simpa [joi] using ht)
    simp [wr_at, this, joi]
  · intro k hk
    have := a7 k hk
    have e8 : rw8 (joi E a c) k = rw8 E k := by simp [rw8, joi]
    rw [e8]
    simp [wr_at, this, joi]
