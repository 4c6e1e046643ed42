/-! THE REFERENCE -/
theorem m_in {l : Launch} {v lo hi : Int64} {σ : St} {K : Int32 → St → Prop} (hK : K (bI (decide (lo.toInt ≤ v.toInt ∧ v.toInt ≤ hi.toInt))) σ) : CallAt l 108 [.long v, .long lo, .long hi] σ K := by
  have e1 : (lg_cmp v lo < nI 0) = (v.toInt < lo.toInt) := propext ((lg_cmp_lt v lo).trans Int64.lt_iff_toInt_lt)
  have e2 : (nI 0 < lg_cmp v hi) = (hi.toInt < v.toInt) := propext ((lg_cmp_gt v hi).trans Int64.lt_iff_toInt_lt)
  refine CallAt.of (k := 108) (cd := k_X6_in) ok_X6_in (by decide) rfl rfl rfl ?_
  show V _ i_X6_in k_X6_in 0 [.long v, .null, .long lo, .null, .long hi, .null] [] _ _
  refine V_run ok_X6_in 30 0 ?_
  simp (disch := omega) only [eng, c_X6_in, r_X6_in, tbl, true_and, Nat.reduceAdd, Nat.reduceLT, ↓reduceIte, n_eq, n_lt, n_le, n_cl, n_inT, nI_add, bI_eq0, bI_eq1, not_true_eq_false, not_false_eq_true, true_implies, false_implies, implies_true, and_true, Bool.not_eq_false, Bool.not_eq_true, Nat.reduceEqDiff, Nat.reduceLeDiff, Classical.not_not, List.length_cons, List.length_nil, Int.reduceAdd, z_cast, Nat.reducePow, false_or, Nat.reduceLT, Nat.sub_zero, Nat.le_refl]
  try simp only [iteP, Classical.not_not, Bool.not_eq_false, Bool.not_eq_true]
  rw [e1, e2]
  refine ⟨fun h => ?_, fun h => ⟨fun h2 => ?_, fun h2 => ?_⟩⟩
  · rw [decide_eq_false (by omega)] at hK; exact hK
  · rw [decide_eq_false (by omega)] at hK; exact hK
  · rw [decide_eq_true (by omega)] at hK; exact hK
theorem m_inB {l : Launch} {x : Int32} {lo hi : Int64} {n : Nat} {σ : St} {K : Int32 → St → Prop} (h0 : lo.toInt = 0) (h1 : hi.toInt = (n : Int) - 1) (hK : K (bI (inB x n)) σ) : CallAt l 108 [.long x.toInt64, .long lo, .long hi] σ K := by
  refine m_in ?_
  rw [Int32.toInt_toInt64, h0, h1]
  have : decide (0 ≤ x.toInt ∧ x.toInt ≤ (n : Int) - 1) = inB x n := by
    unfold inB
    congr 1
    apply propext
    omega
  rw [this]; exact hK
theorem m_rI {l : Launch} {x : Int32} {lo hi : Int64} {a n : Nat} {σ : St} {K : Int32 → St → Prop} (h0 : lo.toInt = (a : Int)) (h1 : hi.toInt = (n : Int)) (hK : K (bI (rI x a n)) σ) : CallAt l 108 [.long x.toInt64, .long lo, .long hi] σ K := by
  refine m_in ?_
  rw [Int32.toInt_toInt64, h0, h1]
  exact hK
theorem m_has {l : Launch} {m j : Nat} {σ : St} {K : Int32 → St → Prop} (hm : m < 2147483648) (hj : j < 32) (hK : K (bI (m.testBit j)) σ) : CallAt l 109 [.int (nI m), .int (nI j)] σ K := by
  have e := n_has hm hj
  refine CallAt.of (k := 109) (cd := k_X6_has) ok_X6_has (by decide) rfl rfl rfl ?_
  show V _ i_X6_has k_X6_has 0 [.int (nI m), .int (nI j)] [] _ _
  refine V_run ok_X6_has 50 0 ?_
  simp (disch := omega) only [eng, c_X6_has, r_X6_has, tbl, true_and, Nat.reduceAdd, Nat.reduceLT, ↓reduceIte, n_eq, n_lt, n_le, n_cl, n_inT, nI_add, bI_eq0, bI_eq1, not_true_eq_false, not_false_eq_true, true_implies, false_implies, implies_true, and_true, Bool.not_eq_false, Bool.not_eq_true, Nat.reduceEqDiff, Nat.reduceLeDiff, Classical.not_not, List.length_cons, List.length_nil, Int.reduceAdd, z_cast, Nat.reducePow, false_or, Nat.reduceLT, Nat.sub_zero, Nat.le_refl, e]
  try simp only [iteP, Classical.not_not, Bool.not_eq_false, Bool.not_eq_true]
  refine ⟨fun h => ?_, fun h => ?_⟩ <;> (rw [h] at hK; exact hK)
theorem okR_b (b : Bool) : okR (some FieldType.boolean) (bI b) := by
  cases b
  · exact Or.inl rfl
  · exact Or.inr rfl
theorem pm1 {n : Nat} (hn : n ≤ 12) : (nI n - nI 1).toInt64.toInt = (n : Int) - 1 := by
  rw [Int32.toInt_toInt64]
  have : ∀ n, n < 13 → (nI n - nI 1).toInt = (n : Int) - 1 := by decide +kernel
  exact this n (by omega)
theorem m_isOne {l : Launch} {n : Nat} {x : Int32} {σ : St} {K : Int32 → St → Prop} (hn : σ 900 6 = nI n) (h12 : n ≤ 12) (hK : K (bI (inB x n)) σ) : CallAt l 111 [.ref 900, .int x] σ K := by
  refine CallAt.of (k := 111) (cd := k_X6_isOne) ok_X6_isOne (by decide) rfl rfl rfl ?_
  show V _ i_X6_isOne k_X6_isOne 0 [.ref 900, .int x] [] _ _
  refine V_run ok_X6_isOne 50 0 ?_
  simp (disch := omega) only [eng, c_X6_isOne, r_X6_isOne, tbl, true_and, Nat.reduceAdd, Nat.reduceLT, ↓reduceIte, n_eq, n_lt, n_le, n_cl, n_inT, nI_add, bI_eq0, bI_eq1, not_true_eq_false, not_false_eq_true, true_implies, false_implies, implies_true, and_true, Bool.not_eq_false, Bool.not_eq_true, Nat.reduceEqDiff, Nat.reduceLeDiff, Classical.not_not, List.length_cons, List.length_nil, Int.reduceAdd, z_cast, Nat.reducePow, false_or, Nat.reduceLT, Nat.sub_zero, Nat.le_refl, hn]
  try simp only [iteP, Classical.not_not, Bool.not_eq_false, Bool.not_eq_true]
  refine m_inB rfl (pm1 h12) ?_
  exact ⟨okR_b _, hK⟩
theorem m_isThing {l : Launch} {n : Nat} {x : Int32} {σ : St} {K : Int32 → St → Prop} (hn : σ 900 11 = nI n) (h12 : n ≤ 12) (hK : K (bI (inB x n)) σ) : CallAt l 112 [.ref 900, .int x] σ K := by
  refine CallAt.of (k := 112) (cd := k_X6_isThing) ok_X6_isThing (by decide) rfl rfl rfl ?_
  show V _ i_X6_isThing k_X6_isThing 0 [.ref 900, .int x] [] _ _
  refine V_run ok_X6_isThing 50 0 ?_
  simp (disch := omega) only [eng, c_X6_isThing, r_X6_isThing, tbl, true_and, Nat.reduceAdd, Nat.reduceLT, ↓reduceIte, n_eq, n_lt, n_le, n_cl, n_inT, nI_add, bI_eq0, bI_eq1, not_true_eq_false, not_false_eq_true, true_implies, false_implies, implies_true, and_true, Bool.not_eq_false, Bool.not_eq_true, Nat.reduceEqDiff, Nat.reduceLeDiff, Classical.not_not, List.length_cons, List.length_nil, Int.reduceAdd, z_cast, Nat.reducePow, false_or, Nat.reduceLT, Nat.sub_zero, Nat.le_refl, hn]
  try simp only [iteP, Classical.not_not, Bool.not_eq_false, Bool.not_eq_true]
  refine m_inB rfl (pm1 h12) ?_
  exact ⟨okR_b _, hK⟩
theorem m_livX {l : Launch} {E : Es} {x : Int32} {σ : St} {K : Int32 → St → Prop} (hW : Wf E) (hE : ME E σ) (hK : K (bI (livX E x)) σ) : CallAt l 113 [.ref 900, .int x] σ K := by
  unfold livX at hK
  refine CallAt.of (k := 113) (cd := k_X6_livesOne) ok_X6_livesOne (by decide) rfl rfl rfl ?_
  show V _ i_X6_livesOne k_X6_livesOne 0 [.ref 900, .int x] [] _ _
  refine V_run ok_X6_livesOne 50 0 ?_
  simp (disch := omega) only [eng, c_X6_livesOne, r_X6_livesOne, tbl, true_and, Nat.reduceAdd, Nat.reduceLT, ↓reduceIte, n_eq, n_lt, n_le, n_cl, n_inT, nI_add, bI_eq0, bI_eq1, not_true_eq_false, not_false_eq_true, true_implies, false_implies, implies_true, and_true, Bool.not_eq_false, Bool.not_eq_true, Nat.reduceEqDiff, Nat.reduceLeDiff, Classical.not_not, List.length_cons, List.length_nil, Int.reduceAdd, z_cast, Nat.reducePow, false_or, Nat.reduceLT, Nat.sub_zero, Nat.le_refl]
  try simp only [iteP, Classical.not_not, Bool.not_eq_false, Bool.not_eq_true]
  refine m_isOne hE.1 hW.1 ?_
  cases h : inB x (E 12 0) with
  | false =>
    rw [h] at hK
    simp (disch := omega) only [n_eq, n_lt, n_le, n_cl, n_inT, nI_add, bI_eq0, bI_eq1, not_true_eq_false, not_false_eq_true, true_implies, false_implies, implies_true, and_true, Bool.not_eq_false, Bool.not_eq_true, Nat.reduceEqDiff, Nat.reduceLeDiff, Classical.not_not, List.length_cons, List.length_nil, Int.reduceAdd, z_cast, Nat.reducePow, false_or, Nat.reduceLT, Nat.sub_zero, Nat.le_refl, true_and, ↓reduceIte, iteP, Bool.false_eq_true]
    exact hK
  | true =>
    obtain ⟨p, hp, rfl⟩ := inB_of h
    have hp12 := p12 hW hp
    have fp := (hE.2.2.2.1 p hp).2.2.2.2.2
    have w5 := (hW.2.2.2.1 p hp).2.1
    rw [h, n_cl (by omega), Bool.true_and] at hK
    by_cases z : E 5 p = 1
    · rw [show (E 5 p == 1) = true by simpa using z] at hK
      simp (disch := omega) only [n_eq, n_lt, n_le, n_cl, n_inT, nI_add, bI_eq0, bI_eq1, not_true_eq_false, not_false_eq_true, true_implies, false_implies, implies_true, and_true, Bool.not_eq_false, Bool.not_eq_true, Nat.reduceEqDiff, Nat.reduceLeDiff, Classical.not_not, List.length_cons, List.length_nil, Int.reduceAdd, z_cast, Nat.reducePow, false_or, Nat.reduceLT, Nat.sub_zero, Nat.le_refl, true_and, ↓reduceIte, iteP, Bool.true_eq_false, fp, z]
      exact hK
    · rw [show (E 5 p == 1) = false by simpa using z] at hK
      simp (disch := omega) only [n_eq, n_lt, n_le, n_cl, n_inT, nI_add, bI_eq0, bI_eq1, not_true_eq_false, not_false_eq_true, true_implies, false_implies, implies_true, and_true, Bool.not_eq_false, Bool.not_eq_true, Nat.reduceEqDiff, Nat.reduceLeDiff, Classical.not_not, List.length_cons, List.length_nil, Int.reduceAdd, z_cast, Nat.reducePow, false_or, Nat.reduceLT, Nat.sub_zero, Nat.le_refl, true_and, ↓reduceIte, iteP, Bool.true_eq_false, fp, z]
      exact hK
/-- cells below 900 are as before -/
def FrM (σ σ' : St) : Prop := ∀ k, k < 900 → σ' k = σ k
theorem FrM.rfl' {σ : St} : FrM σ σ := fun _ _ => rfl
theorem FrM.trans {σ σ' σ'' : St} (h : FrM σ σ') (h2 : FrM σ' σ'') : FrM σ σ'' := fun k a => (h2 k a).trans (h k a)
theorem FrM.wr {σ σ' : St} {k j : Nat} {v : Int32} (h : FrM σ σ') (hk : 900 ≤ k) : FrM σ (wr σ' k j v) := fun k' hk' => by rw [wr_ne k' (by omega)]; exact h k' hk'
/-- an estate as the array c keeps it -/
def KE (c : Nat) (E : Es) (σ : St) : Prop :=
  σ c 136 = nI (E 12 0) ∧ σ c 137 = nI (E 12 1) ∧ σ c 138 = nI (E 12 2) ∧
  (∀ p, p < E 12 0 → σ c p = nI (E 0 p) ∧ σ c (12 + p) = nI (E 1 p) ∧ σ c (24 + p) = nI (E 2 p) ∧ σ c (36 + p) = nI (E 3 p) ∧ σ c (48 + p) = nI (E 4 p) ∧ σ c (60 + p) = nI (E 5 p)) ∧
  (∀ t, t < E 12 1 → σ c (72 + t) = nI (E 6 t) ∧ σ c (84 + t) = nI (E 7 t) ∧ σ c (96 + t) = nI (E 8 t) ∧ σ c (108 + t) = nI (E 9 t)) ∧
  (∀ k, k < 4 → σ c (132 + k) = nI (E 11 k) ∧ ∀ i, i < E 11 k → σ c (120 + (3 * k + i)) = nI (E 10 (3 * k + i)))
/-- the reference holds A -/
def MX (A : AS) (σ : St) : Prop := AWf A ∧ ME A.1 σ ∧ σ 900 22 = bI A.2.1.isSome ∧ (∀ E', A.2.1 = some E' → KE 924 E' σ) ∧ (σ 900 16 = nI A.2.2.1.2 ∧ ∀ i, i < A.2.2.1.2 → σ 916 i = nI (A.2.2.1.1 i)) ∧ ((∀ s, s < 4 → σ 926 s = A.2.2.2.1 s ∧ σ 927 s = nI (A.2.2.2.2.1 s)) ∧ ∀ j, j < 96 → σ 928 j = A.2.2.2.2.2 j)
/-- what the estate's cells leave -/
def FrN (σ σ' : St) : Prop := (∀ k, k ≠ 900 → k < 901 ∨ 914 < k → σ' k = σ k) ∧ ∀ j, j ≠ 6 → j ≠ 11 → j ≠ 14 → σ' 900 j = σ 900 j
theorem FrN.rfl' {σ : St} : FrN σ σ := ⟨fun _ _ _ => rfl, fun _ _ _ _ => rfl⟩
theorem FrN.trans {σ σ' σ'' : St} (h : FrN σ σ') (h2 : FrN σ' σ'') : FrN σ σ'' := ⟨fun k a b => (h2.1 k a b).trans (h.1 k a b), fun j a b c => (h2.2 j a b c).trans (h.2 j a b c)⟩
theorem FrN.wr {σ σ' : St} {k j : Nat} {v : Int32} (h : FrN σ σ') (hk : 901 ≤ k) (hk2 : k ≤ 914) : FrN σ (wr σ' k j v) := ⟨fun k' h1 h2 => by rw [wr_ne k' (by omega)]; exact h.1 k' h1 h2, fun j' h1 h2 h3 => by rw [wr_ne 900 (by omega)]; exact h.2 j' h1 h2 h3⟩
theorem FrN_wr9 {σ σ' : St} {j : Nat} {v : Int32} (h : FrN σ σ') (hj : j = 6 ∨ j = 11 ∨ j = 14) : FrN σ (wr σ' 900 j v) := ⟨fun k' h1 h2 => by rw [wr_ne k' h1]; exact h.1 k' h1 h2, fun j' h1 h2 h3 => by simp [wr_at, show j' ≠ j by omega, h.2 j' h1 h2 h3]⟩
theorem FrN.m {σ σ' : St} (h : FrN σ σ') : FrM σ σ' := fun k hk => h.1 k (by omega) (by omega)
theorem KE.frame {c : Nat} {E : Es} {σ σ' : St} (h : KE c E σ) (hf : σ' c = σ c) : KE c E σ' := by
  unfold KE at h ⊢
  rw [hf]; exact h
theorem MX.es {A : AS} {E : Es} {σ σ' : St} (h : MX A σ) (hf : FrN σ σ') (hW : Wf E) (hE : ME E σ') : MX (setE A E) σ' := by
  obtain ⟨a1, a2, a3, a4, a5, a6⟩ := h
  refine ⟨⟨hW, a1.2⟩, hE, by rw [hf.2 22 (by omega) (by omega) (by omega)]; exact a3, fun E' he => (a4 E' he).frame (hf.1 924 (by omega) (by omega)), ⟨by rw [hf.2 16 (by omega) (by omega) (by omega)]; exact a5.1, fun i hi => by rw [hf.1 916 (by omega) (by omega)]; exact a5.2 i hi⟩, ⟨fun s hs => by rw [hf.1 926 (by omega) (by omega), hf.1 927 (by omega) (by omega)]; exact a6.1 s hs, fun j hj => by rw [hf.1 928 (by omega) (by omega)]; exact a6.2 j hj⟩⟩
theorem m_add {l : Launch} {s f m : Nat} {E : Es} {σ : St} {K : Int32 → St → Prop} (hW : Wf E) (hE : ME E σ) (hn : E 12 0 < 12) (hK : ∀ σ', ME (addE E s f m) σ' → FrN σ σ' → K 0 σ') : CallAt l 114 [.ref 900, .int (nI s), .int (nI f), .int (nI m)] σ K := by
  obtain ⟨a1, a2, a3, a4, a5, a6⟩ := hE
  refine CallAt.of (k := 114) (cd := k_X6_add) ok_X6_add (by decide) rfl rfl rfl ?_
  show V _ i_X6_add k_X6_add 0 [.ref 900, .int (nI s), .int (nI f), .int (nI m)] [] _ _
  refine V_run ok_X6_add 60 0 ?_
  simp (disch := omega) only [eng, c_X6_add, r_X6_add, tbl, true_and, Nat.reduceAdd, Nat.reduceLT, ↓reduceIte, n_eq, n_lt, n_le, n_cl, n_inT, nI_add, bI_eq0, bI_eq1, not_true_eq_false, not_false_eq_true, true_implies, false_implies, implies_true, and_true, Bool.not_eq_false, Bool.not_eq_true, Nat.reduceEqDiff, Nat.reduceLeDiff, Classical.not_not, List.length_cons, List.length_nil, Int.reduceAdd, z_cast, Nat.reducePow, false_or, Nat.reduceLT, Nat.sub_zero, Nat.le_refl, a1, wrq]
  try simp only [iteP, Classical.not_not, Bool.not_eq_false, Bool.not_eq_true]
  refine hK _ ⟨?_, ?_, ?_, fun p hp => ?_, fun t ht => ?_, fun k hk => ?_⟩ ?_
  · simp [wr_at, addE]
  · simpa [wr_at, addE] using a2
  · simpa [wr_at, addE] using a3
  · by_cases z : p = E 12 0
    · subst z; simp [wr_at, addE]
    · have e : addE E s f m 12 0 = E 12 0 + 1 := by simp [addE]
      have := a4 p (by omega)
      simp [wr_at, addE, z, this]
  · have := a5 t (by simpa [addE] using ht)
    simp [wr_at, addE, this]
  · have := a6 k hk
    refine ⟨by simpa [wr_at, addE] using this.1, fun i hi => ?_⟩
    have := this.2 i (by simpa [addE] using hi)
    simpa [wr_at, addE] using this
  · exact ⟨fun k h1 h2 => by simp (disch := omega) only [wrq], fun j h1 h2 h3 => by simp [wr_at, h1]⟩
/-- people and rules alone -/
def MPR (E : Es) (σ : St) : Prop :=
  σ 900 6 = nI (E 12 0) ∧ True ∧ True ∧
  (∀ p, p < E 12 0 → σ 901 p = nI (E 0 p) ∧ σ 902 p = nI (E 1 p) ∧ σ 903 p = nI (E 2 p) ∧ σ 904 p = nI (E 3 p) ∧ σ 905 p = nI (E 4 p) ∧ σ 906 p = nI (E 5 p)) ∧
  True ∧
  (∀ k, k < 4 → σ 914 k = nI (E 11 k) ∧ ∀ i, i < E 11 k → σ 913 (3 * k + i) = nI (E 10 (3 * k + i)))
theorem ME.q {E : Es} {σ : St} (h : ME E σ) : MPR E σ := ⟨h.1, trivial, trivial, h.2.2.2.1, trivial, h.2.2.2.2.2⟩
