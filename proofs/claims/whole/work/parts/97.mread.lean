/-! the reference reads -/
def RM (tp : Nat → Nat) (ln q : Nat) (σ : St) : Prop := σ 900 16 = nI ln ∧ (∀ i, i < ln → σ 916 i = nI (tp i)) ∧ σ 900 17 = nI q ∧ q ≤ ln
def FrY (σ σ' : St) : Prop := (∀ k, k ≠ 900 → k ≠ 920 → σ' k = σ k) ∧ ∀ j, j ≠ 17 → j ≠ 18 → σ' 900 j = σ 900 j
theorem FrY.rfl' {σ : St} : FrY σ σ := ⟨fun _ _ _ => rfl, fun _ _ _ => rfl⟩
theorem FrY.trans {σ σ' σ'' : St} (h : FrY σ σ') (h2 : FrY σ' σ'') : FrY σ σ'' := ⟨fun k a b => (h2.1 k a b).trans (h.1 k a b), fun j a b => (h2.2 j a b).trans (h.2 j a b)⟩
theorem FrY.pl {σ σ' : St} {v : Int32} (h : FrY σ σ') : FrY σ (wr σ' 900 17 v) := ⟨fun k a b => by rw [wr_ne k a]; exact h.1 k a b, fun j a b => by rw [wr_at, if_neg (fun z => a z.2)]; exact h.2 j a b⟩
theorem FrY.r8 {σ σ' : St} {v : Int32} (h : FrY σ σ') : FrY σ (wr σ' 900 18 v) := ⟨fun k a b => by rw [wr_ne k a]; exact h.1 k a b, fun j a b => by rw [wr_at, if_neg (fun z => b z.2)]; exact h.2 j a b⟩
theorem FrY.rd {σ σ' : St} {j : Nat} {v : Int32} (h : FrY σ σ') : FrY σ (wr σ' 920 j v) := ⟨fun k a b => by rw [wr_ne k b]; exact h.1 k a b, fun j a b => by rw [wr_ne 900 (by decide)]; exact h.2 j a b⟩
theorem RM.pl {tp : Nat → Nat} {ln q q' : Nat} {σ : St} (h : RM tp ln q σ) (hq : q' ≤ ln) : RM tp ln q' (wr σ 900 17 (nI q')) :=
  ⟨by rw [wr_at, if_neg (by omega)]; exact h.1, fun i hi => by rw [wr_ne 916 (by decide)]; exact h.2.1 i hi, by simp [wr_at], hq⟩
theorem RM.rd {tp : Nat → Nat} {ln q j : Nat} {v : Int32} {σ : St} (h : RM tp ln q σ) : RM tp ln q (wr σ 920 j v) :=
  ⟨by rw [wr_ne 900 (by decide)]; exact h.1, fun i hi => by rw [wr_ne 916 (by decide)]; exact h.2.1 i hi, by rw [wr_ne 900 (by decide)]; exact h.2.2.1, h.2.2.2⟩
theorem RM.r8 {tp : Nat → Nat} {ln q : Nat} {v : Int32} {σ : St} (h : RM tp ln q σ) : RM tp ln q (wr σ 900 18 v) :=
  ⟨by rw [wr_at, if_neg (by omega)]; exact h.1, fun i hi => by rw [wr_ne 916 (by decide)]; exact h.2.1 i hi, by rw [wr_at, if_neg (by omega)]; exact h.2.2.1, h.2.2.2⟩
/-- what nextByte answers at p -/
def cZ (tp : Nat → Nat) (ln p : Nat) : Int32 := if p < ln then nI (tp p) else -1
theorem lp_nextB (l : Launch) {tp : Nat → Nat} {ln : Nat} {σ : St} {K : Int32 → St → Prop} (hw : TpW tp ln) (h1 : σ 900 16 = nI ln) (h2 : ∀ i, i < ln → σ 916 i = nI (tp i)) : ∀ (n q : Nat), q + n = ln → K (cZ tp ln (nb tp ln q)) (wr σ 900 17 (nI (nb tp ln q))) → V l i_X6_nextByte k_X6_nextByte 0 [.ref 900] [] (wr σ 900 17 (nI q)) K
  | 0, q, hq, hK => by
    have hq : q = ln := by omega
    subst hq
    have hl := hw.1
    rw [nb_stop (fun z => by omega)] at hK
    unfold cZ at hK
    rw [if_neg (by omega)] at hK
    refine V_run ok_X6_nextByte 60 0 ?_
    simp (disch := omega) only [eng, c_X6_nextByte, r_X6_nextByte, tbl, true_and, Nat.reduceAdd, Nat.reduceLT, ↓reduceIte, n_eq, n_lt, n_le, n_cl, n_inT, nI_add, bI_eq0, bI_eq1, not_true_eq_false, not_false_eq_true, true_implies, false_implies, implies_true, and_true, Bool.not_eq_false, Bool.not_eq_true, Nat.reduceEqDiff, Nat.reduceLeDiff, Classical.not_not, List.length_cons, List.length_nil, Int.reduceAdd, z_cast, Nat.reducePow, false_or, Nat.reduceLT, Nat.sub_zero, Nat.le_refl, h1, wrq]
    try simp only [iteP, Classical.not_not, Bool.not_eq_false, Bool.not_eq_true]
    exact hK
  | n + 1, q, hq, hK => by
    have hl := hw.1
    have hq1 : q < ln := by omega
    have h0 : ¬ ln ≤ q := by omega
    have hb := hw.2 q hq1
    have e := h2 q hq1
    by_cases z : tp q = 32
    · rw [nb_step hq1 z] at hK
      refine V_run ok_X6_nextByte 60 0 ?_
      simp (disch := omega) only [eng, c_X6_nextByte, r_X6_nextByte, tbl, true_and, Nat.reduceAdd, Nat.reduceLT, ↓reduceIte, n_eq, n_lt, n_le, n_cl, n_inT, nI_add, bI_eq0, bI_eq1, not_true_eq_false, not_false_eq_true, true_implies, false_implies, implies_true, and_true, Bool.not_eq_false, Bool.not_eq_true, Nat.reduceEqDiff, Nat.reduceLeDiff, Classical.not_not, List.length_cons, List.length_nil, Int.reduceAdd, z_cast, Nat.reducePow, false_or, Nat.reduceLT, Nat.sub_zero, Nat.le_refl, h1, wrq, h0, e, z, wr_wr]
      try simp only [iteP, Classical.not_not, Bool.not_eq_false, Bool.not_eq_true]
      exact lp_nextB l hw h1 h2 n (q + 1) (by omega) hK
    · rw [nb_stop (fun y => z y.2)] at hK
      unfold cZ at hK
      rw [if_pos hq1] at hK
      refine V_run ok_X6_nextByte 60 0 ?_
      simp (disch := omega) only [eng, c_X6_nextByte, r_X6_nextByte, tbl, true_and, Nat.reduceAdd, Nat.reduceLT, ↓reduceIte, n_eq, n_lt, n_le, n_cl, n_inT, nI_add, bI_eq0, bI_eq1, not_true_eq_false, not_false_eq_true, true_implies, false_implies, implies_true, and_true, Bool.not_eq_false, Bool.not_eq_true, Nat.reduceEqDiff, Nat.reduceLeDiff, Classical.not_not, List.length_cons, List.length_nil, Int.reduceAdd, z_cast, Nat.reducePow, false_or, Nat.reduceLT, Nat.sub_zero, Nat.le_refl, h1, wrq, h0, e, z]
      try simp only [iteP, Classical.not_not, Bool.not_eq_false, Bool.not_eq_true]
      exact hK
theorem m_nextB {l : Launch} {tp : Nat → Nat} {ln q : Nat} {σ : St} {K : Int32 → St → Prop} (hw : TpW tp ln) (hS : RM tp ln q σ) (hK : K (cZ tp ln (nb tp ln q)) (wr σ 900 17 (nI (nb tp ln q)))) : CallAt l 139 [.ref 900] σ K := by
  obtain ⟨a1, a2, a3, a4⟩ := hS
  refine CallAt.of (k := 139) (cd := k_X6_nextByte) ok_X6_nextByte (by decide) rfl rfl rfl ?_
  show V _ i_X6_nextByte k_X6_nextByte 0 [.ref 900] [] _ _
  have := lp_nextB l (K := K) hw a1 a2 (ln - q) q (by omega) hK
  rw [wr_same a3] at this
  exact this
theorem cZ_c {tp : Nat → Nat} {ln : Nat} (hw : TpW tp ln) (p : Nat) : (cZ tp ln p = -1 ∧ cN tp ln p = 0 ∧ ln ≤ p) ∨ (cZ tp ln p = nI (cN tp ln p) ∧ 32 ≤ cN tp ln p ∧ cN tp ln p ≤ 126 ∧ p < ln) := by
  unfold cZ cN
  by_cases z : p < ln
  · rw [if_pos z, if_pos z]
    have := hw.2 p z
    exact Or.inr ⟨rfl, this.1, this.2, z⟩
  · rw [if_neg z, if_neg z]
    exact Or.inl ⟨rfl, rfl, by omega⟩
theorem m1_ne {c : Nat} (hc : c < 200) : ((-1 : Int32) = nI c) = False := by
  apply eq_false
  rw [i_eq, nI_nn _ (by omega)]
  show ¬ ((-1 : Int) = c)
  omega
theorem cZ_eq {tp : Nat → Nat} {ln c : Nat} (hw : TpW tp ln) (p : Nat) (h0 : 0 < c) (hc : c < 200) : (cZ tp ln p = nI c) = (cN tp ln p = c) := by
  rcases cZ_c hw p with ⟨e1, e2, _⟩ | ⟨e1, e2, e3, _⟩
  · rw [e1, e2, m1_ne hc]
    apply propext
    constructor
    · intro z; cases z
    · intro z; omega
  · rw [e1, n_eq (by omega) (by omega)]
theorem m_takes {l : Launch} {tp : Nat → Nat} {ln q c : Nat} {σ : St} {K : Int32 → St → Prop} (hw : TpW tp ln) (hS : RM tp ln q σ) (h0 : 0 < c) (hc : c < 200) (hF : cN tp ln (nb tp ln q) ≠ c → K (nI 0) (wr σ 900 17 (nI (nb tp ln q)))) (hK : cN tp ln (nb tp ln q) = c → K (nI 1) (wr σ 900 17 (nI (nb tp ln q + 1)))) : CallAt l 140 [.ref 900, .int (nI c)] σ K := by
  refine CallAt.of (k := 140) (cd := k_X6_takes) ok_X6_takes (by decide) rfl rfl rfl ?_
  show V _ i_X6_takes k_X6_takes 0 [.ref 900, .int (nI c), .null] [] _ _
  refine V_run ok_X6_takes 60 0 ?_
  simp (disch := omega) only [eng, c_X6_takes, r_X6_takes, tbl, true_and, Nat.reduceAdd, Nat.reduceLT, ↓reduceIte, n_eq, n_lt, n_le, n_cl, n_inT, nI_add, bI_eq0, bI_eq1, not_true_eq_false, not_false_eq_true, true_implies, false_implies, implies_true, and_true, Bool.not_eq_false, Bool.not_eq_true, Nat.reduceEqDiff, Nat.reduceLeDiff, Classical.not_not, List.length_cons, List.length_nil, Int.reduceAdd, z_cast, Nat.reducePow, false_or, Nat.reduceLT, Nat.sub_zero, Nat.le_refl]
  try simp only [iteP, Classical.not_not, Bool.not_eq_false, Bool.not_eq_true]
  refine m_nextB hw hS ?_
  have e := cZ_eq (c := c) hw (nb tp ln q) h0 hc
  by_cases z : cN tp ln (nb tp ln q) = c
  · have e : (cZ tp ln (nb tp ln q) = nI c) = True := by rw [e]; exact eq_true z
    simp (disch := omega) only [n_eq, n_lt, n_le, n_cl, n_inT, nI_add, bI_eq0, bI_eq1, not_true_eq_false, not_false_eq_true, true_implies, false_implies, implies_true, and_true, Bool.not_eq_false, Bool.not_eq_true, Nat.reduceEqDiff, Nat.reduceLeDiff, Classical.not_not, List.length_cons, List.length_nil, Int.reduceAdd, z_cast, Nat.reducePow, false_or, Nat.reduceLT, Nat.sub_zero, Nat.le_refl, true_and, ↓reduceIte, iteP, e, wrq, wr_wr]
    exact hK z
  · have e : (cZ tp ln (nb tp ln q) = nI c) = False := by rw [e]; exact eq_false z
    simp (disch := omega) only [n_eq, n_lt, n_le, n_cl, n_inT, nI_add, bI_eq0, bI_eq1, not_true_eq_false, not_false_eq_true, true_implies, false_implies, implies_true, and_true, Bool.not_eq_false, Bool.not_eq_true, Nat.reduceEqDiff, Nat.reduceLeDiff, Classical.not_not, List.length_cons, List.length_nil, Int.reduceAdd, z_cast, Nat.reducePow, false_or, Nat.reduceLT, Nat.sub_zero, Nat.le_refl, true_and, ↓reduceIte, iteP, e, wrq, wr_wr, Nat.add_zero]
    exact hF z
theorem sub97 {c k : Nat} (hc : c ≤ 126) (hk : k ≤ 11) : inB (nI c - nI 97) k = decide (97 ≤ c ∧ c - 97 < k) := by
  unfold inB
  rw [i_sub97 c hc]
  apply Bool.eq_iff_iff.mpr
  simp only [decide_eq_true_eq]
  omega
theorem m1_97 : inB ((-1 : Int32) - nI 97) 12 = false := by decide
theorem inB_mono {x : Int32} {k n : Nat} (h : inB x n = false) (hk : k ≤ n) : inB x k = false := by
  unfold inB at h ⊢
  rw [decide_eq_false_iff_not] at h ⊢
  omega
theorem letter {tp : Nat → Nat} {ln : Nat} (hw : TpW tp ln) (p k : Nat) (hk : k ≤ 11) : inB (cZ tp ln p - nI 97) k = decide (97 ≤ cN tp ln p ∧ cN tp ln p - 97 < k) := by
  rcases cZ_c hw p with ⟨e1, e2, _⟩ | ⟨e1, e2, e3, _⟩
  · rw [e1, e2, inB_mono m1_97 (by omega)]
    rw [decide_eq_false (by omega)]
  · rw [e1, sub97 e3 hk]
theorem letter_v {tp : Nat → Nat} {ln : Nat} (hw : TpW tp ln) (p : Nat) (h : 97 ≤ cN tp ln p) : cZ tp ln p - nI 97 = nI (cN tp ln p - 97) := by
  rcases cZ_c hw p with ⟨e1, e2, _⟩ | ⟨e1, e2, e3, _⟩
  · omega
  · rw [e1, pk_sub h]
theorem km1 {k : Nat} (hk : k ≤ 12) : (nI k - nI 1).toInt64.toInt = (k : Int) - 1 := pm1 hk
theorem m_readOne {l : Launch} {tp : Nat → Nat} {ln q k w : Nat} {g : Nat → Nat} {σ : St} {K : Int32 → St → Prop} (hw : TpW tp ln) (hS : RM tp ln q σ) (hk : k ≤ 11) (hw1 : w ≤ 1) (hg : ∀ j, j < k → σ 920 (4 * j) = nI (g j) ∧ g j ≤ 1) (hF : ¬ (97 ≤ cN tp ln (nb tp ln q) ∧ cN tp ln (nb tp ln q) - 97 < k ∧ g (cN tp ln (nb tp ln q) - 97) = w) → K (-1) (wr σ 900 17 (nI (nb tp ln q)))) (hK : (97 ≤ cN tp ln (nb tp ln q) ∧ cN tp ln (nb tp ln q) - 97 < k ∧ g (cN tp ln (nb tp ln q) - 97) = w) → K (nI (cN tp ln (nb tp ln q) - 97)) (wr σ 900 17 (nI (nb tp ln q + 1)))) : CallAt l 141 [.ref 900, .int (nI k), .int (nI w)] σ K := by
  refine CallAt.of (k := 141) (cd := k_X6_readOne) ok_X6_readOne (by decide) rfl rfl rfl ?_
  show V _ i_X6_readOne k_X6_readOne 0 [.ref 900, .int (nI k), .int (nI w), .null] [] _ _
  refine V_run ok_X6_readOne 60 0 ?_
  simp (disch := omega) only [eng, c_X6_readOne, r_X6_readOne, tbl, true_and, Nat.reduceAdd, Nat.reduceLT, ↓reduceIte, n_eq, n_lt, n_le, n_cl, n_inT, nI_add, bI_eq0, bI_eq1, not_true_eq_false, not_false_eq_true, true_implies, false_implies, implies_true, and_true, Bool.not_eq_false, Bool.not_eq_true, Nat.reduceEqDiff, Nat.reduceLeDiff, Classical.not_not, List.length_cons, List.length_nil, Int.reduceAdd, z_cast, Nat.reducePow, false_or, Nat.reduceLT, Nat.sub_zero, Nat.le_refl]
  try simp only [iteP, Classical.not_not, Bool.not_eq_false, Bool.not_eq_true]
  refine m_nextB hw hS ?_
  refine m_inB rfl (km1 (by omega)) ?_
  rw [letter hw _ k hk]
  by_cases z : 97 ≤ cN tp ln (nb tp ln q) ∧ cN tp ln (nb tp ln q) - 97 < k
  · rw [decide_eq_true z, letter_v hw _ z.1]
    have f := hg _ z.2
    by_cases y : g (cN tp ln (nb tp ln q) - 97) = w
    · simp (disch := omega) only [n_eq, n_lt, n_le, n_cl, n_inT, nI_add, bI_eq0, bI_eq1, not_true_eq_false, not_false_eq_true, true_implies, false_implies, implies_true, and_true, Bool.not_eq_false, Bool.not_eq_true, Nat.reduceEqDiff, Nat.reduceLeDiff, Classical.not_not, List.length_cons, List.length_nil, Int.reduceAdd, z_cast, Nat.reducePow, false_or, Nat.reduceLT, Nat.sub_zero, Nat.le_refl, true_and, ↓reduceIte, iteP, Bool.true_eq_false, pk_mul, wrq, f, y, wr_wr]
      exact hK ⟨z.1, z.2, y⟩
    · simp (disch := omega) only [n_eq, n_lt, n_le, n_cl, n_inT, nI_add, bI_eq0, bI_eq1, not_true_eq_false, not_false_eq_true, true_implies, false_implies, implies_true, and_true, Bool.not_eq_false, Bool.not_eq_true, Nat.reduceEqDiff, Nat.reduceLeDiff, Classical.not_not, List.length_cons, List.length_nil, Int.reduceAdd, z_cast, Nat.reducePow, false_or, Nat.reduceLT, Nat.sub_zero, Nat.le_refl, true_and, ↓reduceIte, iteP, Bool.true_eq_false, pk_mul, wrq, f, y, wr_wr]
      exact hF (fun x => y x.2.2)
  · rw [decide_eq_false z]
    simp (disch := omega) only [n_eq, n_lt, n_le, n_cl, n_inT, nI_add, bI_eq0, bI_eq1, not_true_eq_false, not_false_eq_true, true_implies, false_implies, implies_true, and_true, Bool.not_eq_false, Bool.not_eq_true, Nat.reduceEqDiff, Nat.reduceLeDiff, Classical.not_not, List.length_cons, List.length_nil, Int.reduceAdd, z_cast, Nat.reducePow, false_or, Nat.reduceLT, Nat.sub_zero, Nat.le_refl, true_and, ↓reduceIte, iteP, Bool.false_eq_true]
    exact hF (fun x => z ⟨x.1, x.2.1⟩)
