/-- x lives -/
theorem livX_n {E : Es} (hn : E 12 0 ≤ 12) {j : Nat} (hj : j < E 12 0) : livX E (nI j) = (E 5 j == 1) := by
  unfold livX
  rw [inB_n (by omega), n_cl (by omega), decide_eq_true hj, Bool.true_and]
theorem Wf_god {E : Es} (hW : Wf E) {k v : Nat} (hv : v = 12 ∨ (v < E 12 0 ∧ v ≠ k)) : Wf (eu E 4 k v) := by
  obtain ⟨a1, a2, a3, a4, a5, a6⟩ := hW
  have e : ∀ i' j, i' ≠ 4 → eu E 4 k v i' j = E i' j := fun i' j h => by simp [eu, h]
  refine ⟨by rw [e 12 0 (by omega)]; exact a1, by rw [e 12 1 (by omega)]; exact a2, by rw [e 12 2 (by omega)]; exact a3, fun q hq => ?_, fun t ht => ?_, fun k' hk => ?_⟩
  · rw [e 12 0 (by omega)] at hq
    obtain ⟨b1, b2, b3, b4, b5, b6, b7⟩ := a4 q hq
    unfold WfP
    rw [e 0 q (by omega), e 1 q (by omega), e 2 q (by omega), e 5 q (by omega), e 3 q (by omega), e 12 0 (by omega), e 0 _ (by omega), e 0 _ (by omega), e 0 _ (by omega), e 3 _ (by omega)]
    refine ⟨b1, b2, b3, b4, b5, ?_, b7⟩
    by_cases z : q = k
    · subst z
      have : eu E 4 q v 4 q = v := by simp [eu]
      rw [this]; exact hv
    · have : eu E 4 k v 4 q = E 4 q := by simp [eu, z]
      rw [this]; exact b6
  · rw [e 12 1 (by omega)] at ht
    have := a5 t ht
    unfold WfT
    rw [e 6 t (by omega), e 7 t (by omega), e 8 t (by omega), e 9 t (by omega), e 12 0 (by omega)]
    exact this
  · have := a6 k' hk
    unfold WfR
    rw [e 11 k' (by omega)]
    exact ⟨this.1, this.2.1, fun i' hi' => by rw [e 10 _ (by omega)]; exact this.2.2 i' hi'⟩
theorem XE_god {b k v : Nat} {E : Es} {σ : St} (hE : XE b E σ) : XE b (eu E 4 k v) (wr σ (b + 7) k (nI v)) := by
  obtain ⟨a1, a2, a3, a4, a5, a6, a7⟩ := hE
  have el : lvm (eu E 4 k v) = lvm E := by simp [lvm, eu]
  have e8 : ∀ k', rw8 (eu E 4 k v) k' = rw8 E k' := fun k' => by simp [rw8, eu]
  refine ⟨by simpa [wr_at, eu] using a1, by rw [el]; simpa [wr_at] using a2, by simpa [wr_at, eu] using a3, by simpa [wr_at, eu] using a4, fun p hp => ?_, fun t ht => ?_, fun k' hk => ?_⟩
  · have := a5 p (by simpa [eu] using hp)
    by_cases z : p = k
    · subst z; simp [wr_at, eu, this]
    · simp [wr_at, eu, this, z]
  · have := a6 t (by simpa [eu] using ht)
    simp [wr_at, eu, this]
  · have := a7 k' hk
    rw [e8]
    simp [wr_at, eu, this]
theorem X_adopt {l : Launch} {A : AS} {c m : Int32} {σ : St} {K : Int32 → St → Prop} (hC : CX A σ) (hK : ∀ σ', CX (op_adopt A c m).2 σ' → FrX σ σ' → K (op_adopt A c m).1 σ') : CallAt l 74 [.ref 0, .int c, .int m] σ K := by
  have hW := hC.1.1
  have hE := hC.2.1
  have hn := hW.1
  unfold op_adopt at hK
  rcases Classical.propComplete (m < c) with g | g
  all_goals
    refine CallAt.of (k := 74) (cd := k_X5_adopt) ok_X5_adopt (by decide) rfl rfl rfl ?_
    show V _ i_X5_adopt k_X5_adopt 0 [.ref 0, .int c, .int m, .null] [] _ _
    refine V_run ok_X5_adopt 60 0 ?_
    simp (disch := omega) only [eng, c_X5_adopt, r_X5_adopt, tbl, true_and, Nat.reduceAdd, Nat.reduceLT, ↓reduceIte, n_eq, n_lt, n_le, n_cl, n_inT, nI_add, bI_eq0, bI_eq1, not_true_eq_false, not_false_eq_true, true_implies, false_implies, implies_true, and_true, Bool.not_eq_false, Bool.not_eq_true, Nat.reduceEqDiff, Nat.reduceLeDiff, Classical.not_not, List.length_cons, List.length_nil, Int.reduceAdd, z_cast, Nat.reducePow, false_or, Nat.reduceLT, Nat.sub_zero, Nat.le_refl, g]
    try simp only [iteP, Classical.not_not, Bool.not_eq_false, Bool.not_eq_true]
    refine x_known e100 hE.1 hn ?_
  case inr =>
    cases h1 : inB c (A.1 12 0) with
    | false => rw [h1] at hK;
               simp (disch := omega) only [n_eq, n_lt, n_le, n_cl, n_inT, nI_add, bI_eq0, bI_eq1, not_true_eq_false, not_false_eq_true, true_implies, false_implies, implies_true, and_true, Bool.not_eq_false, Bool.not_eq_true, Nat.reduceEqDiff, Nat.reduceLeDiff, Classical.not_not, List.length_cons, List.length_nil, Int.reduceAdd, z_cast, Nat.reducePow, false_or, Nat.reduceLT, Nat.sub_zero, Nat.le_refl, Bool.false_eq_true]
               exact hK σ hC FrX.rfl'
    | true =>
      simp (disch := omega) only [n_eq, n_lt, n_le, n_cl, n_inT, nI_add, bI_eq0, bI_eq1, not_true_eq_false, not_false_eq_true, true_implies, false_implies, implies_true, and_true, Bool.not_eq_false, Bool.not_eq_true, Nat.reduceEqDiff, Nat.reduceLeDiff, Classical.not_not, List.length_cons, List.length_nil, Int.reduceAdd, z_cast, Nat.reducePow, false_or, Nat.reduceLT, Nat.sub_zero, Nat.le_refl, true_and, ↓reduceIte, iteP, Bool.true_eq_false]
      refine x_isOf e100 hE.1 hn (hE.sx hW) (by decide) ?_
      rw [decide_eq_false (by rw [g]; exact id), Bool.and_false] at hK
      have hz := hK σ hC FrX.rfl'
      cases h2 : (inB m (A.1 12 0) && A.1 0 m.toNatClampNeg == 0)
      all_goals
        simp (disch := omega) only [n_eq, n_lt, n_le, n_cl, n_inT, nI_add, bI_eq0, bI_eq1, not_true_eq_false, not_false_eq_true, true_implies, false_implies, implies_true, and_true, Bool.not_eq_false, Bool.not_eq_true, Nat.reduceEqDiff, Nat.reduceLeDiff, Classical.not_not, List.length_cons, List.length_nil, Int.reduceAdd, z_cast, Nat.reducePow, false_or, Nat.reduceLT, Nat.sub_zero, Nat.le_refl, true_and, ↓reduceIte, iteP, Bool.true_eq_false, Bool.false_eq_true]
        exact hz
  case inl =>
    have g' : m < c := of_eq_true g
    cases h1 : inB c (A.1 12 0) with
    | false =>
      rw [h1] at hK
      simp (disch := omega) only [n_eq, n_lt, n_le, n_cl, n_inT, nI_add, bI_eq0, bI_eq1, not_true_eq_false, not_false_eq_true, true_implies, false_implies, implies_true, and_true, Bool.not_eq_false, Bool.not_eq_true, Nat.reduceEqDiff, Nat.reduceLeDiff, Classical.not_not, List.length_cons, List.length_nil, Int.reduceAdd, z_cast, Nat.reducePow, false_or, Nat.reduceLT, Nat.sub_zero, Nat.le_refl, true_and, ↓reduceIte, iteP, Bool.false_eq_true]
      exact hK σ hC FrX.rfl'
    | true =>
      simp (disch := omega) only [n_eq, n_lt, n_le, n_cl, n_inT, nI_add, bI_eq0, bI_eq1, not_true_eq_false, not_false_eq_true, true_implies, false_implies, implies_true, and_true, Bool.not_eq_false, Bool.not_eq_true, Nat.reduceEqDiff, Nat.reduceLeDiff, Classical.not_not, List.length_cons, List.length_nil, Int.reduceAdd, z_cast, Nat.reducePow, false_or, Nat.reduceLT, Nat.sub_zero, Nat.le_refl, true_and, ↓reduceIte, iteP, Bool.true_eq_false]
      refine x_isOf e100 hE.1 hn (hE.sx hW) (by decide) ?_
      have r1 : (inB m (A.1 12 0) && A.1 0 m.toNatClampNeg == 0) = isS A.1 m 0 := rfl
      rw [r1]
      cases h2 : isS A.1 m 0 with
      | false =>
        rw [h1, h2] at hK
        simp (disch := omega) only [n_eq, n_lt, n_le, n_cl, n_inT, nI_add, bI_eq0, bI_eq1, not_true_eq_false, not_false_eq_true, true_implies, false_implies, implies_true, and_true, Bool.not_eq_false, Bool.not_eq_true, Nat.reduceEqDiff, Nat.reduceLeDiff, Classical.not_not, List.length_cons, List.length_nil, Int.reduceAdd, z_cast, Nat.reducePow, false_or, Nat.reduceLT, Nat.sub_zero, Nat.le_refl, true_and, ↓reduceIte, iteP, Bool.false_eq_true]
        exact hK σ hC FrX.rfl'
      | true =>
        rw [h1, h2, decide_eq_true g', Bool.and_self, Bool.and_self, if_pos rfl] at hK
        simp (disch := omega) only [n_eq, n_lt, n_le, n_cl, n_inT, nI_add, bI_eq0, bI_eq1, not_true_eq_false, not_false_eq_true, true_implies, false_implies, implies_true, and_true, Bool.not_eq_false, Bool.not_eq_true, Nat.reduceEqDiff, Nat.reduceLeDiff, Classical.not_not, List.length_cons, List.length_nil, Int.reduceAdd, z_cast, Nat.reducePow, false_or, Nat.reduceLT, Nat.sub_zero, Nat.le_refl, true_and, ↓reduceIte, iteP, Bool.true_eq_false]
        obtain ⟨c', hc, rfl⟩ := inB_of h1
        obtain ⟨m', hm, rfl, hm2, hm3⟩ := isS_n hn h2
        have hc12 := p12 hW hc
        have hm12 := p12 hW hm
        rw [n_cl (by omega), n_cl (by omega)] at hK
        rw [n_lt (by omega) (by omega)] at g'
        have fc := (hE.2.2.2.2.1 c' hc).2.1
        refine x_lives e100 hW hE ?_
        rw [show (inB (nI c') (A.1 12 0) && A.1 5 (nI c').toNatClampNeg == 1) = livX A.1 (nI c') from rfl, livX_n hn hc]
        cases h3 : (A.1 5 c' == 1) with
        | false =>
          rw [if_neg (fun z => by simp [z.1] at h3)] at hK
          simp (disch := omega) only [n_eq, n_lt, n_le, n_cl, n_inT, nI_add, bI_eq0, bI_eq1, not_true_eq_false, not_false_eq_true, true_implies, false_implies, implies_true, and_true, Bool.not_eq_false, Bool.not_eq_true, Nat.reduceEqDiff, Nat.reduceLeDiff, Classical.not_not, List.length_cons, List.length_nil, Int.reduceAdd, z_cast, Nat.reducePow, false_or, Nat.reduceLT, Nat.sub_zero, Nat.le_refl, true_and, ↓reduceIte, iteP, Bool.false_eq_true]
          exact hK σ hC FrX.rfl'
        | true =>
          simp (disch := omega) only [n_eq, n_lt, n_le, n_cl, n_inT, nI_add, bI_eq0, bI_eq1, not_true_eq_false, not_false_eq_true, true_implies, false_implies, implies_true, and_true, Bool.not_eq_false, Bool.not_eq_true, Nat.reduceEqDiff, Nat.reduceLeDiff, Classical.not_not, List.length_cons, List.length_nil, Int.reduceAdd, z_cast, Nat.reducePow, false_or, Nat.reduceLT, Nat.sub_zero, Nat.le_refl, true_and, ↓reduceIte, iteP, Bool.true_eq_false]
          refine x_lives e100 hW hE ?_
          rw [show (inB (nI m') (A.1 12 0) && A.1 5 (nI m').toNatClampNeg == 1) = livX A.1 (nI m') from rfl, livX_n hn hm]
          cases h4 : (A.1 5 m' == 1) with
          | false =>
            rw [if_neg (fun z => by simp [z.2] at h4)] at hK
            simp (disch := omega) only [n_eq, n_lt, n_le, n_cl, n_inT, nI_add, bI_eq0, bI_eq1, not_true_eq_false, not_false_eq_true, true_implies, false_implies, implies_true, and_true, Bool.not_eq_false, Bool.not_eq_true, Nat.reduceEqDiff, Nat.reduceLeDiff, Classical.not_not, List.length_cons, List.length_nil, Int.reduceAdd, z_cast, Nat.reducePow, false_or, Nat.reduceLT, Nat.sub_zero, Nat.le_refl, true_and, ↓reduceIte, iteP, Bool.false_eq_true]
            exact hK σ hC FrX.rfl'
          | true =>
            rw [if_pos ⟨by simpa using h3, by simpa using h4⟩] at hK
            simp (disch := omega) only [n_eq, n_lt, n_le, n_cl, n_inT, nI_add, bI_eq0, bI_eq1, not_true_eq_false, not_false_eq_true, true_implies, false_implies, implies_true, and_true, Bool.not_eq_false, Bool.not_eq_true, Nat.reduceEqDiff, Nat.reduceLeDiff, Classical.not_not, List.length_cons, List.length_nil, Int.reduceAdd, z_cast, Nat.reducePow, false_or, Nat.reduceLT, Nat.sub_zero, Nat.le_refl, true_and, ↓reduceIte, iteP, Bool.true_eq_false, fc]
            exact hK _ (hC.es (FrE.rfl'.wr (by omega)) (Wf_par hW (Or.inl ⟨rfl, rfl⟩) g' hm3) (XE_eu hE (Or.inl rfl))) (FrX.rfl'.wr (by decide))
def op_god (A : AS) (p c : Int32) : Int32 × AS :=
  if (inB p (A.1 12 0) && decide (c ≠ p) && (decide (c = nI 12) || inB c (A.1 12 0))) = true then (nI (A.1 4 p.toNatClampNeg), setE A (eu A.1 4 p.toNatClampNeg c.toNatClampNeg)) else (-1, A)
theorem X_god {l : Launch} {A : AS} {p c : Int32} {σ : St} {K : Int32 → St → Prop} (hC : CX A σ) (hK : ∀ σ', CX (op_god A p c).2 σ' → FrX σ σ' → K (op_god A p c).1 σ') : CallAt l 75 [.ref 0, .int p, .int c] σ K := by
  have hW := hC.1.1
  have hE := hC.2.1
  have hn := hW.1
  unfold op_god at hK
  rcases Classical.propComplete (c = p) with g | g <;> rcases Classical.propComplete (c = nI 12) with g2 | g2
  all_goals
    refine CallAt.of (k := 75) (cd := k_X5_god) ok_X5_god (by decide) rfl rfl rfl ?_
    show V _ i_X5_god k_X5_god 0 [.ref 0, .int p, .int c, .null] [] _ _
    refine V_run ok_X5_god 60 0 ?_
    simp (disch := omega) only [eng, c_X5_god, r_X5_god, tbl, true_and, Nat.reduceAdd, Nat.reduceLT, ↓reduceIte, n_eq, n_lt, n_le, n_cl, n_inT, nI_add, bI_eq0, bI_eq1, not_true_eq_false, not_false_eq_true, true_implies, false_implies, implies_true, and_true, Bool.not_eq_false, Bool.not_eq_true, Nat.reduceEqDiff, Nat.reduceLeDiff, Classical.not_not, List.length_cons, List.length_nil, Int.reduceAdd, z_cast, Nat.reducePow, false_or, Nat.reduceLT, Nat.sub_zero, Nat.le_refl, g, g2]
    try simp only [iteP, Classical.not_not, Bool.not_eq_false, Bool.not_eq_true]
    refine x_known e100 hE.1 hn ?_
    cases h1 : inB p (A.1 12 0)
    case false =>
      rw [h1] at hK
      simp (disch := omega) only [n_eq, n_lt, n_le, n_cl, n_inT, nI_add, bI_eq0, bI_eq1, not_true_eq_false, not_false_eq_true, true_implies, false_implies, implies_true, and_true, Bool.not_eq_false, Bool.not_eq_true, Nat.reduceEqDiff, Nat.reduceLeDiff, Classical.not_not, List.length_cons, List.length_nil, Int.reduceAdd, z_cast, Nat.reducePow, false_or, Nat.reduceLT, Nat.sub_zero, Nat.le_refl, true_and, ↓reduceIte, iteP, Bool.false_eq_true]
      exact hK σ hC FrX.rfl'
    rw [h1] at hK
    simp only [ne_eq, g, g2, not_true_eq_false, not_false_eq_true, decide_false, decide_true, Bool.and_false, Bool.false_and, Bool.true_and, Bool.true_or, Bool.false_or, Bool.false_eq_true, if_false, if_true] at hK
    simp (disch := omega) only [n_eq, n_lt, n_le, n_cl, n_inT, nI_add, bI_eq0, bI_eq1, not_true_eq_false, not_false_eq_true, true_implies, false_implies, implies_true, and_true, Bool.not_eq_false, Bool.not_eq_true, Nat.reduceEqDiff, Nat.reduceLeDiff, Classical.not_not, List.length_cons, List.length_nil, Int.reduceAdd, z_cast, Nat.reducePow, false_or, Nat.reduceLT, Nat.sub_zero, Nat.le_refl, true_and, ↓reduceIte, iteP, Bool.true_eq_false]
  · exact hK σ hC FrX.rfl'
  · exact hK σ hC FrX.rfl'
  · have g2 : c = nI 12 := of_eq_true g2
    subst g2
    obtain ⟨p', hp, rfl⟩ := inB_of h1
    have fp := (hE.2.2.2.2.1 p' hp).2.2.2.2
    have hp12 := p12 hW hp
    rw [n_cl (by omega), n_cl (by omega)] at hK
    simp (disch := omega) only [n_eq, n_lt, n_le, n_cl, n_inT, nI_add, bI_eq0, bI_eq1, not_true_eq_false, not_false_eq_true, true_implies, false_implies, implies_true, and_true, Bool.not_eq_false, Bool.not_eq_true, Nat.reduceEqDiff, Nat.reduceLeDiff, Classical.not_not, List.length_cons, List.length_nil, Int.reduceAdd, z_cast, Nat.reducePow, false_or, Nat.reduceLT, Nat.sub_zero, Nat.le_refl, true_and, ↓reduceIte, iteP, fp]
    exact hK _ (hC.es (FrE.rfl'.wr (by omega)) (Wf_god hW (Or.inl rfl)) (XE_god hE)) (FrX.rfl'.wr (by decide))
  · refine x_known e100 hE.1 hn ?_
    cases h2 : inB c (A.1 12 0)
    · rw [h2] at hK
      simp (disch := omega) only [n_eq, n_lt, n_le, n_cl, n_inT, nI_add, bI_eq0, bI_eq1, not_true_eq_false, not_false_eq_true, true_implies, false_implies, implies_true, and_true, Bool.not_eq_false, Bool.not_eq_true, Nat.reduceEqDiff, Nat.reduceLeDiff, Classical.not_not, List.length_cons, List.length_nil, Int.reduceAdd, z_cast, Nat.reducePow, false_or, Nat.reduceLT, Nat.sub_zero, Nat.le_refl, true_and, ↓reduceIte, iteP, Bool.false_eq_true]
      exact hK σ hC FrX.rfl'
    · rw [h2, if_pos rfl] at hK
      obtain ⟨p', hp, rfl⟩ := inB_of h1
      obtain ⟨c', hc, rfl⟩ := inB_of h2
      have fp := (hE.2.2.2.2.1 p' hp).2.2.2.2
      have hp12 := p12 hW hp
      have hc12 := p12 hW hc
      rw [n_cl (by omega), n_cl (by omega)] at hK
      have g' : ¬ c' = p' := by have := of_eq_false g; rwa [n_eq (by omega) (by omega)] at this
      simp (disch := omega) only [n_eq, n_lt, n_le, n_cl, n_inT, nI_add, bI_eq0, bI_eq1, not_true_eq_false, not_false_eq_true, true_implies, false_implies, implies_true, and_true, Bool.not_eq_false, Bool.not_eq_true, Nat.reduceEqDiff, Nat.reduceLeDiff, Classical.not_not, List.length_cons, List.length_nil, Int.reduceAdd, z_cast, Nat.reducePow, false_or, Nat.reduceLT, Nat.sub_zero, Nat.le_refl, true_and, ↓reduceIte, iteP, Bool.true_eq_false, fp]
      exact hK _ (hC.es (FrE.rfl'.wr (by omega)) (Wf_god hW (Or.inr ⟨hc, g'⟩)) (XE_god hE)) (FrX.rfl'.wr (by decide))
