theorem M_thing {l : Launch} {A : AS} {k w h o : Int32} {σ : St} {K : Int32 → St → Prop} (hM : MX A σ) (hK : ∀ σ', MX (op_thing A k w h o).2 σ' → FrM σ σ' → K (op_thing A k w h o).1 σ') : CallAt l 133 [.ref 900, .int k, .int w, .int h, .int o] σ K := by
  have hW := hM.1.1
  have hE := hM.2.1
  have hn := hW.1
  have hn1 := hW.2.1
  have e11 := hE.2.1
  unfold op_thing at hK
  have add : ∀ k' w' h' o' : Nat, k' ≤ 3 → w' ≤ 99 → h' < A.1 12 0 → (o' = 12 ∨ (o' < A.1 12 0 ∧ o' ≠ h')) → ¬ A.1 12 1 = 12 → (∀ σ', MX (if 12 ≤ A.1 12 1 then ((-3 : Int32), A) else (nI (A.1 12 1), setE A (addT A.1 k' w' h' o'))).2 σ' → FrM σ σ' → K (if 12 ≤ A.1 12 1 then ((-3 : Int32), A) else (nI (A.1 12 1), setE A (addT A.1 k' w' h' o'))).1 σ') → K (nI (A.1 12 1)) (wr (wr (wr (wr (wr σ 908 (A.1 12 1) (nI k')) 909 (A.1 12 1) (nI w')) 910 (A.1 12 1) (nI h')) 911 (A.1 12 1) (nI o')) 900 11 (nI (A.1 12 1 + 1))) := by
    intro k' w' h' o' q1 q2 q3 q4 q5 hk
    rw [if_neg (by omega)] at hk
    obtain ⟨a1, a2, a3, a4, a5, a6⟩ := hE
    refine hk _ (hM.es ?_ (Wf_addT hW (by omega) q1 q2 q3 q4) ⟨?_, ?_, ?_, fun p hp => ?_, fun t ht => ?_, fun k hk => ?_⟩) (fun k hk => by simp (disch := omega) only [wrq])
    · exact ⟨fun k h1 h2 => by simp (disch := omega) only [wrq], fun j h1 h2 h3 => by simp [wr_at, h2]⟩
    · simpa [wr_at, addT] using a1
    · simp [wr_at, addT]
    · simpa [wr_at, addT] using a3
    · have := a4 p (by simpa [addT] using hp)
      simp [wr_at, addT, this]
    · by_cases z : t = A.1 12 1
      · subst z; simp [wr_at, addT]
      · have e : addT A.1 k' w' h' o' 12 1 = A.1 12 1 + 1 := by simp [addT]
        have := a5 t (by omega)
        simp [wr_at, addT, z, this]
    · have := a6 k hk
      refine ⟨by simpa [wr_at, addT] using this.1, fun i hi => ?_⟩
      have := this.2 i (by simpa [addT] using hi)
      simpa [wr_at, addT] using this
  have full : ∀ k' w' h' o' : Nat, A.1 12 1 = 12 → (∀ σ', MX (if 12 ≤ A.1 12 1 then ((-3 : Int32), A) else (nI (A.1 12 1), setE A (addT A.1 k' w' h' o'))).2 σ' → FrM σ σ' → K (if 12 ≤ A.1 12 1 then ((-3 : Int32), A) else (nI (A.1 12 1), setE A (addT A.1 k' w' h' o'))).1 σ') → K (-3) σ := by
    intro k' w' h' o' q hk
    rw [if_pos (by omega)] at hk
    exact hk σ hM FrM.rfl'
  have e9 := pk_sub (a := A.1 12 1 + 1) (b := 1) (by omega)
  rw [rI0 k 3, rI0 w 99] at hK
  refine CallAt.of (k := 133) (cd := k_X6_thing) ok_X6_thing (by decide) rfl rfl rfl ?_
  show V _ i_X6_thing k_X6_thing 0 [.ref 900, .int k, .int w, .int h, .int o] [] _ _
  refine V_run ok_X6_thing 100 0 ?_
  simp (disch := omega) only [eng, c_X6_thing, r_X6_thing, tbl, true_and, Nat.reduceAdd, Nat.reduceLT, ↓reduceIte, n_eq, n_lt, n_le, n_cl, n_inT, nI_add, bI_eq0, bI_eq1, not_true_eq_false, not_false_eq_true, true_implies, false_implies, implies_true, and_true, Bool.not_eq_false, Bool.not_eq_true, Nat.reduceEqDiff, Nat.reduceLeDiff, Classical.not_not, List.length_cons, List.length_nil, Int.reduceAdd, z_cast, Nat.reducePow, false_or, Nat.reduceLT, Nat.sub_zero, Nat.le_refl, e11, wrq]
  try simp only [iteP, Classical.not_not, Bool.not_eq_false, Bool.not_eq_true]
  refine m_rI (a := 0) (n := 3) rfl rfl ?_
  cases h1 : rI k 0 3 with
  | false =>
    rw [h1] at hK
    simp (disch := omega) only [n_eq, n_lt, n_le, n_cl, n_inT, nI_add, bI_eq0, bI_eq1, not_true_eq_false, not_false_eq_true, true_implies, false_implies, implies_true, and_true, Bool.not_eq_false, Bool.not_eq_true, Nat.reduceEqDiff, Nat.reduceLeDiff, Classical.not_not, List.length_cons, List.length_nil, Int.reduceAdd, z_cast, Nat.reducePow, false_or, Nat.reduceLT, Nat.sub_zero, Nat.le_refl, true_and, ↓reduceIte, iteP, Bool.false_eq_true]
    exact hK σ hM FrM.rfl'
  | true =>
    rw [h1, Bool.true_and] at hK
    simp (disch := omega) only [n_eq, n_lt, n_le, n_cl, n_inT, nI_add, bI_eq0, bI_eq1, not_true_eq_false, not_false_eq_true, true_implies, false_implies, implies_true, and_true, Bool.not_eq_false, Bool.not_eq_true, Nat.reduceEqDiff, Nat.reduceLeDiff, Classical.not_not, List.length_cons, List.length_nil, Int.reduceAdd, z_cast, Nat.reducePow, false_or, Nat.reduceLT, Nat.sub_zero, Nat.le_refl, true_and, ↓reduceIte, iteP, Bool.true_eq_false]
    refine m_rI (a := 0) (n := 99) rfl rfl ?_
    cases h2 : rI w 0 99 with
    | false =>
      rw [h2] at hK
      simp (disch := omega) only [n_eq, n_lt, n_le, n_cl, n_inT, nI_add, bI_eq0, bI_eq1, not_true_eq_false, not_false_eq_true, true_implies, false_implies, implies_true, and_true, Bool.not_eq_false, Bool.not_eq_true, Nat.reduceEqDiff, Nat.reduceLeDiff, Classical.not_not, List.length_cons, List.length_nil, Int.reduceAdd, z_cast, Nat.reducePow, false_or, Nat.reduceLT, Nat.sub_zero, Nat.le_refl, true_and, ↓reduceIte, iteP, Bool.false_eq_true]
      exact hK σ hM FrM.rfl'
    | true =>
      rw [h2, Bool.true_and] at hK
      simp (disch := omega) only [n_eq, n_lt, n_le, n_cl, n_inT, nI_add, bI_eq0, bI_eq1, not_true_eq_false, not_false_eq_true, true_implies, false_implies, implies_true, and_true, Bool.not_eq_false, Bool.not_eq_true, Nat.reduceEqDiff, Nat.reduceLeDiff, Classical.not_not, List.length_cons, List.length_nil, Int.reduceAdd, z_cast, Nat.reducePow, false_or, Nat.reduceLT, Nat.sub_zero, Nat.le_refl, true_and, ↓reduceIte, iteP, Bool.true_eq_false]
      refine m_livX hW hE ?_
      cases h3 : livX A.1 h with
      | false =>
        rw [h3] at hK
        simp (disch := omega) only [n_eq, n_lt, n_le, n_cl, n_inT, nI_add, bI_eq0, bI_eq1, not_true_eq_false, not_false_eq_true, true_implies, false_implies, implies_true, and_true, Bool.not_eq_false, Bool.not_eq_true, Nat.reduceEqDiff, Nat.reduceLeDiff, Classical.not_not, List.length_cons, List.length_nil, Int.reduceAdd, z_cast, Nat.reducePow, false_or, Nat.reduceLT, Nat.sub_zero, Nat.le_refl, true_and, ↓reduceIte, iteP, Bool.false_eq_true]
        exact hK σ hM FrM.rfl'
      | true =>
        rw [h3, Bool.true_and] at hK
        obtain ⟨k', hk', rfl⟩ := inB_of ((rI0 k 3).trans h1)
        obtain ⟨w', hw', rfl⟩ := inB_of ((rI0 w 99).trans h2)
        obtain ⟨h', hh', rfl, hh2, hh3⟩ := livX_of hn h3
        have hh12 := p12 hW hh'
        rw [n_cl (show k' < 2147483648 by omega), n_cl (show w' < 2147483648 by omega), hh2] at hK
        simp (disch := omega) only [n_eq, n_lt, n_le, n_cl, n_inT, nI_add, bI_eq0, bI_eq1, not_true_eq_false, not_false_eq_true, true_implies, false_implies, implies_true, and_true, Bool.not_eq_false, Bool.not_eq_true, Nat.reduceEqDiff, Nat.reduceLeDiff, Classical.not_not, List.length_cons, List.length_nil, Int.reduceAdd, z_cast, Nat.reducePow, false_or, Nat.reduceLT, Nat.sub_zero, Nat.le_refl, true_and, ↓reduceIte, iteP, Bool.true_eq_false]
        refine m_hasOther hk' ?_
        cases h4 : (k' == 1 || k' == 2) with
        | false =>
          have h3' : ¬ (k' = 1 ∨ k' = 2) := by simpa using h4
          rw [if_neg h3'] at hK
          rcases Classical.propComplete (o = nI 12) with g3 | g3
          · have := of_eq_true g3
            subst this
            rw [decide_eq_true rfl, if_pos rfl, n_cl (by decide)] at hK
            by_cases hz : A.1 12 1 = 12
            · simp (disch := omega) only [n_eq, n_lt, n_le, n_cl, n_inT, nI_add, bI_eq0, bI_eq1, not_true_eq_false, not_false_eq_true, true_implies, false_implies, implies_true, and_true, Bool.not_eq_false, Bool.not_eq_true, Nat.reduceEqDiff, Nat.reduceLeDiff, Classical.not_not, List.length_cons, List.length_nil, Int.reduceAdd, z_cast, Nat.reducePow, false_or, Nat.reduceLT, Nat.sub_zero, Nat.le_refl, true_and, ↓reduceIte, iteP, Bool.false_eq_true, Bool.true_eq_false, e11, hz]
              exact full k' w' h' 12 hz hK
            · simp (disch := omega) only [n_eq, n_lt, n_le, n_cl, n_inT, nI_add, bI_eq0, bI_eq1, not_true_eq_false, not_false_eq_true, true_implies, false_implies, implies_true, and_true, Bool.not_eq_false, Bool.not_eq_true, Nat.reduceEqDiff, Nat.reduceLeDiff, Classical.not_not, List.length_cons, List.length_nil, Int.reduceAdd, z_cast, Nat.reducePow, false_or, Nat.reduceLT, Nat.sub_zero, Nat.le_refl, true_and, ↓reduceIte, iteP, Bool.false_eq_true, Bool.true_eq_false, e11, hz, wrq, e9, Nat.add_sub_cancel]
              exact add k' w' h' 12 (by omega) (by omega) hh' (Or.inl rfl) hz hK
          · rw [decide_eq_false (of_eq_false g3)] at hK
            simp (disch := omega) only [n_eq, n_lt, n_le, n_cl, n_inT, nI_add, bI_eq0, bI_eq1, not_true_eq_false, not_false_eq_true, true_implies, false_implies, implies_true, and_true, Bool.not_eq_false, Bool.not_eq_true, Nat.reduceEqDiff, Nat.reduceLeDiff, Classical.not_not, List.length_cons, List.length_nil, Int.reduceAdd, z_cast, Nat.reducePow, false_or, Nat.reduceLT, Nat.sub_zero, Nat.le_refl, true_and, ↓reduceIte, iteP, Bool.false_eq_true, g3]
            exact hK σ hM FrM.rfl'
        | true =>
          have h3' : (k' = 1 ∨ k' = 2) := by simpa using h4
          rw [if_pos h3'] at hK
          simp (disch := omega) only [n_eq, n_lt, n_le, n_cl, n_inT, nI_add, bI_eq0, bI_eq1, not_true_eq_false, not_false_eq_true, true_implies, false_implies, implies_true, and_true, Bool.not_eq_false, Bool.not_eq_true, Nat.reduceEqDiff, Nat.reduceLeDiff, Classical.not_not, List.length_cons, List.length_nil, Int.reduceAdd, z_cast, Nat.reducePow, false_or, Nat.reduceLT, Nat.sub_zero, Nat.le_refl, true_and, ↓reduceIte, iteP, Bool.true_eq_false]
          refine m_livX hW hE ?_
          cases h5 : livX A.1 o with
          | false =>
            rw [h5] at hK
            simp (disch := omega) only [n_eq, n_lt, n_le, n_cl, n_inT, nI_add, bI_eq0, bI_eq1, not_true_eq_false, not_false_eq_true, true_implies, false_implies, implies_true, and_true, Bool.not_eq_false, Bool.not_eq_true, Nat.reduceEqDiff, Nat.reduceLeDiff, Classical.not_not, List.length_cons, List.length_nil, Int.reduceAdd, z_cast, Nat.reducePow, false_or, Nat.reduceLT, Nat.sub_zero, Nat.le_refl, true_and, ↓reduceIte, iteP, Bool.false_eq_true]
            exact hK σ hM FrM.rfl'
          | true =>
            obtain ⟨o', ho', rfl, ho2, ho3⟩ := livX_of hn h5
            have ho12 := p12 hW ho'
            rw [h5, Bool.true_and, ho2] at hK
            by_cases g4 : o' = h'
            · subst g4
              rw [decide_eq_false (by simp)] at hK
              simp (disch := omega) only [n_eq, n_lt, n_le, n_cl, n_inT, nI_add, bI_eq0, bI_eq1, not_true_eq_false, not_false_eq_true, true_implies, false_implies, implies_true, and_true, Bool.not_eq_false, Bool.not_eq_true, Nat.reduceEqDiff, Nat.reduceLeDiff, Classical.not_not, List.length_cons, List.length_nil, Int.reduceAdd, z_cast, Nat.reducePow, false_or, Nat.reduceLT, Nat.sub_zero, Nat.le_refl, true_and, ↓reduceIte, iteP, Bool.true_eq_false]
              exact hK σ hM FrM.rfl'
            · rw [decide_eq_true (by rw [ne_eq, n_eq (by omega) (by omega)]; exact g4), if_pos rfl] at hK
              by_cases hz : A.1 12 1 = 12
              · simp (disch := omega) only [n_eq, n_lt, n_le, n_cl, n_inT, nI_add, bI_eq0, bI_eq1, not_true_eq_false, not_false_eq_true, true_implies, false_implies, implies_true, and_true, Bool.not_eq_false, Bool.not_eq_true, Nat.reduceEqDiff, Nat.reduceLeDiff, Classical.not_not, List.length_cons, List.length_nil, Int.reduceAdd, z_cast, Nat.reducePow, false_or, Nat.reduceLT, Nat.sub_zero, Nat.le_refl, true_and, ↓reduceIte, iteP, Bool.false_eq_true, Bool.true_eq_false, e11, hz, g4]
                exact full k' w' h' o' hz hK
              · simp (disch := omega) only [n_eq, n_lt, n_le, n_cl, n_inT, nI_add, bI_eq0, bI_eq1, not_true_eq_false, not_false_eq_true, true_implies, false_implies, implies_true, and_true, Bool.not_eq_false, Bool.not_eq_true, Nat.reduceEqDiff, Nat.reduceLeDiff, Classical.not_not, List.length_cons, List.length_nil, Int.reduceAdd, z_cast, Nat.reducePow, false_or, Nat.reduceLT, Nat.sub_zero, Nat.le_refl, true_and, ↓reduceIte, iteP, Bool.false_eq_true, Bool.true_eq_false, e11, hz, wrq, e9, g4, Nat.add_sub_cancel]
                exact add k' w' h' o' (by omega) (by omega) hh' (Or.inr ⟨ho', g4⟩) hz hK
