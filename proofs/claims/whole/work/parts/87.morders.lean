theorem OSt_n {E : Es} {m : Nat} {L : List Nat} {σ σ' : St} (h : OSt E m L σ) (hf : FrN σ σ') : AsK E σ' ∧ ∀ i, i < pcnt m → σ' 922 i = nI (rowL m L i) := by
  refine ⟨?_, fun i hi => by rw [hf.1 922 (by decide) (by decide)]; exact h.2.2 i hi⟩
  unfold AsK
  rw [hf.1 921 (by decide) (by decide)]
  exact h.2.1
theorem AsK.fr {E : Es} {σ σ' : St} (h : AsK E σ) (hf : σ' 921 = σ 921) : AsK E σ' := by
  unfold AsK at h ⊢
  rw [hf]; exact h
theorem lp_oout (l : Launch) {m t e N : Nat} {E : Es} {σ0 : St} {K : Int32 → St → Prop} (hW : Wf E) (h5 : pcnt m ≤ 5) (ht : t < E 12 1) (he : e < 14) (hK : ∀ σ', ME E σ' → FrQ σ0 σ' → K (nI N) σ') : ∀ (q c : Nat) (L : List Nat) (σ : St) (v7 : Value), endP (pcnt m) q L = true → (∀ L', L' ∈ seqP (pcnt m) q L → rowV E m L') → c + ((seqP (pcnt m) q L).map (gR E m (fun F => F 8 t == e))).sum = N → OSt E m L σ → FrQ σ0 σ → V l i_X6_orders k_X6_orders 29 [.ref 900, .int (nI m), .int (nI t), .int (nI e), .int (nI (pcnt m)), .int (nI c), .int (nI 1), v7] [] σ K
  | 0, c, L, σ, v7, hq, hV, hc, hS, hF => by cases hq
  | q + 1, c, L, σ, v7, hq, hV, hc, hS, hF => by
    unfold endP at hq
    unfold seqP at hV hc
    have hL := hV L List.mem_cons_self
    rw [List.map_cons, List.sum_cons] at hc
    have ht12 := t12 hW ht
    refine V_run ok_X6_orders 20 29 ?_
    simp (disch := omega) only [eng, c_X6_orders, r_X6_orders, tbl, true_and, Nat.reduceAdd, Nat.reduceLT, ↓reduceIte, n_eq, n_lt, n_le, n_cl, n_inT, nI_add, bI_eq0, bI_eq1, not_true_eq_false, not_false_eq_true, true_implies, false_implies, implies_true, and_true, Bool.not_eq_false, Bool.not_eq_true, Nat.reduceEqDiff, Nat.reduceLeDiff, Classical.not_not, List.length_cons, List.length_nil, Int.reduceAdd, z_cast, Nat.reducePow, false_or, Nat.reduceLT, Nat.sub_zero, Nat.le_refl]
    try simp only [iteP, Classical.not_not, Bool.not_eq_false, Bool.not_eq_true]
    refine lp_oin l hW h5 hL hS.2.2 (fun σ2 v7 hE2 hf2 => ?_) (pcnt m) 0 σ (by omega) hS.1 FrN.rfl'
    have hWF := Wf_dieN hW (f := rowL m L) (pcnt m) hL.2
    have f8 := (hE2.2.2.2.2.1 t (by rw [dieN_12]; exact ht)).2.2.1
    have h13 := ho14 hWF (t := t) (by rw [dieN_12]; exact ht)
    have tail : ∀ c', c' = c + gR E m (fun F => F 8 t == e) L → CallAt l 157 [.ref 900] σ2 (fun _ σ' => CallAt l 158 [.ref 900, .int (nI (pcnt m))] σ' (fun r σ'' => V l i_X6_orders k_X6_orders 29 [.ref 900, .int (nI m), .int (nI t), .int (nI e), .int (nI (pcnt m)), .int (nI c'), .int r, v7] [] σ'' K)) := fun c' hc' => by
      obtain ⟨s1, s2⟩ := OSt_n hS hf2
      refine m_back hW (SmE_dieN SmE.rfl' _) hE2 s1 (fun σ3 hE3 hf3 => ?_)
      have s3 : ∀ i, i < pcnt m → σ3 922 i = nI (rowL m L i) := fun i hi => by rw [hf3.1 922 (by decide) (by decide)]; exact s2 i hi
      have s4 : AsK E σ3 := s1.fr (hf3.1 921 (by decide) (by decide))
      have fQ : FrQ σ0 σ3 := (hF.trans hf2.q).trans hf3.q
      refine m_nextL h5 hL.1 s3 (fun z => ?_) (fun L' z σ4 g1 g2 => ?_)
      · rw [z] at hc
        simp at hc
        rw [← hc'] at hc
        subst hc
        refine V_run ok_X6_orders 60 29 ?_
        simp (disch := omega) only [eng, c_X6_orders, r_X6_orders, tbl, true_and, Nat.reduceAdd, Nat.reduceLT, ↓reduceIte, n_eq, n_lt, n_le, n_cl, n_inT, nI_add, bI_eq0, bI_eq1, not_true_eq_false, not_false_eq_true, true_implies, false_implies, implies_true, and_true, Bool.not_eq_false, Bool.not_eq_true, Nat.reduceEqDiff, Nat.reduceLeDiff, Classical.not_not, List.length_cons, List.length_nil, Int.reduceAdd, z_cast, Nat.reducePow, false_or, Nat.reduceLT, Nat.sub_zero, Nat.le_refl]
        try simp only [iteP, Classical.not_not, Bool.not_eq_false, Bool.not_eq_true]
        exact hK σ3 hE3 fQ
      · rw [z] at hc hq hV
        dsimp only at hc hq hV
        refine lp_oout l hW h5 ht he hK q c' L' σ4 v7 hq (fun L2 h2 => hV L2 (List.mem_cons_of_mem _ h2)) (by omega) ⟨hE3.fr (fun k _ _ => g2 k (by omega)) (by rw [g2 900 (by decide)]) (by rw [g2 900 (by decide)]) (by rw [g2 900 (by decide)]), s4.fr (g2 921 (by decide)), g1⟩ (fQ.trans (FrQ_one (Or.inr rfl) g2))
    by_cases z : dieN E (rowL m L) (pcnt m) 8 t = e
    · refine V_run ok_X6_orders 60 45 ?_
      simp (disch := omega) only [eng, c_X6_orders, r_X6_orders, tbl, true_and, Nat.reduceAdd, Nat.reduceLT, ↓reduceIte, n_eq, n_lt, n_le, n_cl, n_inT, nI_add, bI_eq0, bI_eq1, not_true_eq_false, not_false_eq_true, true_implies, false_implies, implies_true, and_true, Bool.not_eq_false, Bool.not_eq_true, Nat.reduceEqDiff, Nat.reduceLeDiff, Classical.not_not, List.length_cons, List.length_nil, Int.reduceAdd, z_cast, Nat.reducePow, false_or, Nat.reduceLT, Nat.sub_zero, Nat.le_refl, f8, z]
      try simp only [iteP, Classical.not_not, Bool.not_eq_false, Bool.not_eq_true]
      exact tail (c + 1) (by unfold gR; simp [z])
    · refine V_run ok_X6_orders 60 45 ?_
      simp (disch := omega) only [eng, c_X6_orders, r_X6_orders, tbl, true_and, Nat.reduceAdd, Nat.reduceLT, ↓reduceIte, n_eq, n_lt, n_le, n_cl, n_inT, nI_add, bI_eq0, bI_eq1, not_true_eq_false, not_false_eq_true, true_implies, false_implies, implies_true, and_true, Bool.not_eq_false, Bool.not_eq_true, Nat.reduceEqDiff, Nat.reduceLeDiff, Classical.not_not, List.length_cons, List.length_nil, Int.reduceAdd, z_cast, Nat.reducePow, false_or, Nat.reduceLT, Nat.sub_zero, Nat.le_refl, f8, z, Nat.add_zero]
      try simp only [iteP, Classical.not_not, Bool.not_eq_false, Bool.not_eq_true]
      exact tail c (by unfold gR; simp [z])
theorem M_orders {l : Launch} {A : AS} {s t e : Int32} {σ : St} {K : Int32 → St → Prop} (hM : MX A σ) (hK : ∀ σ', MX (op_orders A s t e).2 σ' → FrM σ σ' → K (op_orders A s t e).1 σ') : CallAt l 162 [.ref 900, .int s, .int t, .int e] σ K := by
  have hW := hM.1.1
  have hE := hM.2.1
  have hn1 := hW.2.1
  unfold op_orders at hK
  have bad : (inB t (A.1 12 1) && inB e 14 && (inB s 4096 && decide (pcnt s.toNatClampNeg ≤ 5)) && allL A.1 s.toNatClampNeg) = false → K (-1) σ := fun h => by
    have := hK σ hM FrM.rfl'
    rw [h] at this
    exact this
  refine CallAt.of (k := 162) (cd := k_X6_orders) ok_X6_orders (by decide) rfl rfl rfl ?_
  show V _ i_X6_orders k_X6_orders 0 [.ref 900, .int s, .int t, .int e, .null, .null, .null, .null] [] _ _
  refine V_run ok_X6_orders 60 0 ?_
  simp (disch := omega) only [eng, c_X6_orders, r_X6_orders, tbl, true_and, Nat.reduceAdd, Nat.reduceLT, ↓reduceIte, n_eq, n_lt, n_le, n_cl, n_inT, nI_add, bI_eq0, bI_eq1, not_true_eq_false, not_false_eq_true, true_implies, false_implies, implies_true, and_true, Bool.not_eq_false, Bool.not_eq_true, Nat.reduceEqDiff, Nat.reduceLeDiff, Classical.not_not, List.length_cons, List.length_nil, Int.reduceAdd, z_cast, Nat.reducePow, false_or, Nat.reduceLT, Nat.sub_zero, Nat.le_refl]
  try simp only [iteP, Classical.not_not, Bool.not_eq_false, Bool.not_eq_true]
  refine m_isFew ?_
  cases h1 : (inB s 4096 && decide (pcnt s.toNatClampNeg ≤ 5)) with
  | false =>
    simp (disch := omega) only [n_eq, n_lt, n_le, n_cl, n_inT, nI_add, bI_eq0, bI_eq1, not_true_eq_false, not_false_eq_true, true_implies, false_implies, implies_true, and_true, Bool.not_eq_false, Bool.not_eq_true, Nat.reduceEqDiff, Nat.reduceLeDiff, Classical.not_not, List.length_cons, List.length_nil, Int.reduceAdd, z_cast, Nat.reducePow, false_or, Nat.reduceLT, Nat.sub_zero, Nat.le_refl, true_and, ↓reduceIte, iteP, Bool.false_eq_true]
    exact bad (by rw [h1, Bool.and_false, Bool.false_and])
  | true =>
    have h1' := h1
    rw [Bool.and_eq_true, decide_eq_true_eq] at h1'
    obtain ⟨m, hm, rfl⟩ := inB_of h1'.1
    have h5 := h1'.2
    rw [n_cl (by omega)] at h5
    simp (disch := omega) only [n_eq, n_lt, n_le, n_cl, n_inT, nI_add, bI_eq0, bI_eq1, not_true_eq_false, not_false_eq_true, true_implies, false_implies, implies_true, and_true, Bool.not_eq_false, Bool.not_eq_true, Nat.reduceEqDiff, Nat.reduceLeDiff, Classical.not_not, List.length_cons, List.length_nil, Int.reduceAdd, z_cast, Nat.reducePow, false_or, Nat.reduceLT, Nat.sub_zero, Nat.le_refl, true_and, ↓reduceIte, iteP, Bool.true_eq_false]
    refine m_allLive hW hE hm ?_
    cases h2 : allL A.1 m with
    | false =>
      simp (disch := omega) only [n_eq, n_lt, n_le, n_cl, n_inT, nI_add, bI_eq0, bI_eq1, not_true_eq_false, not_false_eq_true, true_implies, false_implies, implies_true, and_true, Bool.not_eq_false, Bool.not_eq_true, Nat.reduceEqDiff, Nat.reduceLeDiff, Classical.not_not, List.length_cons, List.length_nil, Int.reduceAdd, z_cast, Nat.reducePow, false_or, Nat.reduceLT, Nat.sub_zero, Nat.le_refl, true_and, ↓reduceIte, iteP, Bool.false_eq_true]
      exact bad (by rw [n_cl (by omega), h2, Bool.and_false])
    | true =>
      simp (disch := omega) only [n_eq, n_lt, n_le, n_cl, n_inT, nI_add, bI_eq0, bI_eq1, not_true_eq_false, not_false_eq_true, true_implies, false_implies, implies_true, and_true, Bool.not_eq_false, Bool.not_eq_true, Nat.reduceEqDiff, Nat.reduceLeDiff, Classical.not_not, List.length_cons, List.length_nil, Int.reduceAdd, z_cast, Nat.reducePow, false_or, Nat.reduceLT, Nat.sub_zero, Nat.le_refl, true_and, ↓reduceIte, iteP, Bool.true_eq_false]
      refine m_isThing hE.2.1 hn1 ?_
      cases h3 : inB t (A.1 12 1) with
      | false =>
        simp (disch := omega) only [n_eq, n_lt, n_le, n_cl, n_inT, nI_add, bI_eq0, bI_eq1, not_true_eq_false, not_false_eq_true, true_implies, false_implies, implies_true, and_true, Bool.not_eq_false, Bool.not_eq_true, Nat.reduceEqDiff, Nat.reduceLeDiff, Classical.not_not, List.length_cons, List.length_nil, Int.reduceAdd, z_cast, Nat.reducePow, false_or, Nat.reduceLT, Nat.sub_zero, Nat.le_refl, true_and, ↓reduceIte, iteP, Bool.false_eq_true]
        exact bad (by rw [h3]; simp)
      | true =>
        simp (disch := omega) only [n_eq, n_lt, n_le, n_cl, n_inT, nI_add, bI_eq0, bI_eq1, not_true_eq_false, not_false_eq_true, true_implies, false_implies, implies_true, and_true, Bool.not_eq_false, Bool.not_eq_true, Nat.reduceEqDiff, Nat.reduceLeDiff, Classical.not_not, List.length_cons, List.length_nil, Int.reduceAdd, z_cast, Nat.reducePow, false_or, Nat.reduceLT, Nat.sub_zero, Nat.le_refl, true_and, ↓reduceIte, iteP, Bool.true_eq_false]
        refine m_rI (a := 0) (n := 13) rfl rfl ?_
        rw [← rI0 e 13]
        cases h4 : inB e 14 with
        | false =>
          simp (disch := omega) only [n_eq, n_lt, n_le, n_cl, n_inT, nI_add, bI_eq0, bI_eq1, not_true_eq_false, not_false_eq_true, true_implies, false_implies, implies_true, and_true, Bool.not_eq_false, Bool.not_eq_true, Nat.reduceEqDiff, Nat.reduceLeDiff, Classical.not_not, List.length_cons, List.length_nil, Int.reduceAdd, z_cast, Nat.reducePow, false_or, Nat.reduceLT, Nat.sub_zero, Nat.le_refl, true_and, ↓reduceIte, iteP, Bool.false_eq_true]
          exact bad (by rw [h4]; simp)
        | true =>
          obtain ⟨t', ht, rfl⟩ := inB_of h3
          obtain ⟨e', he, rfl⟩ := inB_of h4
          rw [h1, h3, h4, n_cl (by omega), h2, n_cl (by omega), n_cl (by omega), Bool.and_self, Bool.and_self, Bool.and_self, if_pos rfl] at hK
          simp (disch := omega) only [n_eq, n_lt, n_le, n_cl, n_inT, nI_add, bI_eq0, bI_eq1, not_true_eq_false, not_false_eq_true, true_implies, false_implies, implies_true, and_true, Bool.not_eq_false, Bool.not_eq_true, Nat.reduceEqDiff, Nat.reduceLeDiff, Classical.not_not, List.length_cons, List.length_nil, Int.reduceAdd, z_cast, Nat.reducePow, false_or, Nat.reduceLT, Nat.sub_zero, Nat.le_refl, true_and, ↓reduceIte, iteP, Bool.true_eq_false]
          refine m_firstO hm h5 (fun σ1 g1 g2 => ?_)
          have hE1 : ME A.1 σ1 := hE.fr (fun k _ _ => g2 k (by omega)) (by rw [g2 900 (by decide)]) (by rw [g2 900 (by decide)]) (by rw [g2 900 (by decide)])
          refine m_keep hW hE1 (fun σ2 g3 g4 => ?_)
          have hE2 : ME A.1 σ2 := hE1.fr (fun k _ _ => g4 k (by omega)) (by rw [g4 900 (by decide)]) (by rw [g4 900 (by decide)]) (by rw [g4 900 (by decide)])
          have fq : FrQ σ σ2 := (FrQ_one (Or.inr rfl) g2).trans (FrQ_one (Or.inl rfl) g4)
          refine lp_oout l (σ0 := σ) hW h5 ht he (fun σ' hE' hf' => hK σ' (hM.q hf' hW hE') hf'.m) (fct (pcnt m)) 0 (List.range (pcnt m)) σ2 _ (seq_ok h5).1 (seq_V h2 h5) (by rw [Nat.zero_add, ord_seq h5]) ⟨hE2, g3, fun i hi => ?_⟩ fq
          rw [g4 922 (by decide), g1 i hi]
          unfold rowL
          simp [List.getD, hi]
