theorem lp_as0 (l : Launch) {t : Nat} {E : Es} {σ : St} {K : Int32 → St → Prop} (hW : Wf E) (hE : ME E σ) (ht : t ≤ 12) (hK : K (nI 0) σ) : V l i_X6_areAsNow k_X6_areAsNow 13 [.ref 900, .int (nI 0), .int (nI t)] [] σ K := by
  have e11 := hE.2.1
  have n12 := hW.2.1
  by_cases z : E 12 1 ≤ t
  · refine V_run ok_X6_areAsNow 60 13 ?_
    simp (disch := omega) only [eng, c_X6_areAsNow, r_X6_areAsNow, tbl, true_and, Nat.reduceAdd, Nat.reduceLT, ↓reduceIte, n_eq, n_lt, n_le, n_cl, n_inT, nI_add, bI_eq0, bI_eq1, not_true_eq_false, not_false_eq_true, true_implies, false_implies, implies_true, and_true, Bool.not_eq_false, Bool.not_eq_true, Nat.reduceEqDiff, Nat.reduceLeDiff, Classical.not_not, List.length_cons, List.length_nil, Int.reduceAdd, z_cast, Nat.reducePow, false_or, Nat.reduceLT, Nat.sub_zero, Nat.le_refl, e11, z]
    try simp only [iteP, Classical.not_not, Bool.not_eq_false, Bool.not_eq_true]
    exact hK
  · refine V_run ok_X6_areAsNow 60 13 ?_
    simp (disch := omega) only [eng, c_X6_areAsNow, r_X6_areAsNow, tbl, true_and, Nat.reduceAdd, Nat.reduceLT, ↓reduceIte, n_eq, n_lt, n_le, n_cl, n_inT, nI_add, bI_eq0, bI_eq1, not_true_eq_false, not_false_eq_true, true_implies, false_implies, implies_true, and_true, Bool.not_eq_false, Bool.not_eq_true, Nat.reduceEqDiff, Nat.reduceLeDiff, Classical.not_not, List.length_cons, List.length_nil, Int.reduceAdd, z_cast, Nat.reducePow, false_or, Nat.reduceLT, Nat.sub_zero, Nat.le_refl, e11, z]
    try simp only [iteP, Classical.not_not, Bool.not_eq_false, Bool.not_eq_true]
    exact hK
theorem lp_asNow (l : Launch) {E F : Es} {σ : St} {K : Int32 → St → Prop} (hW : Wf E) (hW2 : Wf F) (hE : ME E σ) (hE2 : KE 925 F σ) (hn : E 12 1 = F 12 1) : ∀ (n t : Nat), t + n = E 12 1 → K (bI (eqTn E F n t)) σ → V l i_X6_areAsNow k_X6_areAsNow 13 [.ref 900, .int (nI 1), .int (nI t)] [] σ K
  | 0, t, ht, hK => by
    have ht : t = E 12 1 := by omega
    subst ht
    have h12 := hW.2.1
    refine V_run ok_X6_areAsNow 60 13 ?_
    simp (disch := omega) only [eng, c_X6_areAsNow, r_X6_areAsNow, tbl, true_and, Nat.reduceAdd, Nat.reduceLT, ↓reduceIte, n_eq, n_lt, n_le, n_cl, n_inT, nI_add, bI_eq0, bI_eq1, not_true_eq_false, not_false_eq_true, true_implies, false_implies, implies_true, and_true, Bool.not_eq_false, Bool.not_eq_true, Nat.reduceEqDiff, Nat.reduceLeDiff, Classical.not_not, List.length_cons, List.length_nil, Int.reduceAdd, z_cast, Nat.reducePow, false_or, Nat.reduceLT, Nat.sub_zero, Nat.le_refl, hE.2.1]
    try simp only [iteP, Classical.not_not, Bool.not_eq_false, Bool.not_eq_true]
    exact hK
  | n + 1, t, ht, hK => by
    have ht1 : t < E 12 1 := by omega
    have ht2 : t < F 12 1 := by omega
    have h12 := t12 hW ht1
    have n12 := hW.2.1
    have w1 := hW.2.2.2.2.1 t ht1
    have w2 := hW2.2.2.2.2.1 t ht2
    have a1 := w1.1
    have a2 := w1.2.1
    have a3 := ho14 hW ht1
    have a4 := ot12 hW ht1
    have b1 := w2.1
    have b2 := w2.2.1
    have b3 := ho14 hW2 ht2
    have b4 := ot12 hW2 ht2
    have f1 := hE.2.2.2.2.1 t ht1
    have f2 := hE2.2.2.2.2.1 t ht2
    unfold eqTn at hK
    rcases Classical.propComplete (E 6 t = F 6 t) with g1 | g1 <;> rcases Classical.propComplete (E 7 t = F 7 t) with g2 | g2 <;> rcases Classical.propComplete (E 8 t = F 8 t) with g3 | g3 <;> rcases Classical.propComplete (E 9 t = F 9 t) with g4 | g4
    all_goals
      simp only [g1, g2, g3, g4, true_and, and_true, false_and, and_false, decide_true, decide_false, Bool.true_and, Bool.false_and] at hK
      refine V_run ok_X6_areAsNow 60 13 ?_
      simp (disch := omega) only [eng, c_X6_areAsNow, r_X6_areAsNow, tbl, true_and, Nat.reduceAdd, Nat.reduceLT, ↓reduceIte, n_eq, n_lt, n_le, n_cl, n_inT, nI_add, bI_eq0, bI_eq1, not_true_eq_false, not_false_eq_true, true_implies, false_implies, implies_true, and_true, Bool.not_eq_false, Bool.not_eq_true, Nat.reduceEqDiff, Nat.reduceLeDiff, Classical.not_not, List.length_cons, List.length_nil, Int.reduceAdd, z_cast, Nat.reducePow, false_or, Nat.reduceLT, Nat.sub_zero, Nat.le_refl, hE.2.1, f1, f2, Nat.not_le.mpr ht1, g1, g2, g3, g4]
      try simp only [iteP, Classical.not_not, Bool.not_eq_false, Bool.not_eq_true]
      first
        | exact lp_as0 l hW hE (by omega) hK
        | exact lp_asNow l hW hW2 hE hE2 hn n (t + 1) (by omega) hK
theorem m_asNow {l : Launch} {E F : Es} {σ : St} {K : Int32 → St → Prop} (hW : Wf E) (hW2 : Wf F) (hE : ME E σ) (hE2 : KE 925 F σ) (hK : K (bI (eqT E F)) σ) : CallAt l 168 [.ref 900] σ K := by
  have n1 := hW.2.1
  have n2 := hW2.2.1
  unfold eqT at hK
  by_cases hn : E 12 1 = F 12 1
  · rw [decide_eq_true hn, Bool.true_and] at hK
    refine CallAt.of (k := 168) (cd := k_X6_areAsNow) ok_X6_areAsNow (by decide) rfl rfl rfl ?_
    show V _ i_X6_areAsNow k_X6_areAsNow 0 [.ref 900, .null, .null] [] _ _
    refine V_run ok_X6_areAsNow 60 0 ?_
    simp (disch := omega) only [eng, c_X6_areAsNow, r_X6_areAsNow, tbl, true_and, Nat.reduceAdd, Nat.reduceLT, ↓reduceIte, n_eq, n_lt, n_le, n_cl, n_inT, nI_add, bI_eq0, bI_eq1, not_true_eq_false, not_false_eq_true, true_implies, false_implies, implies_true, and_true, Bool.not_eq_false, Bool.not_eq_true, Nat.reduceEqDiff, Nat.reduceLeDiff, Classical.not_not, List.length_cons, List.length_nil, Int.reduceAdd, z_cast, Nat.reducePow, false_or, Nat.reduceLT, Nat.sub_zero, Nat.le_refl, hE.2.1, hE2.2.1, eq_true hn]
    try simp only [iteP, Classical.not_not, Bool.not_eq_false, Bool.not_eq_true]
    exact lp_asNow l hW hW2 hE hE2 hn (E 12 1) 0 (by omega) hK
  · rw [decide_eq_false hn, Bool.false_and] at hK
    refine CallAt.of (k := 168) (cd := k_X6_areAsNow) ok_X6_areAsNow (by decide) rfl rfl rfl ?_
    show V _ i_X6_areAsNow k_X6_areAsNow 0 [.ref 900, .null, .null] [] _ _
    refine V_run ok_X6_areAsNow 60 0 ?_
    simp (disch := omega) only [eng, c_X6_areAsNow, r_X6_areAsNow, tbl, true_and, Nat.reduceAdd, Nat.reduceLT, ↓reduceIte, n_eq, n_lt, n_le, n_cl, n_inT, nI_add, bI_eq0, bI_eq1, not_true_eq_false, not_false_eq_true, true_implies, false_implies, implies_true, and_true, Bool.not_eq_false, Bool.not_eq_true, Nat.reduceEqDiff, Nat.reduceLeDiff, Classical.not_not, List.length_cons, List.length_nil, Int.reduceAdd, z_cast, Nat.reducePow, false_or, Nat.reduceLT, Nat.sub_zero, Nat.le_refl, hE.2.1, hE2.2.1, hn]
    try simp only [iteP, Classical.not_not, Bool.not_eq_false, Bool.not_eq_true]
    exact lp_as0 l hW hE (by omega) hK
theorem MX.g {A : AS} {E : Es} {σ σ' : St} (h : MX A σ) (hf : ∀ k, k = 916 ∨ (924 ≤ k ∧ k ≤ 928 ∧ k ≠ 925) → σ' k = σ k) (h9 : ∀ j, j = 22 ∨ j = 16 → σ' 900 j = σ 900 j) (hW : Wf E) (hE : ME E σ') : MX (setE A E) σ' := by
  obtain ⟨a1, a2, a3, a4, a5, a6⟩ := h
  refine ⟨⟨hW, a1.2⟩, hE, by rw [h9 22 (by omega)]; exact a3, fun E' he => (a4 E' he).frame (hf 924 (by omega)), ⟨by rw [h9 16 (by omega)]; exact a5.1, fun i hi => by rw [hf 916 (by omega)]; exact a5.2 i hi⟩, ⟨fun s hs => by rw [hf 926 (by omega), hf 927 (by omega)]; exact a6.1 s hs, fun j hj => by rw [hf 928 (by omega)]; exact a6.2 j hj⟩⟩
theorem lp_ein (l : Launch) {m : Nat} {L : List Nat} {v1 v2 v4 : Int32} {E : Es} {σ1 : St} {K : Int32 → St → Prop} (hW : Wf E) (h5 : pcnt m ≤ 5) (hL : rowV E m L) (h922 : ∀ i, i < pcnt m → σ1 922 i = nI (rowL m L i)) (hN : ∀ (σ : St) (v5 : Value), ME (dieN E (rowL m L) (pcnt m)) σ → FrN σ1 σ → V l i_X6_explained k_X6_explained 50 [.ref 900, .int v1, .int v2, .int (nI (pcnt m)), .int v4, v5] [] σ K) : ∀ (q i : Nat) (σ : St), i + q = pcnt m → ME (dieN E (rowL m L) i) σ → FrN σ1 σ → V l i_X6_explained k_X6_explained 38 [.ref 900, .int v1, .int v2, .int (nI (pcnt m)), .int v4, .int (nI i)] [] σ K
  | 0, i, σ, hi, hE, hf => by
    have hi : i = pcnt m := by omega
    subst hi
    refine V_run ok_X6_explained 3 38 ?_
    simp (disch := omega) only [eng, c_X6_explained, r_X6_explained, tbl, true_and, Nat.reduceAdd, Nat.reduceLT, ↓reduceIte, n_eq, n_lt, n_le, n_cl, n_inT, nI_add, bI_eq0, bI_eq1, not_true_eq_false, not_false_eq_true, true_implies, false_implies, implies_true, and_true, Bool.not_eq_false, Bool.not_eq_true, Nat.reduceEqDiff, Nat.reduceLeDiff, Classical.not_not, List.length_cons, List.length_nil, Int.reduceAdd, z_cast, Nat.reducePow, false_or, Nat.reduceLT, Nat.sub_zero, Nat.le_refl]
    try simp only [iteP, Classical.not_not, Bool.not_eq_false, Bool.not_eq_true]
    exact hN σ _ hE hf
  | q + 1, i, σ, hi, hE, hf => by
    have h0 : ¬ pcnt m ≤ i := by omega
    have hr := hL.2 i (by omega)
    have e922 : σ 922 i = nI (rowL m L i) := by rw [hf.1 922 (by decide) (by decide)]; exact h922 i (by omega)
    have hWi := Wf_dieN hW (f := rowL m L) i (fun j hj => hL.2 j (by omega))
    refine V_run ok_X6_explained 60 38 ?_
    simp (disch := omega) only [eng, c_X6_explained, r_X6_explained, tbl, true_and, Nat.reduceAdd, Nat.reduceLT, ↓reduceIte, n_eq, n_lt, n_le, n_cl, n_inT, nI_add, bI_eq0, bI_eq1, not_true_eq_false, not_false_eq_true, true_implies, false_implies, implies_true, and_true, Bool.not_eq_false, Bool.not_eq_true, Nat.reduceEqDiff, Nat.reduceLeDiff, Classical.not_not, List.length_cons, List.length_nil, Int.reduceAdd, z_cast, Nat.reducePow, false_or, Nat.reduceLT, Nat.sub_zero, Nat.le_refl, h0, e922]
    try simp only [iteP, Classical.not_not, Bool.not_eq_false, Bool.not_eq_true]
    refine m_die hWi hE (by rw [dieN_12]; exact hr.1) hr.2 (fun σ' hE' hf' => ?_)
    exact lp_ein l hW h5 hL h922 hN q (i + 1) σ' (by omega) hE' (hf.trans hf')
theorem lp_eout (l : Launch) {m N : Nat} {E G : Es} {σ0 : St} {K : Int32 → St → Prop} (hW : Wf E) (hG : Wf G) (h5 : pcnt m ≤ 5) (hK : ∀ (σ' : St) (v3 v4 v5 : Value), KE 925 G σ' → FrQ σ0 σ' → V l i_X6_explained k_X6_explained 66 [.ref 900, .int (nI m), .int (nI N), v3, v4, v5] [] σ' K) : ∀ (q c : Nat) (L : List Nat) (σ : St) (v5 : Value), endP (pcnt m) q L = true → (∀ L', L' ∈ seqP (pcnt m) q L → rowV E m L') → c + ((seqP (pcnt m) q L).map (gR E m (fun F => eqT F G))).sum = N → OSt E m L σ → KE 925 G σ → FrQ σ0 σ → V l i_X6_explained k_X6_explained 34 [.ref 900, .int (nI m), .int (nI c), .int (nI (pcnt m)), .int (nI 1), v5] [] σ K
  | 0, c, L, σ, v5, hq, hV, hc, hS, hP, hF => by cases hq
  | q + 1, c, L, σ, v5, hq, hV, hc, hS, hP, hF => by
    unfold endP at hq
    unfold seqP at hV hc
    have hL := hV L List.mem_cons_self
    rw [List.map_cons, List.sum_cons] at hc
    refine V_run ok_X6_explained 20 34 ?_
    simp (disch := omega) only [eng, c_X6_explained, r_X6_explained, tbl, true_and, Nat.reduceAdd, Nat.reduceLT, ↓reduceIte, n_eq, n_lt, n_le, n_cl, n_inT, nI_add, bI_eq0, bI_eq1, not_true_eq_false, not_false_eq_true, true_implies, false_implies, implies_true, and_true, Bool.not_eq_false, Bool.not_eq_true, Nat.reduceEqDiff, Nat.reduceLeDiff, Classical.not_not, List.length_cons, List.length_nil, Int.reduceAdd, z_cast, Nat.reducePow, false_or, Nat.reduceLT, Nat.sub_zero, Nat.le_refl]
    try simp only [iteP, Classical.not_not, Bool.not_eq_false, Bool.not_eq_true]
    refine lp_ein l hW h5 hL hS.2.2 (fun σ2 v5 hE2 hf2 => ?_) (pcnt m) 0 σ (by omega) hS.1 FrN.rfl'
    have hWF := Wf_dieN hW (f := rowL m L) (pcnt m) hL.2
    have hP2 : KE 925 G σ2 := hP.frame (hf2.1 925 (by decide) (by decide))
    have tail : ∀ c', c' = c + gR E m (fun F => eqT F G) L → CallAt l 157 [.ref 900] σ2 (fun _ σ' => CallAt l 158 [.ref 900, .int (nI (pcnt m))] σ' (fun r σ'' => V l i_X6_explained k_X6_explained 34 [.ref 900, .int (nI m), .int (nI c'), .int (nI (pcnt m)), .int r, v5] [] σ'' K)) := fun c' hc' => by
      obtain ⟨s1, s2⟩ := OSt_n hS hf2
      refine m_back hW (SmE_dieN SmE.rfl' _) hE2 s1 (fun σ3 hE3 hf3 => ?_)
      have s3 : ∀ i, i < pcnt m → σ3 922 i = nI (rowL m L i) := fun i hi => by rw [hf3.1 922 (by decide) (by decide)]; exact s2 i hi
      have s4 : AsK E σ3 := s1.fr (hf3.1 921 (by decide) (by decide))
      have hP3 : KE 925 G σ3 := hP2.frame (hf3.1 925 (by decide) (by decide))
      have fQ : FrQ σ0 σ3 := (hF.trans hf2.q).trans hf3.q
      refine m_nextL h5 hL.1 s3 (fun z => ?_) (fun L' z σ4 g1 g2 => ?_)
      · rw [z] at hc
        simp at hc
        rw [← hc'] at hc
        subst hc
        refine V_run ok_X6_explained 2 34 ?_
        simp (disch := omega) only [eng, c_X6_explained, r_X6_explained, tbl, true_and, Nat.reduceAdd, Nat.reduceLT, ↓reduceIte, n_eq, n_lt, n_le, n_cl, n_inT, nI_add, bI_eq0, bI_eq1, not_true_eq_false, not_false_eq_true, true_implies, false_implies, implies_true, and_true, Bool.not_eq_false, Bool.not_eq_true, Nat.reduceEqDiff, Nat.reduceLeDiff, Classical.not_not, List.length_cons, List.length_nil, Int.reduceAdd, z_cast, Nat.reducePow, false_or, Nat.reduceLT, Nat.sub_zero, Nat.le_refl]
        try simp only [iteP, Classical.not_not, Bool.not_eq_false, Bool.not_eq_true]
        exact hK σ3 _ _ _ hP3 fQ
      · rw [z] at hc hq hV
        dsimp only at hc hq hV
        refine lp_eout l hW hG h5 hK q c' L' σ4 v5 hq (fun L2 h2 => hV L2 (List.mem_cons_of_mem _ h2)) (by omega) ⟨hE3.fr (fun k _ _ => g2 k (by omega)) (by rw [g2 900 (by decide)]) (by rw [g2 900 (by decide)]) (by rw [g2 900 (by decide)]), s4.fr (g2 921 (by decide)), g1⟩ (hP3.frame (g2 925 (by decide))) (fQ.trans (FrQ_one (Or.inr rfl) g2))
    refine V_run ok_X6_explained 60 50 ?_
    simp (disch := omega) only [eng, c_X6_explained, r_X6_explained, tbl, true_and, Nat.reduceAdd, Nat.reduceLT, ↓reduceIte, n_eq, n_lt, n_le, n_cl, n_inT, nI_add, bI_eq0, bI_eq1, not_true_eq_false, not_false_eq_true, true_implies, false_implies, implies_true, and_true, Bool.not_eq_false, Bool.not_eq_true, Nat.reduceEqDiff, Nat.reduceLeDiff, Classical.not_not, List.length_cons, List.length_nil, Int.reduceAdd, z_cast, Nat.reducePow, false_or, Nat.reduceLT, Nat.sub_zero, Nat.le_refl]
    try simp only [iteP, Classical.not_not, Bool.not_eq_false, Bool.not_eq_true]
    refine m_asNow hWF hG hE2 hP2 ?_
    cases z : eqT (dieN E (rowL m L) (pcnt m)) G with
    | true =>
      simp (disch := omega) only [n_eq, n_lt, n_le, n_cl, n_inT, nI_add, bI_eq0, bI_eq1, not_true_eq_false, not_false_eq_true, true_implies, false_implies, implies_true, and_true, Bool.not_eq_false, Bool.not_eq_true, Nat.reduceEqDiff, Nat.reduceLeDiff, Classical.not_not, List.length_cons, List.length_nil, Int.reduceAdd, z_cast, Nat.reducePow, false_or, Nat.reduceLT, Nat.sub_zero, Nat.le_refl, true_and, ↓reduceIte, iteP, Bool.true_eq_false]
      exact tail (c + 1) (by unfold gR; simp [z])
    | false =>
      simp (disch := omega) only [n_eq, n_lt, n_le, n_cl, n_inT, nI_add, bI_eq0, bI_eq1, not_true_eq_false, not_false_eq_true, true_implies, false_implies, implies_true, and_true, Bool.not_eq_false, Bool.not_eq_true, Nat.reduceEqDiff, Nat.reduceLeDiff, Classical.not_not, List.length_cons, List.length_nil, Int.reduceAdd, z_cast, Nat.reducePow, false_or, Nat.reduceLT, Nat.sub_zero, Nat.le_refl, true_and, ↓reduceIte, iteP, Bool.false_eq_true, Nat.add_zero]
      exact tail c (by unfold gR; simp [z])
theorem M_explained {l : Launch} {A : AS} {s : Int32} {σ : St} {K : Int32 → St → Prop} (hM : MX A σ) (hK : ∀ σ', MX (op_explained A s).2 σ' → FrM σ σ' → K (op_explained A s).1 σ') : CallAt l 169 [.ref 900, .int s] σ K := by
  have hW := hM.1.1
  have hE := hM.2.1
  have hi := hM.2.2.1
  unfold op_explained at hK
  refine CallAt.of (k := 169) (cd := k_X6_explained) ok_X6_explained (by decide) rfl rfl rfl ?_
  show V _ i_X6_explained k_X6_explained 0 [.ref 900, .int s, .null, .null, .null, .null] [] _ _
  refine V_run ok_X6_explained 60 0 ?_
  simp (disch := omega) only [eng, c_X6_explained, r_X6_explained, tbl, true_and, Nat.reduceAdd, Nat.reduceLT, ↓reduceIte, n_eq, n_lt, n_le, n_cl, n_inT, nI_add, bI_eq0, bI_eq1, not_true_eq_false, not_false_eq_true, true_implies, false_implies, implies_true, and_true, Bool.not_eq_false, Bool.not_eq_true, Nat.reduceEqDiff, Nat.reduceLeDiff, Classical.not_not, List.length_cons, List.length_nil, Int.reduceAdd, z_cast, Nat.reducePow, false_or, Nat.reduceLT, Nat.sub_zero, Nat.le_refl]
  try simp only [iteP, Classical.not_not, Bool.not_eq_false, Bool.not_eq_true]
  refine m_isFew ?_
  cases h1 : (inB s 4096 && decide (pcnt s.toNatClampNeg ≤ 5)) with
  | false =>
    rw [h1] at hK
    simp (disch := omega) only [n_eq, n_lt, n_le, n_cl, n_inT, nI_add, bI_eq0, bI_eq1, not_true_eq_false, not_false_eq_true, true_implies, false_implies, implies_true, and_true, Bool.not_eq_false, Bool.not_eq_true, Nat.reduceEqDiff, Nat.reduceLeDiff, Classical.not_not, List.length_cons, List.length_nil, Int.reduceAdd, z_cast, Nat.reducePow, false_or, Nat.reduceLT, Nat.sub_zero, Nat.le_refl, true_and, ↓reduceIte, iteP, Bool.false_eq_true]
    exact hK σ hM FrM.rfl'
  | true =>
    have h1' := h1
    rw [Bool.and_eq_true, decide_eq_true_eq] at h1'
    obtain ⟨m, hm, rfl⟩ := inB_of h1'.1
    have h5 := h1'.2
    rw [n_cl (by omega)] at h5
    rw [h1, n_cl (by omega), if_pos rfl] at hK
    cases h : A.2.1 with
    | none =>
      rw [h] at hi hK
      have hi : σ 900 22 = nI 0 := hi
      simp (disch := omega) only [n_eq, n_lt, n_le, n_cl, n_inT, nI_add, bI_eq0, bI_eq1, not_true_eq_false, not_false_eq_true, true_implies, false_implies, implies_true, and_true, Bool.not_eq_false, Bool.not_eq_true, Nat.reduceEqDiff, Nat.reduceLeDiff, Classical.not_not, List.length_cons, List.length_nil, Int.reduceAdd, z_cast, Nat.reducePow, false_or, Nat.reduceLT, Nat.sub_zero, Nat.le_refl, true_and, ↓reduceIte, iteP, Bool.true_eq_false, hi]
      exact hK σ hM FrM.rfl'
    | some F =>
      rw [h] at hi hK
      dsimp only at hK
      have hi : σ 900 22 = nI 1 := hi
      have hWF := hM.1.2.1 F h
      have hKF := hM.2.2.2.1 F h
      simp (disch := omega) only [n_eq, n_lt, n_le, n_cl, n_inT, nI_add, bI_eq0, bI_eq1, not_true_eq_false, not_false_eq_true, true_implies, false_implies, implies_true, and_true, Bool.not_eq_false, Bool.not_eq_true, Nat.reduceEqDiff, Nat.reduceLeDiff, Classical.not_not, List.length_cons, List.length_nil, Int.reduceAdd, z_cast, Nat.reducePow, false_or, Nat.reduceLT, Nat.sub_zero, Nat.le_refl, true_and, ↓reduceIte, iteP, Bool.true_eq_false, hi]
      refine m_store (Or.inr rfl) hW hE (fun σ1 g1 g2 => ?_)
      refine m_load (Or.inl rfl) hWF (hKF.frame (g2 924 (by decide))) (fun σ2 hE2 hf2 => ?_)
      have hP2 : KE 925 A.1 σ2 := g1.frame (hf2.1 925 (by decide) (by decide))
      have fin0 : ∀ (x : Int32) (σ' : St), KE 925 A.1 σ' → FrQ σ2 σ' → (∀ τ, MX A τ → FrM σ τ → K x τ) → CallAt l 165 [.ref 900, .ref 925] σ' (fun _ σ' => K x σ') := fun x σ' hP hQ hk => by
        refine m_load (Or.inr rfl) hW hP (fun σ3 hE3 hf3 => ?_)
        have fr : ∀ k, k ≠ 900 → k ≠ 921 → k ≠ 922 → k ≠ 925 → k < 901 ∨ 914 < k → σ3 k = σ k := fun k z1 z2 z3 z4 z5 => by
          rw [hf3.1 k z1 z5, hQ.1 k z1 z2 z3 z5, hf2.1 k z1 z5, g2 k z4]
        have fr9 : ∀ j, j ≠ 6 → j ≠ 11 → j ≠ 14 → σ3 900 j = σ 900 j := fun j z1 z2 z3 => by
          rw [hf3.2 j z1 z2 z3, hQ.2 j z1 z2 z3, hf2.2 j z1 z2 z3, g2 900 (by decide)]
        exact hk σ3 (hM.g (E := A.1) (fun k hk => fr k (by omega) (by omega) (by omega) (by omega) (by omega)) (fun j hj => fr9 j (by omega) (by omega) (by omega)) hW hE3) (fun k hk => fr k (by omega) (by omega) (by omega) (by omega) (by omega))
      have fin : ∀ (x : Int32) (σ' : St) (v3 v4 v5 : Value), KE 925 A.1 σ' → FrQ σ2 σ' → (∀ τ, MX A τ → FrM σ τ → K x τ) → V l i_X6_explained k_X6_explained 66 [.ref 900, .int (nI m), .int x, v3, v4, v5] [] σ' K := fun x σ' v3 v4 v5 hP hQ hk => by
        refine V_run ok_X6_explained 20 66 ?_
        simp (disch := omega) only [eng, c_X6_explained, r_X6_explained, tbl, true_and, Nat.reduceAdd, Nat.reduceLT, ↓reduceIte, n_eq, n_lt, n_le, n_cl, n_inT, nI_add, bI_eq0, bI_eq1, not_true_eq_false, not_false_eq_true, true_implies, false_implies, implies_true, and_true, Bool.not_eq_false, Bool.not_eq_true, Nat.reduceEqDiff, Nat.reduceLeDiff, Classical.not_not, List.length_cons, List.length_nil, Int.reduceAdd, z_cast, Nat.reducePow, false_or, Nat.reduceLT, Nat.sub_zero, Nat.le_refl]
        try simp only [iteP, Classical.not_not, Bool.not_eq_false, Bool.not_eq_true]
        exact fin0 x σ' hP hQ hk
      refine m_allLive hWF hE2 hm ?_
      cases h2 : allL F m with
      | false =>
        rw [h2] at hK
        simp (disch := omega) only [n_eq, n_lt, n_le, n_cl, n_inT, nI_add, bI_eq0, bI_eq1, not_true_eq_false, not_false_eq_true, true_implies, false_implies, implies_true, and_true, Bool.not_eq_false, Bool.not_eq_true, Nat.reduceEqDiff, Nat.reduceLeDiff, Classical.not_not, List.length_cons, List.length_nil, Int.reduceAdd, z_cast, Nat.reducePow, false_or, Nat.reduceLT, Nat.sub_zero, Nat.le_refl, true_and, ↓reduceIte, iteP, Bool.false_eq_true]
        exact fin0 (-1) σ2 hP2 FrQ.rfl' hK
      | true =>
        rw [h2, if_pos rfl] at hK
        simp (disch := omega) only [n_eq, n_lt, n_le, n_cl, n_inT, nI_add, bI_eq0, bI_eq1, not_true_eq_false, not_false_eq_true, true_implies, false_implies, implies_true, and_true, Bool.not_eq_false, Bool.not_eq_true, Nat.reduceEqDiff, Nat.reduceLeDiff, Classical.not_not, List.length_cons, List.length_nil, Int.reduceAdd, z_cast, Nat.reducePow, false_or, Nat.reduceLT, Nat.sub_zero, Nat.le_refl, true_and, ↓reduceIte, iteP, Bool.true_eq_false]
        refine m_firstO hm h5 (fun σ3 q1 q2 => ?_)
        have hE3 : ME F σ3 := hE2.fr (fun k _ _ => q2 k (by omega)) (by rw [q2 900 (by decide)]) (by rw [q2 900 (by decide)]) (by rw [q2 900 (by decide)])
        refine m_keep hWF hE3 (fun σ4 q3 q4 => ?_)
        have hE4 : ME F σ4 := hE3.fr (fun k _ _ => q4 k (by omega)) (by rw [q4 900 (by decide)]) (by rw [q4 900 (by decide)]) (by rw [q4 900 (by decide)])
        have fq : FrQ σ2 σ4 := (FrQ_one (Or.inr rfl) q2).trans (FrQ_one (Or.inl rfl) q4)
        refine lp_eout l (σ0 := σ2) hWF hW h5 (fun σ' v3 v4 v5 hP hQ => fin _ σ' v3 v4 v5 hP hQ hK) (fct (pcnt m)) 0 (List.range (pcnt m)) σ4 _ (seq_ok h5).1 (seq_V h2 h5) (by rw [Nat.zero_add, ord_seq h5]) ⟨hE4, q3, fun i hi => ?_⟩ (hP2.frame (by rw [q4 925 (by decide), q2 925 (by decide)])) fq
        rw [q4 922 (by decide), q1 i hi]
        unfold rowL
        simp [List.getD, hi]
