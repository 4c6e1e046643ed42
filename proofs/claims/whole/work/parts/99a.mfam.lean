def Gf (F : Es) (k : Nat) : Es := fun i j => if i = 12 ∧ j = 0 then k else if i = 3 then 12 else F i j
def Hf (F : Es) (k : Nat) : Es := fun i j => if i = 3 then (if j < k then F 3 j else 12) else F i j
theorem Gf_add {F : Es} {k : Nat} (h4 : F 4 k = 12) (h5 : F 5 k = 1) : addE (Gf F k) (F 0 k) (F 1 k) (F 2 k) = Gf F (k + 1) := by
  have e0 : Gf F k 12 0 = k := by simp [Gf]
  funext i j
  unfold addE
  rw [e0]
  by_cases y : i = 12
  · subst y
    by_cases z : j = 0
    · simp [Gf, z]
    · simp [Gf, z]
  · by_cases z : j = k
    · subst z
      by_cases a0 : i = 0
      · simp [Gf, a0]
      · by_cases a1 : i = 1
        · simp [Gf, a1]
        · by_cases a2 : i = 2
          · simp [Gf, a2]
          · by_cases a3 : i = 3
            · simp [Gf, a3]
            · by_cases a4 : i = 4
              · simp [Gf, a4, h4]
              · by_cases a5 : i = 5
                · simp [Gf, a5, h5]
                · simp [Gf, y, a0, a1, a2, a3, a4, a5]
    · simp [Gf, y, z]
theorem Wf_Gf {F : Es} {k : Nat} (hW : Wf F) (hN : Nw F) (h1 : F 12 1 = 0) (hk : k ≤ F 12 0) : Wf (Gf F k) := by
  have e : ∀ i j, i ≠ 3 → i ≠ 12 → Gf F k i j = F i j := fun i j h3 h12 => by simp [Gf, h3, h12]
  have e0 : Gf F k 12 0 = k := by simp [Gf]
  have e1 : Gf F k 12 1 = 0 := by simp [Gf, h1]
  have e2 : Gf F k 12 2 = F 12 2 := by simp [Gf]
  have e3 : ∀ j, Gf F k 3 j = 12 := fun j => by simp [Gf]
  have hn := hW.1
  refine ⟨by omega, by omega, by rw [e2]; exact hW.2.2.1, fun p hp => ?_, fun t ht => absurd ht (by omega), fun r hr => ?_⟩
  · rw [e0] at hp
    obtain ⟨b1, b2, b3, b4, b5, b6, b7⟩ := hW.2.2.2.1 p (by omega)
    unfold WfP
    rw [e3, e 0 p (by decide) (by decide), e 1 p (by decide) (by decide), e 2 p (by decide) (by decide), e 4 p (by decide) (by decide), e 5 p (by decide) (by decide), e 0 _ (by decide) (by decide), e 0 _ (by decide) (by decide)]
    exact ⟨b1, b2, b3, b4, Or.inl rfl, Or.inl (hN p (by omega)).1, fun _ z => absurd rfl z⟩
  · have := hW.2.2.2.2.2 r hr
    unfold WfR at this ⊢
    simp only [e _ _ (show (11 : Nat) ≠ 3 by decide) (by decide), e _ _ (show (10 : Nat) ≠ 3 by decide) (by decide)]
    exact this
theorem lp_fam1 (l : Launch) {F : Es} {v1 : Int32} {σ0 : St} {K : Int32 → St → Prop} (hW : Wf F) (hNw : Nw F) (h1 : F 12 1 = 0) (h18 : σ0 900 18 = nI (F 12 0)) (hR : RE (F 12 0) F σ0) (hN : ∀ σ : St, ME (Gf F (F 12 0)) σ → FrN σ0 σ → V l i_X6_family k_X6_family 49 [.ref 900, .int v1, .int (nI (F 12 0))] [] σ K) : ∀ (q k : Nat) (σ : St), k + q = F 12 0 → ME (Gf F k) σ → FrN σ0 σ → V l i_X6_family k_X6_family 19 [.ref 900, .int v1, .int (nI k)] [] σ K
  | 0, k, σ, hk, hE, hf => by
    have hk : k = F 12 0 := by omega
    have hn := hW.1
    have e18 : σ 900 18 = nI (F 12 0) := by rw [hf.2 18 (by decide) (by decide) (by decide)]; exact h18
    subst hk
    refine V_run ok_X6_family 4 19 ?_
    simp (disch := omega) only [eng, c_X6_family, r_X6_family, tbl, true_and, Nat.reduceAdd, Nat.reduceLT, ↓reduceIte, n_eq, n_lt, n_le, n_cl, n_inT, nI_add, bI_eq0, bI_eq1, not_true_eq_false, not_false_eq_true, true_implies, false_implies, implies_true, and_true, Bool.not_eq_false, Bool.not_eq_true, Nat.reduceEqDiff, Nat.reduceLeDiff, Classical.not_not, List.length_cons, List.length_nil, Int.reduceAdd, z_cast, Nat.reducePow, false_or, Nat.reduceLT, Nat.sub_zero, Nat.le_refl, e18]
    try simp only [iteP, Classical.not_not, Bool.not_eq_false, Bool.not_eq_true]
    exact hN σ hE hf
  | q + 1, k, σ, hk, hE, hf => by
    have hn := hW.1
    have h0 : ¬ F 12 0 ≤ k := by omega
    have e18 : σ 900 18 = nI (F 12 0) := by rw [hf.2 18 (by decide) (by decide) (by decide)]; exact h18
    have r := hR k (by omega)
    rw [← hf.1 920 (by decide) (by decide)] at r
    have nw := hNw k (by omega)
    refine V_run ok_X6_family 60 19 ?_
    simp (disch := omega) only [eng, c_X6_family, r_X6_family, tbl, true_and, Nat.reduceAdd, Nat.reduceLT, ↓reduceIte, n_eq, n_lt, n_le, n_cl, n_inT, nI_add, bI_eq0, bI_eq1, not_true_eq_false, not_false_eq_true, true_implies, false_implies, implies_true, and_true, Bool.not_eq_false, Bool.not_eq_true, Nat.reduceEqDiff, Nat.reduceLeDiff, Classical.not_not, List.length_cons, List.length_nil, Int.reduceAdd, z_cast, Nat.reducePow, false_or, Nat.reduceLT, Nat.sub_zero, Nat.le_refl, e18, h0, pk_mul, r]
    try simp only [iteP, Classical.not_not, Bool.not_eq_false, Bool.not_eq_true]
    refine m_add (Wf_Gf hW hNw h1 (by omega)) hE (by simp [Gf]; omega) (fun σ' hE' hf' => ?_)
    rw [Gf_add nw.1 nw.2] at hE'
    exact lp_fam1 l hW hNw h1 h18 hR hN q (k + 1) σ' (by omega) hE' (hf.trans hf')
theorem Hf_0 (F : Es) : Hf F 0 = Gf F (F 12 0) := by
  funext i j
  unfold Hf Gf
  by_cases y : i = 3
  · simp [y]
  · by_cases z : i = 12 ∧ j = 0
    · simp [z.1, z.2]
    · simp [y, z]
theorem lp_fam2 (l : Launch) {F : Es} {v1 : Int32} {σ0 : St} {K : Int32 → St → Prop} (hW : Wf F) (h18 : σ0 900 18 = nI (F 12 0)) (hR : RE (F 12 0) F σ0) (hK : ∀ σ : St, ME F σ → FrN σ0 σ → K (nI (F 12 0)) σ) : ∀ (q k : Nat) (σ : St), k + q = F 12 0 → ME (Hf F k) σ → FrN σ0 σ → V l i_X6_family k_X6_family 51 [.ref 900, .int v1, .int (nI k)] [] σ K
  | 0, k, σ, hk, hE, hf => by
    have hk : k = F 12 0 := by omega
    have hn := hW.1
    have e18 : σ 900 18 = nI (F 12 0) := by rw [hf.2 18 (by decide) (by decide) (by decide)]; exact h18
    have e6 : σ 900 6 = nI (F 12 0) := hE.1
    subst hk
    refine V_run ok_X6_family 10 51 ?_
    simp (disch := omega) only [eng, c_X6_family, r_X6_family, tbl, true_and, Nat.reduceAdd, Nat.reduceLT, ↓reduceIte, n_eq, n_lt, n_le, n_cl, n_inT, nI_add, bI_eq0, bI_eq1, not_true_eq_false, not_false_eq_true, true_implies, false_implies, implies_true, and_true, Bool.not_eq_false, Bool.not_eq_true, Nat.reduceEqDiff, Nat.reduceLeDiff, Classical.not_not, List.length_cons, List.length_nil, Int.reduceAdd, z_cast, Nat.reducePow, false_or, Nat.reduceLT, Nat.sub_zero, Nat.le_refl, e18, e6]
    try simp only [iteP, Classical.not_not, Bool.not_eq_false, Bool.not_eq_true]
    refine hK σ ?_ hf
    obtain ⟨a1, a2, a3, a4, a5, a6⟩ := hE
    refine ⟨a1, a2, a3, fun p hp => ?_, a5, a6⟩
    have := a4 p hp
    simpa [Hf, hp] using this
  | q + 1, k, σ, hk, hE, hf => by
    have hn := hW.1
    have h0 : ¬ F 12 0 ≤ k := by omega
    have e18 : σ 900 18 = nI (F 12 0) := by rw [hf.2 18 (by decide) (by decide) (by decide)]; exact h18
    have r := hR k (by omega)
    rw [← hf.1 920 (by decide) (by decide)] at r
    refine V_run ok_X6_family 60 51 ?_
    simp (disch := omega) only [eng, c_X6_family, r_X6_family, tbl, true_and, Nat.reduceAdd, Nat.reduceLT, ↓reduceIte, n_eq, n_lt, n_le, n_cl, n_inT, nI_add, bI_eq0, bI_eq1, not_true_eq_false, not_false_eq_true, true_implies, false_implies, implies_true, and_true, Bool.not_eq_false, Bool.not_eq_true, Nat.reduceEqDiff, Nat.reduceLeDiff, Classical.not_not, List.length_cons, List.length_nil, Int.reduceAdd, z_cast, Nat.reducePow, false_or, Nat.reduceLT, Nat.sub_zero, Nat.le_refl, e18, h0, pk_mul, r]
    try simp only [iteP, Classical.not_not, Bool.not_eq_false, Bool.not_eq_true]
    refine lp_fam2 l hW h18 hR hK q (k + 1) _ (by omega) ?_ (hf.wr (by omega) (by omega))
    obtain ⟨a1, a2, a3, a4, a5, a6⟩ := hE
    refine ⟨by simpa [wr_at, Hf] using a1, by simpa [wr_at, Hf] using a2, by simpa [wr_at, Hf] using a3, fun p hp => ?_, fun t ht => ?_, fun r hr => ?_⟩
    · have := a4 p hp
      by_cases z : p = k
      · subst z
        simp [Hf] at this
        simp [wr_at, Hf, this]
      · have z2 : (p < k + 1) = (p < k) := propext ⟨fun _ => by omega, fun _ => by omega⟩
        simp [Hf] at this
        simp [wr_at, Hf, z, z2, this]
    · have := a5 t ht
      simpa [wr_at, Hf] using this
    · have := a6 r hr
      refine ⟨by simpa [wr_at, Hf] using this.1, fun i hi => ?_⟩
      have := this.2 i hi
      simpa [wr_at, Hf] using this
theorem RM_mk {tp : Nat → Nat} {ln : Nat} {σ : St} (t1 : σ 900 16 = nI ln) (t2 : ∀ i, i < ln → σ 916 i = nI (tp i)) : RM tp ln 0 (wr σ 900 17 (nI 0)) :=
  ⟨by rw [wr_at, if_neg (by omega)]; exact t1, fun i hi => by rw [wr_ne 916 (by decide)]; exact t2 i hi, by simp [wr_at], Nat.zero_le _⟩
theorem m_allF {l : Launch} {tp : Nat → Nat} {ln : Nat} {E : Es} {σ : St} {K : Int32 → St → Prop} (hw : TpW tp ln) (t1 : σ 900 16 = nI ln) (t2 : ∀ i, i < ln → σ 916 i = nI (tp i)) (hW : Wf E) (hn : E 12 0 = 0) (hK : ∀ σ' q', RM tp ln q' σ' → nb tp ln q' = (rdF tp ln 12 E (nb tp ln 0)).2.1 → FrY σ σ' → ((rdF tp ln 12 E (nb tp ln 0)).1 = true → RE ((rdF tp ln 12 E (nb tp ln 0)).2.2 12 0) (rdF tp ln 12 E (nb tp ln 0)).2.2 σ' ∧ σ' 900 18 = nI ((rdF tp ln 12 E (nb tp ln 0)).2.2 12 0)) → K (bI (rdF tp ln 12 E (nb tp ln 0)).1) σ') : CallAt l 144 [.ref 900, .int (nI 12), .int (nI 44)] σ K := by
  refine CallAt.of (k := 144) (cd := k_X6_readAll) ok_X6_readAll (by decide) rfl rfl rfl ?_
  show V _ i_X6_readAll k_X6_readAll 0 [.ref 900, .int (nI 12), .int (nI 44), .null, .null] [] _ _
  refine V_run ok_X6_readAll 10 0 ?_
  simp (disch := omega) only [eng, c_X6_readAll, r_X6_readAll, tbl, true_and, Nat.reduceAdd, Nat.reduceLT, ↓reduceIte, n_eq, n_lt, n_le, n_cl, n_inT, nI_add, bI_eq0, bI_eq1, not_true_eq_false, not_false_eq_true, true_implies, false_implies, implies_true, and_true, Bool.not_eq_false, Bool.not_eq_true, Nat.reduceEqDiff, Nat.reduceLeDiff, Classical.not_not, List.length_cons, List.length_nil, Int.reduceAdd, z_cast, Nat.reducePow, false_or, Nat.reduceLT, Nat.sub_zero, Nat.le_refl]
  try simp only [iteP, Classical.not_not, Bool.not_eq_false, Bool.not_eq_true]
  have := lp_allF l (σ0 := σ) (K := K) hw 12 E 0 (wr σ 900 17 (nI 0)) .null (by omega) (by decide) hW (fun j hj => absurd hj (by omega)) (RM_mk t1 t2) (fun j hj => absurd hj (by omega)) FrY.rfl'.pl hK
  rw [hn] at this
  exact this
theorem flt_ge : ∀ p, p < 121 → ¬ nI 0 ≤ (-20) - nI p := by decide +kernel
theorem FrY.p {σ σ' : St} (h : FrY σ σ') : FrP σ σ' := ⟨fun k a _ b => h.1 k a b, fun j _ b c => h.2 j b c⟩
theorem FrP.t16 {σ σ' : St} {v : Int32} (h : FrP σ σ') : FrP σ (wr σ' 900 16 v) := ⟨fun k a b c => by rw [wr_ne k a]; exact h.1 k a b c, fun j a b c => by rw [wr_at, if_neg (fun z => a z.2)]; exact h.2 j a b c⟩
theorem TpW_0 (tp : Nat → Nat) : TpW tp 0 := ⟨by decide, fun i hi => absurd hi (Nat.not_lt_zero i)⟩
theorem M_family {l : Launch} {A : AS} {σ : St} {K : Int32 → St → Prop} (hM : MX A σ) (hK : ∀ σ', MX (op_family A).2 σ' → FrM σ σ' → K (op_family A).1 σ') : CallAt l 146 [.ref 900] σ K := by
  have hW := hM.1.1
  have hw := hM.1.2.2.1
  have hln := hw.1
  have t1 := hM.2.2.2.2.1.1
  have t2 := hM.2.2.2.2.1.2
  have hWc := Wf_clr hW
  have n0 : clr A.1 12 0 = 0 := by simp [clr]
  unfold op_family at hK
  refine CallAt.of (k := 146) (cd := k_X6_family) ok_X6_family (by decide) rfl rfl rfl ?_
  show V _ i_X6_family k_X6_family 0 [.ref 900, .null, .null] [] _ _
  refine V_run ok_X6_family 5 0 ?_
  simp (disch := omega) only [eng, c_X6_family, r_X6_family, tbl, true_and, Nat.reduceAdd, Nat.reduceLT, ↓reduceIte, n_eq, n_lt, n_le, n_cl, n_inT, nI_add, bI_eq0, bI_eq1, not_true_eq_false, not_false_eq_true, true_implies, false_implies, implies_true, and_true, Bool.not_eq_false, Bool.not_eq_true, Nat.reduceEqDiff, Nat.reduceLeDiff, Classical.not_not, List.length_cons, List.length_nil, Int.reduceAdd, z_cast, Nat.reducePow, false_or, Nat.reduceLT, Nat.sub_zero, Nat.le_refl]
  try simp only [iteP, Classical.not_not, Bool.not_eq_false, Bool.not_eq_true]
  refine m_allF hw t1 t2 hWc n0 (fun σ1 q1 hS1 hq1 hF1 hR1 => ?_)
  have ok := rdF_ok (tp := A.2.2.1.1) (ln := A.2.2.1.2) 12 (clr A.1) (nb A.2.2.1.1 A.2.2.1.2 0) hWc (fun j hj => absurd hj (by omega)) (by omega)
  generalize rdF A.2.2.1.1 A.2.2.1.2 12 (clr A.1) (nb A.2.2.1.1 A.2.2.1.2 0) = R at *
  obtain ⟨b, p, F⟩ := R
  dsimp only at *
  have hp : p ≤ 120 := by have := (nb_le (tp := A.2.2.1.1) hS1.2.2.2).2; omega
  have fP : FrP σ σ1 := hF1.p
  refine V_run ok_X6_family 1 5 ?_
  simp (disch := omega) only [eng, c_X6_family, r_X6_family, tbl, true_and, Nat.reduceAdd, Nat.reduceLT, ↓reduceIte, n_eq, n_lt, n_le, n_cl, n_inT, nI_add, bI_eq0, bI_eq1, not_true_eq_false, not_false_eq_true, true_implies, false_implies, implies_true, and_true, Bool.not_eq_false, Bool.not_eq_true, Nat.reduceEqDiff, Nat.reduceLeDiff, Classical.not_not, List.length_cons, List.length_nil, Int.reduceAdd, z_cast, Nat.reducePow, false_or, Nat.reduceLT, Nat.sub_zero, Nat.le_refl]
  try simp only [iteP, Classical.not_not, Bool.not_eq_false, Bool.not_eq_true]
  refine m_end hw hS1 (fun hb => ?_) (fun hb => ?_)
  · subst hb
    obtain ⟨o1, o2, o3⟩ := ok rfl
    obtain ⟨r1, r2⟩ := hR1 rfl
    have n1 : F 12 1 = 0 := by rw [o2.2.1]; simp [clr]
    rw [if_pos rfl] at hK
    have fP2 : FrP σ (wr σ1 900 16 (nI 0)) := fP.t16
    have hM2 : MX (tp0 A) (wr σ1 900 16 (nI 0)) := hM.tp fP2 (TpW_0 A.2.2.1.1) (by simp [wr_at]) (fun i hi => absurd hi (Nat.not_lt_zero i))
    refine V_run ok_X6_family 60 6 ?_
    simp (disch := omega) only [eng, c_X6_family, r_X6_family, tbl, true_and, Nat.reduceAdd, Nat.reduceLT, ↓reduceIte, n_eq, n_lt, n_le, n_cl, n_inT, nI_add, bI_eq0, bI_eq1, not_true_eq_false, not_false_eq_true, true_implies, false_implies, implies_true, and_true, Bool.not_eq_false, Bool.not_eq_true, Nat.reduceEqDiff, Nat.reduceLeDiff, Classical.not_not, List.length_cons, List.length_nil, Int.reduceAdd, z_cast, Nat.reducePow, false_or, Nat.reduceLT, Nat.sub_zero, Nat.le_refl, Nat.le_refl]
    try simp only [iteP, Classical.not_not, Bool.not_eq_false, Bool.not_eq_true]
    have hE2 := hM2.2.1
    have f0 : FrN (wr σ1 900 16 (nI 0)) (wr (wr (wr σ1 900 16 (nI 0)) 900 6 (nI 0)) 900 11 (nI 0)) := FrN_wr9 (FrN_wr9 FrN.rfl' (by omega)) (by omega)
    have h18 : wr (wr (wr σ1 900 16 (nI 0)) 900 6 (nI 0)) 900 11 (nI 0) 900 18 = nI (F 12 0) := by simp [wr_at, r2]
    have hR3 : RE (F 12 0) F (wr (wr (wr σ1 900 16 (nI 0)) 900 6 (nI 0)) 900 11 (nI 0)) := fun j hj => by
      rw [wr_ne 920 (by decide), wr_ne 920 (by decide), wr_ne 920 (by decide)]; exact r1 j hj
    have hG0 : ME (Gf F 0) (wr (wr (wr σ1 900 16 (nI 0)) 900 6 (nI 0)) 900 11 (nI 0)) := by
      obtain ⟨a1, a2, a3, a4, a5, a6⟩ := hE2
      have e0 : Gf F 0 12 0 = 0 := by simp [Gf]
      have e1 : Gf F 0 12 1 = 0 := by simp [Gf, n1]
      have e2 : Gf F 0 12 2 = A.1 12 2 := by
        have : F 12 2 = A.1 12 2 := by rw [o2.2.2]; simp [clr]
        simp [Gf, this]
      have e10 : ∀ i j, i = 10 ∨ i = 11 → Gf F 0 i j = A.1 i j := fun i j hi => by
        have : F i j = A.1 i j := by rw [o2.1 i j hi]; simp [clr, show ¬ i = 12 by omega]
        simp [Gf, this, show ¬ i = 12 by omega, show ¬ i = 3 by omega]
      refine ⟨by rw [e0]; simp [wr_at], by rw [e1]; simp [wr_at], ?_, fun p hp => absurd hp (by omega), fun t ht => absurd ht (by omega), fun k hk => ?_⟩
      · have a3 : wr σ1 900 16 (nI 0) 900 14 = nI (A.1 12 2) := a3
        rw [e2]; simpa [wr_at] using a3
      · rw [e10 11 k (Or.inr rfl), wr_ne 914 (by decide), wr_ne 914 (by decide), wr_ne 913 (by decide), wr_ne 913 (by decide)]
        refine ⟨(a6 k hk).1, fun i hi => ?_⟩
        rw [e10 10 _ (Or.inl rfl)]
        exact (a6 k hk).2 i hi
    refine lp_fam1 l (σ0 := wr (wr (wr σ1 900 16 (nI 0)) 900 6 (nI 0)) 900 11 (nI 0)) o1 o3 n1 h18 hR3 (fun σ3 hE3 hf3 => ?_) (F 12 0) 0 _ (by omega) hG0 FrN.rfl'
    refine V_run ok_X6_family 4 49 ?_
    simp (disch := omega) only [eng, c_X6_family, r_X6_family, tbl, true_and, Nat.reduceAdd, Nat.reduceLT, ↓reduceIte, n_eq, n_lt, n_le, n_cl, n_inT, nI_add, bI_eq0, bI_eq1, not_true_eq_false, not_false_eq_true, true_implies, false_implies, implies_true, and_true, Bool.not_eq_false, Bool.not_eq_true, Nat.reduceEqDiff, Nat.reduceLeDiff, Classical.not_not, List.length_cons, List.length_nil, Int.reduceAdd, z_cast, Nat.reducePow, false_or, Nat.reduceLT, Nat.sub_zero, Nat.le_refl]
    try simp only [iteP, Classical.not_not, Bool.not_eq_false, Bool.not_eq_true]
    have h18' : σ3 900 18 = nI (F 12 0) := by rw [hf3.2 18 (by decide) (by decide) (by decide)]; exact h18
    have hR3' : RE (F 12 0) F σ3 := fun j hj => by rw [hf3.1 920 (by decide) (by decide)]; exact hR3 j hj
    rw [← Hf_0] at hE3
    refine lp_fam2 l (σ0 := σ3) o1 h18' hR3' (fun σ4 hE4 hf4 => ?_) (F 12 0) 0 σ3 (by omega) hE3 FrN.rfl'
    have ff := (f0.trans hf3).trans hf4
    exact hK σ4 (hM2.es ff o1 hE4) (fP2.m.trans ff.m)
  · subst hb
    rw [if_neg (by decide)] at hK
    have z := flt_ge p (by omega)
    have fP2 : FrP σ (wr (wr σ1 900 17 (nI p)) 900 16 (nI 0)) := FrP.t16 (FrY.p hF1.pl)
    have hM2 : MX (tp0 A) (wr (wr σ1 900 17 (nI p)) 900 16 (nI 0)) := hM.tp fP2 (TpW_0 A.2.2.1.1) (by simp [wr_at]) (fun i hi => absurd hi (Nat.not_lt_zero i))
    rw [hq1]
    refine V_run ok_X6_family 10 6 ?_
    simp (disch := omega) only [eng, c_X6_family, r_X6_family, tbl, true_and, Nat.reduceAdd, Nat.reduceLT, ↓reduceIte, n_eq, n_lt, n_le, n_cl, n_inT, nI_add, bI_eq0, bI_eq1, not_true_eq_false, not_false_eq_true, true_implies, false_implies, implies_true, and_true, Bool.not_eq_false, Bool.not_eq_true, Nat.reduceEqDiff, Nat.reduceLeDiff, Classical.not_not, List.length_cons, List.length_nil, Int.reduceAdd, z_cast, Nat.reducePow, false_or, Nat.reduceLT, Nat.sub_zero, Nat.le_refl, z]
    try simp only [iteP, Classical.not_not, Bool.not_eq_false, Bool.not_eq_true]
    exact hK _ hM2 fP2.m
