theorem BrC.fr {E : Es} {N t h at' : Nat} {d : Nat → Int32} {σ σ' : St} (hC : BrC E N t h at' d σ) (h1 : σ' 928 = σ 928) (h2 : σ' 921 = σ 921) : BrC E N t h at' d σ' :=
  ⟨hC.1, hC.2.1, hC.2.2.1, hC.2.2.2.1, hC.2.2.2.2.1, fun i hi => by rw [h1]; exact hC.2.2.2.2.2.1 i hi, hC.2.2.2.2.2.2.fr h2⟩
def FrW (σ σ' : St) : Prop := (∀ k, k ≠ 900 → k ≠ 921 → k ≠ 929 → k < 901 ∨ 914 < k → σ' k = σ k) ∧ ∀ j, j ≠ 6 → j ≠ 11 → j ≠ 14 → σ' 900 j = σ 900 j
theorem FrW.rfl' {σ : St} : FrW σ σ := ⟨fun _ _ _ _ _ => rfl, fun _ _ _ _ => rfl⟩
theorem FrW.trans {σ σ' σ'' : St} (h : FrW σ σ') (h2 : FrW σ' σ'') : FrW σ σ'' := ⟨fun k a b c d => (h2.1 k a b c d).trans (h.1 k a b c d), fun j a b c => (h2.2 j a b c).trans (h.2 j a b c)⟩
theorem FrN.w {σ σ' : St} (h : FrN σ σ') : FrW σ σ' := ⟨fun k a _ _ d => h.1 k a d, h.2⟩
theorem FrW.m {σ σ' : St} (h : FrW σ σ') : FrM σ σ' := fun k hk => h.1 k (by omega) (by omega) (by omega) (by omega)
theorem FrW_one {c : Nat} {σ σ' : St} (hc : c = 921 ∨ c = 929) (h : ∀ k, k ≠ c → σ' k = σ k) : FrW σ σ' := ⟨fun k _ _ _ _ => h k (by omega), fun j _ _ _ => by rw [h 900 (by omega)]⟩
theorem ME_one {c : Nat} {E : Es} {σ σ' : St} (hE : ME E σ) (hc : 914 < c) (h : ∀ k, k ≠ c → σ' k = σ k) : ME E σ' := hE.fr (fun k _ _ => h k (by omega)) (by rw [h 900 (by omega)]) (by rw [h 900 (by omega)]) (by rw [h 900 (by omega)])
def wedM (E : Es) (t h : Nat) (d : Nat → Int32) (N : Nat) : Option (List Nat) :=
  if brM E none none t h d N then some [] else match fs (fun q => brM E (some q) none t h d N) 144 0 with
    | some q => some [q]
    | none => match fs2 (fun a b => brM E (some a) (some b) t h d N) 144 0 with
      | some (a, b) => some [a, b]
      | none => none
theorem fs2_none {P : Nat → Nat → Bool} (h : ∀ a b, P a b = false) : ∀ (n q : Nat), fs2 P n q = none
  | 0, _ => rfl
  | n + 1, q => by
    unfold fs2
    rw [fs_none 144 0 (h q)]
    exact fs2_none h n (q + 1)
theorem wedM_eq (E : Es) (t h : Nat) (d : Nat → Int32) (N : Nat) : wedM E t h d N = if fstE d N 0 E < N then none else wedE E t h (fun i => (d i).toNatClampNeg) N := by
  by_cases z : fstE d N 0 E < N
  · rw [if_pos z]
    have e : ∀ o1 o2, brM E o1 o2 t h d N = false := fun o1 o2 => by
      unfold brM
      rw [decide_eq_false (fun y => y z), Bool.false_and]
    unfold wedM
    rw [e none none, if_neg (by decide), fs_none 144 0 (fun b => e (some b) none), fs2_none (fun a b => e (some a) (some b))]
  · rw [if_neg z]
    have e : ∀ o1 o2, brM E o1 o2 t h d N = brE E o1 o2 t h (fun i => (d i).toNatClampNeg) N := fun o1 o2 => by
      unfold brM
      rw [decide_eq_true z, Bool.true_and]
    unfold wedM wedE
    simp only [e]
    rfl
theorem lp_w1 (l : Launch) {N t h at' : Nat} {d : Nat → Int32} {R : Option Nat} {E : Es} {σ0 : St} {K : Int32 → St → Prop}
    (hN : R = none → ∀ (σ : St) (v5 v6 : Value), ME E σ → BrC E N t h at' d σ → FrW σ0 σ → V l i_X6_findWed k_X6_findWed 34 [.ref 900, .int (nI t), .int (nI h), .int (nI at'), .int (nI N), v5, v6] [] σ K)
    (hK : ∀ b, R = some b → ∀ σ', ME E σ' → FrW σ0 σ' → σ' 929 0 = nI b → K (nI 1) σ') : ∀ (n a : Nat) (σ : St) (v6 : Value), a + n = 144 → fs (fun q => brM E (some q) none t h d N) n a = R → ME E σ → BrC E N t h at' d σ → FrW σ0 σ → V l i_X6_findWed k_X6_findWed 14 [.ref 900, .int (nI t), .int (nI h), .int (nI at'), .int (nI N), .int (nI a), v6] [] σ K
  | 0, a, σ, v6, ha, hR, hE, hC, hF => by
    have ha : a = 144 := by omega
    subst ha
    refine V_run ok_X6_findWed 3 14 ?_
    simp (disch := omega) only [eng, c_X6_findWed, r_X6_findWed, tbl, true_and, Nat.reduceAdd, Nat.reduceLT, ↓reduceIte, n_eq, n_lt, n_le, n_cl, n_inT, nI_add, bI_eq0, bI_eq1, not_true_eq_false, not_false_eq_true, true_implies, false_implies, implies_true, and_true, Bool.not_eq_false, Bool.not_eq_true, Nat.reduceEqDiff, Nat.reduceLeDiff, Classical.not_not, List.length_cons, List.length_nil, Int.reduceAdd, z_cast, Nat.reducePow, false_or, Nat.reduceLT, Nat.sub_zero, Nat.le_refl]
    try simp only [iteP, Classical.not_not, Bool.not_eq_false, Bool.not_eq_true]
    exact hN hR.symm σ _ _ hE hC hF
  | n + 1, a, σ, v6, ha, hR, hE, hC, hF => by
    have h0 : ¬ 144 ≤ a := by omega
    have g2 : ∀ k, k ≠ 929 → wr σ 929 0 (nI a) k = σ k := fun k hk => wr_ne k hk
    have hE1 : ME E (wr σ 929 0 (nI a)) := ME_one hE (by decide) g2
    have hC1 : BrC E N t h at' d (wr σ 929 0 (nI a)) := hC.fr (g2 928 (by decide)) (g2 921 (by decide))
    have e9 : wr σ 929 0 (nI a) 929 0 = nI a := by simp [wr_at]
    unfold fs at hR
    refine V_run ok_X6_findWed 60 14 ?_
    simp (disch := omega) only [eng, c_X6_findWed, r_X6_findWed, tbl, true_and, Nat.reduceAdd, Nat.reduceLT, ↓reduceIte, n_eq, n_lt, n_le, n_cl, n_inT, nI_add, bI_eq0, bI_eq1, not_true_eq_false, not_false_eq_true, true_implies, false_implies, implies_true, and_true, Bool.not_eq_false, Bool.not_eq_true, Nat.reduceEqDiff, Nat.reduceLeDiff, Classical.not_not, List.length_cons, List.length_nil, Int.reduceAdd, z_cast, Nat.reducePow, false_or, Nat.reduceLT, Nat.sub_zero, Nat.le_refl, h0]
    try simp only [iteP, Classical.not_not, Bool.not_eq_false, Bool.not_eq_true]
    refine m_brings1 hC1 hE1 (by omega) e9 (fun σ2 hE2 hf2 => ?_)
    have fw : FrW σ0 σ2 := (hF.trans (FrW_one (Or.inr rfl) g2)).trans hf2.w
    have e92 : σ2 929 0 = nI a := by rw [hf2.1 929 (by decide) (by decide)]; exact e9
    cases z : brM E (some a) none t h d N with
    | true =>
      rw [if_pos z] at hR
      simp (disch := omega) only [n_eq, n_lt, n_le, n_cl, n_inT, nI_add, bI_eq0, bI_eq1, not_true_eq_false, not_false_eq_true, true_implies, false_implies, implies_true, and_true, Bool.not_eq_false, Bool.not_eq_true, Nat.reduceEqDiff, Nat.reduceLeDiff, Classical.not_not, List.length_cons, List.length_nil, Int.reduceAdd, z_cast, Nat.reducePow, false_or, Nat.reduceLT, Nat.sub_zero, Nat.le_refl, true_and, ↓reduceIte, iteP, Bool.true_eq_false]
      exact hK a hR.symm σ2 hE2 fw e92
    | false =>
      rw [if_neg (by rw [z]; decide)] at hR
      simp (disch := omega) only [n_eq, n_lt, n_le, n_cl, n_inT, nI_add, bI_eq0, bI_eq1, not_true_eq_false, not_false_eq_true, true_implies, false_implies, implies_true, and_true, Bool.not_eq_false, Bool.not_eq_true, Nat.reduceEqDiff, Nat.reduceLeDiff, Classical.not_not, List.length_cons, List.length_nil, Int.reduceAdd, z_cast, Nat.reducePow, false_or, Nat.reduceLT, Nat.sub_zero, Nat.le_refl, true_and, ↓reduceIte, iteP, Bool.false_eq_true]
      exact lp_w1 l hN hK n (a + 1) σ2 v6 (by omega) hR hE2 (hC1.fr (hf2.1 928 (by decide) (by decide)) (hf2.1 921 (by decide) (by decide))) fw
theorem brM_can {E : Es} {q t h N : Nat} {o : Option Nat} {d : Nat → Int32} (hc : can E (q / 12) (q % 12) = false) : brM E (some q) o t h d N = false := by
  unfold brM
  rw [brE_can hc, Bool.and_false]
theorem lp_w3 (l : Launch) {N t h at' a : Nat} {d : Nat → Int32} {R : Option Nat} {E : Es} {σ0 : St} {K : Int32 → St → Prop} (ha : a < 144) (hc : can E (a / 12) (a % 12) = true)
    (hN : R = none → ∀ (σ : St) (v6 : Value), ME E σ → BrC E N t h at' d σ → FrW σ0 σ → V l i_X6_findWed k_X6_findWed 70 [.ref 900, .int (nI t), .int (nI h), .int (nI at'), .int (nI N), .int (nI a), v6] [] σ K)
    (hK : ∀ b, R = some b → ∀ σ', ME E σ' → FrW σ0 σ' → σ' 929 0 = nI a → σ' 929 1 = nI b → K (nI 2) σ') : ∀ (n b : Nat) (σ : St), b + n = 144 → fs (fun b => brM E (some a) (some b) t h d N) n b = R → ME E σ → BrC E N t h at' d σ → FrW σ0 σ → V l i_X6_findWed k_X6_findWed 41 [.ref 900, .int (nI t), .int (nI h), .int (nI at'), .int (nI N), .int (nI a), .int (nI b)] [] σ K
  | 0, b, σ, hb, hR, hE, hC, hF => by
    have hb : b = 144 := by omega
    subst hb
    refine V_run ok_X6_findWed 3 41 ?_
    simp (disch := omega) only [eng, c_X6_findWed, r_X6_findWed, tbl, true_and, Nat.reduceAdd, Nat.reduceLT, ↓reduceIte, n_eq, n_lt, n_le, n_cl, n_inT, nI_add, bI_eq0, bI_eq1, not_true_eq_false, not_false_eq_true, true_implies, false_implies, implies_true, and_true, Bool.not_eq_false, Bool.not_eq_true, Nat.reduceEqDiff, Nat.reduceLeDiff, Classical.not_not, List.length_cons, List.length_nil, Int.reduceAdd, z_cast, Nat.reducePow, false_or, Nat.reduceLT, Nat.sub_zero, Nat.le_refl]
    try simp only [iteP, Classical.not_not, Bool.not_eq_false, Bool.not_eq_true]
    exact hN hR.symm σ _ hE hC hF
  | n + 1, b, σ, hb, hR, hE, hC, hF => by
    have h0 : ¬ 144 ≤ b := by omega
    have g2 : ∀ k, k ≠ 929 → wr (wr σ 929 0 (nI a)) 929 1 (nI b) k = σ k := fun k hk => by rw [wr_ne k hk, wr_ne k hk]
    have hE1 : ME E (wr (wr σ 929 0 (nI a)) 929 1 (nI b)) := ME_one hE (by decide) g2
    have hC1 : BrC E N t h at' d (wr (wr σ 929 0 (nI a)) 929 1 (nI b)) := hC.fr (g2 928 (by decide)) (g2 921 (by decide))
    have e9 : wr (wr σ 929 0 (nI a)) 929 1 (nI b) 929 0 = nI a := by simp [wr_at]
    have e9b : wr (wr σ 929 0 (nI a)) 929 1 (nI b) 929 1 = nI b := by simp [wr_at]
    unfold fs at hR
    refine V_run ok_X6_findWed 60 41 ?_
    simp (disch := omega) only [eng, c_X6_findWed, r_X6_findWed, tbl, true_and, Nat.reduceAdd, Nat.reduceLT, ↓reduceIte, n_eq, n_lt, n_le, n_cl, n_inT, nI_add, bI_eq0, bI_eq1, not_true_eq_false, not_false_eq_true, true_implies, false_implies, implies_true, and_true, Bool.not_eq_false, Bool.not_eq_true, Nat.reduceEqDiff, Nat.reduceLeDiff, Classical.not_not, List.length_cons, List.length_nil, Int.reduceAdd, z_cast, Nat.reducePow, false_or, Nat.reduceLT, Nat.sub_zero, Nat.le_refl, h0]
    try simp only [iteP, Classical.not_not, Bool.not_eq_false, Bool.not_eq_true]
    refine m_canPair hC.1 hE ha ?_
    rw [hc]
    simp (disch := omega) only [n_eq, n_lt, n_le, n_cl, n_inT, nI_add, bI_eq0, bI_eq1, not_true_eq_false, not_false_eq_true, true_implies, false_implies, implies_true, and_true, Bool.not_eq_false, Bool.not_eq_true, Nat.reduceEqDiff, Nat.reduceLeDiff, Classical.not_not, List.length_cons, List.length_nil, Int.reduceAdd, z_cast, Nat.reducePow, false_or, Nat.reduceLT, Nat.sub_zero, Nat.le_refl, true_and, ↓reduceIte, iteP, Bool.true_eq_false]
    refine m_brings2 hC1 hE1 ha (by omega) e9 e9b (fun σ2 hE2 hf2 => ?_)
    have fw : FrW σ0 σ2 := (hF.trans (FrW_one (Or.inr rfl) g2)).trans hf2.w
    have e92 : σ2 929 0 = nI a := by rw [hf2.1 929 (by decide) (by decide)]; exact e9
    have e93 : σ2 929 1 = nI b := by rw [hf2.1 929 (by decide) (by decide)]; exact e9b
    cases z : brM E (some a) (some b) t h d N with
    | true =>
      rw [if_pos z] at hR
      simp (disch := omega) only [n_eq, n_lt, n_le, n_cl, n_inT, nI_add, bI_eq0, bI_eq1, not_true_eq_false, not_false_eq_true, true_implies, false_implies, implies_true, and_true, Bool.not_eq_false, Bool.not_eq_true, Nat.reduceEqDiff, Nat.reduceLeDiff, Classical.not_not, List.length_cons, List.length_nil, Int.reduceAdd, z_cast, Nat.reducePow, false_or, Nat.reduceLT, Nat.sub_zero, Nat.le_refl, true_and, ↓reduceIte, iteP, Bool.true_eq_false]
      exact hK b hR.symm σ2 hE2 fw e92 e93
    | false =>
      rw [if_neg (by rw [z]; decide)] at hR
      simp (disch := omega) only [n_eq, n_lt, n_le, n_cl, n_inT, nI_add, bI_eq0, bI_eq1, not_true_eq_false, not_false_eq_true, true_implies, false_implies, implies_true, and_true, Bool.not_eq_false, Bool.not_eq_true, Nat.reduceEqDiff, Nat.reduceLeDiff, Classical.not_not, List.length_cons, List.length_nil, Int.reduceAdd, z_cast, Nat.reducePow, false_or, Nat.reduceLT, Nat.sub_zero, Nat.le_refl, true_and, ↓reduceIte, iteP, Bool.false_eq_true]
      exact lp_w3 l ha hc hN hK n (b + 1) σ2 (by omega) hR hE2 (hC1.fr (hf2.1 928 (by decide) (by decide)) (hf2.1 921 (by decide) (by decide))) fw
theorem lp_w2 (l : Launch) {N t h at' : Nat} {d : Nat → Int32} {R : Option (Nat × Nat)} {E : Es} {σ0 : St} {K : Int32 → St → Prop}
    (hN : R = none → ∀ σ', ME E σ' → FrW σ0 σ' → K (-4) σ')
    (hK : ∀ a b, R = some (a, b) → ∀ σ', ME E σ' → FrW σ0 σ' → σ' 929 0 = nI a → σ' 929 1 = nI b → K (nI 2) σ') : ∀ (n a : Nat) (σ : St) (v6 : Value), a + n = 144 → fs2 (fun a b => brM E (some a) (some b) t h d N) n a = R → ME E σ → BrC E N t h at' d σ → FrW σ0 σ → V l i_X6_findWed k_X6_findWed 36 [.ref 900, .int (nI t), .int (nI h), .int (nI at'), .int (nI N), .int (nI a), v6] [] σ K
  | 0, a, σ, v6, ha, hR, hE, hC, hF => by
    have ha : a = 144 := by omega
    subst ha
    refine V_run ok_X6_findWed 60 36 ?_
    simp (disch := omega) only [eng, c_X6_findWed, r_X6_findWed, tbl, true_and, Nat.reduceAdd, Nat.reduceLT, ↓reduceIte, n_eq, n_lt, n_le, n_cl, n_inT, nI_add, bI_eq0, bI_eq1, not_true_eq_false, not_false_eq_true, true_implies, false_implies, implies_true, and_true, Bool.not_eq_false, Bool.not_eq_true, Nat.reduceEqDiff, Nat.reduceLeDiff, Classical.not_not, List.length_cons, List.length_nil, Int.reduceAdd, z_cast, Nat.reducePow, false_or, Nat.reduceLT, Nat.sub_zero, Nat.le_refl]
    try simp only [iteP, Classical.not_not, Bool.not_eq_false, Bool.not_eq_true]
    exact hN hR.symm σ hE hF
  | n + 1, a, σ, v6, ha, hR, hE, hC, hF => by
    have h0 : ¬ 144 ≤ a := by omega
    unfold fs2 at hR
    have next : fs (fun b => brM E (some a) (some b) t h d N) 144 0 = none → ∀ (σ2 : St) (v6 : Value), ME E σ2 → BrC E N t h at' d σ2 → FrW σ0 σ2 → V l i_X6_findWed k_X6_findWed 70 [.ref 900, .int (nI t), .int (nI h), .int (nI at'), .int (nI N), .int (nI a), v6] [] σ2 K := fun z σ2 v6 hE2 hC2 hF2 => by
      rw [z] at hR
      refine V_run ok_X6_findWed 20 70 ?_
      simp (disch := omega) only [eng, c_X6_findWed, r_X6_findWed, tbl, true_and, Nat.reduceAdd, Nat.reduceLT, ↓reduceIte, n_eq, n_lt, n_le, n_cl, n_inT, nI_add, bI_eq0, bI_eq1, not_true_eq_false, not_false_eq_true, true_implies, false_implies, implies_true, and_true, Bool.not_eq_false, Bool.not_eq_true, Nat.reduceEqDiff, Nat.reduceLeDiff, Classical.not_not, List.length_cons, List.length_nil, Int.reduceAdd, z_cast, Nat.reducePow, false_or, Nat.reduceLT, Nat.sub_zero, Nat.le_refl]
      try simp only [iteP, Classical.not_not, Bool.not_eq_false, Bool.not_eq_true]
      exact lp_w2 l hN hK n (a + 1) σ2 v6 (by omega) hR hE2 hC2 hF2
    refine V_run ok_X6_findWed 20 36 ?_
    simp (disch := omega) only [eng, c_X6_findWed, r_X6_findWed, tbl, true_and, Nat.reduceAdd, Nat.reduceLT, ↓reduceIte, n_eq, n_lt, n_le, n_cl, n_inT, nI_add, bI_eq0, bI_eq1, not_true_eq_false, not_false_eq_true, true_implies, false_implies, implies_true, and_true, Bool.not_eq_false, Bool.not_eq_true, Nat.reduceEqDiff, Nat.reduceLeDiff, Classical.not_not, List.length_cons, List.length_nil, Int.reduceAdd, z_cast, Nat.reducePow, false_or, Nat.reduceLT, Nat.sub_zero, Nat.le_refl, h0]
    try simp only [iteP, Classical.not_not, Bool.not_eq_false, Bool.not_eq_true]
    cases hc : can E (a / 12) (a % 12) with
    | true =>
      refine lp_w3 l (by omega) hc next (fun b hb σ' hE' hF' e1 e2 => ?_) 144 0 σ (by omega) rfl hE hC hF
      rw [hb] at hR
      exact hK a b hR.symm σ' hE' hF' e1 e2
    | false =>
      have z : fs (fun b => brM E (some a) (some b) t h d N) 144 0 = none := fs_none 144 0 (fun b => brM_can hc)
      refine V_run ok_X6_findWed 20 41 ?_
      simp (disch := omega) only [eng, c_X6_findWed, r_X6_findWed, tbl, true_and, Nat.reduceAdd, Nat.reduceLT, ↓reduceIte, n_eq, n_lt, n_le, n_cl, n_inT, nI_add, bI_eq0, bI_eq1, not_true_eq_false, not_false_eq_true, true_implies, false_implies, implies_true, and_true, Bool.not_eq_false, Bool.not_eq_true, Nat.reduceEqDiff, Nat.reduceLeDiff, Classical.not_not, List.length_cons, List.length_nil, Int.reduceAdd, z_cast, Nat.reducePow, false_or, Nat.reduceLT, Nat.sub_zero, Nat.le_refl]
      try simp only [iteP, Classical.not_not, Bool.not_eq_false, Bool.not_eq_true]
      refine m_canPair hC.1 hE (by omega) ?_
      rw [hc]
      simp (disch := omega) only [n_eq, n_lt, n_le, n_cl, n_inT, nI_add, bI_eq0, bI_eq1, not_true_eq_false, not_false_eq_true, true_implies, false_implies, implies_true, and_true, Bool.not_eq_false, Bool.not_eq_true, Nat.reduceEqDiff, Nat.reduceLeDiff, Classical.not_not, List.length_cons, List.length_nil, Int.reduceAdd, z_cast, Nat.reducePow, false_or, Nat.reduceLT, Nat.sub_zero, Nat.le_refl, true_and, ↓reduceIte, iteP, Bool.false_eq_true]
      rw [z] at hR
      exact lp_w2 l hN hK n (a + 1) σ _ (by omega) hR hE hC hF
theorem fs2_lt {P : Nat → Nat → Bool} : ∀ {n q a b : Nat}, fs2 P n q = some (a, b) → a < q + n ∧ b < 144
  | 0, _, _, _, h => by cases h
  | n + 1, q, a, b, h => by
    unfold fs2 at h
    split at h
    · rename_i c hc
      have := fs_lt hc
      cases h
      exact ⟨by omega, by omega⟩
    · have := fs2_lt h
      exact ⟨by omega, this.2⟩
def resM (o : Option (List Nat)) : Int32 := match o with | none => -4 | some L => nI L.length
theorem m_findWed {l : Launch} {N t h at' : Nat} {d : Nat → Int32} {E : Es} {σ : St} {K : Int32 → St → Prop} (hW : Wf E) (hE : ME E σ) (hN : N ≤ 8) (ha : at' + N ≤ 96) (ht : t < E 12 1) (hh : h < 12) (hd : ∀ i, i < N → σ 928 (at' + i) = d i)
    (hK : ∀ σ', ME E σ' → FrW σ σ' → (∀ L, wedM E t h d N = some L → (∀ i, i < L.length → σ' 929 i = nI (L.getD i 0)) ∧ L.length ≤ 2 ∧ ∀ i, i < L.length → L.getD i 0 < 144) → K (resM (wedM E t h d N)) σ') : CallAt l 183 [.ref 900, .int (nI t), .int (nI h), .int (nI at'), .int (nI N)] σ K := by
  refine CallAt.of (k := 183) (cd := k_X6_findWed) ok_X6_findWed (by decide) rfl rfl rfl ?_
  show V _ i_X6_findWed k_X6_findWed 0 [.ref 900, .int (nI t), .int (nI h), .int (nI at'), .int (nI N), .null, .null] [] _ _
  refine V_run ok_X6_findWed 60 0 ?_
  simp (disch := omega) only [eng, c_X6_findWed, r_X6_findWed, tbl, true_and, Nat.reduceAdd, Nat.reduceLT, ↓reduceIte, n_eq, n_lt, n_le, n_cl, n_inT, nI_add, bI_eq0, bI_eq1, not_true_eq_false, not_false_eq_true, true_implies, false_implies, implies_true, and_true, Bool.not_eq_false, Bool.not_eq_true, Nat.reduceEqDiff, Nat.reduceLeDiff, Classical.not_not, List.length_cons, List.length_nil, Int.reduceAdd, z_cast, Nat.reducePow, false_or, Nat.reduceLT, Nat.sub_zero, Nat.le_refl]
  try simp only [iteP, Classical.not_not, Bool.not_eq_false, Bool.not_eq_true]
  refine m_keep hW hE (fun σ1 k1 k2 => ?_)
  have hE1 : ME E σ1 := ME_one hE (by decide) k2
  have hC1 : BrC E N t h at' d σ1 := ⟨hW, hN, ha, ht, hh, fun i hi => by rw [k2 928 (by decide)]; exact hd i hi, k1⟩
  refine m_brings0 hC1 hE1 (fun σ2 hE2 hf2 => ?_)
  have fw : FrW σ σ2 := (FrW_one (Or.inl rfl) k2).trans hf2.w
  have hC2 := hC1.fr (hf2.1 928 (by decide) (by decide)) (hf2.1 921 (by decide) (by decide))
  unfold wedM at hK
  cases z : brM E none none t h d N with
  | true =>
    rw [if_pos z] at hK
    simp (disch := omega) only [n_eq, n_lt, n_le, n_cl, n_inT, nI_add, bI_eq0, bI_eq1, not_true_eq_false, not_false_eq_true, true_implies, false_implies, implies_true, and_true, Bool.not_eq_false, Bool.not_eq_true, Nat.reduceEqDiff, Nat.reduceLeDiff, Classical.not_not, List.length_cons, List.length_nil, Int.reduceAdd, z_cast, Nat.reducePow, false_or, Nat.reduceLT, Nat.sub_zero, Nat.le_refl, true_and, ↓reduceIte, iteP, Bool.true_eq_false]
    exact hK σ2 hE2 fw (fun L hL => by cases hL; exact ⟨fun i hi => absurd hi (Nat.not_lt_zero i), by decide, fun i hi => absurd hi (Nat.not_lt_zero i)⟩)
  | false =>
    rw [if_neg (by rw [z]; decide)] at hK
    simp (disch := omega) only [n_eq, n_lt, n_le, n_cl, n_inT, nI_add, bI_eq0, bI_eq1, not_true_eq_false, not_false_eq_true, true_implies, false_implies, implies_true, and_true, Bool.not_eq_false, Bool.not_eq_true, Nat.reduceEqDiff, Nat.reduceLeDiff, Classical.not_not, List.length_cons, List.length_nil, Int.reduceAdd, z_cast, Nat.reducePow, false_or, Nat.reduceLT, Nat.sub_zero, Nat.le_refl, true_and, ↓reduceIte, iteP, Bool.false_eq_true]
    refine lp_w1 l (σ0 := σ) (R := fs (fun q => brM E (some q) none t h d N) 144 0) (fun z1 σ3 v5 v6 hE3 hC3 hF3 => ?_) (fun b z1 σ' hE' hF' e1 => ?_) 144 0 σ2 _ (by omega) rfl hE2 hC2 fw
    · rw [z1] at hK
      dsimp only at hK
      refine V_run ok_X6_findWed 20 34 ?_
      simp (disch := omega) only [eng, c_X6_findWed, r_X6_findWed, tbl, true_and, Nat.reduceAdd, Nat.reduceLT, ↓reduceIte, n_eq, n_lt, n_le, n_cl, n_inT, nI_add, bI_eq0, bI_eq1, not_true_eq_false, not_false_eq_true, true_implies, false_implies, implies_true, and_true, Bool.not_eq_false, Bool.not_eq_true, Nat.reduceEqDiff, Nat.reduceLeDiff, Classical.not_not, List.length_cons, List.length_nil, Int.reduceAdd, z_cast, Nat.reducePow, false_or, Nat.reduceLT, Nat.sub_zero, Nat.le_refl]
      try simp only [iteP, Classical.not_not, Bool.not_eq_false, Bool.not_eq_true]
      refine lp_w2 l (σ0 := σ) (R := fs2 (fun a b => brM E (some a) (some b) t h d N) 144 0) (fun z2 σ' hE' hF' => ?_) (fun a b z2 σ' hE' hF' e1 e2 => ?_) 144 0 σ3 _ (by omega) rfl hE3 hC3 hF3
      · rw [z2] at hK
        exact hK σ' hE' hF' (fun L hL => by cases hL)
      · have hlt := fs2_lt z2
        rw [Nat.zero_add] at hlt
        rw [z2] at hK
        refine hK σ' hE' hF' (fun L hL => ?_)
        cases hL
        refine ⟨fun i hi => ?_, by simp, fun i hi => ?_⟩
        · rcases (show i = 0 ∨ i = 1 by simp at hi; omega) with rfl | rfl
          · exact e1
          · exact e2
        · rcases (show i = 0 ∨ i = 1 by simp at hi; omega) with rfl | rfl
          · exact hlt.1
          · exact hlt.2
    · have hlt := fs_lt z1
      rw [z1] at hK
      refine hK σ' hE' hF' (fun L hL => ?_)
      cases hL
      refine ⟨fun i hi => ?_, by simp, fun i hi => ?_⟩
      · rcases (show i = 0 by simp at hi; omega) with rfl
        exact e1
      · rcases (show i = 0 by simp at hi; omega) with rfl
        show b < 144
        omega
