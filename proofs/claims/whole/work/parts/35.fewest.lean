def FrS (σ σ' : St) : Prop := ∀ k, k ≠ 704 → k < 800 ∨ 815 ≤ k → σ' k = σ k
theorem FrS.trans {σ σ' σ'' : St} (h : FrS σ σ') (h2 : FrS σ' σ'') : FrS σ σ'' := fun k a b => (h2 k a b).trans (h k a b)
def resW (o : Option (List Nat)) : Int32 := match o with | none => -2 | some L => nI L.length
/-- what stays while marriages are tried -/
def SuC (E : Es) (N t h : Nat) (f : Nat → Nat) (σ : St) : Prop := Wf E ∧ XE 100 E σ ∧ N ≤ 8 ∧ t < E 12 1 ∧ h < 12 ∧ σ 700 2 = nI N ∧ (∀ i, i < N → σ 702 i = nI (f i)) ∧ (∀ i, i < N → f i < E 12 0 ∧ dieN E f i 5 (f i) = 1)
theorem SuC.fr {E : Es} {N t h : Nat} {f : Nat → Nat} {σ σ' : St} (hC : SuC E N t h f σ) (hF : FrS σ σ') : SuC E N t h f σ' := by
  obtain ⟨a1, a2, a3, a4, a5, a6, a7, a8⟩ := hC
  exact ⟨a1, a2.frame (fun k h1 h2 => hF k (by omega) (by omega)), a3, a4, a5, by rw [hF 700 (by decide) (by omega)]; exact a6, fun i hi => by rw [hF 702 (by decide) (by omega)]; exact a7 i hi, a8⟩
theorem c_brings {l : Launch} {N t h : Nat} {o1 o2 : Option Nat} {E : Es} {f : Nat → Nat} {σ : St} {K : Int32 → St → Prop} (hC : SuC E N t h f σ) (ho1 : ∀ q, o1 = some q → q < 144) (ho2 : ∀ q, o2 = some q → q < 144)
    (hK : ∀ σ', FrS σ σ' → (brE E o1 o2 t h f N = true → σ' 704 = wdA o2 2 (wdA o1 0 (σ 704))) → K (bI (brE E o1 o2 t h f N)) σ') : CallAt l 51 [.ref 700, .ref 100, .int (oI o1), .int (oI o2), .int (nI t), .int (nI h)] σ K := by
  obtain ⟨a1, a2, a3, a4, a5, a6, a7, a8⟩ := hC
  exact x_brings a1 a2 a3 a4 a5 ho1 ho2 a6 a7 a8 hK
section Few
variable (l : Launch) {N t h : Nat} {E : Es} {f : Nat → Nat} {σ0 : St} {K : Int32 → St → Prop}
theorem lp_few3 {a : Nat} (ha : a < 144) (hC : SuC E N t h f σ0) (h0 : brE E none none t h f N = false) (h1 : fs (fun q => brE E (some q) none t h f N) 144 0 = none)
    (hK : ∀ σ', FrS σ0 σ' → (∀ L, wedE E t h f N = some L → wdL L (σ' 704)) → K (resW (wedE E t h f N)) σ')
    (hS : ∀ b, fs (fun b => brE E (some a) (some b) t h f N) 144 0 = some b → fs2 (fun a b => brE E (some a) (some b) t h f N) 144 0 = some (a, b))
    (hN : fs (fun b => brE E (some a) (some b) t h f N) 144 0 = none → ∀ σ, FrS σ0 σ → V l i_X3_fewest k_X3_fewest 34 [.ref 700, .ref 100, .int (nI t), .int (nI h), .int (nI (a + 1)), .int (nI 144)] [] σ K) :
    ∀ (n b : Nat) (σ : St), b + n = 144 → FrS σ0 σ → fs (fun b => brE E (some a) (some b) t h f N) 144 0 = fs (fun b => brE E (some a) (some b) t h f N) n b → V l i_X3_fewest k_X3_fewest 45 [.ref 700, .ref 100, .int (nI t), .int (nI h), .int (nI a), .int (nI b)] [] σ K
  | 0, b, σ, hb, hF, hs => by
    have hb : b = 144 := by omega
    subst hb
    refine V_run ok_X3_fewest 60 45 ?_
    simp (disch := omega) only [eng, c_X3_fewest, r_X3_fewest, tbl, true_and, Nat.reduceAdd, Nat.reduceLT, ↓reduceIte, n_eq, n_lt, n_le, n_cl, n_inT, nI_add, bI_eq0, bI_eq1, not_true_eq_false, not_false_eq_true, true_implies, false_implies, implies_true, and_true, Bool.not_eq_false, Bool.not_eq_true, Nat.reduceEqDiff, Nat.reduceLeDiff, Classical.not_not, List.length_cons, List.length_nil, Int.reduceAdd, z_cast, Nat.reducePow, false_or, Nat.reduceLT, Nat.sub_zero, Nat.le_refl]
    try simp only [iteP, Classical.not_not, Bool.not_eq_false, Bool.not_eq_true]
    exact hN hs σ hF
  | n + 1, b, σ, hb, hF, hs => by
    have hb1 : ¬ 144 ≤ b := by omega
    have hCs := hC.fr hF
    refine V_run ok_X3_fewest 60 45 ?_
    simp (disch := omega) only [eng, c_X3_fewest, r_X3_fewest, tbl, true_and, Nat.reduceAdd, Nat.reduceLT, ↓reduceIte, n_eq, n_lt, n_le, n_cl, n_inT, nI_add, bI_eq0, bI_eq1, not_true_eq_false, not_false_eq_true, true_implies, false_implies, implies_true, and_true, Bool.not_eq_false, Bool.not_eq_true, Nat.reduceEqDiff, Nat.reduceLeDiff, Classical.not_not, List.length_cons, List.length_nil, Int.reduceAdd, z_cast, Nat.reducePow, false_or, Nat.reduceLT, Nat.sub_zero, Nat.le_refl, hb1]
    try simp only [iteP, Classical.not_not, Bool.not_eq_false, Bool.not_eq_true]
    refine x_isPair hCs.1 hCs.2.1 (by omega) ?_
    unfold fs at hs
    simp (disch := omega) only [n_eq, n_lt, n_le, n_cl, n_inT, nI_add, bI_eq0, bI_eq1, not_true_eq_false, not_false_eq_true, true_implies, false_implies, implies_true, and_true, Bool.not_eq_false, Bool.not_eq_true, Nat.reduceEqDiff, Nat.reduceLeDiff, Classical.not_not, List.length_cons, List.length_nil, Int.reduceAdd, z_cast, Nat.reducePow, false_or, Nat.reduceLT, Nat.sub_zero, Nat.le_refl, true_and, ↓reduceIte, iteP]
    refine ⟨fun hc => ?_, fun hc => ?_⟩
    · rw [brE_can2 hC.1 ha hc] at hs
      exact lp_few3 ha hC h0 h1 hK hS hN n (b + 1) σ (by omega) hF hs
    · refine c_brings (o1 := some a) (o2 := some b) hCs (fun q z => by cases z; exact ha) (fun q z => by cases z; omega) (fun σ1 hF1 hw1 => ?_)
      simp (disch := omega) only [n_eq, n_lt, n_le, n_cl, n_inT, nI_add, bI_eq0, bI_eq1, not_true_eq_false, not_false_eq_true, true_implies, false_implies, implies_true, and_true, Bool.not_eq_false, Bool.not_eq_true, Nat.reduceEqDiff, Nat.reduceLeDiff, Classical.not_not, List.length_cons, List.length_nil, Int.reduceAdd, z_cast, Nat.reducePow, false_or, Nat.reduceLT, Nat.sub_zero, Nat.le_refl, true_and, ↓reduceIte, iteP]
      refine ⟨fun hz => ?_, fun hz => ?_⟩
      · rw [hz] at hs
        exact lp_few3 ha hC h0 h1 hK hS hN n (b + 1) σ1 (by omega) (hF.trans hF1) hs
      · rw [hz, if_pos rfl] at hs
        have e : wedE E t h f N = some [a, b] := by
          unfold wedE
          rw [h0, h1, hS b hs]; rfl
        have hq := hK σ1 (hF.trans hF1) (fun L hL => by
          rw [e] at hL; cases hL
          intro i hi
          rw [hw1 hz]
          have : i = 0 ∨ i = 1 := by simp at hi; omega
          rcases this with rfl | rfl <;> simp [wdA, upd])
        rw [e] at hq
        exact hq
theorem lp_few2 (hC : SuC E N t h f σ0) (h0 : brE E none none t h f N = false) (h1 : fs (fun q => brE E (some q) none t h f N) 144 0 = none)
    (hK : ∀ σ', FrS σ0 σ' → (∀ L, wedE E t h f N = some L → wdL L (σ' 704)) → K (resW (wedE E t h f N)) σ') : ∀ (n a : Nat) (σ : St), a + n = 144 → FrS σ0 σ → fs2 (fun a b => brE E (some a) (some b) t h f N) 144 0 = fs2 (fun a b => brE E (some a) (some b) t h f N) n a → ∀ v5 : Value, V l i_X3_fewest k_X3_fewest 34 [.ref 700, .ref 100, .int (nI t), .int (nI h), .int (nI a), v5] [] σ K
  | 0, a, σ, ha, hF, hs, v5 => by
    have ha : a = 144 := by omega
    subst ha
    refine V_run ok_X3_fewest 60 34 ?_
    simp (disch := omega) only [eng, c_X3_fewest, r_X3_fewest, tbl, true_and, Nat.reduceAdd, Nat.reduceLT, ↓reduceIte, n_eq, n_lt, n_le, n_cl, n_inT, nI_add, bI_eq0, bI_eq1, not_true_eq_false, not_false_eq_true, true_implies, false_implies, implies_true, and_true, Bool.not_eq_false, Bool.not_eq_true, Nat.reduceEqDiff, Nat.reduceLeDiff, Classical.not_not, List.length_cons, List.length_nil, Int.reduceAdd, z_cast, Nat.reducePow, false_or, Nat.reduceLT, Nat.sub_zero, Nat.le_refl]
    try simp only [iteP, Classical.not_not, Bool.not_eq_false, Bool.not_eq_true]
    have e : wedE E t h f N = none := by
      unfold wedE
      rw [h0, h1, hs]; rfl
    have hq := hK σ hF (fun L hL => by rw [e] at hL; cases hL)
    rw [e] at hq
    exact hq
  | n + 1, a, σ, ha, hF, hs, v5 => by
    have ha1 : ¬ 144 ≤ a := by omega
    have hCs := hC.fr hF
    refine V_run ok_X3_fewest 60 34 ?_
    simp (disch := omega) only [eng, c_X3_fewest, r_X3_fewest, tbl, true_and, Nat.reduceAdd, Nat.reduceLT, ↓reduceIte, n_eq, n_lt, n_le, n_cl, n_inT, nI_add, bI_eq0, bI_eq1, not_true_eq_false, not_false_eq_true, true_implies, false_implies, implies_true, and_true, Bool.not_eq_false, Bool.not_eq_true, Nat.reduceEqDiff, Nat.reduceLeDiff, Classical.not_not, List.length_cons, List.length_nil, Int.reduceAdd, z_cast, Nat.reducePow, false_or, Nat.reduceLT, Nat.sub_zero, Nat.le_refl, ha1]
    try simp only [iteP, Classical.not_not, Bool.not_eq_false, Bool.not_eq_true]
    refine x_isPair hCs.1 hCs.2.1 (by omega) ?_
    unfold fs2 at hs
    simp (disch := omega) only [n_eq, n_lt, n_le, n_cl, n_inT, nI_add, bI_eq0, bI_eq1, not_true_eq_false, not_false_eq_true, true_implies, false_implies, implies_true, and_true, Bool.not_eq_false, Bool.not_eq_true, Nat.reduceEqDiff, Nat.reduceLeDiff, Classical.not_not, List.length_cons, List.length_nil, Int.reduceAdd, z_cast, Nat.reducePow, false_or, Nat.reduceLT, Nat.sub_zero, Nat.le_refl, true_and, ↓reduceIte, iteP]
    refine ⟨fun hc => ?_, fun hc => ?_⟩
    · refine lp_few3 l (by omega) hC h0 h1 hK (fun b hb => by rw [hb] at hs; exact hs) (fun hb σ1 hF1 => ?_) 144 0 σ (by omega) hF rfl
      rw [hb] at hs
      exact lp_few2 hC h0 h1 hK n (a + 1) σ1 (by omega) hF1 hs _
    · rw [fs_none (P := fun b => brE E (some a) (some b) t h f N) 144 0 (fun b => brE_can hc)] at hs
      exact lp_few2 hC h0 h1 hK n (a + 1) σ (by omega) hF hs _
theorem lp_few1 (hC : SuC E N t h f σ0) (h0 : brE E none none t h f N = false)
    (hK : ∀ σ', FrS σ0 σ' → (∀ L, wedE E t h f N = some L → wdL L (σ' 704)) → K (resW (wedE E t h f N)) σ') : ∀ (n q : Nat) (σ : St), q + n = 144 → FrS σ0 σ → fs (fun q => brE E (some q) none t h f N) 144 0 = fs (fun q => brE E (some q) none t h f N) n q → ∀ v5 : Value, V l i_X3_fewest k_X3_fewest 12 [.ref 700, .ref 100, .int (nI t), .int (nI h), .int (nI q), v5] [] σ K
  | 0, q, σ, hq, hF, hs, v5 => by
    have hq : q = 144 := by omega
    subst hq
    refine V_run ok_X3_fewest 60 12 ?_
    simp (disch := omega) only [eng, c_X3_fewest, r_X3_fewest, tbl, true_and, Nat.reduceAdd, Nat.reduceLT, ↓reduceIte, n_eq, n_lt, n_le, n_cl, n_inT, nI_add, bI_eq0, bI_eq1, not_true_eq_false, not_false_eq_true, true_implies, false_implies, implies_true, and_true, Bool.not_eq_false, Bool.not_eq_true, Nat.reduceEqDiff, Nat.reduceLeDiff, Classical.not_not, List.length_cons, List.length_nil, Int.reduceAdd, z_cast, Nat.reducePow, false_or, Nat.reduceLT, Nat.sub_zero, Nat.le_refl]
    try simp only [iteP, Classical.not_not, Bool.not_eq_false, Bool.not_eq_true]
    exact lp_few2 l hC h0 hs hK 144 0 σ (by omega) hF rfl _
  | n + 1, q, σ, hq, hF, hs, v5 => by
    have hq1 : ¬ 144 ≤ q := by omega
    have hCs := hC.fr hF
    refine V_run ok_X3_fewest 60 12 ?_
    simp (disch := omega) only [eng, c_X3_fewest, r_X3_fewest, tbl, true_and, Nat.reduceAdd, Nat.reduceLT, ↓reduceIte, n_eq, n_lt, n_le, n_cl, n_inT, nI_add, bI_eq0, bI_eq1, not_true_eq_false, not_false_eq_true, true_implies, false_implies, implies_true, and_true, Bool.not_eq_false, Bool.not_eq_true, Nat.reduceEqDiff, Nat.reduceLeDiff, Classical.not_not, List.length_cons, List.length_nil, Int.reduceAdd, z_cast, Nat.reducePow, false_or, Nat.reduceLT, Nat.sub_zero, Nat.le_refl, hq1]
    try simp only [iteP, Classical.not_not, Bool.not_eq_false, Bool.not_eq_true]
    refine x_isPair hCs.1 hCs.2.1 (by omega) ?_
    unfold fs at hs
    simp (disch := omega) only [n_eq, n_lt, n_le, n_cl, n_inT, nI_add, bI_eq0, bI_eq1, not_true_eq_false, not_false_eq_true, true_implies, false_implies, implies_true, and_true, Bool.not_eq_false, Bool.not_eq_true, Nat.reduceEqDiff, Nat.reduceLeDiff, Classical.not_not, List.length_cons, List.length_nil, Int.reduceAdd, z_cast, Nat.reducePow, false_or, Nat.reduceLT, Nat.sub_zero, Nat.le_refl, true_and, ↓reduceIte, iteP]
    refine ⟨fun hc => ?_, fun hc => ?_⟩
    · rw [brE_can hc] at hs
      exact lp_few1 hC h0 hK n (q + 1) σ (by omega) hF hs _
    · refine c_brings (o1 := some q) (o2 := none) hCs (fun q' z => by cases z; omega) (fun q' z => by cases z) (fun σ1 hF1 hw1 => ?_)
      simp (disch := omega) only [n_eq, n_lt, n_le, n_cl, n_inT, nI_add, bI_eq0, bI_eq1, not_true_eq_false, not_false_eq_true, true_implies, false_implies, implies_true, and_true, Bool.not_eq_false, Bool.not_eq_true, Nat.reduceEqDiff, Nat.reduceLeDiff, Classical.not_not, List.length_cons, List.length_nil, Int.reduceAdd, z_cast, Nat.reducePow, false_or, Nat.reduceLT, Nat.sub_zero, Nat.le_refl, true_and, ↓reduceIte, iteP]
      refine ⟨fun hz => ?_, fun hz => ?_⟩
      · rw [hz] at hs
        exact lp_few1 hC h0 hK n (q + 1) σ1 (by omega) (hF.trans hF1) hs _
      · rw [hz, if_pos rfl] at hs
        have e : wedE E t h f N = some [q] := by
          have hs' : fs (fun q => brE E (some q) none t h f N) 144 0 = some q := hs
          unfold wedE
          rw [h0, hs']; rfl
        have hk := hK σ1 (hF.trans hF1) (fun L hL => by
          rw [e] at hL; cases hL
          intro i hi
          rw [hw1 hz]
          have : i = 0 := by simp at hi; omega
          subst this
          simp [wdA, upd])
        rw [e] at hk
        exact hk
end Few
theorem x_fewest {l : Launch} {N t h : Nat} {E : Es} {f : Nat → Nat} {σ : St} {K : Int32 → St → Prop} (hC : SuC E N t h f σ) (hK : ∀ σ', FrS σ σ' → (∀ L, wedE E t h f N = some L → wdL L (σ' 704)) → K (resW (wedE E t h f N)) σ') : CallAt l 49 [.ref 700, .ref 100, .int (nI t), .int (nI h)] σ K := by
  refine CallAt.of (k := 49) (cd := k_X3_fewest) ok_X3_fewest (by decide) rfl rfl rfl ?_
  show V _ i_X3_fewest k_X3_fewest 0 [.ref 700, .ref 100, .int (nI t), .int (nI h), .null, .null] [] _ _
  refine V_run ok_X3_fewest 60 0 ?_
  simp (disch := omega) only [eng, c_X3_fewest, r_X3_fewest, tbl, true_and, Nat.reduceAdd, Nat.reduceLT, ↓reduceIte, n_eq, n_lt, n_le, n_cl, n_inT, nI_add, bI_eq0, bI_eq1, not_true_eq_false, not_false_eq_true, true_implies, false_implies, implies_true, and_true, Bool.not_eq_false, Bool.not_eq_true, Nat.reduceEqDiff, Nat.reduceLeDiff, Classical.not_not, List.length_cons, List.length_nil, Int.reduceAdd, z_cast, Nat.reducePow, false_or, Nat.reduceLT, Nat.sub_zero, Nat.le_refl]
  try simp only [iteP, Classical.not_not, Bool.not_eq_false, Bool.not_eq_true]
  refine c_brings (o1 := none) (o2 := none) hC (fun q z => by cases z) (fun q z => by cases z) (fun σ1 hF1 hw1 => ?_)
  simp (disch := omega) only [n_eq, n_lt, n_le, n_cl, n_inT, nI_add, bI_eq0, bI_eq1, not_true_eq_false, not_false_eq_true, true_implies, false_implies, implies_true, and_true, Bool.not_eq_false, Bool.not_eq_true, Nat.reduceEqDiff, Nat.reduceLeDiff, Classical.not_not, List.length_cons, List.length_nil, Int.reduceAdd, z_cast, Nat.reducePow, false_or, Nat.reduceLT, Nat.sub_zero, Nat.le_refl, true_and, ↓reduceIte, iteP]
  refine ⟨fun hz => ?_, fun hz => ?_⟩
  · exact lp_few1 l hC hz hK 144 0 σ1 (by omega) hF1 rfl _
  · have e : wedE E t h f N = some [] := by unfold wedE; rw [hz]; rfl
    have hk := hK σ1 hF1 (fun L hL => by rw [e] at hL; cases hL; intro i hi; exact absurd hi (Nat.not_lt_zero i))
    rw [e] at hk
    exact hk
