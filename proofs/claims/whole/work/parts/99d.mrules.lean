def apR (E : Es) (kf nf rf : Nat → Nat) : Nat → Es
  | 0 => E
  | k + 1 => setR (apR E kf nf rf k) (kf k) (rf k) (nf k)
theorem apR_cong {E : Es} {kf nf rf kf' nf' rf' : Nat → Nat} : ∀ k, (∀ i, i < k → kf' i = kf i ∧ nf' i = nf i ∧ rf' i = rf i) → apR E kf' nf' rf' k = apR E kf nf rf k
  | 0, _ => rfl
  | k + 1, h => by
    unfold apR
    rw [apR_cong k (fun i hi => h i (by omega)), (h k (by omega)).1, (h k (by omega)).2.1, (h k (by omega)).2.2]
/-- k rules as they are read -/
def RRd (k : Nat) (kf nf rf : Nat → Nat) (σ : St) : Prop := ∀ i, i < k → σ 920 (5 * i) = nI (kf i) ∧ σ 920 (5 * i + 1) = nI (nf i) ∧ (∀ j, j < nf i → σ 920 (5 * i + 2 + j) = nI (rf i / 8 ^ j % 8)) ∧ kf i < 4 ∧ 1 ≤ nf i ∧ nf i ≤ 3 ∧ rowG (rf i) (nf i) 0 0 = true ∧ rf i < 512
theorem rwF_n {tp : Nat → Nat} {ln : Nat} : ∀ (f i r p : Nat), i + f ≤ 3 → r < 8 ^ i → (rwF tp ln f i r p).1 ≤ 3 ∧ (rwF tp ln f i r p).2.1 < 512
  | 0, i, r, p, hi, hr => ⟨by show i ≤ 3; omega, by
      show r < 512
      rcases (show i = 0 ∨ i = 1 ∨ i = 2 ∨ i = 3 by omega) with rfl | rfl | rfl | rfl <;> omega⟩
  | f + 1, i, r, p, hi, hr => by
    unfold rwF
    split
    · rename_i z
      exact rwF_n f (i + 1) _ _ (by omega) (row_lt (by omega) hr (by omega))
    · exact ⟨by show i ≤ 3; omega, by
        show r < 512
        rcases (show i = 0 ∨ i = 1 ∨ i = 2 ∨ i = 3 by omega) with rfl | rfl | rfl | rfl <;> omega⟩
/-- what is known behind the reading of rules: R is what the class reads -/
def RdK (tp : Nat → Nat) (ln : Nat) (E0 : Es) (σ0 : St) (K : Int32 → St → Prop) (R : Bool × Nat × Es × Nat) : Prop := ∀ σ' q', RM tp ln q' σ' → nb tp ln q' = R.2.1 → FrY σ0 σ' → (R.1 = true → ∃ kf nf rf, R.2.2.2 ≤ 4 ∧ RRd R.2.2.2 kf nf rf σ' ∧ R.2.2.1 = apR E0 kf nf rf R.2.2.2 ∧ σ' 900 18 = nI R.2.2.2) → K (bI R.1) σ'
theorem RdK_f {tp : Nat → Nat} {ln p n : Nat} {E E0 : Es} {σ0 : St} {K : Int32 → St → Prop} (h : RdK tp ln E0 σ0 K (false, p, E, n)) : ∀ σ' q', RM tp ln q' σ' → nb tp ln q' = p → FrY σ0 σ' → K (nI 0) σ' := fun σ' q' h1 h2 h3 => h σ' q' h1 h2 h3 (fun z => by cases z)
theorem lp_allR (l : Launch) {tp : Nat → Nat} {ln : Nat} {E0 : Es} {σ0 : St} {K : Int32 → St → Prop} (hw : TpW tp ln) : ∀ (f s k q : Nat) (kf nf rf : Nat → Nat) (σ : St) (v4 : Value), k + f = 4 → 0 < f → RM tp ln q σ → RRd k kf nf rf σ → (∀ x, x < 4 → (s.testBit x = true ↔ ∃ i, i < k ∧ kf i = x)) → FrY σ0 σ → RdK tp ln E0 σ0 K (ruR tp ln f s (apR E0 kf nf rf k) (nb tp ln q)) → V l i_X6_readAll k_X6_readAll 5 [.ref 900, .int (nI 4), .int (nI 59), .int (nI k), v4] [] σ K
  | 0, s, k, q, kf, nf, rf, σ, v4, hf, h0, hS, hR, hs, hF, hK => absurd h0 (Nat.lt_irrefl 0)
  | f + 1, s, k, q, kf, nf, rf, σ, v4, hf, _, hS, hR, hs, hF, hK => by
    have h1 : ¬ 4 ≤ k := by omega
    unfold ruR at hK
    refine V_run ok_X6_readAll 9 5 ?_
    simp (disch := omega) only [eng, c_X6_readAll, r_X6_readAll, tbl, true_and, Nat.reduceAdd, Nat.reduceLT, ↓reduceIte, n_eq, n_lt, n_le, n_cl, n_inT, nI_add, bI_eq0, bI_eq1, not_true_eq_false, not_false_eq_true, true_implies, false_implies, implies_true, and_true, Bool.not_eq_false, Bool.not_eq_true, Nat.reduceEqDiff, Nat.reduceLeDiff, Classical.not_not, List.length_cons, List.length_nil, Int.reduceAdd, z_cast, Nat.reducePow, false_or, Nat.reduceLT, Nat.sub_zero, Nat.le_refl, h1]
    try simp only [iteP, Classical.not_not, Bool.not_eq_false, Bool.not_eq_true]
    refine m_readRule hw hS (by omega) (fun i hi => ⟨(hR i hi).1, (hR i hi).2.2.2.1⟩) hs (fun z σ1 q1 g1 g2 g3 => ?_) (fun z z2 σ1 q1 g1 g2 g3 => ?_) (fun z z2 W hW z3 σ1 q1 g1 g2 g3 => ?_) (fun z z2 W hW z3 σ1 q1 g1 g2 g3 c1 c2 c3 c4 => ?_)
    · rw [if_neg z] at hK
      refine V_run ok_X6_readAll 10 19 ?_
      simp (disch := omega) only [eng, c_X6_readAll, r_X6_readAll, tbl, true_and, Nat.reduceAdd, Nat.reduceLT, ↓reduceIte, n_eq, n_lt, n_le, n_cl, n_inT, nI_add, bI_eq0, bI_eq1, not_true_eq_false, not_false_eq_true, true_implies, false_implies, implies_true, and_true, Bool.not_eq_false, Bool.not_eq_true, Nat.reduceEqDiff, Nat.reduceLeDiff, Classical.not_not, List.length_cons, List.length_nil, Int.reduceAdd, z_cast, Nat.reducePow, false_or, Nat.reduceLT, Nat.sub_zero, Nat.le_refl]
      try simp only [iteP, Classical.not_not, Bool.not_eq_false, Bool.not_eq_true]
      exact RdK_f hK σ1 q1 g1 g2 (hF.trans g3)
    · rw [if_pos z, if_neg z2] at hK
      refine V_run ok_X6_readAll 10 19 ?_
      simp (disch := omega) only [eng, c_X6_readAll, r_X6_readAll, tbl, true_and, Nat.reduceAdd, Nat.reduceLT, ↓reduceIte, n_eq, n_lt, n_le, n_cl, n_inT, nI_add, bI_eq0, bI_eq1, not_true_eq_false, not_false_eq_true, true_implies, false_implies, implies_true, and_true, Bool.not_eq_false, Bool.not_eq_true, Nat.reduceEqDiff, Nat.reduceLeDiff, Classical.not_not, List.length_cons, List.length_nil, Int.reduceAdd, z_cast, Nat.reducePow, false_or, Nat.reduceLT, Nat.sub_zero, Nat.le_refl]
      try simp only [iteP, Classical.not_not, Bool.not_eq_false, Bool.not_eq_true]
      exact RdK_f hK σ1 q1 g1 g2 (hF.trans g3)
    · rw [if_pos z, if_pos z2, hW] at hK
      refine V_run ok_X6_readAll 10 19 ?_
      simp (disch := omega) only [eng, c_X6_readAll, r_X6_readAll, tbl, true_and, Nat.reduceAdd, Nat.reduceLT, ↓reduceIte, n_eq, n_lt, n_le, n_cl, n_inT, nI_add, bI_eq0, bI_eq1, not_true_eq_false, not_false_eq_true, true_implies, false_implies, implies_true, and_true, Bool.not_eq_false, Bool.not_eq_true, Nat.reduceEqDiff, Nat.reduceLeDiff, Classical.not_not, List.length_cons, List.length_nil, Int.reduceAdd, z_cast, Nat.reducePow, false_or, Nat.reduceLT, Nat.sub_zero, Nat.le_refl]
      try simp only [iteP, Classical.not_not, Bool.not_eq_false, Bool.not_eq_true]
      by_cases y : W.1 = 0
      · rw [if_pos y] at hK
        exact RdK_f hK σ1 q1 g1 g2 (hF.trans g3)
      · have z4 : 48 ≤ cN tp ln W.2.2 ∧ cN tp ln W.2.2 ≤ 57 := by
          rcases z3 with x | x
          · exact absurd x y
          · exact x
        rw [if_neg y, if_neg (by omega), if_pos (Or.inr (by omega))] at hK
        exact RdK_f hK σ1 q1 g1 g2 (hF.trans g3)
    · rw [if_pos z, if_pos z2, hW, if_neg (fun x => z3 (Or.inl x))] at hK
      have hn := rwF_n (tp := tp) (ln := ln) 3 0 0 (nb tp ln (nb tp ln (nb tp ln q + 1) + 1)) (by decide) (by decide)
      have hok := rwF_ok (tp := tp) (ln := ln) 3 0 0 (nb tp ln (nb tp ln (nb tp ln q + 1) + 1)) (by decide) (Or.inl rfl)
      rw [hW] at hn hok
      obtain ⟨n, r, p⟩ := W
      dsimp only at *
      have n0 : n ≠ 0 := fun x => z3 (Or.inl x)
      have hrow : rowG r n 0 0 = true := by
        rcases hok with x | x
        · exact absurd x n0
        · exact x
      have kd4 := z.1
      have hseen := z.2
      generalize kd (cN tp ln (nb tp ln q)) = kk at *
      have eap : apR E0 (fun i => if i = k then kk else kf i) (fun i => if i = k then n else nf i) (fun i => if i = k then r else rf i) (k + 1) = setR (apR E0 kf nf rf k) kk r n := by
        show setR (apR E0 _ _ _ k) _ _ _ = _
        rw [apR_cong (kf := kf) (nf := nf) (rf := rf) k (fun i hi => by simp [show ¬ i = k by omega])]
        simp
      rw [← eap] at hK
      refine V_run ok_X6_readAll 8 19 ?_
      simp (disch := omega) only [eng, c_X6_readAll, r_X6_readAll, tbl, true_and, Nat.reduceAdd, Nat.reduceLT, ↓reduceIte, n_eq, n_lt, n_le, n_cl, n_inT, nI_add, bI_eq0, bI_eq1, not_true_eq_false, not_false_eq_true, true_implies, false_implies, implies_true, and_true, Bool.not_eq_false, Bool.not_eq_true, Nat.reduceEqDiff, Nat.reduceLeDiff, Classical.not_not, List.length_cons, List.length_nil, Int.reduceAdd, z_cast, Nat.reducePow, false_or, Nat.reduceLT, Nat.sub_zero, Nat.le_refl]
      try simp only [iteP, Classical.not_not, Bool.not_eq_false, Bool.not_eq_true]
      have hS2 := g1.r8 (v := nI (k + 1))
      have hF2 := (hF.trans g3).r8 (v := nI (k + 1))
      refine m_nextB hw hS2 ?_
      have hp := nb_le (tp := tp) g1.2.2.2
      have hnn := nb_nb (tp := tp) g1.2.2.2
      rw [g2] at hnn hp ⊢
      have hS3 := hS2.pl hp.2
      have hF3 := hF2.pl (v := nI p)
      have hRR : ∀ v, RRd (k + 1) (fun i => if i = k then kk else kf i) (fun i => if i = k then n else nf i) (fun i => if i = k then r else rf i) (wr (wr σ1 900 18 (nI (k + 1))) 900 17 v) := fun v i hi => by
        rw [wr_ne 920 (by decide), wr_ne 920 (by decide)]
        by_cases x : i = k
        · subst x
          simp only [if_true]
          exact ⟨c1, c2, c3, kd4, by omega, hn.1, hrow, hn.2⟩
        · simp only [x, if_false]
          have b := hR i (by omega)
          refine ⟨by rw [c4 _ (by omega)]; exact b.1, by rw [c4 _ (by omega)]; exact b.2.1, fun j hj => ?_, b.2.2.2⟩
          have := b.2.2.2.2.2.1
          rw [c4 _ (by omega)]; exact b.2.2.1 j hj
      have f18 : ∀ v, wr (wr σ1 900 18 (nI (k + 1))) 900 17 v 900 18 = nI (k + 1) := fun v => by simp [wr_at]
      rcases cZ_c hw p with ⟨d1, d2, d3⟩ | ⟨d1, d2, d3, d4⟩
      · rw [if_pos d2, show 4 - f = k + 1 by omega] at hK
        have neg : ¬ nI 0 ≤ (-1 : Int32) := by decide
        rw [d1]
        refine V_run ok_X6_readAll 10 29 ?_
        simp (disch := omega) only [eng, c_X6_readAll, r_X6_readAll, tbl, true_and, Nat.reduceAdd, Nat.reduceLT, ↓reduceIte, n_eq, n_lt, n_le, n_cl, n_inT, nI_add, bI_eq0, bI_eq1, not_true_eq_false, not_false_eq_true, true_implies, false_implies, implies_true, and_true, Bool.not_eq_false, Bool.not_eq_true, Nat.reduceEqDiff, Nat.reduceLeDiff, Classical.not_not, List.length_cons, List.length_nil, Int.reduceAdd, z_cast, Nat.reducePow, false_or, Nat.reduceLT, Nat.sub_zero, Nat.le_refl, neg]
        try simp only [iteP, Classical.not_not, Bool.not_eq_false, Bool.not_eq_true]
        exact hK _ p hS3 hnn hF3 (fun _ => ⟨_, _, _, by show k + 1 ≤ 4; omega, hRR _, rfl, f18 _⟩)
      · rw [if_neg (by omega)] at hK
        rw [d1]
        by_cases y : cN tp ln p = 59
        case neg =>
          rw [if_pos (Or.inr y)] at hK
          refine V_run ok_X6_readAll 20 29 ?_
          simp (disch := omega) only [eng, c_X6_readAll, r_X6_readAll, tbl, true_and, Nat.reduceAdd, Nat.reduceLT, ↓reduceIte, n_eq, n_lt, n_le, n_cl, n_inT, nI_add, bI_eq0, bI_eq1, not_true_eq_false, not_false_eq_true, true_implies, false_implies, implies_true, and_true, Bool.not_eq_false, Bool.not_eq_true, Nat.reduceEqDiff, Nat.reduceLeDiff, Classical.not_not, List.length_cons, List.length_nil, Int.reduceAdd, z_cast, Nat.reducePow, false_or, Nat.reduceLT, Nat.sub_zero, Nat.le_refl, Nat.zero_le, y]
          try simp only [iteP, Classical.not_not, Bool.not_eq_false, Bool.not_eq_true]
          exact RdK_f hK _ p hS3 hnn hF3
        · have e11 := pk_sub (a := 4) (b := 1) (by decide)
          by_cases y2 : f = 0
          · rw [if_pos (Or.inl y2)] at hK
            have y3 : k = 3 := by omega
            subst y3
            refine V_run ok_X6_readAll 30 29 ?_
            simp (disch := omega) only [eng, c_X6_readAll, r_X6_readAll, tbl, true_and, Nat.reduceAdd, Nat.reduceLT, ↓reduceIte, n_eq, n_lt, n_le, n_cl, n_inT, nI_add, bI_eq0, bI_eq1, not_true_eq_false, not_false_eq_true, true_implies, false_implies, implies_true, and_true, Bool.not_eq_false, Bool.not_eq_true, Nat.reduceEqDiff, Nat.reduceLeDiff, Classical.not_not, List.length_cons, List.length_nil, Int.reduceAdd, z_cast, Nat.reducePow, false_or, Nat.reduceLT, Nat.sub_zero, Nat.le_refl, Nat.zero_le, y, e11, Nat.reduceSub]
            try simp only [iteP, Classical.not_not, Bool.not_eq_false, Bool.not_eq_true]
            exact RdK_f hK _ p hS3 hnn hF3
          · rw [if_neg (fun z => by rcases z with z | z; exact y2 z; exact z y)] at hK
            have y3 : ¬ k = 3 := by omega
            refine V_run ok_X6_readAll 30 29 ?_
            simp (disch := omega) only [eng, c_X6_readAll, r_X6_readAll, tbl, true_and, Nat.reduceAdd, Nat.reduceLT, ↓reduceIte, n_eq, n_lt, n_le, n_cl, n_inT, nI_add, bI_eq0, bI_eq1, not_true_eq_false, not_false_eq_true, true_implies, false_implies, implies_true, and_true, Bool.not_eq_false, Bool.not_eq_true, Nat.reduceEqDiff, Nat.reduceLeDiff, Classical.not_not, List.length_cons, List.length_nil, Int.reduceAdd, z_cast, Nat.reducePow, false_or, Nat.reduceLT, Nat.sub_zero, Nat.le_refl, Nat.zero_le, y, e11, y3, Nat.reduceSub, wrq, wr_wr]
            try simp only [iteP, Classical.not_not, Bool.not_eq_false, Bool.not_eq_true]
            refine lp_allR l (σ0 := σ0) (K := K) (E0 := E0) hw f (s ||| 2 ^ kk) (k + 1) (p + 1) _ _ _ _ _ (by omega) (by omega) (hS2.pl (by omega)) (hRR _) (fun x hx => ?_) hF2.pl hK
            rw [Nat.testBit_or, tb_2]
            constructor
            · intro h
              rw [Bool.or_eq_true, decide_eq_true_eq] at h
              rcases h with h | h
              · obtain ⟨i, hi, he⟩ := (hs x hx).mp h
                exact ⟨i, by omega, by simp only [show ¬ i = k by omega, if_false]; exact he⟩
              · exact ⟨k, by omega, by simp only [if_true]; exact h⟩
            · rintro ⟨i, hi, he⟩
              rw [Bool.or_eq_true, decide_eq_true_eq]
              by_cases w : i = k
              · simp only [w, if_true] at he
                exact Or.inr he
              · simp only [w, if_false] at he
                exact Or.inl ((hs x hx).mpr ⟨i, by omega, he⟩)
theorem Wf_apR {E : Es} {kf nf rf : Nat → Nat} (hW : Wf E) : ∀ k, (∀ i, i < k → kf i < 4 ∧ 1 ≤ nf i ∧ nf i ≤ 3 ∧ rowG (rf i) (nf i) 0 0 = true) → Wf (apR E kf nf rf k)
  | 0, _ => hW
  | k + 1, h => Wf_setR (Wf_apR hW k (fun i hi => h i (by omega))) (h k (by omega)).1 (h k (by omega)).2.1 (h k (by omega)).2.2.1 (h k (by omega)).2.2.2
theorem lp_rul2 (l : Launch) {k kk r n : Nat} {v1 : Int32} {σ0 : St} {K : Int32 → St → Prop} (hk : k ≤ 3) (hkk : kk < 4) (hn : n ≤ 3) (hd : ∀ j, j < n → σ0 920 (5 * k + 2 + j) = nI (r / 8 ^ j % 8)) (h14 : σ0 914 kk = nI n) (hN : ∀ σ', (∀ j, j < n → σ' 913 (3 * kk + j) = nI (r / 8 ^ j % 8)) → (∀ c j, (c = 913 ∧ 3 * kk ≤ j ∧ j < 3 * kk + 3) ∨ σ' c j = σ0 c j) → ∀ v4, V l i_X6_rules k_X6_rules 64 [.ref 900, .int v1, .int (nI k), .int (nI kk), v4] [] σ' K) : ∀ (m i : Nat) (σ : St), i + m = n → (∀ j, j < i → σ 913 (3 * kk + j) = nI (r / 8 ^ j % 8)) → (∀ c j, (c = 913 ∧ 3 * kk ≤ j ∧ j < 3 * kk + 3) ∨ σ c j = σ0 c j) → V l i_X6_rules k_X6_rules 38 [.ref 900, .int v1, .int (nI k), .int (nI kk), .int (nI i)] [] σ K
  | 0, i, σ, hi, h1, h2 => by
    have hi : i = n := by omega
    subst hi
    have f14 : σ 914 kk = nI i := by
      rcases h2 914 kk with q | q
      · exact absurd q.1 (by decide)
      · rw [q]; exact h14
    refine V_run ok_X6_rules 6 38 ?_
    simp (disch := omega) only [eng, c_X6_rules, r_X6_rules, tbl, true_and, Nat.reduceAdd, Nat.reduceLT, ↓reduceIte, n_eq, n_lt, n_le, n_cl, n_inT, nI_add, bI_eq0, bI_eq1, not_true_eq_false, not_false_eq_true, true_implies, false_implies, implies_true, and_true, Bool.not_eq_false, Bool.not_eq_true, Nat.reduceEqDiff, Nat.reduceLeDiff, Classical.not_not, List.length_cons, List.length_nil, Int.reduceAdd, z_cast, Nat.reducePow, false_or, Nat.reduceLT, Nat.sub_zero, Nat.le_refl, f14]
    try simp only [iteP, Classical.not_not, Bool.not_eq_false, Bool.not_eq_true]
    exact hN σ h1 h2 _
  | m + 1, i, σ, hi, h1, h2 => by
    have z : ¬ n ≤ i := by omega
    have f14 : σ 914 kk = nI n := by
      rcases h2 914 kk with q | q
      · exact absurd q.1 (by decide)
      · rw [q]; exact h14
    have f20 : σ 920 (5 * k + 2 + i) = nI (r / 8 ^ i % 8) := by
      rcases h2 920 (5 * k + 2 + i) with q | q
      · exact absurd q.1 (by decide)
      · rw [q]; exact hd i (by omega)
    refine V_run ok_X6_rules 60 38 ?_
    simp (disch := omega) only [eng, c_X6_rules, r_X6_rules, tbl, true_and, Nat.reduceAdd, Nat.reduceLT, ↓reduceIte, n_eq, n_lt, n_le, n_cl, n_inT, nI_add, bI_eq0, bI_eq1, not_true_eq_false, not_false_eq_true, true_implies, false_implies, implies_true, and_true, Bool.not_eq_false, Bool.not_eq_true, Nat.reduceEqDiff, Nat.reduceLeDiff, Classical.not_not, List.length_cons, List.length_nil, Int.reduceAdd, z_cast, Nat.reducePow, false_or, Nat.reduceLT, Nat.sub_zero, Nat.le_refl, z, f14, pk_mul, f20]
    try simp only [iteP, Classical.not_not, Bool.not_eq_false, Bool.not_eq_true]
    refine lp_rul2 l hk hkk hn hd h14 hN m (i + 1) _ (by omega) (fun j hj => ?_) (fun c j => ?_)
    · by_cases y : j = i
      · subst y; simp [wr_at]
      · rw [wr_at, if_neg (by omega)]; exact h1 j (by omega)
    · by_cases y : c = 913 ∧ j = 3 * kk + i
      · exact Or.inl ⟨y.1, by omega, by omega⟩
      · rw [wr_at, if_neg y]; exact h2 c j
theorem lp_rul1 (l : Launch) {N : Nat} {kf nf rf : Nat → Nat} {v1 : Int32} {E : Es} {σ0 : St} {K : Int32 → St → Prop} (hW : Wf E) (hN4 : N ≤ 4) (h18 : σ0 900 18 = nI N) (hR : RRd N kf nf rf σ0) (hK : ∀ σ', ME (apR E kf nf rf N) σ' → FrN σ0 σ' → K (nI N) σ') : ∀ (q k : Nat) (σ : St) (v3 v4 : Value), k + q = N → ME (apR E kf nf rf k) σ → FrN σ0 σ → lng v3 = false → V l i_X6_rules k_X6_rules 13 [.ref 900, .int v1, .int (nI k), v3, v4] [] σ K
  | 0, k, σ, v3, v4, hk, hE, hf, _ => by
    have hk : k = N := by omega
    subst hk
    have e18 : σ 900 18 = nI k := by rw [hf.2 18 (by decide) (by decide) (by decide)]; exact h18
    refine V_run ok_X6_rules 20 13 ?_
    simp (disch := omega) only [eng, c_X6_rules, r_X6_rules, tbl, true_and, Nat.reduceAdd, Nat.reduceLT, ↓reduceIte, n_eq, n_lt, n_le, n_cl, n_inT, nI_add, bI_eq0, bI_eq1, not_true_eq_false, not_false_eq_true, true_implies, false_implies, implies_true, and_true, Bool.not_eq_false, Bool.not_eq_true, Nat.reduceEqDiff, Nat.reduceLeDiff, Classical.not_not, List.length_cons, List.length_nil, Int.reduceAdd, z_cast, Nat.reducePow, false_or, Nat.reduceLT, Nat.sub_zero, Nat.le_refl, e18]
    try simp only [iteP, Classical.not_not, Bool.not_eq_false, Bool.not_eq_true]
    exact hK σ hE hf
  | q + 1, k, σ, v3, v4, hk, hE, hf, _ => by
    have z : ¬ N ≤ k := by omega
    have e18 : σ 900 18 = nI N := by rw [hf.2 18 (by decide) (by decide) (by decide)]; exact h18
    obtain ⟨r1, r2, r3, r4, r5, r6, r7, r8⟩ := hR k (by omega)
    rw [← hf.1 920 (by decide) (by decide)] at r1 r2
    have hWk := Wf_apR (kf := kf) (nf := nf) (rf := rf) hW k (fun i hi => by have := hR i (by omega); exact ⟨this.2.2.2.1, this.2.2.2.2.1, this.2.2.2.2.2.1, this.2.2.2.2.2.2.1⟩)
    refine V_run ok_X6_rules 40 13 ?_
    simp (disch := omega) only [eng, c_X6_rules, r_X6_rules, tbl, true_and, Nat.reduceAdd, Nat.reduceLT, ↓reduceIte, n_eq, n_lt, n_le, n_cl, n_inT, nI_add, bI_eq0, bI_eq1, not_true_eq_false, not_false_eq_true, true_implies, false_implies, implies_true, and_true, Bool.not_eq_false, Bool.not_eq_true, Nat.reduceEqDiff, Nat.reduceLeDiff, Classical.not_not, List.length_cons, List.length_nil, Int.reduceAdd, z_cast, Nat.reducePow, false_or, Nat.reduceLT, Nat.sub_zero, Nat.le_refl, z, e18, pk_mul, r1, r2]
    try simp only [iteP, Classical.not_not, Bool.not_eq_false, Bool.not_eq_true]
    refine lp_rul2 l (k := k) (kk := kf k) (r := rf k) (n := nf k) (σ0 := wr σ 914 (kf k) (nI (nf k))) (by omega) r4 r6 (fun j hj => by rw [wr_ne 920 (by decide), hf.1 920 (by decide) (by decide)]; exact r3 j hj) (by simp [wr_at]) (fun σ' g1 g2 v4 => ?_) (nf k) 0 _ (by omega) (fun j hj => absurd hj (Nat.not_lt_zero j)) (fun c j => Or.inr rfl)
    have hE' : ME (apR E kf nf rf (k + 1)) σ' := ME_setR hWk hE r6 (fun j hj => by rw [Nat.pow_mul]; exact g1 j hj) g2
    have fN : FrN σ σ' := by
      refine ⟨fun c z1 z2 => funext fun j => ?_, fun j _ _ _ => ?_⟩
      · rcases g2 c j with q | q
        · omega
        · rw [q, wr_at, if_neg (by omega)]
      · rcases g2 900 j with q | q
        · omega
        · rw [q, wr_at, if_neg (by omega)]
    refine V_run ok_X6_rules 4 64 ?_
    simp (disch := omega) only [eng, c_X6_rules, r_X6_rules, tbl, true_and, Nat.reduceAdd, Nat.reduceLT, ↓reduceIte, n_eq, n_lt, n_le, n_cl, n_inT, nI_add, bI_eq0, bI_eq1, not_true_eq_false, not_false_eq_true, true_implies, false_implies, implies_true, and_true, Bool.not_eq_false, Bool.not_eq_true, Nat.reduceEqDiff, Nat.reduceLeDiff, Classical.not_not, List.length_cons, List.length_nil, Int.reduceAdd, z_cast, Nat.reducePow, false_or, Nat.reduceLT, Nat.sub_zero, Nat.le_refl]
    try simp only [iteP, Classical.not_not, Bool.not_eq_false, Bool.not_eq_true]
    exact lp_rul1 l hW hN4 h18 hR hK q (k + 1) σ' _ _ (by omega) hE' (hf.trans fN) rfl
theorem M_rules {l : Launch} {A : AS} {σ : St} {K : Int32 → St → Prop} (hM : MX A σ) (hK : ∀ σ', MX (op_rules A).2 σ' → FrM σ σ' → K (op_rules A).1 σ') : CallAt l 147 [.ref 900] σ K := by
  have hW := hM.1.1
  have hw := hM.1.2.2.1
  have hln := hw.1
  have t1 := hM.2.2.2.2.1.1
  have t2 := hM.2.2.2.2.1.2
  unfold op_rules at hK
  refine CallAt.of (k := 147) (cd := k_X6_rules) ok_X6_rules (by decide) rfl rfl rfl ?_
  show V _ i_X6_rules k_X6_rules 0 [.ref 900, .null, .null, .null, .null] [] _ _
  refine V_run ok_X6_rules 5 0 ?_
  simp (disch := omega) only [eng, c_X6_rules, r_X6_rules, tbl, true_and, Nat.reduceAdd, Nat.reduceLT, ↓reduceIte, n_eq, n_lt, n_le, n_cl, n_inT, nI_add, bI_eq0, bI_eq1, not_true_eq_false, not_false_eq_true, true_implies, false_implies, implies_true, and_true, Bool.not_eq_false, Bool.not_eq_true, Nat.reduceEqDiff, Nat.reduceLeDiff, Classical.not_not, List.length_cons, List.length_nil, Int.reduceAdd, z_cast, Nat.reducePow, false_or, Nat.reduceLT, Nat.sub_zero, Nat.le_refl]
  try simp only [iteP, Classical.not_not, Bool.not_eq_false, Bool.not_eq_true]
  refine CallAt.of (k := 144) (cd := k_X6_readAll) ok_X6_readAll (by decide) rfl rfl rfl ?_
  show V _ i_X6_readAll k_X6_readAll 0 [.ref 900, .int (nI 4), .int (nI 59), .null, .null] [] _ _
  refine V_run ok_X6_readAll 10 0 ?_
  simp (disch := omega) only [eng, c_X6_readAll, r_X6_readAll, tbl, true_and, Nat.reduceAdd, Nat.reduceLT, ↓reduceIte, n_eq, n_lt, n_le, n_cl, n_inT, nI_add, bI_eq0, bI_eq1, not_true_eq_false, not_false_eq_true, true_implies, false_implies, implies_true, and_true, Bool.not_eq_false, Bool.not_eq_true, Nat.reduceEqDiff, Nat.reduceLeDiff, Classical.not_not, List.length_cons, List.length_nil, Int.reduceAdd, z_cast, Nat.reducePow, false_or, Nat.reduceLT, Nat.sub_zero, Nat.le_refl]
  try simp only [iteP, Classical.not_not, Bool.not_eq_false, Bool.not_eq_true]
  refine lp_allR l (σ0 := σ) (E0 := A.1) hw 4 0 0 0 (fun _ => 0) (fun _ => 0) (fun _ => 0) _ _ (by omega) (by decide) (RM_mk t1 t2) (fun i hi => absurd hi (Nat.not_lt_zero i)) (fun x hx => ⟨fun h => absurd h (by rw [Nat.zero_testBit]; decide), fun ⟨i, hi, _⟩ => absurd hi (Nat.not_lt_zero i)⟩) FrY.rfl'.pl (fun σ1 q1 hS1 hq1 hF1 hR1 => ?_)
  have e0 : apR A.1 (fun _ => 0) (fun _ => 0) (fun _ => 0) 0 = A.1 := rfl
  rw [e0] at hq1 hR1 ⊢
  generalize ruR A.2.2.1.1 A.2.2.1.2 4 0 A.1 (nb A.2.2.1.1 A.2.2.1.2 0) = R at *
  obtain ⟨b, p, F, N⟩ := R
  dsimp only at *
  have hp : p ≤ 120 := by have := (nb_le (tp := A.2.2.1.1) hS1.2.2.2).2; omega
  have fP : FrP σ σ1 := hF1.p
  refine V_run ok_X6_rules 1 5 ?_
  simp (disch := omega) only [eng, c_X6_rules, r_X6_rules, tbl, true_and, Nat.reduceAdd, Nat.reduceLT, ↓reduceIte, n_eq, n_lt, n_le, n_cl, n_inT, nI_add, bI_eq0, bI_eq1, not_true_eq_false, not_false_eq_true, true_implies, false_implies, implies_true, and_true, Bool.not_eq_false, Bool.not_eq_true, Nat.reduceEqDiff, Nat.reduceLeDiff, Classical.not_not, List.length_cons, List.length_nil, Int.reduceAdd, z_cast, Nat.reducePow, false_or, Nat.reduceLT, Nat.sub_zero, Nat.le_refl]
  try simp only [iteP, Classical.not_not, Bool.not_eq_false, Bool.not_eq_true]
  refine m_end hw hS1 (fun hb => ?_) (fun hb => ?_)
  · subst hb
    obtain ⟨kf, nf, rf, o1, o2, o3, o4⟩ := hR1 rfl
    rw [if_pos rfl] at hK
    have fP2 : FrP σ (wr σ1 900 16 (nI 0)) := fP.t16
    have hM2 : MX (tp0 A) (wr σ1 900 16 (nI 0)) := hM.tp fP2 (TpW_0 A.2.2.1.1) (by simp [wr_at]) (fun i hi => absurd hi (Nat.not_lt_zero i))
    have hWF : Wf F := by
      rw [o3]
      exact Wf_apR hW N (fun i hi => by have := o2 i (by omega); exact ⟨this.2.2.2.1, this.2.2.2.2.1, this.2.2.2.2.2.1, this.2.2.2.2.2.2.1⟩)
    refine V_run ok_X6_rules 20 6 ?_
    simp (disch := omega) only [eng, c_X6_rules, r_X6_rules, tbl, true_and, Nat.reduceAdd, Nat.reduceLT, ↓reduceIte, n_eq, n_lt, n_le, n_cl, n_inT, nI_add, bI_eq0, bI_eq1, not_true_eq_false, not_false_eq_true, true_implies, false_implies, implies_true, and_true, Bool.not_eq_false, Bool.not_eq_true, Nat.reduceEqDiff, Nat.reduceLeDiff, Classical.not_not, List.length_cons, List.length_nil, Int.reduceAdd, z_cast, Nat.reducePow, false_or, Nat.reduceLT, Nat.sub_zero, Nat.le_refl, Nat.le_refl]
    try simp only [iteP, Classical.not_not, Bool.not_eq_false, Bool.not_eq_true]
    refine lp_rul1 l (N := N) (kf := kf) (nf := nf) (rf := rf) (E := A.1) (σ0 := wr σ1 900 16 (nI 0)) hW o1 (by simp [wr_at, o4]) (fun i hi => by rw [wr_ne 920 (by decide)]; exact o2 i hi) (fun σ3 hE3 hf3 => ?_) N 0 _ _ _ (by omega) hM2.2.1 FrN.rfl' rfl
    rw [← o3] at hE3
    exact hK σ3 (hM2.es hf3 hWF hE3) (fP2.m.trans hf3.m)
  · subst hb
    rw [if_neg (by decide)] at hK
    have z := flt_ge p (by omega)
    have fP2 : FrP σ (wr (wr σ1 900 17 (nI p)) 900 16 (nI 0)) := FrP.t16 (FrY.p hF1.pl)
    have hM2 : MX (tp0 A) (wr (wr σ1 900 17 (nI p)) 900 16 (nI 0)) := hM.tp fP2 (TpW_0 A.2.2.1.1) (by simp [wr_at]) (fun i hi => absurd hi (Nat.not_lt_zero i))
    rw [hq1]
    refine V_run ok_X6_rules 10 6 ?_
    simp (disch := omega) only [eng, c_X6_rules, r_X6_rules, tbl, true_and, Nat.reduceAdd, Nat.reduceLT, ↓reduceIte, n_eq, n_lt, n_le, n_cl, n_inT, nI_add, bI_eq0, bI_eq1, not_true_eq_false, not_false_eq_true, true_implies, false_implies, implies_true, and_true, Bool.not_eq_false, Bool.not_eq_true, Nat.reduceEqDiff, Nat.reduceLeDiff, Classical.not_not, List.length_cons, List.length_nil, Int.reduceAdd, z_cast, Nat.reducePow, false_or, Nat.reduceLT, Nat.sub_zero, Nat.le_refl, z]
    try simp only [iteP, Classical.not_not, Bool.not_eq_false, Bool.not_eq_true]
    exact hK _ hM2 fP2.m
