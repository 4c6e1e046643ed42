/-! orders -/
theorem nthF_cb (m : Nat) : ∀ n i, n ≤ 12 → i < pcF m n → cb m (nthF m n i) = cb m (12 - n) + i
  | 0, i, _, h => absurd h (Nat.not_lt_zero i)
  | n + 1, i, hn, h => by
    unfold pcF at h
    unfold nthF
    have e : 12 - (n + 1) = 11 - n := by omega
    have e2 : 12 - n = 11 - n + 1 := by omega
    have hc : cb m (11 - n + 1) = cb m (11 - n) + (m.testBit (11 - n)).toNat := rfl
    rw [e]
    by_cases hb : m.testBit (11 - n) = true
    · rw [if_pos hb]
      rw [hb] at h hc
      by_cases hi : i = 0
      · rw [if_pos hi]; omega
      · rw [if_neg hi, nthF_cb m n (i - 1) (by omega) (by simp at h; omega), e2]
        simp at hc
        omega
    · rw [if_neg hb]
      have hb' : m.testBit (11 - n) = false := by simpa using hb
      rw [hb'] at h hc
      rw [nthF_cb m n i (by omega) (by simpa using h), e2]
      simp at hc
      omega
theorem nth_inj {m i j : Nat} (hi : i < pcnt m) (hj : j < pcnt m) (h : nthF m 12 i = nthF m 12 j) : i = j := by
  have h1 := nthF_cb m 12 i (by omega) hi
  have h2 := nthF_cb m 12 j (by omega) hj
  rw [h] at h1
  omega
theorem nth_le12 (m : Nat) : ∀ n i, n ≤ 12 → nthF m n i ≤ 12
  | 0, i, _ => Nat.le_refl _
  | n + 1, i, hn => by
    unfold nthF
    split
    · split
      · omega
      · exact nth_le12 m n _ (by omega)
    · exact nth_le12 m n _ (by omega)
def rowC (m c : Nat) : Nat → Nat := fun j => nthF m 12 ((layL (pcnt m) (List.range (pcnt m)) c).getD j 0)
theorem lay_ok : ∀ n, n < 6 → ∀ c, c < 120 → ∀ j, j < n → (layL n (List.range n) c).getD j 0 < n ∧ ∀ i, i < j → (layL n (List.range n) c).getD i 0 ≠ (layL n (List.range n) c).getD j 0 := by decide +kernel
theorem die_5 (E : Es) (p q : Nat) : die E p 5 q = if q = p then 0 else E 5 q := by simp [die]
theorem dieN_liv (E : Es) (f : Nat → Nat) (q : Nat) : ∀ i, (∀ j, j < i → f j ≠ q) → dieN E f i 5 q = E 5 q
  | 0, _ => rfl
  | i + 1, h => by
    unfold dieN
    rw [die_5, if_neg (fun z => h i (by omega) z.symm)]
    exact dieN_liv E f q i (fun j hj => h j (by omega))
theorem allL_at {E : Es} {m j : Nat} (h : allL E m = true) (hj : j < 12) (hb : m.testBit j = true) : j < E 12 0 ∧ E 5 j = 1 := by
  unfold allL at h
  have := List.all_eq_true.mp h j (List.mem_range.mpr hj)
  rw [hb] at this
  simpa using this
theorem rowC_live {E : Es} {m c : Nat} (h : allL E m = true) (h5 : pcnt m ≤ 5) (hc : c < 120) : ∀ i, i < pcnt m → rowC m c i < E 12 0 ∧ dieN E (rowC m c) i 5 (rowC m c i) = 1 := by
  intro i hi
  have hl := lay_ok (pcnt m) (by omega) c hc
  have hq := nthF_ok m 12 _ (by omega) (hl i hi).1
  have ha := allL_at h hq.1 hq.2
  refine ⟨ha.1, ?_⟩
  rw [dieN_liv E (rowC m c) (rowC m c i) i (fun j hj z => ?_)]
  · exact ha.2
  · exact (hl i hi).2 j hj (nth_inj (hl j (by omega)).1 (hl i hi).1 z)
/-- in how many rows of deaths, of those with a code below c -/
def ordN (E : Es) (m : Nat) (P : Es → Bool) : Nat → Nat
  | 0 => 0
  | c + 1 => ordN E m P c + (P (dieN E (rowC m c) (pcnt m))).toNat
theorem ordN_le (E : Es) (m : Nat) (P : Es → Bool) : ∀ c, ordN E m P c ≤ c
  | 0 => Nat.le_refl 0
  | c + 1 => by have := ordN_le E m P c; unfold ordN; cases P (dieN E (rowC m c) (pcnt m)) <;> simp <;> omega
def FrO (σ σ' : St) : Prop := ∀ k, k < 300 ∨ 315 ≤ k → k ≠ 602 → k ≠ 603 → σ' k = σ k
theorem CX.o {A : AS} {σ σ1 σ' : St} (h : CX A σ) (h1 : ∀ k, k ≠ 600 → k ≠ 601 → σ1 k = σ k) (h2 : FrO σ1 σ') : CX A σ' :=
  h.fr (fun k hk => by rw [h2 k (by omega) (by omega) (by omega)]; exact h1 k (by omega) (by omega)) (by rw [h2 400 (by omega) (by omega) (by omega), h1 400 (by omega) (by omega)])
theorem FrX.o {σ σ1 σ' : St} (h1 : ∀ k, k ≠ 600 → k ≠ 601 → σ1 k = σ k) (h2 : FrO σ1 σ') : FrX σ σ' := fun k hk => by rw [h2 k (by omega) (by omega) (by omega)]; exact h1 k (by omega) (by omega)
def op_orders (A : AS) (s t e : Int32) : Int32 × AS :=
  (if (inB t (A.1 12 1) && inB e 14 && (inB s 4096 && decide (pcnt s.toNatClampNeg ≤ 5)) && allL A.1 s.toNatClampNeg) = true then nI (ordN A.1 s.toNatClampNeg (fun F => F 8 t.toNatClampNeg == e.toNatClampNeg) (fct (pcnt s.toNatClampNeg))) else -1, A)
theorem lp_orders (l : Launch) {m t e : Nat} {E : Es} {σ1 : St} {K : Int32 → St → Prop} (hW : Wf E) (hE : XE 100 E σ1) (h5 : pcnt m ≤ 5) (ha : allL E m = true) (ht : t < E 12 1) (he : e < 14) (g1 : σ1 600 3 = nI (pcnt m)) (g2 : σ1 600 4 = nI (fct (pcnt m))) (g3 : ∀ i, i < pcnt m → σ1 601 i = nI (nthF m 12 i)) (hK : ∀ σ', FrO σ1 σ' → K (nI (ordN E m (fun F => F 8 t == e) (fct (pcnt m)))) σ') : ∀ (n c : Nat) (σ : St), c + n = fct (pcnt m) → FrO σ1 σ → V l i_X5_orders k_X5_orders 30 [.ref 0, .int (nI m), .int (nI t), .int (nI e), .int (nI (ordN E m (fun F => F 8 t == e) c)), .int (nI c)] [] σ K
  | 0, c, σ, hc, hF => by
    have hc : c = fct (pcnt m) := by omega
    subst hc
    have hf5 := fct5 h5
    have f4 : σ 600 4 = nI (fct (pcnt m)) := by rw [hF 600 (by omega) (by omega) (by omega)]; exact g2
    refine V_run ok_X5_orders 60 30 ?_
    simp (disch := omega) only [eng, c_X5_orders, r_X5_orders, tbl, true_and, Nat.reduceAdd, Nat.reduceLT, ↓reduceIte, n_eq, n_lt, n_le, n_cl, n_inT, nI_add, bI_eq0, bI_eq1, not_true_eq_false, not_false_eq_true, true_implies, false_implies, implies_true, and_true, Bool.not_eq_false, Bool.not_eq_true, Nat.reduceEqDiff, Nat.reduceLeDiff, Classical.not_not, List.length_cons, List.length_nil, Int.reduceAdd, z_cast, Nat.reducePow, false_or, Nat.reduceLT, Nat.sub_zero, Nat.le_refl, f4]
    try simp only [iteP, Classical.not_not, Bool.not_eq_false, Bool.not_eq_true]
    exact hK σ hF
  | n + 1, c, σ, hc, hF => by
    have hf5 := fct5 h5
    have f4 : σ 600 4 = nI (fct (pcnt m)) := by rw [hF 600 (by omega) (by omega) (by omega)]; exact g2
    have f3 : σ 600 3 = nI (pcnt m) := by rw [hF 600 (by omega) (by omega) (by omega)]; exact g1
    have hcl : ¬ fct (pcnt m) ≤ c := by omega
    have ht12 := t12 hW ht
    refine V_run ok_X5_orders 80 30 ?_
    simp (disch := omega) only [eng, c_X5_orders, r_X5_orders, tbl, true_and, Nat.reduceAdd, Nat.reduceLT, ↓reduceIte, n_eq, n_lt, n_le, n_cl, n_inT, nI_add, bI_eq0, bI_eq1, not_true_eq_false, not_false_eq_true, true_implies, false_implies, implies_true, and_true, Bool.not_eq_false, Bool.not_eq_true, Nat.reduceEqDiff, Nat.reduceLeDiff, Classical.not_not, List.length_cons, List.length_nil, Int.reduceAdd, z_cast, Nat.reducePow, false_or, Nat.reduceLT, Nat.sub_zero, Nat.le_refl, f4, hcl]
    try simp only [iteP, Classical.not_not, Bool.not_eq_false, Bool.not_eq_true]
    refine x_lay (N := pcnt m) (mem := nthF m 12) h5 (fun i => nth_le12 m 12 i (by omega)) f3 (fun i hi => by rw [hF 601 (by omega) (by omega) (by omega)]; exact g3 i hi) (by omega) (fun σ2 q1 q2 => ?_)
    have hE2 : XE 100 E σ2 := hE.frame (fun k h1 h2 => by rw [q2 k (by omega) (by omega)]; exact hF k (by omega) (by omega) (by omega))
    refine x_takeFrom e300 e100 (by decide) hW hE2 (fun σ3 hE3 hf3 => ?_)
    have f33 : σ3 600 3 = nI (pcnt m) := by rw [hf3 600 (by omega), q2 600 (by omega) (by omega)]; exact f3
    have hl := rowC_live ha h5 (show c < 120 by omega)
    simp (disch := omega) only [n_eq, n_lt, n_le, n_cl, n_inT, nI_add, bI_eq0, bI_eq1, not_true_eq_false, not_false_eq_true, true_implies, false_implies, implies_true, and_true, Bool.not_eq_false, Bool.not_eq_true, Nat.reduceEqDiff, Nat.reduceLeDiff, Classical.not_not, List.length_cons, List.length_nil, Int.reduceAdd, z_cast, Nat.reducePow, false_or, Nat.reduceLT, Nat.sub_zero, Nat.le_refl, true_and, ↓reduceIte, iteP, f33]
    refine x_deaths (f := rowC m c) e300 hW hE3 h5 (fun i hi => by rw [hf3 603 (by omega)]; exact q1 i hi) hl (fun σ4 hE4 hf4 => ?_)
    have hF4 : FrO σ1 σ4 := fun k h1 h2 h3 => by rw [hf4 k (by omega), hf3 k (by omega), q2 k (by omega) (by omega)]; exact hF k h1 h2 h3
    have fh := (hE4.2.2.2.2.2.1 t (by rw [dieN_12]; exact ht)).2.2.1
    have h14 := ho14 (Wf_dieN hW (pcnt m) hl) (t := t) (by rw [dieN_12]; exact ht)
    have ih := lp_orders l hW hE h5 ha ht he g1 g2 g3 hK n (c + 1) σ4 (by omega) hF4
    unfold ordN at ih
    by_cases hz : dieN E (rowC m c) (pcnt m) 8 t = e
    · have hb : (dieN E (rowC m c) (pcnt m) 8 t == e) = true := by simpa using hz
      rw [hb] at ih
      simp (disch := omega) only [n_eq, n_lt, n_le, n_cl, n_inT, nI_add, bI_eq0, bI_eq1, not_true_eq_false, not_false_eq_true, true_implies, false_implies, implies_true, and_true, Bool.not_eq_false, Bool.not_eq_true, Nat.reduceEqDiff, Nat.reduceLeDiff, Classical.not_not, List.length_cons, List.length_nil, Int.reduceAdd, z_cast, Nat.reducePow, false_or, Nat.reduceLT, Nat.sub_zero, Nat.le_refl, true_and, ↓reduceIte, iteP, fh, hz]
      exact ih
    · have hb : (dieN E (rowC m c) (pcnt m) 8 t == e) = false := by simpa using hz
      rw [hb] at ih
      simp (disch := omega) only [n_eq, n_lt, n_le, n_cl, n_inT, nI_add, bI_eq0, bI_eq1, not_true_eq_false, not_false_eq_true, true_implies, false_implies, implies_true, and_true, Bool.not_eq_false, Bool.not_eq_true, Nat.reduceEqDiff, Nat.reduceLeDiff, Classical.not_not, List.length_cons, List.length_nil, Int.reduceAdd, z_cast, Nat.reducePow, false_or, Nat.reduceLT, Nat.sub_zero, Nat.le_refl, true_and, ↓reduceIte, iteP, fh, hz]
      exact ih
theorem X_orders {l : Launch} {A : AS} {s t e : Int32} {σ : St} {K : Int32 → St → Prop} (hC : CX A σ) (hK : ∀ σ', CX (op_orders A s t e).2 σ' → FrX σ σ' → K (op_orders A s t e).1 σ') : CallAt l 90 [.ref 0, .int s, .int t, .int e] σ K := by
  have hW := hC.1.1
  have hE := hC.2.1
  have hn := hW.2.1
  unfold op_orders at hK
  rw [rI0 e 13] at hK
  have hbad : (inB t (A.1 12 1) && rI e 0 13 && (inB s 4096 && decide (pcnt s.toNatClampNeg ≤ 5)) && allL A.1 s.toNatClampNeg) = false → K (-1) σ := fun z => by rw [z] at hK; exact hK σ hC FrX.rfl'
  rcases rng e 0 13 (by decide) (by decide) with ⟨g0, g⟩ | ⟨g0, g⟩ | ⟨g0, e', h1, h3, rfl⟩
  iterate 2
    · refine CallAt.of (k := 90) (cd := k_X5_orders) ok_X5_orders (by decide) rfl rfl rfl ?_
      show V _ i_X5_orders k_X5_orders 0 [.ref 0, .int s, .int t, .int e, .null, .null] [] _ _
      refine V_run ok_X5_orders 80 0 ?_
      simp (disch := omega) only [eng, c_X5_orders, r_X5_orders, tbl, true_and, Nat.reduceAdd, Nat.reduceLT, ↓reduceIte, n_eq, n_lt, n_le, n_cl, n_inT, nI_add, bI_eq0, bI_eq1, not_true_eq_false, not_false_eq_true, true_implies, false_implies, implies_true, and_true, Bool.not_eq_false, Bool.not_eq_true, Nat.reduceEqDiff, Nat.reduceLeDiff, Classical.not_not, List.length_cons, List.length_nil, Int.reduceAdd, z_cast, Nat.reducePow, false_or, Nat.reduceLT, Nat.sub_zero, Nat.le_refl, g]
      try simp only [iteP, Classical.not_not, Bool.not_eq_false, Bool.not_eq_true]
      refine x_isThing e100 hE.2.2.1 hn ?_
      cases h1 : inB t (A.1 12 1)
      all_goals
        simp (disch := omega) only [n_eq, n_lt, n_le, n_cl, n_inT, nI_add, bI_eq0, bI_eq1, not_true_eq_false, not_false_eq_true, true_implies, false_implies, implies_true, and_true, Bool.not_eq_false, Bool.not_eq_true, Nat.reduceEqDiff, Nat.reduceLeDiff, Classical.not_not, List.length_cons, List.length_nil, Int.reduceAdd, z_cast, Nat.reducePow, false_or, Nat.reduceLT, Nat.sub_zero, Nat.le_refl, true_and, ↓reduceIte, iteP, Bool.true_eq_false, Bool.false_eq_true, g]
        exact hbad (by rw [g0, Bool.and_false, Bool.false_and, Bool.false_and])
  refine CallAt.of (k := 90) (cd := k_X5_orders) ok_X5_orders (by decide) rfl rfl rfl ?_
  show V _ i_X5_orders k_X5_orders 0 [.ref 0, .int s, .int t, .int (nI e'), .null, .null] [] _ _
  refine V_run ok_X5_orders 80 0 ?_
  simp (disch := omega) only [eng, c_X5_orders, r_X5_orders, tbl, true_and, Nat.reduceAdd, Nat.reduceLT, ↓reduceIte, n_eq, n_lt, n_le, n_cl, n_inT, nI_add, bI_eq0, bI_eq1, not_true_eq_false, not_false_eq_true, true_implies, false_implies, implies_true, and_true, Bool.not_eq_false, Bool.not_eq_true, Nat.reduceEqDiff, Nat.reduceLeDiff, Classical.not_not, List.length_cons, List.length_nil, Int.reduceAdd, z_cast, Nat.reducePow, false_or, Nat.reduceLT, Nat.sub_zero, Nat.le_refl, h3, Nat.not_lt_zero]
  try simp only [iteP, Classical.not_not, Bool.not_eq_false, Bool.not_eq_true]
  refine x_isThing e100 hE.2.2.1 hn ?_
  cases h1 : inB t (A.1 12 1) with
  | false =>
    simp (disch := omega) only [n_eq, n_lt, n_le, n_cl, n_inT, nI_add, bI_eq0, bI_eq1, not_true_eq_false, not_false_eq_true, true_implies, false_implies, implies_true, and_true, Bool.not_eq_false, Bool.not_eq_true, Nat.reduceEqDiff, Nat.reduceLeDiff, Classical.not_not, List.length_cons, List.length_nil, Int.reduceAdd, z_cast, Nat.reducePow, false_or, Nat.reduceLT, Nat.sub_zero, Nat.le_refl, true_and, ↓reduceIte, iteP, Bool.false_eq_true]
    exact hbad (by rw [h1]; rfl)
  | true =>
    simp (disch := omega) only [n_eq, n_lt, n_le, n_cl, n_inT, nI_add, bI_eq0, bI_eq1, not_true_eq_false, not_false_eq_true, true_implies, false_implies, implies_true, and_true, Bool.not_eq_false, Bool.not_eq_true, Nat.reduceEqDiff, Nat.reduceLeDiff, Classical.not_not, List.length_cons, List.length_nil, Int.reduceAdd, z_cast, Nat.reducePow, false_or, Nat.reduceLT, Nat.sub_zero, Nat.le_refl, true_and, ↓reduceIte, iteP, Bool.true_eq_false, h3, Nat.not_lt_zero]
    refine x_takes ?_
    cases h2 : (inB s 4096 && decide (pcnt s.toNatClampNeg ≤ 5)) with
    | false =>
      simp (disch := omega) only [n_eq, n_lt, n_le, n_cl, n_inT, nI_add, bI_eq0, bI_eq1, not_true_eq_false, not_false_eq_true, true_implies, false_implies, implies_true, and_true, Bool.not_eq_false, Bool.not_eq_true, Nat.reduceEqDiff, Nat.reduceLeDiff, Classical.not_not, List.length_cons, List.length_nil, Int.reduceAdd, z_cast, Nat.reducePow, false_or, Nat.reduceLT, Nat.sub_zero, Nat.le_refl, true_and, ↓reduceIte, iteP, Bool.false_eq_true]
      exact hbad (by rw [h2, Bool.and_false, Bool.false_and])
    | true =>
      simp (disch := omega) only [n_eq, n_lt, n_le, n_cl, n_inT, nI_add, bI_eq0, bI_eq1, not_true_eq_false, not_false_eq_true, true_implies, false_implies, implies_true, and_true, Bool.not_eq_false, Bool.not_eq_true, Nat.reduceEqDiff, Nat.reduceLeDiff, Classical.not_not, List.length_cons, List.length_nil, Int.reduceAdd, z_cast, Nat.reducePow, false_or, Nat.reduceLT, Nat.sub_zero, Nat.le_refl, true_and, ↓reduceIte, iteP, Bool.true_eq_false]
      have h2' := h2
      rw [Bool.and_eq_true, decide_eq_true_eq] at h2'
      obtain ⟨m, hm, rfl⟩ := inB_of h2'.1
      have hm5 := h2'.2
      rw [n_cl (by omega)] at hm5
      refine x_allLive e100 hW hE hm ?_
      cases h4 : allL A.1 m with
      | false =>
        simp (disch := omega) only [n_eq, n_lt, n_le, n_cl, n_inT, nI_add, bI_eq0, bI_eq1, not_true_eq_false, not_false_eq_true, true_implies, false_implies, implies_true, and_true, Bool.not_eq_false, Bool.not_eq_true, Nat.reduceEqDiff, Nat.reduceLeDiff, Classical.not_not, List.length_cons, List.length_nil, Int.reduceAdd, z_cast, Nat.reducePow, false_or, Nat.reduceLT, Nat.sub_zero, Nat.le_refl, true_and, ↓reduceIte, iteP, Bool.false_eq_true]
        exact hbad (by rw [n_cl (by omega), h4, Bool.and_false])
      | true =>
        obtain ⟨t', ht, rfl⟩ := inB_of h1
        have ht12 := t12 hW ht
        rw [h1, g0, h2, n_cl (show m < 2147483648 by omega), h4] at hK
        simp only [Bool.and_self, if_true] at hK
        rw [n_cl (show t' < 2147483648 by omega), n_cl (show e' < 2147483648 by omega)] at hK
        simp (disch := omega) only [n_eq, n_lt, n_le, n_cl, n_inT, nI_add, bI_eq0, bI_eq1, not_true_eq_false, not_false_eq_true, true_implies, false_implies, implies_true, and_true, Bool.not_eq_false, Bool.not_eq_true, Nat.reduceEqDiff, Nat.reduceLeDiff, Classical.not_not, List.length_cons, List.length_nil, Int.reduceAdd, z_cast, Nat.reducePow, false_or, Nat.reduceLT, Nat.sub_zero, Nat.le_refl, true_and, ↓reduceIte, iteP, Bool.true_eq_false]
        refine x_gather hm hm5 (fun σ1 q1 q2 q3 q4 => ?_)
        exact lp_orders l hW (hE.frame (fun k h1 h2 => q4 k (by omega) (by omega))) hm5 h4 ht (by omega) q1 q2 q3 (fun σ' hF => hK σ' (hC.o q4 hF) (FrX.o q4 hF)) (fct (pcnt m)) 0 σ1 (by omega) (fun _ _ _ _ => rfl)
def op_explained (A : AS) (s : Int32) : Int32 × AS :=
  (if (inB s 4096 && decide (pcnt s.toNatClampNeg ≤ 5)) = true then (match A.2.1 with
    | none => -4
    | some F => if allL F s.toNatClampNeg = true then nI (ordN F s.toNatClampNeg (fun G => eqT G A.1) (fct (pcnt s.toNatClampNeg))) else -1) else -1, A)
theorem lp_explained (l : Launch) {m : Nat} {E F : Es} {σ1 : St} {K : Int32 → St → Prop} (hW : Wf E) (hE : XE 100 E σ1) (hW2 : Wf F) (hE2 : XE 200 F σ1) (h5 : pcnt m ≤ 5) (ha : allL F m = true) (g1 : σ1 600 3 = nI (pcnt m)) (g2 : σ1 600 4 = nI (fct (pcnt m))) (g3 : ∀ i, i < pcnt m → σ1 601 i = nI (nthF m 12 i)) (hK : ∀ σ', FrO σ1 σ' → K (nI (ordN F m (fun G => eqT G E) (fct (pcnt m)))) σ') : ∀ (n c : Nat) (σ : St), c + n = fct (pcnt m) → FrO σ1 σ → V l i_X5_explained k_X5_explained 25 [.ref 0, .int (nI m), .int (nI (ordN F m (fun G => eqT G E) c)), .int (nI c)] [] σ K
  | 0, c, σ, hc, hF => by
    have hc : c = fct (pcnt m) := by omega
    subst hc
    have hf5 := fct5 h5
    have f4 : σ 600 4 = nI (fct (pcnt m)) := by rw [hF 600 (by omega) (by omega) (by omega)]; exact g2
    refine V_run ok_X5_explained 60 25 ?_
    simp (disch := omega) only [eng, c_X5_explained, r_X5_explained, tbl, true_and, Nat.reduceAdd, Nat.reduceLT, ↓reduceIte, n_eq, n_lt, n_le, n_cl, n_inT, nI_add, bI_eq0, bI_eq1, not_true_eq_false, not_false_eq_true, true_implies, false_implies, implies_true, and_true, Bool.not_eq_false, Bool.not_eq_true, Nat.reduceEqDiff, Nat.reduceLeDiff, Classical.not_not, List.length_cons, List.length_nil, Int.reduceAdd, z_cast, Nat.reducePow, false_or, Nat.reduceLT, Nat.sub_zero, Nat.le_refl, f4]
    try simp only [iteP, Classical.not_not, Bool.not_eq_false, Bool.not_eq_true]
    exact hK σ hF
  | n + 1, c, σ, hc, hF => by
    have hf5 := fct5 h5
    have f4 : σ 600 4 = nI (fct (pcnt m)) := by rw [hF 600 (by omega) (by omega) (by omega)]; exact g2
    have f3 : σ 600 3 = nI (pcnt m) := by rw [hF 600 (by omega) (by omega) (by omega)]; exact g1
    have hcl : ¬ fct (pcnt m) ≤ c := by omega
    refine V_run ok_X5_explained 80 25 ?_
    simp (disch := omega) only [eng, c_X5_explained, r_X5_explained, tbl, true_and, Nat.reduceAdd, Nat.reduceLT, ↓reduceIte, n_eq, n_lt, n_le, n_cl, n_inT, nI_add, bI_eq0, bI_eq1, not_true_eq_false, not_false_eq_true, true_implies, false_implies, implies_true, and_true, Bool.not_eq_false, Bool.not_eq_true, Nat.reduceEqDiff, Nat.reduceLeDiff, Classical.not_not, List.length_cons, List.length_nil, Int.reduceAdd, z_cast, Nat.reducePow, false_or, Nat.reduceLT, Nat.sub_zero, Nat.le_refl, f4, hcl]
    try simp only [iteP, Classical.not_not, Bool.not_eq_false, Bool.not_eq_true]
    refine x_lay (N := pcnt m) (mem := nthF m 12) h5 (fun i => nth_le12 m 12 i (by omega)) f3 (fun i hi => by rw [hF 601 (by omega) (by omega) (by omega)]; exact g3 i hi) (by omega) (fun σ2 q1 q2 => ?_)
    have hE22 : XE 200 F σ2 := hE2.frame (fun k h1 h2 => by rw [q2 k (by omega) (by omega)]; exact hF k (by omega) (by omega) (by omega))
    refine x_takeFrom e300 e200 (by decide) hW2 hE22 (fun σ3 hE3 hf3 => ?_)
    have f33 : σ3 600 3 = nI (pcnt m) := by rw [hf3 600 (by omega), q2 600 (by omega) (by omega)]; exact f3
    have hl := rowC_live ha h5 (show c < 120 by omega)
    simp (disch := omega) only [n_eq, n_lt, n_le, n_cl, n_inT, nI_add, bI_eq0, bI_eq1, not_true_eq_false, not_false_eq_true, true_implies, false_implies, implies_true, and_true, Bool.not_eq_false, Bool.not_eq_true, Nat.reduceEqDiff, Nat.reduceLeDiff, Classical.not_not, List.length_cons, List.length_nil, Int.reduceAdd, z_cast, Nat.reducePow, false_or, Nat.reduceLT, Nat.sub_zero, Nat.le_refl, true_and, ↓reduceIte, iteP, f33]
    refine x_deaths (f := rowC m c) e300 hW2 hE3 h5 (fun i hi => by rw [hf3 603 (by omega)]; exact q1 i hi) hl (fun σ4 hE4 hf4 => ?_)
    have hF4 : FrO σ1 σ4 := fun k h1 h2 h3 => by rw [hf4 k (by omega), hf3 k (by omega), q2 k (by omega) (by omega)]; exact hF k h1 h2 h3
    have ih := lp_explained l hW hE hW2 hE2 h5 ha g1 g2 g3 hK n (c + 1) σ4 (by omega) hF4
    unfold ordN at ih
    refine x_hasT e300 e100 (Wf_dieN hW2 (pcnt m) hl) hW hE4 (hE.frame (fun k h1 h2 => hF4 k (by omega) (by omega) (by omega))) ?_
    cases hz : eqT (dieN F (rowC m c) (pcnt m)) E
    all_goals
      rw [hz] at ih
      simp (disch := omega) only [n_eq, n_lt, n_le, n_cl, n_inT, nI_add, bI_eq0, bI_eq1, not_true_eq_false, not_false_eq_true, true_implies, false_implies, implies_true, and_true, Bool.not_eq_false, Bool.not_eq_true, Nat.reduceEqDiff, Nat.reduceLeDiff, Classical.not_not, List.length_cons, List.length_nil, Int.reduceAdd, z_cast, Nat.reducePow, false_or, Nat.reduceLT, Nat.sub_zero, Nat.le_refl, true_and, ↓reduceIte, iteP, Bool.true_eq_false, Bool.false_eq_true]
      exact ih
theorem X_explained {l : Launch} {A : AS} {s : Int32} {σ : St} {K : Int32 → St → Prop} (hC : CX A σ) (hK : ∀ σ', CX (op_explained A s).2 σ' → FrX σ σ' → K (op_explained A s).1 σ') : CallAt l 91 [.ref 0, .int s] σ K := by
  have hW := hC.1.1
  have hE := hC.2.1
  have hi := hC.2.2.1
  unfold op_explained at hK
  refine CallAt.of (k := 91) (cd := k_X5_explained) ok_X5_explained (by decide) rfl rfl rfl ?_
  show V _ i_X5_explained k_X5_explained 0 [.ref 0, .int s, .null, .null] [] _ _
  refine V_run ok_X5_explained 80 0 ?_
  simp (disch := omega) only [eng, c_X5_explained, r_X5_explained, tbl, true_and, Nat.reduceAdd, Nat.reduceLT, ↓reduceIte, n_eq, n_lt, n_le, n_cl, n_inT, nI_add, bI_eq0, bI_eq1, not_true_eq_false, not_false_eq_true, true_implies, false_implies, implies_true, and_true, Bool.not_eq_false, Bool.not_eq_true, Nat.reduceEqDiff, Nat.reduceLeDiff, Classical.not_not, List.length_cons, List.length_nil, Int.reduceAdd, z_cast, Nat.reducePow, false_or, Nat.reduceLT, Nat.sub_zero, Nat.le_refl]
  try simp only [iteP, Classical.not_not, Bool.not_eq_false, Bool.not_eq_true]
  refine x_takes ?_
  cases h2 : (inB s 4096 && decide (pcnt s.toNatClampNeg ≤ 5)) with
  | false =>
    rw [h2] at hK
    simp (disch := omega) only [n_eq, n_lt, n_le, n_cl, n_inT, nI_add, bI_eq0, bI_eq1, not_true_eq_false, not_false_eq_true, true_implies, false_implies, implies_true, and_true, Bool.not_eq_false, Bool.not_eq_true, Nat.reduceEqDiff, Nat.reduceLeDiff, Classical.not_not, List.length_cons, List.length_nil, Int.reduceAdd, z_cast, Nat.reducePow, false_or, Nat.reduceLT, Nat.sub_zero, Nat.le_refl, true_and, ↓reduceIte, iteP, Bool.false_eq_true]
    exact hK σ hC FrX.rfl'
  | true =>
    rw [h2, if_pos rfl] at hK
    have h2' := h2
    rw [Bool.and_eq_true, decide_eq_true_eq] at h2'
    obtain ⟨m, hm, rfl⟩ := inB_of h2'.1
    have hm5 := h2'.2
    rw [n_cl (by omega)] at hm5 hK
    cases h : A.2.1 with
    | none =>
      rw [h] at hK hi
      have hi' : σ 0 7 = nI 0 := hi
      simp (disch := omega) only [n_eq, n_lt, n_le, n_cl, n_inT, nI_add, bI_eq0, bI_eq1, not_true_eq_false, not_false_eq_true, true_implies, false_implies, implies_true, and_true, Bool.not_eq_false, Bool.not_eq_true, Nat.reduceEqDiff, Nat.reduceLeDiff, Classical.not_not, List.length_cons, List.length_nil, Int.reduceAdd, z_cast, Nat.reducePow, false_or, Nat.reduceLT, Nat.sub_zero, Nat.le_refl, true_and, ↓reduceIte, iteP, Bool.true_eq_false, hi']
      exact hK σ hC FrX.rfl'
    | some F =>
      rw [h] at hK hi
      have hi' : σ 0 7 = nI 1 := hi
      have hW2 := hC.1.2.1 F h
      have hE2 := hC.2.2.2.1 F h
      simp (disch := omega) only [n_eq, n_lt, n_le, n_cl, n_inT, nI_add, bI_eq0, bI_eq1, not_true_eq_false, not_false_eq_true, true_implies, false_implies, implies_true, and_true, Bool.not_eq_false, Bool.not_eq_true, Nat.reduceEqDiff, Nat.reduceLeDiff, Classical.not_not, List.length_cons, List.length_nil, Int.reduceAdd, z_cast, Nat.reducePow, false_or, Nat.reduceLT, Nat.sub_zero, Nat.le_refl, true_and, ↓reduceIte, iteP, Bool.true_eq_false, hi']
      refine x_allLive e200 hW2 hE2 hm ?_
      cases h4 : allL F m with
      | false =>
        simp only [h4, Bool.false_eq_true, if_false] at hK
        simp (disch := omega) only [n_eq, n_lt, n_le, n_cl, n_inT, nI_add, bI_eq0, bI_eq1, not_true_eq_false, not_false_eq_true, true_implies, false_implies, implies_true, and_true, Bool.not_eq_false, Bool.not_eq_true, Nat.reduceEqDiff, Nat.reduceLeDiff, Classical.not_not, List.length_cons, List.length_nil, Int.reduceAdd, z_cast, Nat.reducePow, false_or, Nat.reduceLT, Nat.sub_zero, Nat.le_refl, true_and, ↓reduceIte, iteP, Bool.false_eq_true]
        exact hK σ hC FrX.rfl'
      | true =>
        simp only [h4, if_true] at hK
        simp (disch := omega) only [n_eq, n_lt, n_le, n_cl, n_inT, nI_add, bI_eq0, bI_eq1, not_true_eq_false, not_false_eq_true, true_implies, false_implies, implies_true, and_true, Bool.not_eq_false, Bool.not_eq_true, Nat.reduceEqDiff, Nat.reduceLeDiff, Classical.not_not, List.length_cons, List.length_nil, Int.reduceAdd, z_cast, Nat.reducePow, false_or, Nat.reduceLT, Nat.sub_zero, Nat.le_refl, true_and, ↓reduceIte, iteP, Bool.true_eq_false]
        refine x_gather hm hm5 (fun σ1 q1 q2 q3 q4 => ?_)
        exact lp_explained l hW (hE.frame (fun k h1 h2 => q4 k (by omega) (by omega))) hW2 (hE2.frame (fun k h1 h2 => q4 k (by omega) (by omega))) hm5 h4 q1 q2 q3 (fun σ' hF => hK σ' (hC.o q4 hF) (FrX.o q4 hF)) (fct (pcnt m)) 0 σ1 (by omega) (fun _ _ _ _ => rfl)
