theorem nthF_tb (m : Nat) : ∀ (n i : Nat), n ≤ 12 → nthF m n i = 12 ∨ (nthF m n i < 12 ∧ m.testBit (nthF m n i) = true)
  | 0, i, _ => Or.inl rfl
  | n + 1, i, hn => by
    unfold nthF
    by_cases h : m.testBit (11 - n) = true
    · rw [if_pos h]
      by_cases hi : i = 0
      · rw [if_pos hi]; exact Or.inr ⟨by omega, h⟩
      · rw [if_neg hi]; exact nthF_tb m n _ (by omega)
    · rw [if_neg h]; exact nthF_tb m n _ (by omega)
theorem low_kin (E : Es) (p r : Nat) : low (kin E p r) = 12 ∨ low (kin E p r) < E 12 0 := by
  rcases nthF_tb (kin E p r) 12 0 (by omega) with h | ⟨-, h⟩
  · exact Or.inl h
  · right
    unfold kin at h
    rw [bits_tb] at h
    simp only [Bool.and_eq_true, decide_eq_true_eq] at h
    exact h.1
theorem heiF_lt (E : Es) (p k : Nat) : ∀ n i, heiF E p k n i = 12 ∨ heiF E p k n i < E 12 0
  | 0, i => Or.inl rfl
  | n + 1, i => by
    unfold heiF
    split
    · exact heiF_lt E p k n (i + 1)
    · exact low_kin E p _
theorem heir_lt (E : Es) (p k : Nat) : heir E p k = 12 ∨ heir E p k < E 12 0 := heiF_lt E p k _ _
theorem heir12 {E : Es} (hW : Wf E) (p k : Nat) : heir E p k ≤ 12 := by
  have := hW.1
  rcases heir_lt E p k with h | h <;> omega
theorem XE.thing {b t x y : Nat} {E : Es} {σ σ' : St} (hE : XE b E σ) (h1 : σ' (b + 11) t = nI x) (h2 : σ' (b + 12) t = nI y) (hs : ∀ k j, ((k = b + 11 ∨ k = b + 12) ∧ j = t) ∨ σ' k j = σ k j) : XE b (eu (eu E 8 t x) 9 t y) σ' := by
  have q : ∀ k j, k ≠ b + 11 → k ≠ b + 12 → σ' k j = σ k j := fun k j g1 g2 => (hs k j).elim (fun z => absurd z.1 (by omega)) id
  have q2 : ∀ k j, j ≠ t → σ' k j = σ k j := fun k j g => (hs k j).elim (fun z => absurd z.2 g) id
  obtain ⟨a1, a2, a3, a4, a5, a6, a7⟩ := hE
  have el : lvm (eu (eu E 8 t x) 9 t y) = lvm E := by simp [lvm, eu]
  have e8 : ∀ k, rw8 (eu (eu E 8 t x) 9 t y) k = rw8 E k := fun k => by simp [rw8, eu]
  refine ⟨?_, ?_, ?_, ?_, fun p hp => ?_, fun t' ht => ?_, fun k hk => ?_⟩
  · rw [q b 0 (by omega) (by omega)]; simpa [eu] using a1
  · rw [q b 1 (by omega) (by omega), el]; exact a2
  · rw [q b 7 (by omega) (by omega)]; simpa [eu] using a3
  · rw [q b 14 (by omega) (by omega)]; simpa [eu] using a4
  · rw [q (b + 3) p (by omega) (by omega), q (b + 4) p (by omega) (by omega), q (b + 5) p (by omega) (by omega), q (b + 6) p (by omega) (by omega), q (b + 7) p (by omega) (by omega)]
    simpa [eu] using a5 p (by simpa [eu] using hp)
  · have ht' : t' < E 12 1 := by simpa [eu] using ht
    rw [q (b + 9) t' (by omega) (by omega), q (b + 10) t' (by omega) (by omega)]
    by_cases h : t' = t
    · subst h
      rw [h1, h2]
      have := a6 t' ht'
      simp [eu, this]
    · rw [q2 (b + 11) t' h, q2 (b + 12) t' h]
      simpa [eu, h] using a6 t' ht'
  · rw [q (b + 13) k (by omega) (by omega), q (b + 14) k (by omega) (by omega), e8]
    simpa [eu] using a7 k hk
def pst (E : Es) (p t : Nat) : Es := eu (eu E 8 t (pas E p t).1) 9 t (pas E p t).2
theorem x_pass {l : Launch} {b t p : Nat} {E : Es} {σ : St} {K : Int32 → St → Prop} (hb : Eb b) (hW : Wf E) (hE : XE b E σ) (ht : t < E 12 1) (hp : p < E 12 0) (hK : ∀ σ', XE b (pst E p t) σ' → FrE b σ σ' → K 0 σ') : CallAt l 24 [.ref b, .int (nI t), .int (nI p)] σ K := by
  have h12 := t12 hW ht
  have hn12 := hW.1
  have hp12 := p12 hW hp
  have ft := hE.2.2.2.2.2.1 t ht
  have f1 := ho14 hW ht
  have f2 := ot12 hW ht
  have wt := hW.2.2.2.2.1 t ht
  have wk := wt.1
  have fin : ∀ x y : Nat, pas E p t = (x, y) → ∀ σ' : St, σ' (b + 11) t = nI x → σ' (b + 12) t = nI y → (∀ k j, ((k = b + 11 ∨ k = b + 12) ∧ j = t) ∨ σ' k j = σ k j) → K 0 σ' := by
    intro x y hxy σ' g1 g2 g3
    refine hK σ' ?_ (fun k hk => ?_)
    · have := hE.thing g1 g2 g3
      unfold pst
      rw [hxy]
      exact this
    · funext j
      rcases g3 k j with q | q
      · omega
      · exact q
  have fr2 : ∀ (v w : Int32) (k j : Nat), ((k = b + 11 ∨ k = b + 12) ∧ j = t) ∨ wr (wr σ (b + 11) t v) (b + 12) t w k j = σ k j := by
    intro v w k j
    by_cases h : (k = b + 11 ∨ k = b + 12) ∧ j = t
    · exact Or.inl h
    · right
      rw [wr_at, wr_at, if_neg (by omega), if_neg (by omega)]
  have fr3 : ∀ (v w u : Int32) (k j : Nat), ((k = b + 11 ∨ k = b + 12) ∧ j = t) ∨ wr (wr (wr σ (b + 12) t v) (b + 11) t w) (b + 12) t u k j = σ k j := by
    intro v w u k j
    by_cases h : (k = b + 11 ∨ k = b + 12) ∧ j = t
    · exact Or.inl h
    · right
      rw [wr_at, wr_at, wr_at, if_neg (by omega), if_neg (by omega), if_neg (by omega)]
  have fr4 : ∀ (v w u : Int32) (k j : Nat), ((k = b + 11 ∨ k = b + 12) ∧ j = t) ∨ wr (wr (wr σ (b + 11) t v) (b + 11) t w) (b + 12) t u k j = σ k j := by
    intro v w u k j
    by_cases h : (k = b + 11 ∨ k = b + 12) ∧ j = t
    · exact Or.inl h
    · right
      rw [wr_at, wr_at, wr_at, if_neg (by omega), if_neg (by omega), if_neg (by omega)]
  have fr1 : ∀ (c : Nat) (v : Int32) (hc : c = b + 11 ∨ c = b + 12) (k j : Nat), ((k = b + 11 ∨ k = b + 12) ∧ j = t) ∨ wr σ c t v k j = σ k j := by
    intro c v hc k j
    by_cases h : (k = b + 11 ∨ k = b + 12) ∧ j = t
    · exact Or.inl h
    · right
      rw [wr_at, if_neg (by omega)]
  by_cases c1 : E 8 t = p
  · have hh := heir12 hW p (E 6 t)
    have e1 : pas1 E p t = (heir E p (E 6 t), E 9 t) := by simp [pas1, c1]
    refine CallAt.of (k := 24) (cd := k_X0_pass) ok_X0_pass (by decide) rfl rfl rfl ?_
    show V _ i_X0_pass k_X0_pass 0 [.ref b, .int (nI t), .int (nI p)] [] _ _
    refine V_run ok_X0_pass 120 0 ?_
    simp (disch := omega) only [eng, c_X0_pass, r_X0_pass, tbl, true_and, Nat.reduceAdd, Nat.reduceLT, ↓reduceIte, n_eq, n_lt, n_le, n_cl, n_inT, nI_add, bI_eq0, bI_eq1, not_true_eq_false, not_false_eq_true, true_implies, false_implies, implies_true, and_true, Bool.not_eq_false, Bool.not_eq_true, Nat.reduceEqDiff, Nat.reduceLeDiff, Classical.not_not, List.length_cons, List.length_nil, Int.reduceAdd, z_cast, Nat.reducePow, false_or, Nat.reduceLT, Nat.sub_zero, Nat.le_refl, ebT hb, ft, c1]
    try simp only [iteP, Classical.not_not, Bool.not_eq_false, Bool.not_eq_true]
    refine x_heirBy hb hW hE hp (by omega) ?_
    by_cases g1 : heir E p (E 6 t) = 12
    · simp (disch := omega) only [n_eq, n_lt, n_le, n_cl, n_inT, nI_add, bI_eq0, bI_eq1, not_true_eq_false, not_false_eq_true, true_implies, false_implies, implies_true, and_true, Bool.not_eq_false, Bool.not_eq_true, Nat.reduceEqDiff, Nat.reduceLeDiff, Classical.not_not, List.length_cons, List.length_nil, Int.reduceAdd, z_cast, Nat.reducePow, false_or, Nat.reduceLT, Nat.sub_zero, Nat.le_refl, true_and, ↓reduceIte, iteP, wrq, ft, ebT hb, g1]
      exact fin 12 12 (by simp [pas, e1, g1]) _ (by simp (disch := omega) only [wrq]) (by simp (disch := omega) only [wrq]) (fr2 _ _)
    · by_cases g2 : heir E p (E 6 t) = E 9 t
      · simp (disch := omega) only [n_eq, n_lt, n_le, n_cl, n_inT, nI_add, bI_eq0, bI_eq1, not_true_eq_false, not_false_eq_true, true_implies, false_implies, implies_true, and_true, Bool.not_eq_false, Bool.not_eq_true, Nat.reduceEqDiff, Nat.reduceLeDiff, Classical.not_not, List.length_cons, List.length_nil, Int.reduceAdd, z_cast, Nat.reducePow, false_or, Nat.reduceLT, Nat.sub_zero, Nat.le_refl, true_and, ↓reduceIte, iteP, wrq, ft, ebT hb, g1, eq_true g2]
        exact fin 13 12 (by unfold pas; rw [e1]; exact (if_neg g1).trans (if_pos g2)) _ (by simp (disch := omega) only [wrq]) (by simp (disch := omega) only [wrq]) (fr4 _ _ _)
      · simp (disch := omega) only [n_eq, n_lt, n_le, n_cl, n_inT, nI_add, bI_eq0, bI_eq1, not_true_eq_false, not_false_eq_true, true_implies, false_implies, implies_true, and_true, Bool.not_eq_false, Bool.not_eq_true, Nat.reduceEqDiff, Nat.reduceLeDiff, Classical.not_not, List.length_cons, List.length_nil, Int.reduceAdd, z_cast, Nat.reducePow, false_or, Nat.reduceLT, Nat.sub_zero, Nat.le_refl, true_and, ↓reduceIte, iteP, wrq, ft, ebT hb, g1, g2]
        exact fin (heir E p (E 6 t)) (E 9 t) (by simp only [pas, e1, g1, if_false, g2]) _ (by simp (disch := omega) only [wrq]) (by simp (disch := omega) only [wrq, ft]) (fr1 _ _ (by omega))
  · by_cases c2 : E 9 t = p
    · have c8 : E 8 t < 12 := by
        rcases Nat.lt_or_ge (E 8 t) 12 with q | q
        · exact q
        · have := wt.2.2.2.2.1 q; omega
      have main : ∀ k0 : Nat, k0 < 4 → (if E 6 t = 1 then 0 else 2) = k0 → CallAt l 19 [.ref b, .int (nI p), .int (nI k0)] σ (fun r' σ' => K 0 σ') → True := fun _ _ _ _ => trivial
      have sub : ∀ k0 : Nat, (if E 6 t = 1 then 0 else 2) = k0 → ∀ x y : Nat, (x, y) = (if heir E p k0 = 12 then (12, 12) else if E 8 t = heir E p k0 then (13, 12) else (E 8 t, heir E p k0)) → pas E p t = (x, y) := by
        intro k0 h0 x y hxy
        rw [hxy]
        unfold pas pas1
        rw [if_neg c1, if_pos c2, h0]
        by_cases g1 : heir E p k0 = 12
        · simp [g1]
        · simp only [g1, if_false]
          rw [if_neg (by omega)]
      by_cases c3 : E 6 t = 1
      · have hh := heir12 hW p 0
        have s0 := sub 0 (by simp [c3])
        refine CallAt.of (k := 24) (cd := k_X0_pass) ok_X0_pass (by decide) rfl rfl rfl ?_
        show V _ i_X0_pass k_X0_pass 0 [.ref b, .int (nI t), .int (nI p)] [] _ _
        refine V_run ok_X0_pass 120 0 ?_
        simp (disch := omega) only [eng, c_X0_pass, r_X0_pass, tbl, true_and, Nat.reduceAdd, Nat.reduceLT, ↓reduceIte, n_eq, n_lt, n_le, n_cl, n_inT, nI_add, bI_eq0, bI_eq1, not_true_eq_false, not_false_eq_true, true_implies, false_implies, implies_true, and_true, Bool.not_eq_false, Bool.not_eq_true, Nat.reduceEqDiff, Nat.reduceLeDiff, Classical.not_not, List.length_cons, List.length_nil, Int.reduceAdd, z_cast, Nat.reducePow, false_or, Nat.reduceLT, Nat.sub_zero, Nat.le_refl, ebT hb, ft, c1, c2, c3]
        try simp only [iteP, Classical.not_not, Bool.not_eq_false, Bool.not_eq_true]
        refine x_heirBy (k := 0) hb hW hE hp (by omega) ?_
        by_cases g1 : heir E p 0 = 12
        · simp (disch := omega) only [n_eq, n_lt, n_le, n_cl, n_inT, nI_add, bI_eq0, bI_eq1, not_true_eq_false, not_false_eq_true, true_implies, false_implies, implies_true, and_true, Bool.not_eq_false, Bool.not_eq_true, Nat.reduceEqDiff, Nat.reduceLeDiff, Classical.not_not, List.length_cons, List.length_nil, Int.reduceAdd, z_cast, Nat.reducePow, false_or, Nat.reduceLT, Nat.sub_zero, Nat.le_refl, true_and, ↓reduceIte, iteP, wrq, ft, ebT hb, g1]
          exact fin 12 12 (s0 _ _ (by simp [g1])) _ (by simp (disch := omega) only [wrq]) (by simp (disch := omega) only [wrq]) (fr3 _ _ _)
        · have c9 : ¬ E 8 t = 12 := by omega
          by_cases g2 : E 8 t = heir E p 0
          · simp (disch := omega) only [n_eq, n_lt, n_le, n_cl, n_inT, nI_add, bI_eq0, bI_eq1, not_true_eq_false, not_false_eq_true, true_implies, false_implies, implies_true, and_true, Bool.not_eq_false, Bool.not_eq_true, Nat.reduceEqDiff, Nat.reduceLeDiff, Classical.not_not, List.length_cons, List.length_nil, Int.reduceAdd, z_cast, Nat.reducePow, false_or, Nat.reduceLT, Nat.sub_zero, Nat.le_refl, true_and, ↓reduceIte, iteP, wrq, ft, ebT hb, g1, c9, eq_true g2]
            exact fin 13 12 (s0 _ _ (by simp only [g1, if_false, g2, if_true])) _ (by simp (disch := omega) only [wrq]) (by simp (disch := omega) only [wrq]) (fr3 _ _ _)
          · simp (disch := omega) only [n_eq, n_lt, n_le, n_cl, n_inT, nI_add, bI_eq0, bI_eq1, not_true_eq_false, not_false_eq_true, true_implies, false_implies, implies_true, and_true, Bool.not_eq_false, Bool.not_eq_true, Nat.reduceEqDiff, Nat.reduceLeDiff, Classical.not_not, List.length_cons, List.length_nil, Int.reduceAdd, z_cast, Nat.reducePow, false_or, Nat.reduceLT, Nat.sub_zero, Nat.le_refl, true_and, ↓reduceIte, iteP, wrq, ft, ebT hb, g1, c9, g2]
            exact fin (E 8 t) (heir E p 0) (s0 _ _ (by simp only [g1, if_false, g2])) _ (by simp (disch := omega) only [wrq, ft]) (by simp (disch := omega) only [wrq]) (fr1 _ _ (by omega))
      · have hh := heir12 hW p 2
        have s0 := sub 2 (by simp [c3])
        refine CallAt.of (k := 24) (cd := k_X0_pass) ok_X0_pass (by decide) rfl rfl rfl ?_
        show V _ i_X0_pass k_X0_pass 0 [.ref b, .int (nI t), .int (nI p)] [] _ _
        refine V_run ok_X0_pass 120 0 ?_
        simp (disch := omega) only [eng, c_X0_pass, r_X0_pass, tbl, true_and, Nat.reduceAdd, Nat.reduceLT, ↓reduceIte, n_eq, n_lt, n_le, n_cl, n_inT, nI_add, bI_eq0, bI_eq1, not_true_eq_false, not_false_eq_true, true_implies, false_implies, implies_true, and_true, Bool.not_eq_false, Bool.not_eq_true, Nat.reduceEqDiff, Nat.reduceLeDiff, Classical.not_not, List.length_cons, List.length_nil, Int.reduceAdd, z_cast, Nat.reducePow, false_or, Nat.reduceLT, Nat.sub_zero, Nat.le_refl, ebT hb, ft, c1, c2, c3]
        try simp only [iteP, Classical.not_not, Bool.not_eq_false, Bool.not_eq_true]
        refine x_heirBy (k := 2) hb hW hE hp (by omega) ?_
        by_cases g1 : heir E p 2 = 12
        · simp (disch := omega) only [n_eq, n_lt, n_le, n_cl, n_inT, nI_add, bI_eq0, bI_eq1, not_true_eq_false, not_false_eq_true, true_implies, false_implies, implies_true, and_true, Bool.not_eq_false, Bool.not_eq_true, Nat.reduceEqDiff, Nat.reduceLeDiff, Classical.not_not, List.length_cons, List.length_nil, Int.reduceAdd, z_cast, Nat.reducePow, false_or, Nat.reduceLT, Nat.sub_zero, Nat.le_refl, true_and, ↓reduceIte, iteP, wrq, ft, ebT hb, g1]
          exact fin 12 12 (s0 _ _ (by simp [g1])) _ (by simp (disch := omega) only [wrq]) (by simp (disch := omega) only [wrq]) (fr3 _ _ _)
        · have c9 : ¬ E 8 t = 12 := by omega
          by_cases g2 : E 8 t = heir E p 2
          · simp (disch := omega) only [n_eq, n_lt, n_le, n_cl, n_inT, nI_add, bI_eq0, bI_eq1, not_true_eq_false, not_false_eq_true, true_implies, false_implies, implies_true, and_true, Bool.not_eq_false, Bool.not_eq_true, Nat.reduceEqDiff, Nat.reduceLeDiff, Classical.not_not, List.length_cons, List.length_nil, Int.reduceAdd, z_cast, Nat.reducePow, false_or, Nat.reduceLT, Nat.sub_zero, Nat.le_refl, true_and, ↓reduceIte, iteP, wrq, ft, ebT hb, g1, c9, eq_true g2]
            exact fin 13 12 (s0 _ _ (by simp only [g1, if_false, g2, if_true])) _ (by simp (disch := omega) only [wrq]) (by simp (disch := omega) only [wrq]) (fr3 _ _ _)
          · simp (disch := omega) only [n_eq, n_lt, n_le, n_cl, n_inT, nI_add, bI_eq0, bI_eq1, not_true_eq_false, not_false_eq_true, true_implies, false_implies, implies_true, and_true, Bool.not_eq_false, Bool.not_eq_true, Nat.reduceEqDiff, Nat.reduceLeDiff, Classical.not_not, List.length_cons, List.length_nil, Int.reduceAdd, z_cast, Nat.reducePow, false_or, Nat.reduceLT, Nat.sub_zero, Nat.le_refl, true_and, ↓reduceIte, iteP, wrq, ft, ebT hb, g1, c9, g2]
            exact fin (E 8 t) (heir E p 2) (s0 _ _ (by simp only [g1, if_false, g2])) _ (by simp (disch := omega) only [wrq, ft]) (by simp (disch := omega) only [wrq]) (fr1 _ _ (by omega))
    · have e1 : pas1 E p t = (E 8 t, E 9 t) := by simp [pas1, c1, c2]
      by_cases g1 : E 8 t = 12
      · have c1' : ¬ 12 = p := by omega
        refine CallAt.of (k := 24) (cd := k_X0_pass) ok_X0_pass (by decide) rfl rfl rfl ?_
        show V _ i_X0_pass k_X0_pass 0 [.ref b, .int (nI t), .int (nI p)] [] _ _
        refine V_run ok_X0_pass 120 0 ?_
        simp (disch := omega) only [eng, c_X0_pass, r_X0_pass, tbl, true_and, Nat.reduceAdd, Nat.reduceLT, ↓reduceIte, n_eq, n_lt, n_le, n_cl, n_inT, nI_add, bI_eq0, bI_eq1, not_true_eq_false, not_false_eq_true, true_implies, false_implies, implies_true, and_true, Bool.not_eq_false, Bool.not_eq_true, Nat.reduceEqDiff, Nat.reduceLeDiff, Classical.not_not, List.length_cons, List.length_nil, Int.reduceAdd, z_cast, Nat.reducePow, false_or, Nat.reduceLT, Nat.sub_zero, Nat.le_refl, ebT hb, ft, c1, c2, c1', g1]
        try simp only [iteP, Classical.not_not, Bool.not_eq_false, Bool.not_eq_true]
        exact fin 12 12 (by simp [pas, e1, g1]) _ (by simp (disch := omega) only [wrq, ft, g1]) (by simp (disch := omega) only [wrq]) (fr1 _ _ (by omega))
      · by_cases g2 : E 8 t = E 9 t
        · exact absurd g2 (by
            rcases Nat.lt_or_ge (E 9 t) 12 with q | q
            · exact wt.2.2.2.2.2 q
            · omega)
        · refine CallAt.of (k := 24) (cd := k_X0_pass) ok_X0_pass (by decide) rfl rfl rfl ?_
          show V _ i_X0_pass k_X0_pass 0 [.ref b, .int (nI t), .int (nI p)] [] _ _
          refine V_run ok_X0_pass 120 0 ?_
          simp (disch := omega) only [eng, c_X0_pass, r_X0_pass, tbl, true_and, Nat.reduceAdd, Nat.reduceLT, ↓reduceIte, n_eq, n_lt, n_le, n_cl, n_inT, nI_add, bI_eq0, bI_eq1, not_true_eq_false, not_false_eq_true, true_implies, false_implies, implies_true, and_true, Bool.not_eq_false, Bool.not_eq_true, Nat.reduceEqDiff, Nat.reduceLeDiff, Classical.not_not, List.length_cons, List.length_nil, Int.reduceAdd, z_cast, Nat.reducePow, false_or, Nat.reduceLT, Nat.sub_zero, Nat.le_refl, ebT hb, ft, c1, c2, g1, g2]
          try simp only [iteP, Classical.not_not, Bool.not_eq_false, Bool.not_eq_true]
          exact fin (E 8 t) (E 9 t) (by simp only [pas, e1, g1, if_false, g2]) _ (by rw [ft.2.2.1]) (by rw [ft.2.2.2]) (fun _ _ => Or.inr rfl)
