def dw (E : Es) : Es := eu E 12 2 (nd E)
def lotE (E : Es) : Es × Nat :=
  if nd E / 65536 % 3 = 0 then (if lvm E = 0 then (dw E, 0) else (die (dw (dw E)) (nthF (lvm E) 12 (nd (dw E) / 65536 % pcnt (lvm E))), 1))
  else if 12 ≤ E 12 0 ∨ wvm E = 0 then (dw E, 0)
  else (addE (dw (dw (dw E))) (nd (dw (dw E)) / 65536 % 2) (E 3 (nthF (wvm E) 12 (nd (dw E) / 65536 % pcnt (wvm E)))) (nthF (wvm E) 12 (nd (dw E) / 65536 % pcnt (wvm E))), 100)
theorem dw_ne (E : Es) (i j : Nat) (h : i ≠ 12) : dw E i j = E i j := by simp [dw, eu, h]
theorem dw_0 (E : Es) : dw E 12 0 = E 12 0 := by simp [dw, eu]
theorem dw_1 (E : Es) : dw E 12 1 = E 12 1 := by simp [dw, eu]
theorem lvm_dw (E : Es) : lvm (dw E) = lvm E := by simp [lvm, dw, eu]
theorem wvm_dw (E : Es) : wvm (dw E) = wvm E := by simp [wvm, dw, eu]
theorem Wf_dw {E : Es} (hW : Wf E) : Wf (dw E) := Wf_draw hW (nd_lt E)
theorem wvm_lt {E : Es} (hW : Wf E) : wvm E < 4096 := bits12 hW.1
theorem Wf_addE {E : Es} (hW : Wf E) {s f m : Nat} (hn : E 12 0 < 12) (hs : s ≤ 1) (hf : f = 12 ∨ (f < E 12 0 ∧ E 0 f = 0)) (hm : m = 12 ∨ (m < E 12 0 ∧ E 0 m = 1)) : Wf (addE E s f m) := by
  obtain ⟨a1, a2, a3, a4, a5, a6⟩ := hW
  have e0 : addE E s f m 12 0 = E 12 0 + 1 := by simp [addE]
  have e1 : addE E s f m 12 1 = E 12 1 := by simp [addE]
  have e2 : addE E s f m 12 2 = E 12 2 := by simp [addE]
  refine ⟨by rw [e0]; omega, by rw [e1]; exact a2, by rw [e2]; exact a3, fun q hq => ?_, fun t ht => ?_, fun k hk => ?_⟩
  · rw [e0] at hq
    have ho : ∀ i j, i ≠ 12 → j < E 12 0 → addE E s f m i j = E i j := fun i j hi hj => addE_old (by omega) hi
    by_cases hqn : q = E 12 0
    · subst hqn
      have n0 : addE E s f m 0 (E 12 0) = s := by simp [addE]
      have n1 : addE E s f m 1 (E 12 0) = f := by simp [addE]
      have n2 : addE E s f m 2 (E 12 0) = m := by simp [addE]
      have n3 : addE E s f m 3 (E 12 0) = 12 := by simp [addE]
      have n4 : addE E s f m 4 (E 12 0) = 12 := by simp [addE]
      have n5 : addE E s f m 5 (E 12 0) = 1 := by simp [addE]
      unfold WfP
      rw [n0, n1, n2, n3, n4, n5]
      refine ⟨hs, by omega, ?_, ?_, Or.inl rfl, Or.inl rfl, fun _ z => absurd rfl z⟩
      · rcases hf with z | z
        · exact Or.inl z
        · exact Or.inr ⟨z.1, by rw [ho 0 f (by decide) z.1]; exact z.2⟩
      · rcases hm with z | z
        · exact Or.inl z
        · exact Or.inr ⟨z.1, by rw [ho 0 m (by decide) z.1]; exact z.2⟩
    · have hq' : q < E 12 0 := by omega
      obtain ⟨b1, b2, b3, b4, b5, b6, b7⟩ := a4 q hq'
      unfold WfP
      rw [ho 0 q (by decide) hq', ho 1 q (by decide) hq', ho 2 q (by decide) hq', ho 3 q (by decide) hq', ho 4 q (by decide) hq', ho 5 q (by decide) hq', e0]
      refine ⟨b1, b2, ?_, ?_, ?_, ?_, ?_⟩
      · rcases b3 with z | z
        · exact Or.inl z
        · exact Or.inr ⟨z.1, by rw [ho 0 _ (by decide) (by omega)]; exact z.2⟩
      · rcases b4 with z | z
        · exact Or.inl z
        · exact Or.inr ⟨z.1, by rw [ho 0 _ (by decide) (by omega)]; exact z.2⟩
      · rcases b5 with z | z
        · exact Or.inl z
        · exact Or.inr ⟨by omega, by rw [ho 0 _ (by decide) z.1]; exact z.2⟩
      · rcases b6 with z | z
        · exact Or.inl z
        · exact Or.inr ⟨by omega, z.2⟩
      · intro g5 g3
        have : E 3 q < E 12 0 := by
          rcases b5 with z | z
          · exact absurd z g3
          · exact z.1
        rw [ho 3 _ (by decide) this]
        exact b7 g5 g3
  · rw [e1] at ht
    obtain ⟨c1, c2, c3, c4, c5, c6⟩ := a5 t ht
    have x6 : ∀ i, 6 ≤ i → i ≤ 9 → addE E s f m i t = E i t := fun i h1 h2 => by
      unfold addE
      rw [if_neg (by omega), if_neg (by omega), if_neg (by omega), if_neg (by omega), if_neg (by omega), if_neg (by omega)]
    unfold WfT
    rw [x6 6 (by omega) (by omega), x6 7 (by omega) (by omega), x6 8 (by omega) (by omega), x6 9 (by omega) (by omega), e0]
    exact ⟨c1, c2, by omega, by omega, c5, c6⟩
  · have x6 : ∀ i j, 10 ≤ i → i ≤ 11 → addE E s f m i j = E i j := fun i j h1 h2 => by
      unfold addE
      rw [if_neg (by omega), if_neg (by omega), if_neg (by omega), if_neg (by omega), if_neg (by omega), if_neg (by omega)]
    unfold WfR
    rw [x6 11 k (by omega) (by omega)]
    have := a6 k hk
    exact ⟨this.1, this.2.1, fun i hi => by rw [x6 10 _ (by omega) (by omega)]; exact this.2.2 i hi⟩
theorem lv_at2 {E : Es} {j : Nat} (h : (lvm E).testBit j = true) : j < E 12 0 ∧ E 5 j = 1 := by
  rw [lvm_tb] at h
  simpa using h
theorem wv_at {E : Es} {j : Nat} (h : (wvm E).testBit j = true) : j < E 12 0 ∧ E 0 j = 1 ∧ E 5 j = 1 ∧ E 3 j ≠ 12 := by
  unfold wvm at h
  rw [bits_tb] at h
  simp only [Bool.and_eq_true, decide_eq_true_eq, beq_iff_eq, bne_iff_ne, ne_eq] at h
  exact ⟨h.1, h.2.1.1, h.2.1.2, h.2.2⟩
/-- who a lot falls on -/
theorem lot_who {m x : Nat} (hm : m < 4096) (h0 : m ≠ 0) : nthF m 12 (x % pcnt m) < 12 ∧ m.testBit (nthF m 12 (x % pcnt m)) = true :=
  nthF_ok m 12 _ (by omega) (Nat.mod_lt _ (pcF_pos (by omega) hm))
theorem Wf_lot {E : Es} (hW : Wf E) : Wf (lotE E).1 := by
  unfold lotE
  split
  · split
    · exact Wf_dw hW
    · rename_i h0
      have w := lv_at2 (lot_who (x := nd (dw E) / 65536) (lvm_lt hW) h0).2
      exact Wf_die (Wf_dw (Wf_dw hW)) (by rw [dw_0, dw_0]; exact w.1) (by rw [dw_ne _ _ _ (by decide), dw_ne _ _ _ (by decide)]; exact w.2)
  · split
    · exact Wf_dw hW
    · rename_i h0
      have h1 : ¬ 12 ≤ E 12 0 := fun z => h0 (Or.inl z)
      have h2 : wvm E ≠ 0 := fun z => h0 (Or.inr z)
      have w := wv_at (lot_who (x := nd (dw E) / 65536) (wvm_lt hW) h2).2
      have wf := (hW.2.2.2.1 _ w.1).2.2.2.2.1
      have ws := (hW.2.2.2.1 _ w.1)
      refine Wf_addE (Wf_dw (Wf_dw (Wf_dw hW))) (by rw [dw_0, dw_0, dw_0]; omega) (by have := Nat.mod_lt (nd (dw (dw E)) / 65536) (show 0 < 2 by decide); omega) ?_ ?_
      · right
        rcases wf with z | z
        · exact absurd z w.2.2.2
        · rw [dw_0, dw_0, dw_0, dw_ne _ _ _ (by decide), dw_ne _ _ _ (by decide), dw_ne _ _ _ (by decide)]
          have := (hW.2.2.2.1 _ z.1).1
          exact ⟨z.1, by have := z.2; omega⟩
      · right
        rw [dw_0, dw_0, dw_0, dw_ne _ _ _ (by decide), dw_ne _ _ _ (by decide), dw_ne _ _ _ (by decide)]
        exact ⟨w.1, w.2.1⟩
theorem x_lot {l : Launch} {b : Nat} {E : Es} {σ : St} {K : Int32 → St → Prop} (hb : Eb b) (hW : Wf E) (hE : XE b E σ) (hK : ∀ σ', XE b (lotE E).1 σ' → FrE b σ σ' → K (nI (lotE E).2) σ') : CallAt l 31 [.ref b] σ K := by
  have hn12 := hW.1
  have hlv := lvm_lt hW
  have hwv := wvm_lt hW
  unfold lotE at hK
  refine CallAt.of (k := 31) (cd := k_X0_lot) ok_X0_lot (by decide) rfl rfl rfl ?_
  show V _ i_X0_lot k_X0_lot 0 [.ref b, .null, .null] [] _ _
  refine V_run ok_X0_lot 80 0 ?_
  simp (disch := omega) only [eng, c_X0_lot, r_X0_lot, tbl, true_and, Nat.reduceAdd, Nat.reduceLT, ↓reduceIte, n_eq, n_lt, n_le, n_cl, n_inT, nI_add, bI_eq0, bI_eq1, not_true_eq_false, not_false_eq_true, true_implies, false_implies, implies_true, and_true, Bool.not_eq_false, Bool.not_eq_true, Nat.reduceEqDiff, Nat.reduceLeDiff, Classical.not_not, List.length_cons, List.length_nil, Int.reduceAdd, z_cast, Nat.reducePow, false_or, Nat.reduceLT, Nat.sub_zero, Nat.le_refl, ebT hb]
  try simp only [iteP, Classical.not_not, Bool.not_eq_false, Bool.not_eq_true]
  refine x_drawn hb hE (by decide) (by decide) (fun σ1 hE1 hf1 => ?_)
  have hE1 : XE b (dw E) σ1 := hE1
  have m3 : nd E / 65536 % 3 < 3 := Nat.mod_lt _ (by decide)
  have l1 : σ1 b 1 = nI (lvm E) := by rw [hE1.2.1, lvm_dw]
  have p1 : σ1 b 0 = nI (E 12 0) := by rw [hE1.1, dw_0]
  simp (disch := omega) only [n_eq, n_lt, n_le, n_cl, n_inT, nI_add, bI_eq0, bI_eq1, not_true_eq_false, not_false_eq_true, true_implies, false_implies, implies_true, and_true, Bool.not_eq_false, Bool.not_eq_true, Nat.reduceEqDiff, Nat.reduceLeDiff, Classical.not_not, List.length_cons, List.length_nil, Int.reduceAdd, z_cast, Nat.reducePow, false_or, Nat.reduceLT, Nat.sub_zero, Nat.le_refl, true_and, ↓reduceIte, iteP, ebT hb, l1, p1]
  refine ⟨fun h => ?_, fun h => ?_⟩
  · rw [if_neg h] at hK
    refine x_wives hb (Wf_dw hW) hE1 ?_
    rw [wvm_dw]
    simp (disch := omega) only [n_eq, n_lt, n_le, n_cl, n_inT, nI_add, bI_eq0, bI_eq1, not_true_eq_false, not_false_eq_true, true_implies, false_implies, implies_true, and_true, Bool.not_eq_false, Bool.not_eq_true, Nat.reduceEqDiff, Nat.reduceLeDiff, Classical.not_not, List.length_cons, List.length_nil, Int.reduceAdd, z_cast, Nat.reducePow, false_or, Nat.reduceLT, Nat.sub_zero, Nat.le_refl, true_and, ↓reduceIte, iteP, ebT hb, l1, p1]
    refine ⟨fun h12 => ?_, fun h12 => ⟨fun h2 => ?_, fun h2 => ?_⟩⟩
    · rw [if_pos (Or.inl (by omega))] at hK
      exact hK σ1 hE1 hf1
    · rw [if_neg (by omega)] at hK
      have hw := lot_who (x := nd (dw E) / 65536) (wvm_lt hW) h2
      have w := wv_at hw.2
      have hpc : 0 < pcnt (wvm E) := pcF_pos (by omega) hwv
      have hpc2 : pcnt (wvm E) ≤ 12 := pcF_le _ _
      refine x_bitCount hwv ?_
      refine x_drawn hb hE1 hpc hpc2 (fun σ2 hE2 hf2 => ?_)
      have hE2 : XE b (dw (dw E)) σ2 := hE2
      refine x_member (by omega) (by have := Nat.mod_lt (nd (dw E) / 65536) hpc; omega) ?_
      have hn2 : σ2 b 0 = nI (E 12 0) := by rw [hE2.1, dw_0, dw_0]
      refine x_known hb hn2 hW.1 ?_
      rw [inB_n (by omega)]
      simp (disch := omega) only [n_eq, n_lt, n_le, n_cl, n_inT, nI_add, bI_eq0, bI_eq1, not_true_eq_false, not_false_eq_true, true_implies, false_implies, implies_true, and_true, Bool.not_eq_false, Bool.not_eq_true, Nat.reduceEqDiff, Nat.reduceLeDiff, Classical.not_not, List.length_cons, List.length_nil, Int.reduceAdd, z_cast, Nat.reducePow, false_or, Nat.reduceLT, Nat.sub_zero, Nat.le_refl, true_and, ↓reduceIte, iteP, ebT hb, w.1, decide_true, Bool.true_eq_false]
      refine x_drawn hb hE2 (by decide) (by decide) (fun σ3 hE3 hf3 => ?_)
      have hE3 : XE b (dw (dw (dw E))) σ3 := hE3
      have fp := (hE3.2.2.2.2.1 (nthF (wvm E) 12 (nd (dw E) / 65536 % pcnt (wvm E))) (by rw [dw_0, dw_0, dw_0]; exact w.1)).2.2.2.1
      rw [dw_ne _ _ _ (by decide), dw_ne _ _ _ (by decide), dw_ne _ _ _ (by decide)] at fp
      simp (disch := omega) only [n_eq, n_lt, n_le, n_cl, n_inT, nI_add, bI_eq0, bI_eq1, not_true_eq_false, not_false_eq_true, true_implies, false_implies, implies_true, and_true, Bool.not_eq_false, Bool.not_eq_true, Nat.reduceEqDiff, Nat.reduceLeDiff, Classical.not_not, List.length_cons, List.length_nil, Int.reduceAdd, z_cast, Nat.reducePow, false_or, Nat.reduceLT, Nat.sub_zero, Nat.le_refl, true_and, ↓reduceIte, iteP, ebT hb, fp]
      refine x_addPerson hb (Wf_dw (Wf_dw (Wf_dw hW))) hE3 (fun z => absurd z (by rw [dw_0, dw_0, dw_0]; omega)) (fun _ σ4 hE4 hf4 => ?_)
      exact hK σ4 hE4 (((hf1.trans hf2).trans hf3).trans hf4)
    · rw [if_pos (Or.inr h2)] at hK
      exact hK σ1 hE1 hf1
  · rw [if_pos h] at hK
    refine ⟨fun h2 => ?_, fun h2 => ?_⟩
    · rw [if_neg h2] at hK
      have hw := lot_who (x := nd (dw E) / 65536) (lvm_lt hW) h2
      have w := lv_at2 hw.2
      have hpc : 0 < pcnt (lvm E) := pcF_pos (by omega) hlv
      have hpc2 : pcnt (lvm E) ≤ 12 := pcF_le _ _
      refine x_bitCount hlv ?_
      refine x_drawn hb hE1 hpc hpc2 (fun σ2 hE2 hf2 => ?_)
      have hE2 : XE b (dw (dw E)) σ2 := hE2
      refine x_member (by omega) (by have := Nat.mod_lt (nd (dw E) / 65536) hpc; omega) ?_
      refine x_death hb (Wf_dw (Wf_dw hW)) hE2 (by rw [dw_0, dw_0]; exact w.1) (by rw [dw_ne _ _ _ (by decide), dw_ne _ _ _ (by decide)]; exact w.2) (fun σ3 hE3 hf3 => ?_)
      exact hK σ3 hE3 ((hf1.trans hf2).trans hf3)
    · rw [if_pos h2] at hK
      exact hK σ1 hE1 hf1
/-! rows of deaths -/
def dieN (E : Es) (f : Nat → Nat) : Nat → Es
  | 0 => E
  | n + 1 => die (dieN E f n) (f n)
theorem dieN_12 (E : Es) (f : Nat → Nat) : ∀ n j, dieN E f n 12 j = E 12 j
  | 0, j => rfl
  | n + 1, j => by unfold dieN; rw [die_12, dieN_12 E f n j]
theorem Wf_dieN {E : Es} (hW : Wf E) {f : Nat → Nat} : ∀ n, (∀ i, i < n → f i < E 12 0 ∧ dieN E f i 5 (f i) = 1) → Wf (dieN E f n)
  | 0, _ => hW
  | n + 1, h => Wf_die (Wf_dieN hW n (fun i hi => h i (by omega))) (by rw [dieN_12]; exact (h n (by omega)).1) (h n (by omega)).2
theorem lp_deaths (l : Launch) {b N : Nat} {E : Es} {f : Nat → Nat} {σ0 : St} {K : Int32 → St → Prop} (hb : Eb b) (hW : Wf E) (hN : N ≤ 5) (hf : ∀ i, i < N → σ0 603 i = nI (f i)) (hl : ∀ i, i < N → f i < E 12 0 ∧ dieN E f i 5 (f i) = 1) (hK : ∀ σ', XE b (dieN E f N) σ' → FrE b σ0 σ' → K 0 σ') : ∀ (n i : Nat) (σ : St), i + n = N → XE b (dieN E f i) σ → FrE b σ0 σ → V l i_X0_deaths k_X0_deaths 2 [.ref b, .ref 603, .int (nI N), .int (nI i)] [] σ K
  | 0, i, σ, hi, hE, hF => by
    have hi : i = N := by omega
    subst hi
    refine V_run ok_X0_deaths 50 2 ?_
    simp (disch := omega) only [eng, c_X0_deaths, r_X0_deaths, tbl, true_and, Nat.reduceAdd, Nat.reduceLT, ↓reduceIte, n_eq, n_lt, n_le, n_cl, n_inT, nI_add, bI_eq0, bI_eq1, not_true_eq_false, not_false_eq_true, true_implies, false_implies, implies_true, and_true, Bool.not_eq_false, Bool.not_eq_true, Nat.reduceEqDiff, Nat.reduceLeDiff, Classical.not_not, List.length_cons, List.length_nil, Int.reduceAdd, z_cast, Nat.reducePow, false_or, Nat.reduceLT, Nat.sub_zero, Nat.le_refl, ebT hb]
    try simp only [iteP, Classical.not_not, Bool.not_eq_false, Bool.not_eq_true]
    exact hK σ hE hF
  | n + 1, i, σ, hi, hE, hF => by
    have hi1 : i < N := by omega
    have hc : σ 603 i = nI (f i) := by
      rw [hF 603 (by rcases hb with rfl | rfl | rfl | rfl <;> omega)]; exact hf i hi1
    have h5 : ¬ 5 ≤ i := by omega
    refine V_run ok_X0_deaths 50 2 ?_
    simp (disch := omega) only [eng, c_X0_deaths, r_X0_deaths, tbl, true_and, Nat.reduceAdd, Nat.reduceLT, ↓reduceIte, n_eq, n_lt, n_le, n_cl, n_inT, nI_add, bI_eq0, bI_eq1, not_true_eq_false, not_false_eq_true, true_implies, false_implies, implies_true, and_true, Bool.not_eq_false, Bool.not_eq_true, Nat.reduceEqDiff, Nat.reduceLeDiff, Classical.not_not, List.length_cons, List.length_nil, Int.reduceAdd, z_cast, Nat.reducePow, false_or, Nat.reduceLT, Nat.sub_zero, Nat.le_refl, ebT hb, Nat.not_le.mpr hi1, h5, hc]
    try simp only [iteP, Classical.not_not, Bool.not_eq_false, Bool.not_eq_true]
    have w := hl i hi1
    refine x_death hb (Wf_dieN hW i (fun j hj => hl j (by omega))) hE (by rw [dieN_12]; exact w.1) w.2 (fun σ' hE' hF' => ?_)
    exact lp_deaths l hb hW hN hf hl hK n (i + 1) σ' (by omega) hE' (hF.trans hF')
theorem x_deaths {l : Launch} {b N : Nat} {E : Es} {f : Nat → Nat} {σ : St} {K : Int32 → St → Prop} (hb : Eb b) (hW : Wf E) (hE : XE b E σ) (hN : N ≤ 5) (hf : ∀ i, i < N → σ 603 i = nI (f i)) (hl : ∀ i, i < N → f i < E 12 0 ∧ dieN E f i 5 (f i) = 1) (hK : ∀ σ', XE b (dieN E f N) σ' → FrE b σ σ' → K 0 σ') : CallAt l 27 [.ref b, .ref 603, .int (nI N)] σ K := by
  refine CallAt.of (k := 27) (cd := k_X0_deaths) ok_X0_deaths (by decide) rfl rfl rfl ?_
  show V _ i_X0_deaths k_X0_deaths 0 [.ref b, .ref 603, .int (nI N), .null] [] _ _
  refine V_run ok_X0_deaths 50 0 ?_
  simp (disch := omega) only [eng, c_X0_deaths, r_X0_deaths, tbl, true_and, Nat.reduceAdd, Nat.reduceLT, ↓reduceIte, n_eq, n_lt, n_le, n_cl, n_inT, nI_add, bI_eq0, bI_eq1, not_true_eq_false, not_false_eq_true, true_implies, false_implies, implies_true, and_true, Bool.not_eq_false, Bool.not_eq_true, Nat.reduceEqDiff, Nat.reduceLeDiff, Classical.not_not, List.length_cons, List.length_nil, Int.reduceAdd, z_cast, Nat.reducePow, false_or, Nat.reduceLT, Nat.sub_zero, Nat.le_refl]
  try simp only [iteP, Classical.not_not, Bool.not_eq_false, Bool.not_eq_true]
  exact lp_deaths l hb hW hN hf hl hK N 0 σ (by omega) hE FrE.rfl'
/-- whether the things are the same, n of them from t on -/
def eqTn (E F : Es) : Nat → Nat → Bool
  | 0, _ => true
  | n + 1, t => decide (E 6 t = F 6 t ∧ E 7 t = F 7 t ∧ E 8 t = F 8 t ∧ E 9 t = F 9 t) && eqTn E F n (t + 1)
def eqT (E F : Es) : Bool := decide (E 12 1 = F 12 1) && eqTn E F (E 12 1) 0
theorem lp_hasT (l : Launch) {b c : Nat} {E F : Es} {σ : St} {K : Int32 → St → Prop} (hb : Eb b) (hc : Eb c) (hW : Wf E) (hW2 : Wf F) (hE : XE b E σ) (hE2 : XE c F σ) (hn : E 12 1 = F 12 1) : ∀ (n t : Nat), t + n = E 12 1 → K (bI (eqTn E F n t)) σ → V l i_X0_hasThingsOf k_X0_hasThingsOf 9 [.ref b, .ref c, .int (nI t)] [] σ K
  | 0, t, ht, hK => by
    have ht : t = E 12 1 := by omega
    subst ht
    have h12 := hW.2.1
    refine V_run ok_X0_hasThingsOf 60 9 ?_
    simp (disch := omega) only [eng, c_X0_hasThingsOf, r_X0_hasThingsOf, tbl, true_and, Nat.reduceAdd, Nat.reduceLT, ↓reduceIte, n_eq, n_lt, n_le, n_cl, n_inT, nI_add, bI_eq0, bI_eq1, not_true_eq_false, not_false_eq_true, true_implies, false_implies, implies_true, and_true, Bool.not_eq_false, Bool.not_eq_true, Nat.reduceEqDiff, Nat.reduceLeDiff, Classical.not_not, List.length_cons, List.length_nil, Int.reduceAdd, z_cast, Nat.reducePow, false_or, Nat.reduceLT, Nat.sub_zero, Nat.le_refl, ebT hb, ebT hc, hE.2.2.1]
    try simp only [iteP, Classical.not_not, Bool.not_eq_false, Bool.not_eq_true]
    exact hK
  | n + 1, t, ht, hK => by
    have ht1 : t < E 12 1 := by omega
    have ht2 : t < F 12 1 := by omega
    have h12 := t12 hW ht1
    have n12 := hW.2.1
    have w1 := hW.2.2.2.2.1 t ht1
    have w2 := hW2.2.2.2.2.1 t ht2
    have a1 := w1.1
    have a2 := w1.2.1
    have a3 := ho14 hW ht1
    have a4 := ot12 hW ht1
    have b1 := w2.1
    have b2 := w2.2.1
    have b3 := ho14 hW2 ht2
    have b4 := ot12 hW2 ht2
    have f1 := hE.2.2.2.2.2.1 t ht1
    have f2 := hE2.2.2.2.2.2.1 t ht2
    unfold eqTn at hK
    rcases Classical.propComplete (E 6 t = F 6 t) with g1 | g1 <;> rcases Classical.propComplete (E 7 t = F 7 t) with g2 | g2 <;> rcases Classical.propComplete (E 8 t = F 8 t) with g3 | g3 <;> rcases Classical.propComplete (E 9 t = F 9 t) with g4 | g4
    all_goals
      simp only [g1, g2, g3, g4, true_and, and_true, false_and, and_false, decide_true, decide_false, Bool.true_and, Bool.false_and] at hK
      refine V_run ok_X0_hasThingsOf 60 9 ?_
      simp (disch := omega) only [eng, c_X0_hasThingsOf, r_X0_hasThingsOf, tbl, true_and, Nat.reduceAdd, Nat.reduceLT, ↓reduceIte, n_eq, n_lt, n_le, n_cl, n_inT, nI_add, bI_eq0, bI_eq1, not_true_eq_false, not_false_eq_true, true_implies, false_implies, implies_true, and_true, Bool.not_eq_false, Bool.not_eq_true, Nat.reduceEqDiff, Nat.reduceLeDiff, Classical.not_not, List.length_cons, List.length_nil, Int.reduceAdd, z_cast, Nat.reducePow, false_or, Nat.reduceLT, Nat.sub_zero, Nat.le_refl, ebT hb, ebT hc, hE.2.2.1, f1, f2, Nat.not_le.mpr ht1, g1, g2, g3, g4]
      try simp only [iteP, Classical.not_not, Bool.not_eq_false, Bool.not_eq_true]
      first
        | exact hK
        | exact lp_hasT l hb hc hW hW2 hE hE2 hn n (t + 1) (by omega) hK
theorem x_hasT {l : Launch} {b c : Nat} {E F : Es} {σ : St} {K : Int32 → St → Prop} (hb : Eb b) (hc : Eb c) (hW : Wf E) (hW2 : Wf F) (hE : XE b E σ) (hE2 : XE c F σ) (hK : K (bI (eqT E F)) σ) : CallAt l 28 [.ref b, .ref c] σ K := by
  have n1 := hW.2.1
  have n2 := hW2.2.1
  unfold eqT at hK
  by_cases hn : E 12 1 = F 12 1
  · rw [decide_eq_true hn, Bool.true_and] at hK
    refine CallAt.of (k := 28) (cd := k_X0_hasThingsOf) ok_X0_hasThingsOf (by decide) rfl rfl rfl ?_
    show V _ i_X0_hasThingsOf k_X0_hasThingsOf 0 [.ref b, .ref c, .null] [] _ _
    refine V_run ok_X0_hasThingsOf 60 0 ?_
    simp (disch := omega) only [eng, c_X0_hasThingsOf, r_X0_hasThingsOf, tbl, true_and, Nat.reduceAdd, Nat.reduceLT, ↓reduceIte, n_eq, n_lt, n_le, n_cl, n_inT, nI_add, bI_eq0, bI_eq1, not_true_eq_false, not_false_eq_true, true_implies, false_implies, implies_true, and_true, Bool.not_eq_false, Bool.not_eq_true, Nat.reduceEqDiff, Nat.reduceLeDiff, Classical.not_not, List.length_cons, List.length_nil, Int.reduceAdd, z_cast, Nat.reducePow, false_or, Nat.reduceLT, Nat.sub_zero, Nat.le_refl, ebT hb, ebT hc, hE.2.2.1, hE2.2.2.1, eq_true hn]
    try simp only [iteP, Classical.not_not, Bool.not_eq_false, Bool.not_eq_true]
    exact lp_hasT l hb hc hW hW2 hE hE2 hn (E 12 1) 0 (by omega) hK
  · rw [decide_eq_false hn, Bool.false_and] at hK
    refine CallAt.of (k := 28) (cd := k_X0_hasThingsOf) ok_X0_hasThingsOf (by decide) rfl rfl rfl ?_
    show V _ i_X0_hasThingsOf k_X0_hasThingsOf 0 [.ref b, .ref c, .null] [] _ _
    refine V_run ok_X0_hasThingsOf 60 0 ?_
    simp (disch := omega) only [eng, c_X0_hasThingsOf, r_X0_hasThingsOf, tbl, true_and, Nat.reduceAdd, Nat.reduceLT, ↓reduceIte, n_eq, n_lt, n_le, n_cl, n_inT, nI_add, bI_eq0, bI_eq1, not_true_eq_false, not_false_eq_true, true_implies, false_implies, implies_true, and_true, Bool.not_eq_false, Bool.not_eq_true, Nat.reduceEqDiff, Nat.reduceLeDiff, Classical.not_not, List.length_cons, List.length_nil, Int.reduceAdd, z_cast, Nat.reducePow, false_or, Nat.reduceLT, Nat.sub_zero, Nat.le_refl, ebT hb, ebT hc, hE.2.2.1, hE2.2.2.1, hn]
    try simp only [iteP, Classical.not_not, Bool.not_eq_false, Bool.not_eq_true]
    exact hK
