/-! a death -/
theorem kin_thing (E : Es) (t x y p r : Nat) : kin (eu (eu E 8 t x) 9 t y) p r = kin E p r := by
  simp [kin, eu, rel, chi, sib, cou, psb]
theorem heiF_thing (E : Es) (t x y p k : Nat) : ∀ n i, heiF (eu (eu E 8 t x) 9 t y) p k n i = heiF E p k n i
  | 0, i => rfl
  | n + 1, i => by
    unfold heiF
    rw [kin_thing, heiF_thing E t x y p k n (i + 1)]
    simp [eu]
theorem heir_thing (E : Es) (t x y p k : Nat) : heir (eu (eu E 8 t x) 9 t y) p k = heir E p k := by
  unfold heir
  rw [heiF_thing]
  simp [eu]
theorem pas_ok {E : Es} (hW : Wf E) {p t : Nat} (hp : p < E 12 0) (ht : t < E 12 1) : ((pas E p t).1 = 12 ∨ (pas E p t).1 = 13 ∨ (pas E p t).1 < E 12 0) ∧ ((pas E p t).2 = 12 ∨ (pas E p t).2 < E 12 0) ∧ (12 ≤ (pas E p t).1 → (pas E p t).2 = 12) ∧ ((pas E p t).2 < 12 → (pas E p t).1 ≠ (pas E p t).2) := by
  have hn := hW.1
  obtain ⟨-, -, h3, h4, h5, h6⟩ := hW.2.2.2.2.1 t ht
  have key : ((pas1 E p t).1 = 12 ∨ (pas1 E p t).1 = 13 ∨ (pas1 E p t).1 < E 12 0) ∧ ((pas1 E p t).2 = 12 ∨ (pas1 E p t).2 < E 12 0) ∧ ((pas1 E p t).1 = 13 → (pas1 E p t).2 = 12) := by
    unfold pas1
    by_cases c1 : E 8 t = p
    · rw [if_pos c1]
      have := heir_lt E p (E 6 t)
      exact ⟨by rcases this with q | q; exact Or.inl q; exact Or.inr (Or.inr q), h4, fun z => by dsimp only at z; rcases this with q | q <;> omega⟩
    · rw [if_neg c1]
      by_cases c2 : E 9 t = p
      · rw [if_pos c2]
        generalize (if E 6 t = 1 then 0 else 2) = k0
        have := heir_lt E p k0
        by_cases g : heir E p k0 = 12
        · rw [if_pos g]
          exact ⟨Or.inl rfl, this, fun z => g⟩
        · rw [if_neg g]
          refine ⟨h3, this, fun z => ?_⟩
          have := h5 (by dsimp only at z; omega)
          omega
      · rw [if_neg c2]
        exact ⟨h3, h4, fun z => h5 (by dsimp only at z; omega)⟩
  unfold pas
  by_cases g1 : (pas1 E p t).1 = 12
  · rw [if_pos g1]
    exact ⟨Or.inl rfl, Or.inl rfl, fun _ => rfl, fun z => absurd z (by decide)⟩
  · rw [if_neg g1]
    by_cases g2 : (pas1 E p t).1 = (pas1 E p t).2
    · rw [if_pos g2]
      exact ⟨Or.inr (Or.inl rfl), Or.inl rfl, fun _ => rfl, fun z => absurd z (by decide)⟩
    · rw [if_neg g2]
      refine ⟨key.1, key.2.1, fun z => ?_, fun _ => g2⟩
      rcases key.1 with q | q | q
      · exact absurd q g1
      · exact key.2.2 q
      · omega
theorem Wf.thing {E : Es} (hW : Wf E) {t x y : Nat} (ht : t < E 12 1) (h : (x = 12 ∨ x = 13 ∨ x < E 12 0) ∧ (y = 12 ∨ y < E 12 0) ∧ (12 ≤ x → y = 12) ∧ (y < 12 → x ≠ y)) : Wf (eu (eu E 8 t x) 9 t y) := by
  obtain ⟨a1, a2, a3, a4, a5, a6⟩ := hW
  refine ⟨by simpa [eu] using a1, by simpa [eu] using a2, by simpa [eu] using a3, fun p hp => ?_, fun t' ht' => ?_, fun k hk => ?_⟩
  · have := a4 p (by simpa [eu] using hp)
    simpa [WfP, eu] using this
  · have := a5 t' (by simpa [eu] using ht')
    by_cases e : t' = t
    · subst e
      have e8 : eu (eu E 8 t' x) 9 t' y 8 t' = x := by simp [eu]
      have e9 : eu (eu E 8 t' x) 9 t' y 9 t' = y := by simp [eu]
      have e6 : eu (eu E 8 t' x) 9 t' y 6 t' = E 6 t' := by simp [eu]
      have e7 : eu (eu E 8 t' x) 9 t' y 7 t' = E 7 t' := by simp [eu]
      have e0 : eu (eu E 8 t' x) 9 t' y 12 0 = E 12 0 := by simp [eu]
      unfold WfT
      rw [e8, e9, e6, e7, e0]
      exact ⟨this.1, this.2.1, h⟩
    · simpa [WfT, eu, e] using this
  · simpa [WfR, eu] using a6 k hk
theorem Wf_pst {E : Es} (hW : Wf E) {p t : Nat} (hp : p < E 12 0) (ht : t < E 12 1) : Wf (pst E p t) := hW.thing ht (pas_ok hW hp ht)
/-- the first n things have passed -/
def psn (E : Es) (p n : Nat) : Es := fun i j => if i = 8 ∧ j < n then (pas E p j).1 else if i = 9 ∧ j < n then (pas E p j).2 else E i j
theorem psn_0 (E : Es) (p : Nat) : psn E p 0 = E := by funext i j; simp [psn]
theorem pas_cong {E E' : Es} {p t : Nat} (h8 : E' 8 t = E 8 t) (h9 : E' 9 t = E 9 t) (h6 : E' 6 t = E 6 t) (hh : ∀ k, heir E' p k = heir E p k) : pas E' p t = pas E p t := by
  have : pas1 E' p t = pas1 E p t := by unfold pas1; rw [h8, h9, h6, hh, hh]
  unfold pas; rw [this]
theorem kin_psn (E : Es) (p n q r : Nat) : kin (psn E p n) q r = kin E q r := by
  simp [kin, psn, rel, chi, sib, cou, psb]
theorem heir_psn (E : Es) (p n q k : Nat) : heir (psn E p n) q k = heir E q k := by
  have key : ∀ m i, heiF (psn E p n) q k m i = heiF E q k m i := by
    intro m
    induction m with
    | zero => intro i; rfl
    | succ m ih => intro i; unfold heiF; rw [kin_psn, ih]; simp [psn]
  unfold heir
  rw [key]
  simp [psn]
theorem psn_s (E : Es) (p n : Nat) : psn E p (n + 1) = pst (psn E p n) p n := by
  have e : pas (psn E p n) p n = pas E p n := pas_cong (by simp [psn]) (by simp [psn]) (by simp [psn]) (fun k => heir_psn E p n p k)
  unfold pst
  rw [e]
  funext i j
  simp only [psn, eu]
  by_cases h9 : i = 9
  · subst h9
    by_cases hj : j = n
    · subst hj; simp
    · by_cases hl : j < n
      · have : j < n + 1 := by omega
        simp [hj, hl, this]
      · have : ¬ j < n + 1 := by omega
        simp [hj, hl, this]
  · by_cases h8 : i = 8
    · subst h8
      by_cases hj : j = n
      · subst hj; simp
      · by_cases hl : j < n
        · have : j < n + 1 := by omega
          simp [hj, hl, this]
        · have : ¬ j < n + 1 := by omega
          simp [hj, hl, this]
    · simp [h8, h9]
theorem psn_12 (E : Es) (p n j : Nat) : psn E p n 12 j = E 12 j := by simp [psn]
theorem Wf_psn {E : Es} (hW : Wf E) {p : Nat} (hp : p < E 12 0) : ∀ n, n ≤ E 12 1 → Wf (psn E p n)
  | 0, _ => by rw [psn_0]; exact hW
  | n + 1, h => by
    rw [psn_s]
    exact Wf_pst (Wf_psn hW hp n (by omega)) (by rw [psn_12]; exact hp) (by rw [psn_12]; omega)
/-- burying p: dead, the spouse has none -/
def bur (E : Es) (p : Nat) : Es := fun i j => if i = 5 ∧ j = p then 0 else if i = 3 ∧ E 3 p ≠ 12 ∧ j = E 3 p then 12 else E i j
theorem die_eq (E : Es) (p : Nat) : die E p = bur (psn E p (E 12 1)) p := by
  funext i j
  simp only [die, bur, psn]
  by_cases h8 : i = 8
  · subst h8; simp
  · by_cases h9 : i = 9
    · subst h9; simp
    · simp [h8, h9]
theorem lvm_bur {E : Es} {p : Nat} (hn : E 12 0 ≤ 12) (hp : p < 32) : lvm (bur E p) = lvm E &&& (2 ^ p ^^^ 4294967295) := by
  apply Nat.eq_of_testBit_eq
  intro j
  rw [Nat.testBit_and, tb_not, tb_2, lvm_tb, lvm_tb]
  have e : bur E p 12 0 = E 12 0 := by simp [bur]
  rw [e]
  by_cases hj : j = p
  · subst hj
    simp [bur, hp]
  · have h1 : bur E p 5 j = E 5 j := by simp [bur, hj]
    rw [h1]
    by_cases h32 : j < 32
    · simp [h32, Ne.symm hj]
    · have h33 : decide (j < E 12 0) = false := by simp; omega
      rw [h33]; simp
theorem Wf_bur {E : Es} (hW : Wf E) {p : Nat} (hp : p < E 12 0) (hl : E 5 p = 1) : Wf (bur E p) := by
  obtain ⟨a1, a2, a3, a4, a5, a6⟩ := hW
  have e0 : ∀ i j, i ≠ 5 → i ≠ 3 → bur E p i j = E i j := fun i j h5 h3 => by simp [bur, h5, h3]
  have e5 : ∀ j, bur E p 5 j = if j = p then 0 else E 5 j := fun j => by simp [bur]
  have e3 : ∀ j, bur E p 3 j = if E 3 p ≠ 12 ∧ j = E 3 p then 12 else E 3 j := fun j => by simp [bur]
  refine ⟨by rw [e0 12 0 (by decide) (by decide)]; exact a1, by rw [e0 12 1 (by decide) (by decide)]; exact a2, by rw [e0 12 2 (by decide) (by decide)]; exact a3, fun q hq => ?_, fun t ht => ?_, fun k hk => ?_⟩
  · rw [e0 12 0 (by decide) (by decide)] at hq
    obtain ⟨b1, b2, b3, b4, b5, b6, b7⟩ := a4 q hq
    have c7 := (a4 p hp).2.2.2.2.2.2 hl
    unfold WfP
    rw [e0 0 q (by decide) (by decide), e0 1 q (by decide) (by decide), e0 2 q (by decide) (by decide), e0 4 q (by decide) (by decide), e0 12 0 (by decide) (by decide), e0 0 _ (by decide) (by decide), e0 0 _ (by decide) (by decide), e0 0 _ (by decide) (by decide)]
    refine ⟨b1, ?_, b3, b4, ?_, b6, ?_⟩
    · rw [e5]; split <;> omega
    · rw [e3]
      split
      · exact Or.inl rfl
      · exact b5
    · intro g5 g3
      rw [e5] at g5
      have hqp : q ≠ p := by intro z; rw [if_pos z] at g5; cases g5
      rw [if_neg hqp] at g5
      have g4 : bur E p 3 q = E 3 q := by
        rw [e3] at g3 ⊢
        split
        · rename_i z; rw [if_pos z] at g3; exact absurd rfl g3
        · rfl
      rw [g4] at g3 ⊢
      have b8 := b7 g5 g3
      rw [e3, if_neg]
      · exact b8
      · rintro ⟨z1, z2⟩
        rw [z2, c7 z1] at b8
        exact hqp b8.symm
  · rw [e0 12 1 (by decide) (by decide)] at ht
    have := a5 t ht
    unfold WfT
    rw [e0 6 t (by decide) (by decide), e0 7 t (by decide) (by decide), e0 8 t (by decide) (by decide), e0 9 t (by decide) (by decide), e0 12 0 (by decide) (by decide)]
    exact this
  · have := a6 k hk
    unfold WfR
    rw [e0 11 k (by decide) (by decide)]
    exact ⟨this.1, this.2.1, fun i hi => by rw [e0 10 _ (by decide) (by decide)]; exact this.2.2 i hi⟩
theorem XE_bur {b p : Nat} {E : Es} {σ σ' : St} (hW : Wf E) (hE : XE b E σ) (hp : p < E 12 0) (h1 : σ' b 1 = nI (lvm E &&& (2 ^ p ^^^ 4294967295))) (h2 : ∀ q, q < E 12 0 → σ' (b + 6) q = if E 3 p ≠ 12 ∧ q = E 3 p then nI 12 else σ (b + 6) q) (hs : ∀ k j, (k = b ∧ j = 1) ∨ k = b + 6 ∨ σ' k j = σ k j) : XE b (bur E p) σ' := by
  obtain ⟨a1, a2, a3, a4, a5, a6, a7⟩ := hE
  have q1 : ∀ k j, ¬ (k = b ∧ j = 1) → k ≠ b + 6 → σ' k j = σ k j := fun k j g1 g2 => (hs k j).elim (fun z => absurd z g1) (fun z => z.elim (fun z => absurd z g2) id)
  have e0 : ∀ i j, i ≠ 5 → i ≠ 3 → bur E p i j = E i j := fun i j h5 h3 => by simp [bur, h5, h3]
  have e3 : ∀ j, bur E p 3 j = if E 3 p ≠ 12 ∧ j = E 3 p then 12 else E 3 j := fun j => by simp [bur]
  have hn := hW.1
  refine ⟨?_, ?_, ?_, ?_, fun q hq => ?_, fun t ht => ?_, fun k hk => ?_⟩
  · rw [q1 b 0 (by omega) (by omega), e0 12 0 (by decide) (by decide)]; exact a1
  · rw [h1, lvm_bur hn (by omega)]
  · rw [q1 b 7 (by omega) (by omega), e0 12 1 (by decide) (by decide)]; exact a3
  · rw [q1 b 14 (by omega) (by omega), e0 12 2 (by decide) (by decide)]; exact a4
  · rw [e0 12 0 (by decide) (by decide)] at hq
    have := a5 q hq
    rw [q1 (b + 3) q (by omega) (by omega), q1 (b + 4) q (by omega) (by omega), q1 (b + 5) q (by omega) (by omega), q1 (b + 7) q (by omega) (by omega), h2 q hq, e0 0 q (by decide) (by decide), e0 1 q (by decide) (by decide), e0 2 q (by decide) (by decide), e0 4 q (by decide) (by decide), e3]
    refine ⟨this.1, this.2.1, this.2.2.1, ?_, this.2.2.2.2⟩
    split
    · rfl
    · exact this.2.2.2.1
  · rw [e0 12 1 (by decide) (by decide)] at ht
    rw [q1 (b + 9) t (by omega) (by omega), q1 (b + 10) t (by omega) (by omega), q1 (b + 11) t (by omega) (by omega), q1 (b + 12) t (by omega) (by omega), e0 6 t (by decide) (by decide), e0 7 t (by decide) (by decide), e0 8 t (by decide) (by decide), e0 9 t (by decide) (by decide)]
    exact a6 t ht
  · have e8 : rw8 (bur E p) k = rw8 E k := by simp [rw8, bur]
    rw [q1 (b + 13) k (by omega) (by omega), q1 (b + 14) k (by omega) (by omega), e8, e0 11 k (by decide) (by decide)]
    exact a7 k hk
theorem x_bury {l : Launch} {b p : Nat} {E : Es} {σ : St} {K : Int32 → St → Prop} (hb : Eb b) (hW : Wf E) (hE : XE b E σ) (hp : p < E 12 0) (hK : ∀ σ', XE b (bur E p) σ' → FrE b σ σ' → K 0 σ') : CallAt l 25 [.ref b, .int (nI p)] σ K := by
  have hn12 := hW.1
  have hp12 := p12 hW hp
  have fp := hE.2.2.2.2.1 p hp
  have f3 := sp12 hW hp
  have w3 := (hW.2.2.2.1 p hp).2.2.2.2.1
  have e1 := n_shl1 p (by omega)
  refine CallAt.of (k := 25) (cd := k_X0_bury) ok_X0_bury (by decide) rfl rfl rfl ?_
  show V _ i_X0_bury k_X0_bury 0 [.ref b, .int (nI p), .null] [] _ _
  refine V_run ok_X0_bury 60 0 ?_
  simp (disch := omega) only [eng, c_X0_bury, r_X0_bury, tbl, true_and, Nat.reduceAdd, Nat.reduceLT, ↓reduceIte, n_eq, n_lt, n_le, n_cl, n_inT, nI_add, bI_eq0, bI_eq1, not_true_eq_false, not_false_eq_true, true_implies, false_implies, implies_true, and_true, Bool.not_eq_false, Bool.not_eq_true, Nat.reduceEqDiff, Nat.reduceLeDiff, Classical.not_not, List.length_cons, List.length_nil, Int.reduceAdd, z_cast, Nat.reducePow, false_or, Nat.reduceLT, Nat.sub_zero, Nat.le_refl, ebT hb, fp, e1, hE.2.1, n_not, wrq]
  try simp only [iteP, Classical.not_not, Bool.not_eq_false, Bool.not_eq_true]
  refine x_known hb ?_ hW.1 ?_
  · simp (disch := omega) only [wrq, hE.1]
  rw [inB_n (by omega)]
  simp (disch := omega) only [n_eq, n_lt, n_le, n_cl, n_inT, nI_add, bI_eq0, bI_eq1, not_true_eq_false, not_false_eq_true, true_implies, false_implies, implies_true, and_true, Bool.not_eq_false, Bool.not_eq_true, Nat.reduceEqDiff, Nat.reduceLeDiff, Classical.not_not, List.length_cons, List.length_nil, Int.reduceAdd, z_cast, Nat.reducePow, false_or, Nat.reduceLT, Nat.sub_zero, Nat.le_refl, true_and, ↓reduceIte, iteP, ebT hb, wrq, decide_eq_false_iff_not, decide_eq_true_eq]
  refine ⟨fun h => ?_, fun h => ?_⟩
  · refine hK _ (XE_bur hW hE hp (by simp (disch := omega) only [wrq]) (fun q hq => ?_) (fun k j => ?_)) (FrE.rfl'.wr (by omega))
    · rw [if_neg (by omega)]; simp (disch := omega) only [wrq]
    · by_cases z : k = b ∧ j = 1
      · exact Or.inl z
      · right; right; rw [wr_at, if_neg z]
  · refine ⟨n_in (by omega) (by omega), ?_⟩
    refine hK _ (XE_bur hW hE hp (by simp (disch := omega) only [wrq]) (fun q hq => ?_) (fun k j => ?_)) ((FrE.rfl'.wr (by omega)).wr (by omega))
    · rw [wr_at, wr_at]
      by_cases z : q = E 3 p
      · rw [if_pos ⟨rfl, z⟩, if_pos ⟨by omega, z⟩]
      · rw [if_neg (fun y => z y.2), if_neg (by omega), if_neg (fun y => z y.2)]
    · by_cases z : k = b ∧ j = 1
      · exact Or.inl z
      · by_cases z2 : k = b + 6
        · exact Or.inr (Or.inl z2)
        · right; right; rw [wr_at, wr_at, if_neg (fun y => z2 y.1), if_neg z]
theorem die_12 (E : Es) (p j : Nat) : die E p 12 j = E 12 j := by simp [die]
theorem Wf_die {E : Es} (hW : Wf E) {p : Nat} (hp : p < E 12 0) (hl : E 5 p = 1) : Wf (die E p) := by
  rw [die_eq]
  exact Wf_bur (Wf_psn hW hp _ (Nat.le_refl _)) (by rw [psn_12]; exact hp) (by simp [psn, hl])
theorem lp_death (l : Launch) {b p : Nat} {E : Es} {σ0 : St} {K : Int32 → St → Prop} (hb : Eb b) (hW : Wf E) (hp : p < E 12 0) (hl : E 5 p = 1) (hK : ∀ σ', XE b (die E p) σ' → FrE b σ0 σ' → K 0 σ') : ∀ (n t : Nat) (σ : St), t + n = E 12 1 → XE b (psn E p t) σ → FrE b σ0 σ → V l i_X0_death k_X0_death 7 [.ref b, .int (nI p), .int (nI t)] [] σ K
  | 0, t, σ, ht, hE, hf => by
    have ht : t = E 12 1 := by omega
    subst ht
    have h12 := hW.2.1
    have ht2 : σ b 7 = nI (E 12 1) := by rw [hE.2.2.1, psn_12]
    refine V_run ok_X0_death 50 7 ?_
    simp (disch := omega) only [eng, c_X0_death, r_X0_death, tbl, true_and, Nat.reduceAdd, Nat.reduceLT, ↓reduceIte, n_eq, n_lt, n_le, n_cl, n_inT, nI_add, bI_eq0, bI_eq1, not_true_eq_false, not_false_eq_true, true_implies, false_implies, implies_true, and_true, Bool.not_eq_false, Bool.not_eq_true, Nat.reduceEqDiff, Nat.reduceLeDiff, Classical.not_not, List.length_cons, List.length_nil, Int.reduceAdd, z_cast, Nat.reducePow, false_or, Nat.reduceLT, Nat.sub_zero, Nat.le_refl, ebT hb, ht2]
    try simp only [iteP, Classical.not_not, Bool.not_eq_false, Bool.not_eq_true]
    refine x_bury hb (Wf_psn hW hp _ (Nat.le_refl _)) hE (by rw [psn_12]; exact hp) (fun σ' hE' hf' => ?_)
    rw [← die_eq] at hE'
    exact hK σ' hE' (hf.trans hf')
  | n + 1, t, σ, ht, hE, hf => by
    have ht1 : t < E 12 1 := by omega
    have h12 := hW.2.1
    have ht2 : σ b 7 = nI (E 12 1) := by rw [hE.2.2.1, psn_12]
    refine V_run ok_X0_death 50 7 ?_
    simp (disch := omega) only [eng, c_X0_death, r_X0_death, tbl, true_and, Nat.reduceAdd, Nat.reduceLT, ↓reduceIte, n_eq, n_lt, n_le, n_cl, n_inT, nI_add, bI_eq0, bI_eq1, not_true_eq_false, not_false_eq_true, true_implies, false_implies, implies_true, and_true, Bool.not_eq_false, Bool.not_eq_true, Nat.reduceEqDiff, Nat.reduceLeDiff, Classical.not_not, List.length_cons, List.length_nil, Int.reduceAdd, z_cast, Nat.reducePow, false_or, Nat.reduceLT, Nat.sub_zero, Nat.le_refl, ebT hb, ht2, Nat.not_le.mpr ht1]
    try simp only [iteP, Classical.not_not, Bool.not_eq_false, Bool.not_eq_true]
    refine x_pass hb (Wf_psn hW hp t (by omega)) hE (by rw [psn_12]; exact ht1) (by rw [psn_12]; exact hp) (fun σ' hE' hf' => ?_)
    rw [← psn_s] at hE'
    exact lp_death l hb hW hp hl hK n (t + 1) σ' (by omega) hE' (hf.trans hf')
theorem x_death {l : Launch} {b p : Nat} {E : Es} {σ : St} {K : Int32 → St → Prop} (hb : Eb b) (hW : Wf E) (hE : XE b E σ) (hp : p < E 12 0) (hl : E 5 p = 1) (hK : ∀ σ', XE b (die E p) σ' → FrE b σ σ' → K 0 σ') : CallAt l 26 [.ref b, .int (nI p)] σ K := by
  have h12 := p12 hW hp
  refine CallAt.of (k := 26) (cd := k_X0_death) ok_X0_death (by decide) rfl rfl rfl ?_
  show V _ i_X0_death k_X0_death 0 [.ref b, .int (nI p), .null] [] _ _
  refine V_run ok_X0_death 50 0 ?_
  simp (disch := omega) only [eng, c_X0_death, r_X0_death, tbl, true_and, Nat.reduceAdd, Nat.reduceLT, ↓reduceIte, n_eq, n_lt, n_le, n_cl, n_inT, nI_add, bI_eq0, bI_eq1, not_true_eq_false, not_false_eq_true, true_implies, false_implies, implies_true, and_true, Bool.not_eq_false, Bool.not_eq_true, Nat.reduceEqDiff, Nat.reduceLeDiff, Classical.not_not, List.length_cons, List.length_nil, Int.reduceAdd, z_cast, Nat.reducePow, false_or, Nat.reduceLT, Nat.sub_zero, Nat.le_refl, ebT hb]
  try simp only [iteP, Classical.not_not, Bool.not_eq_false, Bool.not_eq_true]
  refine x_lives hb hW hE ?_
  rw [inB_n (by omega), n_cl (by omega)]
  simp (disch := omega) only [n_eq, n_lt, n_le, n_cl, n_inT, nI_add, bI_eq0, bI_eq1, not_true_eq_false, not_false_eq_true, true_implies, false_implies, implies_true, and_true, Bool.not_eq_false, Bool.not_eq_true, Nat.reduceEqDiff, Nat.reduceLeDiff, Classical.not_not, List.length_cons, List.length_nil, Int.reduceAdd, z_cast, Nat.reducePow, false_or, Nat.reduceLT, Nat.sub_zero, Nat.le_refl, true_and, ↓reduceIte, iteP, hp, hl, decide_true, beq_self_eq_true, Bool.and_self, Bool.true_eq_false]
  exact lp_death l hb hW hp hl hK (E 12 1) 0 σ (by omega) (by rw [psn_0]; exact hE) FrE.rfl'
