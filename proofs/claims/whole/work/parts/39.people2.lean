theorem Wf_joi2 {E : Es} (hW : Wf E) {a c : Nat} (h1 : a < E 12 0) (h2 : c < E 12 0) (h3 : E 0 a ≠ E 0 c) (h7 : E 3 a = 12) (h8 : E 3 c = 12) : Wf (joi E a c) := by
  obtain ⟨a1, a2, a3, a4, a5, a6⟩ := hW
  have hac : a ≠ c := by intro z; subst z; exact h3 rfl
  have e3 : ∀ j, joi E a c 3 j = if j = c then a else if j = a then c else E 3 j := fun j => by simp [joi]
  have e0 : ∀ i j, i ≠ 3 → joi E a c i j = E i j := fun i j h => joi_ne h
  refine ⟨by rw [e0 12 0 (by decide)]; exact a1, by rw [e0 12 1 (by decide)]; exact a2, by rw [e0 12 2 (by decide)]; exact a3, fun q hq => ?_, fun t ht => ?_, fun k hk => ?_⟩
  · rw [e0 12 0 (by decide)] at hq
    obtain ⟨b1, b2, b3, b4, b5, b6, b7⟩ := a4 q hq
    unfold WfP
    rw [e0 0 q (by decide), e0 1 q (by decide), e0 2 q (by decide), e0 4 q (by decide), e0 5 q (by decide), e0 12 0 (by decide), e0 0 _ (by decide), e0 0 _ (by decide), e0 0 _ (by decide)]
    refine ⟨b1, b2, b3, b4, ?_, b6, ?_⟩
    · rw [e3]
      by_cases z : q = c
      · subst z; rw [if_pos rfl]; exact Or.inr ⟨h1, h3⟩
      · rw [if_neg z]
        by_cases y : q = a
        · subst y; rw [if_pos rfl]; exact Or.inr ⟨h2, Ne.symm h3⟩
        · rw [if_neg y]; exact b5
    · intro g5 g3
      rw [e3 q] at g3 ⊢
      by_cases z : q = c
      · rw [if_pos z] at g3 ⊢
        rw [e3, if_neg hac, if_pos rfl, z]
      · rw [if_neg z] at g3 ⊢
        by_cases y : q = a
        · rw [if_pos y, e3, if_pos rfl, y]
        · rw [if_neg y] at g3 ⊢
          have b8 := b7 g5 g3
          rw [e3, if_neg (fun w => g3 (by rw [w] at b8; omega)), if_neg (fun w => g3 (by rw [w] at b8; omega))]
          exact b8
  · rw [e0 12 1 (by decide)] at ht
    have := a5 t ht
    unfold WfT
    rw [e0 6 t (by decide), e0 7 t (by decide), e0 8 t (by decide), e0 9 t (by decide), e0 12 0 (by decide)]
    exact this
  · have := a6 k hk
    unfold WfR
    rw [e0 11 k (by decide)]
    exact ⟨this.1, this.2.1, fun i hi => by rw [e0 10 _ (by decide)]; exact this.2.2 i hi⟩
theorem Wf_par {E : Es} (hW : Wf E) {i k v w : Nat} (hi : (i = 1 ∧ w = 0) ∨ (i = 2 ∧ w = 1)) (hv : v < k) (hs : E 0 v = w) : Wf (eu E i k v) := by
  obtain ⟨a1, a2, a3, a4, a5, a6⟩ := hW
  have e : ∀ i' j, i' ≠ i → eu E i k v i' j = E i' j := fun i' j h => by simp [eu, h]
  have hi' : i = 1 ∨ i = 2 := by omega
  refine ⟨by rw [e 12 0 (by omega)]; exact a1, by rw [e 12 1 (by omega)]; exact a2, by rw [e 12 2 (by omega)]; exact a3, fun q hq => ?_, fun t ht => ?_, fun k' hk => ?_⟩
  · rw [e 12 0 (by omega)] at hq
    obtain ⟨b1, b2, b3, b4, b5, b6, b7⟩ := a4 q hq
    unfold WfP
    rw [e 0 q (by omega), e 5 q (by omega), e 3 q (by omega), e 4 q (by omega), e 12 0 (by omega), e 0 _ (by omega), e 0 _ (by omega), e 0 _ (by omega), e 3 _ (by omega)]
    rcases hi with ⟨rfl, rfl⟩ | ⟨rfl, rfl⟩
    · rw [e 2 q (by decide)]
      refine ⟨b1, b2, ?_, b4, b5, b6, b7⟩
      by_cases z : q = k
      · subst z; right; simp [eu, hv, hs]
      · have : eu E 1 k v 1 q = E 1 q := by simp [eu, z]
        rw [this]; exact b3
    · rw [e 1 q (by decide)]
      refine ⟨b1, b2, b3, ?_, b5, b6, b7⟩
      by_cases z : q = k
      · subst z; right; simp [eu, hv, hs]
      · have : eu E 2 k v 2 q = E 2 q := by simp [eu, z]
        rw [this]; exact b4
  · rw [e 12 1 (by omega)] at ht
    have := a5 t ht
    unfold WfT
    rw [e 6 t (by omega), e 7 t (by omega), e 8 t (by omega), e 9 t (by omega), e 12 0 (by omega)]
    exact this
  · have := a6 k' hk
    unfold WfR
    rw [e 11 k' (by omega)]
    exact ⟨this.1, this.2.1, fun i' hi' => by rw [e 10 _ (by omega)]; exact this.2.2 i' hi'⟩
theorem par_pos {tp : Nat → Nat} {ln k w c p : Nat} {E : Es} (hc : 0 < c) (hp : p ≤ ln) : (par tp ln E k w c p).2.2 ≤ ln := by
  unfold par
  split
  · rename_i h
    have h1 : p < ln := cN_pos hc h
    have := nb_le (tp := tp) (show p + 1 ≤ ln by omega)
    split
    · rename_i h2
      have : nb tp ln (p + 1) < ln := cN_pos (tp := tp) (c := cN tp ln (nb tp ln (p + 1))) (by omega) rfl
      exact (nb_le (tp := tp) (show nb tp ln (p + 1) + 1 ≤ ln by omega)).2
    · exact this.2
  · exact hp
theorem par_ok {tp : Nat → Nat} {ln k w c p : Nat} {E : Es} (h : (par tp ln E k w c p).2.1 ≠ 12) : (par tp ln E k w c p).2.1 < k ∧ E 0 (par tp ln E k w c p).2.1 = w := by
  unfold par at h ⊢
  split
  · rename_i h1
    rw [if_pos h1] at h
    split
    · rename_i h2; exact h2.2
    · rename_i h2; rw [if_neg h2] at h; exact absurd rfl h
  · rename_i h1; rw [if_neg h1] at h; exact absurd rfl h
theorem spo_pos {tp : Nat → Nat} {ln k p : Nat} {E : Es} (hp : p ≤ ln) : (spo tp ln E k p).2.2 ≤ ln := by
  unfold spo
  split
  · rename_i h
    have h1 : p < ln := cN_pos (by decide) h
    have := nb_le (tp := tp) (show p + 1 ≤ ln by omega)
    split
    · rename_i h2
      have : nb tp ln (p + 1) < ln := cN_pos (tp := tp) (c := cN tp ln (nb tp ln (p + 1))) (by omega) rfl
      exact (nb_le (tp := tp) (show nb tp ln (p + 1) + 1 ≤ ln by omega)).2
    · exact this.2
  · exact hp
theorem spo_ok {tp : Nat → Nat} {ln k p : Nat} {E : Es} (h : (spo tp ln E k p).2.1 ≠ 12) : (spo tp ln E k p).2.1 < k ∧ E 0 (spo tp ln E k p).2.1 ≠ E 0 k ∧ E 3 (spo tp ln E k p).2.1 = 12 := by
  unfold spo at h ⊢
  split
  · rename_i h1
    rw [if_pos h1] at h
    split
    · rename_i h2; exact h2.2
    · rename_i h2; rw [if_neg h2] at h; exact absurd rfl h
  · rename_i h1; rw [if_neg h1] at h; exact absurd rfl h
theorem XE_joi {b a c : Nat} {E : Es} {σ : St} (hE : XE b E σ) : XE b (joi E a c) (wr (wr σ (b + 6) a (nI c)) (b + 6) c (nI a)) := by
  obtain ⟨a1, a2, a3, a4, a5, a6, a7⟩ := hE
  refine ⟨by simpa [wr_at, joi] using a1, ?_, by simpa [wr_at, joi] using a3, by simpa [wr_at, joi] using a4, ?_, ?_, ?_⟩
  · have : lvm (joi E a c) = lvm E := by simp [lvm, joi]
    rw [this]; simp [wr_at, a2]
  · intro p hp
    have := a5 p (by simpa [joi] using hp)
    by_cases e1 : p = c
    · subst e1; simp [wr_at, this, joi]
    · by_cases e2 : p = a
      · subst e2; simp [wr_at, this, joi, e1]
      · simp [wr_at, this, joi, e1, e2]
  · intro t ht
    have := a6 t (by simpa [joi] using ht)
    simp [wr_at, this, joi]
  · intro k hk
    have := a7 k hk
    have e8 : rw8 (joi E a c) k = rw8 E k := by simp [rw8, joi]
    rw [e8]
    simp [wr_at, this, joi]
theorem x_spo {l : Launch} {tp : Nat → Nat} {ln k p : Nat} {E : Es} {σ : St} {K : Int32 → St → Prop} (hw : TpW tp ln) (hW : Wf E) (hS : RdS tp ln E p σ) (hp : p ≤ ln) (hk : k < E 12 0)
    (hF : (spo tp ln E k p).1 = false → ∀ σ', RdS tp ln E (spo tp ln E k p).2.2 σ' → FrR σ σ' → K (nI 0) σ')
    (hK : (spo tp ln E k p).1 = true → ∀ σ', RdS tp ln (if (spo tp ln E k p).2.1 = 12 then E else joi E k (spo tp ln E k p).2.1) (spo tp ln E k p).2.2 σ' → FrR σ σ' → K (nI 1) σ') : CallAt l 67 [.ref 400, .ref 300, .int (nI k)] σ K := by
  have hl := hw.1
  have hn12 := hW.1
  have h12 := p12 hW hk
  by_cases h1 : cN tp ln p = 115
  case neg =>
    have e : spo tp ln E k p = (true, 12, p) := by unfold spo; rw [if_neg h1]
    rw [e] at hK
    have hz := hK rfl σ (by simpa using hS) FrR.rfl'
    refine CallAt.of (k := 67) (cd := k_X4_readSpouse) ok_X4_readSpouse (by decide) rfl rfl rfl ?_
    show V _ i_X4_readSpouse k_X4_readSpouse 0 [.ref 400, .ref 300, .int (nI k), .null, .null] [] _ _
    refine V_run ok_X4_readSpouse 60 0 ?_
    simp (disch := omega) only [eng, c_X4_readSpouse, r_X4_readSpouse, tbl, true_and, Nat.reduceAdd, Nat.reduceLT, ↓reduceIte, n_eq, n_lt, n_le, n_cl, n_inT, nI_add, bI_eq0, bI_eq1, not_true_eq_false, not_false_eq_true, true_implies, false_implies, implies_true, and_true, Bool.not_eq_false, Bool.not_eq_true, Nat.reduceEqDiff, Nat.reduceLeDiff, Classical.not_not, List.length_cons, List.length_nil, Int.reduceAdd, z_cast, Nat.reducePow, false_or, Nat.reduceLT, Nat.sub_zero, Nat.le_refl]
    try simp only [iteP, Classical.not_not, Bool.not_eq_false, Bool.not_eq_true]
    refine x_skip hw hS.2.1 hS.2.2 hp (by decide) (by decide) (fun _ => ?_) (fun z => absurd z h1)
    simp (disch := omega) only [n_eq, n_lt, n_le, n_cl, n_inT, nI_add, bI_eq0, bI_eq1, not_true_eq_false, not_false_eq_true, true_implies, false_implies, implies_true, and_true, Bool.not_eq_false, Bool.not_eq_true, Nat.reduceEqDiff, Nat.reduceLeDiff, Classical.not_not, List.length_cons, List.length_nil, Int.reduceAdd, z_cast, Nat.reducePow, false_or, Nat.reduceLT, Nat.sub_zero, Nat.le_refl, true_and, ↓reduceIte, iteP]
    exact hz
  have hpl : p < ln := cN_pos (by decide) h1
  have hq := nb_le (tp := tp) (show p + 1 ≤ ln by omega)
  have hc := cN_lt hw (nb tp ln (p + 1))
  have hS1 : RdS tp ln E (nb tp ln (p + 1)) (wr σ 400 2 (nI (nb tp ln (p + 1)))) := hS.pl
  have hsx := hS1.1.sx hW
  have t97 := i_sub97 _ hc
  have fk := hsx k hk
  unfold spo at hF hK
  rw [if_pos h1] at hF hK
  generalize hcv : cN tp ln (nb tp ln (p + 1)) = cv at hF hK hc t97
  have inb : inB (nI cv - nI 97) (E 12 0) = decide (97 ≤ cv ∧ cv - 97 < E 12 0) := by
    unfold inB
    rw [t97]
    congr 1
    apply propext
    omega
  have fin : ∀ j : Nat, 97 ≤ cv → j = cv - 97 → nI cv - nI 97 = nI j := fun j h1 h2 => by rw [pk_sub h1, h2]
  -- the sex that is sought
  have sought : ∀ w : Nat, w ≤ 1 → w ≠ E 0 k → ∀ K' : Int32 → St → Prop, (nI k ≤ nI cv - nI 97 → K' (nI 0) (wr σ 400 2 (nI (nb tp ln (p + 1))))) → (¬ nI k ≤ nI cv - nI 97 → CallAt l 5 [.ref 300, .int (nI cv - nI 97), .int (nI w)] (wr σ 400 2 (nI (nb tp ln (p + 1)))) (fun r' σ' => (r' = nI 0 → K' (nI 0) σ') ∧ (¬ r' = nI 0 → K' (nI 1) σ'))) → True := fun _ _ _ _ _ _ => trivial
  by_cases h3 : nI k ≤ nI cv - nI 97
  · have hneg : ¬ (97 ≤ cv ∧ cv - 97 < k ∧ E 0 (cv - 97) ≠ E 0 k ∧ E 3 (cv - 97) = 12) := by
      rw [i_le, t97, nI_nn k (by omega)] at h3
      omega
    rw [if_neg hneg] at hF
    have hz := hF rfl _ hS1 FrR.pl
    rcases Classical.propComplete (E 0 k = 0) with g | g
    all_goals
      refine CallAt.of (k := 67) (cd := k_X4_readSpouse) ok_X4_readSpouse (by decide) rfl rfl rfl ?_
      show V _ i_X4_readSpouse k_X4_readSpouse 0 [.ref 400, .ref 300, .int (nI k), .null, .null] [] _ _
      refine V_run ok_X4_readSpouse 60 0 ?_
      simp (disch := omega) only [eng, c_X4_readSpouse, r_X4_readSpouse, tbl, true_and, Nat.reduceAdd, Nat.reduceLT, ↓reduceIte, n_eq, n_lt, n_le, n_cl, n_inT, nI_add, bI_eq0, bI_eq1, not_true_eq_false, not_false_eq_true, true_implies, false_implies, implies_true, and_true, Bool.not_eq_false, Bool.not_eq_true, Nat.reduceEqDiff, Nat.reduceLeDiff, Classical.not_not, List.length_cons, List.length_nil, Int.reduceAdd, z_cast, Nat.reducePow, false_or, Nat.reduceLT, Nat.sub_zero, Nat.le_refl]
      try simp only [iteP, Classical.not_not, Bool.not_eq_false, Bool.not_eq_true]
      refine x_skip hw hS.2.1 hS.2.2 hp (by decide) (by decide) (fun z => absurd h1 z) (fun _ => ?_)
      simp (disch := omega) only [n_eq, n_lt, n_le, n_cl, n_inT, nI_add, bI_eq0, bI_eq1, not_true_eq_false, not_false_eq_true, true_implies, false_implies, implies_true, and_true, Bool.not_eq_false, Bool.not_eq_true, Nat.reduceEqDiff, Nat.reduceLeDiff, Classical.not_not, List.length_cons, List.length_nil, Int.reduceAdd, z_cast, Nat.reducePow, false_or, Nat.reduceLT, Nat.sub_zero, Nat.le_refl, true_and, ↓reduceIte, iteP]
      refine x_next hw hS1.2.1 hS1.2.2 hq.2 ?_
      rw [hcv]
      simp (disch := omega) only [n_eq, n_lt, n_le, n_cl, n_inT, nI_add, bI_eq0, bI_eq1, not_true_eq_false, not_false_eq_true, true_implies, false_implies, implies_true, and_true, Bool.not_eq_false, Bool.not_eq_true, Nat.reduceEqDiff, Nat.reduceLeDiff, Classical.not_not, List.length_cons, List.length_nil, Int.reduceAdd, z_cast, Nat.reducePow, false_or, Nat.reduceLT, Nat.sub_zero, Nat.le_refl, true_and, ↓reduceIte, iteP, fk, g, h3]
      exact hz
  have h3' : ¬ ((k : Int) ≤ (cv : Int) - 97) := by rw [i_le, t97, nI_nn k (by omega)] at h3; exact h3
  -- behind isOf
  have main : ∀ w : Nat, w ≤ 1 → w ≠ E 0 k → ∀ K' : Int32 → St → Prop, (97 ≤ cv ∧ E 0 (cv - 97) = w → K' (nI 1) (wr σ 400 2 (nI (nb tp ln (p + 1))))) → (¬ (97 ≤ cv ∧ E 0 (cv - 97) = w) → K' (nI 0) (wr σ 400 2 (nI (nb tp ln (p + 1))))) → CallAt l 5 [.ref 300, .int (nI cv - nI 97), .int (nI w)] (wr σ 400 2 (nI (nb tp ln (p + 1)))) K' := by
    intro w hw1 hwk K' y1 y2
    refine x_isOf (Or.inr (Or.inr (Or.inl rfl))) hS1.1.1 hn12 hsx hw1 ?_
    rw [inb]
    by_cases z : 97 ≤ cv
    · rw [fin _ z rfl, n_cl (by omega)]
      have : decide (97 ≤ cv ∧ cv - 97 < E 12 0) = true := by simp; omega
      rw [this]
      by_cases y : E 0 (cv - 97) = w
      · have := y1 ⟨z, y⟩
        have e : (E 0 (cv - 97) == w) = true := by simp [y]
        rw [e]; exact this
      · have := y2 (fun q => y q.2)
        have e : (E 0 (cv - 97) == w) = false := by simp [y]
        rw [e]; exact this
    · have : decide (97 ≤ cv ∧ cv - 97 < E 12 0) = false := by simp; omega
      rw [this]
      exact y2 (fun q => z q.1)
  have rest : ∀ w : Nat, w ≤ 1 → w ≠ E 0 k → (97 ≤ cv ∧ E 0 (cv - 97) = w) → E 3 (cv - 97) = 12 → CallAt l 58 [.ref 400] (wr (wr (wr σ 400 2 (nI (nb tp ln (p + 1)))) 306 k (nI (cv - 97))) 306 (cv - 97) (nI k)) (fun _ σ' => K (nI 1) σ') := by
    intro w hw1 hwk hy h12'
    have hpos : 97 ≤ cv ∧ cv - 97 < k ∧ E 0 (cv - 97) ≠ E 0 k ∧ E 3 (cv - 97) = 12 := ⟨hy.1, by omega, by rw [hy.2]; exact hwk, h12'⟩
    rw [if_pos hpos] at hK
    have hv12 : ¬ cv - 97 = 12 := by omega
    have hz := hK rfl
    rw [if_neg hv12] at hz
    have hpl2 : nb tp ln (p + 1) < ln := cN_pos (c := cv) (by omega) hcv
    have hS2 : RdS tp ln (joi E k (cv - 97)) (nb tp ln (p + 1)) (wr (wr (wr σ 400 2 (nI (nb tp ln (p + 1)))) 306 k (nI (cv - 97))) 306 (cv - 97) (nI k)) := hS1.es ((FrE.rfl'.wr (by omega)).wr (by omega)) (XE_joi hS1.1)
    refine x_step hw hS2.2.1 hS2.2.2 hpl2 ?_
    exact hz _ hS2.pl ((FrR.pl.trans (FrR.ofE ((FrE.rfl'.wr (by omega)).wr (by omega)))).trans FrR.pl)
  have no : ¬ (97 ≤ cv ∧ cv - 97 < k ∧ E 0 (cv - 97) ≠ E 0 k ∧ E 3 (cv - 97) = 12) → K (nI 0) (wr σ 400 2 (nI (nb tp ln (p + 1)))) := by
    intro hneg
    rw [if_neg hneg] at hF
    exact hF rfl _ hS1 FrR.pl
  have hk1 := (hW.2.2.2.1 k hk).1
  rcases (show E 0 k = 0 ∨ E 0 k = 1 by omega) with g | g
  · refine CallAt.of (k := 67) (cd := k_X4_readSpouse) ok_X4_readSpouse (by decide) rfl rfl rfl ?_
    show V _ i_X4_readSpouse k_X4_readSpouse 0 [.ref 400, .ref 300, .int (nI k), .null, .null] [] _ _
    refine V_run ok_X4_readSpouse 60 0 ?_
    simp (disch := omega) only [eng, c_X4_readSpouse, r_X4_readSpouse, tbl, true_and, Nat.reduceAdd, Nat.reduceLT, ↓reduceIte, n_eq, n_lt, n_le, n_cl, n_inT, nI_add, bI_eq0, bI_eq1, not_true_eq_false, not_false_eq_true, true_implies, false_implies, implies_true, and_true, Bool.not_eq_false, Bool.not_eq_true, Nat.reduceEqDiff, Nat.reduceLeDiff, Classical.not_not, List.length_cons, List.length_nil, Int.reduceAdd, z_cast, Nat.reducePow, false_or, Nat.reduceLT, Nat.sub_zero, Nat.le_refl]
    try simp only [iteP, Classical.not_not, Bool.not_eq_false, Bool.not_eq_true]
    refine x_skip hw hS.2.1 hS.2.2 hp (by decide) (by decide) (fun z => absurd h1 z) (fun _ => ?_)
    simp (disch := omega) only [n_eq, n_lt, n_le, n_cl, n_inT, nI_add, bI_eq0, bI_eq1, not_true_eq_false, not_false_eq_true, true_implies, false_implies, implies_true, and_true, Bool.not_eq_false, Bool.not_eq_true, Nat.reduceEqDiff, Nat.reduceLeDiff, Classical.not_not, List.length_cons, List.length_nil, Int.reduceAdd, z_cast, Nat.reducePow, false_or, Nat.reduceLT, Nat.sub_zero, Nat.le_refl, true_and, ↓reduceIte, iteP]
    refine x_next hw hS1.2.1 hS1.2.2 hq.2 ?_
    rw [hcv]
    simp (disch := omega) only [n_eq, n_lt, n_le, n_cl, n_inT, nI_add, bI_eq0, bI_eq1, not_true_eq_false, not_false_eq_true, true_implies, false_implies, implies_true, and_true, Bool.not_eq_false, Bool.not_eq_true, Nat.reduceEqDiff, Nat.reduceLeDiff, Classical.not_not, List.length_cons, List.length_nil, Int.reduceAdd, z_cast, Nat.reducePow, false_or, Nat.reduceLT, Nat.sub_zero, Nat.le_refl, true_and, ↓reduceIte, iteP, fk, g, h3]
    refine main 1 (by decide) (by omega) _ (fun y => ?_) (fun y => ?_)
    · have e := fin (cv - 97) y.1 rfl
      have fs3 := (hS1.1.2.2.2.2.1 (cv - 97) (by omega)).2.2.2.1
      have s12 := sp12 hW (show cv - 97 < E 12 0 by omega)
      simp (disch := omega) only [n_eq, n_lt, n_le, n_cl, n_inT, nI_add, bI_eq0, bI_eq1, not_true_eq_false, not_false_eq_true, true_implies, false_implies, implies_true, and_true, Bool.not_eq_false, Bool.not_eq_true, Nat.reduceEqDiff, Nat.reduceLeDiff, Classical.not_not, List.length_cons, List.length_nil, Int.reduceAdd, z_cast, Nat.reducePow, false_or, Nat.reduceLT, Nat.sub_zero, Nat.le_refl, true_and, ↓reduceIte, iteP, e, fs3]
      refine ⟨fun q => rest 1 (by decide) (by omega) y q, fun q => no (fun r => q r.2.2.2)⟩
    · simp (disch := omega) only [n_eq, n_lt, n_le, n_cl, n_inT, nI_add, bI_eq0, bI_eq1, not_true_eq_false, not_false_eq_true, true_implies, false_implies, implies_true, and_true, Bool.not_eq_false, Bool.not_eq_true, Nat.reduceEqDiff, Nat.reduceLeDiff, Classical.not_not, List.length_cons, List.length_nil, Int.reduceAdd, z_cast, Nat.reducePow, false_or, Nat.reduceLT, Nat.sub_zero, Nat.le_refl, true_and, ↓reduceIte, iteP]
      exact no (fun r => y ⟨r.1, by have := (hW.2.2.2.1 (cv - 97) (by omega)).1; have := r.2.2.1; omega⟩)
  · have g0 : ¬ E 0 k = 0 := by omega
    refine CallAt.of (k := 67) (cd := k_X4_readSpouse) ok_X4_readSpouse (by decide) rfl rfl rfl ?_
    show V _ i_X4_readSpouse k_X4_readSpouse 0 [.ref 400, .ref 300, .int (nI k), .null, .null] [] _ _
    refine V_run ok_X4_readSpouse 60 0 ?_
    simp (disch := omega) only [eng, c_X4_readSpouse, r_X4_readSpouse, tbl, true_and, Nat.reduceAdd, Nat.reduceLT, ↓reduceIte, n_eq, n_lt, n_le, n_cl, n_inT, nI_add, bI_eq0, bI_eq1, not_true_eq_false, not_false_eq_true, true_implies, false_implies, implies_true, and_true, Bool.not_eq_false, Bool.not_eq_true, Nat.reduceEqDiff, Nat.reduceLeDiff, Classical.not_not, List.length_cons, List.length_nil, Int.reduceAdd, z_cast, Nat.reducePow, false_or, Nat.reduceLT, Nat.sub_zero, Nat.le_refl]
    try simp only [iteP, Classical.not_not, Bool.not_eq_false, Bool.not_eq_true]
    refine x_skip hw hS.2.1 hS.2.2 hp (by decide) (by decide) (fun z => absurd h1 z) (fun _ => ?_)
    simp (disch := omega) only [n_eq, n_lt, n_le, n_cl, n_inT, nI_add, bI_eq0, bI_eq1, not_true_eq_false, not_false_eq_true, true_implies, false_implies, implies_true, and_true, Bool.not_eq_false, Bool.not_eq_true, Nat.reduceEqDiff, Nat.reduceLeDiff, Classical.not_not, List.length_cons, List.length_nil, Int.reduceAdd, z_cast, Nat.reducePow, false_or, Nat.reduceLT, Nat.sub_zero, Nat.le_refl, true_and, ↓reduceIte, iteP]
    refine x_next hw hS1.2.1 hS1.2.2 hq.2 ?_
    rw [hcv]
    simp (disch := omega) only [n_eq, n_lt, n_le, n_cl, n_inT, nI_add, bI_eq0, bI_eq1, not_true_eq_false, not_false_eq_true, true_implies, false_implies, implies_true, and_true, Bool.not_eq_false, Bool.not_eq_true, Nat.reduceEqDiff, Nat.reduceLeDiff, Classical.not_not, List.length_cons, List.length_nil, Int.reduceAdd, z_cast, Nat.reducePow, false_or, Nat.reduceLT, Nat.sub_zero, Nat.le_refl, true_and, ↓reduceIte, iteP, fk, g0, h3]
    refine main 0 (by decide) (by omega) _ (fun y => ?_) (fun y => ?_)
    · have e := fin (cv - 97) y.1 rfl
      have fs3 := (hS1.1.2.2.2.2.1 (cv - 97) (by omega)).2.2.2.1
      have s12 := sp12 hW (show cv - 97 < E 12 0 by omega)
      simp (disch := omega) only [n_eq, n_lt, n_le, n_cl, n_inT, nI_add, bI_eq0, bI_eq1, not_true_eq_false, not_false_eq_true, true_implies, false_implies, implies_true, and_true, Bool.not_eq_false, Bool.not_eq_true, Nat.reduceEqDiff, Nat.reduceLeDiff, Classical.not_not, List.length_cons, List.length_nil, Int.reduceAdd, z_cast, Nat.reducePow, false_or, Nat.reduceLT, Nat.sub_zero, Nat.le_refl, true_and, ↓reduceIte, iteP, e, fs3]
      refine ⟨fun q => rest 0 (by decide) (by omega) y q, fun q => no (fun r => q r.2.2.2)⟩
    · simp (disch := omega) only [n_eq, n_lt, n_le, n_cl, n_inT, nI_add, bI_eq0, bI_eq1, not_true_eq_false, not_false_eq_true, true_implies, false_implies, implies_true, and_true, Bool.not_eq_false, Bool.not_eq_true, Nat.reduceEqDiff, Nat.reduceLeDiff, Classical.not_not, List.length_cons, List.length_nil, Int.reduceAdd, z_cast, Nat.reducePow, false_or, Nat.reduceLT, Nat.sub_zero, Nat.le_refl, true_and, ↓reduceIte, iteP]
      exact no (fun r => y ⟨r.1, by have := (hW.2.2.2.1 (cv - 97) (by omega)).1; have := r.2.2.1; omega⟩)
