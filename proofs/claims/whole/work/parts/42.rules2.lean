theorem rowG_le {r : Nat} : ∀ {n i s : Nat}, rowG r n i s = true → ∀ j, i ≤ j → j < i + n → r / 2 ^ (3 * j) % 8 ≤ 5
  | 0, i, s, _, j, h1, h2 => by omega
  | n + 1, i, s, h, j, h1, h2 => by
    unfold rowG at h
    simp only [Bool.and_eq_true, decide_eq_true_eq] at h
    by_cases e : j = i
    · subst e; exact h.1.1
    · exact rowG_le h.2 j (by omega) (by omega)
theorem rwF_ok {tp : Nat → Nat} {ln : Nat} : ∀ (f i r p : Nat), i + f ≤ 3 → (i = 0 ∨ rowG r i 0 0 = true) → ((rwF tp ln f i r p).1 = 0 ∨ rowG (rwF tp ln f i r p).2.1 (rwF tp ln f i r p).1 0 0 = true)
  | 0, i, r, p, _, h => h
  | f + 1, i, r, p, hi, h => by
    unfold rwF
    split
    · rename_i hz
      exact rwF_ok f (i + 1) _ _ (by omega) (Or.inr hz.2.2)
    · exact h
theorem Wf_setR {E : Es} (hW : Wf E) {k r n : Nat} (hk : k < 4) (h1 : 1 ≤ n) (h3 : n ≤ 3) (hr : rowG r n 0 0 = true) : Wf (setR E k r n) := by
  obtain ⟨a1, a2, a3, a4, a5, a6⟩ := hW
  have e : ∀ i j, i ≠ 10 → i ≠ 11 → setR E k r n i j = E i j := fun i j h1 h2 => by simp [setR, h1, h2]
  refine ⟨by rw [e 12 0 (by decide) (by decide)]; exact a1, by rw [e 12 1 (by decide) (by decide)]; exact a2, by rw [e 12 2 (by decide) (by decide)]; exact a3, fun q hq => ?_, fun t ht => ?_, fun k' hk' => ?_⟩
  · have := a4 q (by rwa [e 12 0 (by decide) (by decide)] at hq)
    unfold WfP at this ⊢
    simpa [setR] using this
  · have := a5 t (by rwa [e 12 1 (by decide) (by decide)] at ht)
    unfold WfT at this ⊢
    simpa [setR] using this
  · by_cases z : k' = k
    · subst z
      have e11 : setR E k' r n 11 k' = n := by simp [setR]
      unfold WfR
      rw [e11]
      refine ⟨h1, h3, fun i hi => ?_⟩
      have e10 : setR E k' r n 10 (3 * k' + i) = r / 8 ^ i % 8 := by
        unfold setR
        rw [if_neg (by omega), if_pos (by omega)]
        congr 3; omega
      rw [e10, show (8 : Nat) ^ i = 2 ^ (3 * i) by rw [Nat.pow_mul]]
      exact rowG_le hr i (by omega) (by omega)
    · have := a6 k' hk'
      obtain ⟨-, e2⟩ := setR_other (E := E) (r := r) (n := n) z
      unfold WfR
      rw [e2]
      refine ⟨this.1, this.2.1, fun i hi => ?_⟩
      have e10 : setR E k r n 10 (3 * k' + i) = E 10 (3 * k' + i) := by
        have := this.2.1
        unfold setR
        rw [if_neg (by omega), if_neg (by omega)]
      rw [e10]; exact this.2.2 i hi
theorem x_readRow {l : Launch} {tp : Nat → Nat} {ln k p : Nat} {E : Es} {σ : St} {K : Int32 → St → Prop} (hw : TpW tp ln) (hk : k < 4) (hS : RdS tp ln E p σ) (hp : p ≤ ln)
    (hK : ∀ σ', (rwF tp ln 3 0 0 p).2.2 ≤ ln → (rwF tp ln 3 0 0 p).2.1 < 8 ^ (rwF tp ln 3 0 0 p).1 → (rwF tp ln 3 0 0 p).1 ≤ 3 → FrR σ σ' → ((rwF tp ln 3 0 0 p).1 = 0 → RdS tp ln E (rwF tp ln 3 0 0 p).2.2 σ') → ((rwF tp ln 3 0 0 p).1 ≠ 0 → RdS tp ln (setR E k (rwF tp ln 3 0 0 p).2.1 (rwF tp ln 3 0 0 p).1) (rwF tp ln 3 0 0 p).2.2 σ') → K (bI (decide ((rwF tp ln 3 0 0 p).1 ≠ 0))) σ') : CallAt l 70 [.ref 400, .ref 300, .int (nI k)] σ K := by
  refine CallAt.of (k := 70) (cd := k_X4_readRow) ok_X4_readRow (by decide) rfl rfl rfl ?_
  show V _ i_X4_readRow k_X4_readRow 0 [.ref 400, .ref 300, .int (nI k), .null, .null, .null, .null] [] _ _
  refine V_run ok_X4_readRow 60 0 ?_
  simp (disch := omega) only [eng, c_X4_readRow, r_X4_readRow, tbl, true_and, Nat.reduceAdd, Nat.reduceLT, ↓reduceIte, n_eq, n_lt, n_le, n_cl, n_inT, nI_add, bI_eq0, bI_eq1, not_true_eq_false, not_false_eq_true, true_implies, false_implies, implies_true, and_true, Bool.not_eq_false, Bool.not_eq_true, Nat.reduceEqDiff, Nat.reduceLeDiff, Classical.not_not, List.length_cons, List.length_nil, Int.reduceAdd, z_cast, Nat.reducePow, false_or, Nat.reduceLT, Nat.sub_zero, Nat.le_refl]
  try simp only [iteP, Classical.not_not, Bool.not_eq_false, Bool.not_eq_true]
  exact lp_row l hw hk 3 0 0 p σ (by omega) (by decide) hS FrR.rfl' hp hK _
def ruA (r : Bool × Nat × Es × Nat) : Int32 := if r.1 then nI r.2.2.2 else (-20) - nI r.2.1
theorem lp_rules (l : Launch) {tp : Nat → Nat} {ln : Nat} {σ0 : St} {K : Int32 → St → Prop} (hw : TpW tp ln) : ∀ (f s : Nat) (E : Es) (p : Nat) (σ : St), 0 < f → f ≤ 4 → s < 16 → Wf E → RdS tp ln E p σ → FrR σ0 σ → p ≤ ln → (∀ σ', Wf (ruR tp ln f s E p).2.2.1 → RdS tp ln (ruR tp ln f s E p).2.2.1 (ruR tp ln f s E p).2.1 σ' → FrR σ0 σ' → (ruR tp ln f s E p).2.1 ≤ ln → ((ruR tp ln f s E p).1 = true → 1 ≤ (ruR tp ln f s E p).2.2.2 ∧ (ruR tp ln f s E p).2.2.2 ≤ 4) → K (ruA (ruR tp ln f s E p)) σ') → ∀ v4 : Value, V l i_X4_readRules k_X4_readRules 4 [.ref 400, .ref 300, .int (nI s), .int (nI (5 - f)), v4] [] σ K
  | 0, s, E, p, σ, h0, _, _, _, _, _, _, _, _ => absurd h0 (Nat.lt_irrefl 0)
  | f + 1, s, E, p, σ, _, hf4, hs, hW, hS, hF, hp, hK, v4 => by
    have h1 : ¬ 4 < 5 - (f + 1) := by omega
    have hc := cN_lt hw p
    have hkd := kd_le (cN tp ln p)
    have hl := hw.1
    unfold ruR at hK
    refine V_run ok_X4_readRules 60 4 ?_
    simp (disch := omega) only [eng, c_X4_readRules, r_X4_readRules, tbl, true_and, Nat.reduceAdd, Nat.reduceLT, ↓reduceIte, n_eq, n_lt, n_le, n_cl, n_inT, nI_add, bI_eq0, bI_eq1, not_true_eq_false, not_false_eq_true, true_implies, false_implies, implies_true, and_true, Bool.not_eq_false, Bool.not_eq_true, Nat.reduceEqDiff, Nat.reduceLeDiff, Classical.not_not, List.length_cons, List.length_nil, Int.reduceAdd, z_cast, Nat.reducePow, false_or, Nat.reduceLT, Nat.sub_zero, Nat.le_refl, h1]
    try simp only [iteP, Classical.not_not, Bool.not_eq_false, Bool.not_eq_true]
    refine x_next hw hS.2.1 hS.2.2 hp ?_
    refine x_kindOf hc ?_
    rw [show (if cN tp ln p = 108 then 0 else if cN tp ln p = 100 then 1 else if cN tp ln p = 113 then 2 else if cN tp ln p = 106 then 3 else 4) = kd (cN tp ln p) from rfl]
    generalize hkk : kd (cN tp ln p) = k at hkd hK ⊢
    refine x_isKind ?_
    rw [inB_n (by omega)]
    have bad : ¬ (k < 4 ∧ s.testBit k = false) → CallAt l 62 [.ref 400] σ (fun r' σ' => K r' σ') := by
      intro z
      rw [if_neg z] at hK
      exact x_fault hS.2.2 (hK σ hW hS hF hp (fun z => nomatch z))
    by_cases hk4 : k < 4
    case neg =>
      simp (disch := omega) only [n_eq, n_lt, n_le, n_cl, n_inT, nI_add, bI_eq0, bI_eq1, not_true_eq_false, not_false_eq_true, true_implies, false_implies, implies_true, and_true, Bool.not_eq_false, Bool.not_eq_true, Nat.reduceEqDiff, Nat.reduceLeDiff, Classical.not_not, List.length_cons, List.length_nil, Int.reduceAdd, z_cast, Nat.reducePow, false_or, Nat.reduceLT, Nat.sub_zero, Nat.le_refl, true_and, ↓reduceIte, iteP, hk4, decide_false, Bool.false_eq_true]
      exact bad (fun z => hk4 z.1)
    simp (disch := omega) only [n_eq, n_lt, n_le, n_cl, n_inT, nI_add, bI_eq0, bI_eq1, not_true_eq_false, not_false_eq_true, true_implies, false_implies, implies_true, and_true, Bool.not_eq_false, Bool.not_eq_true, Nat.reduceEqDiff, Nat.reduceLeDiff, Classical.not_not, List.length_cons, List.length_nil, Int.reduceAdd, z_cast, Nat.reducePow, false_or, Nat.reduceLT, Nat.sub_zero, Nat.le_refl, true_and, ↓reduceIte, iteP, hk4, decide_true, Bool.true_eq_false]
    refine x_has (m := s) (j := k) (by omega) (by omega) ?_
    simp (disch := omega) only [n_eq, n_lt, n_le, n_cl, n_inT, nI_add, bI_eq0, bI_eq1, not_true_eq_false, not_false_eq_true, true_implies, false_implies, implies_true, and_true, Bool.not_eq_false, Bool.not_eq_true, Nat.reduceEqDiff, Nat.reduceLeDiff, Classical.not_not, List.length_cons, List.length_nil, Int.reduceAdd, z_cast, Nat.reducePow, false_or, Nat.reduceLT, Nat.sub_zero, Nat.le_refl, true_and, ↓reduceIte, iteP]
    refine ⟨fun hb => ?_, fun hb => bad (fun z => by rw [z.2] at hb; cases hb)⟩
    rw [if_pos ⟨hk4, hb⟩] at hK
    have hpl : p < ln := by
      refine cN_pos (c := cN tp ln p) ?_ rfl
      rcases Nat.eq_zero_or_pos (cN tp ln p) with z | z
      · rw [z] at hkk; have : kd 0 = 4 := rfl
        omega
      · exact z
    have hq := (nb_le (tp := tp) (show p + 1 ≤ ln by omega)).2
    refine x_step hw hS.2.1 hS.2.2 hpl ?_
    have hS1 : RdS tp ln E (nb tp ln (p + 1)) (wr σ 400 2 (nI (nb tp ln (p + 1)))) := hS.pl
    have hF1 : FrR σ0 (wr σ 400 2 (nI (nb tp ln (p + 1)))) := hF.trans FrR.pl
    refine x_skip (c := 58) hw hS1.2.1 hS1.2.2 hq (by decide) (by decide) (fun hz => ?_) (fun hz => ?_)
    · rw [if_neg hz] at hK
      simp (disch := omega) only [n_eq, n_lt, n_le, n_cl, n_inT, nI_add, bI_eq0, bI_eq1, not_true_eq_false, not_false_eq_true, true_implies, false_implies, implies_true, and_true, Bool.not_eq_false, Bool.not_eq_true, Nat.reduceEqDiff, Nat.reduceLeDiff, Classical.not_not, List.length_cons, List.length_nil, Int.reduceAdd, z_cast, Nat.reducePow, false_or, Nat.reduceLT, Nat.sub_zero, Nat.le_refl, true_and, ↓reduceIte, iteP]
      exact x_fault hS1.2.2 (hK _ hW hS1 hF1 hq (fun z => nomatch z))
    rw [if_pos hz] at hK
    have hpl2 : nb tp ln (p + 1) < ln := cN_pos (by decide) hz
    have hq2 := (nb_le (tp := tp) (show nb tp ln (p + 1) + 1 ≤ ln by omega)).2
    have hS2 : RdS tp ln E (nb tp ln (nb tp ln (p + 1) + 1)) (wr (wr σ 400 2 (nI (nb tp ln (p + 1)))) 400 2 (nI (nb tp ln (nb tp ln (p + 1) + 1)))) := hS1.pl
    have hF2 := hF1.trans (FrR.pl (σ := wr σ 400 2 (nI (nb tp ln (p + 1)))) (v := nI (nb tp ln (nb tp ln (p + 1) + 1))))
    have hok := rwF_ok (tp := tp) (ln := ln) 3 0 0 (nb tp ln (nb tp ln (p + 1) + 1)) (by omega) (Or.inl rfl)
    simp (disch := omega) only [n_eq, n_lt, n_le, n_cl, n_inT, nI_add, bI_eq0, bI_eq1, not_true_eq_false, not_false_eq_true, true_implies, false_implies, implies_true, and_true, Bool.not_eq_false, Bool.not_eq_true, Nat.reduceEqDiff, Nat.reduceLeDiff, Classical.not_not, List.length_cons, List.length_nil, Int.reduceAdd, z_cast, Nat.reducePow, false_or, Nat.reduceLT, Nat.sub_zero, Nat.le_refl, true_and, ↓reduceIte, iteP]
    refine x_readRow hw hk4 hS2 hq2 (fun σ3 k1 k2 k3 hF3 hS3 hS3' => ?_)
    have hF3 := hF2.trans hF3
    generalize rwF tp ln 3 0 0 (nb tp ln (nb tp ln (p + 1) + 1)) = r at hok k1 k2 k3 hS3 hS3' hK ⊢
    by_cases hr0 : r.1 = 0
    · rw [if_pos hr0] at hK
      simp (disch := omega) only [n_eq, n_lt, n_le, n_cl, n_inT, nI_add, bI_eq0, bI_eq1, not_true_eq_false, not_false_eq_true, true_implies, false_implies, implies_true, and_true, Bool.not_eq_false, Bool.not_eq_true, Nat.reduceEqDiff, Nat.reduceLeDiff, Classical.not_not, List.length_cons, List.length_nil, Int.reduceAdd, z_cast, Nat.reducePow, false_or, Nat.reduceLT, Nat.sub_zero, Nat.le_refl, true_and, ↓reduceIte, iteP, hr0, ne_eq, decide_false, Bool.false_eq_true]
      exact x_fault (hS3 hr0).2.2 (hK σ3 hW (hS3 hr0) hF3 k1 (fun z => nomatch z))
    rw [if_neg hr0] at hK
    have hS4 := hS3' hr0
    have hW4 : Wf (setR E k r.2.1 r.1) := Wf_setR hW hk4 (by omega) k3 (by rcases hok with z | z; exact absurd z hr0; exact z)
    have hc2 := cN_lt hw r.2.2
    simp (disch := omega) only [n_eq, n_lt, n_le, n_cl, n_inT, nI_add, bI_eq0, bI_eq1, not_true_eq_false, not_false_eq_true, true_implies, false_implies, implies_true, and_true, Bool.not_eq_false, Bool.not_eq_true, Nat.reduceEqDiff, Nat.reduceLeDiff, Classical.not_not, List.length_cons, List.length_nil, Int.reduceAdd, z_cast, Nat.reducePow, false_or, Nat.reduceLT, Nat.sub_zero, Nat.le_refl, true_and, ↓reduceIte, iteP, hr0, ne_eq, decide_true, Bool.true_eq_false]
    refine x_next hw hS4.2.1 hS4.2.2 k1 ?_
    by_cases hz2 : cN tp ln r.2.2 = 0
    · rw [if_pos hz2] at hK
      rw [hz2]
      simp (disch := omega) only [n_eq, n_lt, n_le, n_cl, n_inT, nI_add, bI_eq0, bI_eq1, not_true_eq_false, not_false_eq_true, true_implies, false_implies, implies_true, and_true, Bool.not_eq_false, Bool.not_eq_true, Nat.reduceEqDiff, Nat.reduceLeDiff, Classical.not_not, List.length_cons, List.length_nil, Int.reduceAdd, z_cast, Nat.reducePow, false_or, Nat.reduceLT, Nat.sub_zero, Nat.le_refl, true_and, ↓reduceIte, iteP]
      have := hK σ3 hW4 hS4 hF3 k1 (fun _ => by show 1 ≤ 4 - f ∧ 4 - f ≤ 4; omega)
      have e5 : 5 - (f + 1) = 4 - f := by omega
      rw [e5]
      exact this
    rw [if_neg hz2] at hK
    by_cases hf0 : f = 0
    · rw [if_pos (Or.inl hf0)] at hK
      have e4 : (5 - (f + 1) = 4) = True := eq_true (by omega)
      simp (disch := omega) only [n_eq, n_lt, n_le, n_cl, n_inT, nI_add, bI_eq0, bI_eq1, not_true_eq_false, not_false_eq_true, true_implies, false_implies, implies_true, and_true, Bool.not_eq_false, Bool.not_eq_true, Nat.reduceEqDiff, Nat.reduceLeDiff, Classical.not_not, List.length_cons, List.length_nil, Int.reduceAdd, z_cast, Nat.reducePow, false_or, Nat.reduceLT, Nat.sub_zero, Nat.le_refl, true_and, ↓reduceIte, iteP, hz2, e4]
      exact x_fault hS4.2.2 (hK σ3 hW4 hS4 hF3 k1 (fun z => nomatch z))
    · have e4 : (5 - (f + 1) = 4) = False := eq_false (by omega)
      simp (disch := omega) only [n_eq, n_lt, n_le, n_cl, n_inT, nI_add, bI_eq0, bI_eq1, not_true_eq_false, not_false_eq_true, true_implies, false_implies, implies_true, and_true, Bool.not_eq_false, Bool.not_eq_true, Nat.reduceEqDiff, Nat.reduceLeDiff, Classical.not_not, List.length_cons, List.length_nil, Int.reduceAdd, z_cast, Nat.reducePow, false_or, Nat.reduceLT, Nat.sub_zero, Nat.le_refl, true_and, ↓reduceIte, iteP, hz2, e4]
      refine x_skip (c := 59) hw hS4.2.1 hS4.2.2 k1 (by decide) (by decide) (fun hz => ?_) (fun hz => ?_)
      · rw [if_pos (Or.inr hz)] at hK
        simp (disch := omega) only [n_eq, n_lt, n_le, n_cl, n_inT, nI_add, bI_eq0, bI_eq1, not_true_eq_false, not_false_eq_true, true_implies, false_implies, implies_true, and_true, Bool.not_eq_false, Bool.not_eq_true, Nat.reduceEqDiff, Nat.reduceLeDiff, Classical.not_not, List.length_cons, List.length_nil, Int.reduceAdd, z_cast, Nat.reducePow, false_or, Nat.reduceLT, Nat.sub_zero, Nat.le_refl, true_and, ↓reduceIte, iteP]
        exact x_fault hS4.2.2 (hK σ3 hW4 hS4 hF3 k1 (fun z => nomatch z))
      · rw [if_neg (by omega)] at hK
        have hpl3 : r.2.2 < ln := cN_pos (by decide) hz
        have e2 := n_shl1 k (by omega)
        simp (disch := omega) only [n_eq, n_lt, n_le, n_cl, n_inT, nI_add, bI_eq0, bI_eq1, not_true_eq_false, not_false_eq_true, true_implies, false_implies, implies_true, and_true, Bool.not_eq_false, Bool.not_eq_true, Nat.reduceEqDiff, Nat.reduceLeDiff, Classical.not_not, List.length_cons, List.length_nil, Int.reduceAdd, z_cast, Nat.reducePow, false_or, Nat.reduceLT, Nat.sub_zero, Nat.le_refl, true_and, ↓reduceIte, iteP, e2, fa_or]
        rw [show 5 - (f + 1) + 1 = 5 - f by omega]
        exact lp_rules l hw f (s ||| 2 ^ k) _ (nb tp ln (r.2.2 + 1)) _ (by omega) (by omega) (Nat.or_lt_two_pow (n := 4) hs (Nat.pow_lt_pow_right (a := 2) (by decide) hk4)) hW4 hS4.pl (hF3.trans FrR.pl) (nb_le (by omega)).2 hK _
theorem x_readRules {l : Launch} {tp : Nat → Nat} {ln p : Nat} {E : Es} {σ : St} {K : Int32 → St → Prop} (hw : TpW tp ln) (hW : Wf E) (hS : RdS tp ln E p σ) (hp : p ≤ ln) (hK : ∀ σ', Wf (ruR tp ln 4 0 E p).2.2.1 → RdS tp ln (ruR tp ln 4 0 E p).2.2.1 (ruR tp ln 4 0 E p).2.1 σ' → FrR σ σ' → (ruR tp ln 4 0 E p).2.1 ≤ ln → ((ruR tp ln 4 0 E p).1 = true → 1 ≤ (ruR tp ln 4 0 E p).2.2.2 ∧ (ruR tp ln 4 0 E p).2.2.2 ≤ 4) → K (ruA (ruR tp ln 4 0 E p)) σ') : CallAt l 68 [.ref 400, .ref 300] σ K := by
  refine CallAt.of (k := 68) (cd := k_X4_readRules) ok_X4_readRules (by decide) rfl rfl rfl ?_
  show V _ i_X4_readRules k_X4_readRules 0 [.ref 400, .ref 300, .null, .null, .null] [] _ _
  refine V_run ok_X4_readRules 60 0 ?_
  simp (disch := omega) only [eng, c_X4_readRules, r_X4_readRules, tbl, true_and, Nat.reduceAdd, Nat.reduceLT, ↓reduceIte, n_eq, n_lt, n_le, n_cl, n_inT, nI_add, bI_eq0, bI_eq1, not_true_eq_false, not_false_eq_true, true_implies, false_implies, implies_true, and_true, Bool.not_eq_false, Bool.not_eq_true, Nat.reduceEqDiff, Nat.reduceLeDiff, Classical.not_not, List.length_cons, List.length_nil, Int.reduceAdd, z_cast, Nat.reducePow, false_or, Nat.reduceLT, Nat.sub_zero, Nat.le_refl]
  try simp only [iteP, Classical.not_not, Bool.not_eq_false, Bool.not_eq_true]
  exact lp_rules l hw 4 0 E p σ (by omega) (by omega) (by decide) hW hS FrR.rfl' hp hK _
