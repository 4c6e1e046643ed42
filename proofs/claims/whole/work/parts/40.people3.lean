section Rd2
variable (tp : Nat → Nat) (ln : Nat)
/-- one more: whether it can stand, the place, what is told then -/
def rdP (E : Es) (p : Nat) : Bool × Nat × Es :=
  if cN tp ln p = 119 ∨ cN tp ln p = 109 then
    let E1 := addE E (if cN tp ln p = 119 then 1 else 0) 12 12
    let f := par tp ln E1 (E 12 0) 0 102 (nb tp ln (p + 1))
    if f.1 then
      let E2 := if f.2.1 = 12 then E1 else eu E1 1 (E 12 0) f.2.1
      let m := par tp ln E2 (E 12 0) 1 111 f.2.2
      if m.1 then
        let E3 := if m.2.1 = 12 then E2 else eu E2 2 (E 12 0) m.2.1
        let s := spo tp ln E3 (E 12 0) m.2.2
        if s.1 then (true, s.2.2, if s.2.1 = 12 then E3 else joi E3 (E 12 0) s.2.1) else (false, s.2.2, E3)
      else (false, m.2.2, E2)
    else (false, f.2.2, E1)
  else (false, p, E)
def rdF : Nat → Es → Nat → Bool × Nat × Es
  | 0, E, p => (false, p, E)
  | n + 1, E, p =>
    if (rdP tp ln E p).1 then
      (if cN tp ln (rdP tp ln E p).2.1 = 0 then (true, (rdP tp ln E p).2.1, (rdP tp ln E p).2.2)
       else if n = 0 ∨ cN tp ln (rdP tp ln E p).2.1 ≠ 44 then (false, (rdP tp ln E p).2.1, (rdP tp ln E p).2.2)
       else rdF n (rdP tp ln E p).2.2 (nb tp ln ((rdP tp ln E p).2.1 + 1)))
    else (false, (rdP tp ln E p).2.1, (rdP tp ln E p).2.2)
end Rd2
theorem x_readPerson {l : Launch} {tp : Nat → Nat} {ln p : Nat} {E : Es} {σ : St} {K : Int32 → St → Prop} (hw : TpW tp ln) (hW : Wf E) (hS : RdS tp ln E p σ) (hp : p ≤ ln) (hn : E 12 0 < 12)
    (hK : ∀ σ', Wf (rdP tp ln E p).2.2 → RdS tp ln (rdP tp ln E p).2.2 (rdP tp ln E p).2.1 σ' → FrR σ σ' → (rdP tp ln E p).2.1 ≤ ln → ((rdP tp ln E p).1 = true → (rdP tp ln E p).2.2 12 0 = E 12 0 + 1) → K (bI (rdP tp ln E p).1) σ') : CallAt l 64 [.ref 400, .ref 300] σ K := by
  have hc := cN_lt hw p
  have hl := hw.1
  have main : ∀ s : Nat, s ≤ 1 → (cN tp ln p = 119 ∨ cN tp ln p = 109) → (if cN tp ln p = 119 then 1 else 0) = s → ∀ σ1, RdS tp ln E (nb tp ln (p + 1)) σ1 → FrR σ σ1 → CallAt l 8 [.ref 300, .int (nI s), .int (nI 12), .int (nI 12)] σ1 (fun r' σ' => CallAt l 3 [.ref 300, .int r'] σ' fun r2 σ' => (r2 = nI 0 → K (nI 0) σ') ∧ (¬ r2 = nI 0 → CallAt l 65 [.ref 400, .ref 300, .int r'] σ' fun r3 σ' => (r3 = nI 0 → K (nI 0) σ') ∧ (¬ r3 = nI 0 → CallAt l 66 [.ref 400, .ref 300, .int r'] σ' fun r4 σ' => (r4 = nI 0 → K (nI 0) σ') ∧ (¬ r4 = nI 0 → CallAt l 67 [.ref 400, .ref 300, .int r'] σ' fun r5 σ' => (r5 = nI 0 → K (nI 0) σ') ∧ (¬ r5 = nI 0 → K (nI 1) σ'))))) := by
    intro s hs hch hse σ1 hS1 hF1
    have hpl : p < ln := cN_pos (c := cN tp ln p) (by omega) rfl
    have hq := (nb_le (tp := tp) (show p + 1 ≤ ln by omega)).2
    unfold rdP at hK
    rw [if_pos hch, hse] at hK
    dsimp only at hK
    refine x_addPerson (Or.inr (Or.inr (Or.inl rfl))) hW hS1.1 (fun z => absurd z (by omega)) (fun _ σ2 hE2 hf2 => ?_)
    have hS2 : RdS tp ln (addE E s 12 12) (nb tp ln (p + 1)) σ2 := hS1.es hf2 hE2
    have hW2 : Wf (addE E s 12 12) := Wf_addE hW hn hs (Or.inl rfl) (Or.inl rfl)
    have n2 : addE E s 12 12 12 0 = E 12 0 + 1 := by simp [addE]
    have hk2 : E 12 0 < addE E s 12 12 12 0 := by omega
    have hF2 := hF1.trans (FrR.ofE hf2)
    refine x_known (Or.inr (Or.inr (Or.inl rfl))) hE2.1 hW2.1 ?_
    rw [inB_n (by omega)]
    simp (disch := omega) only [n_eq, n_lt, n_le, n_cl, n_inT, nI_add, bI_eq0, bI_eq1, not_true_eq_false, not_false_eq_true, true_implies, false_implies, implies_true, and_true, Bool.not_eq_false, Bool.not_eq_true, Nat.reduceEqDiff, Nat.reduceLeDiff, Classical.not_not, List.length_cons, List.length_nil, Int.reduceAdd, z_cast, Nat.reducePow, false_or, Nat.reduceLT, Nat.sub_zero, Nat.le_refl, true_and, ↓reduceIte, iteP, hk2, decide_true, Bool.true_eq_false]
    refine x_par 65 1 0 102 (Or.inl ⟨rfl, rfl, rfl, rfl⟩) hw hW2 hS2 hq hk2 (fun hf σ3 hS3 hF3 => ?_) (fun hf σ3 hS3 hF3 => ?_)
    · rw [hf] at hK
      simp (disch := omega) only [n_eq, n_lt, n_le, n_cl, n_inT, nI_add, bI_eq0, bI_eq1, not_true_eq_false, not_false_eq_true, true_implies, false_implies, implies_true, and_true, Bool.not_eq_false, Bool.not_eq_true, Nat.reduceEqDiff, Nat.reduceLeDiff, Classical.not_not, List.length_cons, List.length_nil, Int.reduceAdd, z_cast, Nat.reducePow, false_or, Nat.reduceLT, Nat.sub_zero, Nat.le_refl, true_and, ↓reduceIte, iteP]
      exact hK σ3 hW2 hS3 (hF2.trans hF3) (par_pos (by decide) hq) (fun z => by cases z)
    rw [hf, if_pos rfl] at hK
    generalize hfe : par tp ln (addE E s 12 12) (E 12 0) 0 102 (nb tp ln (p + 1)) = f at hf hK hS3
    have hp3 : f.2.2 ≤ ln := by rw [← hfe]; exact par_pos (by decide) hq
    have hW3 : Wf (if f.2.1 = 12 then addE E s 12 12 else eu (addE E s 12 12) 1 (E 12 0) f.2.1) := by
      split
      · exact hW2
      · rename_i z
        have := par_ok (tp := tp) (ln := ln) (k := E 12 0) (w := 0) (c := 102) (p := nb tp ln (p + 1)) (E := addE E s 12 12) (by rw [hfe]; exact z)
        rw [hfe] at this
        exact Wf_par hW2 (Or.inl ⟨rfl, rfl⟩) this.1 this.2
    generalize hE3 : (if f.2.1 = 12 then addE E s 12 12 else eu (addE E s 12 12) 1 (E 12 0) f.2.1) = E3 at hK hS3 hW3
    have n3 : E3 12 0 = E 12 0 + 1 := by rw [← hE3]; split <;> simp [eu, n2]
    have hF3 := hF2.trans hF3
    simp (disch := omega) only [n_eq, n_lt, n_le, n_cl, n_inT, nI_add, bI_eq0, bI_eq1, not_true_eq_false, not_false_eq_true, true_implies, false_implies, implies_true, and_true, Bool.not_eq_false, Bool.not_eq_true, Nat.reduceEqDiff, Nat.reduceLeDiff, Classical.not_not, List.length_cons, List.length_nil, Int.reduceAdd, z_cast, Nat.reducePow, false_or, Nat.reduceLT, Nat.sub_zero, Nat.le_refl, true_and, ↓reduceIte, iteP]
    refine x_par 66 2 1 111 (Or.inr ⟨rfl, rfl, rfl, rfl⟩) hw hW3 hS3 hp3 (by omega) (fun hf σ4 hS4 hF4 => ?_) (fun hf σ4 hS4 hF4 => ?_)
    · rw [hf] at hK
      simp (disch := omega) only [n_eq, n_lt, n_le, n_cl, n_inT, nI_add, bI_eq0, bI_eq1, not_true_eq_false, not_false_eq_true, true_implies, false_implies, implies_true, and_true, Bool.not_eq_false, Bool.not_eq_true, Nat.reduceEqDiff, Nat.reduceLeDiff, Classical.not_not, List.length_cons, List.length_nil, Int.reduceAdd, z_cast, Nat.reducePow, false_or, Nat.reduceLT, Nat.sub_zero, Nat.le_refl, true_and, ↓reduceIte, iteP]
      exact hK σ4 hW3 hS4 (hF3.trans hF4) (par_pos (by decide) hp3) (fun z => by cases z)
    rw [hf, if_pos rfl] at hK
    generalize hme : par tp ln E3 (E 12 0) 1 111 f.2.2 = m at hf hK hS4
    have hp4 : m.2.2 ≤ ln := by rw [← hme]; exact par_pos (by decide) hp3
    have hW4 : Wf (if m.2.1 = 12 then E3 else eu E3 2 (E 12 0) m.2.1) := by
      split
      · exact hW3
      · rename_i z
        have := par_ok (tp := tp) (ln := ln) (k := E 12 0) (w := 1) (c := 111) (p := f.2.2) (E := E3) (by rw [hme]; exact z)
        rw [hme] at this
        exact Wf_par hW3 (Or.inr ⟨rfl, rfl⟩) this.1 this.2
    generalize hE4 : (if m.2.1 = 12 then E3 else eu E3 2 (E 12 0) m.2.1) = E4 at hK hS4 hW4
    have n4 : E4 12 0 = E 12 0 + 1 := by rw [← hE4]; split <;> simp [eu, n3]
    have sp4 : E4 3 (E 12 0) = 12 := by
      rw [← hE4, ← hE3]
      split <;> split <;> simp [eu, addE]
    have hF4 := hF3.trans hF4
    simp (disch := omega) only [n_eq, n_lt, n_le, n_cl, n_inT, nI_add, bI_eq0, bI_eq1, not_true_eq_false, not_false_eq_true, true_implies, false_implies, implies_true, and_true, Bool.not_eq_false, Bool.not_eq_true, Nat.reduceEqDiff, Nat.reduceLeDiff, Classical.not_not, List.length_cons, List.length_nil, Int.reduceAdd, z_cast, Nat.reducePow, false_or, Nat.reduceLT, Nat.sub_zero, Nat.le_refl, true_and, ↓reduceIte, iteP]
    refine x_spo hw hW4 hS4 hp4 (by omega) (fun hf σ5 hS5 hF5 => ?_) (fun hf σ5 hS5 hF5 => ?_)
    · rw [hf] at hK
      simp (disch := omega) only [n_eq, n_lt, n_le, n_cl, n_inT, nI_add, bI_eq0, bI_eq1, not_true_eq_false, not_false_eq_true, true_implies, false_implies, implies_true, and_true, Bool.not_eq_false, Bool.not_eq_true, Nat.reduceEqDiff, Nat.reduceLeDiff, Classical.not_not, List.length_cons, List.length_nil, Int.reduceAdd, z_cast, Nat.reducePow, false_or, Nat.reduceLT, Nat.sub_zero, Nat.le_refl, true_and, ↓reduceIte, iteP]
      exact hK σ5 hW4 hS5 (hF4.trans hF5) (spo_pos hp4) (fun z => by cases z)
    rw [hf, if_pos rfl] at hK
    generalize hse2 : spo tp ln E4 (E 12 0) m.2.2 = sv at hf hK hS5
    have hW5 : Wf (if sv.2.1 = 12 then E4 else joi E4 (E 12 0) sv.2.1) := by
      split
      · exact hW4
      · rename_i z
        have := spo_ok (tp := tp) (ln := ln) (k := E 12 0) (p := m.2.2) (E := E4) (by rw [hse2]; exact z)
        rw [hse2] at this
        exact Wf_joi2 hW4 (by omega) (by omega) (Ne.symm this.2.1) sp4 this.2.2
    simp (disch := omega) only [n_eq, n_lt, n_le, n_cl, n_inT, nI_add, bI_eq0, bI_eq1, not_true_eq_false, not_false_eq_true, true_implies, false_implies, implies_true, and_true, Bool.not_eq_false, Bool.not_eq_true, Nat.reduceEqDiff, Nat.reduceLeDiff, Classical.not_not, List.length_cons, List.length_nil, Int.reduceAdd, z_cast, Nat.reducePow, false_or, Nat.reduceLT, Nat.sub_zero, Nat.le_refl, true_and, ↓reduceIte, iteP]
    exact hK σ5 hW5 hS5 (hF4.trans hF5) (by rw [← hse2]; exact spo_pos hp4) (fun _ => by dsimp only; split <;> simp [joi, n4])
  by_cases h1 : cN tp ln p = 119
  · have hpl : p < ln := cN_pos (by decide) h1
    refine CallAt.of (k := 64) (cd := k_X4_readPerson) ok_X4_readPerson (by decide) rfl rfl rfl ?_
    show V _ i_X4_readPerson k_X4_readPerson 0 [.ref 400, .ref 300, .null, .null] [] _ _
    refine V_run ok_X4_readPerson 60 0 ?_
    simp (disch := omega) only [eng, c_X4_readPerson, r_X4_readPerson, tbl, true_and, Nat.reduceAdd, Nat.reduceLT, ↓reduceIte, n_eq, n_lt, n_le, n_cl, n_inT, nI_add, bI_eq0, bI_eq1, not_true_eq_false, not_false_eq_true, true_implies, false_implies, implies_true, and_true, Bool.not_eq_false, Bool.not_eq_true, Nat.reduceEqDiff, Nat.reduceLeDiff, Classical.not_not, List.length_cons, List.length_nil, Int.reduceAdd, z_cast, Nat.reducePow, false_or, Nat.reduceLT, Nat.sub_zero, Nat.le_refl]
    try simp only [iteP, Classical.not_not, Bool.not_eq_false, Bool.not_eq_true]
    refine x_next hw hS.2.1 hS.2.2 hp ?_
    rw [h1]
    simp (disch := omega) only [n_eq, n_lt, n_le, n_cl, n_inT, nI_add, bI_eq0, bI_eq1, not_true_eq_false, not_false_eq_true, true_implies, false_implies, implies_true, and_true, Bool.not_eq_false, Bool.not_eq_true, Nat.reduceEqDiff, Nat.reduceLeDiff, Classical.not_not, List.length_cons, List.length_nil, Int.reduceAdd, z_cast, Nat.reducePow, false_or, Nat.reduceLT, Nat.sub_zero, Nat.le_refl, true_and, ↓reduceIte, iteP]
    refine x_step hw hS.2.1 hS.2.2 hpl ?_
    exact main 1 (by decide) (Or.inl h1) (by simp [h1]) _ hS.pl FrR.pl
  · by_cases h2 : cN tp ln p = 109
    · have hpl : p < ln := cN_pos (by decide) h2
      refine CallAt.of (k := 64) (cd := k_X4_readPerson) ok_X4_readPerson (by decide) rfl rfl rfl ?_
      show V _ i_X4_readPerson k_X4_readPerson 0 [.ref 400, .ref 300, .null, .null] [] _ _
      refine V_run ok_X4_readPerson 60 0 ?_
      simp (disch := omega) only [eng, c_X4_readPerson, r_X4_readPerson, tbl, true_and, Nat.reduceAdd, Nat.reduceLT, ↓reduceIte, n_eq, n_lt, n_le, n_cl, n_inT, nI_add, bI_eq0, bI_eq1, not_true_eq_false, not_false_eq_true, true_implies, false_implies, implies_true, and_true, Bool.not_eq_false, Bool.not_eq_true, Nat.reduceEqDiff, Nat.reduceLeDiff, Classical.not_not, List.length_cons, List.length_nil, Int.reduceAdd, z_cast, Nat.reducePow, false_or, Nat.reduceLT, Nat.sub_zero, Nat.le_refl]
      try simp only [iteP, Classical.not_not, Bool.not_eq_false, Bool.not_eq_true]
      refine x_next hw hS.2.1 hS.2.2 hp ?_
      rw [h2]
      simp (disch := omega) only [n_eq, n_lt, n_le, n_cl, n_inT, nI_add, bI_eq0, bI_eq1, not_true_eq_false, not_false_eq_true, true_implies, false_implies, implies_true, and_true, Bool.not_eq_false, Bool.not_eq_true, Nat.reduceEqDiff, Nat.reduceLeDiff, Classical.not_not, List.length_cons, List.length_nil, Int.reduceAdd, z_cast, Nat.reducePow, false_or, Nat.reduceLT, Nat.sub_zero, Nat.le_refl, true_and, ↓reduceIte, iteP]
      refine x_next hw hS.2.1 hS.2.2 hp ?_
      rw [h2]
      simp (disch := omega) only [n_eq, n_lt, n_le, n_cl, n_inT, nI_add, bI_eq0, bI_eq1, not_true_eq_false, not_false_eq_true, true_implies, false_implies, implies_true, and_true, Bool.not_eq_false, Bool.not_eq_true, Nat.reduceEqDiff, Nat.reduceLeDiff, Classical.not_not, List.length_cons, List.length_nil, Int.reduceAdd, z_cast, Nat.reducePow, false_or, Nat.reduceLT, Nat.sub_zero, Nat.le_refl, true_and, ↓reduceIte, iteP]
      refine x_step hw hS.2.1 hS.2.2 hpl ?_
      exact main 0 (by decide) (Or.inr h2) (by simp [h2]) _ hS.pl FrR.pl
    · have e : rdP tp ln E p = (false, p, E) := by unfold rdP; rw [if_neg (by omega)]
      rw [e] at hK
      have hz := hK σ hW hS FrR.rfl' hp (fun z => by cases z)
      refine CallAt.of (k := 64) (cd := k_X4_readPerson) ok_X4_readPerson (by decide) rfl rfl rfl ?_
      show V _ i_X4_readPerson k_X4_readPerson 0 [.ref 400, .ref 300, .null, .null] [] _ _
      refine V_run ok_X4_readPerson 60 0 ?_
      simp (disch := omega) only [eng, c_X4_readPerson, r_X4_readPerson, tbl, true_and, Nat.reduceAdd, Nat.reduceLT, ↓reduceIte, n_eq, n_lt, n_le, n_cl, n_inT, nI_add, bI_eq0, bI_eq1, not_true_eq_false, not_false_eq_true, true_implies, false_implies, implies_true, and_true, Bool.not_eq_false, Bool.not_eq_true, Nat.reduceEqDiff, Nat.reduceLeDiff, Classical.not_not, List.length_cons, List.length_nil, Int.reduceAdd, z_cast, Nat.reducePow, false_or, Nat.reduceLT, Nat.sub_zero, Nat.le_refl]
      try simp only [iteP, Classical.not_not, Bool.not_eq_false, Bool.not_eq_true]
      refine x_next hw hS.2.1 hS.2.2 hp ?_
      simp (disch := omega) only [n_eq, n_lt, n_le, n_cl, n_inT, nI_add, bI_eq0, bI_eq1, not_true_eq_false, not_false_eq_true, true_implies, false_implies, implies_true, and_true, Bool.not_eq_false, Bool.not_eq_true, Nat.reduceEqDiff, Nat.reduceLeDiff, Classical.not_not, List.length_cons, List.length_nil, Int.reduceAdd, z_cast, Nat.reducePow, false_or, Nat.reduceLT, Nat.sub_zero, Nat.le_refl, true_and, ↓reduceIte, iteP, h1]
      refine x_next hw hS.2.1 hS.2.2 hp ?_
      simp (disch := omega) only [n_eq, n_lt, n_le, n_cl, n_inT, nI_add, bI_eq0, bI_eq1, not_true_eq_false, not_false_eq_true, true_implies, false_implies, implies_true, and_true, Bool.not_eq_false, Bool.not_eq_true, Nat.reduceEqDiff, Nat.reduceLeDiff, Classical.not_not, List.length_cons, List.length_nil, Int.reduceAdd, z_cast, Nat.reducePow, false_or, Nat.reduceLT, Nat.sub_zero, Nat.le_refl, true_and, ↓reduceIte, iteP, h2]
      exact hz
/-- the number read, or the fault -/
def rdR (r : Bool × Nat × Es) : Int32 := if r.1 then nI (r.2.2 12 0) else (-20) - nI r.2.1
theorem lp_people (l : Launch) {tp : Nat → Nat} {ln : Nat} {σ0 : St} {K : Int32 → St → Prop} (hw : TpW tp ln) : ∀ (n : Nat) (E : Es) (p : Nat) (σ : St), E 12 0 + n = 12 → 0 < n → Wf E → RdS tp ln E p σ → FrR σ0 σ → p ≤ ln → (∀ σ', Wf (rdF tp ln n E p).2.2 → RdS tp ln (rdF tp ln n E p).2.2 (rdF tp ln n E p).2.1 σ' → FrR σ0 σ' → (rdF tp ln n E p).2.1 ≤ ln → ((rdF tp ln n E p).1 = true → 1 ≤ (rdF tp ln n E p).2.2 12 0) → K (rdR (rdF tp ln n E p)) σ') → V l i_X4_readPeople k_X4_readPeople 2 [.ref 400, .ref 300, .int (nI (E 12 0 + 1))] [] σ K
  | 0, E, p, σ, hn, h0, hW, hS, hF, hp, hK => absurd h0 (Nat.lt_irrefl 0)
  | n + 1, E, p, σ, hn, _, hW, hS, hF, hp, hK => by
    have h1 : ¬ 12 < E 12 0 + 1 := by omega
    unfold rdF at hK
    refine V_run ok_X4_readPeople 60 2 ?_
    simp (disch := omega) only [eng, c_X4_readPeople, r_X4_readPeople, tbl, true_and, Nat.reduceAdd, Nat.reduceLT, ↓reduceIte, n_eq, n_lt, n_le, n_cl, n_inT, nI_add, bI_eq0, bI_eq1, not_true_eq_false, not_false_eq_true, true_implies, false_implies, implies_true, and_true, Bool.not_eq_false, Bool.not_eq_true, Nat.reduceEqDiff, Nat.reduceLeDiff, Classical.not_not, List.length_cons, List.length_nil, Int.reduceAdd, z_cast, Nat.reducePow, false_or, Nat.reduceLT, Nat.sub_zero, Nat.le_refl, h1]
    try simp only [iteP, Classical.not_not, Bool.not_eq_false, Bool.not_eq_true]
    refine x_readPerson hw hW hS hp (by omega) (fun σ1 hW1 hS1 hF1 hp1 hn1 => ?_)
    generalize rdP tp ln E p = r at hW1 hS1 hp1 hn1 hK
    have hcn := cN_lt hw r.2.1
    have hl := hw.1
    have hFt := hF.trans hF1
    cases hr : r.1 with
    | false =>
      rw [hr] at hK
      simp (disch := omega) only [n_eq, n_lt, n_le, n_cl, n_inT, nI_add, bI_eq0, bI_eq1, not_true_eq_false, not_false_eq_true, true_implies, false_implies, implies_true, and_true, Bool.not_eq_false, Bool.not_eq_true, Nat.reduceEqDiff, Nat.reduceLeDiff, Classical.not_not, List.length_cons, List.length_nil, Int.reduceAdd, z_cast, Nat.reducePow, false_or, Nat.reduceLT, Nat.sub_zero, Nat.le_refl, true_and, ↓reduceIte, iteP, Bool.false_eq_true]
      refine x_fault hS1.2.2 ?_
      exact hK σ1 hW1 hS1 hFt hp1 (fun z => nomatch z)
    | true =>
      rw [hr, if_pos rfl] at hK
      have hn1 := hn1 hr
      simp (disch := omega) only [n_eq, n_lt, n_le, n_cl, n_inT, nI_add, bI_eq0, bI_eq1, not_true_eq_false, not_false_eq_true, true_implies, false_implies, implies_true, and_true, Bool.not_eq_false, Bool.not_eq_true, Nat.reduceEqDiff, Nat.reduceLeDiff, Classical.not_not, List.length_cons, List.length_nil, Int.reduceAdd, z_cast, Nat.reducePow, false_or, Nat.reduceLT, Nat.sub_zero, Nat.le_refl, true_and, ↓reduceIte, iteP, Bool.true_eq_false]
      refine x_next hw hS1.2.1 hS1.2.2 hp1 ?_
      by_cases hz : cN tp ln r.2.1 = 0
      · rw [if_pos hz] at hK
        rw [hz]
        simp (disch := omega) only [n_eq, n_lt, n_le, n_cl, n_inT, nI_add, bI_eq0, bI_eq1, not_true_eq_false, not_false_eq_true, true_implies, false_implies, implies_true, and_true, Bool.not_eq_false, Bool.not_eq_true, Nat.reduceEqDiff, Nat.reduceLeDiff, Classical.not_not, List.length_cons, List.length_nil, Int.reduceAdd, z_cast, Nat.reducePow, false_or, Nat.reduceLT, Nat.sub_zero, Nat.le_refl, true_and, ↓reduceIte, iteP]
        have := hK σ1 hW1 hS1 hFt hp1 (fun _ => by show 1 ≤ r.2.2 12 0; omega)
        unfold rdR at this
        rw [if_pos rfl] at this
        dsimp only at this
        rw [hn1] at this
        exact this
      · rw [if_neg hz] at hK
        by_cases h12 : n = 0
        · rw [if_pos (Or.inl h12)] at hK
          have e12 : (E 12 0 = 11) = True := eq_true (by omega)
          simp (disch := omega) only [n_eq, n_lt, n_le, n_cl, n_inT, nI_add, bI_eq0, bI_eq1, not_true_eq_false, not_false_eq_true, true_implies, false_implies, implies_true, and_true, Bool.not_eq_false, Bool.not_eq_true, Nat.reduceEqDiff, Nat.reduceLeDiff, Classical.not_not, List.length_cons, List.length_nil, Int.reduceAdd, z_cast, Nat.reducePow, false_or, Nat.reduceLT, Nat.sub_zero, Nat.le_refl, true_and, ↓reduceIte, iteP, hz, e12]
          refine x_fault hS1.2.2 ?_
          exact hK σ1 hW1 hS1 hFt hp1 (fun z => nomatch z)
        · have e12 : ¬ E 12 0 = 11 := by omega
          simp (disch := omega) only [n_eq, n_lt, n_le, n_cl, n_inT, nI_add, bI_eq0, bI_eq1, not_true_eq_false, not_false_eq_true, true_implies, false_implies, implies_true, and_true, Bool.not_eq_false, Bool.not_eq_true, Nat.reduceEqDiff, Nat.reduceLeDiff, Classical.not_not, List.length_cons, List.length_nil, Int.reduceAdd, z_cast, Nat.reducePow, false_or, Nat.reduceLT, Nat.sub_zero, Nat.le_refl, true_and, ↓reduceIte, iteP, hz, e12]
          refine x_skip (c := 44) hw hS1.2.1 hS1.2.2 hp1 (by decide) (by decide) (fun hs => ?_) (fun hs => ?_)
          · rw [if_pos (Or.inr hs)] at hK
            simp (disch := omega) only [n_eq, n_lt, n_le, n_cl, n_inT, nI_add, bI_eq0, bI_eq1, not_true_eq_false, not_false_eq_true, true_implies, false_implies, implies_true, and_true, Bool.not_eq_false, Bool.not_eq_true, Nat.reduceEqDiff, Nat.reduceLeDiff, Classical.not_not, List.length_cons, List.length_nil, Int.reduceAdd, z_cast, Nat.reducePow, false_or, Nat.reduceLT, Nat.sub_zero, Nat.le_refl, true_and, ↓reduceIte, iteP]
            refine x_fault hS1.2.2 ?_
            exact hK σ1 hW1 hS1 hFt hp1 (fun z => nomatch z)
          · rw [if_neg (by omega)] at hK
            simp (disch := omega) only [n_eq, n_lt, n_le, n_cl, n_inT, nI_add, bI_eq0, bI_eq1, not_true_eq_false, not_false_eq_true, true_implies, false_implies, implies_true, and_true, Bool.not_eq_false, Bool.not_eq_true, Nat.reduceEqDiff, Nat.reduceLeDiff, Classical.not_not, List.length_cons, List.length_nil, Int.reduceAdd, z_cast, Nat.reducePow, false_or, Nat.reduceLT, Nat.sub_zero, Nat.le_refl, true_and, ↓reduceIte, iteP]
            have hpl : r.2.1 < ln := cN_pos (by decide) hs
            rw [← hn1]
            exact lp_people l hw n r.2.2 (nb tp ln (r.2.1 + 1)) _ (by omega) (by omega) hW1 hS1.pl (hFt.trans FrR.pl) (nb_le (by omega)).2 hK
theorem x_readPeople {l : Launch} {tp : Nat → Nat} {ln p : Nat} {E : Es} {σ : St} {K : Int32 → St → Prop} (hw : TpW tp ln) (hW : Wf E) (hn : E 12 0 = 0) (hS : RdS tp ln E p σ) (hp : p ≤ ln) (hK : ∀ σ', Wf (rdF tp ln 12 E p).2.2 → RdS tp ln (rdF tp ln 12 E p).2.2 (rdF tp ln 12 E p).2.1 σ' → FrR σ σ' → (rdF tp ln 12 E p).2.1 ≤ ln → ((rdF tp ln 12 E p).1 = true → 1 ≤ (rdF tp ln 12 E p).2.2 12 0) → K (rdR (rdF tp ln 12 E p)) σ') : CallAt l 63 [.ref 400, .ref 300] σ K := by
  refine CallAt.of (k := 63) (cd := k_X4_readPeople) ok_X4_readPeople (by decide) rfl rfl rfl ?_
  show V _ i_X4_readPeople k_X4_readPeople 0 [.ref 400, .ref 300, .null] [] _ _
  refine V_run ok_X4_readPeople 60 0 ?_
  simp (disch := omega) only [eng, c_X4_readPeople, r_X4_readPeople, tbl, true_and, Nat.reduceAdd, Nat.reduceLT, ↓reduceIte, n_eq, n_lt, n_le, n_cl, n_inT, nI_add, bI_eq0, bI_eq1, not_true_eq_false, not_false_eq_true, true_implies, false_implies, implies_true, and_true, Bool.not_eq_false, Bool.not_eq_true, Nat.reduceEqDiff, Nat.reduceLeDiff, Classical.not_not, List.length_cons, List.length_nil, Int.reduceAdd, z_cast, Nat.reducePow, false_or, Nat.reduceLT, Nat.sub_zero, Nat.le_refl]
  try simp only [iteP, Classical.not_not, Bool.not_eq_false, Bool.not_eq_true]
  have := lp_people l hw 12 E p σ (by omega) (by omega) hW hS FrR.rfl' hp hK
  rw [hn] at this
  exact this
