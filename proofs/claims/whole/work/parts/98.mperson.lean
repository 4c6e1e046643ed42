def RE (n : Nat) (E : Es) (σ : St) : Prop := ∀ j, j < n → σ 920 (4 * j) = nI (E 0 j) ∧ σ 920 (4 * j + 1) = nI (E 1 j) ∧ σ 920 (4 * j + 2) = nI (E 2 j) ∧ σ 920 (4 * j + 3) = nI (E 3 j)
section R3
variable (tp : Nat → Nat) (ln : Nat)
def sp3 (E3 : Es) (k p : Nat) : Bool × Nat × Es :=
  let s := spo tp ln E3 k p
  if s.1 then (true, s.2.2, if s.2.1 = 12 then E3 else joi E3 k s.2.1) else (false, s.2.2, E3)
def mo3 (E2 : Es) (k p : Nat) : Bool × Nat × Es :=
  let m := par tp ln E2 k 1 111 p
  if m.1 then sp3 tp ln (if m.2.1 = 12 then E2 else eu E2 2 k m.2.1) k m.2.2 else (false, m.2.2, E2)
def fa3 (E1 : Es) (k p : Nat) : Bool × Nat × Es :=
  let f := par tp ln E1 k 0 102 p
  if f.1 then mo3 tp ln (if f.2.1 = 12 then E1 else eu E1 1 k f.2.1) k f.2.2 else (false, f.2.2, E1)
theorem rdP_3 (E : Es) (p : Nat) : rdP tp ln E p = if cN tp ln p = 119 ∨ cN tp ln p = 109 then fa3 tp ln (addE E (if cN tp ln p = 119 then 1 else 0) 12 12) (E 12 0) (nb tp ln (p + 1)) else (false, p, E) := rfl
end R3
theorem nb_lt {tp : Nat → Nat} {ln p c : Nat} (hc : 0 < c) (h : cN tp ln p = c) : p + 1 ≤ ln := cN_pos hc h
theorem m_spouse (l : Launch) {tp : Nat → Nat} {ln q k : Nat} {c : Int32} {v4 : Value} {E : Es} {σ0 σ : St} {K : Int32 → St → Prop} (hw : TpW tp ln) (hS : RM tp ln q σ) (hk : k ≤ 11) (hW : Wf E) (hn : E 12 0 = k + 1) (hR : RE k E σ) (g0 : σ 920 (4 * k) = nI (E 0 k)) (g1 : σ 920 (4 * k + 1) = nI (E 1 k)) (g2 : σ 920 (4 * k + 2) = nI (E 2 k)) (e3 : E 3 k = 12) (hF : FrY σ0 σ)
    (hK : ∀ σ' q', RM tp ln q' σ' → nb tp ln q' = (sp3 tp ln E k (nb tp ln q)).2.1 → FrY σ0 σ' → ((sp3 tp ln E k (nb tp ln q)).1 = true → RE (k + 1) (sp3 tp ln E k (nb tp ln q)).2.2 σ') → K (bI (sp3 tp ln E k (nb tp ln q)).1) σ') : V l i_X6_readPerson k_X6_readPerson 81 [.ref 900, .int (nI k), .int c, .int (nI (4 * k)), v4] [] σ K := by
  have hp := nb_le (tp := tp) hS.2.2.2
  have hnn := nb_nb (tp := tp) hS.2.2.2
  unfold sp3 at hK
  dsimp only at hK
  refine V_run ok_X6_readPerson 10 81 ?_
  simp (disch := omega) only [eng, c_X6_readPerson, r_X6_readPerson, tbl, true_and, Nat.reduceAdd, Nat.reduceLT, ↓reduceIte, n_eq, n_lt, n_le, n_cl, n_inT, nI_add, bI_eq0, bI_eq1, not_true_eq_false, not_false_eq_true, true_implies, false_implies, implies_true, and_true, Bool.not_eq_false, Bool.not_eq_true, Nat.reduceEqDiff, Nat.reduceLeDiff, Classical.not_not, List.length_cons, List.length_nil, Int.reduceAdd, z_cast, Nat.reducePow, false_or, Nat.reduceLT, Nat.sub_zero, Nat.le_refl]
  try simp only [iteP, Classical.not_not, Bool.not_eq_false, Bool.not_eq_true]
  have hS1 : RM tp ln q (wr σ 920 (4 * k + 3) (nI 12)) := hS.rd
  have hF1 : FrY σ0 (wr σ 920 (4 * k + 3) (nI 12)) := hF.rd
  have r1 : ∀ x, x ≠ 4 * k + 3 → wr σ 920 (4 * k + 3) (nI 12) 920 x = σ 920 x := fun x hx => by rw [wr_at, if_neg (fun z => hx z.2)]
  have r2 : wr σ 920 (4 * k + 3) (nI 12) 920 (4 * k + 3) = nI 12 := by simp [wr_at]
  generalize wr σ 920 (4 * k + 3) (nI 12) = σ1 at hS1 hF1 r1 r2 ⊢
  have hRk : RE k E σ1 := fun j hj => by
    rw [r1 _ (by omega), r1 _ (by omega), r1 _ (by omega), r1 _ (by omega)]; exact hR j hj
  refine m_takes hw hS1 (by decide) (by decide) (fun z => ?_) (fun z => ?_)
  · have e : spo tp ln E k (nb tp ln q) = (true, 12, nb tp ln q) := by unfold spo; rw [if_neg z]
    rw [e] at hK
    dsimp only at hK
    rw [if_pos rfl, if_pos rfl] at hK
    refine V_run ok_X6_readPerson 10 91 ?_
    simp (disch := omega) only [eng, c_X6_readPerson, r_X6_readPerson, tbl, true_and, Nat.reduceAdd, Nat.reduceLT, ↓reduceIte, n_eq, n_lt, n_le, n_cl, n_inT, nI_add, bI_eq0, bI_eq1, not_true_eq_false, not_false_eq_true, true_implies, false_implies, implies_true, and_true, Bool.not_eq_false, Bool.not_eq_true, Nat.reduceEqDiff, Nat.reduceLeDiff, Classical.not_not, List.length_cons, List.length_nil, Int.reduceAdd, z_cast, Nat.reducePow, false_or, Nat.reduceLT, Nat.sub_zero, Nat.le_refl]
    try simp only [iteP, Classical.not_not, Bool.not_eq_false, Bool.not_eq_true]
    refine hK _ (nb tp ln q) (hS1.pl hp.2) hnn hF1.pl (fun _ j hj => ?_)
    rw [wr_ne 920 (by decide)]
    dsimp only
    by_cases y : j = k
    · subst y
      rw [r1 _ (by omega), r1 _ (by omega), r1 _ (by omega), r2, e3]
      exact ⟨g0, g1, g2, rfl⟩
    · exact hRk j (by omega)
  · have hp1 := nb_lt (by decide) z
    have hp2 := nb_le (tp := tp) hp1
    have hS2 := hS1.pl hp1
    refine V_run ok_X6_readPerson 3 91 ?_
    simp (disch := omega) only [eng, c_X6_readPerson, r_X6_readPerson, tbl, true_and, Nat.reduceAdd, Nat.reduceLT, ↓reduceIte, n_eq, n_lt, n_le, n_cl, n_inT, nI_add, bI_eq0, bI_eq1, not_true_eq_false, not_false_eq_true, true_implies, false_implies, implies_true, and_true, Bool.not_eq_false, Bool.not_eq_true, Nat.reduceEqDiff, Nat.reduceLeDiff, Classical.not_not, List.length_cons, List.length_nil, Int.reduceAdd, z_cast, Nat.reducePow, false_or, Nat.reduceLT, Nat.sub_zero, Nat.le_refl]
    try simp only [iteP, Classical.not_not, Bool.not_eq_false, Bool.not_eq_true]
    refine m_nextB hw hS2 ?_
    rw [wr_wr]
    have hS3 := hS1.pl (q' := nb tp ln (nb tp ln q + 1)) hp2.2
    have hF3 : FrY σ0 (wr σ1 900 17 (nI (nb tp ln (nb tp ln q + 1)))) := hF1.pl
    have bad : ¬ (97 ≤ cN tp ln (nb tp ln (nb tp ln q + 1)) ∧ cN tp ln (nb tp ln (nb tp ln q + 1)) - 97 < k ∧ E 0 (cN tp ln (nb tp ln (nb tp ln q + 1)) - 97) ≠ E 0 k ∧ E 3 (cN tp ln (nb tp ln (nb tp ln q + 1)) - 97) = 12) → K (nI 0) (wr σ1 900 17 (nI (nb tp ln (nb tp ln q + 1)))) := fun y => by
      have e : spo tp ln E k (nb tp ln q) = (false, 12, nb tp ln (nb tp ln q + 1)) := by unfold spo; rw [if_pos z, if_neg y]
      rw [e] at hK
      exact hK _ _ hS3 (nb_nb hp1) hF3 (fun x => by cases x)
    refine V_run ok_X6_readPerson 11 94 ?_
    simp (disch := omega) only [eng, c_X6_readPerson, r_X6_readPerson, tbl, true_and, Nat.reduceAdd, Nat.reduceLT, ↓reduceIte, n_eq, n_lt, n_le, n_cl, n_inT, nI_add, bI_eq0, bI_eq1, not_true_eq_false, not_false_eq_true, true_implies, false_implies, implies_true, and_true, Bool.not_eq_false, Bool.not_eq_true, Nat.reduceEqDiff, Nat.reduceLeDiff, Classical.not_not, List.length_cons, List.length_nil, Int.reduceAdd, z_cast, Nat.reducePow, false_or, Nat.reduceLT, Nat.sub_zero, Nat.le_refl]
    try simp only [iteP, Classical.not_not, Bool.not_eq_false, Bool.not_eq_true]
    refine m_inB rfl (km1 (by omega)) ?_
    rw [letter hw _ k hk]
    by_cases y : 97 ≤ cN tp ln (nb tp ln (nb tp ln q + 1)) ∧ cN tp ln (nb tp ln (nb tp ln q + 1)) - 97 < k
    case neg =>
      rw [decide_eq_false y]
      refine V_run ok_X6_readPerson 20 105 ?_
      simp (disch := omega) only [eng, c_X6_readPerson, r_X6_readPerson, tbl, true_and, Nat.reduceAdd, Nat.reduceLT, ↓reduceIte, n_eq, n_lt, n_le, n_cl, n_inT, nI_add, bI_eq0, bI_eq1, not_true_eq_false, not_false_eq_true, true_implies, false_implies, implies_true, and_true, Bool.not_eq_false, Bool.not_eq_true, Nat.reduceEqDiff, Nat.reduceLeDiff, Classical.not_not, List.length_cons, List.length_nil, Int.reduceAdd, z_cast, Nat.reducePow, false_or, Nat.reduceLT, Nat.sub_zero, Nat.le_refl, Bool.false_eq_true]
      try simp only [iteP, Classical.not_not, Bool.not_eq_false, Bool.not_eq_true]
      exact bad (fun x => y ⟨x.1, x.2.1⟩)
    rw [decide_eq_true y, letter_v hw _ y.1]
    have hpl : nb tp ln (nb tp ln q + 1) + 1 ≤ ln := nb_lt (c := cN tp ln (nb tp ln (nb tp ln q + 1))) (by omega) rfl
    have good : (97 ≤ cN tp ln (nb tp ln (nb tp ln q + 1)) ∧ cN tp ln (nb tp ln (nb tp ln q + 1)) - 97 < k ∧ E 0 (cN tp ln (nb tp ln (nb tp ln q + 1)) - 97) ≠ E 0 k ∧ E 3 (cN tp ln (nb tp ln (nb tp ln q + 1)) - 97) = 12) → spo tp ln E k (nb tp ln q) = (true, cN tp ln (nb tp ln (nb tp ln q + 1)) - 97, nb tp ln (nb tp ln (nb tp ln q + 1) + 1)) := fun y => by unfold spo; rw [if_pos z, if_pos y]
    have hx := y.2
    have y97 := y.1
    generalize nb tp ln (nb tp ln q + 1) = p2 at *
    generalize cN tp ln p2 - 97 = x at *
    have fx := hRk x hx
    have fk : σ1 920 (4 * k) = nI (E 0 k) := by rw [r1 _ (by omega)]; exact g0
    have wx := (hW.2.2.2.1 x (by omega)).1
    have wk := (hW.2.2.2.1 k (by omega)).1
    have s12 := sp12 hW (p := x) (by omega)
    by_cases h1 : E 0 x = E 0 k
    · have ff : (σ1 920 (4 * x) = σ1 920 (4 * k)) = True := by rw [fx.1, fk, h1]; exact eq_true rfl
      refine V_run ok_X6_readPerson 40 105 ?_
      simp (disch := omega) only [eng, c_X6_readPerson, r_X6_readPerson, tbl, true_and, Nat.reduceAdd, Nat.reduceLT, ↓reduceIte, n_eq, n_lt, n_le, n_cl, n_inT, nI_add, bI_eq0, bI_eq1, not_true_eq_false, not_false_eq_true, true_implies, false_implies, implies_true, and_true, Bool.not_eq_false, Bool.not_eq_true, Nat.reduceEqDiff, Nat.reduceLeDiff, Classical.not_not, List.length_cons, List.length_nil, Int.reduceAdd, z_cast, Nat.reducePow, false_or, Nat.reduceLT, Nat.sub_zero, Nat.le_refl, Bool.true_eq_false, pk_mul, wrq, ff]
      try simp only [iteP, Classical.not_not, Bool.not_eq_false, Bool.not_eq_true]
      exact bad (fun x => x.2.2.1 h1)
    by_cases h2 : E 3 x = 12
    case neg =>
      refine V_run ok_X6_readPerson 40 105 ?_
      simp (disch := omega) only [eng, c_X6_readPerson, r_X6_readPerson, tbl, true_and, Nat.reduceAdd, Nat.reduceLT, ↓reduceIte, n_eq, n_lt, n_le, n_cl, n_inT, nI_add, bI_eq0, bI_eq1, not_true_eq_false, not_false_eq_true, true_implies, false_implies, implies_true, and_true, Bool.not_eq_false, Bool.not_eq_true, Nat.reduceEqDiff, Nat.reduceLeDiff, Classical.not_not, List.length_cons, List.length_nil, Int.reduceAdd, z_cast, Nat.reducePow, false_or, Nat.reduceLT, Nat.sub_zero, Nat.le_refl, Bool.true_eq_false, pk_mul, wrq, fx, fk, h1, h2]
      try simp only [iteP, Classical.not_not, Bool.not_eq_false, Bool.not_eq_true]
      exact bad (fun x => h2 x.2.2.2)
    · rw [good ⟨y97, hx, h1, h2⟩] at hK
      dsimp only at hK
      rw [if_pos rfl, if_neg (by omega)] at hK
      refine V_run ok_X6_readPerson 60 105 ?_
      simp (disch := omega) only [eng, c_X6_readPerson, r_X6_readPerson, tbl, true_and, Nat.reduceAdd, Nat.reduceLT, ↓reduceIte, n_eq, n_lt, n_le, n_cl, n_inT, nI_add, bI_eq0, bI_eq1, not_true_eq_false, not_false_eq_true, true_implies, false_implies, implies_true, and_true, Bool.not_eq_false, Bool.not_eq_true, Nat.reduceEqDiff, Nat.reduceLeDiff, Classical.not_not, List.length_cons, List.length_nil, Int.reduceAdd, z_cast, Nat.reducePow, false_or, Nat.reduceLT, Nat.sub_zero, Nat.le_refl, Bool.true_eq_false, pk_mul, wrq, fx, fk, h1, h2, wr_wr]
      try simp only [iteP, Classical.not_not, Bool.not_eq_false, Bool.not_eq_true]
      refine hK _ (p2 + 1) ((hS1.pl hpl).rd.rd) rfl (hF1.pl.rd.rd) (fun _ j hj => ?_)
      dsimp only
      by_cases j1 : j = k
      · subst j1
        have a0 : joi E j x 0 j = E 0 j := joi_ne (by decide)
        have a1 : joi E j x 1 j = E 1 j := joi_ne (by decide)
        have a2 : joi E j x 2 j = E 2 j := joi_ne (by decide)
        have a3 : joi E j x 3 j = x := by unfold joi; rw [if_neg (by omega), if_pos ⟨rfl, rfl⟩]
        rw [a0, a1, a2, a3]
        simp (disch := omega) only [wrq, r1]
        exact ⟨g0, g1, g2, trivial⟩
      · by_cases j2 : j = x
        · subst j2
          have a0 : joi E k j 0 j = E 0 j := joi_ne (by decide)
          have a1 : joi E k j 1 j = E 1 j := joi_ne (by decide)
          have a2 : joi E k j 2 j = E 2 j := joi_ne (by decide)
          have a3 : joi E k j 3 j = k := by unfold joi; rw [if_pos ⟨rfl, rfl⟩]
          rw [a0, a1, a2, a3]
          simp (disch := omega) only [wrq]
          exact ⟨fx.1, fx.2.1, fx.2.2.1, trivial⟩
        · have a0 : joi E k x 0 j = E 0 j := joi_ne (by decide)
          have a1 : joi E k x 1 j = E 1 j := joi_ne (by decide)
          have a2 : joi E k x 2 j = E 2 j := joi_ne (by decide)
          have a3 : joi E k x 3 j = E 3 j := by unfold joi; rw [if_neg (by omega), if_neg (by omega)]
          rw [a0, a1, a2, a3]
          simp (disch := omega) only [wrq]
          exact hRk j (by omega)

theorem RE_wr {n : Nat} {E : Es} {σ : St} {x : Nat} {v : Int32} (h : RE n E σ) (hx : 4 * n ≤ x) : RE n E (wr σ 920 x v) := fun j hj => by
  rw [wr_at, wr_at, wr_at, wr_at, if_neg (by omega), if_neg (by omega), if_neg (by omega), if_neg (by omega)]; exact h j hj
theorem RE_pl {n : Nat} {E : Es} {σ : St} {v : Int32} (h : RE n E σ) : RE n E (wr σ 900 17 v) := fun j hj => by
  rw [wr_ne 920 (by decide)]; exact h j hj
theorem RE_eu {n i k v : Nat} {E : Es} {σ : St} (h : RE n E σ) (hk : n ≤ k) : RE n (eu E i k v) σ := fun j hj => by
  have e : ∀ r, eu E i k v r j = E r j := fun r => by unfold eu; rw [if_neg (by omega)]
  rw [e, e, e, e]; exact h j hj
theorem m_mother (l : Launch) {tp : Nat → Nat} {ln q k : Nat} {c : Int32} {v4 : Value} {E : Es} {σ0 σ : St} {K : Int32 → St → Prop} (hw : TpW tp ln) (hS : RM tp ln q σ) (hk : k ≤ 11) (hW : Wf E) (hn : E 12 0 = k + 1) (hR : RE k E σ) (g0 : σ 920 (4 * k) = nI (E 0 k)) (g1 : σ 920 (4 * k + 1) = nI (E 1 k)) (e2 : E 2 k = 12) (e3 : E 3 k = 12) (hF : FrY σ0 σ)
    (hK : ∀ σ' q', RM tp ln q' σ' → nb tp ln q' = (mo3 tp ln E k (nb tp ln q)).2.1 → FrY σ0 σ' → ((mo3 tp ln E k (nb tp ln q)).1 = true → RE (k + 1) (mo3 tp ln E k (nb tp ln q)).2.2 σ') → K (bI (mo3 tp ln E k (nb tp ln q)).1) σ') : V l i_X6_readPerson k_X6_readPerson 56 [.ref 900, .int (nI k), .int c, .int (nI (4 * k)), v4] [] σ K := by
  have hp := nb_le (tp := tp) hS.2.2.2
  have hnn := nb_nb (tp := tp) hS.2.2.2
  unfold mo3 at hK
  dsimp only at hK
  refine V_run ok_X6_readPerson 8 56 ?_
  simp (disch := omega) only [eng, c_X6_readPerson, r_X6_readPerson, tbl, true_and, Nat.reduceAdd, Nat.reduceLT, ↓reduceIte, n_eq, n_lt, n_le, n_cl, n_inT, nI_add, bI_eq0, bI_eq1, not_true_eq_false, not_false_eq_true, true_implies, false_implies, implies_true, and_true, Bool.not_eq_false, Bool.not_eq_true, Nat.reduceEqDiff, Nat.reduceLeDiff, Classical.not_not, List.length_cons, List.length_nil, Int.reduceAdd, z_cast, Nat.reducePow, false_or, Nat.reduceLT, Nat.sub_zero, Nat.le_refl]
  try simp only [iteP, Classical.not_not, Bool.not_eq_false, Bool.not_eq_true]
  refine m_takes hw hS (by decide) (by decide) (fun z => ?_) (fun z => ?_)
  · have e : par tp ln E k 1 111 (nb tp ln q) = (true, 12, nb tp ln q) := by unfold par; rw [if_neg z]
    rw [e] at hK
    dsimp only at hK
    rw [if_pos rfl, if_pos rfl] at hK
    refine V_run ok_X6_readPerson 10 64 ?_
    simp (disch := omega) only [eng, c_X6_readPerson, r_X6_readPerson, tbl, true_and, Nat.reduceAdd, Nat.reduceLT, ↓reduceIte, n_eq, n_lt, n_le, n_cl, n_inT, nI_add, bI_eq0, bI_eq1, not_true_eq_false, not_false_eq_true, true_implies, false_implies, implies_true, and_true, Bool.not_eq_false, Bool.not_eq_true, Nat.reduceEqDiff, Nat.reduceLeDiff, Classical.not_not, List.length_cons, List.length_nil, Int.reduceAdd, z_cast, Nat.reducePow, false_or, Nat.reduceLT, Nat.sub_zero, Nat.le_refl, Nat.zero_le, wrq]
    try simp only [iteP, Classical.not_not, Bool.not_eq_false, Bool.not_eq_true]
    refine m_spouse l (q := nb tp ln q) hw (hS.pl hp.2).rd hk hW hn (RE_wr (RE_pl hR) (by omega)) ?_ ?_ ?_ e3 hF.pl.rd (by rw [hnn]; exact hK)
    · simp (disch := omega) only [wrq]; exact g0
    · simp (disch := omega) only [wrq]; exact g1
    · simp (disch := omega) only [wrq, e2]
  · have hp1 := nb_lt (by decide) z
    have hp2 := nb_le (tp := tp) hp1
    have hS2 := hS.pl hp1
    refine V_run ok_X6_readPerson 5 64 ?_
    simp (disch := omega) only [eng, c_X6_readPerson, r_X6_readPerson, tbl, true_and, Nat.reduceAdd, Nat.reduceLT, ↓reduceIte, n_eq, n_lt, n_le, n_cl, n_inT, nI_add, bI_eq0, bI_eq1, not_true_eq_false, not_false_eq_true, true_implies, false_implies, implies_true, and_true, Bool.not_eq_false, Bool.not_eq_true, Nat.reduceEqDiff, Nat.reduceLeDiff, Classical.not_not, List.length_cons, List.length_nil, Int.reduceAdd, z_cast, Nat.reducePow, false_or, Nat.reduceLT, Nat.sub_zero, Nat.le_refl]
    try simp only [iteP, Classical.not_not, Bool.not_eq_false, Bool.not_eq_true]
    refine m_readOne (g := fun j => E 0 j) hw hS2 hk (by decide) (fun j hj => ⟨by rw [wr_ne 920 (by decide)]; exact (hR j hj).1, (hW.2.2.2.1 j (by omega)).1⟩) (fun y => ?_) (fun y => ?_)
    · have e : par tp ln E k 1 111 (nb tp ln q) = (false, 12, nb tp ln (nb tp ln q + 1)) := by unfold par; rw [if_pos z, if_neg y]
      rw [e] at hK
      have neg : ¬ nI 0 ≤ (-1 : Int32) := by decide
      rw [wr_wr]
      refine V_run ok_X6_readPerson 20 69 ?_
      simp (disch := omega) only [eng, c_X6_readPerson, r_X6_readPerson, tbl, true_and, Nat.reduceAdd, Nat.reduceLT, ↓reduceIte, n_eq, n_lt, n_le, n_cl, n_inT, nI_add, bI_eq0, bI_eq1, not_true_eq_false, not_false_eq_true, true_implies, false_implies, implies_true, and_true, Bool.not_eq_false, Bool.not_eq_true, Nat.reduceEqDiff, Nat.reduceLeDiff, Classical.not_not, List.length_cons, List.length_nil, Int.reduceAdd, z_cast, Nat.reducePow, false_or, Nat.reduceLT, Nat.sub_zero, Nat.le_refl, neg, wrq]
      try simp only [iteP, Classical.not_not, Bool.not_eq_false, Bool.not_eq_true]
      exact hK _ (nb tp ln (nb tp ln q + 1)) ((hS.pl hp2.2).rd) (nb_nb hp1) hF.pl.rd (fun x => by cases x)
    · have e : par tp ln E k 1 111 (nb tp ln q) = (true, cN tp ln (nb tp ln (nb tp ln q + 1)) - 97, nb tp ln (nb tp ln (nb tp ln q + 1) + 1)) := by unfold par; rw [if_pos z, if_pos y]
      have hpl : nb tp ln (nb tp ln q + 1) + 1 ≤ ln := nb_lt (c := cN tp ln (nb tp ln (nb tp ln q + 1))) (by omega) rfl
      rw [e] at hK
      dsimp only at hK
      generalize hx : cN tp ln (nb tp ln (nb tp ln q + 1)) - 97 = x at *
      have y2 := y.2.1
      rw [if_pos rfl, if_neg (by omega)] at hK
      rw [wr_wr]
      refine V_run ok_X6_readPerson 9 69 ?_
      simp (disch := omega) only [eng, c_X6_readPerson, r_X6_readPerson, tbl, true_and, Nat.reduceAdd, Nat.reduceLT, ↓reduceIte, n_eq, n_lt, n_le, n_cl, n_inT, nI_add, bI_eq0, bI_eq1, not_true_eq_false, not_false_eq_true, true_implies, false_implies, implies_true, and_true, Bool.not_eq_false, Bool.not_eq_true, Nat.reduceEqDiff, Nat.reduceLeDiff, Classical.not_not, List.length_cons, List.length_nil, Int.reduceAdd, z_cast, Nat.reducePow, false_or, Nat.reduceLT, Nat.sub_zero, Nat.le_refl, Nat.zero_le, wrq]
      try simp only [iteP, Classical.not_not, Bool.not_eq_false, Bool.not_eq_true]
      have f0 : eu E 2 k x 0 k = E 0 k := by simp [eu]
      have f1 : eu E 2 k x 1 k = E 1 k := by simp [eu]
      have f2 : eu E 2 k x 2 k = x := by simp [eu]
      have f3 : eu E 2 k x 3 k = E 3 k := by simp [eu]
      refine m_spouse l (q := nb tp ln (nb tp ln q + 1) + 1) (E := eu E 2 k x) hw (hS.pl hpl).rd hk (Wf_par hW (Or.inr ⟨rfl, rfl⟩) y2 y.2.2) (by simp [eu, hn]) (RE_eu (RE_wr (RE_pl hR) (by omega)) (Nat.le_refl k)) ?_ ?_ ?_ (by rw [f3]; exact e3) hF.pl.rd hK
      · rw [f0]; simp (disch := omega) only [wrq]; exact g0
      · rw [f1]; simp (disch := omega) only [wrq]; exact g1
      · rw [f2]; simp (disch := omega) only [wrq]
theorem m_father (l : Launch) {tp : Nat → Nat} {ln q k : Nat} {c : Int32} {v4 : Value} {E : Es} {σ0 σ : St} {K : Int32 → St → Prop} (hw : TpW tp ln) (hS : RM tp ln q σ) (hk : k ≤ 11) (hW : Wf E) (hn : E 12 0 = k + 1) (hR : RE k E σ) (g0 : σ 920 (4 * k) = nI (E 0 k)) (e1 : E 1 k = 12) (e2 : E 2 k = 12) (e3 : E 3 k = 12) (hF : FrY σ0 σ)
    (hK : ∀ σ' q', RM tp ln q' σ' → nb tp ln q' = (fa3 tp ln E k (nb tp ln q)).2.1 → FrY σ0 σ' → ((fa3 tp ln E k (nb tp ln q)).1 = true → RE (k + 1) (fa3 tp ln E k (nb tp ln q)).2.2 σ') → K (bI (fa3 tp ln E k (nb tp ln q)).1) σ') : V l i_X6_readPerson k_X6_readPerson 31 [.ref 900, .int (nI k), .int c, .int (nI (4 * k)), v4] [] σ K := by
  have hp := nb_le (tp := tp) hS.2.2.2
  have hnn := nb_nb (tp := tp) hS.2.2.2
  unfold fa3 at hK
  dsimp only at hK
  refine V_run ok_X6_readPerson 8 31 ?_
  simp (disch := omega) only [eng, c_X6_readPerson, r_X6_readPerson, tbl, true_and, Nat.reduceAdd, Nat.reduceLT, ↓reduceIte, n_eq, n_lt, n_le, n_cl, n_inT, nI_add, bI_eq0, bI_eq1, not_true_eq_false, not_false_eq_true, true_implies, false_implies, implies_true, and_true, Bool.not_eq_false, Bool.not_eq_true, Nat.reduceEqDiff, Nat.reduceLeDiff, Classical.not_not, List.length_cons, List.length_nil, Int.reduceAdd, z_cast, Nat.reducePow, false_or, Nat.reduceLT, Nat.sub_zero, Nat.le_refl]
  try simp only [iteP, Classical.not_not, Bool.not_eq_false, Bool.not_eq_true]
  refine m_takes hw hS (by decide) (by decide) (fun z => ?_) (fun z => ?_)
  · have e : par tp ln E k 0 102 (nb tp ln q) = (true, 12, nb tp ln q) := by unfold par; rw [if_neg z]
    rw [e] at hK
    dsimp only at hK
    rw [if_pos rfl, if_pos rfl] at hK
    refine V_run ok_X6_readPerson 10 39 ?_
    simp (disch := omega) only [eng, c_X6_readPerson, r_X6_readPerson, tbl, true_and, Nat.reduceAdd, Nat.reduceLT, ↓reduceIte, n_eq, n_lt, n_le, n_cl, n_inT, nI_add, bI_eq0, bI_eq1, not_true_eq_false, not_false_eq_true, true_implies, false_implies, implies_true, and_true, Bool.not_eq_false, Bool.not_eq_true, Nat.reduceEqDiff, Nat.reduceLeDiff, Classical.not_not, List.length_cons, List.length_nil, Int.reduceAdd, z_cast, Nat.reducePow, false_or, Nat.reduceLT, Nat.sub_zero, Nat.le_refl, Nat.zero_le, wrq]
    try simp only [iteP, Classical.not_not, Bool.not_eq_false, Bool.not_eq_true]
    refine m_mother l (q := nb tp ln q) hw (hS.pl hp.2).rd hk hW hn (RE_wr (RE_pl hR) (by omega)) ?_ ?_ e2 e3 hF.pl.rd (by rw [hnn]; exact hK)
    · simp (disch := omega) only [wrq]; exact g0
    · simp (disch := omega) only [wrq, e1]
  · have hp1 := nb_lt (by decide) z
    have hp2 := nb_le (tp := tp) hp1
    have hS2 := hS.pl hp1
    refine V_run ok_X6_readPerson 5 39 ?_
    simp (disch := omega) only [eng, c_X6_readPerson, r_X6_readPerson, tbl, true_and, Nat.reduceAdd, Nat.reduceLT, ↓reduceIte, n_eq, n_lt, n_le, n_cl, n_inT, nI_add, bI_eq0, bI_eq1, not_true_eq_false, not_false_eq_true, true_implies, false_implies, implies_true, and_true, Bool.not_eq_false, Bool.not_eq_true, Nat.reduceEqDiff, Nat.reduceLeDiff, Classical.not_not, List.length_cons, List.length_nil, Int.reduceAdd, z_cast, Nat.reducePow, false_or, Nat.reduceLT, Nat.sub_zero, Nat.le_refl]
    try simp only [iteP, Classical.not_not, Bool.not_eq_false, Bool.not_eq_true]
    refine m_readOne (g := fun j => E 0 j) hw hS2 hk (by decide) (fun j hj => ⟨by rw [wr_ne 920 (by decide)]; exact (hR j hj).1, (hW.2.2.2.1 j (by omega)).1⟩) (fun y => ?_) (fun y => ?_)
    · have e : par tp ln E k 0 102 (nb tp ln q) = (false, 12, nb tp ln (nb tp ln q + 1)) := by unfold par; rw [if_pos z, if_neg y]
      rw [e] at hK
      have neg : ¬ nI 0 ≤ (-1 : Int32) := by decide
      rw [wr_wr]
      refine V_run ok_X6_readPerson 20 44 ?_
      simp (disch := omega) only [eng, c_X6_readPerson, r_X6_readPerson, tbl, true_and, Nat.reduceAdd, Nat.reduceLT, ↓reduceIte, n_eq, n_lt, n_le, n_cl, n_inT, nI_add, bI_eq0, bI_eq1, not_true_eq_false, not_false_eq_true, true_implies, false_implies, implies_true, and_true, Bool.not_eq_false, Bool.not_eq_true, Nat.reduceEqDiff, Nat.reduceLeDiff, Classical.not_not, List.length_cons, List.length_nil, Int.reduceAdd, z_cast, Nat.reducePow, false_or, Nat.reduceLT, Nat.sub_zero, Nat.le_refl, neg, wrq]
      try simp only [iteP, Classical.not_not, Bool.not_eq_false, Bool.not_eq_true]
      exact hK _ (nb tp ln (nb tp ln q + 1)) ((hS.pl hp2.2).rd) (nb_nb hp1) hF.pl.rd (fun x => by cases x)
    · have e : par tp ln E k 0 102 (nb tp ln q) = (true, cN tp ln (nb tp ln (nb tp ln q + 1)) - 97, nb tp ln (nb tp ln (nb tp ln q + 1) + 1)) := by unfold par; rw [if_pos z, if_pos y]
      have hpl : nb tp ln (nb tp ln q + 1) + 1 ≤ ln := nb_lt (c := cN tp ln (nb tp ln (nb tp ln q + 1))) (by omega) rfl
      rw [e] at hK
      dsimp only at hK
      generalize hx : cN tp ln (nb tp ln (nb tp ln q + 1)) - 97 = x at *
      have y2 := y.2.1
      rw [if_pos rfl, if_neg (by omega)] at hK
      rw [wr_wr]
      refine V_run ok_X6_readPerson 9 44 ?_
      simp (disch := omega) only [eng, c_X6_readPerson, r_X6_readPerson, tbl, true_and, Nat.reduceAdd, Nat.reduceLT, ↓reduceIte, n_eq, n_lt, n_le, n_cl, n_inT, nI_add, bI_eq0, bI_eq1, not_true_eq_false, not_false_eq_true, true_implies, false_implies, implies_true, and_true, Bool.not_eq_false, Bool.not_eq_true, Nat.reduceEqDiff, Nat.reduceLeDiff, Classical.not_not, List.length_cons, List.length_nil, Int.reduceAdd, z_cast, Nat.reducePow, false_or, Nat.reduceLT, Nat.sub_zero, Nat.le_refl, Nat.zero_le, wrq]
      try simp only [iteP, Classical.not_not, Bool.not_eq_false, Bool.not_eq_true]
      have f0 : eu E 1 k x 0 k = E 0 k := by simp [eu]
      have f1 : eu E 1 k x 1 k = x := by simp [eu]
      have f2 : eu E 1 k x 2 k = E 2 k := by simp [eu]
      have f3 : eu E 1 k x 3 k = E 3 k := by simp [eu]
      refine m_mother l (q := nb tp ln (nb tp ln q + 1) + 1) (E := eu E 1 k x) hw (hS.pl hpl).rd hk (Wf_par hW (Or.inl ⟨rfl, rfl⟩) y2 y.2.2) (by simp [eu, hn]) (RE_eu (RE_wr (RE_pl hR) (by omega)) (Nat.le_refl k)) ?_ ?_ (by rw [f2]; exact e2) (by rw [f3]; exact e3) hF.pl.rd hK
      · rw [f0]; simp (disch := omega) only [wrq]; exact g0
      · rw [f1]; simp (disch := omega) only [wrq]
theorem m_readPerson {l : Launch} {tp : Nat → Nat} {ln q k : Nat} {E : Es} {σ : St} {K : Int32 → St → Prop} (hw : TpW tp ln) (hS : RM tp ln q σ) (hk : k ≤ 11) (hW : Wf E) (hn : E 12 0 = k) (hR : RE k E σ)
    (hK : ∀ σ' q', RM tp ln q' σ' → nb tp ln q' = (rdP tp ln E (nb tp ln q)).2.1 → FrY σ σ' → ((rdP tp ln E (nb tp ln q)).1 = true → RE (k + 1) (rdP tp ln E (nb tp ln q)).2.2 σ') → K (bI (rdP tp ln E (nb tp ln q)).1) σ') : CallAt l 142 [.ref 900, .int (nI k)] σ K := by
  have hp := nb_le (tp := tp) hS.2.2.2
  have hnn := nb_nb (tp := tp) hS.2.2.2
  have e1 := cZ_eq (c := 109) hw (nb tp ln q) (by decide) (by decide)
  have e2 := cZ_eq (c := 119) hw (nb tp ln q) (by decide) (by decide)
  rw [rdP_3] at hK
  have main : ∀ s : Nat, s ≤ 1 → (cN tp ln (nb tp ln q) = 119 ∨ cN tp ln (nb tp ln q) = 109) → (if cN tp ln (nb tp ln q) = 119 then 1 else 0) = s → ∀ c v4, V l i_X6_readPerson k_X6_readPerson 31 [.ref 900, .int (nI k), .int c, .int (nI (4 * k)), v4] [] (wr (wr σ 900 17 (nI (nb tp ln q + 1))) 920 (4 * k) (nI s)) K := fun s hs hch hse c v4 => by
    rw [if_pos hch, hse, hn] at hK
    have hp1 : nb tp ln q + 1 ≤ ln := nb_lt (c := cN tp ln (nb tp ln q)) (by omega) rfl
    have a0 : addE E s 12 12 0 k = s := by simp [addE, hn]
    have old : ∀ i j, j < k → i ≠ 12 → addE E s 12 12 i j = E i j := fun i j hj hi => addE_old (by omega) hi
    refine m_father l (q := nb tp ln q + 1) (E := addE E s 12 12) hw (hS.pl hp1).rd hk (Wf_addE hW (by omega) hs (Or.inl rfl) (Or.inl rfl)) (by simp [addE, hn]) (RE_wr (RE_pl (fun j hj => ?_)) (Nat.le_refl _)) (by rw [a0]; simp [wr_at]) (by simp [addE, hn]) (by simp [addE, hn]) (by simp [addE, hn]) FrY.rfl'.pl.rd hK
    rw [old 0 j hj (by decide), old 1 j hj (by decide), old 2 j hj (by decide), old 3 j hj (by decide)]
    exact hR j hj
  refine CallAt.of (k := 142) (cd := k_X6_readPerson) ok_X6_readPerson (by decide) rfl rfl rfl ?_
  show V _ i_X6_readPerson k_X6_readPerson 0 [.ref 900, .int (nI k), .null, .null, .null] [] _ _
  refine V_run ok_X6_readPerson 2 0 ?_
  simp (disch := omega) only [eng, c_X6_readPerson, r_X6_readPerson, tbl, true_and, Nat.reduceAdd, Nat.reduceLT, ↓reduceIte, n_eq, n_lt, n_le, n_cl, n_inT, nI_add, bI_eq0, bI_eq1, not_true_eq_false, not_false_eq_true, true_implies, false_implies, implies_true, and_true, Bool.not_eq_false, Bool.not_eq_true, Nat.reduceEqDiff, Nat.reduceLeDiff, Classical.not_not, List.length_cons, List.length_nil, Int.reduceAdd, z_cast, Nat.reducePow, false_or, Nat.reduceLT, Nat.sub_zero, Nat.le_refl]
  try simp only [iteP, Classical.not_not, Bool.not_eq_false, Bool.not_eq_true]
  refine m_nextB hw hS ?_
  by_cases z1 : cN tp ln (nb tp ln q) = 109
  · have e1 : (cZ tp ln (nb tp ln q) = nI 109) = True := by rw [e1]; exact eq_true z1
    refine V_run ok_X6_readPerson 23 2 ?_
    simp (disch := omega) only [eng, c_X6_readPerson, r_X6_readPerson, tbl, true_and, Nat.reduceAdd, Nat.reduceLT, ↓reduceIte, n_eq, n_lt, n_le, n_cl, n_inT, nI_add, bI_eq0, bI_eq1, not_true_eq_false, not_false_eq_true, true_implies, false_implies, implies_true, and_true, Bool.not_eq_false, Bool.not_eq_true, Nat.reduceEqDiff, Nat.reduceLeDiff, Classical.not_not, List.length_cons, List.length_nil, Int.reduceAdd, z_cast, Nat.reducePow, false_or, Nat.reduceLT, Nat.sub_zero, Nat.le_refl, e1, pk_mul, wrq, wr_wr]
    try simp only [iteP, Classical.not_not, Bool.not_eq_false, Bool.not_eq_true]
    exact main 0 (by decide) (Or.inr z1) (by rw [if_neg (by omega)]) _ _
  have e1 : (cZ tp ln (nb tp ln q) = nI 109) = False := by rw [e1]; exact eq_false z1
  by_cases z2 : cN tp ln (nb tp ln q) = 119
  · have e2 : (cZ tp ln (nb tp ln q) = nI 119) = True := by rw [e2]; exact eq_true z2
    refine V_run ok_X6_readPerson 25 2 ?_
    simp (disch := omega) only [eng, c_X6_readPerson, r_X6_readPerson, tbl, true_and, Nat.reduceAdd, Nat.reduceLT, ↓reduceIte, n_eq, n_lt, n_le, n_cl, n_inT, nI_add, bI_eq0, bI_eq1, not_true_eq_false, not_false_eq_true, true_implies, false_implies, implies_true, and_true, Bool.not_eq_false, Bool.not_eq_true, Nat.reduceEqDiff, Nat.reduceLeDiff, Classical.not_not, List.length_cons, List.length_nil, Int.reduceAdd, z_cast, Nat.reducePow, false_or, Nat.reduceLT, Nat.sub_zero, Nat.le_refl, e1, e2, pk_mul, wrq, wr_wr]
    try simp only [iteP, Classical.not_not, Bool.not_eq_false, Bool.not_eq_true]
    exact main 1 (by decide) (Or.inl z2) (by rw [if_pos z2]) _ _
  · have e2 : (cZ tp ln (nb tp ln q) = nI 119) = False := by rw [e2]; exact eq_false z2
    rw [if_neg (by omega)] at hK
    refine V_run ok_X6_readPerson 20 2 ?_
    simp (disch := omega) only [eng, c_X6_readPerson, r_X6_readPerson, tbl, true_and, Nat.reduceAdd, Nat.reduceLT, ↓reduceIte, n_eq, n_lt, n_le, n_cl, n_inT, nI_add, bI_eq0, bI_eq1, not_true_eq_false, not_false_eq_true, true_implies, false_implies, implies_true, and_true, Bool.not_eq_false, Bool.not_eq_true, Nat.reduceEqDiff, Nat.reduceLeDiff, Classical.not_not, List.length_cons, List.length_nil, Int.reduceAdd, z_cast, Nat.reducePow, false_or, Nat.reduceLT, Nat.sub_zero, Nat.le_refl, e1, e2]
    try simp only [iteP, Classical.not_not, Bool.not_eq_false, Bool.not_eq_true]
    exact hK _ (nb tp ln q) (hS.pl hp.2) hnn FrY.rfl'.pl (fun x => by cases x)
