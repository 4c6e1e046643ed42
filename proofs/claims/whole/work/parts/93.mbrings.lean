theorem m_canPair {l : Launch} {q : Nat} {E : Es} {σ : St} {K : Int32 → St → Prop} (hW : Wf E) (hE : ME E σ) (hq : q < 144) (hK : K (bI (can E (q / 12) (q % 12))) σ) : CallAt l 181 [.ref 900, .int (nI q)] σ K := by
  obtain ⟨q1, q2⟩ := car_q (w := q / 12) (i := q % 12) (k := q) (by omega) (by omega) (by omega)
  have hn := hW.1
  have b1 : q / 12 < 12 := by omega
  have b2 : q % 12 < 12 := by omega
  generalize q / 12 = a at *
  generalize q % 12 = c at *
  have bad : ¬ (a < E 12 0 ∧ c < E 12 0 ∧ E 0 a = 0 ∧ E 0 c = 1) → K (nI 0) σ := fun z => by
    have : can E a c = false := by
      cases h : can E a c with
      | false => rfl
      | true =>
        have := can_iff.mp h
        exact absurd ⟨this.1, this.2.1, this.2.2.1, this.2.2.2.1⟩ z
    rw [this] at hK; exact hK
  refine CallAt.of (k := 181) (cd := k_X6_canPair) ok_X6_canPair (by decide) rfl rfl rfl ?_
  show V _ i_X6_canPair k_X6_canPair 0 [.ref 900, .int (nI q), .null, .null] [] _ _
  refine V_run ok_X6_canPair 60 0 ?_
  simp (disch := omega) only [eng, c_X6_canPair, r_X6_canPair, tbl, true_and, Nat.reduceAdd, Nat.reduceLT, ↓reduceIte, n_eq, n_lt, n_le, n_cl, n_inT, nI_add, bI_eq0, bI_eq1, not_true_eq_false, not_false_eq_true, true_implies, false_implies, implies_true, and_true, Bool.not_eq_false, Bool.not_eq_true, Nat.reduceEqDiff, Nat.reduceLeDiff, Classical.not_not, List.length_cons, List.length_nil, Int.reduceAdd, z_cast, Nat.reducePow, false_or, Nat.reduceLT, Nat.sub_zero, Nat.le_refl, q1, q2, n_ne0]
  try simp only [iteP, Classical.not_not, Bool.not_eq_false, Bool.not_eq_true]
  refine m_isOne hE.1 hn ?_
  rw [inB_n (by omega)]
  by_cases h1 : a < E 12 0
  case neg =>
    rw [decide_eq_false h1]
    simp (disch := omega) only [n_eq, n_lt, n_le, n_cl, n_inT, nI_add, bI_eq0, bI_eq1, not_true_eq_false, not_false_eq_true, true_implies, false_implies, implies_true, and_true, Bool.not_eq_false, Bool.not_eq_true, Nat.reduceEqDiff, Nat.reduceLeDiff, Classical.not_not, List.length_cons, List.length_nil, Int.reduceAdd, z_cast, Nat.reducePow, false_or, Nat.reduceLT, Nat.sub_zero, Nat.le_refl, true_and, ↓reduceIte, iteP, Bool.false_eq_true]
    exact bad (fun z => h1 z.1)
  rw [decide_eq_true h1]
  simp (disch := omega) only [n_eq, n_lt, n_le, n_cl, n_inT, nI_add, bI_eq0, bI_eq1, not_true_eq_false, not_false_eq_true, true_implies, false_implies, implies_true, and_true, Bool.not_eq_false, Bool.not_eq_true, Nat.reduceEqDiff, Nat.reduceLeDiff, Classical.not_not, List.length_cons, List.length_nil, Int.reduceAdd, z_cast, Nat.reducePow, false_or, Nat.reduceLT, Nat.sub_zero, Nat.le_refl, true_and, ↓reduceIte, iteP, Bool.true_eq_false]
  refine m_isOne hE.1 hn ?_
  rw [inB_n (by omega)]
  by_cases h2 : c < E 12 0
  case neg =>
    rw [decide_eq_false h2]
    simp (disch := omega) only [n_eq, n_lt, n_le, n_cl, n_inT, nI_add, bI_eq0, bI_eq1, not_true_eq_false, not_false_eq_true, true_implies, false_implies, implies_true, and_true, Bool.not_eq_false, Bool.not_eq_true, Nat.reduceEqDiff, Nat.reduceLeDiff, Classical.not_not, List.length_cons, List.length_nil, Int.reduceAdd, z_cast, Nat.reducePow, false_or, Nat.reduceLT, Nat.sub_zero, Nat.le_refl, true_and, ↓reduceIte, iteP, Bool.false_eq_true]
    exact bad (fun z => h2 z.2.1)
  rw [decide_eq_true h2]
  have fa := (hE.2.2.2.1 a h1).1
  have fc := (hE.2.2.2.1 c h2).1
  have wa := (hW.2.2.2.1 a h1).1
  have wc := (hW.2.2.2.1 c h2).1
  by_cases h3 : E 0 a = 0
  case neg =>
    simp (disch := omega) only [n_eq, n_lt, n_le, n_cl, n_inT, nI_add, bI_eq0, bI_eq1, not_true_eq_false, not_false_eq_true, true_implies, false_implies, implies_true, and_true, Bool.not_eq_false, Bool.not_eq_true, Nat.reduceEqDiff, Nat.reduceLeDiff, Classical.not_not, List.length_cons, List.length_nil, Int.reduceAdd, z_cast, Nat.reducePow, false_or, Nat.reduceLT, Nat.sub_zero, Nat.le_refl, true_and, ↓reduceIte, iteP, Bool.true_eq_false, fa, h3]
    exact bad (fun z => h3 z.2.2.1)
  by_cases h4 : E 0 c = 1
  case neg =>
    simp (disch := omega) only [n_eq, n_lt, n_le, n_cl, n_inT, nI_add, bI_eq0, bI_eq1, not_true_eq_false, not_false_eq_true, true_implies, false_implies, implies_true, and_true, Bool.not_eq_false, Bool.not_eq_true, Nat.reduceEqDiff, Nat.reduceLeDiff, Classical.not_not, List.length_cons, List.length_nil, Int.reduceAdd, z_cast, Nat.reducePow, false_or, Nat.reduceLT, Nat.sub_zero, Nat.le_refl, true_and, ↓reduceIte, iteP, Bool.true_eq_false, fa, fc, h3, h4]
    exact bad (fun z => h4 z.2.2.2)
  simp (disch := omega) only [n_eq, n_lt, n_le, n_cl, n_inT, nI_add, bI_eq0, bI_eq1, not_true_eq_false, not_false_eq_true, true_implies, false_implies, implies_true, and_true, Bool.not_eq_false, Bool.not_eq_true, Nat.reduceEqDiff, Nat.reduceLeDiff, Classical.not_not, List.length_cons, List.length_nil, Int.reduceAdd, z_cast, Nat.reducePow, false_or, Nat.reduceLT, Nat.sub_zero, Nat.le_refl, true_and, ↓reduceIte, iteP, Bool.true_eq_false, fa, fc, h3, h4]
  refine m_can hW hE h1 h2 h3 h4 ?_
  cases h5 : can E a c
  all_goals
    rw [h5] at hK
    simp (disch := omega) only [n_eq, n_lt, n_le, n_cl, n_inT, nI_add, bI_eq0, bI_eq1, not_true_eq_false, not_false_eq_true, true_implies, false_implies, implies_true, and_true, Bool.not_eq_false, Bool.not_eq_true, Nat.reduceEqDiff, Nat.reduceLeDiff, Classical.not_not, List.length_cons, List.length_nil, Int.reduceAdd, z_cast, Nat.reducePow, false_or, Nat.reduceLT, Nat.sub_zero, Nat.le_refl, true_and, ↓reduceIte, iteP, Bool.true_eq_false, Bool.false_eq_true]
    exact hK
theorem fst_cong (d : Nat → Int32) : ∀ (n i : Nat) (E F : Es), E 5 = F 5 → E 12 0 = F 12 0 → fstE d n i E = fstE d n i F
  | 0, i, E, F, _, _ => rfl
  | n + 1, i, E, F, h5, h12 => by
    unfold fstE
    have e : livX E (d i) = livX F (d i) := by unfold livX; rw [h5, h12]
    rw [e, fst_cong d n (i + 1) (die E (d i).toNatClampNeg) (die F (d i).toNatClampNeg) (by funext j; rw [die_5, die_5, h5]) (by rw [die_12, die_12, h12])]
/-- whether marriages can be, and bring a thing into a house behind deaths, if these can be -/
def brM (E : Es) (o1 o2 : Option Nat) (t h : Nat) (d : Nat → Int32) (N : Nat) : Bool := decide (¬ fstE d N 0 E < N) && brE E o1 o2 t h (fun i => (d i).toNatClampNeg) N
/-- the state behind the marriages -/
theorem wE_5 {E E' : Es} {o : Option Nat} (h : wE E o = some E') : E' 5 = E 5 ∧ E' 12 = E 12 := ⟨by funext j; exact wE_eq h 5 j (by decide), by funext j; exact wE_eq h 12 j (by decide)⟩
theorem SmE_wE {E F F' : Es} {o : Option Nat} (hS : SmE E F) (h : wE F o = some F') : SmE E F' := fun i j h3 h5 h8 h9 => by rw [wE_eq h i j h3]; exact hS i j h3 h5 h8 h9
/-- the end of brings: deaths and the house, from place 34 on -/
theorem m_brEnd (l : Launch) {n N t h at' : Nat} {d : Nat → Int32} {v7 : Value} {E F : Es} {σ0 σ : St} {K : Int32 → St → Prop} (hW : Wf E) (hN : N ≤ 8) (ha : at' + N ≤ 96) (ht : t < E 12 1) (hh : h < 12) (hd : ∀ i, i < N → σ0 928 (at' + i) = d i) (hA : AsK E σ0) (hS : SmE E F) (hWF : Wf F) (hE : ME F σ) (hf : FrN σ0 σ)
    (hK : ∀ σ', ME E σ' → FrN σ0 σ' → K (bI (decide (¬ fstE d N 0 F < N) && decide (dieN F (fun i => (d i).toNatClampNeg) N 8 t < E 12 0 ∧ hous (dieN F (fun i => (d i).toNatClampNeg) N) (dieN F (fun i => (d i).toNatClampNeg) N 8 t) = h))) σ') : V l i_X6_brings k_X6_brings 34 [.ref 900, .int (nI n), .int (nI t), .int (nI h), .int (nI at'), .int (nI N), .int (nI 1), v7] [] σ K := by
  have ht12 := t12 hW ht
  have hn := hW.1
  have back : ∀ (b : Bool) (G : Es) (σ2 : St), SmE E G → ME G σ2 → FrN σ σ2 → b = (decide (¬ fstE d N 0 F < N) && decide (dieN F (fun i => (d i).toNatClampNeg) N 8 t < E 12 0 ∧ hous (dieN F (fun i => (d i).toNatClampNeg) N) (dieN F (fun i => (d i).toNatClampNeg) N 8 t) = h)) → CallAt l 157 [.ref 900] σ2 (fun _ σ' => K (bI b) σ') := fun b G σ2 hG hE2 hf2 hb => by
    refine m_back hW hG hE2 (hA.fr (by rw [hf2.1 921 (by decide) (by decide), hf.1 921 (by decide) (by decide)])) (fun σ3 hE3 hf3 => ?_)
    rw [hb]
    exact hK σ3 hE3 ((hf.trans hf2).trans hf3)
  refine V_run ok_X6_brings 60 34 ?_
  simp (disch := omega) only [eng, c_X6_brings, r_X6_brings, tbl, true_and, Nat.reduceAdd, Nat.reduceLT, ↓reduceIte, n_eq, n_lt, n_le, n_cl, n_inT, nI_add, bI_eq0, bI_eq1, not_true_eq_false, not_false_eq_true, true_implies, false_implies, implies_true, and_true, Bool.not_eq_false, Bool.not_eq_true, Nat.reduceEqDiff, Nat.reduceLeDiff, Classical.not_not, List.length_cons, List.length_nil, Int.reduceAdd, z_cast, Nat.reducePow, false_or, Nat.reduceLT, Nat.sub_zero, Nat.le_refl]
  try simp only [iteP, Classical.not_not, Bool.not_eq_false, Bool.not_eq_true]
  refine m_dieAll (d := d) hWF hE hN ha (fun i hi => by rw [hf.1 928 (by decide) (by decide)]; exact hd i hi) (fun G σ2 hG hWG hE2 hf2 hGe => ?_)
  have hG2 : SmE E G := fun i j h3 h5 h8 h9 => by rw [hG i j h3 h5 h8 h9]; exact hS i j h3 h5 h8 h9
  by_cases z : fstE d N 0 F < N
  · rw [if_pos z]
    have ne : ¬ nI (fstE d N 0 F) = (-4 : Int32) := by
      rw [i_eq, nI_nn _ (by omega)]
      show ¬ ((fstE d N 0 F : Int) = -4)
      omega
    simp (disch := omega) only [n_eq, n_lt, n_le, n_cl, n_inT, nI_add, bI_eq0, bI_eq1, not_true_eq_false, not_false_eq_true, true_implies, false_implies, implies_true, and_true, Bool.not_eq_false, Bool.not_eq_true, Nat.reduceEqDiff, Nat.reduceLeDiff, Classical.not_not, List.length_cons, List.length_nil, Int.reduceAdd, z_cast, Nat.reducePow, false_or, Nat.reduceLT, Nat.sub_zero, Nat.le_refl, true_and, ↓reduceIte, iteP, ne]
    exact back false G σ2 hG2 hE2 hf2 (by rw [decide_eq_false (fun y => y z)]; rfl)
  · rw [if_neg z]
    have hGe := hGe z
    subst hGe
    have s0 := hG2 12 0 (by decide) (by decide) (by decide) (by decide)
    have s1 := hG2 12 1 (by decide) (by decide) (by decide) (by decide)
    have htG : t < dieN F (fun i => (d i).toNatClampNeg) N 12 1 := by rw [s1]; exact ht
    have f8 := (hE2.2.2.2.2.1 t htG).2.2.1
    have w8 := (hWG.2.2.2.2.1 t htG).2.2.1
    have h13 := ho14 hWG htG
    rw [s0] at w8
    have zt : decide (¬ fstE d N 0 F < N) = true := decide_eq_true z
    rw [zt, Bool.true_and] at back
    generalize dieN F (fun i => (d i).toNatClampNeg) N = G at *
    by_cases y : G 8 t < 12
    · have y1 : ¬ 12 ≤ G 8 t := by omega
      have y2 : G 8 t < E 12 0 := by omega
      simp (disch := omega) only [n_eq, n_lt, n_le, n_cl, n_inT, nI_add, bI_eq0, bI_eq1, not_true_eq_false, not_false_eq_true, true_implies, false_implies, implies_true, and_true, Bool.not_eq_false, Bool.not_eq_true, Nat.reduceEqDiff, Nat.reduceLeDiff, Classical.not_not, List.length_cons, List.length_nil, Int.reduceAdd, z_cast, Nat.reducePow, false_or, Nat.reduceLT, Nat.sub_zero, Nat.le_refl, true_and, ↓reduceIte, iteP, f8, y1]
      refine m_house hWG hE2 (by rw [s0]; exact y2) ?_
      have hl := hous_lt hWG (p := G 8 t) (by rw [s0]; exact y2)
      rw [s0] at hl
      by_cases x : hous G (G 8 t) = h
      · simp (disch := omega) only [n_eq, n_lt, n_le, n_cl, n_inT, nI_add, bI_eq0, bI_eq1, not_true_eq_false, not_false_eq_true, true_implies, false_implies, implies_true, and_true, Bool.not_eq_false, Bool.not_eq_true, Nat.reduceEqDiff, Nat.reduceLeDiff, Classical.not_not, List.length_cons, List.length_nil, Int.reduceAdd, z_cast, Nat.reducePow, false_or, Nat.reduceLT, Nat.sub_zero, Nat.le_refl, true_and, ↓reduceIte, iteP, x]
        exact back true G σ2 hG2 hE2 hf2 (by rw [decide_eq_true ⟨y2, x⟩])
      · simp (disch := omega) only [n_eq, n_lt, n_le, n_cl, n_inT, nI_add, bI_eq0, bI_eq1, not_true_eq_false, not_false_eq_true, true_implies, false_implies, implies_true, and_true, Bool.not_eq_false, Bool.not_eq_true, Nat.reduceEqDiff, Nat.reduceLeDiff, Classical.not_not, List.length_cons, List.length_nil, Int.reduceAdd, z_cast, Nat.reducePow, false_or, Nat.reduceLT, Nat.sub_zero, Nat.le_refl, true_and, ↓reduceIte, iteP, x]
        exact back false G σ2 hG2 hE2 hf2 (by rw [decide_eq_false (fun q => x q.2)])
    · have y1 : 12 ≤ G 8 t := by omega
      simp (disch := omega) only [n_eq, n_lt, n_le, n_cl, n_inT, nI_add, bI_eq0, bI_eq1, not_true_eq_false, not_false_eq_true, true_implies, false_implies, implies_true, and_true, Bool.not_eq_false, Bool.not_eq_true, Nat.reduceEqDiff, Nat.reduceLeDiff, Classical.not_not, List.length_cons, List.length_nil, Int.reduceAdd, z_cast, Nat.reducePow, false_or, Nat.reduceLT, Nat.sub_zero, Nat.le_refl, true_and, ↓reduceIte, iteP, f8, y1]
      exact back false G σ2 hG2 hE2 hf2 (by rw [decide_eq_false (fun q => by omega)])
