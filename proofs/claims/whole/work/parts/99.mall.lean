def Kp (E F : Es) : Prop := (∀ i j, i = 10 ∨ i = 11 → F i j = E i j) ∧ F 12 1 = E 12 1 ∧ F 12 2 = E 12 2
def Nw (F : Es) : Prop := ∀ j, j < F 12 0 → F 4 j = 12 ∧ F 5 j = 1
theorem Kp.rfl' {E : Es} : Kp E E := ⟨fun _ _ _ => rfl, rfl, rfl⟩
theorem Kp.trans {E F G : Es} (h : Kp E F) (h2 : Kp F G) : Kp E G := ⟨fun i j z => (h2.1 i j z).trans (h.1 i j z), h2.2.1.trans h.2.1, h2.2.2.trans h.2.2⟩
def Ok3 (E F : Es) : Prop := Wf F ∧ Kp E F ∧ Nw F ∧ F 12 0 = E 12 0
theorem Ok3.trans {E F G : Es} (h : Ok3 E F) (h2 : Ok3 F G) : Ok3 E G := ⟨h2.1, h.2.1.trans h2.2.1, h2.2.2.1, h2.2.2.2.trans h.2.2.2⟩
theorem Ok_eu {E : Es} {i k v : Nat} (hi : i = 1 ∨ i = 2) (hW : Wf (eu E i k v)) (hN : Nw E) : Ok3 E (eu E i k v) := by
  have e : ∀ r j, r ≠ i → eu E i k v r j = E r j := fun r j h => by unfold eu; rw [if_neg (fun z => h z.1)]
  refine ⟨hW, ⟨fun r j h => e r j (by omega), e 12 1 (by omega), e 12 2 (by omega)⟩, fun j hj => ?_, e 12 0 (by omega)⟩
  rw [e 12 0 (by omega)] at hj
  rw [e 4 j (by omega), e 5 j (by omega)]
  exact hN j hj
theorem Ok_joi {E : Es} {a c : Nat} (hW : Wf (joi E a c)) (hN : Nw E) : Ok3 E (joi E a c) := by
  refine ⟨hW, ⟨fun r j h => joi_ne (by omega), joi_ne (by decide), joi_ne (by decide)⟩, fun j hj => ?_, joi_ne (by decide)⟩
  rw [joi_ne (by decide)] at hj
  rw [joi_ne (by decide), joi_ne (by decide)]
  exact hN j hj
theorem sp3_ok {tp : Nat → Nat} {ln k p : Nat} {E : Es} (hW : Wf E) (hN : Nw E) (hn : E 12 0 = k + 1) (e3 : E 3 k = 12) : Ok3 E (sp3 tp ln E k p).2.2 := by
  have id : Ok3 E E := ⟨hW, Kp.rfl', hN, rfl⟩
  unfold sp3
  dsimp only
  split
  · dsimp only
    split
    · exact id
    · rename_i z
      have := spo_ok (tp := tp) (ln := ln) (k := k) (p := p) (E := E) z
      exact Ok_joi (Wf_joi2 hW (by omega) (by omega) (Ne.symm this.2.1) e3 this.2.2) hN
  · exact id
theorem mo3_ok {tp : Nat → Nat} {ln k p : Nat} {E : Es} (hW : Wf E) (hN : Nw E) (hn : E 12 0 = k + 1) (e3 : E 3 k = 12) : Ok3 E (mo3 tp ln E k p).2.2 := by
  have id : Ok3 E E := ⟨hW, Kp.rfl', hN, rfl⟩
  unfold mo3
  dsimp only
  split
  · split
    · exact sp3_ok hW hN hn e3
    · rename_i z
      have := par_ok (tp := tp) (ln := ln) (k := k) (w := 1) (c := 111) (p := p) (E := E) z
      have o := Ok_eu (k := k) (Or.inr rfl) (Wf_par hW (Or.inr ⟨rfl, rfl⟩) this.1 this.2) hN
      exact o.trans (sp3_ok o.1 o.2.2.1 (by rw [o.2.2.2]; exact hn) (by simp [eu, e3]))
  · exact id
theorem fa3_ok {tp : Nat → Nat} {ln k p : Nat} {E : Es} (hW : Wf E) (hN : Nw E) (hn : E 12 0 = k + 1) (e3 : E 3 k = 12) : Ok3 E (fa3 tp ln E k p).2.2 := by
  have id : Ok3 E E := ⟨hW, Kp.rfl', hN, rfl⟩
  unfold fa3
  dsimp only
  split
  · split
    · exact mo3_ok hW hN hn e3
    · rename_i z
      have := par_ok (tp := tp) (ln := ln) (k := k) (w := 0) (c := 102) (p := p) (E := E) z
      have o := Ok_eu (k := k) (Or.inl rfl) (Wf_par hW (Or.inl ⟨rfl, rfl⟩) this.1 this.2) hN
      exact o.trans (mo3_ok o.1 o.2.2.1 (by rw [o.2.2.2]; exact hn) (by simp [eu, e3]))
  · exact id
theorem rdP_ok {tp : Nat → Nat} {ln p : Nat} {E : Es} (hW : Wf E) (hN : Nw E) (hn : E 12 0 < 12) (h : (rdP tp ln E p).1 = true) : Wf (rdP tp ln E p).2.2 ∧ Kp E (rdP tp ln E p).2.2 ∧ Nw (rdP tp ln E p).2.2 ∧ (rdP tp ln E p).2.2 12 0 = E 12 0 + 1 := by
  rw [rdP_3] at h ⊢
  split
  · rename_i z
    generalize hs : (if cN tp ln p = 119 then 1 else 0) = s
    have hs1 : s ≤ 1 := by rw [← hs]; split <;> decide
    have hW2 : Wf (addE E s 12 12) := Wf_addE hW hn hs1 (Or.inl rfl) (Or.inl rfl)
    have n2 : addE E s 12 12 12 0 = E 12 0 + 1 := by simp [addE]
    have hN2 : Nw (addE E s 12 12) := fun j hj => by
      rw [n2] at hj
      by_cases y : j = E 12 0
      · subst y; simp [addE]
      · rw [addE_old y (by decide), addE_old y (by decide)]; exact hN j (by omega)
    have hK2 : Kp E (addE E s 12 12) := ⟨fun i j hi => by
      have a : ¬ i = 0 := by omega
      have b : ¬ i = 1 := by omega
      have c : ¬ i = 2 := by omega
      have d : ¬ i = 3 := by omega
      have e : ¬ i = 4 := by omega
      have f : ¬ i = 5 := by omega
      have g : ¬ i = 12 := by omega
      simp [addE, a, b, c, d, e, f, g], by simp [addE], by simp [addE]⟩
    have o := fa3_ok (tp := tp) (ln := ln) (p := nb tp ln (p + 1)) hW2 hN2 n2 (by simp [addE])
    exact ⟨o.1, hK2.trans o.2.1, o.2.2.1, by rw [o.2.2.2, n2]⟩
  · rename_i z
    rw [if_neg z] at h; cases h
theorem rdF_ok {tp : Nat → Nat} {ln : Nat} : ∀ (n : Nat) (E : Es) (p : Nat), Wf E → Nw E → E 12 0 + n = 12 → (rdF tp ln n E p).1 = true → Wf (rdF tp ln n E p).2.2 ∧ Kp E (rdF tp ln n E p).2.2 ∧ Nw (rdF tp ln n E p).2.2
  | 0, E, p, hW, hN, hn, h => by cases h
  | n + 1, E, p, hW, hN, hn, h => by
    unfold rdF at h ⊢
    by_cases z : (rdP tp ln E p).1 = true
    · rw [if_pos z] at h ⊢
      have o := rdP_ok hW hN (by omega) z
      by_cases z2 : cN tp ln (rdP tp ln E p).2.1 = 0
      · rw [if_pos z2]; exact ⟨o.1, o.2.1, o.2.2.1⟩
      · rw [if_neg z2] at h ⊢
        by_cases z3 : n = 0 ∨ cN tp ln (rdP tp ln E p).2.1 ≠ 44
        · rw [if_pos z3] at h; cases h
        · rw [if_neg z3] at h ⊢
          have o2 := rdF_ok n _ _ o.1 o.2.2.1 (by rw [o.2.2.2]; omega) h
          exact ⟨o2.1, o.2.1.trans o2.2.1, o2.2.2⟩
    · rw [if_neg z] at h; cases h
theorem lp_allF (l : Launch) {tp : Nat → Nat} {ln : Nat} {σ0 : St} {K : Int32 → St → Prop} (hw : TpW tp ln) : ∀ (n : Nat) (E : Es) (q : Nat) (σ : St) (v4 : Value), E 12 0 + n = 12 → 0 < n → Wf E → Nw E → RM tp ln q σ → RE (E 12 0) E σ → FrY σ0 σ → (∀ σ' q', RM tp ln q' σ' → nb tp ln q' = (rdF tp ln n E (nb tp ln q)).2.1 → FrY σ0 σ' → ((rdF tp ln n E (nb tp ln q)).1 = true → RE ((rdF tp ln n E (nb tp ln q)).2.2 12 0) (rdF tp ln n E (nb tp ln q)).2.2 σ' ∧ σ' 900 18 = nI ((rdF tp ln n E (nb tp ln q)).2.2 12 0)) → K (bI (rdF tp ln n E (nb tp ln q)).1) σ') → V l i_X6_readAll k_X6_readAll 5 [.ref 900, .int (nI 12), .int (nI 44), .int (nI (E 12 0)), v4] [] σ K
  | 0, E, q, σ, v4, hn, h0, hW, hN, hS, hR, hF, hK => absurd h0 (Nat.lt_irrefl 0)
  | n + 1, E, q, σ, v4, hn, _, hW, hN, hS, hR, hF, hK => by
    have h1 : ¬ 12 ≤ E 12 0 := by omega
    unfold rdF at hK
    refine V_run ok_X6_readAll 9 5 ?_
    simp (disch := omega) only [eng, c_X6_readAll, r_X6_readAll, tbl, true_and, Nat.reduceAdd, Nat.reduceLT, ↓reduceIte, n_eq, n_lt, n_le, n_cl, n_inT, nI_add, bI_eq0, bI_eq1, not_true_eq_false, not_false_eq_true, true_implies, false_implies, implies_true, and_true, Bool.not_eq_false, Bool.not_eq_true, Nat.reduceEqDiff, Nat.reduceLeDiff, Classical.not_not, List.length_cons, List.length_nil, Int.reduceAdd, z_cast, Nat.reducePow, false_or, Nat.reduceLT, Nat.sub_zero, Nat.le_refl, h1]
    try simp only [iteP, Classical.not_not, Bool.not_eq_false, Bool.not_eq_true]
    refine m_readPerson hw hS (by omega) hW rfl hR (fun σ1 q1 hS1 hq1 hF1 hR1 => ?_)
    cases z : (rdP tp ln E (nb tp ln q)).1 with
    | false =>
      rw [z, if_neg (by decide)] at hK
      refine V_run ok_X6_readAll 10 14 ?_
      simp (disch := omega) only [eng, c_X6_readAll, r_X6_readAll, tbl, true_and, Nat.reduceAdd, Nat.reduceLT, ↓reduceIte, n_eq, n_lt, n_le, n_cl, n_inT, nI_add, bI_eq0, bI_eq1, not_true_eq_false, not_false_eq_true, true_implies, false_implies, implies_true, and_true, Bool.not_eq_false, Bool.not_eq_true, Nat.reduceEqDiff, Nat.reduceLeDiff, Classical.not_not, List.length_cons, List.length_nil, Int.reduceAdd, z_cast, Nat.reducePow, false_or, Nat.reduceLT, Nat.sub_zero, Nat.le_refl, Bool.false_eq_true]
      try simp only [iteP, Classical.not_not, Bool.not_eq_false, Bool.not_eq_true]
      exact hK σ1 q1 hS1 hq1 (hF.trans hF1) (fun x => by cases x)
    | true =>
      rw [if_pos z] at hK
      have o := rdP_ok hW hN (by omega) z
      have hR1 := hR1 z
      generalize rdP tp ln E (nb tp ln q) = R at *
      obtain ⟨R1, p1, E1⟩ := R
      dsimp only at *
      refine V_run ok_X6_readAll 9 14 ?_
      simp (disch := omega) only [eng, c_X6_readAll, r_X6_readAll, tbl, true_and, Nat.reduceAdd, Nat.reduceLT, ↓reduceIte, n_eq, n_lt, n_le, n_cl, n_inT, nI_add, bI_eq0, bI_eq1, not_true_eq_false, not_false_eq_true, true_implies, false_implies, implies_true, and_true, Bool.not_eq_false, Bool.not_eq_true, Nat.reduceEqDiff, Nat.reduceLeDiff, Classical.not_not, List.length_cons, List.length_nil, Int.reduceAdd, z_cast, Nat.reducePow, false_or, Nat.reduceLT, Nat.sub_zero, Nat.le_refl, Bool.true_eq_false]
      try simp only [iteP, Classical.not_not, Bool.not_eq_false, Bool.not_eq_true]
      have hS2 := hS1.r8 (v := nI (E 12 0 + 1))
      have hF2 := (hF.trans hF1).r8 (v := nI (E 12 0 + 1))
      refine m_nextB hw hS2 ?_
      have hp := nb_le (tp := tp) hS1.2.2.2
      have hnn := nb_nb (tp := tp) hS1.2.2.2
      rw [hq1] at hnn hp ⊢
      have hS3 := hS2.pl hp.2
      have hF3 := hF2.pl (v := nI p1)
      have f18 : wr (wr σ1 900 18 (nI (E 12 0 + 1))) 900 17 (nI p1) 900 18 = nI (E 12 0 + 1) := by simp [wr_at]
      have hR3 : RE (E 12 0 + 1) E1 (wr (wr σ1 900 18 (nI (E 12 0 + 1))) 900 17 (nI p1)) := fun j hj => by
        rw [wr_ne 920 (by decide), wr_ne 920 (by decide)]; exact hR1 j hj
      rcases cZ_c hw p1 with ⟨c1, c2, c3⟩ | ⟨c1, c2, c3, c4⟩
      · rw [if_pos c2] at hK
        have neg : ¬ nI 0 ≤ (-1 : Int32) := by decide
        rw [c1]
        refine V_run ok_X6_readAll 10 29 ?_
        simp (disch := omega) only [eng, c_X6_readAll, r_X6_readAll, tbl, true_and, Nat.reduceAdd, Nat.reduceLT, ↓reduceIte, n_eq, n_lt, n_le, n_cl, n_inT, nI_add, bI_eq0, bI_eq1, not_true_eq_false, not_false_eq_true, true_implies, false_implies, implies_true, and_true, Bool.not_eq_false, Bool.not_eq_true, Nat.reduceEqDiff, Nat.reduceLeDiff, Classical.not_not, List.length_cons, List.length_nil, Int.reduceAdd, z_cast, Nat.reducePow, false_or, Nat.reduceLT, Nat.sub_zero, Nat.le_refl, neg]
        try simp only [iteP, Classical.not_not, Bool.not_eq_false, Bool.not_eq_true]
        exact hK _ p1 hS3 hnn hF3 (fun _ => ⟨by dsimp only; rw [o.2.2.2]; exact hR3, by dsimp only; rw [o.2.2.2]; exact f18⟩)
      · rw [if_neg (by omega)] at hK
        rw [c1]
        by_cases y : cN tp ln p1 = 44
        case neg =>
          rw [if_pos (Or.inr y)] at hK
          refine V_run ok_X6_readAll 20 29 ?_
          simp (disch := omega) only [eng, c_X6_readAll, r_X6_readAll, tbl, true_and, Nat.reduceAdd, Nat.reduceLT, ↓reduceIte, n_eq, n_lt, n_le, n_cl, n_inT, nI_add, bI_eq0, bI_eq1, not_true_eq_false, not_false_eq_true, true_implies, false_implies, implies_true, and_true, Bool.not_eq_false, Bool.not_eq_true, Nat.reduceEqDiff, Nat.reduceLeDiff, Classical.not_not, List.length_cons, List.length_nil, Int.reduceAdd, z_cast, Nat.reducePow, false_or, Nat.reduceLT, Nat.sub_zero, Nat.le_refl, Nat.zero_le, y]
          try simp only [iteP, Classical.not_not, Bool.not_eq_false, Bool.not_eq_true]
          exact hK _ p1 hS3 hnn hF3 (fun x => by cases x)
        · have e11 := pk_sub (a := 12) (b := 1) (by decide)
          by_cases y2 : n = 0
          · rw [if_pos (Or.inl y2)] at hK
            have y3 : E 12 0 = 11 := by omega
            refine V_run ok_X6_readAll 30 29 ?_
            simp (disch := omega) only [eng, c_X6_readAll, r_X6_readAll, tbl, true_and, Nat.reduceAdd, Nat.reduceLT, ↓reduceIte, n_eq, n_lt, n_le, n_cl, n_inT, nI_add, bI_eq0, bI_eq1, not_true_eq_false, not_false_eq_true, true_implies, false_implies, implies_true, and_true, Bool.not_eq_false, Bool.not_eq_true, Nat.reduceEqDiff, Nat.reduceLeDiff, Classical.not_not, List.length_cons, List.length_nil, Int.reduceAdd, z_cast, Nat.reducePow, false_or, Nat.reduceLT, Nat.sub_zero, Nat.le_refl, Nat.zero_le, y, e11, y3, Nat.reduceSub]
            try simp only [iteP, Classical.not_not, Bool.not_eq_false, Bool.not_eq_true]
            exact hK _ p1 (by rw [y3] at hS3; exact hS3) hnn (by rw [y3] at hF3; exact hF3) (fun x => by cases x)
          · rw [if_neg (fun z => by rcases z with z | z; exact y2 z; exact z y)] at hK
            have y3 : ¬ E 12 0 = 11 := by omega
            refine V_run ok_X6_readAll 30 29 ?_
            simp (disch := omega) only [eng, c_X6_readAll, r_X6_readAll, tbl, true_and, Nat.reduceAdd, Nat.reduceLT, ↓reduceIte, n_eq, n_lt, n_le, n_cl, n_inT, nI_add, bI_eq0, bI_eq1, not_true_eq_false, not_false_eq_true, true_implies, false_implies, implies_true, and_true, Bool.not_eq_false, Bool.not_eq_true, Nat.reduceEqDiff, Nat.reduceLeDiff, Classical.not_not, List.length_cons, List.length_nil, Int.reduceAdd, z_cast, Nat.reducePow, false_or, Nat.reduceLT, Nat.sub_zero, Nat.le_refl, Nat.zero_le, y, e11, y3, Nat.reduceSub, wrq, wr_wr]
            try simp only [iteP, Classical.not_not, Bool.not_eq_false, Bool.not_eq_true]
            have := lp_allF l (σ0 := σ0) (K := K) hw n E1 (p1 + 1) (wr (wr σ1 900 18 (nI (E 12 0 + 1))) 900 17 (nI (p1 + 1))) (.int (nI 44)) (by rw [o.2.2.2]; omega) (by omega) o.1 o.2.2.1 (hS2.pl (by omega)) (by rw [o.2.2.2]; exact fun j hj => by rw [wr_ne 920 (by decide), wr_ne 920 (by decide)]; exact hR1 j hj) hF2.pl hK
            rw [o.2.2.2] at this
            exact this
theorem m_end {l : Launch} {tp : Nat → Nat} {ln q : Nat} {b : Bool} {σ : St} {K : Int32 → St → Prop} (hw : TpW tp ln) (hS : RM tp ln q σ) (h1 : b = true → K (nI 0) (wr σ 900 16 (nI 0))) (h0 : b = false → K ((-20) - nI (nb tp ln q)) (wr (wr σ 900 17 (nI (nb tp ln q))) 900 16 (nI 0))) : CallAt l 145 [.ref 900, .int (bI b)] σ K := by
  cases b with
  | true =>
    refine CallAt.of (k := 145) (cd := k_X6_end) ok_X6_end (by decide) rfl rfl rfl ?_
    show V _ i_X6_end k_X6_end 0 [.ref 900, .int (bI true)] [] _ _
    refine V_run ok_X6_end 30 0 ?_
    simp (disch := omega) only [eng, c_X6_end, r_X6_end, tbl, true_and, Nat.reduceAdd, Nat.reduceLT, ↓reduceIte, n_eq, n_lt, n_le, n_cl, n_inT, nI_add, bI_eq0, bI_eq1, not_true_eq_false, not_false_eq_true, true_implies, false_implies, implies_true, and_true, Bool.not_eq_false, Bool.not_eq_true, Nat.reduceEqDiff, Nat.reduceLeDiff, Classical.not_not, List.length_cons, List.length_nil, Int.reduceAdd, z_cast, Nat.reducePow, false_or, Nat.reduceLT, Nat.sub_zero, Nat.le_refl, Bool.true_eq_false]
    try simp only [iteP, Classical.not_not, Bool.not_eq_false, Bool.not_eq_true]
    exact h1 rfl
  | false =>
    refine CallAt.of (k := 145) (cd := k_X6_end) ok_X6_end (by decide) rfl rfl rfl ?_
    show V _ i_X6_end k_X6_end 0 [.ref 900, .int (bI false)] [] _ _
    refine V_run ok_X6_end 30 0 ?_
    simp (disch := omega) only [eng, c_X6_end, r_X6_end, tbl, true_and, Nat.reduceAdd, Nat.reduceLT, ↓reduceIte, n_eq, n_lt, n_le, n_cl, n_inT, nI_add, bI_eq0, bI_eq1, not_true_eq_false, not_false_eq_true, true_implies, false_implies, implies_true, and_true, Bool.not_eq_false, Bool.not_eq_true, Nat.reduceEqDiff, Nat.reduceLeDiff, Classical.not_not, List.length_cons, List.length_nil, Int.reduceAdd, z_cast, Nat.reducePow, false_or, Nat.reduceLT, Nat.sub_zero, Nat.le_refl, Bool.false_eq_true]
    try simp only [iteP, Classical.not_not, Bool.not_eq_false, Bool.not_eq_true]
    refine m_nextB hw hS ?_
    simp (disch := omega) only [n_eq, n_lt, n_le, n_cl, n_inT, nI_add, bI_eq0, bI_eq1, not_true_eq_false, not_false_eq_true, true_implies, false_implies, implies_true, and_true, Bool.not_eq_false, Bool.not_eq_true, Nat.reduceEqDiff, Nat.reduceLeDiff, Classical.not_not, List.length_cons, List.length_nil, Int.reduceAdd, z_cast, Nat.reducePow, false_or, Nat.reduceLT, Nat.sub_zero, Nat.le_refl, true_and, ↓reduceIte, iteP, wrq]
    exact h0 rfl
