/-! marriages that bring a thing into a house -/
def wE (E : Es) (o : Option Nat) : Option Es := match o with
  | none => some E
  | some q => if can E (q / 12) (q % 12) then some (joi E (q / 12) (q % 12)) else none
def oI (o : Option Nat) : Int32 := match o with | none => -1 | some q => nI q
def wdA (o : Option Nat) (a : Nat) (g : Nat → Int32) : Nat → Int32 := match o with
  | none => g
  | some q => upd (upd g a (nI (q / 12))) (a + 1) (nI (q % 12))
theorem can_iff {E : Es} {a c : Nat} : can E a c = true ↔ a < E 12 0 ∧ c < E 12 0 ∧ E 0 a = 0 ∧ E 0 c = 1 ∧ E 5 a = 1 ∧ E 5 c = 1 ∧ E 3 a = 12 ∧ E 3 c = 12 ∧ ¬ (E 1 a ≠ 12 ∧ E 1 a = E 1 c) ∧ ¬ (E 2 a ≠ 12 ∧ E 2 a = E 2 c) ∧ E 1 c ≠ a ∧ E 2 a ≠ c := by
  unfold can; exact decide_eq_true_iff
theorem joi_ne {E : Es} {a c i j : Nat} (h : i ≠ 3) : joi E a c i j = E i j := by simp [joi, h]
theorem Wf_joi {E : Es} (hW : Wf E) {a c : Nat} (h : can E a c = true) : Wf (joi E a c) := by
  obtain ⟨h1, h2, h3, h4, h5, h6, h7, h8, -⟩ := can_iff.mp h
  obtain ⟨a1, a2, a3, a4, a5, a6⟩ := hW
  have hac : a ≠ c := by intro z; subst z; omega
  have e3 : ∀ j, joi E a c 3 j = if j = c then a else if j = a then c else E 3 j := fun j => by simp [joi]
  have e0 : ∀ i j, i ≠ 3 → joi E a c i j = E i j := fun i j h => joi_ne h
  refine ⟨by rw [e0 12 0 (by decide)]; exact a1, by rw [e0 12 1 (by decide)]; exact a2, by rw [e0 12 2 (by decide)]; exact a3, fun q hq => ?_, fun t ht => ?_, fun k hk => ?_⟩
  · rw [e0 12 0 (by decide)] at hq
    obtain ⟨b1, b2, b3, b4, b5, b6, b7⟩ := a4 q hq
    unfold WfP
    rw [e0 0 q (by decide), e0 1 q (by decide), e0 2 q (by decide), e0 4 q (by decide), e0 5 q (by decide), e0 12 0 (by decide), e0 0 _ (by decide), e0 0 _ (by decide), e0 0 _ (by decide)]
    refine ⟨b1, b2, b3, b4, ?_, b6, ?_⟩
    · rw [e3]
      by_cases z : q = c
      · subst z; rw [if_pos rfl]; exact Or.inr ⟨h1, by omega⟩
      · rw [if_neg z]
        by_cases y : q = a
        · subst y; rw [if_pos rfl]; exact Or.inr ⟨h2, by omega⟩
        · rw [if_neg y]; exact b5
    · intro g5 g3
      rw [e3 q] at g3 ⊢
      by_cases z : q = c
      · rw [if_pos z] at g3 ⊢
        rw [e3, if_neg hac, if_pos rfl, z]
      · rw [if_neg z] at g3 ⊢
        by_cases y : q = a
        · rw [if_pos y, e3, if_pos rfl, y]
        · rw [if_neg y] at g3 ⊢
          have b8 := b7 g5 g3
          rw [e3, if_neg (fun w => g3 (by rw [w] at b8; omega)), if_neg (fun w => g3 (by rw [w] at b8; omega))]
          exact b8
  · rw [e0 12 1 (by decide)] at ht
    have := a5 t ht
    unfold WfT
    rw [e0 6 t (by decide), e0 7 t (by decide), e0 8 t (by decide), e0 9 t (by decide), e0 12 0 (by decide)]
    exact this
  · have := a6 k hk
    unfold WfR
    rw [e0 11 k (by decide)]
    exact ⟨this.1, this.2.1, fun i hi => by rw [e0 10 _ (by decide)]; exact this.2.2 i hi⟩
theorem Wf_wE {E E' : Es} (hW : Wf E) {o : Option Nat} (h : wE E o = some E') : Wf E' := by
  cases o with
  | none => cases h; exact hW
  | some q =>
    unfold wE at h
    dsimp only at h
    split at h
    · rename_i hc
      cases h
      exact Wf_joi hW hc
    · cases h
theorem wE_eq {E E' : Es} {o : Option Nat} (h : wE E o = some E') : ∀ i j, i ≠ 3 → E' i j = E i j := by
  intro i j hi
  cases o with
  | none => cases h; rfl
  | some q =>
    unfold wE at h
    dsimp only at h
    split at h
    · cases h; exact joi_ne hi
    · cases h
theorem x_isPair {l : Launch} {q : Nat} {E : Es} {σ : St} {K : Int32 → St → Prop} (hW : Wf E) (hE : XE 100 E σ) (hq : q < 144) (hK : K (bI (can E (q / 12) (q % 12))) σ) : CallAt l 50 [.ref 700, .ref 100, .int (nI q)] σ K := by
  have e1 := pk_div (a := q) (d := 12) (by omega) (by decide) (by decide)
  have e2 : nI q - nI (q / 12) * nI 12 = nI (q % 12) := by
    have := pk_rem (a := q) (d := 12) (by omega) (by decide) (by decide)
    rwa [e1] at this
  refine CallAt.of (k := 50) (cd := k_X3_isPair) ok_X3_isPair (by decide) rfl rfl rfl ?_
  show V _ i_X3_isPair k_X3_isPair 0 [.ref 700, .ref 100, .int (nI q)] [] _ _
  refine V_run ok_X3_isPair 60 0 ?_
  simp (disch := omega) only [eng, c_X3_isPair, r_X3_isPair, tbl, true_and, Nat.reduceAdd, Nat.reduceLT, ↓reduceIte, n_eq, n_lt, n_le, n_cl, n_inT, nI_add, bI_eq0, bI_eq1, not_true_eq_false, not_false_eq_true, true_implies, false_implies, implies_true, and_true, Bool.not_eq_false, Bool.not_eq_true, Nat.reduceEqDiff, Nat.reduceLeDiff, Classical.not_not, List.length_cons, List.length_nil, Int.reduceAdd, z_cast, Nat.reducePow, false_or, Nat.reduceLT, Nat.sub_zero, Nat.le_refl, e1, e2, n_ne0]
  try simp only [iteP, Classical.not_not, Bool.not_eq_false, Bool.not_eq_true]
  refine x_canMarry (Or.inl rfl) hW hE (by omega) (by omega) ?_
  cases h : can E (q / 12) (q % 12) <;> rw [h] at hK <;> exact ⟨by first | exact Or.inl rfl | exact Or.inr rfl, hK⟩
theorem x_weds {l : Launch} {a : Nat} {o : Option Nat} {E : Es} {σ : St} {K : Int32 → St → Prop} (hW : Wf E) (hE : XE 800 E σ) (ha : a + 1 < 4) (ho : ∀ q, o = some q → q < 144)
    (hK : ∀ σ', (∀ E', wE E o = some E' → XE 800 E' σ') → σ' 704 = wdA o a (σ 704) → (∀ k, k ≠ 704 → k < 800 ∨ 815 ≤ k → σ' k = σ k) → K (bI (wE E o).isSome) σ') : CallAt l 52 [.ref 700, .int (oI o), .int (nI a)] σ K := by
  cases o with
  | none =>
    refine CallAt.of (k := 52) (cd := k_X3_weds) ok_X3_weds (by decide) rfl rfl rfl ?_
    show V _ i_X3_weds k_X3_weds 0 [.ref 700, .int (oI none), .int (nI a)] [] _ _
    refine V_run ok_X3_weds 60 0 ?_
    simp (disch := omega) only [eng, c_X3_weds, r_X3_weds, tbl, true_and, Nat.reduceAdd, Nat.reduceLT, ↓reduceIte, n_eq, n_lt, n_le, n_cl, n_inT, nI_add, bI_eq0, bI_eq1, not_true_eq_false, not_false_eq_true, true_implies, false_implies, implies_true, and_true, Bool.not_eq_false, Bool.not_eq_true, Nat.reduceEqDiff, Nat.reduceLeDiff, Classical.not_not, List.length_cons, List.length_nil, Int.reduceAdd, z_cast, Nat.reducePow, false_or, Nat.reduceLT, Nat.sub_zero, Nat.le_refl, oI]
    try simp only [iteP, Classical.not_not, Bool.not_eq_false, Bool.not_eq_true]
    exact hK σ (fun E' h => by cases h; exact hE) rfl (fun _ _ _ => rfl)
  | some q =>
    have hq := ho q rfl
    have e0 : ¬ nI q = -1 := by rw [m1_n]; intro z; have := congrArg (fun x => x.toInt) z; rw [show (nI q).toInt = (q : Int) from nI_nn q (by omega)] at this; have h2 : (nI 4294967295).toInt = -1 := by decide
                                omega
    have e1 := pk_div (a := q) (d := 12) (by omega) (by decide) (by decide)
    have e2 : nI q - nI (q / 12) * nI 12 = nI (q % 12) := by
      have := pk_rem (a := q) (d := 12) (by omega) (by decide) (by decide)
      rwa [e1] at this
    refine CallAt.of (k := 52) (cd := k_X3_weds) ok_X3_weds (by decide) rfl rfl rfl ?_
    show V _ i_X3_weds k_X3_weds 0 [.ref 700, .int (oI (some q)), .int (nI a)] [] _ _
    refine V_run ok_X3_weds 60 0 ?_
    simp (disch := omega) only [eng, c_X3_weds, r_X3_weds, tbl, true_and, Nat.reduceAdd, Nat.reduceLT, ↓reduceIte, n_eq, n_lt, n_le, n_cl, n_inT, nI_add, bI_eq0, bI_eq1, not_true_eq_false, not_false_eq_true, true_implies, false_implies, implies_true, and_true, Bool.not_eq_false, Bool.not_eq_true, Nat.reduceEqDiff, Nat.reduceLeDiff, Classical.not_not, List.length_cons, List.length_nil, Int.reduceAdd, z_cast, Nat.reducePow, false_or, Nat.reduceLT, Nat.sub_zero, Nat.le_refl, oI, e0, e1, e2, n_ne0, wrq]
    try simp only [iteP, Classical.not_not, Bool.not_eq_false, Bool.not_eq_true]
    have hE' : XE 800 E (wr (wr σ 704 a (nI (q / 12))) 704 (a + 1) (nI (q % 12))) := hE.frame (fun k h1 h2 => by simp (disch := omega) only [wrq])
    have hA : ∀ σ' : St, FrE 800 (wr (wr σ 704 a (nI (q / 12))) 704 (a + 1) (nI (q % 12))) σ' → σ' 704 = wdA (some q) a (σ 704) ∧ ∀ k, k ≠ 704 → k < 800 ∨ 815 ≤ k → σ' k = σ k := by
      intro σ' hf
      refine ⟨?_, fun k h1 h2 => ?_⟩
      · rw [hf 704 (by omega)]
        unfold wdA wr
        simp
      · rw [hf k (by omega)]
        simp (disch := omega) only [wrq]
    refine x_join (Or.inr (Or.inr (Or.inr rfl))) hW hE' (by omega) (by omega) (fun h => ?_) (fun h σ' hE2 hf => ?_)
    · have := hA _ (FrE.rfl' (b := 800))
      have hz := hK _ (fun E' z => by simp [wE, h] at z) this.1 this.2
      have e : (wE E (some q)).isSome = false := by simp [wE, h]
      rw [e] at hz
      exact ⟨Or.inl rfl, hz⟩
    · have := hA σ' hf
      have hz := hK σ' (fun E' z => by simp [wE, h] at z; rw [← z]; exact hE2) this.1 this.2
      have e : (wE E (some q)).isSome = true := by simp [wE, h]
      rw [e] at hz
      exact ⟨Or.inr rfl, hz⟩
/-! one thing alone goes the same way as among all -/
def Ag (t : Nat) (E F : Es) : Prop := ∀ i j, (i ≠ 8 ∧ i ≠ 9) ∨ j = t → E i j = F i j
theorem kin_cong {E F : Es} (h : ∀ i, i ≠ 8 → i ≠ 9 → E i = F i) (p r : Nat) : kin E p r = kin F p r := by
  have g0 := h 0 (by decide) (by decide)
  have g1 := h 1 (by decide) (by decide)
  have g2 := h 2 (by decide) (by decide)
  have g3 := h 3 (by decide) (by decide)
  have g4 := h 4 (by decide) (by decide)
  have g5 := h 5 (by decide) (by decide)
  have g12 := h 12 (by decide) (by decide)
  have hs : sib E = sib F := by funext a c; simp [sib, g1, g2]
  have hc : chi E = chi F := by funext a c; simp [chi, g1, g2]
  have hp : psb E = psb F := by funext a c; simp [psb, g1, g2, hs]
  have hcc : cou E = cou F := by funext a c; simp [cou, g1, g2, hs, hp]
  have hr : rel E = rel F := by funext a c r; unfold rel; rw [g0, hc, hs, hcc, g3, g4]
  simp [kin, g5, g12, hr]
theorem heir_cong {E F : Es} (h : ∀ i, i ≠ 8 → i ≠ 9 → E i = F i) (p k : Nat) : heir E p k = heir F p k := by
  have g10 := h 10 (by decide) (by decide)
  have g11 := h 11 (by decide) (by decide)
  have key : ∀ n i, heiF E p k n i = heiF F p k n i := by
    intro n
    induction n with
    | zero => intro i; rfl
    | succ n ih => intro i; unfold heiF; rw [kin_cong h, ih, g10]
  unfold heir
  rw [key, g11]
def br1 (E : Es) (p t : Nat) : Es := bur (pst E p t) p
theorem Ag_fun {t : Nat} {E F : Es} (h : Ag t E F) : ∀ i, i ≠ 8 → i ≠ 9 → E i = F i := fun i h8 h9 => by funext j; exact h i j (Or.inl ⟨h8, h9⟩)
theorem Ag_step {t p : Nat} {E F : Es} (h : Ag t E F) (ht : t < F 12 1) : Ag t (br1 E p t) (die F p) := by
  have hp : pas E p t = pas F p t := pas_cong (h 8 t (Or.inr rfl)) (h 9 t (Or.inr rfl)) (h 6 t (Or.inr rfl)) (fun k => heir_cong (Ag_fun h) p k)
  intro i j hij
  have h3 : E 3 p = F 3 p := h 3 p (Or.inl ⟨by decide, by decide⟩)
  unfold br1 bur pst die
  rw [hp]
  by_cases h8 : i = 8
  · subst h8
    have hj : j = t := by rcases hij with z | z; exact absurd rfl z.1; exact z
    subst hj
    simp [eu, ht]
  · by_cases h9 : i = 9
    · subst h9
      have hj : j = t := by rcases hij with z | z; exact absurd rfl z.2; exact z
      subst hj
      simp [eu, ht]
    · have e : E i j = F i j := h i j (Or.inl ⟨h8, h9⟩)
      simp [eu, h8, h9, h3, e]
def brN (E : Es) (f : Nat → Nat) (t : Nat) : Nat → Es
  | 0 => E
  | n + 1 => br1 (brN E f t n) (f n) t
theorem Ag_N {t : Nat} {E : Es} {f : Nat → Nat} (ht : t < E 12 1) : ∀ n, Ag t (brN E f t n) (dieN E f n)
  | 0 => fun _ _ _ => rfl
  | n + 1 => Ag_step (Ag_N ht n) (by rw [dieN_12]; exact ht)
theorem hous_cong {E F : Es} (h0 : E 0 = F 0) (h1 : E 1 = F 1) (h3 : E 3 = F 3) (p : Nat) : hous E p = hous F p := by
  have key : ∀ n h, faU E n h = faU F n h := by
    intro n
    induction n with
    | zero => intro h; rfl
    | succ n ih => intro h; unfold faU; rw [h1, ih]
  unfold hous
  rw [key, h0, h3]
/-- whether a thing is in a house behind marriages and deaths -/
def brE (E : Es) (o1 o2 : Option Nat) (t h : Nat) (f : Nat → Nat) (N : Nat) : Bool := match wE E o1 with
  | none => false
  | some E1 => match wE E1 o2 with
    | none => false
    | some E2 => decide (dieN E2 f N 8 t < E 12 0 ∧ hous (dieN E2 f N) (dieN E2 f N 8 t) = h)
theorem dieN_5 (f : Nat → Nat) : ∀ (n : Nat) (E F : Es), E 5 = F 5 → dieN E f n 5 = dieN F f n 5
  | 0, _, _, h => h
  | n + 1, E, F, h => by
    have ih := dieN_5 f n E F h
    funext j
    unfold dieN die
    simp [ih]
theorem lp_brings (l : Launch) {N t h : Nat} {o1 o2 : Int32} {E : Es} {f : Nat → Nat} {σ0 : St} {K : Int32 → St → Prop} (hW : Wf E) (hN : N ≤ 8) (ht : t < E 12 1) (hh : h < 12) (g1 : σ0 700 2 = nI N) (g2 : ∀ i, i < N → σ0 702 i = nI (f i)) (hl : ∀ i, i < N → f i < E 12 0 ∧ dieN E f i 5 (f i) = 1)
    (hK : ∀ σ', FrE 800 σ0 σ' → K (bI (decide (dieN E f N 8 t < E 12 0 ∧ hous (dieN E f N) (dieN E f N 8 t) = h))) σ') : ∀ (n i : Nat) (σ : St), i + n = N → Wf (brN E f t i) → XE 800 (brN E f t i) σ → FrE 800 σ0 σ → V l i_X3_brings k_X3_brings 18 [.ref 700, .ref 100, .int o1, .int o2, .int (nI t), .int (nI h), .int (nI i)] [] σ K
  | 0, i, σ, hi, hWi, hE, hF => by
    have hi : i = N := by omega
    subst hi
    have e : σ 700 2 = nI i := by rw [hF 700 (by omega)]; exact g1
    have ag := Ag_N (f := f) ht i
    have a12 : brN E f t i 12 = dieN E f i 12 := Ag_fun ag 12 (by decide) (by decide)
    have h12 := t12 hW ht
    refine V_run ok_X3_brings 60 18 ?_
    simp (disch := omega) only [eng, c_X3_brings, r_X3_brings, tbl, true_and, Nat.reduceAdd, Nat.reduceLT, ↓reduceIte, n_eq, n_lt, n_le, n_cl, n_inT, nI_add, bI_eq0, bI_eq1, not_true_eq_false, not_false_eq_true, true_implies, false_implies, implies_true, and_true, Bool.not_eq_false, Bool.not_eq_true, Nat.reduceEqDiff, Nat.reduceLeDiff, Classical.not_not, List.length_cons, List.length_nil, Int.reduceAdd, z_cast, Nat.reducePow, false_or, Nat.reduceLT, Nat.sub_zero, Nat.le_refl, e]
    try simp only [iteP, Classical.not_not, Bool.not_eq_false, Bool.not_eq_true]
    refine x_isIn (Or.inr (Or.inr (Or.inr rfl))) hWi hE (by rw [a12, dieN_12]; exact ht) hh ?_
    have hz := hK σ hF
    have e1 : brN E f t i 8 t = dieN E f i 8 t := ag 8 t (Or.inr rfl)
    have e2 : hous (brN E f t i) (dieN E f i 8 t) = hous (dieN E f i) (dieN E f i 8 t) := hous_cong (Ag_fun ag 0 (by decide) (by decide)) (Ag_fun ag 1 (by decide) (by decide)) (Ag_fun ag 3 (by decide) (by decide)) _
    rw [e1, e2, a12, dieN_12]
    revert hz
    generalize decide (dieN E f i 8 t < E 12 0 ∧ hous (dieN E f i) (dieN E f i 8 t) = h) = bb
    intro hz
    cases bb <;> exact ⟨by first | exact Or.inl rfl | exact Or.inr rfl, hz⟩
  | n + 1, i, σ, hi, hWi, hE, hF => by
    have h1 : ¬ N ≤ i := by omega
    have e : σ 700 2 = nI N := by rw [hF 700 (by omega)]; exact g1
    have e2 : σ 702 i = nI (f i) := by rw [hF 702 (by omega)]; exact g2 i (by omega)
    have ag := Ag_N (f := f) ht i
    have a12 : brN E f t i 12 = dieN E f i 12 := Ag_fun ag 12 (by decide) (by decide)
    have a5 : brN E f t i 5 = dieN E f i 5 := Ag_fun ag 5 (by decide) (by decide)
    have w := hl i (by omega)
    refine V_run ok_X3_brings 60 18 ?_
    simp (disch := omega) only [eng, c_X3_brings, r_X3_brings, tbl, true_and, Nat.reduceAdd, Nat.reduceLT, ↓reduceIte, n_eq, n_lt, n_le, n_cl, n_inT, nI_add, bI_eq0, bI_eq1, not_true_eq_false, not_false_eq_true, true_implies, false_implies, implies_true, and_true, Bool.not_eq_false, Bool.not_eq_true, Nat.reduceEqDiff, Nat.reduceLeDiff, Classical.not_not, List.length_cons, List.length_nil, Int.reduceAdd, z_cast, Nat.reducePow, false_or, Nat.reduceLT, Nat.sub_zero, Nat.le_refl, h1, e, e2]
    try simp only [iteP, Classical.not_not, Bool.not_eq_false, Bool.not_eq_true]
    have q1 : f i < brN E f t i 12 0 := by rw [a12, dieN_12]; exact w.1
    have q2 : t < brN E f t i 12 1 := by rw [a12, dieN_12]; exact ht
    refine x_pass (Or.inr (Or.inr (Or.inr rfl))) hWi hE q2 q1 (fun σ1 hE1 hf1 => ?_)
    have e3 : σ1 702 i = nI (f i) := by rw [hf1 702 (by omega)]; exact e2
    simp (disch := omega) only [n_eq, n_lt, n_le, n_cl, n_inT, nI_add, bI_eq0, bI_eq1, not_true_eq_false, not_false_eq_true, true_implies, false_implies, implies_true, and_true, Bool.not_eq_false, Bool.not_eq_true, Nat.reduceEqDiff, Nat.reduceLeDiff, Classical.not_not, List.length_cons, List.length_nil, Int.reduceAdd, z_cast, Nat.reducePow, false_or, Nat.reduceLT, Nat.sub_zero, Nat.le_refl, true_and, ↓reduceIte, iteP, e3]
    refine x_bury (Or.inr (Or.inr (Or.inr rfl))) (Wf_pst hWi q1 q2) hE1 (by simpa [pst, eu] using q1) (fun σ2 hE2 hf2 => ?_)
    refine lp_brings l hW hN ht hh g1 g2 hl hK n (i + 1) σ2 (by omega) ?_ hE2 ((hF.trans hf1).trans hf2)
    exact Wf_bur (Wf_pst hWi q1 q2) (by simpa [pst, eu] using q1) (by have := w.2; rw [← a5] at this; simpa [pst, eu] using this)
