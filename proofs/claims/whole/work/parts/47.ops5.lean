/-! the tape, numbers told, deaths -/
def op_type (A : AS) (w : Int64) (n : Int32) : Int32 × AS :=
  if (rI n 1 8 && okB w n.toNatClampNeg 0) = true then (if 120 < A.2.2.1.2 + n.toNatClampNeg then (-3, A) else (nI (A.2.2.1.2 + n.toNatClampNeg), (A.1, A.2.1, (tpW A.2.2.1.1 A.2.2.1.2 w n.toNatClampNeg, A.2.2.1.2 + n.toNatClampNeg), A.2.2.2))) else (-1, A)
theorem okB_of {w : Int64} : ∀ (m i : Nat), okB w m i = true → ∀ j, i ≤ j → j < i + m → 32 ≤ bN w j ∧ bN w j ≤ 126
  | 0, i, _, j, h1, h2 => absurd h2 (by omega)
  | m + 1, i, h, j, h1, h2 => by
    unfold okB at h
    simp only [Bool.and_eq_true, decide_eq_true_eq] at h
    by_cases z : j = i
    · subst z; omega
    · exact okB_of m (i + 1) h.2 j (by omega) (by omega)
theorem TpW_put {tp : Nat → Nat} {ln n : Nat} {w : Int64} (h : TpW tp ln) (ho : okB w n 0 = true) (hl : ln + n ≤ 120) : TpW (tpW tp ln w n) (ln + n) := by
  refine ⟨hl, fun i hi => ?_⟩
  unfold tpW
  split
  · rename_i z; exact h.2 i z
  · exact okB_of n 0 ho _ (by omega) (by omega)
theorem X_type {l : Launch} {A : AS} {w : Int64} {n : Int32} {σ : St} {K : Int32 → St → Prop} (hC : CX A σ) (hK : ∀ σ', CX (op_type A w n).2 σ' → FrX σ σ' → K (op_type A w n).1 σ') : CallAt l 82 [.ref 0, .long w, .int n] σ K := by
  unfold op_type at hK
  refine CallAt.of (k := 82) (cd := k_X5_type) ok_X5_type (by decide) rfl rfl rfl ?_
  show V _ i_X5_type k_X5_type 0 [.ref 0, .long w, .null, .int n] [] _ _
  refine V_run ok_X5_type 60 0 ?_
  simp (disch := omega) only [eng, c_X5_type, r_X5_type, tbl, true_and, Nat.reduceAdd, Nat.reduceLT, ↓reduceIte, n_eq, n_lt, n_le, n_cl, n_inT, nI_add, bI_eq0, bI_eq1, not_true_eq_false, not_false_eq_true, true_implies, false_implies, implies_true, and_true, Bool.not_eq_false, Bool.not_eq_true, Nat.reduceEqDiff, Nat.reduceLeDiff, Classical.not_not, List.length_cons, List.length_nil, Int.reduceAdd, z_cast, Nat.reducePow, false_or, Nat.reduceLT, Nat.sub_zero, Nat.le_refl]
  try simp only [iteP, Classical.not_not, Bool.not_eq_false, Bool.not_eq_true]
  have hw := hC.1.2.2.1
  refine x_put8 hw hC.2.2.2.2.1 (fun z => ?_) (fun n' h1 h2 e h => ?_) (fun n' h1 h2 e h h4 => ?_) (fun n' h1 h2 e h h4 σ' hT hf => ?_)
  · have : rI n 1 8 = false := by
      rcases rng n 1 8 (by decide) (by decide) with ⟨g0, g⟩ | ⟨g0, g⟩ | ⟨g0, n', h1, h3, rfl⟩
      · exact g0
      · exact g0
      · rw [n_lt (by omega) (by omega), n_lt (by omega) (by omega)] at z
        omega
    rw [this] at hK; exact hK σ hC FrX.rfl'
  all_goals
    subst e
    have g : rI (nI n') 1 8 = true := by
      rcases rng (nI n') 1 8 (by decide) (by decide) with ⟨g0, g⟩ | ⟨g0, g⟩ | ⟨g0, _⟩
      · rw [n_lt (by omega) (by omega)] at g; have := of_eq_true g; omega
      · rw [n_lt (by omega) (by omega), n_lt (by omega) (by omega)] at g; have := of_eq_true g.2.1; omega
      · exact g0
    rw [n_cl (by omega), g, h] at hK
  · exact hK σ hC FrX.rfl'
  · rw [Bool.and_self, if_pos rfl, if_pos h4] at hK; exact hK σ hC FrX.rfl'
  · rw [Bool.and_self, if_pos rfl, if_neg (by omega)] at hK
    obtain ⟨a1, a2, a3, a4, a5, a6⟩ := hC
    exact hK σ' ⟨⟨a1.1, a1.2.1, TpW_put hw h h4, a1.2.2.2⟩, a2.frame (fun k h1 h2 => hf k (by omega) (by omega)), by rw [hf 0 (by omega) (by omega)]; exact a3, fun E' he => (a4 E' he).frame (fun k h1 h2 => hf k (by omega) (by omega)), hT, ⟨fun s hs => by rw [hf 501 (by omega) (by omega), hf 502 (by omega) (by omega)]; exact a6.1 s hs, fun j hj => by rw [hf 503 (by omega) (by omega)]; exact a6.2 j hj⟩⟩ (fun k hk => hf k (by omega) (by omega))
/-- the people and things taken away -/
def clr (E : Es) : Es := fun i j => if i = 12 ∧ j < 2 then 0 else E i j
theorem Wf_clr {E : Es} (hW : Wf E) : Wf (clr E) := by
  have e0 : clr E 12 0 = 0 := by simp [clr]
  have e1 : clr E 12 1 = 0 := by simp [clr]
  refine ⟨by omega, by omega, ?_, fun p hp => absurd hp (by omega), fun t ht => absurd ht (by omega), fun k hk => ?_⟩
  · have : clr E 12 2 = E 12 2 := by simp [clr]
    rw [this]; exact hW.2.2.1
  · have := hW.2.2.2.2.2 k hk
    unfold WfR at this ⊢
    simpa [clr] using this
def tp0 (A : AS) : AS := (A.1, A.2.1, (A.2.2.1.1, 0), A.2.2.2)
theorem CX.tp0 {A : AS} {σ σ' : St} (hC : CX A σ) (hf : FrR σ σ') : CX (tp0 A) (wr σ' 400 1 (nI 0)) := by
  obtain ⟨a1, a2, a3, a4, a5, a6⟩ := hC
  have g : ∀ k, k ≠ 400 → k < 300 ∨ 315 ≤ k → wr σ' 400 1 (nI 0) k = σ k := fun k h1 h2 => by rw [wr_ne k h1]; exact hf k h1 h2
  exact ⟨⟨a1.1, a1.2.1, ⟨by show 0 ≤ 120; omega, fun i hi => absurd hi (Nat.not_lt_zero i)⟩, a1.2.2.2⟩, a2.frame (fun k h1 h2 => g k (by omega) (by omega)), by rw [g 0 (by omega) (by omega)]; exact a3, fun E' he => (a4 E' he).frame (fun k h1 h2 => g k (by omega) (by omega)), ⟨by show wr σ' 400 1 (nI 0) 400 1 = nI 0; simp [wr_at], fun i hi => absurd hi (Nat.not_lt_zero i)⟩, ⟨fun s hs => by rw [g 501 (by omega) (by omega), g 502 (by omega) (by omega)]; exact a6.1 s hs, fun j hj => by rw [g 503 (by omega) (by omega)]; exact a6.2 j hj⟩⟩
theorem FrR.x {σ σ' : St} (hf : FrR σ σ') : FrX σ σ' := fun k hk => hf k (by omega) (by omega)
theorem FrE.r {σ σ' : St} (hf : FrE 300 σ σ') : FrR σ σ' := fun k h1 h2 => hf k (by omega)
def op_family (A : AS) : Int32 × AS := (rdR (rdF A.2.2.1.1 A.2.2.1.2 12 (clr A.1) (nb A.2.2.1.1 A.2.2.1.2 0)), if (rdF A.2.2.1.1 A.2.2.1.2 12 (clr A.1) (nb A.2.2.1.1 A.2.2.1.2 0)).1 = true then setE (tp0 A) (rdF A.2.2.1.1 A.2.2.1.2 12 (clr A.1) (nb A.2.2.1.1 A.2.2.1.2 0)).2.2 else tp0 A)
theorem flt_neg {p : Nat} (hp : p ≤ 120) : ¬ nI 0 < (-20) - nI p := by
  have : ∀ p, p < 121 → ¬ nI 0 < (-20) - nI p := by decide +kernel
  exact this p (by omega)
theorem TpX_pl {tp : Nat → Nat} {ln : Nat} {v : Int32} {σ : St} (h : TpX tp ln σ) : TpX tp ln (wr σ 400 2 v) := ⟨by simpa [wr_at] using h.1, fun i hi => by rw [wr_ne 401 (by decide)]; exact h.2 i hi⟩
theorem flt_le {p : Nat} (hp : p ≤ 120) : ((-20) - nI p ≤ nI 0) = True := eq_true (by have := flt_neg hp; rw [i_lt] at this; rw [i_le]; omega)
theorem clr_e {b : Nat} {E : Es} {σ : St} (h : XE b (fun i j => if i = 12 ∧ j < 2 then 0 else E i j) σ) : XE b (clr E) σ := h
theorem X_family {l : Launch} {A : AS} {σ : St} {K : Int32 → St → Prop} (hC : CX A σ) (hK : ∀ σ', CX (op_family A).2 σ' → FrX σ σ' → K (op_family A).1 σ') : CallAt l 83 [.ref 0] σ K := by
  have hW := hC.1.1
  have hw := hC.1.2.2.1
  have hE := hC.2.1
  have hT := hC.2.2.2.2.1
  unfold op_family at hK
  refine CallAt.of (k := 83) (cd := k_X5_family) ok_X5_family (by decide) rfl rfl rfl ?_
  show V _ i_X5_family k_X5_family 0 [.ref 0, .null] [] _ _
  refine V_run ok_X5_family 60 0 ?_
  simp (disch := omega) only [eng, c_X5_family, r_X5_family, tbl, true_and, Nat.reduceAdd, Nat.reduceLT, ↓reduceIte, n_eq, n_lt, n_le, n_cl, n_inT, nI_add, bI_eq0, bI_eq1, not_true_eq_false, not_false_eq_true, true_implies, false_implies, implies_true, and_true, Bool.not_eq_false, Bool.not_eq_true, Nat.reduceEqDiff, Nat.reduceLeDiff, Classical.not_not, List.length_cons, List.length_nil, Int.reduceAdd, z_cast, Nat.reducePow, false_or, Nat.reduceLT, Nat.sub_zero, Nat.le_refl]
  try simp only [iteP, Classical.not_not, Bool.not_eq_false, Bool.not_eq_true]
  refine x_takeFrom e300 e100 (by decide) hW hE (fun σ1 hE1 hf1 => ?_)
  refine x_clear e300 hE1 (fun σ2 hE2 hf2 => ?_)
  have hE2 := clr_e hE2
  have hF2 : FrR σ σ2 := hf1.r.trans hf2.r
  have hT2 : TpX A.2.2.1.1 A.2.2.1.2 σ2 := ⟨by rw [hf2 400 (by omega), hf1 400 (by omega)]; exact hT.1, fun i hi => by rw [hf2 401 (by omega), hf1 401 (by omega)]; exact hT.2 i hi⟩
  refine x_open hw hT2 ?_
  have hS : RdS A.2.2.1.1 A.2.2.1.2 (clr A.1) (nb A.2.2.1.1 A.2.2.1.2 0) (wr σ2 400 2 (nI (nb A.2.2.1.1 A.2.2.1.2 0))) := ⟨hE2.frame (fun k h1 h2 => wr_ne k (by omega)), TpX_pl hT2, by simp [wr_at]⟩
  refine x_readPeople hw (Wf_clr hW) (by simp [clr]) hS (nb_le (Nat.zero_le _)).2 (fun σ4 hW4 hS4 hF4 hp4 hn4 => ?_)
  have hl := hw.1
  have hF : FrR σ σ4 := (hF2.trans FrR.pl).trans hF4
  have hC5 := hC.tp0 hF
  refine x_empty ?_
  generalize rdF A.2.2.1.1 A.2.2.1.2 12 (clr A.1) (nb A.2.2.1.1 A.2.2.1.2 0) = r at hK hW4 hS4 hp4 hn4 ⊢
  have h12 := hW4.1
  cases hr : r.1 with
  | false =>
    have e : rdR r = (-20) - nI r.2.1 := by unfold rdR; rw [hr]; rfl
    rw [hr, e] at hK
    rw [e]
    have hz := flt_le (p := r.2.1) (by omega)
    simp (disch := omega) only [n_eq, n_lt, n_le, n_cl, n_inT, nI_add, bI_eq0, bI_eq1, not_true_eq_false, not_false_eq_true, true_implies, false_implies, implies_true, and_true, Bool.not_eq_false, Bool.not_eq_true, Nat.reduceEqDiff, Nat.reduceLeDiff, Classical.not_not, List.length_cons, List.length_nil, Int.reduceAdd, z_cast, Nat.reducePow, false_or, Nat.reduceLT, Nat.sub_zero, Nat.le_refl, true_and, ↓reduceIte, iteP, hz]
    exact hK _ hC5 (hF.x.wr (by decide))
  | true =>
    have h1 := hn4 hr
    have e : rdR r = nI (r.2.2 12 0) := by unfold rdR; rw [hr]; rfl
    rw [hr, e, if_pos rfl] at hK
    rw [e]
    have hz : ¬ r.2.2 12 0 ≤ 0 := by omega
    simp (disch := omega) only [n_eq, n_lt, n_le, n_cl, n_inT, nI_add, bI_eq0, bI_eq1, not_true_eq_false, not_false_eq_true, true_implies, false_implies, implies_true, and_true, Bool.not_eq_false, Bool.not_eq_true, Nat.reduceEqDiff, Nat.reduceLeDiff, Classical.not_not, List.length_cons, List.length_nil, Int.reduceAdd, z_cast, Nat.reducePow, false_or, Nat.reduceLT, Nat.sub_zero, Nat.le_refl, true_and, ↓reduceIte, iteP, hz]
    refine x_takeFrom e100 e300 (by decide) hW4 (XE.frame (σ' := wr σ4 400 1 (nI 0)) hS4.1 (fun k h1 h2 => wr_ne k (by omega))) (fun σ6 hE6 hf6 => ?_)
    exact hK _ (hC5.es hf6 hW4 hE6) ((hF.x.wr (by decide)).trans (hf6.x e100))
def op_rules (A : AS) : Int32 × AS := (ruA (ruR A.2.2.1.1 A.2.2.1.2 4 0 A.1 (nb A.2.2.1.1 A.2.2.1.2 0)), if (ruR A.2.2.1.1 A.2.2.1.2 4 0 A.1 (nb A.2.2.1.1 A.2.2.1.2 0)).1 = true then setE (tp0 A) (ruR A.2.2.1.1 A.2.2.1.2 4 0 A.1 (nb A.2.2.1.1 A.2.2.1.2 0)).2.2.1 else tp0 A)
theorem X_rules {l : Launch} {A : AS} {σ : St} {K : Int32 → St → Prop} (hC : CX A σ) (hK : ∀ σ', CX (op_rules A).2 σ' → FrX σ σ' → K (op_rules A).1 σ') : CallAt l 84 [.ref 0] σ K := by
  have hW := hC.1.1
  have hw := hC.1.2.2.1
  have hE := hC.2.1
  have hT := hC.2.2.2.2.1
  unfold op_rules at hK
  refine CallAt.of (k := 84) (cd := k_X5_rules) ok_X5_rules (by decide) rfl rfl rfl ?_
  show V _ i_X5_rules k_X5_rules 0 [.ref 0, .null] [] _ _
  refine V_run ok_X5_rules 60 0 ?_
  simp (disch := omega) only [eng, c_X5_rules, r_X5_rules, tbl, true_and, Nat.reduceAdd, Nat.reduceLT, ↓reduceIte, n_eq, n_lt, n_le, n_cl, n_inT, nI_add, bI_eq0, bI_eq1, not_true_eq_false, not_false_eq_true, true_implies, false_implies, implies_true, and_true, Bool.not_eq_false, Bool.not_eq_true, Nat.reduceEqDiff, Nat.reduceLeDiff, Classical.not_not, List.length_cons, List.length_nil, Int.reduceAdd, z_cast, Nat.reducePow, false_or, Nat.reduceLT, Nat.sub_zero, Nat.le_refl]
  try simp only [iteP, Classical.not_not, Bool.not_eq_false, Bool.not_eq_true]
  refine x_takeFrom e300 e100 (by decide) hW hE (fun σ2 hE2 hf1 => ?_)
  have hF2 : FrR σ σ2 := hf1.r
  have hT2 : TpX A.2.2.1.1 A.2.2.1.2 σ2 := ⟨by rw [hf1 400 (by omega)]; exact hT.1, fun i hi => by rw [hf1 401 (by omega)]; exact hT.2 i hi⟩
  refine x_open hw hT2 ?_
  have hS : RdS A.2.2.1.1 A.2.2.1.2 A.1 (nb A.2.2.1.1 A.2.2.1.2 0) (wr σ2 400 2 (nI (nb A.2.2.1.1 A.2.2.1.2 0))) := ⟨hE2.frame (fun k h1 h2 => wr_ne k (by omega)), TpX_pl hT2, by simp [wr_at]⟩
  refine x_readRules hw hW hS (nb_le (Nat.zero_le _)).2 (fun σ4 hW4 hS4 hF4 hp4 hn4 => ?_)
  have hl := hw.1
  have hF : FrR σ σ4 := (hF2.trans FrR.pl).trans hF4
  have hC5 := hC.tp0 hF
  refine x_empty ?_
  generalize ruR A.2.2.1.1 A.2.2.1.2 4 0 A.1 (nb A.2.2.1.1 A.2.2.1.2 0) = r at hK hW4 hS4 hp4 hn4 ⊢
  cases hr : r.1 with
  | false =>
    have e : ruA r = (-20) - nI r.2.1 := by unfold ruA; rw [hr]; rfl
    rw [hr, e] at hK
    rw [e]
    have hz := flt_le (p := r.2.1) (by omega)
    simp (disch := omega) only [n_eq, n_lt, n_le, n_cl, n_inT, nI_add, bI_eq0, bI_eq1, not_true_eq_false, not_false_eq_true, true_implies, false_implies, implies_true, and_true, Bool.not_eq_false, Bool.not_eq_true, Nat.reduceEqDiff, Nat.reduceLeDiff, Classical.not_not, List.length_cons, List.length_nil, Int.reduceAdd, z_cast, Nat.reducePow, false_or, Nat.reduceLT, Nat.sub_zero, Nat.le_refl, true_and, ↓reduceIte, iteP, hz]
    exact hK _ hC5 (hF.x.wr (by decide))
  | true =>
    have h1 := hn4 hr
    have e : ruA r = nI r.2.2.2 := by unfold ruA; rw [hr]; rfl
    rw [hr, e, if_pos rfl] at hK
    rw [e]
    have hz : ¬ r.2.2.2 ≤ 0 := by omega
    simp (disch := omega) only [n_eq, n_lt, n_le, n_cl, n_inT, nI_add, bI_eq0, bI_eq1, not_true_eq_false, not_false_eq_true, true_implies, false_implies, implies_true, and_true, Bool.not_eq_false, Bool.not_eq_true, Nat.reduceEqDiff, Nat.reduceLeDiff, Classical.not_not, List.length_cons, List.length_nil, Int.reduceAdd, z_cast, Nat.reducePow, false_or, Nat.reduceLT, Nat.sub_zero, Nat.le_refl, true_and, ↓reduceIte, iteP, hz]
    refine x_takeFrom e100 e300 (by decide) hW4 (XE.frame (σ' := wr σ4 400 1 (nI 0)) hS4.1 (fun k h1 h2 => wr_ne k (by omega))) (fun σ6 hE6 hf6 => ?_)
    exact hK _ (hC5.es hf6 hW4 hE6) ((hF.x.wr (by decide)).trans (hf6.x e100))
def coR (E : Es) (w : Int32) : Int32 := if w = nI 0 then nI (E 12 0) else if w = nI 1 then nI (pcnt (lvm E)) else if w = nI 2 then nI (E 12 1) else if w = nI 3 then nI (E 12 1) - nI (cnt E 12 (E 12 1)) - nI (cnt E 13 (E 12 1)) else if w = nI 4 then nI (cnt E 12 (E 12 1)) else if w = nI 5 then nI (cnt E 13 (E 12 1)) else if w = nI 6 then nI (lan E (E 12 1)) else -1
def op_count (A : AS) (w : Int32) : Int32 × AS := (coR A.1 w, A)
theorem X_count {l : Launch} {A : AS} {w : Int32} {σ : St} {K : Int32 → St → Prop} (hC : CX A σ) (hK : ∀ σ', CX (op_count A w).2 σ' → FrX σ σ' → K (op_count A w).1 σ') : CallAt l 85 [.ref 0, .int w] σ K := by
  have hW := hC.1.1
  have hE := hC.2.1
  have hk := hK σ hC FrX.rfl'
  unfold op_count coR at hk
  dsimp only at hk
  cases hw : inB w 7 with
  | false =>
    have q := inB_f (by decide) hw
    simp only [q.2 0 (by decide), q.2 1 (by decide), q.2 2 (by decide), q.2 3 (by decide), q.2 4 (by decide), q.2 5 (by decide), q.2 6 (by decide), if_false] at hk
    refine CallAt.of (k := 85) (cd := k_X5_count) ok_X5_count (by decide) rfl rfl rfl ?_
    show V _ i_X5_count k_X5_count 0 [.ref 0, .int w] [] _ _
    refine V_run ok_X5_count 60 0 ?_
    simp (disch := omega) only [eng, c_X5_count, r_X5_count, tbl, true_and, Nat.reduceAdd, Nat.reduceLT, ↓reduceIte, n_eq, n_lt, n_le, n_cl, n_inT, nI_add, bI_eq0, bI_eq1, not_true_eq_false, not_false_eq_true, true_implies, false_implies, implies_true, and_true, Bool.not_eq_false, Bool.not_eq_true, Nat.reduceEqDiff, Nat.reduceLeDiff, Classical.not_not, List.length_cons, List.length_nil, Int.reduceAdd, z_cast, Nat.reducePow, false_or, Nat.reduceLT, Nat.sub_zero, Nat.le_refl, q.2 0 (by decide), q.2 1 (by decide), q.2 2 (by decide), q.2 3 (by decide), q.2 4 (by decide), q.2 5 (by decide), q.2 6 (by decide), q.1]
    try simp only [iteP, Classical.not_not, Bool.not_eq_false, Bool.not_eq_true]
    exact hk
  | true =>
    obtain ⟨j, hj, rfl⟩ := inB_of hw
    have e0 := hE.1
    have e1 := hE.2.1
    have e7 := hE.2.2.1
    rcases (show j = 0 ∨ j = 1 ∨ j = 2 ∨ j = 3 ∨ j = 4 ∨ j = 5 ∨ j = 6 by omega) with rfl | rfl | rfl | rfl | rfl | rfl | rfl
    all_goals
      simp (disch := omega) only [n_eq, n_lt, n_le, n_cl, n_inT, nI_add, bI_eq0, bI_eq1, not_true_eq_false, not_false_eq_true, true_implies, false_implies, implies_true, and_true, Bool.not_eq_false, Bool.not_eq_true, Nat.reduceEqDiff, Nat.reduceLeDiff, Classical.not_not, List.length_cons, List.length_nil, Int.reduceAdd, z_cast, Nat.reducePow, false_or, Nat.reduceLT, Nat.sub_zero, Nat.le_refl, if_true, if_false] at hk
      refine CallAt.of (k := 85) (cd := k_X5_count) ok_X5_count (by decide) rfl rfl rfl ?_
      show V _ i_X5_count k_X5_count 0 [.ref 0, .int (nI _)] [] _ _
      refine V_run ok_X5_count 60 0 ?_
      simp (disch := omega) only [eng, c_X5_count, r_X5_count, tbl, true_and, Nat.reduceAdd, Nat.reduceLT, ↓reduceIte, n_eq, n_lt, n_le, n_cl, n_inT, nI_add, bI_eq0, bI_eq1, not_true_eq_false, not_false_eq_true, true_implies, false_implies, implies_true, and_true, Bool.not_eq_false, Bool.not_eq_true, Nat.reduceEqDiff, Nat.reduceLeDiff, Classical.not_not, List.length_cons, List.length_nil, Int.reduceAdd, z_cast, Nat.reducePow, false_or, Nat.reduceLT, Nat.sub_zero, Nat.le_refl, e0, e1, e7]
      try simp only [iteP, Classical.not_not, Bool.not_eq_false, Bool.not_eq_true]
    · exact hk
    · exact x_bitCount (lvm_lt hW) hk
    · exact hk
    · refine x_heldBy e100 hW hE (by decide) ?_
      exact x_heldBy e100 hW hE (by decide) hk
    · exact x_heldBy e100 hW hE (by decide) hk
    · exact x_heldBy e100 hW hE (by decide) hk
    · exact x_lands e100 hW hE hk
def op_dies (A : AS) (p : Int32) : Int32 × AS := if inB p (A.1 12 0) = true then (if A.1 5 p.toNatClampNeg = 1 then (nI (cnt A.1 p.toNatClampNeg (A.1 12 1)), setE A (die A.1 p.toNatClampNeg)) else (-2, A)) else (-1, A)
theorem X_dies {l : Launch} {A : AS} {p : Int32} {σ : St} {K : Int32 → St → Prop} (hC : CX A σ) (hK : ∀ σ', CX (op_dies A p).2 σ' → FrX σ σ' → K (op_dies A p).1 σ') : CallAt l 86 [.ref 0, .int p] σ K := by
  have hW := hC.1.1
  have hE := hC.2.1
  have hn := hW.1
  unfold op_dies at hK
  refine CallAt.of (k := 86) (cd := k_X5_dies) ok_X5_dies (by decide) rfl rfl rfl ?_
  show V _ i_X5_dies k_X5_dies 0 [.ref 0, .int p, .null] [] _ _
  refine V_run ok_X5_dies 60 0 ?_
  simp (disch := omega) only [eng, c_X5_dies, r_X5_dies, tbl, true_and, Nat.reduceAdd, Nat.reduceLT, ↓reduceIte, n_eq, n_lt, n_le, n_cl, n_inT, nI_add, bI_eq0, bI_eq1, not_true_eq_false, not_false_eq_true, true_implies, false_implies, implies_true, and_true, Bool.not_eq_false, Bool.not_eq_true, Nat.reduceEqDiff, Nat.reduceLeDiff, Classical.not_not, List.length_cons, List.length_nil, Int.reduceAdd, z_cast, Nat.reducePow, false_or, Nat.reduceLT, Nat.sub_zero, Nat.le_refl]
  try simp only [iteP, Classical.not_not, Bool.not_eq_false, Bool.not_eq_true]
  refine x_known e100 hE.1 hn ?_
  cases h1 : inB p (A.1 12 0) with
  | false =>
    rw [h1] at hK
    simp (disch := omega) only [n_eq, n_lt, n_le, n_cl, n_inT, nI_add, bI_eq0, bI_eq1, not_true_eq_false, not_false_eq_true, true_implies, false_implies, implies_true, and_true, Bool.not_eq_false, Bool.not_eq_true, Nat.reduceEqDiff, Nat.reduceLeDiff, Classical.not_not, List.length_cons, List.length_nil, Int.reduceAdd, z_cast, Nat.reducePow, false_or, Nat.reduceLT, Nat.sub_zero, Nat.le_refl, true_and, ↓reduceIte, iteP, Bool.false_eq_true]
    exact hK σ hC FrX.rfl'
  | true =>
    rw [h1, if_pos rfl] at hK
    simp (disch := omega) only [n_eq, n_lt, n_le, n_cl, n_inT, nI_add, bI_eq0, bI_eq1, not_true_eq_false, not_false_eq_true, true_implies, false_implies, implies_true, and_true, Bool.not_eq_false, Bool.not_eq_true, Nat.reduceEqDiff, Nat.reduceLeDiff, Classical.not_not, List.length_cons, List.length_nil, Int.reduceAdd, z_cast, Nat.reducePow, false_or, Nat.reduceLT, Nat.sub_zero, Nat.le_refl, true_and, ↓reduceIte, iteP, Bool.true_eq_false]
    refine x_livX e100 hW hE ?_
    obtain ⟨p', hp, rfl⟩ := inB_of h1
    have hp12 := p12 hW hp
    rw [n_cl (by omega)] at hK
    rw [livX_n hn hp]
    cases h3 : (A.1 5 p' == 1) with
    | false =>
      rw [if_neg (by simpa using h3)] at hK
      simp (disch := omega) only [n_eq, n_lt, n_le, n_cl, n_inT, nI_add, bI_eq0, bI_eq1, not_true_eq_false, not_false_eq_true, true_implies, false_implies, implies_true, and_true, Bool.not_eq_false, Bool.not_eq_true, Nat.reduceEqDiff, Nat.reduceLeDiff, Classical.not_not, List.length_cons, List.length_nil, Int.reduceAdd, z_cast, Nat.reducePow, false_or, Nat.reduceLT, Nat.sub_zero, Nat.le_refl, true_and, ↓reduceIte, iteP, Bool.false_eq_true]
      exact hK σ hC FrX.rfl'
    | true =>
      have hl : A.1 5 p' = 1 := by simpa using h3
      rw [if_pos hl] at hK
      simp (disch := omega) only [n_eq, n_lt, n_le, n_cl, n_inT, nI_add, bI_eq0, bI_eq1, not_true_eq_false, not_false_eq_true, true_implies, false_implies, implies_true, and_true, Bool.not_eq_false, Bool.not_eq_true, Nat.reduceEqDiff, Nat.reduceLeDiff, Classical.not_not, List.length_cons, List.length_nil, Int.reduceAdd, z_cast, Nat.reducePow, false_or, Nat.reduceLT, Nat.sub_zero, Nat.le_refl, true_and, ↓reduceIte, iteP, Bool.true_eq_false]
      refine x_heldBy e100 hW hE (by omega) ?_
      refine x_death e100 hW hE hp hl (fun σ' hE' hf' => ?_)
      exact hK σ' (hC.es hf' (Wf_die hW hp hl) hE') (hf'.x e100)
def op_balance (A : AS) (p : Int32) : Int32 × AS := (if inB p (A.1 12 0) = true then owe A.1 p.toNatClampNeg (A.1 12 1) else -100000001, A)
theorem X_balance {l : Launch} {A : AS} {p : Int32} {σ : St} {K : Int32 → St → Prop} (hC : CX A σ) (hK : ∀ σ', CX (op_balance A p).2 σ' → FrX σ σ' → K (op_balance A p).1 σ') : CallAt l 88 [.ref 0, .int p] σ K := by
  have hW := hC.1.1
  have hE := hC.2.1
  have hn := hW.1
  have hk := hK σ hC FrX.rfl'
  unfold op_balance at hk
  dsimp only at hk
  refine CallAt.of (k := 88) (cd := k_X5_balance) ok_X5_balance (by decide) rfl rfl rfl ?_
  show V _ i_X5_balance k_X5_balance 0 [.ref 0, .int p] [] _ _
  refine V_run ok_X5_balance 60 0 ?_
  simp (disch := omega) only [eng, c_X5_balance, r_X5_balance, tbl, true_and, Nat.reduceAdd, Nat.reduceLT, ↓reduceIte, n_eq, n_lt, n_le, n_cl, n_inT, nI_add, bI_eq0, bI_eq1, not_true_eq_false, not_false_eq_true, true_implies, false_implies, implies_true, and_true, Bool.not_eq_false, Bool.not_eq_true, Nat.reduceEqDiff, Nat.reduceLeDiff, Classical.not_not, List.length_cons, List.length_nil, Int.reduceAdd, z_cast, Nat.reducePow, false_or, Nat.reduceLT, Nat.sub_zero, Nat.le_refl]
  try simp only [iteP, Classical.not_not, Bool.not_eq_false, Bool.not_eq_true]
  refine x_known e100 hE.1 hn ?_
  cases h1 : inB p (A.1 12 0) with
  | false =>
    rw [h1] at hk
    simp (disch := omega) only [n_eq, n_lt, n_le, n_cl, n_inT, nI_add, bI_eq0, bI_eq1, not_true_eq_false, not_false_eq_true, true_implies, false_implies, implies_true, and_true, Bool.not_eq_false, Bool.not_eq_true, Nat.reduceEqDiff, Nat.reduceLeDiff, Classical.not_not, List.length_cons, List.length_nil, Int.reduceAdd, z_cast, Nat.reducePow, false_or, Nat.reduceLT, Nat.sub_zero, Nat.le_refl, true_and, ↓reduceIte, iteP, Bool.false_eq_true]
    exact hk
  | true =>
    rw [h1, if_pos rfl] at hk
    simp (disch := omega) only [n_eq, n_lt, n_le, n_cl, n_inT, nI_add, bI_eq0, bI_eq1, not_true_eq_false, not_false_eq_true, true_implies, false_implies, implies_true, and_true, Bool.not_eq_false, Bool.not_eq_true, Nat.reduceEqDiff, Nat.reduceLeDiff, Classical.not_not, List.length_cons, List.length_nil, Int.reduceAdd, z_cast, Nat.reducePow, false_or, Nat.reduceLT, Nat.sub_zero, Nat.le_refl, true_and, ↓reduceIte, iteP, Bool.true_eq_false]
    obtain ⟨p', hp, rfl⟩ := inB_of h1
    have hp12 := p12 hW hp
    rw [n_cl (by omega)] at hk
    exact x_owed e100 hW hE hp12 hk
