/-! the tape: bytes tp, ln of them -/
def TpW (tp : Nat → Nat) (ln : Nat) : Prop := ln ≤ 120 ∧ ∀ i, i < ln → 32 ≤ tp i ∧ tp i ≤ 126
def TpX (tp : Nat → Nat) (ln : Nat) (σ : St) : Prop := σ 400 1 = nI ln ∧ ∀ i, i < ln → σ 401 i = nI (tp i)
/-- from p on, over blanks -/
def nbF (tp : Nat → Nat) (ln : Nat) : Nat → Nat → Nat
  | 0, p => p
  | n + 1, p => if p < ln ∧ tp p = 32 then nbF tp ln n (p + 1) else p
def nb (tp : Nat → Nat) (ln p : Nat) : Nat := nbF tp ln (ln - p) p
/-- what stands at p; 0: the end -/
def cN (tp : Nat → Nat) (ln p : Nat) : Nat := if p < ln then tp p else 0
theorem nbF_le (tp : Nat → Nat) (ln : Nat) : ∀ n p, p ≤ ln → p ≤ nbF tp ln n p ∧ nbF tp ln n p ≤ ln
  | 0, p, h => ⟨Nat.le_refl _, h⟩
  | n + 1, p, h => by
    unfold nbF
    split
    · have := nbF_le tp ln n (p + 1) (by omega); omega
    · omega
theorem nb_le {tp : Nat → Nat} {ln p : Nat} (h : p ≤ ln) : p ≤ nb tp ln p ∧ nb tp ln p ≤ ln := nbF_le tp ln _ p h
theorem nb_step {tp : Nat → Nat} {ln p : Nat} (h : p < ln) (h2 : tp p = 32) : nb tp ln p = nb tp ln (p + 1) := by
  unfold nb
  rw [show ln - p = (ln - (p + 1)) + 1 by omega]
  conv => lhs; unfold nbF
  rw [if_pos ⟨h, h2⟩]
theorem nb_stop {tp : Nat → Nat} {ln p : Nat} (h : ¬ (p < ln ∧ tp p = 32)) : nb tp ln p = p := by
  unfold nb
  cases ln - p with
  | zero => rfl
  | succ n => unfold nbF; rw [if_neg h]
theorem nb_is {tp : Nat → Nat} {ln : Nat} : ∀ (n p : Nat), p + n = ln → ¬ (nb tp ln p < ln ∧ tp (nb tp ln p) = 32)
  | 0, p, h => by
    rw [nb_stop (by omega)]; omega
  | n + 1, p, h => by
    by_cases z : p < ln ∧ tp p = 32
    · rw [nb_step z.1 z.2]; exact nb_is n (p + 1) (by omega)
    · rw [nb_stop z]; exact z
theorem nb_nb {tp : Nat → Nat} {ln p : Nat} (h : p ≤ ln) : nb tp ln (nb tp ln p) = nb tp ln p := nb_stop (nb_is (ln - p) p (by omega))
theorem cN_lt {tp : Nat → Nat} {ln : Nat} (hw : TpW tp ln) (p : Nat) : cN tp ln p ≤ 126 := by
  unfold cN
  split
  · rename_i h; exact (hw.2 p h).2
  · omega
def FrT (σ σ' : St) : Prop := ∀ k, k ≠ 400 → σ' k = σ k
theorem x_next {l : Launch} {tp : Nat → Nat} {ln p : Nat} {σ : St} {K : Int32 → St → Prop} (hw : TpW tp ln) (hT : TpX tp ln σ) (hp : σ 400 2 = nI p) (hp2 : p ≤ ln) (hK : K (nI (cN tp ln p)) σ) : CallAt l 60 [.ref 400] σ K := by
  have hl := hw.1
  unfold cN at hK
  by_cases h : p < ln
  · rw [if_pos h] at hK
    have e := hT.2 p h
    have h0 : ¬ p < 0 := by omega
    refine CallAt.of (k := 60) (cd := k_X4_next) ok_X4_next (by decide) rfl rfl rfl ?_
    show V _ i_X4_next k_X4_next 0 [.ref 400] [] _ _
    refine V_run ok_X4_next 60 0 ?_
    simp (disch := omega) only [eng, c_X4_next, r_X4_next, tbl, true_and, Nat.reduceAdd, Nat.reduceLT, ↓reduceIte, n_eq, n_lt, n_le, n_cl, n_inT, nI_add, bI_eq0, bI_eq1, not_true_eq_false, not_false_eq_true, true_implies, false_implies, implies_true, and_true, Bool.not_eq_false, Bool.not_eq_true, Nat.reduceEqDiff, Nat.reduceLeDiff, Classical.not_not, List.length_cons, List.length_nil, Int.reduceAdd, z_cast, Nat.reducePow, false_or, Nat.reduceLT, Nat.sub_zero, Nat.le_refl, hp, hT.1, h, h0, Nat.not_le.mpr h, e, Nat.zero_le]
    try simp only [iteP, Classical.not_not, Bool.not_eq_false, Bool.not_eq_true]
    exact hK
  · rw [if_neg h] at hK
    have h0 : ¬ p < 0 := by omega
    refine CallAt.of (k := 60) (cd := k_X4_next) ok_X4_next (by decide) rfl rfl rfl ?_
    show V _ i_X4_next k_X4_next 0 [.ref 400] [] _ _
    refine V_run ok_X4_next 60 0 ?_
    simp (disch := omega) only [eng, c_X4_next, r_X4_next, tbl, true_and, Nat.reduceAdd, Nat.reduceLT, ↓reduceIte, n_eq, n_lt, n_le, n_cl, n_inT, nI_add, bI_eq0, bI_eq1, not_true_eq_false, not_false_eq_true, true_implies, false_implies, implies_true, and_true, Bool.not_eq_false, Bool.not_eq_true, Nat.reduceEqDiff, Nat.reduceLeDiff, Classical.not_not, List.length_cons, List.length_nil, Int.reduceAdd, z_cast, Nat.reducePow, false_or, Nat.reduceLT, Nat.sub_zero, Nat.le_refl, hp, hT.1, h, h0, Nat.not_lt.mp h, Nat.zero_le]
    try simp only [iteP, Classical.not_not, Bool.not_eq_false, Bool.not_eq_true]
    exact hK
theorem lp_blanks (l : Launch) {tp : Nat → Nat} {ln : Nat} {σ0 : St} {K : Int32 → St → Prop} (hw : TpW tp ln) (hT : TpX tp ln σ0) : ∀ (n p : Nat), p + n = ln → K 0 (wr σ0 400 2 (nI (nb tp ln p))) → V l i_X4_passBlanks k_X4_passBlanks 3 [.ref 400, .int (nI p)] [] (wr σ0 400 2 (nI p)) K
  | 0, p, h, hK => by
    have hl := hw.1
    have h1 : p = ln := by omega
    rw [nb_stop (by omega)] at hK
    have e : wr σ0 400 2 (nI p) 400 1 = nI ln := by simp (disch := omega) only [wrq]; exact hT.1
    have h2 : ln ≤ p := by omega
    refine V_run ok_X4_passBlanks 60 3 ?_
    simp (disch := omega) only [eng, c_X4_passBlanks, r_X4_passBlanks, tbl, true_and, Nat.reduceAdd, Nat.reduceLT, ↓reduceIte, n_eq, n_lt, n_le, n_cl, n_inT, nI_add, bI_eq0, bI_eq1, not_true_eq_false, not_false_eq_true, true_implies, false_implies, implies_true, and_true, Bool.not_eq_false, Bool.not_eq_true, Nat.reduceEqDiff, Nat.reduceLeDiff, Classical.not_not, List.length_cons, List.length_nil, Int.reduceAdd, z_cast, Nat.reducePow, false_or, Nat.reduceLT, Nat.sub_zero, Nat.le_refl, e, h2]
    try simp only [iteP, Classical.not_not, Bool.not_eq_false, Bool.not_eq_true]
    exact hK
  | n + 1, p, h, hK => by
    have hl := hw.1
    have e : wr σ0 400 2 (nI p) 400 1 = nI ln := by simp (disch := omega) only [wrq]; exact hT.1
    have h2 : ¬ ln ≤ p := by omega
    have hc := cN_lt hw p
    refine V_run ok_X4_passBlanks 60 3 ?_
    simp (disch := omega) only [eng, c_X4_passBlanks, r_X4_passBlanks, tbl, true_and, Nat.reduceAdd, Nat.reduceLT, ↓reduceIte, n_eq, n_lt, n_le, n_cl, n_inT, nI_add, bI_eq0, bI_eq1, not_true_eq_false, not_false_eq_true, true_implies, false_implies, implies_true, and_true, Bool.not_eq_false, Bool.not_eq_true, Nat.reduceEqDiff, Nat.reduceLeDiff, Classical.not_not, List.length_cons, List.length_nil, Int.reduceAdd, z_cast, Nat.reducePow, false_or, Nat.reduceLT, Nat.sub_zero, Nat.le_refl, e, h2]
    try simp only [iteP, Classical.not_not, Bool.not_eq_false, Bool.not_eq_true]
    refine x_next (p := p) hw ⟨e, fun i hi => by simp (disch := omega) only [wrq]; exact hT.2 i hi⟩ (by simp (disch := omega) only [wrq]) (by omega) ?_
    simp (disch := omega) only [n_eq, n_lt, n_le, n_cl, n_inT, nI_add, bI_eq0, bI_eq1, not_true_eq_false, not_false_eq_true, true_implies, false_implies, implies_true, and_true, Bool.not_eq_false, Bool.not_eq_true, Nat.reduceEqDiff, Nat.reduceLeDiff, Classical.not_not, List.length_cons, List.length_nil, Int.reduceAdd, z_cast, Nat.reducePow, false_or, Nat.reduceLT, Nat.sub_zero, Nat.le_refl, true_and, ↓reduceIte, iteP]
    have ec : cN tp ln p = tp p := by unfold cN; rw [if_pos (by omega)]
    rw [ec]
    refine ⟨fun hz => ?_, fun hz => ?_⟩
    · rw [nb_stop (fun y => hz y.2)] at hK; exact hK
    · rw [nb_step (by omega) hz] at hK
      have e5 : wr (wr σ0 400 2 (nI p)) 400 2 (wr σ0 400 2 (nI p) 400 2 + nI 1) = wr σ0 400 2 (nI (p + 1)) := by
        funext k j
        simp only [wr_at, and_self, if_true, nI_add]
        by_cases y : k = 400 ∧ j = 2 <;> simp [y]
      rw [e5]
      exact lp_blanks l hw hT n (p + 1) (by omega) hK
theorem wr_same {σ : St} {k j : Nat} {v : Int32} (h : σ k j = v) : wr σ k j v = σ := by
  funext k' j'
  rw [wr_at]
  by_cases z : k' = k ∧ j' = j
  · rw [if_pos z, z.1, z.2, h]
  · rw [if_neg z]
theorem x_passBlanks {l : Launch} {tp : Nat → Nat} {ln p : Nat} {σ : St} {K : Int32 → St → Prop} (hw : TpW tp ln) (hT : TpX tp ln σ) (hp : σ 400 2 = nI p) (hp2 : p ≤ ln) (hK : K 0 (wr σ 400 2 (nI (nb tp ln p)))) : CallAt l 57 [.ref 400] σ K := by
  refine CallAt.of (k := 57) (cd := k_X4_passBlanks) ok_X4_passBlanks (by decide) rfl rfl rfl ?_
  show V _ i_X4_passBlanks k_X4_passBlanks 0 [.ref 400, .null] [] _ _
  refine V_run ok_X4_passBlanks 60 0 ?_
  simp (disch := omega) only [eng, c_X4_passBlanks, r_X4_passBlanks, tbl, true_and, Nat.reduceAdd, Nat.reduceLT, ↓reduceIte, n_eq, n_lt, n_le, n_cl, n_inT, nI_add, bI_eq0, bI_eq1, not_true_eq_false, not_false_eq_true, true_implies, false_implies, implies_true, and_true, Bool.not_eq_false, Bool.not_eq_true, Nat.reduceEqDiff, Nat.reduceLeDiff, Classical.not_not, List.length_cons, List.length_nil, Int.reduceAdd, z_cast, Nat.reducePow, false_or, Nat.reduceLT, Nat.sub_zero, Nat.le_refl, hp]
  try simp only [iteP, Classical.not_not, Bool.not_eq_false, Bool.not_eq_true]
  have := lp_blanks l hw hT (ln - p) p (by omega) hK
  rw [wr_same hp] at this
  exact this
theorem wr_wr {σ : St} {k j : Nat} {v w : Int32} : wr (wr σ k j v) k j w = wr σ k j w := by
  funext k' j'
  simp only [wr_at]
  by_cases z : k' = k ∧ j' = j <;> simp [z]
theorem TpX.wr {tp : Nat → Nat} {ln : Nat} {σ : St} {v : Int32} (h : TpX tp ln σ) : TpX tp ln (wr σ 400 2 v) :=
  ⟨by simp (disch := omega) only [wrq]; exact h.1, fun i hi => by simp (disch := omega) only [wrq]; exact h.2 i hi⟩
theorem x_open {l : Launch} {tp : Nat → Nat} {ln : Nat} {σ : St} {K : Int32 → St → Prop} (hw : TpW tp ln) (hT : TpX tp ln σ) (hK : K 0 (wr σ 400 2 (nI (nb tp ln 0)))) : CallAt l 56 [.ref 400] σ K := by
  refine CallAt.of (k := 56) (cd := k_X4_open) ok_X4_open (by decide) rfl rfl rfl ?_
  show V _ i_X4_open k_X4_open 0 [.ref 400] [] _ _
  refine V_run ok_X4_open 60 0 ?_
  simp (disch := omega) only [eng, c_X4_open, r_X4_open, tbl, true_and, Nat.reduceAdd, Nat.reduceLT, ↓reduceIte, n_eq, n_lt, n_le, n_cl, n_inT, nI_add, bI_eq0, bI_eq1, not_true_eq_false, not_false_eq_true, true_implies, false_implies, implies_true, and_true, Bool.not_eq_false, Bool.not_eq_true, Nat.reduceEqDiff, Nat.reduceLeDiff, Classical.not_not, List.length_cons, List.length_nil, Int.reduceAdd, z_cast, Nat.reducePow, false_or, Nat.reduceLT, Nat.sub_zero, Nat.le_refl]
  try simp only [iteP, Classical.not_not, Bool.not_eq_false, Bool.not_eq_true]
  refine x_passBlanks (p := 0) hw hT.wr (by simp (disch := omega) only [wrq]) (by omega) ?_
  rw [wr_wr]; exact hK
theorem x_step {l : Launch} {tp : Nat → Nat} {ln p : Nat} {σ : St} {K : Int32 → St → Prop} (hw : TpW tp ln) (hT : TpX tp ln σ) (hp : σ 400 2 = nI p) (hp2 : p < ln) (hK : K 0 (wr σ 400 2 (nI (nb tp ln (p + 1))))) : CallAt l 58 [.ref 400] σ K := by
  refine CallAt.of (k := 58) (cd := k_X4_step) ok_X4_step (by decide) rfl rfl rfl ?_
  show V _ i_X4_step k_X4_step 0 [.ref 400] [] _ _
  refine V_run ok_X4_step 60 0 ?_
  simp (disch := omega) only [eng, c_X4_step, r_X4_step, tbl, true_and, Nat.reduceAdd, Nat.reduceLT, ↓reduceIte, n_eq, n_lt, n_le, n_cl, n_inT, nI_add, bI_eq0, bI_eq1, not_true_eq_false, not_false_eq_true, true_implies, false_implies, implies_true, and_true, Bool.not_eq_false, Bool.not_eq_true, Nat.reduceEqDiff, Nat.reduceLeDiff, Classical.not_not, List.length_cons, List.length_nil, Int.reduceAdd, z_cast, Nat.reducePow, false_or, Nat.reduceLT, Nat.sub_zero, Nat.le_refl, hp]
  try simp only [iteP, Classical.not_not, Bool.not_eq_false, Bool.not_eq_true]
  refine x_passBlanks (p := p + 1) hw hT.wr (by simp (disch := omega) only [wrq]) (by omega) ?_
  rw [wr_wr]; exact hK
theorem x_empty {l : Launch} {σ : St} {K : Int32 → St → Prop} (hK : K 0 (wr σ 400 1 (nI 0))) : CallAt l 59 [.ref 400] σ K := by
  refine CallAt.of (k := 59) (cd := k_X4_empty) ok_X4_empty (by decide) rfl rfl rfl ?_
  show V _ i_X4_empty k_X4_empty 0 [.ref 400] [] _ _
  refine V_run ok_X4_empty 60 0 ?_
  simp (disch := omega) only [eng, c_X4_empty, r_X4_empty, tbl, true_and, Nat.reduceAdd, Nat.reduceLT, ↓reduceIte, n_eq, n_lt, n_le, n_cl, n_inT, nI_add, bI_eq0, bI_eq1, not_true_eq_false, not_false_eq_true, true_implies, false_implies, implies_true, and_true, Bool.not_eq_false, Bool.not_eq_true, Nat.reduceEqDiff, Nat.reduceLeDiff, Classical.not_not, List.length_cons, List.length_nil, Int.reduceAdd, z_cast, Nat.reducePow, false_or, Nat.reduceLT, Nat.sub_zero, Nat.le_refl]
  try simp only [iteP, Classical.not_not, Bool.not_eq_false, Bool.not_eq_true]
  exact hK
theorem x_fault {l : Launch} {p : Nat} {σ : St} {K : Int32 → St → Prop} (hp : σ 400 2 = nI p) (hK : K ((-20) - nI p) σ) : CallAt l 62 [.ref 400] σ K := by
  refine CallAt.of (k := 62) (cd := k_X4_fault) ok_X4_fault (by decide) rfl rfl rfl ?_
  show V _ i_X4_fault k_X4_fault 0 [.ref 400] [] _ _
  refine V_run ok_X4_fault 60 0 ?_
  simp (disch := omega) only [eng, c_X4_fault, r_X4_fault, tbl, true_and, Nat.reduceAdd, Nat.reduceLT, ↓reduceIte, n_eq, n_lt, n_le, n_cl, n_inT, nI_add, bI_eq0, bI_eq1, not_true_eq_false, not_false_eq_true, true_implies, false_implies, implies_true, and_true, Bool.not_eq_false, Bool.not_eq_true, Nat.reduceEqDiff, Nat.reduceLeDiff, Classical.not_not, List.length_cons, List.length_nil, Int.reduceAdd, z_cast, Nat.reducePow, false_or, Nat.reduceLT, Nat.sub_zero, Nat.le_refl, hp]
  try simp only [iteP, Classical.not_not, Bool.not_eq_false, Bool.not_eq_true]
  exact hK
theorem cN_pos {tp : Nat → Nat} {ln p c : Nat} (hc : 0 < c) (h : cN tp ln p = c) : p < ln := by
  unfold cN at h
  split at h
  · assumption
  · omega
theorem x_skip {l : Launch} {tp : Nat → Nat} {ln p c : Nat} {σ : St} {K : Int32 → St → Prop} (hw : TpW tp ln) (hT : TpX tp ln σ) (hp : σ 400 2 = nI p) (hp2 : p ≤ ln) (hc : 0 < c) (hc2 : c < 200) (hF : cN tp ln p ≠ c → K (nI 0) σ) (hK : cN tp ln p = c → K (nI 1) (wr σ 400 2 (nI (nb tp ln (p + 1))))) : CallAt l 61 [.ref 400, .int (nI c)] σ K := by
  have hcn := cN_lt hw p
  refine CallAt.of (k := 61) (cd := k_X4_skip) ok_X4_skip (by decide) rfl rfl rfl ?_
  show V _ i_X4_skip k_X4_skip 0 [.ref 400, .int (nI c)] [] _ _
  refine V_run ok_X4_skip 60 0 ?_
  simp (disch := omega) only [eng, c_X4_skip, r_X4_skip, tbl, true_and, Nat.reduceAdd, Nat.reduceLT, ↓reduceIte, n_eq, n_lt, n_le, n_cl, n_inT, nI_add, bI_eq0, bI_eq1, not_true_eq_false, not_false_eq_true, true_implies, false_implies, implies_true, and_true, Bool.not_eq_false, Bool.not_eq_true, Nat.reduceEqDiff, Nat.reduceLeDiff, Classical.not_not, List.length_cons, List.length_nil, Int.reduceAdd, z_cast, Nat.reducePow, false_or, Nat.reduceLT, Nat.sub_zero, Nat.le_refl]
  try simp only [iteP, Classical.not_not, Bool.not_eq_false, Bool.not_eq_true]
  refine x_next hw hT hp hp2 ?_
  simp (disch := omega) only [n_eq, n_lt, n_le, n_cl, n_inT, nI_add, bI_eq0, bI_eq1, not_true_eq_false, not_false_eq_true, true_implies, false_implies, implies_true, and_true, Bool.not_eq_false, Bool.not_eq_true, Nat.reduceEqDiff, Nat.reduceLeDiff, Classical.not_not, List.length_cons, List.length_nil, Int.reduceAdd, z_cast, Nat.reducePow, false_or, Nat.reduceLT, Nat.sub_zero, Nat.le_refl, true_and, ↓reduceIte, iteP]
  refine ⟨fun h => x_step hw hT hp (cN_pos hc h) ?_, fun h => hF h⟩
  exact hK h
