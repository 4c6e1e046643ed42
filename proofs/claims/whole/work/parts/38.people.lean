/-! a family, as it is read: (whether it can stand, the value, the place) -/
section Rd
variable (tp : Nat → Nat) (ln : Nat)
def par (E : Es) (k w c p : Nat) : Bool × Nat × Nat :=
  if cN tp ln p = c then (if 97 ≤ cN tp ln (nb tp ln (p + 1)) ∧ cN tp ln (nb tp ln (p + 1)) - 97 < k ∧ E 0 (cN tp ln (nb tp ln (p + 1)) - 97) = w then (true, cN tp ln (nb tp ln (p + 1)) - 97, nb tp ln (nb tp ln (p + 1) + 1)) else (false, 12, nb tp ln (p + 1))) else (true, 12, p)
def spo (E : Es) (k p : Nat) : Bool × Nat × Nat :=
  if cN tp ln p = 115 then (if 97 ≤ cN tp ln (nb tp ln (p + 1)) ∧ cN tp ln (nb tp ln (p + 1)) - 97 < k ∧ E 0 (cN tp ln (nb tp ln (p + 1)) - 97) ≠ E 0 k ∧ E 3 (cN tp ln (nb tp ln (p + 1)) - 97) = 12 then (true, cN tp ln (nb tp ln (p + 1)) - 97, nb tp ln (nb tp ln (p + 1) + 1)) else (false, 12, nb tp ln (p + 1))) else (true, 12, p)
end Rd
/-- while a text is read: only the place and the estate at 300 change -/
def FrR (σ σ' : St) : Prop := ∀ k, k ≠ 400 → k < 300 ∨ 315 ≤ k → σ' k = σ k
theorem FrR.trans {σ σ' σ'' : St} (h : FrR σ σ') (h2 : FrR σ' σ'') : FrR σ σ'' := fun k a b => (h2 k a b).trans (h k a b)
theorem FrR.ofE {σ σ' : St} (h : FrE 300 σ σ') : FrR σ σ' := fun k _ hk => h k (by omega)
theorem FrR.rfl' {σ : St} : FrR σ σ := fun _ _ _ => rfl
theorem FrR.pl {σ : St} {v : Int32} : FrR σ (wr σ 400 2 v) := fun k h _ => by rw [wr_ne k h]
/-- the reader stands at p, with E -/
def RdS (tp : Nat → Nat) (ln : Nat) (E : Es) (p : Nat) (σ : St) : Prop := XE 300 E σ ∧ TpX tp ln σ ∧ σ 400 2 = nI p
theorem RdS.pl {tp : Nat → Nat} {ln p q : Nat} {E : Es} {σ : St} (h : RdS tp ln E p σ) : RdS tp ln E q (wr σ 400 2 (nI q)) :=
  ⟨h.1.frame (fun k h1 h2 => by rw [wr_ne k (by omega)]), h.2.1.wr, by simp (disch := omega) only [wrq]⟩
theorem RdS.es {tp : Nat → Nat} {ln p : Nat} {E E' : Es} {σ σ' : St} (h : RdS tp ln E p σ) (hf : FrE 300 σ σ') (hE : XE 300 E' σ') : RdS tp ln E' p σ' :=
  ⟨hE, ⟨by rw [hf 400 (by omega)]; exact h.2.1.1, fun i hi => by rw [hf 401 (by omega)]; exact h.2.1.2 i hi⟩, by rw [hf 400 (by omega)]; exact h.2.2⟩
theorem i_sub97 (c : Nat) (hc : c ≤ 126) : (nI c - nI 97).toInt = (c : Int) - 97 := pk_sub_toInt (by omega) (by decide)
theorem XE_eu {b i k v : Nat} {E : Es} {σ : St} (hE : XE b E σ) (hi : i = 1 ∨ i = 2 ∨ i = 3) : XE b (eu E i k v) (wr σ (b + 3 + i) k (nI v)) := by
  obtain ⟨a1, a2, a3, a4, a5, a6, a7⟩ := hE
  have el : lvm (eu E i k v) = lvm E := by rcases hi with rfl | rfl | rfl <;> simp [lvm, eu]
  have e8 : ∀ k', rw8 (eu E i k v) k' = rw8 E k' := fun k' => by rcases hi with rfl | rfl | rfl <;> simp [rw8, eu]
  have e12 : ∀ j, eu E i k v 12 j = E 12 j := fun j => by rcases hi with rfl | rfl | rfl <;> simp [eu]
  refine ⟨?_, ?_, ?_, ?_, fun p hp => ?_, fun t ht => ?_, fun k' hk => ?_⟩
  · rw [e12]; simp (disch := omega) only [wrq]; exact a1
  · rw [el]; simp (disch := omega) only [wrq]; exact a2
  · rw [e12]; simp (disch := omega) only [wrq]; exact a3
  · rw [e12]; simp (disch := omega) only [wrq]; exact a4
  · rw [e12] at hp
    have := a5 p hp
    by_cases z : p = k
    · subst z
      rcases hi with rfl | rfl | rfl <;> simp [wr_at, eu, this]
    · rcases hi with rfl | rfl | rfl <;> simp [wr_at, eu, this, z]
  · rw [e12] at ht
    have := a6 t ht
    rcases hi with rfl | rfl | rfl <;> simp [wr_at, eu, this]
  · have := a7 k' hk
    rw [e8]
    rcases hi with rfl | rfl | rfl <;> simp [wr_at, eu, this]
theorem x_par {l : Launch} {tp : Nat → Nat} {ln k p : Nat} {E : Es} {σ : St} {K : Int32 → St → Prop} (mk i w c : Nat) (hi : (mk = 65 ∧ i = 1 ∧ w = 0 ∧ c = 102) ∨ (mk = 66 ∧ i = 2 ∧ w = 1 ∧ c = 111)) (hw : TpW tp ln) (hW : Wf E) (hS : RdS tp ln E p σ) (hp : p ≤ ln) (hk : k < E 12 0)
    (hF : (par tp ln E k w c p).1 = false → ∀ σ', RdS tp ln E (par tp ln E k w c p).2.2 σ' → FrR σ σ' → K (nI 0) σ')
    (hK : (par tp ln E k w c p).1 = true → ∀ σ', RdS tp ln (if (par tp ln E k w c p).2.1 = 12 then E else eu E i k (par tp ln E k w c p).2.1) (par tp ln E k w c p).2.2 σ' → FrR σ σ' → K (nI 1) σ') : CallAt l mk [.ref 400, .ref 300, .int (nI k)] σ K := by
  have hl := hw.1
  have hn12 := hW.1
  have h12 := p12 hW hk
  by_cases h1 : cN tp ln p = c
  case neg =>
    have e : par tp ln E k w c p = (true, 12, p) := by unfold par; rw [if_neg h1]
    rw [e] at hK
    have hz := hK rfl σ (by simpa using hS) FrR.rfl'
    rcases hi with ⟨rfl, rfl, rfl, rfl⟩ | ⟨rfl, rfl, rfl, rfl⟩
    · refine CallAt.of (k := 65) (cd := k_X4_readFather) ok_X4_readFather (by decide) rfl rfl rfl ?_
      show V _ i_X4_readFather k_X4_readFather 0 [.ref 400, .ref 300, .int (nI k), .null] [] _ _
      refine V_run ok_X4_readFather 60 0 ?_
      simp (disch := omega) only [eng, c_X4_readFather, r_X4_readFather, tbl, true_and, Nat.reduceAdd, Nat.reduceLT, ↓reduceIte, n_eq, n_lt, n_le, n_cl, n_inT, nI_add, bI_eq0, bI_eq1, not_true_eq_false, not_false_eq_true, true_implies, false_implies, implies_true, and_true, Bool.not_eq_false, Bool.not_eq_true, Nat.reduceEqDiff, Nat.reduceLeDiff, Classical.not_not, List.length_cons, List.length_nil, Int.reduceAdd, z_cast, Nat.reducePow, false_or, Nat.reduceLT, Nat.sub_zero, Nat.le_refl]
      try simp only [iteP, Classical.not_not, Bool.not_eq_false, Bool.not_eq_true]
      refine x_skip hw hS.2.1 hS.2.2 hp (by decide) (by decide) (fun _ => ?_) (fun z => absurd z h1)
      simp (disch := omega) only [n_eq, n_lt, n_le, n_cl, n_inT, nI_add, bI_eq0, bI_eq1, not_true_eq_false, not_false_eq_true, true_implies, false_implies, implies_true, and_true, Bool.not_eq_false, Bool.not_eq_true, Nat.reduceEqDiff, Nat.reduceLeDiff, Classical.not_not, List.length_cons, List.length_nil, Int.reduceAdd, z_cast, Nat.reducePow, false_or, Nat.reduceLT, Nat.sub_zero, Nat.le_refl, true_and, ↓reduceIte, iteP]
      exact hz
    · refine CallAt.of (k := 66) (cd := k_X4_readMother) ok_X4_readMother (by decide) rfl rfl rfl ?_
      show V _ i_X4_readMother k_X4_readMother 0 [.ref 400, .ref 300, .int (nI k), .null] [] _ _
      refine V_run ok_X4_readMother 60 0 ?_
      simp (disch := omega) only [eng, c_X4_readMother, r_X4_readMother, tbl, true_and, Nat.reduceAdd, Nat.reduceLT, ↓reduceIte, n_eq, n_lt, n_le, n_cl, n_inT, nI_add, bI_eq0, bI_eq1, not_true_eq_false, not_false_eq_true, true_implies, false_implies, implies_true, and_true, Bool.not_eq_false, Bool.not_eq_true, Nat.reduceEqDiff, Nat.reduceLeDiff, Classical.not_not, List.length_cons, List.length_nil, Int.reduceAdd, z_cast, Nat.reducePow, false_or, Nat.reduceLT, Nat.sub_zero, Nat.le_refl]
      try simp only [iteP, Classical.not_not, Bool.not_eq_false, Bool.not_eq_true]
      refine x_skip hw hS.2.1 hS.2.2 hp (by decide) (by decide) (fun _ => ?_) (fun z => absurd z h1)
      simp (disch := omega) only [n_eq, n_lt, n_le, n_cl, n_inT, nI_add, bI_eq0, bI_eq1, not_true_eq_false, not_false_eq_true, true_implies, false_implies, implies_true, and_true, Bool.not_eq_false, Bool.not_eq_true, Nat.reduceEqDiff, Nat.reduceLeDiff, Classical.not_not, List.length_cons, List.length_nil, Int.reduceAdd, z_cast, Nat.reducePow, false_or, Nat.reduceLT, Nat.sub_zero, Nat.le_refl, true_and, ↓reduceIte, iteP]
      exact hz
  have hpl : p < ln := cN_pos (c := c) (by omega) h1
  have hq := nb_le (tp := tp) (show p + 1 ≤ ln by omega)
  have hc := cN_lt hw (nb tp ln (p + 1))
  have hS1 : RdS tp ln E (nb tp ln (p + 1)) (wr σ 400 2 (nI (nb tp ln (p + 1)))) := hS.pl
  have hsx := hS1.1.sx hW
  have t97 := i_sub97 _ hc
  unfold par at hF hK
  rw [if_pos h1] at hF hK
  generalize hcv : cN tp ln (nb tp ln (p + 1)) = cv at hF hK hc t97
  have inb : inB (nI cv - nI 97) (E 12 0) = decide (97 ≤ cv ∧ cv - 97 < E 12 0) := by
    unfold inB
    rw [t97]
    congr 1
    apply propext
    omega
  have fin : ∀ j : Nat, 97 ≤ cv → j = cv - 97 → nI cv - nI 97 = nI j := fun j h1 h2 => by rw [pk_sub h1, h2]
  by_cases h2 : 97 ≤ cv ∧ cv - 97 < k ∧ E 0 (cv - 97) = w
  · rw [if_pos h2] at hF hK
    have hpl2 : nb tp ln (p + 1) < ln := cN_pos (c := cv) (by omega) hcv
    have ev := fin (cv - 97) h2.1 rfl
    have hlt : ¬ k ≤ cv - 97 := by omega
    have inb2 : inB (nI (cv - 97)) (E 12 0) = true := by rw [inB_n (by omega)]; simp; omega
    have hv12 : ¬ cv - 97 = 12 := by omega
    have hz := hK rfl
    rw [if_neg hv12] at hz
    rcases hi with ⟨rfl, rfl, rfl, rfl⟩ | ⟨rfl, rfl, rfl, rfl⟩
    · refine CallAt.of (k := 65) (cd := k_X4_readFather) ok_X4_readFather (by decide) rfl rfl rfl ?_
      show V _ i_X4_readFather k_X4_readFather 0 [.ref 400, .ref 300, .int (nI k), .null] [] _ _
      refine V_run ok_X4_readFather 60 0 ?_
      simp (disch := omega) only [eng, c_X4_readFather, r_X4_readFather, tbl, true_and, Nat.reduceAdd, Nat.reduceLT, ↓reduceIte, n_eq, n_lt, n_le, n_cl, n_inT, nI_add, bI_eq0, bI_eq1, not_true_eq_false, not_false_eq_true, true_implies, false_implies, implies_true, and_true, Bool.not_eq_false, Bool.not_eq_true, Nat.reduceEqDiff, Nat.reduceLeDiff, Classical.not_not, List.length_cons, List.length_nil, Int.reduceAdd, z_cast, Nat.reducePow, false_or, Nat.reduceLT, Nat.sub_zero, Nat.le_refl]
      try simp only [iteP, Classical.not_not, Bool.not_eq_false, Bool.not_eq_true]
      refine x_skip hw hS.2.1 hS.2.2 hp (by decide) (by decide) (fun z => absurd h1 z) (fun _ => ?_)
      simp (disch := omega) only [n_eq, n_lt, n_le, n_cl, n_inT, nI_add, bI_eq0, bI_eq1, not_true_eq_false, not_false_eq_true, true_implies, false_implies, implies_true, and_true, Bool.not_eq_false, Bool.not_eq_true, Nat.reduceEqDiff, Nat.reduceLeDiff, Classical.not_not, List.length_cons, List.length_nil, Int.reduceAdd, z_cast, Nat.reducePow, false_or, Nat.reduceLT, Nat.sub_zero, Nat.le_refl, true_and, ↓reduceIte, iteP]
      refine x_next hw hS1.2.1 hS1.2.2 hq.2 ?_
      rw [hcv, ev]
      simp (disch := omega) only [n_eq, n_lt, n_le, n_cl, n_inT, nI_add, bI_eq0, bI_eq1, not_true_eq_false, not_false_eq_true, true_implies, false_implies, implies_true, and_true, Bool.not_eq_false, Bool.not_eq_true, Nat.reduceEqDiff, Nat.reduceLeDiff, Classical.not_not, List.length_cons, List.length_nil, Int.reduceAdd, z_cast, Nat.reducePow, false_or, Nat.reduceLT, Nat.sub_zero, Nat.le_refl, true_and, ↓reduceIte, iteP, hlt]
      refine x_isOf (Or.inr (Or.inr (Or.inl rfl))) hS1.1.1 hn12 hsx (by decide) ?_
      rw [inb2, n_cl (by omega), h2.2.2]
      simp (disch := omega) only [n_eq, n_lt, n_le, n_cl, n_inT, nI_add, bI_eq0, bI_eq1, not_true_eq_false, not_false_eq_true, true_implies, false_implies, implies_true, and_true, Bool.not_eq_false, Bool.not_eq_true, Nat.reduceEqDiff, Nat.reduceLeDiff, Classical.not_not, List.length_cons, List.length_nil, Int.reduceAdd, z_cast, Nat.reducePow, false_or, Nat.reduceLT, Nat.sub_zero, Nat.le_refl, true_and, ↓reduceIte, iteP, beq_self_eq_true, Bool.and_self, Bool.true_eq_false]
      have hS2 : RdS tp ln (eu E 1 k (cv - 97)) (nb tp ln (p + 1)) (wr (wr σ 400 2 (nI (nb tp ln (p + 1)))) 304 k (nI (cv - 97))) := hS1.es (FrE.rfl'.wr (by omega)) (XE_eu hS1.1 (Or.inl rfl))
      refine x_step hw hS2.2.1 hS2.2.2 hpl2 ?_
      exact hz _ hS2.pl ((FrR.pl.trans (FrR.ofE (FrE.rfl'.wr (by omega)))).trans FrR.pl)
    · refine CallAt.of (k := 66) (cd := k_X4_readMother) ok_X4_readMother (by decide) rfl rfl rfl ?_
      show V _ i_X4_readMother k_X4_readMother 0 [.ref 400, .ref 300, .int (nI k), .null] [] _ _
      refine V_run ok_X4_readMother 60 0 ?_
      simp (disch := omega) only [eng, c_X4_readMother, r_X4_readMother, tbl, true_and, Nat.reduceAdd, Nat.reduceLT, ↓reduceIte, n_eq, n_lt, n_le, n_cl, n_inT, nI_add, bI_eq0, bI_eq1, not_true_eq_false, not_false_eq_true, true_implies, false_implies, implies_true, and_true, Bool.not_eq_false, Bool.not_eq_true, Nat.reduceEqDiff, Nat.reduceLeDiff, Classical.not_not, List.length_cons, List.length_nil, Int.reduceAdd, z_cast, Nat.reducePow, false_or, Nat.reduceLT, Nat.sub_zero, Nat.le_refl]
      try simp only [iteP, Classical.not_not, Bool.not_eq_false, Bool.not_eq_true]
      refine x_skip hw hS.2.1 hS.2.2 hp (by decide) (by decide) (fun z => absurd h1 z) (fun _ => ?_)
      simp (disch := omega) only [n_eq, n_lt, n_le, n_cl, n_inT, nI_add, bI_eq0, bI_eq1, not_true_eq_false, not_false_eq_true, true_implies, false_implies, implies_true, and_true, Bool.not_eq_false, Bool.not_eq_true, Nat.reduceEqDiff, Nat.reduceLeDiff, Classical.not_not, List.length_cons, List.length_nil, Int.reduceAdd, z_cast, Nat.reducePow, false_or, Nat.reduceLT, Nat.sub_zero, Nat.le_refl, true_and, ↓reduceIte, iteP]
      refine x_next hw hS1.2.1 hS1.2.2 hq.2 ?_
      rw [hcv, ev]
      simp (disch := omega) only [n_eq, n_lt, n_le, n_cl, n_inT, nI_add, bI_eq0, bI_eq1, not_true_eq_false, not_false_eq_true, true_implies, false_implies, implies_true, and_true, Bool.not_eq_false, Bool.not_eq_true, Nat.reduceEqDiff, Nat.reduceLeDiff, Classical.not_not, List.length_cons, List.length_nil, Int.reduceAdd, z_cast, Nat.reducePow, false_or, Nat.reduceLT, Nat.sub_zero, Nat.le_refl, true_and, ↓reduceIte, iteP, hlt]
      refine x_isOf (Or.inr (Or.inr (Or.inl rfl))) hS1.1.1 hn12 hsx (by decide) ?_
      rw [inb2, n_cl (by omega), h2.2.2]
      simp (disch := omega) only [n_eq, n_lt, n_le, n_cl, n_inT, nI_add, bI_eq0, bI_eq1, not_true_eq_false, not_false_eq_true, true_implies, false_implies, implies_true, and_true, Bool.not_eq_false, Bool.not_eq_true, Nat.reduceEqDiff, Nat.reduceLeDiff, Classical.not_not, List.length_cons, List.length_nil, Int.reduceAdd, z_cast, Nat.reducePow, false_or, Nat.reduceLT, Nat.sub_zero, Nat.le_refl, true_and, ↓reduceIte, iteP, beq_self_eq_true, Bool.and_self, Bool.true_eq_false]
      have hS2 : RdS tp ln (eu E 2 k (cv - 97)) (nb tp ln (p + 1)) (wr (wr σ 400 2 (nI (nb tp ln (p + 1)))) 305 k (nI (cv - 97))) := hS1.es (FrE.rfl'.wr (by omega)) (XE_eu hS1.1 (Or.inr (Or.inl rfl)))
      refine x_step hw hS2.2.1 hS2.2.2 hpl2 ?_
      exact hz _ hS2.pl ((FrR.pl.trans (FrR.ofE (FrE.rfl'.wr (by omega)))).trans FrR.pl)
  · rw [if_neg h2] at hF
    have hz := hF rfl _ hS1 FrR.pl
    by_cases h3 : nI k ≤ nI cv - nI 97
    · rcases hi with ⟨rfl, rfl, rfl, rfl⟩ | ⟨rfl, rfl, rfl, rfl⟩
      · refine CallAt.of (k := 65) (cd := k_X4_readFather) ok_X4_readFather (by decide) rfl rfl rfl ?_
        show V _ i_X4_readFather k_X4_readFather 0 [.ref 400, .ref 300, .int (nI k), .null] [] _ _
        refine V_run ok_X4_readFather 60 0 ?_
        simp (disch := omega) only [eng, c_X4_readFather, r_X4_readFather, tbl, true_and, Nat.reduceAdd, Nat.reduceLT, ↓reduceIte, n_eq, n_lt, n_le, n_cl, n_inT, nI_add, bI_eq0, bI_eq1, not_true_eq_false, not_false_eq_true, true_implies, false_implies, implies_true, and_true, Bool.not_eq_false, Bool.not_eq_true, Nat.reduceEqDiff, Nat.reduceLeDiff, Classical.not_not, List.length_cons, List.length_nil, Int.reduceAdd, z_cast, Nat.reducePow, false_or, Nat.reduceLT, Nat.sub_zero, Nat.le_refl]
        try simp only [iteP, Classical.not_not, Bool.not_eq_false, Bool.not_eq_true]
        refine x_skip hw hS.2.1 hS.2.2 hp (by decide) (by decide) (fun z => absurd h1 z) (fun _ => ?_)
        simp (disch := omega) only [n_eq, n_lt, n_le, n_cl, n_inT, nI_add, bI_eq0, bI_eq1, not_true_eq_false, not_false_eq_true, true_implies, false_implies, implies_true, and_true, Bool.not_eq_false, Bool.not_eq_true, Nat.reduceEqDiff, Nat.reduceLeDiff, Classical.not_not, List.length_cons, List.length_nil, Int.reduceAdd, z_cast, Nat.reducePow, false_or, Nat.reduceLT, Nat.sub_zero, Nat.le_refl, true_and, ↓reduceIte, iteP]
        refine x_next hw hS1.2.1 hS1.2.2 hq.2 ?_
        rw [hcv]
        simp (disch := omega) only [n_eq, n_lt, n_le, n_cl, n_inT, nI_add, bI_eq0, bI_eq1, not_true_eq_false, not_false_eq_true, true_implies, false_implies, implies_true, and_true, Bool.not_eq_false, Bool.not_eq_true, Nat.reduceEqDiff, Nat.reduceLeDiff, Classical.not_not, List.length_cons, List.length_nil, Int.reduceAdd, z_cast, Nat.reducePow, false_or, Nat.reduceLT, Nat.sub_zero, Nat.le_refl, true_and, ↓reduceIte, iteP, h3]
        exact hz
      · refine CallAt.of (k := 66) (cd := k_X4_readMother) ok_X4_readMother (by decide) rfl rfl rfl ?_
        show V _ i_X4_readMother k_X4_readMother 0 [.ref 400, .ref 300, .int (nI k), .null] [] _ _
        refine V_run ok_X4_readMother 60 0 ?_
        simp (disch := omega) only [eng, c_X4_readMother, r_X4_readMother, tbl, true_and, Nat.reduceAdd, Nat.reduceLT, ↓reduceIte, n_eq, n_lt, n_le, n_cl, n_inT, nI_add, bI_eq0, bI_eq1, not_true_eq_false, not_false_eq_true, true_implies, false_implies, implies_true, and_true, Bool.not_eq_false, Bool.not_eq_true, Nat.reduceEqDiff, Nat.reduceLeDiff, Classical.not_not, List.length_cons, List.length_nil, Int.reduceAdd, z_cast, Nat.reducePow, false_or, Nat.reduceLT, Nat.sub_zero, Nat.le_refl]
        try simp only [iteP, Classical.not_not, Bool.not_eq_false, Bool.not_eq_true]
        refine x_skip hw hS.2.1 hS.2.2 hp (by decide) (by decide) (fun z => absurd h1 z) (fun _ => ?_)
        simp (disch := omega) only [n_eq, n_lt, n_le, n_cl, n_inT, nI_add, bI_eq0, bI_eq1, not_true_eq_false, not_false_eq_true, true_implies, false_implies, implies_true, and_true, Bool.not_eq_false, Bool.not_eq_true, Nat.reduceEqDiff, Nat.reduceLeDiff, Classical.not_not, List.length_cons, List.length_nil, Int.reduceAdd, z_cast, Nat.reducePow, false_or, Nat.reduceLT, Nat.sub_zero, Nat.le_refl, true_and, ↓reduceIte, iteP]
        refine x_next hw hS1.2.1 hS1.2.2 hq.2 ?_
        rw [hcv]
        simp (disch := omega) only [n_eq, n_lt, n_le, n_cl, n_inT, nI_add, bI_eq0, bI_eq1, not_true_eq_false, not_false_eq_true, true_implies, false_implies, implies_true, and_true, Bool.not_eq_false, Bool.not_eq_true, Nat.reduceEqDiff, Nat.reduceLeDiff, Classical.not_not, List.length_cons, List.length_nil, Int.reduceAdd, z_cast, Nat.reducePow, false_or, Nat.reduceLT, Nat.sub_zero, Nat.le_refl, true_and, ↓reduceIte, iteP, h3]
        exact hz
    · have h3' : ¬ ((k : Int) ≤ (cv : Int) - 97) := by rw [i_le, t97, nI_nn k (by omega)] at h3; exact h3
      have bad : ∀ w', w' = w → (inB (nI cv - nI 97) (E 12 0) && E 0 (nI cv - nI 97).toNatClampNeg == w') = false := by
        rintro w' rfl
        rw [inb]
        by_cases z : 97 ≤ cv
        · rw [fin _ z rfl, n_cl (by omega)]
          have : ¬ E 0 (cv - 97) = w' := fun y => h2 ⟨z, by omega, y⟩
          simp [this]
        · have : decide (97 ≤ cv ∧ cv - 97 < E 12 0) = false := by simp; omega
          rw [this]; rfl
      rcases hi with ⟨rfl, rfl, rfl, rfl⟩ | ⟨rfl, rfl, rfl, rfl⟩
      · refine CallAt.of (k := 65) (cd := k_X4_readFather) ok_X4_readFather (by decide) rfl rfl rfl ?_
        show V _ i_X4_readFather k_X4_readFather 0 [.ref 400, .ref 300, .int (nI k), .null] [] _ _
        refine V_run ok_X4_readFather 60 0 ?_
        simp (disch := omega) only [eng, c_X4_readFather, r_X4_readFather, tbl, true_and, Nat.reduceAdd, Nat.reduceLT, ↓reduceIte, n_eq, n_lt, n_le, n_cl, n_inT, nI_add, bI_eq0, bI_eq1, not_true_eq_false, not_false_eq_true, true_implies, false_implies, implies_true, and_true, Bool.not_eq_false, Bool.not_eq_true, Nat.reduceEqDiff, Nat.reduceLeDiff, Classical.not_not, List.length_cons, List.length_nil, Int.reduceAdd, z_cast, Nat.reducePow, false_or, Nat.reduceLT, Nat.sub_zero, Nat.le_refl]
        try simp only [iteP, Classical.not_not, Bool.not_eq_false, Bool.not_eq_true]
        refine x_skip hw hS.2.1 hS.2.2 hp (by decide) (by decide) (fun z => absurd h1 z) (fun _ => ?_)
        simp (disch := omega) only [n_eq, n_lt, n_le, n_cl, n_inT, nI_add, bI_eq0, bI_eq1, not_true_eq_false, not_false_eq_true, true_implies, false_implies, implies_true, and_true, Bool.not_eq_false, Bool.not_eq_true, Nat.reduceEqDiff, Nat.reduceLeDiff, Classical.not_not, List.length_cons, List.length_nil, Int.reduceAdd, z_cast, Nat.reducePow, false_or, Nat.reduceLT, Nat.sub_zero, Nat.le_refl, true_and, ↓reduceIte, iteP]
        refine x_next hw hS1.2.1 hS1.2.2 hq.2 ?_
        rw [hcv]
        simp (disch := omega) only [n_eq, n_lt, n_le, n_cl, n_inT, nI_add, bI_eq0, bI_eq1, not_true_eq_false, not_false_eq_true, true_implies, false_implies, implies_true, and_true, Bool.not_eq_false, Bool.not_eq_true, Nat.reduceEqDiff, Nat.reduceLeDiff, Classical.not_not, List.length_cons, List.length_nil, Int.reduceAdd, z_cast, Nat.reducePow, false_or, Nat.reduceLT, Nat.sub_zero, Nat.le_refl, true_and, ↓reduceIte, iteP, h3]
        refine x_isOf (Or.inr (Or.inr (Or.inl rfl))) hS1.1.1 hn12 hsx (by decide) ?_
        rw [bad 0 rfl]
        simp (disch := omega) only [n_eq, n_lt, n_le, n_cl, n_inT, nI_add, bI_eq0, bI_eq1, not_true_eq_false, not_false_eq_true, true_implies, false_implies, implies_true, and_true, Bool.not_eq_false, Bool.not_eq_true, Nat.reduceEqDiff, Nat.reduceLeDiff, Classical.not_not, List.length_cons, List.length_nil, Int.reduceAdd, z_cast, Nat.reducePow, false_or, Nat.reduceLT, Nat.sub_zero, Nat.le_refl, true_and, ↓reduceIte, iteP, Bool.false_eq_true]
        exact hz
      · refine CallAt.of (k := 66) (cd := k_X4_readMother) ok_X4_readMother (by decide) rfl rfl rfl ?_
        show V _ i_X4_readMother k_X4_readMother 0 [.ref 400, .ref 300, .int (nI k), .null] [] _ _
        refine V_run ok_X4_readMother 60 0 ?_
        simp (disch := omega) only [eng, c_X4_readMother, r_X4_readMother, tbl, true_and, Nat.reduceAdd, Nat.reduceLT, ↓reduceIte, n_eq, n_lt, n_le, n_cl, n_inT, nI_add, bI_eq0, bI_eq1, not_true_eq_false, not_false_eq_true, true_implies, false_implies, implies_true, and_true, Bool.not_eq_false, Bool.not_eq_true, Nat.reduceEqDiff, Nat.reduceLeDiff, Classical.not_not, List.length_cons, List.length_nil, Int.reduceAdd, z_cast, Nat.reducePow, false_or, Nat.reduceLT, Nat.sub_zero, Nat.le_refl]
        try simp only [iteP, Classical.not_not, Bool.not_eq_false, Bool.not_eq_true]
        refine x_skip hw hS.2.1 hS.2.2 hp (by decide) (by decide) (fun z => absurd h1 z) (fun _ => ?_)
        simp (disch := omega) only [n_eq, n_lt, n_le, n_cl, n_inT, nI_add, bI_eq0, bI_eq1, not_true_eq_false, not_false_eq_true, true_implies, false_implies, implies_true, and_true, Bool.not_eq_false, Bool.not_eq_true, Nat.reduceEqDiff, Nat.reduceLeDiff, Classical.not_not, List.length_cons, List.length_nil, Int.reduceAdd, z_cast, Nat.reducePow, false_or, Nat.reduceLT, Nat.sub_zero, Nat.le_refl, true_and, ↓reduceIte, iteP]
        refine x_next hw hS1.2.1 hS1.2.2 hq.2 ?_
        rw [hcv]
        simp (disch := omega) only [n_eq, n_lt, n_le, n_cl, n_inT, nI_add, bI_eq0, bI_eq1, not_true_eq_false, not_false_eq_true, true_implies, false_implies, implies_true, and_true, Bool.not_eq_false, Bool.not_eq_true, Nat.reduceEqDiff, Nat.reduceLeDiff, Classical.not_not, List.length_cons, List.length_nil, Int.reduceAdd, z_cast, Nat.reducePow, false_or, Nat.reduceLT, Nat.sub_zero, Nat.le_refl, true_and, ↓reduceIte, iteP, h3]
        refine x_isOf (Or.inr (Or.inr (Or.inl rfl))) hS1.1.1 hn12 hsx (by decide) ?_
        rw [bad 1 rfl]
        simp (disch := omega) only [n_eq, n_lt, n_le, n_cl, n_inT, nI_add, bI_eq0, bI_eq1, not_true_eq_false, not_false_eq_true, true_implies, false_implies, implies_true, and_true, Bool.not_eq_false, Bool.not_eq_true, Nat.reduceEqDiff, Nat.reduceLeDiff, Classical.not_not, List.length_cons, List.length_nil, Int.reduceAdd, z_cast, Nat.reducePow, false_or, Nat.reduceLT, Nat.sub_zero, Nat.le_refl, true_and, ↓reduceIte, iteP, Bool.false_eq_true]
        exact hz
