/-! THE WHOLE STATE: the estate, the image, the tape (bytes, how many), the sheets (lanes, sizes, items) -/
abbrev AS : Type := Es × Option Es × ((Nat → Nat) × Nat) × ((Nat → Int32) × (Nat → Nat) × (Nat → Int32))
def AWf (A : AS) : Prop := Wf A.1 ∧ (∀ E', A.2.1 = some E' → Wf E') ∧ TpW A.2.2.1.1 A.2.2.1.2 ∧ SWf A.2.2.2.1 A.2.2.2.2.1
/-- the class holds A -/
def CX (A : AS) (σ : St) : Prop := AWf A ∧ XE 100 A.1 σ ∧ σ 0 7 = bI A.2.1.isSome ∧ (∀ E', A.2.1 = some E' → XE 200 E' σ) ∧ TpX A.2.2.1.1 A.2.2.1.2 σ ∧ SX A.2.2.2.1 A.2.2.2.2.1 A.2.2.2.2.2 σ
def FrX (σ σ' : St) : Prop := ∀ k, 900 ≤ k → σ' k = σ k
def setE (A : AS) (E : Es) : AS := (E, A.2)
theorem CX.es {A : AS} {E : Es} {σ σ' : St} (h : CX A σ) (hf : FrE 100 σ σ') (hW : Wf E) (hE : XE 100 E σ') : CX (setE A E) σ' := by
  obtain ⟨a1, a2, a3, a4, a5, a6⟩ := h
  refine ⟨⟨hW, a1.2⟩, hE, by rw [hf 0 (by omega)]; exact a3, fun E' he => (a4 E' he).frame (fun k h1 h2 => hf k (by omega)), ⟨by rw [hf 400 (by omega)]; exact a5.1, fun i hi => by rw [hf 401 (by omega)]; exact a5.2 i hi⟩, ⟨fun s hs => by rw [hf 501 (by omega), hf 502 (by omega)]; exact a6.1 s hs, fun j hj => by rw [hf 503 (by omega)]; exact a6.2 j hj⟩⟩
/-- cells that don't tell the state -/
theorem CX.fr {A : AS} {σ σ' : St} (h : CX A σ) (hf : ∀ k, (k < 300 ∨ k = 401 ∨ (501 ≤ k ∧ k ≤ 503)) → σ' k = σ k) (h4 : σ' 400 1 = σ 400 1) : CX A σ' := by
  obtain ⟨a1, a2, a3, a4, a5, a6⟩ := h
  refine ⟨a1, a2.frame (fun k h1 h2 => hf k (by omega)), by rw [hf 0 (by omega)]; exact a3, fun E' he => (a4 E' he).frame (fun k h1 h2 => hf k (by omega)), ⟨by rw [h4]; exact a5.1, fun i hi => by rw [hf 401 (by omega)]; exact a5.2 i hi⟩, ⟨fun s hs => by rw [hf 501 (by omega), hf 502 (by omega)]; exact a6.1 s hs, fun j hj => by rw [hf 503 (by omega)]; exact a6.2 j hj⟩⟩
theorem FrE.x {b : Nat} {σ σ' : St} (hb : Eb b) (h : FrE b σ σ') : FrX σ σ' := fun k hk => h k (by rcases hb with rfl | rfl | rfl | rfl <;> omega)
theorem FrX.rfl' {σ : St} : FrX σ σ := fun _ _ => rfl
theorem FrX.trans {σ σ' σ'' : St} (h : FrX σ σ') (h2 : FrX σ' σ'') : FrX σ σ'' := fun k a => (h2 k a).trans (h k a)
theorem FrX.wr {σ σ' : St} {k j : Nat} {v : Int32} (h : FrX σ σ') (hk : k < 900) : FrX σ (wr σ' k j v) := fun k' hk' => by rw [wr_ne k' (by omega)]; exact h k' hk'
abbrev e100 : Eb 100 := Or.inl rfl
abbrev e200 : Eb 200 := Or.inr (Or.inl rfl)
abbrev e300 : Eb 300 := Or.inr (Or.inr (Or.inl rfl))
/-- x is one of a sex -/
def isS (E : Es) (x : Int32) (w : Nat) : Bool := inB x (E 12 0) && E 0 x.toNatClampNeg == w
def pOk (E : Es) (x : Int32) (w : Nat) : Bool := decide (x = nI 12) || isS E x w
def op_person (A : AS) (s f m : Int32) : Int32 × AS :=
  if (decide (s = nI 0 ∨ s = nI 1) && pOk A.1 f 0 && pOk A.1 m 1) = true then (if 12 ≤ A.1 12 0 then (-3, A) else (nI (A.1 12 0), setE A (addE A.1 s.toNatClampNeg f.toNatClampNeg m.toNatClampNeg))) else (-1, A)
theorem pOk_of {E : Es} (hn : E 12 0 ≤ 12) {x : Int32} {w : Nat} (h : pOk E x w = true) : ∃ j, j ≤ 12 ∧ x = nI j ∧ x.toNatClampNeg = j ∧ (j = 12 ∨ (j < E 12 0 ∧ E 0 j = w)) := by
  unfold pOk isS at h
  simp only [Bool.or_eq_true, Bool.and_eq_true, beq_iff_eq, decide_eq_true_eq] at h
  rcases h with rfl | ⟨h1, h2⟩
  · exact ⟨12, Nat.le_refl _, rfl, n_cl (by decide), Or.inl rfl⟩
  · obtain ⟨j, hj, rfl⟩ := inB_of h1
    rw [n_cl (by omega)] at h2
    exact ⟨j, by omega, rfl, n_cl (by omega), Or.inr ⟨hj, h2⟩⟩
theorem X_person {l : Launch} {A : AS} {s f m : Int32} {σ : St} {K : Int32 → St → Prop} (hC : CX A σ) (hK : ∀ σ', CX (op_person A s f m).2 σ' → FrX σ σ' → K (op_person A s f m).1 σ') : CallAt l 72 [.ref 0, .int s, .int f, .int m] σ K := by
  have hW := hC.1.1
  have hE := hC.2.1
  have hn := hW.1
  have bad : (decide (s = nI 0 ∨ s = nI 1) && pOk A.1 f 0 && pOk A.1 m 1) = false → K (-1) σ := fun h => by
    have := hK σ
    unfold op_person at this
    rw [h] at this
    exact this hC FrX.rfl'
  have fin : (decide (s = nI 0 ∨ s = nI 1) && pOk A.1 f 0 && pOk A.1 m 1) = true → CallAt l 8 [.ref 100, .int s, .int f, .int m] σ (fun r' σ' => K r' σ') := fun h => by
    have hk := hK
    unfold op_person at hk
    rw [if_pos h] at hk
    simp only [Bool.and_eq_true, decide_eq_true_eq] at h
    obtain ⟨⟨h1, h2⟩, h3⟩ := h
    obtain ⟨f', hf1, rfl, hf2, hf3⟩ := pOk_of hn h2
    obtain ⟨m', hm1, rfl, hm2, hm3⟩ := pOk_of hn h3
    obtain ⟨s', hs1, rfl, hs2⟩ : ∃ s' : Nat, s' ≤ 1 ∧ s = nI s' ∧ s.toNatClampNeg = s' := by
      rcases h1 with rfl | rfl
      · exact ⟨0, by omega, rfl, n_cl (by decide)⟩
      · exact ⟨1, by omega, rfl, n_cl (by decide)⟩
    rw [hf2, hm2, hs2] at hk
    refine x_addPerson e100 hW hE (fun z => ?_) (fun z σ' hE' hf' => ?_)
    · rw [if_pos z] at hk; exact hk σ hC FrX.rfl'
    · rw [if_neg (by omega)] at hk
      exact hk σ' (hC.es hf' (Wf_addE hW z hs1 hf3 hm3) hE') (hf'.x e100)
  have tm : (decide (s = nI 0 ∨ s = nI 1) = true) → pOk A.1 f 0 = true → (m = nI 12 → CallAt l 8 [.ref 100, .int s, .int f, .int m] σ (fun r' σ' => K r' σ')) ∧ (¬ m = nI 12 → CallAt l 5 [.ref 100, .int m, .int (nI 1)] σ (fun r' σ' => (¬ r' = nI 0 → CallAt l 8 [.ref 100, .int s, .int f, .int m] σ' (fun r' σ' => K r' σ')) ∧ (r' = nI 0 → K (-1) σ'))) := by
    intro h1 h2
    refine ⟨fun h => fin (by rw [h1, h2]; simp [pOk, h]), fun h => ?_⟩
    refine x_isOf e100 hE.1 hn (hE.sx hW) (by decide) ?_
    simp (disch := omega) only [n_eq, n_lt, n_le, n_cl, n_inT, nI_add, bI_eq0, bI_eq1, not_true_eq_false, not_false_eq_true, true_implies, false_implies, implies_true, and_true, Bool.not_eq_false, Bool.not_eq_true, Nat.reduceEqDiff, Nat.reduceLeDiff, Classical.not_not, List.length_cons, List.length_nil, Int.reduceAdd, z_cast, Nat.reducePow, false_or, Nat.reduceLT, Nat.sub_zero, Nat.le_refl, true_and, ↓reduceIte, iteP]
    refine ⟨fun z => fin ?_, fun z => bad ?_⟩
    · rw [h1, h2]; simp only [pOk, isS, h, z, decide_false, Bool.or_true, Bool.and_self]
    · rw [h1, h2]; simp only [pOk, isS, h, z, decide_false, Bool.or_self, Bool.and_false]
  have tf : (decide (s = nI 0 ∨ s = nI 1) = true) → (f = nI 12 → ((m = nI 12 → CallAt l 8 [.ref 100, .int s, .int f, .int m] σ (fun r' σ' => K r' σ')) ∧ (¬ m = nI 12 → CallAt l 5 [.ref 100, .int m, .int (nI 1)] σ (fun r' σ' => (¬ r' = nI 0 → CallAt l 8 [.ref 100, .int s, .int f, .int m] σ' (fun r' σ' => K r' σ')) ∧ (r' = nI 0 → K (-1) σ'))))) ∧ (¬ f = nI 12 → CallAt l 5 [.ref 100, .int f, .int (nI 0)] σ (fun r' σ' => (¬ r' = nI 0 → ((m = nI 12 → CallAt l 8 [.ref 100, .int s, .int f, .int m] σ' (fun r' σ' => K r' σ')) ∧ (¬ m = nI 12 → CallAt l 5 [.ref 100, .int m, .int (nI 1)] σ' (fun r' σ' => (¬ r' = nI 0 → CallAt l 8 [.ref 100, .int s, .int f, .int m] σ' (fun r' σ' => K r' σ')) ∧ (r' = nI 0 → K (-1) σ'))))) ∧ (r' = nI 0 → K (-1) σ'))) := by
    intro h1
    refine ⟨fun h => tm h1 (by simp [pOk, h]), fun h => ?_⟩
    refine x_isOf e100 hE.1 hn (hE.sx hW) (by decide) ?_
    simp (disch := omega) only [n_eq, n_lt, n_le, n_cl, n_inT, nI_add, bI_eq0, bI_eq1, not_true_eq_false, not_false_eq_true, true_implies, false_implies, implies_true, and_true, Bool.not_eq_false, Bool.not_eq_true, Nat.reduceEqDiff, Nat.reduceLeDiff, Classical.not_not, List.length_cons, List.length_nil, Int.reduceAdd, z_cast, Nat.reducePow, false_or, Nat.reduceLT, Nat.sub_zero, Nat.le_refl, true_and, ↓reduceIte, iteP]
    refine ⟨fun z => ?_, fun z => bad ?_⟩
    · exact tm h1 (by simp only [pOk, isS, h, z, decide_false, Bool.or_true])
    · rw [h1]; simp only [pOk, isS, h, z, decide_false, Bool.or_self, Bool.and_false, Bool.false_and]
  refine CallAt.of (k := 72) (cd := k_X5_person) ok_X5_person (by decide) rfl rfl rfl ?_
  show V _ i_X5_person k_X5_person 0 [.ref 0, .int s, .int f, .int m] [] _ _
  refine V_run ok_X5_person 60 0 ?_
  simp (disch := omega) only [eng, c_X5_person, r_X5_person, tbl, true_and, Nat.reduceAdd, Nat.reduceLT, ↓reduceIte, n_eq, n_lt, n_le, n_cl, n_inT, nI_add, bI_eq0, bI_eq1, not_true_eq_false, not_false_eq_true, true_implies, false_implies, implies_true, and_true, Bool.not_eq_false, Bool.not_eq_true, Nat.reduceEqDiff, Nat.reduceLeDiff, Classical.not_not, List.length_cons, List.length_nil, Int.reduceAdd, z_cast, Nat.reducePow, false_or, Nat.reduceLT, Nat.sub_zero, Nat.le_refl]
  try simp only [iteP, Classical.not_not, Bool.not_eq_false, Bool.not_eq_true]
  exact ⟨fun h => tf (by simp [h]), fun h => ⟨fun h2 => tf (by simp [h2]), fun h2 => bad (by simp [h, h2])⟩⟩
def op_marry (A : AS) (a c : Int32) : Int32 × AS :=
  if (isS A.1 a 0 && isS A.1 c 1) = true then (if can A.1 a.toNatClampNeg c.toNatClampNeg = true then (nI 1, setE A (joi A.1 a.toNatClampNeg c.toNatClampNeg)) else (-2, A)) else (-1, A)
theorem isS_n {E : Es} (hn : E 12 0 ≤ 12) {x : Int32} {w : Nat} (h : isS E x w = true) : ∃ j, j < E 12 0 ∧ x = nI j ∧ x.toNatClampNeg = j ∧ E 0 j = w := by
  unfold isS at h
  simp only [Bool.and_eq_true, beq_iff_eq] at h
  obtain ⟨j, hj, rfl⟩ := inB_of h.1
  rw [n_cl (by omega)] at h
  exact ⟨j, hj, rfl, n_cl (by omega), h.2⟩
theorem X_marry {l : Launch} {A : AS} {a c : Int32} {σ : St} {K : Int32 → St → Prop} (hC : CX A σ) (hK : ∀ σ', CX (op_marry A a c).2 σ' → FrX σ σ' → K (op_marry A a c).1 σ') : CallAt l 73 [.ref 0, .int a, .int c] σ K := by
  have hW := hC.1.1
  have hE := hC.2.1
  have hn := hW.1
  unfold op_marry at hK
  refine CallAt.of (k := 73) (cd := k_X5_marry) ok_X5_marry (by decide) rfl rfl rfl ?_
  show V _ i_X5_marry k_X5_marry 0 [.ref 0, .int a, .int c] [] _ _
  refine V_run ok_X5_marry 60 0 ?_
  simp (disch := omega) only [eng, c_X5_marry, r_X5_marry, tbl, true_and, Nat.reduceAdd, Nat.reduceLT, ↓reduceIte, n_eq, n_lt, n_le, n_cl, n_inT, nI_add, bI_eq0, bI_eq1, not_true_eq_false, not_false_eq_true, true_implies, false_implies, implies_true, and_true, Bool.not_eq_false, Bool.not_eq_true, Nat.reduceEqDiff, Nat.reduceLeDiff, Classical.not_not, List.length_cons, List.length_nil, Int.reduceAdd, z_cast, Nat.reducePow, false_or, Nat.reduceLT, Nat.sub_zero, Nat.le_refl]
  try simp only [iteP, Classical.not_not, Bool.not_eq_false, Bool.not_eq_true]
  refine x_isOf e100 hE.1 hn (hE.sx hW) (by decide) ?_
  have r1 : (inB a (A.1 12 0) && A.1 0 a.toNatClampNeg == 0) = isS A.1 a 0 := rfl
  have r2 : (inB c (A.1 12 0) && A.1 0 c.toNatClampNeg == 1) = isS A.1 c 1 := rfl
  rw [r1]
  simp (disch := omega) only [n_eq, n_lt, n_le, n_cl, n_inT, nI_add, bI_eq0, bI_eq1, not_true_eq_false, not_false_eq_true, true_implies, false_implies, implies_true, and_true, Bool.not_eq_false, Bool.not_eq_true, Nat.reduceEqDiff, Nat.reduceLeDiff, Classical.not_not, List.length_cons, List.length_nil, Int.reduceAdd, z_cast, Nat.reducePow, false_or, Nat.reduceLT, Nat.sub_zero, Nat.le_refl, true_and, ↓reduceIte, iteP]
  refine ⟨fun h => ?_, fun h => x_isOf e100 hE.1 hn (hE.sx hW) (by decide) ?_⟩
  · rw [h] at hK; exact hK σ hC FrX.rfl'
  rw [r2]
  simp (disch := omega) only [n_eq, n_lt, n_le, n_cl, n_inT, nI_add, bI_eq0, bI_eq1, not_true_eq_false, not_false_eq_true, true_implies, false_implies, implies_true, and_true, Bool.not_eq_false, Bool.not_eq_true, Nat.reduceEqDiff, Nat.reduceLeDiff, Classical.not_not, List.length_cons, List.length_nil, Int.reduceAdd, z_cast, Nat.reducePow, false_or, Nat.reduceLT, Nat.sub_zero, Nat.le_refl, true_and, ↓reduceIte, iteP]
  refine ⟨fun h2 => ?_, fun h2 => ?_⟩
  case refine_2 => rw [h, h2] at hK; exact hK σ hC FrX.rfl'
  rw [h, h2, Bool.and_self, if_pos rfl] at hK
  obtain ⟨a', ha, rfl, ha2, ha3⟩ := isS_n hn h
  obtain ⟨c', hc, rfl, hc2, hc3⟩ := isS_n hn h2
  rw [ha2, hc2] at hK
  refine x_join e100 hW hE (by omega) (by omega) (fun z => ?_) (fun z σ' hE' hf' => ?_)
  · simp (disch := omega) only [n_eq, n_lt, n_le, n_cl, n_inT, nI_add, bI_eq0, bI_eq1, not_true_eq_false, not_false_eq_true, true_implies, false_implies, implies_true, and_true, Bool.not_eq_false, Bool.not_eq_true, Nat.reduceEqDiff, Nat.reduceLeDiff, Classical.not_not, List.length_cons, List.length_nil, Int.reduceAdd, z_cast, Nat.reducePow, false_or, Nat.reduceLT, Nat.sub_zero, Nat.le_refl, true_and, ↓reduceIte, iteP]
    rw [z] at hK; exact hK σ hC FrX.rfl'
  · simp (disch := omega) only [n_eq, n_lt, n_le, n_cl, n_inT, nI_add, bI_eq0, bI_eq1, not_true_eq_false, not_false_eq_true, true_implies, false_implies, implies_true, and_true, Bool.not_eq_false, Bool.not_eq_true, Nat.reduceEqDiff, Nat.reduceLeDiff, Classical.not_not, List.length_cons, List.length_nil, Int.reduceAdd, z_cast, Nat.reducePow, false_or, Nat.reduceLT, Nat.sub_zero, Nat.le_refl, true_and, ↓reduceIte, iteP]
    rw [z, if_pos rfl] at hK
    exact hK σ' (hC.es hf' (Wf_joi hW z) hE') (hf'.x e100)
def op_adopt (A : AS) (c m : Int32) : Int32 × AS :=
  if (inB c (A.1 12 0) && isS A.1 m 0 && decide (m < c)) = true then (if A.1 5 c.toNatClampNeg = 1 ∧ A.1 5 m.toNatClampNeg = 1 then (nI (A.1 1 c.toNatClampNeg), setE A (eu A.1 1 c.toNatClampNeg m.toNatClampNeg)) else (-2, A)) else (-1, A)
