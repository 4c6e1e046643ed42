theorem x_brings {l : Launch} {N t h : Nat} {o1 o2 : Option Nat} {E : Es} {f : Nat → Nat} {σ : St} {K : Int32 → St → Prop} (hW : Wf E) (hE : XE 100 E σ) (hN : N ≤ 8) (ht : t < E 12 1) (hh : h < 12) (ho1 : ∀ q, o1 = some q → q < 144) (ho2 : ∀ q, o2 = some q → q < 144) (g1 : σ 700 2 = nI N) (g2 : ∀ i, i < N → σ 702 i = nI (f i)) (hl : ∀ i, i < N → f i < E 12 0 ∧ dieN E f i 5 (f i) = 1)
    (hK : ∀ σ', (∀ k, k ≠ 704 → k < 800 ∨ 815 ≤ k → σ' k = σ k) → (brE E o1 o2 t h f N = true → σ' 704 = wdA o2 2 (wdA o1 0 (σ 704))) → K (bI (brE E o1 o2 t h f N)) σ') : CallAt l 51 [.ref 700, .ref 100, .int (oI o1), .int (oI o2), .int (nI t), .int (nI h)] σ K := by
  refine CallAt.of (k := 51) (cd := k_X3_brings) ok_X3_brings (by decide) rfl rfl rfl ?_
  show V _ i_X3_brings k_X3_brings 0 [.ref 700, .ref 100, .int (oI o1), .int (oI o2), .int (nI t), .int (nI h), .null] [] _ _
  refine V_run ok_X3_brings 60 0 ?_
  simp (disch := omega) only [eng, c_X3_brings, r_X3_brings, tbl, true_and, Nat.reduceAdd, Nat.reduceLT, ↓reduceIte, n_eq, n_lt, n_le, n_cl, n_inT, nI_add, bI_eq0, bI_eq1, not_true_eq_false, not_false_eq_true, true_implies, false_implies, implies_true, and_true, Bool.not_eq_false, Bool.not_eq_true, Nat.reduceEqDiff, Nat.reduceLeDiff, Classical.not_not, List.length_cons, List.length_nil, Int.reduceAdd, z_cast, Nat.reducePow, false_or, Nat.reduceLT, Nat.sub_zero, Nat.le_refl]
  try simp only [iteP, Classical.not_not, Bool.not_eq_false, Bool.not_eq_true]
  refine x_takeFrom (Or.inr (Or.inr (Or.inr rfl))) (Or.inl rfl) (by decide) hW hE (fun σ1 hE1 hf1 => ?_)
  refine x_weds hW hE1 (by decide) ho1 (fun σ2 h2a h2b h2c => ?_)
  have k2 : ∀ k, k ≠ 704 → k < 800 ∨ 815 ≤ k → σ2 k = σ k := fun k z1 z2 => by rw [h2c k z1 z2]; exact hf1 k (by omega)
  have b2 : σ2 704 = wdA o1 0 (σ 704) := by rw [h2b, hf1 704 (by omega)]
  unfold brE at hK
  cases hw1 : wE E o1 with
  | none =>
    rw [hw1] at hK
    simp (disch := omega) only [n_eq, n_lt, n_le, n_cl, n_inT, nI_add, bI_eq0, bI_eq1, not_true_eq_false, not_false_eq_true, true_implies, false_implies, implies_true, and_true, Bool.not_eq_false, Bool.not_eq_true, Nat.reduceEqDiff, Nat.reduceLeDiff, Classical.not_not, List.length_cons, List.length_nil, Int.reduceAdd, z_cast, Nat.reducePow, false_or, Nat.reduceLT, Nat.sub_zero, Nat.le_refl, true_and, ↓reduceIte, iteP, Option.isSome_none, Bool.false_eq_true]
    exact hK σ2 k2 (fun z => by cases z)
  | some E1 =>
    rw [hw1] at hK
    have hW1 := Wf_wE hW hw1
    have eq1 := wE_eq hw1
    simp (disch := omega) only [n_eq, n_lt, n_le, n_cl, n_inT, nI_add, bI_eq0, bI_eq1, not_true_eq_false, not_false_eq_true, true_implies, false_implies, implies_true, and_true, Bool.not_eq_false, Bool.not_eq_true, Nat.reduceEqDiff, Nat.reduceLeDiff, Classical.not_not, List.length_cons, List.length_nil, Int.reduceAdd, z_cast, Nat.reducePow, false_or, Nat.reduceLT, Nat.sub_zero, Nat.le_refl, true_and, ↓reduceIte, iteP, Option.isSome_some, Bool.true_eq_false]
    refine x_weds hW1 (h2a E1 hw1) (by decide) ho2 (fun σ3 h3a h3b h3c => ?_)
    have k3 : ∀ k, k ≠ 704 → k < 800 ∨ 815 ≤ k → σ3 k = σ k := fun k z1 z2 => by rw [h3c k z1 z2]; exact k2 k z1 z2
    have b3 : σ3 704 = wdA o2 2 (wdA o1 0 (σ 704)) := by rw [h3b, b2]
    dsimp only at hK
    cases hw2 : wE E1 o2 with
    | none =>
      rw [hw2] at hK
      simp (disch := omega) only [n_eq, n_lt, n_le, n_cl, n_inT, nI_add, bI_eq0, bI_eq1, not_true_eq_false, not_false_eq_true, true_implies, false_implies, implies_true, and_true, Bool.not_eq_false, Bool.not_eq_true, Nat.reduceEqDiff, Nat.reduceLeDiff, Classical.not_not, List.length_cons, List.length_nil, Int.reduceAdd, z_cast, Nat.reducePow, false_or, Nat.reduceLT, Nat.sub_zero, Nat.le_refl, true_and, ↓reduceIte, iteP, Option.isSome_none, Bool.false_eq_true]
      exact hK σ3 k3 (fun z => by cases z)
    | some E2 =>
      rw [hw2] at hK
      have hW2 := Wf_wE hW1 hw2
      have eq2 := wE_eq hw2
      have e12 : ∀ j, E2 12 j = E 12 j := fun j => by rw [eq2 12 j (by decide), eq1 12 j (by decide)]
      have e5 : E2 5 = E 5 := by funext j; rw [eq2 5 j (by decide), eq1 5 j (by decide)]
      simp (disch := omega) only [n_eq, n_lt, n_le, n_cl, n_inT, nI_add, bI_eq0, bI_eq1, not_true_eq_false, not_false_eq_true, true_implies, false_implies, implies_true, and_true, Bool.not_eq_false, Bool.not_eq_true, Nat.reduceEqDiff, Nat.reduceLeDiff, Classical.not_not, List.length_cons, List.length_nil, Int.reduceAdd, z_cast, Nat.reducePow, false_or, Nat.reduceLT, Nat.sub_zero, Nat.le_refl, true_and, ↓reduceIte, iteP, Option.isSome_some, Bool.true_eq_false]
      refine lp_brings l hW2 hN (by rw [e12]; exact ht) hh (by rw [k3 700 (by decide) (by omega)]; exact g1) (fun i hi => by rw [k3 702 (by decide) (by omega)]; exact g2 i hi) (fun i hi => by rw [e12, dieN_5 f i E2 E e5]; exact hl i hi) (fun σ4 hf4 => ?_) N 0 σ3 (by omega) hW2 (h3a E2 hw2) FrE.rfl'
      rw [e12]
      exact hK σ4 (fun k z1 z2 => by rw [hf4 k (by omega)]; exact k3 k z1 z2) (fun _ => by rw [hf4 704 (by omega)]; exact b3)
/-- the first of n from q on that a test takes -/
def fs (P : Nat → Bool) : Nat → Nat → Option Nat
  | 0, _ => none
  | n + 1, q => if P q then some q else fs P n (q + 1)
def fs2 (P : Nat → Nat → Bool) : Nat → Nat → Option (Nat × Nat)
  | 0, _ => none
  | n + 1, a => match fs (P a) 144 0 with
    | some b => some (a, b)
    | none => fs2 P n (a + 1)
theorem fs_lt {P : Nat → Bool} : ∀ {n q b : Nat}, fs P n q = some b → q ≤ b ∧ b < q + n ∧ P b = true
  | 0, _, _, h => by cases h
  | n + 1, q, b, h => by
    unfold fs at h
    split at h
    · rename_i hp; cases h; exact ⟨Nat.le_refl _, by omega, hp⟩
    · have := fs_lt h; exact ⟨by omega, by omega, this.2.2⟩
theorem fs_none {P : Nat → Bool} : ∀ (n q : Nat), (∀ b, P b = false) → fs P n q = none
  | 0, _, _ => rfl
  | n + 1, q, h => by unfold fs; rw [h q]; exact fs_none n (q + 1) h
/-- the fewest marriages, as pairs -/
def wedE (E : Es) (t h : Nat) (f : Nat → Nat) (N : Nat) : Option (List Nat) :=
  if brE E none none t h f N then some [] else match fs (fun q => brE E (some q) none t h f N) 144 0 with
    | some q => some [q]
    | none => match fs2 (fun a b => brE E (some a) (some b) t h f N) 144 0 with
      | some (a, b) => some [a, b]
      | none => none
theorem brE_can {E : Es} {q t h N : Nat} {o : Option Nat} {f : Nat → Nat} (hc : can E (q / 12) (q % 12) = false) : brE E (some q) o t h f N = false := by
  simp [brE, wE, hc]
theorem can_joi {E : Es} {a c x y : Nat} (h : can (joi E a c) x y = true) (hn : a < 12) (hc : c < 12) : can E x y = true := by
  obtain ⟨h1, h2, h3, h4, h5, h6, h7, h8, h9⟩ := can_iff.mp h
  have e3 : ∀ j, joi E a c 3 j = 12 → E 3 j = 12 := fun j hj => by
    simp only [joi, true_and] at hj
    split at hj
    · omega
    · split at hj
      · omega
      · exact hj
  simp only [joi_ne (show (0 : Nat) ≠ 3 by decide), joi_ne (show (1 : Nat) ≠ 3 by decide), joi_ne (show (2 : Nat) ≠ 3 by decide), joi_ne (show (5 : Nat) ≠ 3 by decide), joi_ne (show (12 : Nat) ≠ 3 by decide)] at h1 h2 h3 h4 h5 h6 h9
  exact can_iff.mpr ⟨h1, h2, h3, h4, h5, h6, e3 x h7, e3 y h8, h9⟩
theorem brE_can2 {E : Es} (hW : Wf E) {a b t h N : Nat} {f : Nat → Nat} (ha : a < 144) (hc : can E (b / 12) (b % 12) = false) : brE E (some a) (some b) t h f N = false := by
  unfold brE
  cases h1 : wE E (some a) with
  | none => rfl
  | some E1 =>
    dsimp only
    have : wE E1 (some b) = none := by
      unfold wE at h1
      dsimp only at h1
      split at h1
      · cases h1
        unfold wE
        dsimp only
        rw [if_neg]
        intro z
        have := can_joi z (by omega) (by omega)
        rw [this] at hc; cases hc
      · cases h1
    rw [this]
/-- the marriages that a list of pairs names -/
def wdL (L : List Nat) (g : Nat → Int32) : Prop := ∀ i, i < L.length → g (2 * i) = nI (L.getD i 0 / 12) ∧ g (2 * i + 1) = nI (L.getD i 0 % 12)
