/-! rules as rows of digits -/
def rowG (r : Nat) : Nat → Nat → Nat → Bool
  | 0, _, _ => true
  | n + 1, i, s => decide (r / 2 ^ (3 * i) % 8 ≤ 5) && !s.testBit (r / 2 ^ (3 * i) % 8) && rowG r n (i + 1) (s ||| 2 ^ (r / 2 ^ (3 * i) % 8))
def rowOk (x : Int32) (n : Nat) : Bool := decide (¬ x < nI 0) && (decide (x.toNatClampNeg / 2 ^ (3 * n) = 0) && rowG x.toNatClampNeg n 0 0)
theorem lp_isRow (l : Launch) {r n : Nat} {σ : St} {K : Int32 → St → Prop} (hr : r < 2147483648) (hn : n ≤ 3) : ∀ (m i s : Nat), i + m = n → s < 256 → K (bI (rowG r m i s)) σ → ∀ v4 : Value, V l i_X5_isRow k_X5_isRow 14 [.int (nI r), .int (nI n), .int (nI s), .int (nI i), v4] [] σ K
  | 0, i, s, hi, hs, hK, v4 => by
    have hi : i = n := by omega
    subst hi
    refine V_run ok_X5_isRow 60 14 ?_
    simp (disch := omega) only [eng, c_X5_isRow, r_X5_isRow, tbl, true_and, Nat.reduceAdd, Nat.reduceLT, ↓reduceIte, n_eq, n_lt, n_le, n_cl, n_inT, nI_add, bI_eq0, bI_eq1, not_true_eq_false, not_false_eq_true, true_implies, false_implies, implies_true, and_true, Bool.not_eq_false, Bool.not_eq_true, Nat.reduceEqDiff, Nat.reduceLeDiff, Classical.not_not, List.length_cons, List.length_nil, Int.reduceAdd, z_cast, Nat.reducePow, false_or, Nat.reduceLT, Nat.sub_zero, Nat.le_refl]
    try simp only [iteP, Classical.not_not, Bool.not_eq_false, Bool.not_eq_true]
    exact hK
  | m + 1, i, s, hi, hs, hK, v4 => by
    have h1 : ¬ n ≤ i := by omega
    have e1 := n_shr (m := r) (j := 3 * i) hr (by omega)
    have h8 : r / 2 ^ (3 * i) % 8 < 8 := Nat.mod_lt _ (by decide)
    unfold rowG at hK
    refine V_run ok_X5_isRow 60 14 ?_
    simp (disch := omega) only [eng, c_X5_isRow, r_X5_isRow, tbl, true_and, Nat.reduceAdd, Nat.reduceLT, ↓reduceIte, n_eq, n_lt, n_le, n_cl, n_inT, nI_add, bI_eq0, bI_eq1, not_true_eq_false, not_false_eq_true, true_implies, false_implies, implies_true, and_true, Bool.not_eq_false, Bool.not_eq_true, Nat.reduceEqDiff, Nat.reduceLeDiff, Classical.not_not, List.length_cons, List.length_nil, Int.reduceAdd, z_cast, Nat.reducePow, false_or, Nat.reduceLT, Nat.sub_zero, Nat.le_refl, h1, pk_mul, e1, n_and7]
    try simp only [iteP, Classical.not_not, Bool.not_eq_false, Bool.not_eq_true]
    generalize r / 2 ^ (3 * i) % 8 = d at h8 hK ⊢
    refine ⟨fun h => ?_, fun h => x_has (by omega) (by omega) ?_⟩
    · rw [decide_eq_false (by omega)] at hK; exact hK
    · rw [decide_eq_true (by omega), Bool.true_and] at hK
      have e2 := n_shl1 d (by omega)
      simp (disch := omega) only [n_eq, n_lt, n_le, n_cl, n_inT, nI_add, bI_eq0, bI_eq1, not_true_eq_false, not_false_eq_true, true_implies, false_implies, implies_true, and_true, Bool.not_eq_false, Bool.not_eq_true, Nat.reduceEqDiff, Nat.reduceLeDiff, Classical.not_not, List.length_cons, List.length_nil, Int.reduceAdd, z_cast, Nat.reducePow, false_or, Nat.reduceLT, Nat.sub_zero, Nat.le_refl, true_and, ↓reduceIte, iteP, e2, fa_or]
      refine ⟨fun h2 => ?_, fun h2 => ?_⟩
      · rw [h2] at hK
        refine lp_isRow l hr hn m (i + 1) (s ||| 2 ^ d) (by omega) ?_ hK _
        exact Nat.or_lt_two_pow (n := 8) hs (Nat.pow_lt_pow_right (a := 2) (by decide) h8)
      · rw [h2] at hK; exact hK
theorem x_isRow {l : Launch} {x : Int32} {n : Nat} {σ : St} {K : Int32 → St → Prop} (h1 : 1 ≤ n) (hn : n ≤ 3) (hK : K (bI (rowOk x n)) σ) : CallAt l 106 [.int x, .int (nI n)] σ K := by
  unfold rowOk at hK
  by_cases hx : x < nI 0
  · refine CallAt.of (k := 106) (cd := k_X5_isRow) ok_X5_isRow (by decide) rfl rfl rfl ?_
    show V _ i_X5_isRow k_X5_isRow 0 [.int x, .int (nI n), .null, .null, .null] [] _ _
    refine V_run ok_X5_isRow 60 0 ?_
    simp (disch := omega) only [eng, c_X5_isRow, r_X5_isRow, tbl, true_and, Nat.reduceAdd, Nat.reduceLT, ↓reduceIte, n_eq, n_lt, n_le, n_cl, n_inT, nI_add, bI_eq0, bI_eq1, not_true_eq_false, not_false_eq_true, true_implies, false_implies, implies_true, and_true, Bool.not_eq_false, Bool.not_eq_true, Nat.reduceEqDiff, Nat.reduceLeDiff, Classical.not_not, List.length_cons, List.length_nil, Int.reduceAdd, z_cast, Nat.reducePow, false_or, Nat.reduceLT, Nat.sub_zero, Nat.le_refl, hx]
    try simp only [iteP, Classical.not_not, Bool.not_eq_false, Bool.not_eq_true]
    rw [decide_eq_false (by simpa using hx)] at hK; exact hK
  · rw [decide_eq_true hx, Bool.true_and] at hK
    obtain ⟨r, hr, rfl⟩ := nI_of hx
    rw [n_cl (by omega)] at hK
    have e1 := n_shr (m := r) (j := 3 * n) (by omega) (by omega)
    have h0 : ¬ r < 0 := by omega
    have hlt : r / 2 ^ (3 * n) < 2147483648 := Nat.lt_of_le_of_lt (Nat.div_le_self _ _) hr
    refine CallAt.of (k := 106) (cd := k_X5_isRow) ok_X5_isRow (by decide) rfl rfl rfl ?_
    show V _ i_X5_isRow k_X5_isRow 0 [.int (nI r), .int (nI n), .null, .null, .null] [] _ _
    refine V_run ok_X5_isRow 60 0 ?_
    simp (disch := omega) only [eng, c_X5_isRow, r_X5_isRow, tbl, true_and, Nat.reduceAdd, Nat.reduceLT, ↓reduceIte, n_eq, n_lt, n_le, n_cl, n_inT, nI_add, bI_eq0, bI_eq1, not_true_eq_false, not_false_eq_true, true_implies, false_implies, implies_true, and_true, Bool.not_eq_false, Bool.not_eq_true, Nat.reduceEqDiff, Nat.reduceLeDiff, Classical.not_not, List.length_cons, List.length_nil, Int.reduceAdd, z_cast, Nat.reducePow, false_or, Nat.reduceLT, Nat.sub_zero, Nat.le_refl, h0, pk_mul, e1]
    try simp only [iteP, Classical.not_not, Bool.not_eq_false, Bool.not_eq_true]
    refine ⟨fun h => ?_, fun h => ?_⟩
    case refine_2 => rw [decide_eq_false h] at hK; exact hK
    · rw [decide_eq_true h, Bool.true_and] at hK
      exact lp_isRow l hr hn n 0 0 (by omega) (by decide) hK _
section Rw
variable (tp : Nat → Nat) (ln : Nat)
/-- digits while they can stand: how many, the row, the place -/
def rwF : Nat → Nat → Nat → Nat → Nat × Nat × Nat
  | 0, i, r, p => (i, r, p)
  | f + 1, i, r, p => if 48 ≤ cN tp ln p ∧ cN tp ln p ≤ 53 ∧ rowG (r + (cN tp ln p - 48) * 8 ^ i) (i + 1) 0 0 = true then rwF f (i + 1) (r + (cN tp ln p - 48) * 8 ^ i) (nb tp ln (p + 1)) else (i, r, p)
def kd (c : Nat) : Nat := if c = 108 then 0 else if c = 100 then 1 else if c = 113 then 2 else if c = 106 then 3 else 4
/-- rules: whether they can stand, the place, what is told then, how many -/
def ruR : Nat → Nat → Es → Nat → Bool × Nat × Es × Nat
  | 0, _, E, p => (false, p, E, 0)
  | f + 1, s, E, p =>
    if kd (cN tp ln p) < 4 ∧ s.testBit (kd (cN tp ln p)) = false then
      (if cN tp ln (nb tp ln (p + 1)) = 58 then
        (if (rwF tp ln 3 0 0 (nb tp ln (nb tp ln (p + 1) + 1))).1 = 0 then (false, (rwF tp ln 3 0 0 (nb tp ln (nb tp ln (p + 1) + 1))).2.2, E, 0)
         else if cN tp ln (rwF tp ln 3 0 0 (nb tp ln (nb tp ln (p + 1) + 1))).2.2 = 0 then (true, (rwF tp ln 3 0 0 (nb tp ln (nb tp ln (p + 1) + 1))).2.2, setR E (kd (cN tp ln p)) (rwF tp ln 3 0 0 (nb tp ln (nb tp ln (p + 1) + 1))).2.1 (rwF tp ln 3 0 0 (nb tp ln (nb tp ln (p + 1) + 1))).1, 4 - f)
         else if f = 0 ∨ cN tp ln (rwF tp ln 3 0 0 (nb tp ln (nb tp ln (p + 1) + 1))).2.2 ≠ 59 then (false, (rwF tp ln 3 0 0 (nb tp ln (nb tp ln (p + 1) + 1))).2.2, setR E (kd (cN tp ln p)) (rwF tp ln 3 0 0 (nb tp ln (nb tp ln (p + 1) + 1))).2.1 (rwF tp ln 3 0 0 (nb tp ln (nb tp ln (p + 1) + 1))).1, 0)
         else ruR f (s ||| 2 ^ kd (cN tp ln p)) (setR E (kd (cN tp ln p)) (rwF tp ln 3 0 0 (nb tp ln (nb tp ln (p + 1) + 1))).2.1 (rwF tp ln 3 0 0 (nb tp ln (nb tp ln (p + 1) + 1))).1) (nb tp ln ((rwF tp ln 3 0 0 (nb tp ln (nb tp ln (p + 1) + 1))).2.2 + 1)))
       else (false, nb tp ln (p + 1), E, 0))
    else (false, p, E, 0)
end Rw
theorem kd_le (c : Nat) : kd c ≤ 4 := by unfold kd; repeat' split
                                         all_goals omega
theorem or_all : (List.range 3).all (fun i => (List.range 64).all (fun r => (List.range 6).all (fun d => decide (r < 8 ^ i → nI r ||| (nI d <<< (nI (3 * i) &&& 31)) = nI (r + d * 8 ^ i))))) = true := by decide +kernel
theorem or_dig {i r d : Nat} (hi : i < 3) (hr : r < 8 ^ i) (hd : d < 6) : nI r ||| (nI d <<< (nI (3 * i) &&& 31)) = nI (r + d * 8 ^ i) := by
  have hr64 : r < 64 := by
    rcases (show i = 0 ∨ i = 1 ∨ i = 2 by omega) with rfl | rfl | rfl
    · have : (8 : Nat) ^ 0 = 1 := rfl
      omega
    · have : (8 : Nat) ^ 1 = 8 := rfl
      omega
    · have : (8 : Nat) ^ 2 = 64 := rfl
      omega
  have h1 := List.all_eq_true.mp or_all i (List.mem_range.mpr hi)
  have h2 := List.all_eq_true.mp h1 r (List.mem_range.mpr hr64)
  have h3 := List.all_eq_true.mp h2 d (List.mem_range.mpr hd)
  exact of_decide_eq_true h3 hr
theorem pow8 {i : Nat} (hi : i < 3) : (8 : Nat) ^ i ≤ 64 ∧ 8 ^ (i + 1) = 8 * 8 ^ i := by
  rcases (show i = 0 ∨ i = 1 ∨ i = 2 by omega) with rfl | rfl | rfl <;> exact ⟨by decide, by decide⟩
theorem row_lt {i r : Nat} (hi : i < 3) (hr : r < 8 ^ i) {d : Nat} (hd : d < 6) : r + d * 8 ^ i < 8 ^ (i + 1) := by
  rw [(pow8 hi).2]
  rcases (show d = 0 ∨ d = 1 ∨ d = 2 ∨ d = 3 ∨ d = 4 ∨ d = 5 by omega) with rfl | rfl | rfl | rfl | rfl | rfl <;> omega
theorem rowOk_n {r n : Nat} (hn : n ≤ 3) (h1 : 1 ≤ n) (hr : r < 8 ^ n) : rowOk (nI r) n = rowG r n 0 0 := by
  have h5 : r < 512 := by
    rcases (show n = 1 ∨ n = 2 ∨ n = 3 by omega) with rfl | rfl | rfl
    · have : (8 : Nat) ^ 1 = 8 := rfl
      omega
    · have : (8 : Nat) ^ 2 = 64 := rfl
      omega
    · have : (8 : Nat) ^ 3 = 512 := rfl
      omega
  unfold rowOk
  have e0 : decide (¬ nI r < nI 0) = true := decide_eq_true (by rw [n_lt (by omega) (by decide)]; omega)
  rw [e0, n_cl (by omega)]
  have e : (2 : Nat) ^ (3 * n) = 8 ^ n := by rw [show (8 : Nat) = 2 ^ 3 by decide, ← Nat.pow_mul]
  rw [e, Nat.div_eq_of_lt hr]
  simp
theorem lp_row (l : Launch) {tp : Nat → Nat} {ln k : Nat} {E : Es} {σ0 : St} {K : Int32 → St → Prop} (hw : TpW tp ln) (hk : k < 4) : ∀ (f i r p : Nat) (σ : St), i + f = 3 → r < 8 ^ i → RdS tp ln E p σ → FrR σ0 σ → p ≤ ln →
    (∀ σ', (rwF tp ln f i r p).2.2 ≤ ln → (rwF tp ln f i r p).2.1 < 8 ^ (rwF tp ln f i r p).1 → (rwF tp ln f i r p).1 ≤ 3 → FrR σ0 σ' → ((rwF tp ln f i r p).1 = 0 → RdS tp ln E (rwF tp ln f i r p).2.2 σ') → ((rwF tp ln f i r p).1 ≠ 0 → RdS tp ln (setR E k (rwF tp ln f i r p).2.1 (rwF tp ln f i r p).1) (rwF tp ln f i r p).2.2 σ') → K (bI (decide ((rwF tp ln f i r p).1 ≠ 0))) σ') →
    ∀ v6 : Value, V l i_X4_readRow k_X4_readRow 6 [.ref 400, .ref 300, .int (nI k), .int (nI r), .int (nI i), .int (nI i), v6] [] σ K := by
  have stop : ∀ (i r p : Nat) (σ : St), i ≤ 3 → r < 8 ^ i → RdS tp ln E p σ → FrR σ0 σ → p ≤ ln →
      (∀ σ', p ≤ ln → r < 8 ^ i → i ≤ 3 → FrR σ0 σ' → (i = 0 → RdS tp ln E p σ') → (i ≠ 0 → RdS tp ln (setR E k r i) p σ') → K (bI (decide (i ≠ 0))) σ') → (i = 0 → K (nI 0) σ) ∧ (i ≠ 0 → CallAt l 10 [.ref 300, .int (nI k), .int (nI r), .int (nI i)] σ (fun _ σ' => K (nI 1) σ')) := by
    intro i r p σ hi hr hS hFr hp hK
    refine ⟨fun h0 => ?_, fun h0 => ?_⟩
    · have := hK σ hp hr hi hFr (fun _ => hS) (fun z => absurd h0 z)
      rw [h0] at this
      exact this
    · refine x_setRule (Or.inr (Or.inr (Or.inl rfl))) hS.1 hk (by omega) hi hr (fun σ' hE' hf' => ?_)
      have := hK σ' hp hr hi (hFr.trans (FrR.ofE hf')) (fun z => absurd z h0) (fun _ => hS.es hf' hE')
      rw [decide_eq_true h0] at this
      exact this
  intro f
  induction f with
  | zero =>
    intro i r p σ hi hr hS hFr hp hK v6
    have hi : i = 3 := by omega
    subst hi
    have := (stop 3 r p σ (by omega) hr hS hFr hp hK).2 (by decide)
    refine V_run ok_X4_readRow 60 6 ?_
    simp (disch := omega) only [eng, c_X4_readRow, r_X4_readRow, tbl, true_and, Nat.reduceAdd, Nat.reduceLT, ↓reduceIte, n_eq, n_lt, n_le, n_cl, n_inT, nI_add, bI_eq0, bI_eq1, not_true_eq_false, not_false_eq_true, true_implies, false_implies, implies_true, and_true, Bool.not_eq_false, Bool.not_eq_true, Nat.reduceEqDiff, Nat.reduceLeDiff, Classical.not_not, List.length_cons, List.length_nil, Int.reduceAdd, z_cast, Nat.reducePow, false_or, Nat.reduceLT, Nat.sub_zero, Nat.le_refl]
    try simp only [iteP, Classical.not_not, Bool.not_eq_false, Bool.not_eq_true]
    exact this
  | succ f ih =>
    intro i r p σ hi hr hS hFr hp hK v6
    have h3 : ¬ 3 ≤ i := by omega
    have hc := cN_lt hw p
    have t48 : (nI (cN tp ln p) - nI 48).toInt = (cN tp ln p : Int) - 48 := pk_sub_toInt (by omega) (by decide)
    unfold rwF at hK
    have brk : ¬ (48 ≤ cN tp ln p ∧ cN tp ln p ≤ 53 ∧ rowG (r + (cN tp ln p - 48) * 8 ^ i) (i + 1) 0 0 = true) → (i = 0 → K (nI 0) σ) ∧ (¬ i = 0 → CallAt l 10 [.ref 300, .int (nI k), .int (nI r), .int (nI i)] σ (fun _ σ' => K (nI 1) σ')) := by
      intro z
      rw [if_neg z] at hK
      exact stop i r p σ (by omega) hr hS hFr hp hK
    refine V_run ok_X4_readRow 60 6 ?_
    simp (disch := omega) only [eng, c_X4_readRow, r_X4_readRow, tbl, true_and, Nat.reduceAdd, Nat.reduceLT, ↓reduceIte, n_eq, n_lt, n_le, n_cl, n_inT, nI_add, bI_eq0, bI_eq1, not_true_eq_false, not_false_eq_true, true_implies, false_implies, implies_true, and_true, Bool.not_eq_false, Bool.not_eq_true, Nat.reduceEqDiff, Nat.reduceLeDiff, Classical.not_not, List.length_cons, List.length_nil, Int.reduceAdd, z_cast, Nat.reducePow, false_or, Nat.reduceLT, Nat.sub_zero, Nat.le_refl, h3, pk_mul]
    try simp only [iteP, Classical.not_not, Bool.not_eq_false, Bool.not_eq_true]
    refine x_next hw hS.2.1 hS.2.2 hp ?_
    generalize hcc : cN tp ln p = c at hc t48 brk hK ⊢
    refine ⟨fun z => ?_, fun z => ⟨fun z2 => ?_, fun z2 => ?_⟩⟩
    · have := brk (by rw [i_lt, t48, nI_nn 0 (by decide)] at z; omega)
      exact ⟨fun y => this.2 y, fun y => this.1 y⟩
    · have := brk (by rw [i_lt, t48, nI_nn 5 (by decide)] at z2; omega)
      exact ⟨fun y => this.2 y, fun y => this.1 y⟩
    · have hge : 48 ≤ c := by rw [i_lt, t48, nI_nn 0 (by decide)] at z; omega
      have hle : c ≤ 53 := by rw [i_lt, t48, nI_nn 5 (by decide)] at z2; omega
      have e1 : nI c - nI 48 = nI (c - 48) := pk_sub hge
      have e2 := or_dig (i := i) (r := r) (d := c - 48) (by omega) hr (by omega)
      have hlt := row_lt (i := i) (r := r) (by omega) hr (d := c - 48) (by omega)
      rw [e1, e2]
      refine x_isRow (by omega) (by omega) ?_
      rw [rowOk_n (by omega) (by omega) hlt]
      simp (disch := omega) only [n_eq, n_lt, n_le, n_cl, n_inT, nI_add, bI_eq0, bI_eq1, not_true_eq_false, not_false_eq_true, true_implies, false_implies, implies_true, and_true, Bool.not_eq_false, Bool.not_eq_true, Nat.reduceEqDiff, Nat.reduceLeDiff, Classical.not_not, List.length_cons, List.length_nil, Int.reduceAdd, z_cast, Nat.reducePow, false_or, Nat.reduceLT, Nat.sub_zero, Nat.le_refl, true_and, ↓reduceIte, iteP, e1, e2]
      refine ⟨fun y => ?_, fun y => ?_⟩
      · have hpos : 48 ≤ c ∧ c ≤ 53 ∧ rowG (r + (c - 48) * 8 ^ i) (i + 1) 0 0 = true := ⟨hge, hle, y⟩
        rw [if_pos hpos] at hK
        have hpl : p < ln := cN_pos (c := c) (by omega) hcc
        refine x_step hw hS.2.1 hS.2.2 hpl ?_
        exact ih (i + 1) _ _ _ (by omega) hlt hS.pl (hFr.trans FrR.pl) (nb_le (by omega)).2 hK _
      · have := brk (fun q => by rw [q.2.2] at y; cases y)
        exact ⟨fun y => this.2 y, fun y => this.1 y⟩
