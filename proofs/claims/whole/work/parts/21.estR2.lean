theorem lp_ofSex (l : Launch) {b m w : Nat} {E : Es} {σ : St} {K : Int32 → St → Prop} (hb : Eb b) (hW : Wf E) (hE : XE b E σ) (hm : m < 2147483648) (hw : w ≤ 1) (hK : K (nI (bits (fun q => m.testBit q && E 0 q == w) (E 12 0))) σ) : ∀ (n q : Nat), q + n = E 12 0 → V l i_X0_ofSex k_X0_ofSex 4 [.ref b, .int (nI m), .int (nI w), .int (nI (bits (fun q => m.testBit q && E 0 q == w) q)), .int (nI q)] [] σ K
  | 0, q, hq => by
    have hq : q = E 12 0 := by omega
    subst hq
    have hn12 := hW.1
    refine V_run ok_X0_ofSex 50 4 ?_
    simp (disch := omega) only [eng, c_X0_ofSex, r_X0_ofSex, tbl, true_and, Nat.reduceAdd, Nat.reduceLT, ↓reduceIte, n_eq, n_lt, n_le, n_cl, n_inT, nI_add, bI_eq0, bI_eq1, not_true_eq_false, not_false_eq_true, true_implies, false_implies, implies_true, and_true, Bool.not_eq_false, Bool.not_eq_true, Nat.reduceEqDiff, Nat.reduceLeDiff, Classical.not_not, List.length_cons, List.length_nil, Int.reduceAdd, z_cast, Nat.reducePow, false_or, Nat.reduceLT, Nat.sub_zero, Nat.le_refl, ebT hb, hE.1, Nat.le_refl]
    try simp only [iteP, Classical.not_not, Bool.not_eq_false, Bool.not_eq_true]
    exact hK
  | n + 1, q, hq => by
    have hq1 : q < E 12 0 := by omega
    have hn12 := hW.1
    have h12 := p12 hW hq1
    have hp := hE.2.2.2.2.1 q hq1
    have hs := (hW.2.2.2.1 q hq1).1
    have ih := lp_ofSex l hb hW hE hm hw hK n (q + 1) (by omega)
    refine V_run ok_X0_ofSex 50 4 ?_
    simp (disch := omega) only [eng, c_X0_ofSex, r_X0_ofSex, tbl, true_and, Nat.reduceAdd, Nat.reduceLT, ↓reduceIte, n_eq, n_lt, n_le, n_cl, n_inT, nI_add, bI_eq0, bI_eq1, not_true_eq_false, not_false_eq_true, true_implies, false_implies, implies_true, and_true, Bool.not_eq_false, Bool.not_eq_true, Nat.reduceEqDiff, Nat.reduceLeDiff, Classical.not_not, List.length_cons, List.length_nil, Int.reduceAdd, z_cast, Nat.reducePow, false_or, Nat.reduceLT, Nat.sub_zero, Nat.le_refl, ebT hb, hE.1, hp, Nat.not_le.mpr hq1]
    try simp only [iteP, Classical.not_not, Bool.not_eq_false, Bool.not_eq_true]
    refine x_has (j := q) hm (by omega) ?_
    simp (disch := omega) only [n_eq, n_lt, n_le, n_cl, n_inT, nI_add, bI_eq0, bI_eq1, not_true_eq_false, not_false_eq_true, true_implies, false_implies, implies_true, and_true, Bool.not_eq_false, Bool.not_eq_true, Nat.reduceEqDiff, Nat.reduceLeDiff, Classical.not_not, List.length_cons, List.length_nil, Int.reduceAdd, z_cast, Nat.reducePow, false_or, Nat.reduceLT, Nat.sub_zero, Nat.le_refl, true_and, ↓reduceIte, iteP, hp]
    refine ⟨fun h => ?_, fun h => ⟨fun h2 => ?_, fun h2 => ?_⟩⟩
    · rw [bits_s0 (by simp [h])] at ih; exact ih
    · rw [bits_s0 (by simp [h2])] at ih; exact ih
    · rw [acc_t (by simp [h, h2]) h12]; exact ih
theorem x_ofSex {l : Launch} {b m w : Nat} {E : Es} {σ : St} {K : Int32 → St → Prop} (hb : Eb b) (hW : Wf E) (hE : XE b E σ) (hm : m < 2147483648) (hw : w ≤ 1) (hK : K (nI (bits (fun q => m.testBit q && E 0 q == w) (E 12 0))) σ) : CallAt l 17 [.ref b, .int (nI m), .int (nI w)] σ K := by
  refine CallAt.of (k := 17) (cd := k_X0_ofSex) ok_X0_ofSex (by decide) rfl rfl rfl ?_
  show V _ i_X0_ofSex k_X0_ofSex 0 [.ref b, .int (nI m), .int (nI w), .null, .null] [] _ _
  refine V_run ok_X0_ofSex 50 0 ?_
  simp (disch := omega) only [eng, c_X0_ofSex, r_X0_ofSex, tbl, true_and, Nat.reduceAdd, Nat.reduceLT, ↓reduceIte, n_eq, n_lt, n_le, n_cl, n_inT, nI_add, bI_eq0, bI_eq1, not_true_eq_false, not_false_eq_true, true_implies, false_implies, implies_true, and_true, Bool.not_eq_false, Bool.not_eq_true, Nat.reduceEqDiff, Nat.reduceLeDiff, Classical.not_not, List.length_cons, List.length_nil, Int.reduceAdd, z_cast, Nat.reducePow, false_or, Nat.reduceLT, Nat.sub_zero, Nat.le_refl]
  try simp only [iteP, Classical.not_not, Bool.not_eq_false, Bool.not_eq_true]
  exact lp_ofSex l hb hW hE hm hw hK (E 12 0) 0 (by omega)
theorem lp_member (l : Launch) {b m r : Nat} {i0 : Int32} {σ : St} {K : Int32 → St → Prop} (hm : m < 2147483648) : ∀ (n i : Nat), n ≤ 12 → i < 2147483648 → nthF m n i = r → K (nI r) σ → V l i_X0_member k_X0_member 4 [.ref b, .int (nI m), .int i0, .int (nI i), .int (nI (12 - n))] [] σ K
  | 0, i, hn, hi, hr, hK => by
    simp only [nthF] at hr
    subst hr
    refine V_run ok_X0_member 50 4 ?_
    simp (disch := omega) only [eng, c_X0_member, r_X0_member, tbl, true_and, Nat.reduceAdd, Nat.reduceLT, ↓reduceIte, n_eq, n_lt, n_le, n_cl, n_inT, nI_add, bI_eq0, bI_eq1, not_true_eq_false, not_false_eq_true, true_implies, false_implies, implies_true, and_true, Bool.not_eq_false, Bool.not_eq_true, Nat.reduceEqDiff, Nat.reduceLeDiff, Classical.not_not, List.length_cons, List.length_nil, Int.reduceAdd, z_cast, Nat.reducePow, false_or, Nat.reduceLT, Nat.sub_zero, Nat.le_refl]
    try simp only [iteP, Classical.not_not, Bool.not_eq_false, Bool.not_eq_true]
    exact hK
  | n + 1, i, hn, hi, hr, hK => by
    have e : 12 - (n + 1) = 11 - n := by omega
    rw [e]
    have h1 : ¬ 12 ≤ 11 - n := by omega
    refine V_run ok_X0_member 50 4 ?_
    simp (disch := omega) only [eng, c_X0_member, r_X0_member, tbl, true_and, Nat.reduceAdd, Nat.reduceLT, ↓reduceIte, n_eq, n_lt, n_le, n_cl, n_inT, nI_add, bI_eq0, bI_eq1, not_true_eq_false, not_false_eq_true, true_implies, false_implies, implies_true, and_true, Bool.not_eq_false, Bool.not_eq_true, Nat.reduceEqDiff, Nat.reduceLeDiff, Classical.not_not, List.length_cons, List.length_nil, Int.reduceAdd, z_cast, Nat.reducePow, false_or, Nat.reduceLT, Nat.sub_zero, Nat.le_refl, h1]
    try simp only [iteP, Classical.not_not, Bool.not_eq_false, Bool.not_eq_true]
    refine x_has (j := 11 - n) hm (by omega) ?_
    have e2 : 11 - n + 1 = 12 - n := by omega
    simp (disch := omega) only [n_eq, n_lt, n_le, n_cl, n_inT, nI_add, bI_eq0, bI_eq1, not_true_eq_false, not_false_eq_true, true_implies, false_implies, implies_true, and_true, Bool.not_eq_false, Bool.not_eq_true, Nat.reduceEqDiff, Nat.reduceLeDiff, Classical.not_not, List.length_cons, List.length_nil, Int.reduceAdd, z_cast, Nat.reducePow, false_or, Nat.reduceLT, Nat.sub_zero, Nat.le_refl, true_and, ↓reduceIte, iteP, e2]
    unfold nthF at hr
    refine ⟨fun h => ?_, fun h => ⟨fun h2 => ?_, fun h2 => ?_⟩⟩
    · simp only [h, Bool.false_eq_true, if_false] at hr
      exact lp_member l hm n i (by omega) hi hr hK
    · simp only [h, if_true, if_neg h2] at hr
      obtain ⟨j, rfl⟩ : ∃ j, i = j + 1 := ⟨i - 1, by omega⟩
      rw [pk_m1]
      exact lp_member l hm n j (by omega) (by omega) hr hK
    · simp only [h, if_true, h2] at hr
      subst hr
      exact hK
theorem x_member {l : Launch} {b m i : Nat} {σ : St} {K : Int32 → St → Prop} (hm : m < 2147483648) (hi : i < 2147483648) (hK : K (nI (nthF m 12 i)) σ) : CallAt l 20 [.ref b, .int (nI m), .int (nI i)] σ K := by
  refine CallAt.of (k := 20) (cd := k_X0_member) ok_X0_member (by decide) rfl rfl rfl ?_
  show V _ i_X0_member k_X0_member 0 [.ref b, .int (nI m), .int (nI i), .null, .null] [] _ _
  refine V_run ok_X0_member 50 0 ?_
  simp (disch := omega) only [eng, c_X0_member, r_X0_member, tbl, true_and, Nat.reduceAdd, Nat.reduceLT, ↓reduceIte, n_eq, n_lt, n_le, n_cl, n_inT, nI_add, bI_eq0, bI_eq1, not_true_eq_false, not_false_eq_true, true_implies, false_implies, implies_true, and_true, Bool.not_eq_false, Bool.not_eq_true, Nat.reduceEqDiff, Nat.reduceLeDiff, Classical.not_not, List.length_cons, List.length_nil, Int.reduceAdd, z_cast, Nat.reducePow, false_or, Nat.reduceLT, Nat.sub_zero, Nat.le_refl]
  try simp only [iteP, Classical.not_not, Bool.not_eq_false, Bool.not_eq_true]
  exact lp_member l hm 12 i (by omega) hi rfl hK
/-! kin, as the class gathers them -/
theorem tb_2 (p j : Nat) : (2 ^ p).testBit j = decide (p = j) := Nat.testBit_two_pow
theorem chi_self {E : Es} (hW : Wf E) {p : Nat} (hp : p < E 12 0) : chi E p p = false := by
  have h := hW.2.2.2.1 p hp
  have h12 := p12 hW hp
  simp only [chi, Bool.or_eq_false_iff, beq_eq_false_iff_ne]
  refine ⟨?_, ?_⟩
  · rcases h.2.2.1 with q | q <;> omega
  · rcases h.2.2.2.1 with q | q <;> omega
theorem bits_and {f g : Nat → Bool} {n : Nat} : bits f n &&& bits g n = bits (fun q => f q && g q) n := by
  apply Nat.eq_of_testBit_eq
  intro j
  rw [Nat.testBit_and, bits_tb, bits_tb, bits_tb]
  cases decide (j < n) <;> simp
theorem kin_child {E : Es} (hW : Wf E) {p w : Nat} (hp : p < E 12 0) (hw : w ≤ 1) : bits (fun q => (bits (fun q => (2 ^ p).testBit (E 1 q) || (2 ^ p).testBit (E 2 q)) (E 12 0)).testBit q && E 0 q == w) (E 12 0) &&& lvm E = kin E p w := by
  unfold lvm kin
  rw [bits_and]
  apply bits_ext
  intro j
  by_cases hj : j < E 12 0
  · have e : rel E p j w = (E 0 j == w && chi E j p) := by
      rcases (show w = 0 ∨ w = 1 by omega) with rfl | rfl <;> rfl
    simp only [hj, decide_true, Bool.true_and, bits_tb, tb_2, e]
    by_cases hjp : j = p
    · subst hjp
      have := chi_self hW hp
      simp only [chi, Bool.or_eq_false_iff, beq_eq_false_iff_ne, ne_eq] at this
      simp [Ne.symm this.1, Ne.symm this.2]
    · have e2 : (p = E 1 j) = (E 1 j = p) := propext eq_comm
      have e3 : (p = E 2 j) = (E 2 j = p) := propext eq_comm
      simp only [chi, e2, e3, bne_iff_ne, ne_eq, hjp, not_false_eq_true]
      cases h1 : decide (E 1 j = p) <;> cases h2 : decide (E 2 j = p) <;> simp_all <;> cases E 5 j == 1 <;> simp [hjp]
  · simp [hj]
theorem kin_sib {E : Es} {p : Nat} (hp : p < E 12 0) : sibM E p &&& lvm E = kin E p 2 := by
  unfold sibM lvm kin
  rw [if_pos hp, bits_and]
  apply bits_ext
  intro j
  congr 1
  simp only [rel]
  by_cases hjp : j = p
  · subst hjp; simp [sib]
  · cases E 5 j == 1 <;> simp [hjp]
theorem kin_one {E : Es} {p x r : Nat} (hx : x = 12 ∨ x ≠ p) (hn : E 12 0 ≤ 12) (hr : ∀ q, rel E p q r = (x == q)) : 2 ^ x &&& lvm E = kin E p r := by
  apply Nat.eq_of_testBit_eq
  intro j
  rw [Nat.testBit_and, tb_2, lvm_tb]
  unfold kin
  rw [bits_tb, hr]
  by_cases hj : j < E 12 0
  · by_cases hjx : x = j
    · subst hjx
      have : x ≠ p := by rcases hx with q | q; omega; exact q
      simp [hj, this]
    · simp [hjx]
  · simp [hj]
theorem sib_symm (E : Es) (a c : Nat) : sib E a c = sib E c a := by
  rw [sib_dec, sib_dec]
  congr 1
  apply propext
  constructor
  · rintro ⟨h1, h2⟩
    exact ⟨fun z => h1 z.symm, h2.imp (fun z => ⟨by rw [z.2]; exact z.1, z.2.symm⟩) (fun z => ⟨by rw [z.2]; exact z.1, z.2.symm⟩)⟩
  · rintro ⟨h1, h2⟩
    exact ⟨fun z => h1 z.symm, h2.imp (fun z => ⟨by rw [z.2]; exact z.1, z.2.symm⟩) (fun z => ⟨by rw [z.2]; exact z.1, z.2.symm⟩)⟩
theorem sibM_tb {E : Es} (hW : Wf E) {x y : Nat} (hx : x = 12 ∨ x < E 12 0) (hy : y = 12 ∨ y < E 12 0) : (sibM E x).testBit y = (x != 12 && (y != 12 && sib E y x)) := by
  have hn := hW.1
  unfold sibM
  by_cases h : x < E 12 0
  · rw [if_pos h, bits_tb, sib_symm E x y]
    have e1 : (x != 12) = true := by simp; omega
    by_cases h2 : y < E 12 0
    · have e2 : (y != 12) = true := by simp; omega
      rw [e1, e2, decide_eq_true h2]; simp
    · have e2 : (y != 12) = false := by simp; omega
      rw [e1, e2, decide_eq_false h2]; simp
  · rw [if_neg h]
    have e1 : (x != 12) = false := by simp; omega
    rw [e1]; simp
theorem sibM_lt {E : Es} (hW : Wf E) (p : Nat) : sibM E p < 4096 := by
  unfold sibM
  split
  · exact bits12 hW.1
  · decide
theorem kin_cou {E : Es} (hW : Wf E) {p : Nat} (hp : p < E 12 0) : bits (fun q => (sibM E (E 1 p) ||| sibM E (E 2 p)).testBit (E 1 q) || (sibM E (E 1 p) ||| sibM E (E 2 p)).testBit (E 2 q)) (E 12 0) &&& (sibM E p ^^^ 4294967295) &&& (2 ^ p ^^^ 4294967295) &&& lvm E = kin E p 3 := by
  have hn := hW.1
  apply Nat.eq_of_testBit_eq
  intro j
  rw [Nat.testBit_and, Nat.testBit_and, Nat.testBit_and, tb_not, tb_not, tb_2, lvm_tb]
  unfold kin
  rw [bits_tb, bits_tb]
  by_cases hj : j < E 12 0
  · have h32 : j < 32 := by omega
    have w1 := hW.2.2.2.1 p hp
    have w2 := hW.2.2.2.1 j hj
    have a1 : E 1 p = 12 ∨ E 1 p < E 12 0 := by rcases w1.2.2.1 with q | q; exact Or.inl q; right; omega
    have a2 : E 2 p = 12 ∨ E 2 p < E 12 0 := by rcases w1.2.2.2.1 with q | q; exact Or.inl q; right; omega
    have a3 : E 1 j = 12 ∨ E 1 j < E 12 0 := by rcases w2.2.2.1 with q | q; exact Or.inl q; right; omega
    have a4 : E 2 j = 12 ∨ E 2 j < E 12 0 := by rcases w2.2.2.2.1 with q | q; exact Or.inl q; right; omega
    rw [Nat.testBit_or, Nat.testBit_or, sibM_tb hW a1 a3, sibM_tb hW a1 a4, sibM_tb hW a2 a3, sibM_tb hW a2 a4]
    have a5 : (sibM E p).testBit j = sib E p j := by unfold sibM; rw [if_pos hp, bits_tb]; simp [hj]
    rw [a5]
    simp only [rel, cou, psb, hj, h32, decide_true, Bool.true_and]
    by_cases hjp : p = j
    · subst hjp; simp
    · have e1 : (j != p) = true := by simp; omega
      have e2 : (p != j) = true := by simp; omega
      have e3 : decide (p = j) = false := by simp [hjp]
      rw [e1, e2, e3]
      cases sib E p j <;> cases (E 5 j == 1) <;> cases (E 1 p != 12) <;> cases (E 2 p != 12) <;> cases (E 1 j != 12) <;> cases (E 2 j != 12) <;> simp
  · simp [hj]
theorem x_related {l : Launch} {b p r : Nat} {E : Es} {σ : St} {K : Int32 → St → Prop} (hb : Eb b) (hW : Wf E) (hE : XE b E σ) (hp : p < E 12 0) (hr : r ≤ 5) (hK : K (nI (kin E p r)) σ) : CallAt l 18 [.ref b, .int (nI p), .int (nI r)] σ K := by
  have hn12 := hW.1
  have h12 := p12 hW hp
  have fp := hE.2.2.2.2.1 p hp
  have f1 := fa12 hW hp
  have f2 := mo12 hW hp
  have f3 := sp12 hW hp
  have f4 := go12 hW hp
  have hl := hE.2.1
  have w := hW.2.2.2.1 p hp
  have hc : ∀ (f : Nat → Bool) (n : Nat), n ≤ 12 → bits f n < 2147483648 := fun f n h => by have := bits12 (f := f) h; omega
  have hs := n_shl1 p (by omega)
  have hp31 : 2 ^ p < 2147483648 := Nat.pow_lt_pow_right (a := 2) (by decide) (show p < 31 by omega)
  rcases (show r = 0 ∨ r = 1 ∨ r = 2 ∨ r = 3 ∨ r = 4 ∨ r = 5 by omega) with rfl | rfl | rfl | rfl | rfl | rfl
  · refine CallAt.of (k := 18) (cd := k_X0_related) ok_X0_related (by decide) rfl rfl rfl ?_
    show V _ i_X0_related k_X0_related 0 [.ref b, .int (nI p), .int (nI 0), .null] [] _ _
    refine V_run ok_X0_related 60 0 ?_
    simp (disch := omega) only [eng, c_X0_related, r_X0_related, tbl, true_and, Nat.reduceAdd, Nat.reduceLT, ↓reduceIte, n_eq, n_lt, n_le, n_cl, n_inT, nI_add, bI_eq0, bI_eq1, not_true_eq_false, not_false_eq_true, true_implies, false_implies, implies_true, and_true, Bool.not_eq_false, Bool.not_eq_true, Nat.reduceEqDiff, Nat.reduceLeDiff, Classical.not_not, List.length_cons, List.length_nil, Int.reduceAdd, z_cast, Nat.reducePow, false_or, Nat.reduceLT, Nat.sub_zero, Nat.le_refl, ebT hb, fp, hs]
    try simp only [iteP, Classical.not_not, Bool.not_eq_false, Bool.not_eq_true]
    refine x_children (m := 2 ^ p) hb hW hE hp31 ?_
    refine x_ofSex hb hW hE (hc _ _ hn12) (by decide) ?_
    rw [hl, fa_and, kin_child hW hp (by decide)]; exact hK
  · refine CallAt.of (k := 18) (cd := k_X0_related) ok_X0_related (by decide) rfl rfl rfl ?_
    show V _ i_X0_related k_X0_related 0 [.ref b, .int (nI p), .int (nI 1), .null] [] _ _
    refine V_run ok_X0_related 60 0 ?_
    simp (disch := omega) only [eng, c_X0_related, r_X0_related, tbl, true_and, Nat.reduceAdd, Nat.reduceLT, ↓reduceIte, n_eq, n_lt, n_le, n_cl, n_inT, nI_add, bI_eq0, bI_eq1, not_true_eq_false, not_false_eq_true, true_implies, false_implies, implies_true, and_true, Bool.not_eq_false, Bool.not_eq_true, Nat.reduceEqDiff, Nat.reduceLeDiff, Classical.not_not, List.length_cons, List.length_nil, Int.reduceAdd, z_cast, Nat.reducePow, false_or, Nat.reduceLT, Nat.sub_zero, Nat.le_refl, ebT hb, fp, hs]
    try simp only [iteP, Classical.not_not, Bool.not_eq_false, Bool.not_eq_true]
    refine x_children (m := 2 ^ p) hb hW hE hp31 ?_
    refine x_ofSex hb hW hE (hc _ _ hn12) (by decide) ?_
    rw [hl, fa_and, kin_child hW hp (by decide)]; exact hK
  · refine CallAt.of (k := 18) (cd := k_X0_related) ok_X0_related (by decide) rfl rfl rfl ?_
    show V _ i_X0_related k_X0_related 0 [.ref b, .int (nI p), .int (nI 2), .null] [] _ _
    refine V_run ok_X0_related 60 0 ?_
    simp (disch := omega) only [eng, c_X0_related, r_X0_related, tbl, true_and, Nat.reduceAdd, Nat.reduceLT, ↓reduceIte, n_eq, n_lt, n_le, n_cl, n_inT, nI_add, bI_eq0, bI_eq1, not_true_eq_false, not_false_eq_true, true_implies, false_implies, implies_true, and_true, Bool.not_eq_false, Bool.not_eq_true, Nat.reduceEqDiff, Nat.reduceLeDiff, Classical.not_not, List.length_cons, List.length_nil, Int.reduceAdd, z_cast, Nat.reducePow, false_or, Nat.reduceLT, Nat.sub_zero, Nat.le_refl, ebT hb, fp, hs]
    try simp only [iteP, Classical.not_not, Bool.not_eq_false, Bool.not_eq_true]
    refine x_siblings (p := p) hb hW hE (by omega) ?_
    rw [hl, fa_and, kin_sib hp]; exact hK
  · refine CallAt.of (k := 18) (cd := k_X0_related) ok_X0_related (by decide) rfl rfl rfl ?_
    show V _ i_X0_related k_X0_related 0 [.ref b, .int (nI p), .int (nI 3), .null] [] _ _
    refine V_run ok_X0_related 60 0 ?_
    simp (disch := omega) only [eng, c_X0_related, r_X0_related, tbl, true_and, Nat.reduceAdd, Nat.reduceLT, ↓reduceIte, n_eq, n_lt, n_le, n_cl, n_inT, nI_add, bI_eq0, bI_eq1, not_true_eq_false, not_false_eq_true, true_implies, false_implies, implies_true, and_true, Bool.not_eq_false, Bool.not_eq_true, Nat.reduceEqDiff, Nat.reduceLeDiff, Classical.not_not, List.length_cons, List.length_nil, Int.reduceAdd, z_cast, Nat.reducePow, false_or, Nat.reduceLT, Nat.sub_zero, Nat.le_refl, ebT hb, fp, hs]
    try simp only [iteP, Classical.not_not, Bool.not_eq_false, Bool.not_eq_true]
    refine x_siblings hb hW hE f1 ?_
    simp (disch := omega) only [n_eq, n_lt, n_le, n_cl, n_inT, nI_add, bI_eq0, bI_eq1, not_true_eq_false, not_false_eq_true, true_implies, false_implies, implies_true, and_true, Bool.not_eq_false, Bool.not_eq_true, Nat.reduceEqDiff, Nat.reduceLeDiff, Classical.not_not, List.length_cons, List.length_nil, Int.reduceAdd, z_cast, Nat.reducePow, false_or, Nat.reduceLT, Nat.sub_zero, Nat.le_refl, true_and, ↓reduceIte, iteP, fp, ebT hb]
    refine x_siblings hb hW hE f2 ?_
    simp (disch := omega) only [n_eq, n_lt, n_le, n_cl, n_inT, nI_add, bI_eq0, bI_eq1, not_true_eq_false, not_false_eq_true, true_implies, false_implies, implies_true, and_true, Bool.not_eq_false, Bool.not_eq_true, Nat.reduceEqDiff, Nat.reduceLeDiff, Classical.not_not, List.length_cons, List.length_nil, Int.reduceAdd, z_cast, Nat.reducePow, false_or, Nat.reduceLT, Nat.sub_zero, Nat.le_refl, true_and, ↓reduceIte, iteP, fa_or]
    refine x_children hb hW hE (by have h1 := sibM_lt hW (E 1 p); have h2 := sibM_lt hW (E 2 p); have h3 : sibM E (E 1 p) ||| sibM E (E 2 p) < 2 ^ 12 := Nat.or_lt_two_pow h1 h2; omega) ?_
    refine x_siblings (p := p) hb hW hE (by omega) ?_
    rw [hl, n_not, n_not, fa_and, kin_cou hW hp]; exact hK
  · have h4 := n_shl1 (E 3 p) (by omega)
    refine CallAt.of (k := 18) (cd := k_X0_related) ok_X0_related (by decide) rfl rfl rfl ?_
    show V _ i_X0_related k_X0_related 0 [.ref b, .int (nI p), .int (nI 4), .null] [] _ _
    refine V_run ok_X0_related 60 0 ?_
    simp (disch := omega) only [eng, c_X0_related, r_X0_related, tbl, true_and, Nat.reduceAdd, Nat.reduceLT, ↓reduceIte, n_eq, n_lt, n_le, n_cl, n_inT, nI_add, bI_eq0, bI_eq1, not_true_eq_false, not_false_eq_true, true_implies, false_implies, implies_true, and_true, Bool.not_eq_false, Bool.not_eq_true, Nat.reduceEqDiff, Nat.reduceLeDiff, Classical.not_not, List.length_cons, List.length_nil, Int.reduceAdd, z_cast, Nat.reducePow, false_or, Nat.reduceLT, Nat.sub_zero, Nat.le_refl, ebT hb, fp, hl, h4, fa_and]
    try simp only [iteP, Classical.not_not, Bool.not_eq_false, Bool.not_eq_true]
    rw [kin_one (r := 4) (p := p) ?_ hn12 (fun _ => rfl)]
    · exact hK
    · rcases w.2.2.2.2.1 with q | q
      · exact Or.inl q
      · right; intro z; rw [z] at q; exact q.2 rfl
  · have h4 := n_shl1 (E 4 p) (by omega)
    refine CallAt.of (k := 18) (cd := k_X0_related) ok_X0_related (by decide) rfl rfl rfl ?_
    show V _ i_X0_related k_X0_related 0 [.ref b, .int (nI p), .int (nI 5), .null] [] _ _
    refine V_run ok_X0_related 60 0 ?_
    simp (disch := omega) only [eng, c_X0_related, r_X0_related, tbl, true_and, Nat.reduceAdd, Nat.reduceLT, ↓reduceIte, n_eq, n_lt, n_le, n_cl, n_inT, nI_add, bI_eq0, bI_eq1, not_true_eq_false, not_false_eq_true, true_implies, false_implies, implies_true, and_true, Bool.not_eq_false, Bool.not_eq_true, Nat.reduceEqDiff, Nat.reduceLeDiff, Classical.not_not, List.length_cons, List.length_nil, Int.reduceAdd, z_cast, Nat.reducePow, false_or, Nat.reduceLT, Nat.sub_zero, Nat.le_refl, ebT hb, fp, hl, h4, fa_and]
    try simp only [iteP, Classical.not_not, Bool.not_eq_false, Bool.not_eq_true]
    rw [kin_one (r := 5) (p := p) ?_ hn12 (fun _ => rfl)]
    · exact hK
    · rcases w.2.2.2.2.2.1 with q | q
      · exact Or.inl q
      · exact Or.inr q.2
