/-! sets: how many, the i-th -/
theorem ones_all : (List.range 4096).all (fun m => m == 0 || (m &&& (m - 1) == m ^^^ 2 ^ low m && decide (m &&& (m - 1) < m))) = true := by decide +kernel
theorem ones_at {m : Nat} (hm : m < 4096) (h0 : m ≠ 0) : m &&& (m - 1) = m ^^^ 2 ^ low m ∧ m &&& (m - 1) < m := by
  have := List.all_eq_true.mp ones_all m (List.mem_range.mpr hm)
  simpa [h0] using this
theorem low_ok {m : Nat} (hm : m < 4096) (h0 : m ≠ 0) : low m < 12 ∧ m.testBit (low m) = true ∧ cb m (low m) = 0 := by
  have hp := pcF_pos (by omega) hm
  have h := nthF_ok m 12 0 (by omega) hp
  have h2 := nthF_cb m 12 0 (by omega) hp
  exact ⟨h.1, h.2, h2⟩
theorem clr_tb {m : Nat} (hm : m < 4096) (h0 : m ≠ 0) (j : Nat) : (m &&& (m - 1)).testBit j = (m.testBit j && decide (low m ≠ j)) := by
  rw [(ones_at hm h0).1, Nat.testBit_xor, tb_2]
  by_cases z : low m = j
  · subst z
    rw [(low_ok hm h0).2.1]; simp
  · simp [z]
theorem cb_clr {m : Nat} (hm : m < 4096) (h0 : m ≠ 0) : ∀ q, cb (m &&& (m - 1)) q + (if low m < q then 1 else 0) = cb m q
  | 0 => by simp [cb]
  | q + 1 => by
    have ih := cb_clr hm h0 q
    have e1 : cb (m &&& (m - 1)) (q + 1) = cb (m &&& (m - 1)) q + ((m &&& (m - 1)).testBit q).toNat := rfl
    have e2 : cb m (q + 1) = cb m q + (m.testBit q).toNat := rfl
    rw [e1, e2, clr_tb hm h0]
    by_cases z : low m = q
    · have := (low_ok hm h0).2.1
      rw [z] at this
      rw [z, if_neg (Nat.lt_irrefl q)] at ih
      rw [this, z, if_pos (by omega)]
      simp
      omega
    · have e3 : decide (low m ≠ q) = true := by simpa using z
      rw [e3, Bool.and_true]
      by_cases y : low m < q
      · rw [if_pos y] at ih; rw [if_pos (by omega)]; omega
      · rw [if_neg y] at ih; rw [if_neg (by omega)]; omega
theorem pc_clr {m : Nat} (hm : m < 4096) (h0 : m ≠ 0) : pcnt (m &&& (m - 1)) + 1 = pcnt m := by
  have := cb_clr hm h0 12
  rw [if_pos (low_ok hm h0).1] at this
  rw [pcnt_cb, pcnt_cb]; exact this
theorem nth_clr {m i : Nat} (hm : m < 4096) (hi : i + 1 < pcnt m) : m ≠ 0 ∧ nthF (m &&& (m - 1)) 12 i = nthF m 12 (i + 1) := by
  have h0 : m ≠ 0 := fun z => by
    subst z
    rw [show pcnt 0 = 0 by decide] at hi
    omega
  refine ⟨h0, ?_⟩
  have hq := nthF_ok m 12 (i + 1) (by omega) hi
  have hc := nthF_cb m 12 (i + 1) (by omega) hi
  have hl := low_ok hm h0
  generalize nthF m 12 (i + 1) = p at hq hc ⊢
  rw [show cb m (12 - 12) = 0 from rfl] at hc
  have h1 : low m < p := by
    apply Classical.byContradiction
    intro z
    have := cb_mono m (p := p) (q := low m) (by omega)
    omega
  have h2 := cb_clr hm h0 p
  rw [if_pos h1] at h2
  have h3 : (m &&& (m - 1)).testBit p = true := by
    rw [clr_tb hm h0, hq.2]
    simp; omega
  have h4 := nth_of_cb hq.1 h3
  rw [show cb (m &&& (m - 1)) p = i by omega] at h4
  exact h4
theorem lp_ones (l : Launch) {x : Int32} {N : Nat} {σ : St} {K : Int32 → St → Prop} (hK : K (nI N) σ) : ∀ (f s n : Nat), s < f → s < 4096 → n + pcnt s = N → V l i_X6_ones k_X6_ones 4 [.int x, .int (nI n), .int (nI s)] [] σ K
  | 0, s, n, hf, hs, hn => absurd hf (Nat.not_lt_zero s)
  | f + 1, s, n, hf, hs, hn => by
    by_cases z : s = 0
    · subst z
      rw [show pcnt 0 = 0 by decide, Nat.add_zero] at hn
      subst hn
      refine V_run ok_X6_ones 60 4 ?_
      simp (disch := omega) only [eng, c_X6_ones, r_X6_ones, tbl, true_and, Nat.reduceAdd, Nat.reduceLT, ↓reduceIte, n_eq, n_lt, n_le, n_cl, n_inT, nI_add, bI_eq0, bI_eq1, not_true_eq_false, not_false_eq_true, true_implies, false_implies, implies_true, and_true, Bool.not_eq_false, Bool.not_eq_true, Nat.reduceEqDiff, Nat.reduceLeDiff, Classical.not_not, List.length_cons, List.length_nil, Int.reduceAdd, z_cast, Nat.reducePow, false_or, Nat.reduceLT, Nat.sub_zero, Nat.le_refl]
      try simp only [iteP, Classical.not_not, Bool.not_eq_false, Bool.not_eq_true]
      exact hK
    · have o := (ones_at hs z).2
      have o2 := pc_clr hs z
      have e1 := pk_sub (a := s) (b := 1) (by omega)
      refine V_run ok_X6_ones 60 4 ?_
      simp (disch := omega) only [eng, c_X6_ones, r_X6_ones, tbl, true_and, Nat.reduceAdd, Nat.reduceLT, ↓reduceIte, n_eq, n_lt, n_le, n_cl, n_inT, nI_add, bI_eq0, bI_eq1, not_true_eq_false, not_false_eq_true, true_implies, false_implies, implies_true, and_true, Bool.not_eq_false, Bool.not_eq_true, Nat.reduceEqDiff, Nat.reduceLeDiff, Classical.not_not, List.length_cons, List.length_nil, Int.reduceAdd, z_cast, Nat.reducePow, false_or, Nat.reduceLT, Nat.sub_zero, Nat.le_refl, z, e1, fa_and]
      try simp only [iteP, Classical.not_not, Bool.not_eq_false, Bool.not_eq_true]
      exact lp_ones l hK f _ _ (by omega) (by omega) (by omega)
theorem m_ones {l : Launch} {m : Nat} {σ : St} {K : Int32 → St → Prop} (hm : m < 4096) (hK : K (nI (pcnt m)) σ) : CallAt l 110 [.int (nI m)] σ K := by
  refine CallAt.of (k := 110) (cd := k_X6_ones) ok_X6_ones (by decide) rfl rfl rfl ?_
  show V _ i_X6_ones k_X6_ones 0 [.int (nI m), .null, .null] [] _ _
  refine V_run ok_X6_ones 20 0 ?_
  simp (disch := omega) only [eng, c_X6_ones, r_X6_ones, tbl, true_and, Nat.reduceAdd, Nat.reduceLT, ↓reduceIte, n_eq, n_lt, n_le, n_cl, n_inT, nI_add, bI_eq0, bI_eq1, not_true_eq_false, not_false_eq_true, true_implies, false_implies, implies_true, and_true, Bool.not_eq_false, Bool.not_eq_true, Nat.reduceEqDiff, Nat.reduceLeDiff, Classical.not_not, List.length_cons, List.length_nil, Int.reduceAdd, z_cast, Nat.reducePow, false_or, Nat.reduceLT, Nat.sub_zero, Nat.le_refl]
  try simp only [iteP, Classical.not_not, Bool.not_eq_false, Bool.not_eq_true]
  exact lp_ones l hK 4096 m 0 hm hm (by omega)
theorem lp_nth2 (l : Launch) {x y : Int32} {m : Nat} {σ : St} {K : Int32 → St → Prop} (hm : m < 4096) (h0 : m ≠ 0) (hK : K (nI (low m)) σ) : ∀ (n p : Nat), p + n = 12 → (∀ j, j < p → m.testBit j = false) → V l i_X6_nth k_X6_nth 17 [.int x, .int y, .int (nI m), .int (nI p)] [] σ K
  | 0, p, hp, hz => by
    exfalso
    have := low_ok hm h0
    rw [hz (low m) (by omega)] at this
    exact absurd this.2.1 (by decide)
  | n + 1, p, hp, hz => by
    refine V_run ok_X6_nth 60 17 ?_
    simp (disch := omega) only [eng, c_X6_nth, r_X6_nth, tbl, true_and, Nat.reduceAdd, Nat.reduceLT, ↓reduceIte, n_eq, n_lt, n_le, n_cl, n_inT, nI_add, bI_eq0, bI_eq1, not_true_eq_false, not_false_eq_true, true_implies, false_implies, implies_true, and_true, Bool.not_eq_false, Bool.not_eq_true, Nat.reduceEqDiff, Nat.reduceLeDiff, Classical.not_not, List.length_cons, List.length_nil, Int.reduceAdd, z_cast, Nat.reducePow, false_or, Nat.reduceLT, Nat.sub_zero, Nat.le_refl]
    try simp only [iteP, Classical.not_not, Bool.not_eq_false, Bool.not_eq_true]
    refine m_has (by omega) (by omega) ?_
    cases hb : m.testBit p with
    | true =>
      rw [low_at (by omega) hb hz] at hK
      simp (disch := omega) only [n_eq, n_lt, n_le, n_cl, n_inT, nI_add, bI_eq0, bI_eq1, not_true_eq_false, not_false_eq_true, true_implies, false_implies, implies_true, and_true, Bool.not_eq_false, Bool.not_eq_true, Nat.reduceEqDiff, Nat.reduceLeDiff, Classical.not_not, List.length_cons, List.length_nil, Int.reduceAdd, z_cast, Nat.reducePow, false_or, Nat.reduceLT, Nat.sub_zero, Nat.le_refl, true_and, ↓reduceIte, iteP, Bool.true_eq_false]
      exact hK
    | false =>
      simp (disch := omega) only [n_eq, n_lt, n_le, n_cl, n_inT, nI_add, bI_eq0, bI_eq1, not_true_eq_false, not_false_eq_true, true_implies, false_implies, implies_true, and_true, Bool.not_eq_false, Bool.not_eq_true, Nat.reduceEqDiff, Nat.reduceLeDiff, Classical.not_not, List.length_cons, List.length_nil, Int.reduceAdd, z_cast, Nat.reducePow, false_or, Nat.reduceLT, Nat.sub_zero, Nat.le_refl, true_and, ↓reduceIte, iteP, Bool.false_eq_true]
      exact lp_nth2 l hm h0 hK n (p + 1) (by omega) (fun j hj => by
        by_cases z : j = p
        · rw [z]; exact hb
        · exact hz j (by omega))
theorem lp_nth1 (l : Launch) {x : Int32} {i r : Nat} {σ : St} {K : Int32 → St → Prop} (hi : i < 12) (hK : K (nI r) σ) : ∀ (n k s : Nat), k + n = i → s < 4096 → n < pcnt s → nthF s 12 n = r → V l i_X6_nth k_X6_nth 4 [.int x, .int (nI i), .int (nI s), .int (nI k)] [] σ K
  | 0, k, s, hk, hs, hn, hr => by
    have hk : k = i := by omega
    subst hk
    have h0 : s ≠ 0 := fun z => by
      subst z
      rw [show pcnt 0 = 0 by decide] at hn
      omega
    refine V_run ok_X6_nth 60 4 ?_
    simp (disch := omega) only [eng, c_X6_nth, r_X6_nth, tbl, true_and, Nat.reduceAdd, Nat.reduceLT, ↓reduceIte, n_eq, n_lt, n_le, n_cl, n_inT, nI_add, bI_eq0, bI_eq1, not_true_eq_false, not_false_eq_true, true_implies, false_implies, implies_true, and_true, Bool.not_eq_false, Bool.not_eq_true, Nat.reduceEqDiff, Nat.reduceLeDiff, Classical.not_not, List.length_cons, List.length_nil, Int.reduceAdd, z_cast, Nat.reducePow, false_or, Nat.reduceLT, Nat.sub_zero, Nat.le_refl]
    try simp only [iteP, Classical.not_not, Bool.not_eq_false, Bool.not_eq_true]
    refine lp_nth2 l hs h0 ?_ 12 0 (by omega) (fun j hj => absurd hj (Nat.not_lt_zero j))
    rw [← hr] at hK
    exact hK
  | n + 1, k, s, hk, hs, hn, hr => by
    have h1 : ¬ i ≤ k := by omega
    obtain ⟨h0, h2⟩ := nth_clr hs hn
    have e1 := pk_sub (a := s) (b := 1) (by omega)
    have o := (ones_at hs h0).2
    have o2 := pc_clr hs h0
    refine V_run ok_X6_nth 60 4 ?_
    simp (disch := omega) only [eng, c_X6_nth, r_X6_nth, tbl, true_and, Nat.reduceAdd, Nat.reduceLT, ↓reduceIte, n_eq, n_lt, n_le, n_cl, n_inT, nI_add, bI_eq0, bI_eq1, not_true_eq_false, not_false_eq_true, true_implies, false_implies, implies_true, and_true, Bool.not_eq_false, Bool.not_eq_true, Nat.reduceEqDiff, Nat.reduceLeDiff, Classical.not_not, List.length_cons, List.length_nil, Int.reduceAdd, z_cast, Nat.reducePow, false_or, Nat.reduceLT, Nat.sub_zero, Nat.le_refl, h1, e1, fa_and]
    try simp only [iteP, Classical.not_not, Bool.not_eq_false, Bool.not_eq_true]
    exact lp_nth1 l hi hK n (k + 1) _ (by omega) (by omega) (by omega) (by rw [h2]; exact hr)
theorem m_nth {l : Launch} {m i : Nat} {σ : St} {K : Int32 → St → Prop} (hm : m < 4096) (hi : i < pcnt m) (hK : K (nI (nthF m 12 i)) σ) : CallAt l 171 [.int (nI m), .int (nI i)] σ K := by
  have h12 := pcF_le m 12
  have hi2 : i < 12 := Nat.lt_of_lt_of_le hi h12
  refine CallAt.of (k := 171) (cd := k_X6_nth) ok_X6_nth (by decide) rfl rfl rfl ?_
  show V _ i_X6_nth k_X6_nth 0 [.int (nI m), .int (nI i), .null, .null] [] _ _
  refine V_run ok_X6_nth 20 0 ?_
  simp (disch := omega) only [eng, c_X6_nth, r_X6_nth, tbl, true_and, Nat.reduceAdd, Nat.reduceLT, ↓reduceIte, n_eq, n_lt, n_le, n_cl, n_inT, nI_add, bI_eq0, bI_eq1, not_true_eq_false, not_false_eq_true, true_implies, false_implies, implies_true, and_true, Bool.not_eq_false, Bool.not_eq_true, Nat.reduceEqDiff, Nat.reduceLeDiff, Classical.not_not, List.length_cons, List.length_nil, Int.reduceAdd, z_cast, Nat.reducePow, false_or, Nat.reduceLT, Nat.sub_zero, Nat.le_refl]
  try simp only [iteP, Classical.not_not, Bool.not_eq_false, Bool.not_eq_true]
  exact lp_nth1 l hi2 hK i 0 m (by omega) hm hi rfl
theorem lN_and31 (a : Nat) : lN a &&& 2147483647 = lN (a % 2147483648) := by
  apply Int64.toBitVec_inj.1
  show BitVec.ofNat 64 a &&& BitVec.ofNat 64 2147483647 = BitVec.ofNat 64 (a % 2147483648)
  rw [show a % 2147483648 = a &&& 2147483647 by rw [show (2147483647 : Nat) = 2 ^ 31 - 1 by decide, Nat.and_two_pow_sub_one_eq_mod]]
  apply BitVec.eq_of_getLsbD_eq
  intro i hi
  simp [hi]
theorem i2l_N {a : Nat} (h : a < 2147483648) : (nI a).toInt64 = lN a := by
  apply Int64.toInt_inj.1
  rw [Int32.toInt_toInt64, nI_nn a h, pk_lT (by omega)]
theorem m_draw {l : Launch} {a : Nat} {E : Es} {σ : St} {K : Int32 → St → Prop} (hW : Wf E) (hE : ME E σ) (ha : 0 < a) (ha2 : a ≤ 12) (hK : ∀ σ', ME (eu E 12 2 (nd E)) σ' → FrN σ σ' → K (nI (nd E / 65536 % a)) σ') : CallAt l 170 [.ref 900, .int (nI a)] σ K := by
  have hn := nd_lt E
  have hd := hW.2.2.1
  have h2 : ¬ a = 0 := by omega
  have hd2 : nd E / 65536 < 2147483648 := Nat.lt_of_le_of_lt (Nat.div_le_self _ _) hn
  have q1 := pk_div (a := nd E) (d := 65536) hn (by decide) (by decide)
  have q2 := pk_rem (a := nd E / 65536) (d := a) hd2 ha (by omega)
  have e3 : ((nI (E 12 2)).toInt64 * 1103515245 + 12345 &&& 2147483647).toInt32 = nI (nd E) := by
    rw [i2l_N hd, show (1103515245 : Int64) = lN 1103515245 from rfl, show (12345 : Int64) = lN 12345 from rfl, lN_mul, lN_add, lN_and31, lN_i]
    rfl
  refine CallAt.of (k := 170) (cd := k_X6_nextDraw) ok_X6_nextDraw (by decide) rfl rfl rfl ?_
  show V _ i_X6_nextDraw k_X6_nextDraw 0 [.ref 900, .int (nI a)] [] _ _
  refine V_run ok_X6_nextDraw 60 0 ?_
  simp (disch := omega) only [eng, c_X6_nextDraw, r_X6_nextDraw, tbl, true_and, Nat.reduceAdd, Nat.reduceLT, ↓reduceIte, n_eq, n_lt, n_le, n_cl, n_inT, nI_add, bI_eq0, bI_eq1, not_true_eq_false, not_false_eq_true, true_implies, false_implies, implies_true, and_true, Bool.not_eq_false, Bool.not_eq_true, Nat.reduceEqDiff, Nat.reduceLeDiff, Classical.not_not, List.length_cons, List.length_nil, Int.reduceAdd, z_cast, Nat.reducePow, false_or, Nat.reduceLT, Nat.sub_zero, Nat.le_refl, hE.2.2.1, e3, wrq, q1, q2, n_ne0, h2]
  try simp only [iteP, Classical.not_not, Bool.not_eq_false, Bool.not_eq_true]
  exact hK _ (ME_draw hE) (FrN_wr9 FrN.rfl' (by omega))
