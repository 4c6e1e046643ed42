/-- how many are in a set, among 12 - n and up -/
def pcF (m : Nat) : Nat → Nat
  | 0 => 0
  | n + 1 => (m.testBit (11 - n)).toNat + pcF m n
def pcnt (m : Nat) : Nat := pcF m 12
theorem pcF_le (m : Nat) : ∀ n, pcF m n ≤ n
  | 0 => Nat.le_refl 0
  | n + 1 => by have := pcF_le m n; unfold pcF; cases m.testBit (11 - n) <;> simp <;> omega
theorem nthF_ok (m : Nat) : ∀ n i, n ≤ 12 → i < pcF m n → nthF m n i < 12 ∧ m.testBit (nthF m n i) = true
  | 0, i, _, h => absurd h (Nat.not_lt_zero i)
  | n + 1, i, hn, h => by
    unfold pcF at h
    unfold nthF
    by_cases hb : m.testBit (11 - n) = true
    · rw [if_pos hb]
      rw [hb] at h
      by_cases hi : i = 0
      · rw [if_pos hi]; exact ⟨by omega, hb⟩
      · rw [if_neg hi]; exact nthF_ok m n (i - 1) (by omega) (by simp at h; omega)
    · rw [if_neg hb]
      have hb' : m.testBit (11 - n) = false := by simpa using hb
      rw [hb'] at h
      exact nthF_ok m n i (by omega) (by simpa using h)
theorem pcF_pos {m : Nat} (h : 0 < m) (hm : m < 4096) : 0 < pcnt m := by
  rcases Nat.eq_zero_or_pos (pcnt m) with q | q
  · exfalso
    have all : ∀ n, n ≤ 12 → pcF m n = 0 → ∀ j, j < n → m.testBit (11 - j) = false := by
      intro n
      induction n with
      | zero => intro _ _ j hj; omega
      | succ n ih =>
        intro hn hz j hj
        unfold pcF at hz
        have h0 : (m.testBit (11 - n)).toNat = 0 := by omega
        by_cases e : j = n
        · subst e; cases hb : m.testBit (11 - j) <;> simp_all
        · exact ih (by omega) (by omega) j (by omega)
    have : m = 0 := by
      apply Nat.eq_of_testBit_eq
      intro j
      rw [Nat.zero_testBit]
      by_cases hj : j < 12
      · have := all 12 (by omega) q (11 - j) (by omega)
        rwa [show 11 - (11 - j) = j by omega] at this
      · exact Nat.testBit_lt_two_pow (Nat.lt_of_lt_of_le hm (by rw [show 4096 = 2 ^ 12 by decide]; exact Nat.pow_le_pow_right (by decide) (by omega)))
    omega
  · exact q
def bcX (x0 : Int32) : Int32 :=
  let x1 := x0 - ((x0.toUInt32 >>> ((nI 1).toUInt32 &&& Int32.toUInt32 31)).toInt32 &&& nI 1431655765)
  let x2 := (x1 &&& nI 858993459) + ((x1.toUInt32 >>> ((nI 2).toUInt32 &&& Int32.toUInt32 31)).toInt32 &&& nI 858993459)
  let x3 := x2 + (x2.toUInt32 >>> ((nI 4).toUInt32 &&& Int32.toUInt32 31)).toInt32 &&& nI 252645135
  let x4 := x3 + (x3.toUInt32 >>> ((nI 8).toUInt32 &&& Int32.toUInt32 31)).toInt32
  let x5 := x4 + (x4.toUInt32 >>> ((nI 16).toUInt32 &&& Int32.toUInt32 31)).toInt32
  x5 &&& nI 63
theorem bc_all : (List.range 4096).all (fun m => decide (bcX (nI m) = nI (pcnt m))) = true := by decide +kernel
theorem bcX_eq {m : Nat} (h : m < 4096) : bcX (nI m) = nI (pcnt m) := of_decide_eq_true (List.all_eq_true.mp bc_all m (List.mem_range.mpr h))
theorem x_bitCount {l : Launch} {m : Nat} {σ : St} {K : Int32 → St → Prop} (hm : m < 4096) (hK : K (nI (pcnt m)) σ) : CallAt l 187 [.int (nI m)] σ K := by
  have e := bcX_eq hm
  unfold bcX at e
  generalize nI m = x at e ⊢
  refine CallAt.of (k := 187) (cd := k_J6_bitCount) ok_J6_bitCount (by decide) rfl rfl rfl ?_
  show V _ i_J6_bitCount k_J6_bitCount 0 [.int x] [] _ _
  refine V_run ok_J6_bitCount 60 0 ?_
  simp only [eng, c_J6_bitCount, r_J6_bitCount, true_and]
  rw [← e] at hK
  exact hK
def nd (E : Es) : Nat := (E 12 2 * 1103515245 + 12345) % 2147483648
theorem nd_lt (E : Es) : nd E < 2147483648 := Nat.mod_lt _ (by decide)
theorem n_m31 (m : Nat) : nI m &&& nI 2147483647 = nI (m % 2147483648) := by rw [fa_and, show (2147483647 : Nat) = 2 ^ 31 - 1 by decide, Nat.and_two_pow_sub_one_eq_mod]
theorem XE_draw {b d : Nat} {E : Es} {σ : St} (hE : XE b E σ) : XE b (eu E 12 2 d) (wr σ b 14 (nI d)) := by
  obtain ⟨a1, a2, a3, a4, a5, a6, a7⟩ := hE
  refine ⟨by simpa [wr_at, eu] using a1, ?_, by simpa [wr_at, eu] using a3, by simp [wr_at, eu], ?_, ?_, ?_⟩
  · have : lvm (eu E 12 2 d) = lvm E := by simp [lvm, eu]
    rw [this]; simp [wr_at, a2]
  · intro p hp
    have := a5 p (by simpa [eu] using hp)
    simp [wr_at, this, eu]
  · intro t ht
    have := a6 t (by simpa [eu] using ht)
    simp [wr_at, this, eu]
  · intro k hk
    have := a7 k hk
    have e8 : rw8 (eu E 12 2 d) k = rw8 E k := by simp [rw8, eu]
    rw [e8]
    simp [wr_at, this, eu]
theorem Wf_draw {E : Es} (hW : Wf E) {d : Nat} (hd : d < 2147483648) : Wf (eu E 12 2 d) := by
  obtain ⟨a1, a2, a3, a4, a5, a6⟩ := hW
  refine ⟨by simpa [eu] using a1, by simpa [eu] using a2, by simpa [eu] using hd, fun p hp => ?_, fun t ht => ?_, fun k hk => ?_⟩
  · simpa [WfP, eu] using a4 p (by simpa [eu] using hp)
  · simpa [WfT, eu] using a5 t (by simpa [eu] using ht)
  · simpa [WfR, eu] using a6 k hk
theorem x_drawn {l : Launch} {b a : Nat} {E : Es} {σ : St} {K : Int32 → St → Prop} (hb : Eb b) (hE : XE b E σ) (ha : 0 < a) (ha2 : a ≤ 12) (hK : ∀ σ', XE b (eu E 12 2 (nd E)) σ' → FrE b σ σ' → K (nI (nd E / 65536 % a)) σ') : CallAt l 29 [.ref b, .int (nI a)] σ K := by
  have hn := nd_lt E
  have h1 : ¬ a ≤ 0 := by omega
  have h2 : ¬ a = 0 := by omega
  have hd2 : nd E / 65536 < 2147483648 := Nat.lt_of_le_of_lt (Nat.div_le_self _ _) hn
  have q1 := pk_div (a := nd E) (d := 65536) hn (by decide) (by decide)
  have q2 := pk_rem (a := nd E / 65536) (d := a) hd2 ha (by omega)
  have e : nI (E 12 2 * 1103515245 + 12345) &&& nI 2147483647 = nI (nd E) := n_m31 _
  refine CallAt.of (k := 29) (cd := k_X0_drawn) ok_X0_drawn (by decide) rfl rfl rfl ?_
  show V _ i_X0_drawn k_X0_drawn 0 [.ref b, .int (nI a)] [] _ _
  refine V_run ok_X0_drawn 60 0 ?_
  simp (disch := omega) only [eng, c_X0_drawn, r_X0_drawn, tbl, true_and, Nat.reduceAdd, Nat.reduceLT, ↓reduceIte, n_eq, n_lt, n_le, n_cl, n_inT, nI_add, bI_eq0, bI_eq1, not_true_eq_false, not_false_eq_true, true_implies, false_implies, implies_true, and_true, Bool.not_eq_false, Bool.not_eq_true, Nat.reduceEqDiff, Nat.reduceLeDiff, Classical.not_not, List.length_cons, List.length_nil, Int.reduceAdd, z_cast, Nat.reducePow, false_or, Nat.reduceLT, Nat.sub_zero, Nat.le_refl, ebT hb, hE.2.2.2.1, pk_mul, e, h1, wrq, q1, q2, n_ne0, h2]
  try simp only [iteP, Classical.not_not, Bool.not_eq_false, Bool.not_eq_true]
  exact hK _ (XE_draw hE) (FrE.rfl'.wr (by omega))
def wvm (E : Es) : Nat := bits (fun p => E 0 p == 1 && E 5 p == 1 && E 3 p != 12) (E 12 0)
theorem lp_wives (l : Launch) {b : Nat} {E : Es} {σ : St} {K : Int32 → St → Prop} (hb : Eb b) (hW : Wf E) (hE : XE b E σ) (hK : K (nI (wvm E)) σ) : ∀ (n q : Nat), q + n = E 12 0 → V l i_X0_wives k_X0_wives 4 [.ref b, .int (nI (bits (fun p => E 0 p == 1 && E 5 p == 1 && E 3 p != 12) q)), .int (nI q)] [] σ K
  | 0, q, hq => by
    have hq : q = E 12 0 := by omega
    subst hq
    have hn12 := hW.1
    refine V_run ok_X0_wives 50 4 ?_
    simp (disch := omega) only [eng, c_X0_wives, r_X0_wives, tbl, true_and, Nat.reduceAdd, Nat.reduceLT, ↓reduceIte, n_eq, n_lt, n_le, n_cl, n_inT, nI_add, bI_eq0, bI_eq1, not_true_eq_false, not_false_eq_true, true_implies, false_implies, implies_true, and_true, Bool.not_eq_false, Bool.not_eq_true, Nat.reduceEqDiff, Nat.reduceLeDiff, Classical.not_not, List.length_cons, List.length_nil, Int.reduceAdd, z_cast, Nat.reducePow, false_or, Nat.reduceLT, Nat.sub_zero, Nat.le_refl, ebT hb, hE.1]
    try simp only [iteP, Classical.not_not, Bool.not_eq_false, Bool.not_eq_true]
    exact hK
  | n + 1, q, hq => by
    have hq1 : q < E 12 0 := by omega
    have hn12 := hW.1
    have h12 := p12 hW hq1
    have hp := hE.2.2.2.2.1 q hq1
    have hs := (hW.2.2.2.1 q hq1).1
    have h3 := sp12 hW hq1
    have hlv := lvm_lt hW
    have ih := lp_wives l hb hW hE hK n (q + 1) (by omega)
    refine V_run ok_X0_wives 50 4 ?_
    simp (disch := omega) only [eng, c_X0_wives, r_X0_wives, tbl, true_and, Nat.reduceAdd, Nat.reduceLT, ↓reduceIte, n_eq, n_lt, n_le, n_cl, n_inT, nI_add, bI_eq0, bI_eq1, not_true_eq_false, not_false_eq_true, true_implies, false_implies, implies_true, and_true, Bool.not_eq_false, Bool.not_eq_true, Nat.reduceEqDiff, Nat.reduceLeDiff, Classical.not_not, List.length_cons, List.length_nil, Int.reduceAdd, z_cast, Nat.reducePow, false_or, Nat.reduceLT, Nat.sub_zero, Nat.le_refl, ebT hb, hE.1, hE.2.1, hp, Nat.not_le.mpr hq1]
    try simp only [iteP, Classical.not_not, Bool.not_eq_false, Bool.not_eq_true]
    refine ⟨fun h => ?_, fun h => x_has (m := lvm E) (j := q) (by omega) (by omega) ?_⟩
    · rw [bits_s0 (by simp [h])] at ih; exact ih
    · rw [lvm_tb]
      simp (disch := omega) only [n_eq, n_lt, n_le, n_cl, n_inT, nI_add, bI_eq0, bI_eq1, not_true_eq_false, not_false_eq_true, true_implies, false_implies, implies_true, and_true, Bool.not_eq_false, Bool.not_eq_true, Nat.reduceEqDiff, Nat.reduceLeDiff, Classical.not_not, List.length_cons, List.length_nil, Int.reduceAdd, z_cast, Nat.reducePow, false_or, Nat.reduceLT, Nat.sub_zero, Nat.le_refl, true_and, ↓reduceIte, iteP, hp, ebT hb, hq1, decide_true, Bool.true_and, beq_eq_false_iff_ne, beq_iff_eq, ne_eq]
      refine ⟨fun h2 => ?_, fun h2 => ⟨fun h3 => ?_, fun h3 => ?_⟩⟩
      · rw [bits_s0 (by simp [h2])] at ih; exact ih
      · rw [bits_s0 (by simp [h3])] at ih; exact ih
      · rw [acc_t (by simp [h, h2, h3]) h12]; exact ih
theorem x_wives {l : Launch} {b : Nat} {E : Es} {σ : St} {K : Int32 → St → Prop} (hb : Eb b) (hW : Wf E) (hE : XE b E σ) (hK : K (nI (wvm E)) σ) : CallAt l 30 [.ref b] σ K := by
  refine CallAt.of (k := 30) (cd := k_X0_wives) ok_X0_wives (by decide) rfl rfl rfl ?_
  show V _ i_X0_wives k_X0_wives 0 [.ref b, .null, .null] [] _ _
  refine V_run ok_X0_wives 50 0 ?_
  simp (disch := omega) only [eng, c_X0_wives, r_X0_wives, tbl, true_and, Nat.reduceAdd, Nat.reduceLT, ↓reduceIte, n_eq, n_lt, n_le, n_cl, n_inT, nI_add, bI_eq0, bI_eq1, not_true_eq_false, not_false_eq_true, true_implies, false_implies, implies_true, and_true, Bool.not_eq_false, Bool.not_eq_true, Nat.reduceEqDiff, Nat.reduceLeDiff, Classical.not_not, List.length_cons, List.length_nil, Int.reduceAdd, z_cast, Nat.reducePow, false_or, Nat.reduceLT, Nat.sub_zero, Nat.le_refl]
  try simp only [iteP, Classical.not_not, Bool.not_eq_false, Bool.not_eq_true]
  exact lp_wives l hb hW hE hK (E 12 0) 0 (by omega)
