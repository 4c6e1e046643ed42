/-! all rows of deaths, one behind the other -/
def nxL (n : Nat) (L : List Nat) : Option (List Nat) := match sK (fun i => L.getD i 0) (n - 1) with
  | none => none
  | some k => some ((List.range n).map (nxK (fun i => L.getD i 0) n k))
def seqP (n : Nat) : Nat → List Nat → List (List Nat)
  | 0, _ => []
  | q + 1, L => L :: (match nxL n L with | none => [] | some L' => seqP n q L')
def endP (n : Nat) : Nat → List Nat → Bool
  | 0, _ => false
  | q + 1, L => match nxL n L with | none => true | some L' => endP n q L'
theorem seq_all : (List.range 6).all (fun n => endP n (fct n) (List.range n) && (seqP n (fct n) (List.range n)).isPerm ((List.range (fct n)).map (layL n (List.range n)))) = true := by decide +kernel
theorem seq_ok {n : Nat} (hn : n ≤ 5) : endP n (fct n) (List.range n) = true ∧ List.Perm (seqP n (fct n) (List.range n)) ((List.range (fct n)).map (layL n (List.range n))) := by
  have := List.all_eq_true.mp seq_all n (List.mem_range.mpr (by omega))
  rw [Bool.and_eq_true] at this
  exact ⟨this.1, List.isPerm_iff.mp this.2⟩
def rowL (m : Nat) (L : List Nat) : Nat → Nat := fun j => nthF m 12 (L.getD j 0)
theorem rowC_L (m c : Nat) : rowC m c = rowL m (layL (pcnt m) (List.range (pcnt m)) c) := rfl
/-- how a row of deaths counts -/
def gR (E : Es) (m : Nat) (P : Es → Bool) (L : List Nat) : Nat := (P (dieN E (rowL m L) (pcnt m))).toNat
theorem ordN_sum (E : Es) (m : Nat) (P : Es → Bool) : ∀ c, ordN E m P c = (((List.range c).map (layL (pcnt m) (List.range (pcnt m)))).map (gR E m P)).sum
  | 0 => rfl
  | c + 1 => by
    unfold ordN
    rw [ordN_sum E m P c, List.range_succ, List.map_append, List.map_append, List.sum_append_nat]
    simp [gR, rowC_L]
theorem ord_seq {E : Es} {m : Nat} {P : Es → Bool} (h5 : pcnt m ≤ 5) : ((seqP (pcnt m) (fct (pcnt m)) (List.range (pcnt m))).map (gR E m P)).sum = ordN E m P (fct (pcnt m)) := by
  rw [ordN_sum]
  exact ((seq_ok h5).2.map _).sum_nat
/-- a row that can be -/
def rowV (E : Es) (m : Nat) (L : List Nat) : Prop := (∀ i, i < pcnt m → L.getD i 0 < pcnt m) ∧ ∀ i, i < pcnt m → rowL m L i < E 12 0 ∧ dieN E (rowL m L) i 5 (rowL m L i) = 1
theorem seq_V {E : Es} {m : Nat} (h : allL E m = true) (h5 : pcnt m ≤ 5) : ∀ L, L ∈ seqP (pcnt m) (fct (pcnt m)) (List.range (pcnt m)) → rowV E m L := by
  intro L hL
  have h1 := (seq_ok h5).2.mem_iff.mp hL
  obtain ⟨c, hc, rfl⟩ := List.mem_map.mp h1
  rw [List.mem_range] at hc
  have := fct5 h5
  exact ⟨fun i hi => (lay_ok (pcnt m) (by omega) c (by omega) i hi).1, rowC_live h h5 (by omega)⟩
theorem nth_mono {m a b : Nat} (ha : a < pcnt m) (hb : b < pcnt m) : nthF m 12 a < nthF m 12 b ↔ a < b := by
  have h1 := nthF_cb m 12 a (by omega) ha
  have h2 := nthF_cb m 12 b (by omega) hb
  rw [show cb m (12 - 12) = 0 from rfl] at h1 h2
  constructor
  · intro h
    have h3 := cb_mono m (Nat.le_of_lt h)
    have h4 : a ≠ b := fun z => by rw [z] at h; omega
    omega
  · intro h
    apply Classical.byContradiction
    intro z
    have := cb_mono m (p := nthF m 12 b) (q := nthF m 12 a) (by omega)
    omega
theorem nx_getD {n k i : Nat} {g : Nat → Nat} (hi : i < n) : ((List.range n).map (nxK g n k)).getD i 0 = nxK g n k i := by
  simp [List.getD, hi]
theorem m_nextL {l : Launch} {m : Nat} {L : List Nat} {σ : St} {K : Int32 → St → Prop} (h5 : pcnt m ≤ 5) (hL : ∀ i, i < pcnt m → L.getD i 0 < pcnt m) (h1 : ∀ i, i < pcnt m → σ 922 i = nI (rowL m L i)) (hF : nxL (pcnt m) L = none → K (nI 0) σ) (hK : ∀ L', nxL (pcnt m) L = some L' → ∀ σ' : St, (∀ i, i < pcnt m → σ' 922 i = nI (rowL m L' i)) → (∀ c, c ≠ 922 → σ' c = σ c) → K (nI 1) σ') : CallAt l 158 [.ref 900, .int (nI (pcnt m))] σ K := by
  have e : sK (rowL m L) (pcnt m - 1) = sK (fun i => L.getD i 0) (pcnt m - 1) := by
    by_cases z : pcnt m = 0
    · rw [z]; rfl
    · exact sK_map (N := pcnt m) (v := nthF m 12) (g := fun i => L.getD i 0) (fun a b ha hb => nth_mono ha hb) _ (fun i hi => hL i (by omega))
  refine m_nextO (f := rowL m L) h5 (fun i hi => nth_le12 m 12 _ (by omega)) h1 (fun z => hF ?_) (fun k hk σ' g1 g2 => ?_)
  · unfold nxL
    rw [← e, z]
  · have hk2 := sK_lt hk
    refine hK ((List.range (pcnt m)).map (nxK (fun i => L.getD i 0) (pcnt m) k)) ?_ σ' (fun i hi => ?_) g2
    · unfold nxL
      rw [← e, hk]
    · rw [g1 i hi]
      unfold rowL
      rw [nx_getD hi]
      have := nx_map (n := pcnt m) (k := k) (v := nthF m 12) (g := fun i => L.getD i 0) (fun a b ha hb => nth_mono ha hb) (by omega) hL
      rw [this]
/-- what holds between the rows -/
def OSt (E : Es) (m : Nat) (L : List Nat) (σ : St) : Prop := ME E σ ∧ AsK E σ ∧ ∀ i, i < pcnt m → σ 922 i = nI (rowL m L i)
/-- the cells that rows of deaths change -/
def FrQ (σ σ' : St) : Prop := (∀ k, k ≠ 900 → k ≠ 921 → k ≠ 922 → k < 901 ∨ 914 < k → σ' k = σ k) ∧ ∀ j, j ≠ 6 → j ≠ 11 → j ≠ 14 → σ' 900 j = σ 900 j
theorem FrQ.rfl' {σ : St} : FrQ σ σ := ⟨fun _ _ _ _ _ => rfl, fun _ _ _ _ => rfl⟩
theorem FrQ.trans {σ σ' σ'' : St} (h : FrQ σ σ') (h2 : FrQ σ' σ'') : FrQ σ σ'' := ⟨fun k a b c d => (h2.1 k a b c d).trans (h.1 k a b c d), fun j a b c => (h2.2 j a b c).trans (h.2 j a b c)⟩
theorem FrN.q {σ σ' : St} (h : FrN σ σ') : FrQ σ σ' := ⟨fun k a _ _ d => h.1 k a d, h.2⟩
theorem FrQ.m {σ σ' : St} (h : FrQ σ σ') : FrM σ σ' := fun k hk => h.1 k (by omega) (by omega) (by omega) (by omega)
theorem FrQ_one {c : Nat} {σ σ' : St} (hc : c = 921 ∨ c = 922) (h : ∀ k, k ≠ c → σ' k = σ k) : FrQ σ σ' := ⟨fun k _ _ _ _ => h k (by omega), fun j _ _ _ => by rw [h 900 (by omega)]⟩
theorem MX.q {A : AS} {E : Es} {σ σ' : St} (h : MX A σ) (hf : FrQ σ σ') (hW : Wf E) (hE : ME E σ') : MX (setE A E) σ' := by
  obtain ⟨a1, a2, a3, a4, a5, a6⟩ := h
  refine ⟨⟨hW, a1.2⟩, hE, by rw [hf.2 22 (by omega) (by omega) (by omega)]; exact a3, fun E' he => (a4 E' he).frame (hf.1 924 (by omega) (by omega) (by omega) (by omega)), ⟨by rw [hf.2 16 (by omega) (by omega) (by omega)]; exact a5.1, fun i hi => by rw [hf.1 916 (by omega) (by omega) (by omega) (by omega)]; exact a5.2 i hi⟩, ⟨fun s hs => by rw [hf.1 926 (by omega) (by omega) (by omega) (by omega), hf.1 927 (by omega) (by omega) (by omega) (by omega)]; exact a6.1 s hs, fun j hj => by rw [hf.1 928 (by omega) (by omega) (by omega) (by omega)]; exact a6.2 j hj⟩⟩
theorem lp_oin (l : Launch) {m : Nat} {L : List Nat} {v1 v2 v3 v5 v6 : Int32} {E : Es} {σ1 : St} {K : Int32 → St → Prop} (hW : Wf E) (h5 : pcnt m ≤ 5) (hL : rowV E m L) (h922 : ∀ i, i < pcnt m → σ1 922 i = nI (rowL m L i)) (hN : ∀ (σ : St) (v7 : Value), ME (dieN E (rowL m L) (pcnt m)) σ → FrN σ1 σ → V l i_X6_orders k_X6_orders 45 [.ref 900, .int v1, .int v2, .int v3, .int (nI (pcnt m)), .int v5, .int v6, v7] [] σ K) : ∀ (q i : Nat) (σ : St), i + q = pcnt m → ME (dieN E (rowL m L) i) σ → FrN σ1 σ → V l i_X6_orders k_X6_orders 33 [.ref 900, .int v1, .int v2, .int v3, .int (nI (pcnt m)), .int v5, .int v6, .int (nI i)] [] σ K
  | 0, i, σ, hi, hE, hf => by
    have hi : i = pcnt m := by omega
    subst hi
    refine V_run ok_X6_orders 3 33 ?_
    simp (disch := omega) only [eng, c_X6_orders, r_X6_orders, tbl, true_and, Nat.reduceAdd, Nat.reduceLT, ↓reduceIte, n_eq, n_lt, n_le, n_cl, n_inT, nI_add, bI_eq0, bI_eq1, not_true_eq_false, not_false_eq_true, true_implies, false_implies, implies_true, and_true, Bool.not_eq_false, Bool.not_eq_true, Nat.reduceEqDiff, Nat.reduceLeDiff, Classical.not_not, List.length_cons, List.length_nil, Int.reduceAdd, z_cast, Nat.reducePow, false_or, Nat.reduceLT, Nat.sub_zero, Nat.le_refl]
    try simp only [iteP, Classical.not_not, Bool.not_eq_false, Bool.not_eq_true]
    exact hN σ _ hE hf
  | q + 1, i, σ, hi, hE, hf => by
    have h0 : ¬ pcnt m ≤ i := by omega
    have hr := hL.2 i (by omega)
    have e922 : σ 922 i = nI (rowL m L i) := by rw [hf.1 922 (by decide) (by decide)]; exact h922 i (by omega)
    have hWi := Wf_dieN hW (f := rowL m L) i (fun j hj => hL.2 j (by omega))
    refine V_run ok_X6_orders 60 33 ?_
    simp (disch := omega) only [eng, c_X6_orders, r_X6_orders, tbl, true_and, Nat.reduceAdd, Nat.reduceLT, ↓reduceIte, n_eq, n_lt, n_le, n_cl, n_inT, nI_add, bI_eq0, bI_eq1, not_true_eq_false, not_false_eq_true, true_implies, false_implies, implies_true, and_true, Bool.not_eq_false, Bool.not_eq_true, Nat.reduceEqDiff, Nat.reduceLeDiff, Classical.not_not, List.length_cons, List.length_nil, Int.reduceAdd, z_cast, Nat.reducePow, false_or, Nat.reduceLT, Nat.sub_zero, Nat.le_refl, h0, e922]
    try simp only [iteP, Classical.not_not, Bool.not_eq_false, Bool.not_eq_true]
    refine m_die hWi hE (by rw [dieN_12]; exact hr.1) hr.2 (fun σ' hE' hf' => ?_)
    exact lp_oin l hW h5 hL h922 hN q (i + 1) σ' (by omega) hE' (hf.trans hf')
