theorem m_end1 {l : Launch} {t h : Nat} {σ : St} {K : Int32 → St → Prop} (ht : t < 12) (hK : K 0 (wr (wr σ 910 t (nI h)) 911 t (nI 12))) : CallAt l 149 [.ref 900, .int (nI t), .int (nI h)] σ K := by
  refine CallAt.of (k := 149) (cd := k_X6_end1) ok_X6_end1 (by decide) rfl rfl rfl ?_
  show V _ i_X6_end1 k_X6_end1 0 [.ref 900, .int (nI t), .int (nI h)] [] _ _
  refine V_run ok_X6_end1 30 0 ?_
  simp (disch := omega) only [eng, c_X6_end1, r_X6_end1, tbl, true_and, Nat.reduceAdd, Nat.reduceLT, ↓reduceIte, n_eq, n_lt, n_le, n_cl, n_inT, nI_add, bI_eq0, bI_eq1, not_true_eq_false, not_false_eq_true, true_implies, false_implies, implies_true, and_true, Bool.not_eq_false, Bool.not_eq_true, Nat.reduceEqDiff, Nat.reduceLeDiff, Classical.not_not, List.length_cons, List.length_nil, Int.reduceAdd, z_cast, Nat.reducePow, false_or, Nat.reduceLT, Nat.sub_zero, Nat.le_refl]
  try simp only [iteP, Classical.not_not, Bool.not_eq_false, Bool.not_eq_true]
  exact hK
/-- a state in the midst of a death: things' sides are g -/
def mid (E : Es) (p : Nat) (g : Nat → Nat × Nat) : Es := fun i j => if i = 5 ∧ j = p then 0 else if i = 8 then (g j).1 else if i = 9 then (g j).2 else E i j
theorem mid_heir (E : Es) (p k : Nat) (g : Nat → Nat × Nat) : heir (mid E p g) p k = heir E p k := by
  refine heir_dead (fun i h1 h2 h3 => ?_) (fun q hq => ?_)
  · funext j; simp [mid, h1, h2, h3]
  · simp [mid, hq]
/-- the reference's cells in the midst of a death -/
theorem mid_t {E : Es} {p t : Nat} {g : Nat → Nat × Nat} {σ : St} (hE : ME (mid E p g) σ) (ht : t < E 12 1) : σ 908 t = nI (E 6 t) ∧ σ 909 t = nI (E 7 t) ∧ σ 910 t = nI (g t).1 ∧ σ 911 t = nI (g t).2 := by
  have := hE.2.2.2.2.1 t (by simpa [mid] using ht)
  simpa [mid] using this
theorem mid_set {E : Es} {p t x y : Nat} {g : Nat → Nat × Nat} {σ : St} (hE : ME (mid E p g) σ) : ME (mid E p (fun j => if j = t then (x, y) else g j)) (wr (wr σ 910 t (nI x)) 911 t (nI y)) := by
  obtain ⟨a1, a2, a3, a4, a5, a6⟩ := hE
  refine ⟨by simpa [wr_at, mid] using a1, by simpa [wr_at, mid] using a2, by simpa [wr_at, mid] using a3, fun q hq => ?_, fun s hs => ?_, fun k hk => ?_⟩
  · have := a4 q (by simpa [mid] using hq)
    simpa [wr_at, mid] using this
  · have := a5 s (by simpa [mid] using hs)
    by_cases z : s = t
    · subst z; simp [mid] at this; simp [wr_at, mid, this]
    · simp [mid] at this; simp [wr_at, mid, z, this]
  · have := a6 k hk
    refine ⟨by simpa [wr_at, mid] using this.1, fun i hi => ?_⟩
    have := this.2 i (by simpa [mid] using hi)
    simpa [wr_at, mid] using this
