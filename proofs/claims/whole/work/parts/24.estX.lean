theorem wr_at (σ : St) (k j : Nat) (v : Int32) (k' j' : Nat) : wr σ k j v k' j' = if k' = k ∧ j' = j then v else σ k' j' := by
  unfold wr upd
  by_cases h : k' = k
  · subst h
    by_cases h2 : j' = j <;> simp [h2]
  · simp [h]
theorem wrR_at (σ : St) (k : Nat) (f : Nat → Int32) (k' : Nat) : wrR σ k f k' = if k' = k then f else σ k' := rfl
theorem wrq : (∀ (σ : St) (k j : Nat) (v : Int32) (k' : Nat), k' ≠ k → wr σ k j v k' = σ k') ∧ (∀ (σ : St) (k j : Nat) (v : Int32), wr σ k j v k j = v) ∧ (∀ (σ : St) (k j : Nat) (v : Int32) (j' : Nat), j' ≠ j → wr σ k j v k j' = σ k j') ∧ (∀ (σ : St) (k : Nat) (f : Nat → Int32) (k' : Nat), k' ≠ k → wrR σ k f k' = σ k') ∧ (∀ (σ : St) (k : Nat) (f : Nat → Int32), wrR σ k f k = f) :=
  ⟨fun σ k j v k' h => wr_ne k' h, fun σ k j v => by simp [wr_at], fun σ k j v j' h => by simp [wr_at, h], fun σ k f k' h => wrR_ne k' h, fun σ k f => by simp [wrR]⟩
/-- only the estate at b has changed -/
def FrE (b : Nat) (σ σ' : St) : Prop := ∀ k, k < b ∨ b + 15 ≤ k → σ' k = σ k
theorem FrE.rfl' {b : Nat} {σ : St} : FrE b σ σ := fun _ _ => rfl
theorem FrE.trans {b : Nat} {σ σ' σ'' : St} (h : FrE b σ σ') (h2 : FrE b σ' σ'') : FrE b σ σ'' := fun k hk => (h2 k hk).trans (h k hk)
theorem FrE.wr {b : Nat} {σ σ' : St} {k j : Nat} {v : Int32} (h : FrE b σ σ') (hk : b ≤ k ∧ k < b + 15) : FrE b σ (wr σ' k j v) := fun k' hk' => by rw [wr_ne k' (by omega)]; exact h k' hk'
theorem FrE.wrR {b : Nat} {σ σ' : St} {k : Nat} {f : Nat → Int32} (h : FrE b σ σ') (hk : b ≤ k ∧ k < b + 15) : FrE b σ (wrR σ' k f) := fun k' hk' => by rw [wrR_ne k' (by omega)]; exact h k' hk'
theorem XE.frame {b : Nat} {E : Es} {σ σ' : St} (h : XE b E σ) (hf : ∀ k, b ≤ k → k < b + 15 → σ' k = σ k) : XE b E σ' := by
  unfold XE at h ⊢
  rw [hf b (by omega) (by omega), hf (b + 3) (by omega) (by omega), hf (b + 4) (by omega) (by omega), hf (b + 5) (by omega) (by omega), hf (b + 6) (by omega) (by omega), hf (b + 7) (by omega) (by omega), hf (b + 9) (by omega) (by omega), hf (b + 10) (by omega) (by omega), hf (b + 11) (by omega) (by omega), hf (b + 12) (by omega) (by omega), hf (b + 13) (by omega) (by omega), hf (b + 14) (by omega) (by omega)]
  exact h
/-- an estate tells E by E's used places alone -/
theorem XE.ext {b : Nat} {E E' : Es} {σ : St} (h : XE b E σ) (h0 : E' 12 0 = E 12 0) (h1 : E' 12 1 = E 12 1) (h2 : E' 12 2 = E 12 2) (hp : ∀ i p, i ≤ 5 → p < E 12 0 → E' i p = E i p) (ht : ∀ i t, 6 ≤ i → i ≤ 9 → t < E 12 1 → E' i t = E i t) (hr : ∀ i j, i = 10 ∨ i = 11 → E' i j = E i j) : XE b E' σ := by
  obtain ⟨a1, a2, a3, a4, a5, a6, a7⟩ := h
  have hl : lvm E' = lvm E := by
    unfold lvm
    rw [h0]
    apply bits_ext
    intro j
    by_cases hj : j < E 12 0
    · rw [hp 5 j (by omega) hj]
    · simp [hj]
  have hr8 : ∀ k, rw8 E' k = rw8 E k := fun k => by unfold rw8; rw [hr 10 _ (Or.inl rfl), hr 11 _ (Or.inr rfl), hr 10 _ (Or.inl rfl), hr 10 _ (Or.inl rfl)]
  refine ⟨by rw [h0]; exact a1, by rw [hl]; exact a2, by rw [h1]; exact a3, by rw [h2]; exact a4, fun p hq => ?_, fun t hq => ?_, fun k hk => ?_⟩
  · rw [h0] at hq
    rw [hp 0 p (by omega) hq, hp 1 p (by omega) hq, hp 2 p (by omega) hq, hp 3 p (by omega) hq, hp 4 p (by omega) hq]
    exact a5 p hq
  · rw [h1] at hq
    rw [ht 6 t (by omega) (by omega) hq, ht 7 t (by omega) (by omega) hq, ht 8 t (by omega) (by omega) hq, ht 9 t (by omega) (by omega) hq]
    exact a6 t hq
  · rw [hr8, hr 11 _ (Or.inr rfl)]
    exact a7 k hk
def addE (E : Es) (s f m : Nat) : Es := fun i j => if j = E 12 0 ∧ i = 0 then s else if j = E 12 0 ∧ i = 1 then f else if j = E 12 0 ∧ i = 2 then m else if j = E 12 0 ∧ (i = 3 ∨ i = 4) then 12 else if j = E 12 0 ∧ i = 5 then 1 else if i = 12 ∧ j = 0 then E 12 0 + 1 else E i j
theorem addE_old {E : Es} {s f m i j : Nat} (h : j ≠ E 12 0) (h2 : i ≠ 12) : addE E s f m i j = E i j := by simp [addE, h, h2]
theorem lvm_add (E : Es) (s f m : Nat) : lvm (addE E s f m) = lvm E ||| 2 ^ E 12 0 := by
  unfold lvm
  have e : addE E s f m 12 0 = E 12 0 + 1 := by simp [addE]
  rw [e, bits_s (by simp [addE])]
  congr 1
  apply bits_ext
  intro j
  by_cases hj : j < E 12 0
  · rw [addE_old (by omega) (by decide)]
  · simp [hj]
theorem x_addPerson {l : Launch} {b s f m : Nat} {E : Es} {σ : St} {K : Int32 → St → Prop} (hb : Eb b) (hW : Wf E) (hE : XE b E σ) (hF : 12 ≤ E 12 0 → K (-3) σ) (hK : E 12 0 < 12 → ∀ σ', XE b (addE E s f m) σ' → FrE b σ σ' → K (nI (E 12 0)) σ') : CallAt l 8 [.ref b, .int (nI s), .int (nI f), .int (nI m)] σ K := by
  have hn12 := hW.1
  by_cases hn : 12 ≤ E 12 0
  · refine CallAt.of (k := 8) (cd := k_X0_addPerson) ok_X0_addPerson (by decide) rfl rfl rfl ?_
    show V _ i_X0_addPerson k_X0_addPerson 0 [.ref b, .int (nI s), .int (nI f), .int (nI m), .null] [] _ _
    refine V_run ok_X0_addPerson 60 0 ?_
    simp (disch := omega) only [eng, c_X0_addPerson, r_X0_addPerson, tbl, true_and, Nat.reduceAdd, Nat.reduceLT, ↓reduceIte, n_eq, n_lt, n_le, n_cl, n_inT, nI_add, bI_eq0, bI_eq1, not_true_eq_false, not_false_eq_true, true_implies, false_implies, implies_true, and_true, Bool.not_eq_false, Bool.not_eq_true, Nat.reduceEqDiff, Nat.reduceLeDiff, Classical.not_not, List.length_cons, List.length_nil, Int.reduceAdd, z_cast, Nat.reducePow, false_or, Nat.reduceLT, Nat.sub_zero, Nat.le_refl, ebT hb, hE.1, Nat.not_lt.mpr hn]
    try simp only [iteP, Classical.not_not, Bool.not_eq_false, Bool.not_eq_true]
    exact hF hn
  · have e1 := n_shl1 (E 12 0) (by omega)
    refine CallAt.of (k := 8) (cd := k_X0_addPerson) ok_X0_addPerson (by decide) rfl rfl rfl ?_
    show V _ i_X0_addPerson k_X0_addPerson 0 [.ref b, .int (nI s), .int (nI f), .int (nI m), .null] [] _ _
    refine V_run ok_X0_addPerson 60 0 ?_
    simp (disch := omega) only [eng, c_X0_addPerson, r_X0_addPerson, tbl, true_and, Nat.reduceAdd, Nat.reduceLT, ↓reduceIte, n_eq, n_lt, n_le, n_cl, n_inT, nI_add, bI_eq0, bI_eq1, not_true_eq_false, not_false_eq_true, true_implies, false_implies, implies_true, and_true, Bool.not_eq_false, Bool.not_eq_true, Nat.reduceEqDiff, Nat.reduceLeDiff, Classical.not_not, List.length_cons, List.length_nil, Int.reduceAdd, z_cast, Nat.reducePow, false_or, Nat.reduceLT, Nat.sub_zero, Nat.le_refl, ebT hb, hE.1, Nat.not_le.mp hn, e1, wrq, hE.2.1]
    try simp only [iteP, Classical.not_not, Bool.not_eq_false, Bool.not_eq_true]
    have hs : ∀ v w : Int32, FrE b σ (wr (wr (wr (wr (wr (wr (wr σ (b + 3) (E 12 0) (nI s)) (b + 4) (E 12 0) (nI f)) (b + 5) (E 12 0) (nI m)) (b + 6) (E 12 0) (nI 12)) (b + 7) (E 12 0) (nI 12)) b 1 v) b 0 w) := fun v w => ((((((FrE.rfl'.wr (by omega)).wr (by omega)).wr (by omega)).wr (by omega)).wr (by omega)).wr (by omega)).wr (by omega)
    refine hK (by omega) _ ?_ (hs _ _)
    obtain ⟨a1, a2, a3, a4, a5, a6, a7⟩ := hE
    have e : addE E s f m 12 0 = E 12 0 + 1 := by simp [addE]
    have e' : addE E s f m 12 1 = E 12 1 := by simp [addE]
    have e'' : addE E s f m 12 2 = E 12 2 := by simp [addE]
    refine ⟨by simp [wr_at, e], ?_, by simp [wr_at, e', a3], by simp [wr_at, e'', a4], ?_, ?_, ?_⟩
    · rw [lvm_add, ← fa_or]; simp [wr_at, a2]
    · intro p hp
      rw [e] at hp
      by_cases hpn : p = E 12 0
      · subst hpn
        simp [wr_at, addE]
      · have := a5 p (by omega)
        simp [wr_at, hpn, this, addE_old hpn]
    · intro t ht
      rw [e'] at ht
      have := a6 t ht
      simp [wr_at, this, addE]
    · intro k hk
      have := a7 k hk
      have e8 : rw8 (addE E s f m) k = rw8 E k := by simp [rw8, addE]
      simp [wr_at, this, e8, addE]
