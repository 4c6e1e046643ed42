/-! a death -/
theorem kin_thing (E : Es) (t x y p r : Nat) : kin (eu (eu E 8 t x) 9 t y) p r = kin E p r := by
  simp [kin, eu, rel, chi, sib, cou, psb]
theorem heiF_thing (E : Es) (t x y p k : Nat) : ∀ n i, heiF (eu (eu E 8 t x) 9 t y) p k n i = heiF E p k n i
  | 0, i => rfl
  | n + 1, i => by
    unfold heiF
    rw [kin_thing, heiF_thing E t x y p k n (i + 1)]
    simp [eu]
theorem heir_thing (E : Es) (t x y p k : Nat) : heir (eu (eu E 8 t x) 9 t y) p k = heir E p k := by
  unfold heir
  rw [heiF_thing]
  simp [eu]
theorem pas_ok {E : Es} (hW : Wf E) {p t : Nat} (hp : p < E 12 0) (ht : t < E 12 1) : ((pas E p t).1 = 12 ∨ (pas E p t).1 = 13 ∨ (pas E p t).1 < E 12 0) ∧ ((pas E p t).2 = 12 ∨ (pas E p t).2 < E 12 0) ∧ (12 ≤ (pas E p t).1 → (pas E p t).2 = 12) ∧ ((pas E p t).2 < 12 → (pas E p t).1 ≠ (pas E p t).2) := by
  have hn := hW.1
  obtain ⟨-, -, h3, h4, h5, h6⟩ := hW.2.2.2.2.1 t ht
  have key : ((pas1 E p t).1 = 12 ∨ (pas1 E p t).1 = 13 ∨ (pas1 E p t).1 < E 12 0) ∧ ((pas1 E p t).2 = 12 ∨ (pas1 E p t).2 < E 12 0) ∧ ((pas1 E p t).1 = 13 → (pas1 E p t).2 = 12) := by
    unfold pas1
    by_cases c1 : E 8 t = p
    · rw [if_pos c1]
      have := heir_lt E p (E 6 t)
      exact ⟨by rcases this with q | q; exact Or.inl q; exact Or.inr (Or.inr q), h4, fun z => by dsimp only at z; rcases this with q | q <;> omega⟩
    · rw [if_neg c1]
      by_cases c2 : E 9 t = p
      · rw [if_pos c2]
        have := heir_lt E p (if E 6 t = 1 then 0 else 2)
        refine ⟨?_, this, fun z => ?_⟩
        · dsimp only; split
          · exact Or.inl rfl
          · exact h3
        · dsimp only at z ⊢
          split at z
          · cases z
          · have := h5 (by omega); omega
      · rw [if_neg c2]
        exact ⟨h3, h4, fun z => h5 (by dsimp only at z; omega)⟩
  unfold pas
  by_cases g1 : (pas1 E p t).1 = 12
  · rw [if_pos g1]
    exact ⟨Or.inl rfl, Or.inl rfl, fun _ => rfl, fun z => absurd z (by decide)⟩
  · rw [if_neg g1]
    by_cases g2 : (pas1 E p t).1 = (pas1 E p t).2
    · rw [if_pos g2]
      exact ⟨Or.inr (Or.inl rfl), Or.inl rfl, fun _ => rfl, fun z => absurd z (by decide)⟩
    · rw [if_neg g2]
      refine ⟨key.1, key.2.1, fun z => ?_, fun _ => g2⟩
      rcases key.1 with q | q | q
      · exact absurd q g1
      · exact key.2.2 q
      · omega
theorem Wf.thing {E : Es} (hW : Wf E) {t x y : Nat} (ht : t < E 12 1) (h : (x = 12 ∨ x = 13 ∨ x < E 12 0) ∧ (y = 12 ∨ y < E 12 0) ∧ (12 ≤ x → y = 12) ∧ (y < 12 → x ≠ y)) : Wf (eu (eu E 8 t x) 9 t y) := by
  obtain ⟨a1, a2, a3, a4, a5, a6⟩ := hW
  refine ⟨by simpa [eu] using a1, by simpa [eu] using a2, by simpa [eu] using a3, fun p hp => ?_, fun t' ht' => ?_, fun k hk => ?_⟩
  · have := a4 p (by simpa [eu] using hp)
    simpa [WfP, eu] using this
  · have := a5 t' (by simpa [eu] using ht')
    by_cases e : t' = t
    · subst e
      have e8 : eu (eu E 8 t' x) 9 t' y 8 t' = x := by simp [eu]
      have e9 : eu (eu E 8 t' x) 9 t' y 9 t' = y := by simp [eu]
      have e6 : eu (eu E 8 t' x) 9 t' y 6 t' = E 6 t' := by simp [eu]
      have e7 : eu (eu E 8 t' x) 9 t' y 7 t' = E 7 t' := by simp [eu]
      have e0 : eu (eu E 8 t' x) 9 t' y 12 0 = E 12 0 := by simp [eu]
      unfold WfT
      rw [e8, e9, e6, e7, e0]
      exact ⟨this.1, this.2.1, h⟩
    · simpa [WfT, eu, e] using this
  · simpa [WfR, eu] using a6 k hk
theorem Wf.pst {E : Es} (hW : Wf E) {p t : Nat} (hp : p < E 12 0) (ht : t < E 12 1) : Wf (pst E p t) := hW.thing ht (pas_ok hW hp ht)
/-- the first n things have passed -/
def psn (E : Es) (p n : Nat) : Es := fun i j => if i = 8 ∧ j < n then (pas E p j).1 else if i = 9 ∧ j < n then (pas E p j).2 else E i j
theorem psn_0 (E : Es) (p : Nat) : psn E p 0 = E := by funext i j; simp [psn]
theorem pas_cong {E E' : Es} {p t : Nat} (h8 : E' 8 t = E 8 t) (h9 : E' 9 t = E 9 t) (h6 : E' 6 t = E 6 t) (hh : ∀ k, heir E' p k = heir E p k) : pas E' p t = pas E p t := by
  have : pas1 E' p t = pas1 E p t := by unfold pas1; rw [h8, h9, h6, hh, hh]
  unfold pas; rw [this]
theorem kin_psn (E : Es) (p n q r : Nat) : kin (psn E p n) q r = kin E q r := by
  simp [kin, psn, rel, chi, sib, cou, psb]
theorem heir_psn (E : Es) (p n q k : Nat) : heir (psn E p n) q k = heir E q k := by
  have key : ∀ m i, heiF (psn E p n) q k m i = heiF E q k m i := by
    intro m
    induction m with
    | zero => intro i; rfl
    | succ m ih => intro i; unfold heiF; rw [kin_psn, ih]; simp [psn]
  unfold heir
  rw [key]
  simp [psn]
theorem psn_s (E : Es) (p n : Nat) : psn E p (n + 1) = pst (psn E p n) p n := by
  have e : pas (psn E p n) p n = pas E p n := pas_cong (by simp [psn]) (by simp [psn]) (by simp [psn]) (fun k => heir_psn E p n p k)
  unfold pst
  rw [e]
  funext i j
  simp only [psn, eu]
  by_cases h9 : i = 9
  · subst h9
    by_cases hj : j = n
    · subst hj; simp
    · by_cases hl : j < n
      · have : j < n + 1 := by omega
        simp [hj, hl, this]
      · have : ¬ j < n + 1 := by omega
        simp [hj, hl, this]
  · by_cases h8 : i = 8
    · subst h8
      by_cases hj : j = n
      · subst hj; simp
      · by_cases hl : j < n
        · have : j < n + 1 := by omega
          simp [hj, hl, this]
        · have : ¬ j < n + 1 := by omega
          simp [hj, hl, this]
    · simp [h8, h9]
theorem psn_12 (E : Es) (p n j : Nat) : psn E p n 12 j = E 12 j := by simp [psn]
theorem Wf.psn {E : Es} (hW : Wf E) {p : Nat} (hp : p < E 12 0) : ∀ n, n ≤ E 12 1 → Wf (psn E p n)
  | 0, _ => by rw [psn_0]; exact hW
  | n + 1, h => by
    rw [psn_s]
    exact (Wf.psn hW hp n (by omega)).pst (by rw [psn_12]; exact hp) (by rw [psn_12]; omega)
/-- burying p: dead, the spouse has none -/
def bur (E : Es) (p : Nat) : Es := fun i j => if i = 5 ∧ j = p then 0 else if i = 3 ∧ E 3 p ≠ 12 ∧ j = E 3 p then 12 else E i j
theorem die_eq (E : Es) (p : Nat) : die E p = bur (psn E p (E 12 1)) p := by
  funext i j
  simp only [die, bur, psn]
  by_cases h8 : i = 8
  · subst h8; simp
  · by_cases h9 : i = 9
    · subst h9; simp
    · simp [h8, h9]
theorem lvm_bur {E : Es} {p : Nat} (hp : p < 32) : lvm (bur E p) = lvm E &&& (2 ^ p ^^^ 4294967295) := by
  apply Nat.eq_of_testBit_eq
  intro j
  rw [Nat.testBit_and, tb_not, tb_2, lvm_tb, lvm_tb]
  have e : bur E p 12 0 = E 12 0 := by simp [bur]
  rw [e]
  by_cases hj : j = p
  · subst hj
    simp [bur, hp]
  · have h1 : bur E p 5 j = E 5 j := by simp [bur, hj]
    rw [h1]
    by_cases h32 : j < 32
    · simp [h32, Ne.symm hj]
    · have h33 : decide (j < 32) = false := by simp; omega
      have h34 : decide (p = j) = false := by simp; omega
      rw [h33, h34]
      sorry
