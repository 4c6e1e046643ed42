theorem kin_dead {E F : Es} {p r : Nat} (h : ∀ i, i ≠ 5 → i ≠ 8 → i ≠ 9 → F i = E i) (h5 : ∀ q, q ≠ p → F 5 q = E 5 q) : kin F p r = kin E p r := by
  have h0 := h 0 (by decide) (by decide) (by decide)
  have h1 := h 1 (by decide) (by decide) (by decide)
  have h2 := h 2 (by decide) (by decide) (by decide)
  have h3 := h 3 (by decide) (by decide) (by decide)
  have h4 := h 4 (by decide) (by decide) (by decide)
  have h12 := h 12 (by decide) (by decide) (by decide)
  have hs : ∀ a c, sib F a c = sib E a c := fun a c => by unfold sib; rw [h1, h2]
  have hp : ∀ a c, psb F a c = psb E a c := fun a c => by unfold psb; simp only [h1, h2, hs]
  have hr : ∀ q, rel F p q r = rel E p q r := fun q => by
    unfold rel
    split
    · simp only [chi, h0, h1, h2]
    · simp only [chi, h0, h1, h2]
    · exact hs _ _
    · simp only [cou, h1, h2, hs, hp]
    · rw [h3]
    · rw [h4]
  unfold kin
  rw [h12]
  congr 1
  funext q
  by_cases z : q = p
  · subst z; simp
  · rw [h5 q z, hr q]
theorem heir_dead {E F : Es} {p k : Nat} (h : ∀ i, i ≠ 5 → i ≠ 8 → i ≠ 9 → F i = E i) (h5 : ∀ q, q ≠ p → F 5 q = E 5 q) : heir F p k = heir E p k := by
  have h10 := h 10 (by decide) (by decide) (by decide)
  have h11 := h 11 (by decide) (by decide) (by decide)
  have hf : ∀ n i, heiF F p k n i = heiF E p k n i := fun n => by
    induction n with
    | zero => intro i; rfl
    | succ n ih =>
      intro i
      unfold heiF
      rw [h10, kin_dead h h5, ih]
  unfold heir
  rw [h11, hf]
