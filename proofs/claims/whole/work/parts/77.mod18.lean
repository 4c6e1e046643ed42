/-! a death in three rounds over the things -/
def d1 (E : Es) (p t : Nat) : Nat × Nat := if E 8 t = p then (heir E p (E 6 t), if heir E p (E 6 t) = 12 then 12 else E 9 t) else (E 8 t, E 9 t)
def d2 (E : Es) (p t : Nat) : Nat × Nat := if (d1 E p t).1 < 12 ∧ (d1 E p t).2 = p then (if heir E p (if E 6 t = 1 then 0 else 2) = 12 then (12, 12) else ((d1 E p t).1, heir E p (if E 6 t = 1 then 0 else 2))) else d1 E p t
def d3 (E : Es) (p t : Nat) : Nat × Nat := if (d2 E p t).1 < 12 ∧ (d2 E p t).1 = (d2 E p t).2 then (13, 12) else d2 E p t
theorem d3_pas {E : Es} (hW : Wf E) {p t : Nat} (hp : p < E 12 0) (ht : t < E 12 1) : d3 E p t = pas E p t := by
  have hp12 := p12 hW hp
  have wt := hW.2.2.2.2.1 t ht
  have w5 := wt.2.2.2.2.1
  have w6 := wt.2.2.2.2.2
  have h14 := ho14 hW ht
  have h15 := ot12 hW ht
  have g1 := heir12 hW p (E 6 t)
  have g2 := heir12 hW p (if E 6 t = 1 then 0 else 2)
  unfold d3 d2 d1 pas pas1
  generalize heir E p (E 6 t) = a at g1 ⊢
  generalize heir E p (if E 6 t = 1 then 0 else 2) = b at g2 ⊢
  by_cases z1 : E 8 t = p
  · have z2 : E 9 t ≠ p := fun z => w6 (by omega) (by omega)
    simp only [z1, if_true]
    by_cases z3 : a = 12
    · have : ¬ ((12 : Nat) = p) := by omega
      simp [z3, this]
    · have z4 : a < 12 := by omega
      simp [z3, z2, z4]
  · simp only [z1, if_false]
    by_cases z2 : E 9 t = p
    · have z8 : E 8 t < 12 := by
        by_cases q : 12 ≤ E 8 t
        · have := w5 q; omega
        · omega
      have z9 : ¬ E 8 t = 12 := by omega
      simp only [z2, z8, and_self, if_true]
      by_cases z3 : b = 12
      · simp [z3]
      · simp [z3, z8, z9]
    · simp only [z2, and_false, if_false]
      by_cases z3 : E 8 t = 12
      · have := w5 (by omega)
        simp [z3, this]
      · by_cases z4 : E 8 t = E 9 t
        · have z8 : E 8 t < 12 := by
            by_cases q : 12 ≤ E 8 t
            · have := w5 q; omega
            · omega
          exact absurd z4 (w6 (by omega))
        · simp [z3, z4]
