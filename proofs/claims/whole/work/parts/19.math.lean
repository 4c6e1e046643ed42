/-! THE STATE: E 0 sex, 1 father, 2 mother, 3 spouse, 4 godchild, 5 lives; 6 kind, 7 worth, 8 holder, 9 other; 10 rules' digits (3 k + i), 11 rules' lengths; 12: people, things, draw -/
abbrev Es : Type := Nat → Nat → Nat
def eu (E : Es) (i j v : Nat) : Es := fun i' j' => if i' = i ∧ j' = j then v else E i' j'
def lvm (E : Es) : Nat := bits (fun p => E 5 p == 1) (E 12 0)
def rw8 (E : Es) (k : Nat) : Nat := E 10 (3 * k) + (if 2 ≤ E 11 k then 8 * E 10 (3 * k + 1) else 0) + (if 3 ≤ E 11 k then 64 * E 10 (3 * k + 2) else 0)
def faU (E : Es) : Nat → Nat → Nat
  | 0, h => h
  | n + 1, h => if E 1 h = 12 then h else faU E n (E 1 h)
def hous (E : Es) (p : Nat) : Nat := faU E 12 (if E 0 p = 1 ∧ E 3 p ≠ 12 then E 3 p else p)
def sib (E : Es) (a c : Nat) : Bool := a != c && ((E 1 a != 12 && E 1 a == E 1 c) || (E 2 a != 12 && E 2 a == E 2 c))
def chi (E : Es) (c p : Nat) : Bool := E 1 c == p || E 2 c == p
def psb (E : Es) (p c : Nat) : Bool := (E 1 c != 12 && sib E p (E 1 c)) || (E 2 c != 12 && sib E p (E 2 c))
def cou (E : Es) (a c : Nat) : Bool := ((E 1 c != 12 && psb E (E 1 c) a) || (E 2 c != 12 && psb E (E 2 c) a)) && a != c && !sib E a c
def rel (E : Es) (p q r : Nat) : Bool := match r with
  | 0 => E 0 q == 0 && chi E q p
  | 1 => E 0 q == 1 && chi E q p
  | 2 => sib E p q
  | 3 => cou E p q
  | 4 => E 3 p == q
  | _ => E 4 p == q
def kin (E : Es) (p r : Nat) : Nat := bits (fun q => E 5 q == 1 && q != p && rel E p q r) (E 12 0)
/-- the i-th of a set by numbers, among 12 - n and up; 12: there is none -/
def nthF (m : Nat) : Nat → Nat → Nat
  | 0, _ => 12
  | n + 1, i => if m.testBit (11 - n) then (if i = 0 then 11 - n else nthF m n (i - 1)) else nthF m n i
def low (m : Nat) : Nat := nthF m 12 0
def heiF (E : Es) (p k : Nat) : Nat → Nat → Nat
  | 0, _ => 12
  | n + 1, i => if kin E p (E 10 (3 * k + i)) = 0 then heiF E p k n (i + 1) else low (kin E p (E 10 (3 * k + i)))
def heir (E : Es) (p k : Nat) : Nat := heiF E p k (E 11 k) 0
/-- what a death does to one thing -/
def pas1 (E : Es) (p t : Nat) : Nat × Nat := if E 8 t = p then (heir E p (E 6 t), E 9 t) else if E 9 t = p then (if heir E p (if E 6 t = 1 then 0 else 2) = 12 then 12 else E 8 t, heir E p (if E 6 t = 1 then 0 else 2)) else (E 8 t, E 9 t)
def pas (E : Es) (p t : Nat) : Nat × Nat := if (pas1 E p t).1 = 12 then (12, 12) else if (pas1 E p t).1 = (pas1 E p t).2 then (13, 12) else pas1 E p t
def die (E : Es) (p : Nat) : Es := fun i j => if i = 8 ∧ j < E 12 1 then (pas E p j).1 else if i = 9 ∧ j < E 12 1 then (pas E p j).2 else if i = 5 ∧ j = p then 0 else if i = 3 ∧ E 3 p ≠ 12 ∧ j = E 3 p then 12 else E i j
def WfP (E : Es) (p : Nat) : Prop := E 0 p ≤ 1 ∧ E 5 p ≤ 1 ∧ (E 1 p = 12 ∨ (E 1 p < p ∧ E 0 (E 1 p) = 0)) ∧ (E 2 p = 12 ∨ (E 2 p < p ∧ E 0 (E 2 p) = 1)) ∧ (E 3 p = 12 ∨ (E 3 p < E 12 0 ∧ E 0 (E 3 p) ≠ E 0 p)) ∧ (E 4 p = 12 ∨ (E 4 p < E 12 0 ∧ E 4 p ≠ p)) ∧ (E 5 p = 1 → E 3 p ≠ 12 → E 3 (E 3 p) = p)
def WfT (E : Es) (t : Nat) : Prop := E 6 t ≤ 3 ∧ E 7 t ≤ 99 ∧ (E 8 t = 12 ∨ E 8 t = 13 ∨ E 8 t < E 12 0) ∧ (E 9 t = 12 ∨ E 9 t < E 12 0) ∧ (12 ≤ E 8 t → E 9 t = 12) ∧ (E 9 t < 12 → E 8 t ≠ E 9 t)
def WfR (E : Es) (k : Nat) : Prop := 1 ≤ E 11 k ∧ E 11 k ≤ 3 ∧ ∀ i, i < E 11 k → E 10 (3 * k + i) ≤ 5
def Wf (E : Es) : Prop := E 12 0 ≤ 12 ∧ E 12 1 ≤ 12 ∧ E 12 2 < 2147483648 ∧ (∀ p, p < E 12 0 → WfP E p) ∧ (∀ t, t < E 12 1 → WfT E t) ∧ (∀ k, k < 4 → WfR E k)
/-- the class's estate at b is E -/
def XE (b : Nat) (E : Es) (σ : St) : Prop :=
  σ b 0 = nI (E 12 0) ∧ σ b 1 = nI (lvm E) ∧ σ b 7 = nI (E 12 1) ∧ σ b 14 = nI (E 12 2) ∧
  (∀ p, p < E 12 0 → σ (b + 3) p = nI (E 0 p) ∧ σ (b + 4) p = nI (E 1 p) ∧ σ (b + 5) p = nI (E 2 p) ∧ σ (b + 6) p = nI (E 3 p) ∧ σ (b + 7) p = nI (E 4 p)) ∧
  (∀ t, t < E 12 1 → σ (b + 9) t = nI (E 6 t) ∧ σ (b + 10) t = nI (E 7 t) ∧ σ (b + 11) t = nI (E 8 t) ∧ σ (b + 12) t = nI (E 9 t)) ∧
  (∀ k, k < 4 → σ (b + 13) k = nI (rw8 E k) ∧ σ (b + 14) k = nI (E 11 k))
/-- the reference's estate is E -/
def ME (E : Es) (σ : St) : Prop :=
  σ 900 6 = nI (E 12 0) ∧ σ 900 11 = nI (E 12 1) ∧ σ 900 14 = nI (E 12 2) ∧
  (∀ p, p < E 12 0 → σ 901 p = nI (E 0 p) ∧ σ 902 p = nI (E 1 p) ∧ σ 903 p = nI (E 2 p) ∧ σ 904 p = nI (E 3 p) ∧ σ 905 p = nI (E 4 p) ∧ σ 906 p = nI (E 5 p)) ∧
  (∀ t, t < E 12 1 → σ 908 t = nI (E 6 t) ∧ σ 909 t = nI (E 7 t) ∧ σ 910 t = nI (E 8 t) ∧ σ 911 t = nI (E 9 t)) ∧
  (∀ k, k < 4 → σ 914 k = nI (E 11 k) ∧ ∀ i, i < E 11 k → σ 913 (3 * k + i) = nI (E 10 (3 * k + i)))
theorem lvm_lt {E : Es} (h : Wf E) : lvm E < 4096 := bits12 h.1
theorem lvm_tb {E : Es} (j : Nat) : (lvm E).testBit j = (decide (j < E 12 0) && E 5 j == 1) := bits_tb _ _ _
/-- a loop that gathers a set -/
theorem acc_t {f : Nat → Bool} {q : Nat} (h : f q = true) (hq : q < 12) : nI (bits f q) ||| nI 1 <<< (nI q &&& 31) = nI (bits f (q + 1)) := by
  rw [n_shl1 q (by omega), fa_or, bits_s h]
theorem p12 {E : Es} (h : Wf E) {p : Nat} (hp : p < E 12 0) : p < 12 := Nat.lt_of_lt_of_le hp h.1
theorem t12 {E : Es} (h : Wf E) {t : Nat} (ht : t < E 12 1) : t < 12 := Nat.lt_of_lt_of_le ht h.2.1
theorem fa12 {E : Es} (h : Wf E) {p : Nat} (hp : p < E 12 0) : E 1 p ≤ 12 := by
  have h1 := p12 h hp
  rcases (h.2.2.2.1 p hp).2.2.1 with q | q <;> omega
theorem mo12 {E : Es} (h : Wf E) {p : Nat} (hp : p < E 12 0) : E 2 p ≤ 12 := by
  have h1 := p12 h hp
  rcases (h.2.2.2.1 p hp).2.2.2.1 with q | q <;> omega
theorem sp12 {E : Es} (h : Wf E) {p : Nat} (hp : p < E 12 0) : E 3 p ≤ 12 := by
  have h1 := h.1
  rcases (h.2.2.2.1 p hp).2.2.2.2.1 with q | q <;> omega
theorem go12 {E : Es} (h : Wf E) {p : Nat} (hp : p < E 12 0) : E 4 p ≤ 12 := by
  have h1 := h.1
  rcases (h.2.2.2.1 p hp).2.2.2.2.2.1 with q | q <;> omega
def allL (E : Es) (m : Nat) : Bool := (List.range 12).all (fun j => !m.testBit j || (decide (j < E 12 0) && E 5 j == 1))
theorem allL_iff {E : Es} {m : Nat} : allL E m = true ↔ ∀ j, j < 12 → m.testBit j = true → j < E 12 0 ∧ E 5 j = 1 := by
  simp only [allL, List.all_eq_true, List.mem_range, Bool.or_eq_true, Bool.not_eq_true', Bool.and_eq_true, decide_eq_true_eq, beq_iff_eq]
  constructor
  · intro h j hj hm
    rcases h j hj with q | q
    · rw [q] at hm; cases hm
    · exact q
  · intro h j hj
    cases hm : m.testBit j with
    | false => exact Or.inl rfl
    | true => exact Or.inr (h j hj hm)
