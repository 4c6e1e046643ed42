theorem fa_and (a b : Nat) : nI a &&& nI b = nI (a &&& b) := by
  apply Int32.toBitVec_inj.1
  show BitVec.ofNat 32 a &&& BitVec.ofNat 32 b = BitVec.ofNat 32 (a &&& b)
  apply BitVec.eq_of_getLsbD_eq
  intro i hi
  simp [hi]
theorem fa_or (a b : Nat) : nI a ||| nI b = nI (a ||| b) := by
  apply Int32.toBitVec_inj.1
  show BitVec.ofNat 32 a ||| BitVec.ofNat 32 b = BitVec.ofNat 32 (a ||| b)
  apply BitVec.eq_of_getLsbD_eq
  intro i hi
  simp [hi]
theorem fa_xor (a b : Nat) : nI a ^^^ nI b = nI (a ^^^ b) := by
  apply Int32.toBitVec_inj.1
  show BitVec.ofNat 32 a ^^^ BitVec.ofNat 32 b = BitVec.ofNat 32 (a ^^^ b)
  apply BitVec.eq_of_getLsbD_eq
  intro i hi
  simp [hi]
theorem sh_l : ∀ n, n < 32 → ((nI n &&& 31).toBitVec.smod 32).toNat = n := by decide +kernel
theorem n_shr {m j : Nat} (hm : m < 2147483648) (hj : j < 32) : nI m >>> (nI j &&& 31) = nI (m / 2 ^ j) := pk_shrN hm _ j (sh_l j hj)
theorem n_shl1 : ∀ j, j < 31 → nI 1 <<< (nI j &&& 31) = nI (2 ^ j) := by decide +kernel
theorem n_and1 (m : Nat) : nI m &&& nI 1 = nI (m % 2) := by rw [fa_and, Nat.and_one_is_mod]
theorem tb_mod (m j : Nat) : m / 2 ^ j % 2 = (m.testBit j).toNat := by
  rw [Nat.testBit_eq_decide_div_mod_eq]
  have : m / 2 ^ j % 2 < 2 := Nat.mod_lt _ (by decide)
  by_cases h : m / 2 ^ j % 2 = 1
  · simp [h]
  · have h0 : m / 2 ^ j % 2 = 0 := by omega
    simp [h0]
theorem n_has {m j : Nat} (hm : m < 2147483648) (hj : j < 32) : (nI m >>> (nI j &&& 31) &&& nI 1 = nI 1) = (m.testBit j = true) := by
  rw [n_shr hm hj, n_and1, tb_mod]
  exact bI_eq1 _
theorem m1_n : (-1 : Int32) = nI 4294967295 := by decide
theorem n_not (a b : Nat) : nI a &&& (nI b ^^^ (-1)) = nI (a &&& (b ^^^ 4294967295)) := by rw [m1_n, fa_xor, fa_and]
theorem tb_not (b j : Nat) : (b ^^^ 4294967295).testBit j = (b.testBit j ^^ decide (j < 32)) := by
  rw [Nat.testBit_xor, show (4294967295 : Nat) = 2 ^ 32 - 1 by decide, Nat.testBit_two_pow_sub_one]
/-- a set out of a test -/
def bits (f : Nat → Bool) : Nat → Nat
  | 0 => 0
  | n + 1 => bits f n ||| (if f n then 2 ^ n else 0)
theorem bits_tb (f : Nat → Bool) : ∀ (n j : Nat), (bits f n).testBit j = (decide (j < n) && f j)
  | 0, j => by simp [bits]
  | n + 1, j => by
    rw [bits, Nat.testBit_or, bits_tb f n j]
    by_cases hj : j = n
    · subst hj
      cases f j <;> simp
    · have h2 : (if f n = true then 2 ^ n else 0).testBit j = false := by
        split
        · rw [Nat.testBit_two_pow]; simp; omega
        · simp
      rw [h2, Bool.or_false]
      by_cases h3 : j < n
      · simp [h3, Nat.lt_succ_of_lt h3]
      · have : ¬ j < n + 1 := by omega
        simp [h3, this]
theorem bits_lt (f : Nat → Bool) (n : Nat) : bits f n < 2 ^ n := by
  apply Nat.lt_pow_two_of_testBit
  intro i hi
  rw [bits_tb]
  simp; omega
theorem bits_ext {f g : Nat → Bool} {m n : Nat} (h : ∀ j, (decide (j < m) && f j) = (decide (j < n) && g j)) : bits f m = bits g n := by
  apply Nat.eq_of_testBit_eq
  intro j
  rw [bits_tb, bits_tb]
  exact h j
theorem bits_s {f : Nat → Bool} {n : Nat} (h : f n = true) : bits f (n + 1) = bits f n ||| 2 ^ n := by simp [bits, h]
theorem bits_s0 {f : Nat → Bool} {n : Nat} (h : f n = false) : bits f (n + 1) = bits f n := by simp [bits, h]
theorem bits12 {f : Nat → Bool} {n : Nat} (h : n ≤ 12) : bits f n < 4096 := Nat.lt_of_lt_of_le (bits_lt f n) (Nat.pow_le_pow_right (by decide) h)
