/-! a call is met by a walk of the method from its first instruction -/
theorem CallAt.of {l : Launch} {k : Nat} {cd : List Ins} {as : List Value} {σ : St} {K : Int32 → St → Prop} (hok : okCode (mT k) cd = true) (hpl : plainName (mT k).1.cls = true) (hown : (mT k).1.cls = Rn (mT k).2.2.2.2.2) (h0 : pcA cd 0 = 0) (hlen : decide ((argL as).length ≤ (mT k).2.2.1) = true) (hV : V l (mT k) cd 0 (ent (mT k).2.2.1 as) [] σ K) : CallAt l k as σ K :=
  ⟨fun as' σ' Q' => (argL as').length ≤ (mT k).2.2.1 ∧ V l (mT k) cd 0 (ent (mT k).2.2.1 as') [] σ' Q', AMet.of hok hpl hown h0 (fun _ _ _ h => h), of_decide_eq_true hlen, hV⟩
/-- the places of the four estates -/
def Eb (b : Nat) : Prop := b = 100 ∨ b = 200 ∨ b = 300 ∨ b = 800
theorem ebT {b : Nat} (h : Eb b) : clsOf b = 0 ∧ clsOf (b + 3) = 7 ∧ clsOf (b + 4) = 7 ∧ clsOf (b + 5) = 7 ∧ clsOf (b + 6) = 7 ∧ clsOf (b + 7) = 7 ∧ clsOf (b + 9) = 7 ∧ clsOf (b + 10) = 7 ∧ clsOf (b + 11) = 7 ∧ clsOf (b + 12) = 7 ∧ clsOf (b + 13) = 7 ∧ clsOf (b + 14) = 7 ∧ lenOf (b + 3) = 12 ∧ lenOf (b + 4) = 12 ∧ lenOf (b + 5) = 12 ∧ lenOf (b + 6) = 12 ∧ lenOf (b + 7) = 12 ∧ lenOf (b + 9) = 12 ∧ lenOf (b + 10) = 12 ∧ lenOf (b + 11) = 12 ∧ lenOf (b + 12) = 12 ∧ lenOf (b + 13) = 4 ∧ lenOf (b + 14) = 4 := by
  rcases h with rfl | rfl | rfl | rfl <;> exact ⟨rfl, rfl, rfl, rfl, rfl, rfl, rfl, rfl, rfl, rfl, rfl, rfl, rfl, rfl, rfl, rfl, rfl, rfl, rfl, rfl, rfl, rfl, rfl⟩
/-! numbers -/
def bI (b : Bool) : Int32 := nI b.toNat
def inB (x : Int32) (n : Nat) : Bool := decide (0 ≤ x.toInt ∧ x.toInt < n)
theorem bI_t : bI true = nI 1 := rfl
theorem bI_f : bI false = nI 0 := rfl
theorem nI_nn (a : Nat) (h : a < 2147483648) : (nI a).toInt = (a : Int) := nI_toInt h
theorem i_lt (x y : Int32) : (x < y) = (x.toInt < y.toInt) := propext Int32.lt_iff_toInt_lt
theorem i_le (x y : Int32) : (x ≤ y) = (x.toInt ≤ y.toInt) := propext Int32.le_iff_toInt_le
theorem i_eq (x y : Int32) : (x = y) = (x.toInt = y.toInt) := propext ⟨fun h => by rw [h], fun h => Int32.toInt_inj.mp h⟩
theorem bI_eq0 (b : Bool) : (bI b = nI 0) = (b = false) := by cases b <;> simp [bI, i_eq, nI_nn]
theorem bI_eq1 (b : Bool) : (bI b = nI 1) = (b = true) := by cases b <;> simp [bI, i_eq, nI_nn]
theorem n_lt {a b : Nat} (ha : a < 2147483648) (hb : b < 2147483648) : (nI a < nI b) = (a < b) := propext (nI_ltI ha hb)
theorem n_le {a b : Nat} (ha : a < 2147483648) (hb : b < 2147483648) : (nI a ≤ nI b) = (a ≤ b) := propext (nI_leI ha hb)
theorem n_eq {a b : Nat} (ha : a < 2147483648) (hb : b < 2147483648) : (nI a = nI b) = (a = b) := propext (nI_eq ha hb)
theorem n_cl {a : Nat} (ha : a < 2147483648) : (nI a).toNatClampNeg = a := nI_clamp ha
theorem n_in {a n : Nat} (ha : a < n) (hn : n < 2147483648) : vp_in (nI a) n := vp_in_nI ha hn
theorem inB_n {j n : Nat} (hj : j < 2147483648) : inB (nI j) n = decide (j < n) := by
  simp [inB, nI_nn j hj]
theorem inB_neg {x : Int32} {n : Nat} (h : x < nI 0) : inB x n = false := by
  rw [i_lt, nI_nn 0 (by decide)] at h
  simp [inB]; omega
theorem inB_big {x : Int32} {n : Nat} (hn : n < 2147483648) (h : nI n ≤ x) : inB x n = false := by
  rw [i_le, nI_nn n hn] at h
  simp [inB]; omega
theorem inB_ok {x : Int32} {n : Nat} (hn : n < 2147483648) (h0 : ¬ x < nI 0) (h : ¬ nI n ≤ x) : inB x n = true := by
  rw [i_lt, nI_nn 0 (by decide)] at h0
  rw [i_le, nI_nn n hn] at h
  simp [inB]; omega
theorem inB_of {x : Int32} {n : Nat} (h : inB x n = true) : ∃ j : Nat, j < n ∧ x = nI j := by
  simp only [inB, decide_eq_true_eq] at h
  have h3 : ¬ x < 0 := by rw [i_lt]; simpa using h.1
  obtain ⟨j, hj, rfl⟩ := nI_of h3
  rw [nI_toInt hj] at h
  exact ⟨j, by omega, rfl⟩
theorem n_inT {a n : Nat} (ha : a < n) (hn : n < 2147483648) : vp_in (nI a) n = True := eq_true (vp_in_nI ha hn)
theorem z_cast : (((4 : Nat) : Int) = 4) ∧ (((6 : Nat) : Int) = 6) ∧ (((7 : Nat) : Int) = 7) ∧ (((31 : Nat) : Int) = 31) := ⟨rfl, rfl, rfl, rfl⟩
