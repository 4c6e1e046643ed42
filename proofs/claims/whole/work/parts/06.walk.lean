theorem cl_at {ci : Nat} (h : ci < 7) : vwCl[ci]? = some (Rn ci, Tn ci, nF ci) := by
  rcases (show ci = 0 ∨ ci = 1 ∨ ci = 2 ∨ ci = 3 ∨ ci = 4 ∨ ci = 5 ∨ ci = 6 by omega) with rfl | rfl | rfl | rfl | rfl | rfl | rfl <;> rfl
theorem cl_in {ci : Nat} (h : ci < 7) : ∀ w ∈ u_ws (Rn ci) (Tn ci) (nF ci), w ∈ BIG := by
  intro w hw
  rcases (show ci = 0 ∨ ci = 1 ∨ ci = 2 ∨ ci = 3 ∨ ci = 4 ∨ ci = 5 ∨ ci = 6 by omega) with rfl | rfl | rfl | rfl | rfl | rfl | rfl
  · exact List.mem_filter.mpr ⟨in_X0 w hw, ig_X0 w hw⟩
  · exact List.mem_filter.mpr ⟨in_X1 w hw, ig_X1 w hw⟩
  · exact List.mem_filter.mpr ⟨in_X2 w hw, ig_X2 w hw⟩
  · exact List.mem_filter.mpr ⟨in_X3 w hw, ig_X3 w hw⟩
  · exact List.mem_filter.mpr ⟨in_X4 w hw, ig_X4 w hw⟩
  · exact List.mem_filter.mpr ⟨in_X5 w hw, ig_X5 w hw⟩
  · exact List.mem_filter.mpr ⟨in_X6 w hw, ig_X6 w hw⟩
theorem cl_ty {ci : Nat} (h : ci < 7) : ∀ k, k < nF ci → parseFieldDescriptor (Tn ci k).2.2.1 = some (tyn ci k) := by
  rcases (show ci = 0 ∨ ci = 1 ∨ ci = 2 ∨ ci = 3 ∨ ci = 4 ∨ ci = 5 ∨ ci = 6 by omega) with rfl | rfl | rfl | rfl | rfl | rfl | rfl
  · exact tyX0_ok
  · exact tyX1_ok
  · exact tyX2_ok
  · exact tyX3_ok
  · exact tyX4_ok
  · exact tyX5_ok
  · exact tyX6_ok
theorem cl_nm {ci : Nat} (h : ci < 7) : ∀ a, a < nF ci → ∀ b, b < nF ci → a ≠ b → (Tn ci a).2.1 ≠ (Tn ci b).2.1 := by
  rcases (show ci = 0 ∨ ci = 1 ∨ ci = 2 ∨ ci = 3 ∨ ci = 4 ∨ ci = 5 ∨ ci = 6 by omega) with rfl | rfl | rfl | rfl | rfl | rfl | rfl
  · exact nmX0
  · exact nmX1
  · exact nmX2
  · exact nmX3
  · exact nmX4
  · exact nmX5
  · exact nmX6
theorem fl_big {own x ci j : Nat} (h : fLT.any (fun q => q.1 == own && q.2.1 == x && q.2.2.1 == ci && q.2.2.2.1 == j) = true) : Cond.fieldLink (Rn own) x (Tn ci j).1 (Tn ci j).2.1 (Tn ci j).2.2.1 ∈ BIG := by
  obtain ⟨q, hq, h2⟩ := List.any_eq_true.mp h
  simp only [Bool.and_eq_true, beq_iff_eq] at h2
  obtain ⟨⟨⟨rfl, rfl⟩, rfl⟩, rfl⟩ := h2
  exact big_at _ (of_decide_eq_true (List.all_eq_true.mp fLT_ok q hq)) rfl
theorem ml_big {own x k : Nat} (h : mLT.any (fun q => q.1 == own && q.2.1 == x && q.2.2.1 == k) = true) : Cond.methodLink (Rn own) x (mT k).1 ∈ BIG := by
  obtain ⟨q, hq, h2⟩ := List.any_eq_true.mp h
  simp only [Bool.and_eq_true, beq_iff_eq] at h2
  obtain ⟨⟨rfl, rfl⟩, rfl⟩ := h2
  exact big_at _ (of_decide_eq_true (List.all_eq_true.mp mLT_ok q hq)) rfl
theorem mn_nest {own x k : Nat} (h : mLN.any (fun q => q.1 == own && q.2.1 == x && q.2.2.1 == k) = true) : Cond.methodLinkNest (Rn own) x (mT k).1 RX5 ∈ nestL := by
  obtain ⟨q, hq, h2⟩ := List.any_eq_true.mp h
  simp only [Bool.and_eq_true, beq_iff_eq] at h2
  obtain ⟨⟨rfl, rfl⟩, rfl⟩ := h2
  exact List.mem_map.mpr ⟨q, hq, rfl⟩
theorem ci_big {own x : Nat} {v : Int32} (h : cIT.any (fun q => q.1 == own && q.2.1 == x && decide (q.2.2.1 = v)) = true) : Cond.constant (Rn own) x v ∈ BIG := by
  obtain ⟨q, hq, h2⟩ := List.any_eq_true.mp h
  simp only [Bool.and_eq_true, beq_iff_eq, decide_eq_true_eq] at h2
  obtain ⟨⟨rfl, rfl⟩, rfl⟩ := h2
  exact big_at _ (of_decide_eq_true (List.all_eq_true.mp cIT_ok q hq)) rfl
theorem cl_big {own x : Nat} {v : Int64} (h : cLT.any (fun q => q.1 == own && q.2.1 == x && decide (q.2.2.1 = v)) = true) : Cond.constantLong (Rn own) x v ∈ BIG := by
  obtain ⟨q, hq, h2⟩ := List.any_eq_true.mp h
  simp only [Bool.and_eq_true, beq_iff_eq, decide_eq_true_eq] at h2
  obtain ⟨⟨rfl, rfl⟩, rfl⟩ := h2
  exact big_at _ (of_decide_eq_true (List.all_eq_true.mp cLT_ok q hq)) rfl
theorem cp_big {own x : Nat} (h : cpT.any (fun q => q.1 == own && q.2.1 == x) = true) : Cond.methodLink (Rn own) x arraycopyName ∈ BIG := by
  obtain ⟨q, hq, h2⟩ := List.any_eq_true.mp h
  simp only [Bool.and_eq_true, beq_iff_eq] at h2
  obtain ⟨rfl, rfl⟩ := h2
  exact big_at _ (of_decide_eq_true (List.all_eq_true.mp cpT_ok q hq)) rfl
theorem mx_big {own x : Nat} (h : mxT.any (fun q => q.1 == own && q.2.1 == x) = true) : Cond.methodLink (Rn own) x Lib.Math.max.name ∈ BIG := by
  obtain ⟨q, hq, h2⟩ := List.any_eq_true.mp h
  simp only [Bool.and_eq_true, beq_iff_eq] at h2
  obtain ⟨rfl, rfl⟩ := h2
  exact big_at _ (of_decide_eq_true (List.all_eq_true.mp mxT_ok q hq)) rfl
theorem bg_copy : Cond.native arraycopyName ∈ BIG ∧ Cond.static arraycopyName ∈ BIG ∧ Cond.initialized "java/lang/System" ∈ BIG := by
  refine ⟨List.mem_filter.mpr ⟨by decide +kernel, rfl⟩, List.mem_filter.mpr ⟨by decide +kernel, rfl⟩, List.mem_filter.mpr ⟨by decide +kernel, rfl⟩⟩
theorem bg_max : Cond.static Lib.Math.max.name ∈ BIG ∧ Cond.initialized "java/lang/Math" ∈ BIG := by
  refine ⟨List.mem_filter.mpr ⟨by decide +kernel, rfl⟩, List.mem_filter.mpr ⟨by decide +kernel, rfl⟩⟩
theorem mf_code {q : Nat × Nat × Bool × Nat × Nat × Nat × Nat} (hq : q ∈ mFT) : Cond.code (mT q.1).1 (mT q.1).2.1 (mT q.1).2.2.1 (mT q.1).2.2.2.1 ∈ BIG := by
  obtain ⟨i, hi⟩ := List.getElem?_of_mem hq
  have h := congrArg (fun z => z[i]?) mFT_code
  simp only [List.getElem?_map, hi, Option.map_some, Option.some.injEq] at h
  exact big_at _ h rfl
/-- what is known of a method that is called: k, how many arguments, static or not -/
theorem mf_all {k n : Nat} {st : Bool} (h : mFT.any (fun q => q.1 == k && q.2.1 == n && q.2.2.1 == st) = true) :
    Cond.code (mT k).1 (mT k).2.1 (mT k).2.2.1 (mT k).2.2.2.1 ∈ BIG ∧ Cond.initialized (mT k).1.cls ∈ BIG ∧ (mT k).1.cls = Rn (mT k).2.2.2.2.2 ∧ (parseMethodDescriptor (mT k).1.desc).map (fun d => d.parameters.length) = some n ∧ (if st then Cond.static (mT k).1 ∈ BIG else Cond.instanceMethod (mT k).1 ∈ BIG ∧ Cond.selects (Rn (mT k).2.2.2.2.2) (mT k).1 (mT k).1 ∈ BIG) := by
  obtain ⟨q, hq, h2⟩ := List.any_eq_true.mp h
  simp only [Bool.and_eq_true, beq_iff_eq] at h2
  obtain ⟨⟨rfl, rfl⟩, rfl⟩ := h2
  have hc := mf_code hq
  have hf := List.all_eq_true.mp mFT_ok q hq
  unfold mFq at hf
  simp only [Bool.and_eq_true, decide_eq_true_eq] at hf
  obtain ⟨⟨⟨h1, h2⟩, h3⟩, h4⟩ := hf
  refine ⟨hc, by rw [h1]; exact big_at _ h2 rfl, h1, h4, ?_⟩
  cases hs : q.2.2.1 with
  | true =>
    rw [hs] at h3
    simp only [if_true, decide_eq_true_eq] at h3 ⊢
    exact big_at _ h3 rfl
  | false =>
    rw [hs] at h3
    simp only [Bool.false_eq_true, if_false, Bool.and_eq_true, decide_eq_true_eq] at h3 ⊢
    exact ⟨big_at _ h3.1 rfl, big_at _ h3.2 rfl⟩
theorem good_big {y : MethodName} {b : ByteArray} {n : Nat} {rt : Option FieldType} (h : Cond.code y b n rt ∈ BIG) : GoodIn BIG (.code y b n rt :: BIG) := by
  intro w hw
  rcases List.mem_cons.mp hw with rfl | hw
  · exact ⟨h, Or.inl rfl⟩
  · exact ⟨hw, good_of_word (big_good w hw)⟩
theorem nest_on {w : Cond} (h : w ∈ nestL) : w.onTables = true := by
  obtain ⟨q, -, rfl⟩ := List.mem_map.mp h
  rfl
theorem Wd.warm {D : va_G} {cI : ClassId} {s U : State} (hW : s.WarmedH U.vm) (h : Wd D cI s) : Wd D cI U := by
  refine ⟨va_K.moved hW.alike h.1, fun w hw => ?_⟩
  have h2 := h.2 w hw
  obtain ⟨q, -, rfl⟩ := List.mem_map.mp hw
  exact va_Nw.warmM hW h2
theorem Wd.same {D : va_G} {cI : ClassId} {s U : State} (hv : s.vm = U.vm) (h : Wd D cI s) : Wd D cI U :=
  ⟨va_K.moved (by rw [hv]; exact Vm.Alike.refl _) h.1, fun w hw => va_Nw.same (nest_on hw) hv (h.2 w hw)⟩
theorem Pw_blind (D : va_G) (cI : ClassId) (ad : Nat → Nat) (σ : St) (sz : Nat) (av : List Value) : FrameBlind (va_Pc av (Pw D cI ad σ sz)) :=
  fun a U g mk q => ⟨q.1, q.2.1, q.2.2.1, Wd.same (s := U) (U := U.calling g mk a) rfl q.2.2.2.1, q.2.2.2.2⟩
