set_option maxRecDepth 1000000 in
theorem mFT_code : mFT.map (fun q => lw_tbl[q.2.2.2.1]?) = mFT.map (fun q => some (Cond.code (mT q.1).1 (mT q.1).2.1 (mT q.1).2.2.1 (mT q.1).2.2.2.1)) := by rfl
theorem ids_of {k : Nat} (h : clsOf k ≤ 7) : k ∈ idsL := by
  unfold clsOf at h
  split at h <;> first | decide | (exact absurd h (by decide))
theorem ids_nd : idsL.Nodup := by decide +kernel
theorem ids_pos {k : Nat} (h : clsOf k ≤ 7) : ∃ q : Nat, idsL[q]? = some k := List.getElem?_of_mem (ids_of h)
theorem ws_at {cI : ClassId} {ad : Nat → Nat} {σ : St} {q k : Nat} (h : idsL[q]? = some k) : (wsW cI ad σ)[q]? = some (ad k, cellE cI ad σ k) := by
  unfold wsW
  rw [List.getElem?_map, h]
  rfl
theorem cellE_eq {cI : ClassId} {ad : Nat → Nat} {σ σ' : St} {k : Nat} (h : σ' k = σ k) : cellE cI ad σ' k = cellE cI ad σ k := by
  have hf : fv ad σ' k = fv ad σ k := by funext j; simp [fv, h]
  simp [cellE, h, hf]
theorem ws_set {cI : ClassId} {ad : Nat → Nat} {σ σ' : St} {q k : Nat} {e : va_E} (hq : idsL[q]? = some k) (hσ : ∀ k', k' ≠ k → σ' k' = σ k') (he : cellE cI ad σ' k = e) : (wsW cI ad σ).set q (ad k, e) = wsW cI ad σ' := by
  have hql : q < idsL.length := (List.getElem?_eq_some_iff.mp hq).1
  apply List.ext_getElem?
  intro j
  by_cases hj : j = q
  · subst hj
    rw [List.getElem?_set_self (by simpa [wsW] using hql), ws_at hq, he]
  · rw [List.getElem?_set_ne (Ne.symm hj)]
    unfold wsW
    rw [List.getElem?_map, List.getElem?_map]
    cases hk : idsL[j]? with
    | none => rfl
    | some k' =>
      have hne : k' ≠ k := by
        intro h
        subst h
        exact hj ((List.getElem?_inj (List.getElem?_eq_some_iff.mp hk).1 ids_nd).mp (hk.trans hq.symm))
      simp [cellE_eq (hσ k' hne)]
theorem wr_ne {σ : St} {k j : Nat} {v : Int32} : ∀ k', k' ≠ k → wr σ k j v k' = σ k' := fun k' h => by simp [wr, h]
theorem wrR_ne {σ : St} {k : Nat} {f : Nat → Int32} : ∀ k', k' ≠ k → wrR σ k f k' = σ k' := fun k' h => by simp [wrR, h]
theorem cell_obj {cI : ClassId} {ad : Nat → Nat} {σ : St} {k ci : Nat} (h : clsOf k = ci) (hc : ci < 7) : cellE cI ad σ k = .inr (ci, (List.range (nF ci)).map (fv ad σ k)) := by
  subst h
  simp [cellE, hc]
theorem cell_arr {cI : ClassId} {ad : Nat → Nat} {σ : St} {k : Nat} (h : clsOf k = 7) : cellE cI ad σ k = .inl (cI, lenOf k, .inl (σ k)) := by
  simp [cellE, h]
/-- the addresses don't move -/
theorem wsD {A B : Nat → Prop} {cI : ClassId} {ad : Nat → Nat} {σ σ' : St} (h : va_D A (wsW cI ad σ)) (hB : ∀ (k : Nat) (q : Nat × va_E), (wsW cI ad σ)[k]? = some q → B q.1) : va_D B (wsW cI ad σ') := by
  have key : ∀ (i : Nat) (x : Nat × va_E), (wsW cI ad σ')[i]? = some x → ∃ y, (wsW cI ad σ)[i]? = some y ∧ y.1 = x.1 := by
    intro i x hx
    unfold wsW at hx ⊢
    rw [List.getElem?_map] at hx ⊢
    cases hk : idsL[i]? with
    | none => rw [hk] at hx; cases hx
    | some k => rw [hk] at hx; cases hx; exact ⟨_, rfl, rfl⟩
  refine ⟨fun i j x y hi hj hxy => ?_, fun i x hi => ?_⟩
  · obtain ⟨x', h1, h2⟩ := key i x hi
    obtain ⟨y', h3, h4⟩ := key j y hj
    exact h.1 i j x' y' h1 h3 (h2.trans (hxy.trans h4.symm))
  · obtain ⟨x', h1, h2⟩ := key i x hi
    rw [← h2]
    exact hB i x' h1
/-! locals -/
def LsOk (ls : Array Slot) (nL : Nat) (ad : Nat → Nat) (L : List Value) : Prop := ls.size = nL ∧ lv_wf ls ∧ L.length = nL ∧ ∀ (i : Nat) (v : Value), L[i]? = some v → v ≠ .null → ls[i]? = some (.val (cv ad v))
def toL (ad : Nat → Nat) (L : List Value) : List (Nat × Value) := (List.range L.length).filterMap (fun i => if L.getD i .null = .null then none else some (i, cv ad (L.getD i .null)))
theorem getD_some {L : List Value} {k : Nat} {v : Value} (h : L.getD k .null = v) (hv : v ≠ .null) : L[k]? = some v := by
  rw [List.getD_eq_getElem?_getD] at h
  cases hk : L[k]? with
  | none => rw [hk] at h; exact absurd h.symm hv
  | some w => rw [hk] at h; simpa using h
theorem LsOk.get {ls : Array Slot} {nL : Nat} {ad : Nat → Nat} {L : List Value} (h : LsOk ls nL ad L) {k : Nat} {v : Value} (hk : L.getD k .null = v) (hv : v ≠ .null) : ls[k]? = some (.val (cv ad v)) := h.2.2.2 k v (getD_some hk hv) hv
theorem toL_mem {ad : Nat → Nat} {L : List Value} {i : Nat} {v : Value} (h : L[i]? = some v) (hv : v ≠ .null) : (i, cv ad v) ∈ toL ad L := by
  have hl := (List.getElem?_eq_some_iff.mp h).1
  have hg : L.getD i .null = v := by rw [List.getD_eq_getElem?_getD, h]; rfl
  exact List.mem_filterMap.mpr ⟨i, List.mem_range.mpr hl, by rw [hg, if_neg hv]⟩
theorem LsOk.lv {ls : Array Slot} {nL : Nat} {ad : Nat → Nat} {L : List Value} (h : LsOk ls nL ad L) : lv_has ls nL (toL ad L) := by
  refine ⟨h.1, h.2.1, fun q hq => ?_⟩
  obtain ⟨i, -, hi⟩ := List.mem_filterMap.mp hq
  by_cases hn : L.getD i .null = .null
  · rw [if_pos hn] at hi; cases hi
  · rw [if_neg hn] at hi
    cases hi
    exact h.get rfl hn
theorem cv_cat {ad : Nat → Nat} (v : Value) : (cv ad v).category = v.category := by cases v <;> rfl
theorem LsOk.set {ls ls' : Array Slot} {nL : Nat} {ad : Nat → Nat} {L : List Value} {k : Nat} {x : Int32} (h : LsOk ls nL ad L) (hb : lngB L k = false) (h' : lv_has ls' nL ((k, Value.int x) :: (toL ad L).filter (fun q => !(q.1 == k) && !(q.1 + 1 == k && q.2.category == 2)))) : LsOk ls' nL ad (L.set k (.int x)) := by
  refine ⟨h'.1, h'.2.1, by rw [List.length_set]; exact h.2.2.1, fun i v hi hv => ?_⟩
  by_cases hik : i = k
  · subst hik
    have hl : i < L.length := by
      have := (List.getElem?_eq_some_iff.mp hi).1
      rwa [List.length_set] at this
    rw [List.getElem?_set_self hl] at hi
    cases hi
    exact h'.2.2 (i, .int x) List.mem_cons_self
  · rw [List.getElem?_set_ne (Ne.symm hik)] at hi
    refine h'.2.2 (i, cv ad v) (List.mem_cons_of_mem _ (List.mem_filter.mpr ⟨toL_mem hi hv, ?_⟩))
    simp only [Bool.and_eq_true, Bool.not_eq_true', beq_eq_false_iff_ne, Bool.and_eq_false_iff, cv_cat]
    refine ⟨hik, ?_⟩
    by_cases h1 : i + 1 = k
    · right
      subst h1
      have hg : L.getD i .null = v := by rw [List.getD_eq_getElem?_getD, hi]; rfl
      unfold lngB lng at hb
      dsimp only at hb
      rw [hg] at hb
      simpa using hb
    · left
      exact h1
