/-! one instruction of the walk, over the machine -/
def Cx (p : Program) (R : Room) (s : State) (m : MethodId) (args : Array Value) (meth : Method) (c : Code) (D : va_G) (cI : ClassId) (A : Nat → Prop) (mi : MI) : Prop :=
  p.tables.exec = Jvm.exec ∧ c.code = mi.2.1 ∧ c.maxLocals = mi.2.2.1 ∧ meth.sig.returnType = mi.2.2.2.1 ∧ meth.locks = false ∧ s.vm.findClass (Rn mi.2.2.2.2.2) = some m.cls ∧ (∀ w ∈ BIG, w.before args s = true) ∧ Wd D cI s ∧ R = rmL mi.2.2.2.2.1 ∧ (∀ q, s.heap.size ≤ q → A q)
section SM
variable (l : Launch) (p : Program) (e : Env) (R : Room) (s : State) (m : MethodId) (args : Array Value) (below : List Frame) (meth : Method) (c : Code) (D : va_G) (cI : ClassId) (ad : Nat → Nat) (A : Nat → Prop) (mi : MI) (Q : Int32 → St → Prop)
def Sm (pc : Nat) (L S : List Value) (σ : St) : Prop := ∀ (H : Heap) (locs : List Loc) (ls : Array Slot), va_P D vwCl (wsW cI ad σ) H → va_D A (wsW cI ad σ) → va_S A s.heap H locs → LsOk ls mi.2.2.1 ad L →
  W p l e R s m args below meth c H locs 0 0 (MQ below (Qc mi.2.2.2.1 Q D cI ad A) args s 0 0 A) (F0 m pc ls (S.map (cv ad)))
end SM
/-- the place k of the list cd, over every machine that runs the method -/
def V (l : Launch) (mi : MI) (cd : List Ins) (k : Nat) (L S : List Value) (σ : St) (Q : Int32 → St → Prop) : Prop :=
  ∀ (p : Program) (e : Env) (R : Room) (s : State) (m : MethodId) (args : Array Value) (below : List Frame) (meth : Method) (c : Code) (D : va_G) (cI : ClassId) (ad : Nat → Nat) (A : Nat → Prop), Cx p R s m args meth c D cI A mi → Sm l p e R s m args below meth c D cI ad A mi Q (pcA cd k) L S σ
section Snd
variable {l : Launch} {p : Program} {e : Env} {R : Room} {s : State} {m : MethodId} {args : Array Value} {below : List Frame} {meth : Method} {c : Code} {D : va_G} {cI : ClassId} {ad : Nat → Nat} {A : Nat → Prop} {mi : MI} {Q : Int32 → St → Prop}
theorem sum_le (S : List Value) : ∀ (ad : Nat → Nat), ((S.map (cv ad)).map fun v => v.category).sum ≤ 2 * S.length := by
  intro ad
  induction S with
  | nil => simp
  | cons v r ih =>
    have : (cv ad v).category ≤ 2 := by cases v <;> simp [cv, Value.category]
    simp only [List.map_cons, List.sum_cons, List.length_cons]
    omega
theorem sm_call {pc : Nat} {L S S' : List Value} {σ : St} {k : Nat} {as : List Value} {K : Int32 → St → Prop} (hC : Cx p R s m args meth c D cI A mi)
    (hrun : ∀ (H : Heap) (locs : List Loc) (ls : Array Slot), va_P D vwCl (wsW cI ad σ) H → va_D A (wsW cI ad σ) → LsOk ls mi.2.2.1 ad L → ∀ (Pc : Array Value → State → Prop) (Qq : Array Value → State → Outcome → State → Prop) (free : Addr → Prop), Met l (mT k).1 (.code (mT k).1 (mT k).2.1 (mT k).2.2.1 (mT k).2.2.2.1 :: BIG) (rmL (mT k).2.2.2.2.1) Pc Qq 0 0 free → FrameBlind Pc → (∀ U : State, U.heap = H → s.WarmedH U.vm → Pc (as.map (cv ad)).toArray U) →
      va_Run p l e R s m args below meth c H locs 0 0 0 0 (F0 m pc ls (S.map (cv ad))) (S'.map (cv ad)) (Qq (as.map (cv ad)).toArray) free)
    (hcall : CallAt l k as σ K) (hk : ∀ r σ', K r σ' → Sm l p e R s m args below meth c D cI ad A mi Q (pc + 3) L (if (mT k).2.2.2.1.isSome then .int r :: S' else S') σ') : Sm l p e R s m args below meth c D cI ad A mi Q pc L S σ := by
  obtain ⟨-, -, -, -, -, -, -, hWd, -, hA⟩ := hC
  obtain ⟨Sp, hM, hS⟩ := hcall
  intro H locs ls hP hD hS0 hl
  have hM := hM D cI ad σ as K H.size hS
  have hA1 : ∀ q, va_A (wsW cI ad σ) H.size q → A q := by
    rintro q (⟨j, e, hj⟩ | hq)
    · exact hD.2 j (q, e) hj
    · exact hA q (Nat.le_trans hS0.1 hq)
  have hr := hrun H locs ls hP hD hl _ _ _ hM (Pw_blind D cI ad σ H.size _) (fun U hU hW => ⟨rfl, by rw [hU], by rw [hU]; exact hP, hWd.warm hW, hD.weaken (fun _ _ _ _ => trivial)⟩)
  cases hrt : (mT k).2.2.2.1 with
  | none =>
    rw [hrt] at hr hk
    refine va_callv (a := (as.map (cv ad)).toArray) (A0 := A) (A1 := va_A (wsW cI ad σ) H.size) hr hS0 (fun q _ h => hA1 q h) hA1 (fun σ' t H1 locs1 ht _ hw hB _ _ hS1 => ?_)
    obtain ⟨hP1, -, hD1⟩ := hB
    rw [ht] at hP1
    exact hk 0 σ' hw H1 locs1 ls hP1 (hD1.weaken (fun _ _ _ h => hA1 _ h)) hS1 hl
  | some ty =>
    rw [hrt] at hr hk
    refine va_calli (a := (as.map (cv ad)).toArray) (A0 := A) (A1 := va_A (wsW cI ad σ) H.size) hr hS0 (fun q _ h => hA1 q h) hA1 (fun r σ' t H1 locs1 ht _ hw hB _ _ hS1 => ?_)
    obtain ⟨hP1, -, hD1⟩ := hB
    rw [ht] at hP1
    exact hk r σ' hw H1 locs1 ls hP1 (hD1.weaken (fun _ _ _ h => hA1 _ h)) hS1 hl
theorem room_ok {k : Nat} (hlev : (mT k).2.2.2.2.1 < mi.2.2.2.2.1) (hL : (mT k).2.2.1 ≤ 23) : (rmL (mT k).2.2.2.2.1).frames + 1 ≤ (rmL mi.2.2.2.2.1).frames ∧ 8 + ((mT k).2.2.1 + 11) + (rmL (mT k).2.2.2.2.1).locals ≤ (rmL mi.2.2.2.2.1).locals := by
  simp only [rmL]
  omega
theorem mh_ne {k : Nat} (h : (mT k).1.cls = Rn (mT k).2.2.2.2.2) (hk : (mT k).2.2.2.2.2 < 9) : (mT k).1.cls ≠ "java/lang/invoke/MethodHandle" ∧ (mT k).1.cls ≠ "java/lang/invoke/VarHandle" := by
  have h2 := List.all_eq_true.mp Rn_plain _ (List.mem_range.mpr hk)
  simp only [Bool.and_eq_true, decide_eq_true_eq] at h2
  rw [h]
  exact h2.1
theorem mF_own : mFT.all (fun q => decide ((mT q.1).2.2.2.2.2 < 9)) = true := by decide +kernel
theorem mT_lt {k n : Nat} {st : Bool} (h : mFT.any (fun q => q.1 == k && q.2.1 == n && q.2.2.1 == st) = true) : (mT k).2.2.2.2.2 < 9 := by
  obtain ⟨q, hq, h2⟩ := List.any_eq_true.mp h
  simp only [Bool.and_eq_true, beq_iff_eq] at h2
  obtain ⟨⟨rfl, rfl⟩, rfl⟩ := h2
  exact of_decide_eq_true (List.all_eq_true.mp mF_own q hq)
theorem sm_virtual {pc x k n : Nat} {L S S' : List Value} {σ : St} {b : Nat} {K : Int32 → St → Prop} (hC : Cx p R s m args meth c D cI A mi) (hd : decode mi.2.1 pc = .ok (.invokevirtual x, 3))
    (hml : mLT.any (fun q => q.1 == mi.2.2.2.2.2 && q.2.1 == x && q.2.2.1 == k) = true) (hmf : mFT.any (fun q => q.1 == k && q.2.1 == n && q.2.2.1 == false) = true) (hlev : (mT k).2.2.2.2.1 < mi.2.2.2.2.1) (hL : (mT k).2.2.1 ≤ 23) (hci : (mT k).2.2.2.2.2 < 7)
    (hst : S.drop n = .ref b :: S') (hb : clsOf b = (mT k).2.2.2.2.2) (hlen : S'.length ≤ 4) (hcall : CallAt l k (.ref b :: (S.take n).reverse) σ K)
    (hk : ∀ r σ', K r σ' → Sm l p e R s m args below meth c D cI ad A mi Q (pc + 3) L (if (mT k).2.2.2.1.isSome then .int r :: S' else S') σ') : Sm l p e R s m args below meth c D cI ad A mi Q pc L S σ := by
  refine sm_call hC (fun H locs ls hP hD hl Pc Qq free hM hblind hPc => ?_) hcall hk
  obtain ⟨hx, hbb, hmx, -, -, hown, hts, hWd, hR, -⟩ := hC
  obtain ⟨h1, h2, h3, h4, h5⟩ := mf_all hmf
  simp only [Bool.false_eq_true, if_false] at h5
  have hnl : n ≤ S.length := by
    rcases Nat.lt_or_ge S.length n with q | q
    · rw [List.drop_eq_nil_of_le (Nat.le_of_lt q)] at hst; cases hst
    · exact q
  have hSe : S = S.take n ++ (.ref b :: S') := by rw [← hst, List.take_append_drop]
  have hstack : S.map (cv ad) = (((S.take n).reverse).map (cv ad)).reverse ++ (Value.ref (ad b) :: S'.map (cv ad)) := by
    rw [← List.map_reverse, List.reverse_reverse]
    conv => lhs; rw [hSe]
    rw [List.map_append]
    rfl
  have hcw : CallW R s args (Rn mi.2.2.2.2.2) (Rn (mT k).2.2.2.2.2) x (mT k).1 (mT k).2.1 (mT k).2.2.1 (mT k).2.2.2.1 (.code (mT k).1 (mT k).2.1 (mT k).2.2.1 (mT k).2.2.2.1 :: BIG) (rmL (mT k).2.2.2.2.1) 0 0 n := by
    refine ⟨callB_of n hts (good_big h1) rfl rfl rfl (hts _ h2) (hts _ (ml_big hml)) ⟨(mh_ne h3 (mT_lt hmf)).1, (mh_ne h3 (mT_lt hmf)).2, h4⟩ (by rw [hR]; exact room_ok hlev hL), hts _ h5.1, hts _ h5.2⟩
  obtain ⟨q0, hq0⟩ := ids_pos (k := b) (by omega)
  have hat := ws_at (cI := cI) (ad := ad) (σ := σ) hq0
  rw [cell_obj hb hci] at hat
  exact va_runV (As := ((S.take n).reverse).map (cv ad)) (rest := S'.map (cv ad)) ⟨hx, hbb, hmx, hown, hts⟩ hM hcw ⟨hblind, va_recv hWd.1 hP (cl_at hci) hat, hPc⟩ rfl (by simp [hnl]) hl.1 hstack (lv_room (Nat.le_trans (sum_le S' ad) (by omega))) hd ⟨Nat.zero_le _, Nat.zero_le _⟩
theorem sm_static {pc x k n : Nat} {L S : List Value} {σ : St} {K : Int32 → St → Prop} (hC : Cx p R s m args meth c D cI A mi) (hd : decode mi.2.1 pc = .ok (.invokestatic x, 3))
    (hml : mLT.any (fun q => q.1 == mi.2.2.2.2.2 && q.2.1 == x && q.2.2.1 == k) = true ∨ mLN.any (fun q => q.1 == mi.2.2.2.2.2 && q.2.1 == x && q.2.2.1 == k) = true) (hmf : mFT.any (fun q => q.1 == k && q.2.1 == n && q.2.2.1 == true) = true) (hlev : (mT k).2.2.2.2.1 < mi.2.2.2.2.1) (hL : (mT k).2.2.1 ≤ 23)
    (hnl : (S.take n).length = n) (hlen : (S.drop n).length ≤ 4) (hcall : CallAt l k ((S.take n).reverse) σ K)
    (hk : ∀ r σ', K r σ' → Sm l p e R s m args below meth c D cI ad A mi Q (pc + 3) L (if (mT k).2.2.2.1.isSome then .int r :: S.drop n else S.drop n) σ') : Sm l p e R s m args below meth c D cI ad A mi Q pc L S σ := by
  refine sm_call hC (fun H locs ls hP hD hl Pc Qq free hM hblind hPc => ?_) hcall hk
  obtain ⟨hx, hbb, hmx, -, -, hown, hts, hWd, hR, -⟩ := hC
  obtain ⟨h1, h2, h3, h4, h5⟩ := mf_all hmf
  simp only [if_true] at h5
  have hstack : S.map (cv ad) = (((S.take n).reverse).map (cv ad)).reverse ++ ((S.drop n).map (cv ad)) := by
    rw [← List.map_reverse, List.reverse_reverse, ← List.map_append, List.take_append_drop]
  rcases hml with hml | hml
  · exact va_runS (As := ((S.take n).reverse).map (cv ad)) (rest := (S.drop n).map (cv ad)) ⟨hx, hbb, hmx, hown, hts⟩ hM ⟨callB_of n hts (good_big h1) rfl rfl rfl (hts _ h2) (hts _ (ml_big hml)) ⟨(mh_ne h3 (mT_lt hmf)).1, (mh_ne h3 (mT_lt hmf)).2, h4⟩ (by rw [hR]; exact room_ok hlev hL), hts _ h5⟩ ⟨hblind, hPc⟩ rfl (by simpa using hnl) hl.1 hstack (lv_room (Nat.le_trans (sum_le _ ad) (by omega))) hd ⟨Nat.zero_le _, Nat.zero_le _⟩
  · exact va_runSN (host := RX5) (As := ((S.take n).reverse).map (cv ad)) (rest := (S.drop n).map (cv ad)) ⟨hx, hbb, hmx, hown, hts⟩ hM ⟨va_cnB n hts (good_big h1) rfl rfl rfl (hWd.2 _ (mn_nest hml)) (hts _ h2) ⟨(mh_ne h3 (mT_lt hmf)).1, (mh_ne h3 (mT_lt hmf)).2, h4⟩ (by rw [hR]; exact room_ok hlev hL), hts _ h5, trivial⟩ ⟨hblind, hPc⟩ rfl (by simpa using hnl) hl.1 hstack (lv_room (Nat.le_trans (sum_le _ ad) (by omega))) hd ⟨Nat.zero_le _, Nat.zero_le _⟩
end Snd
