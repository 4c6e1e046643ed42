/-! THE CLAIM OUT OF ONE WALK OF THE LAW'S BODY. Your part is whole_start (and what it stands on); all else here is the same for every law, but numbers. -/
def R_law : String := "KinGoodsLaw"
def lw_P (b : Addr) (xs : List Int32) (args : Array Value) (s : State) : Prop := args = #[.ref b] ∧ s.IntsAt b xs ∧ xs.length ≤ 4096 ∧ (Jvm.Cond.and given_1 narrow_1).before args s = true
def lw_Q (_ : Array Value) (s : State) (o : Outcome) (t : State) : Prop := o = .returned (some (.int 1)) ∧ Framed s o t [] 86 1605
def lw_Z (below : List Frame) (a : Array Value) (s : State) : State → Prop := fun t => ∃ o, t.status = .running ∧ Ended t below o ∧ lw_Q a s o t
/-- the law's own end, with 1 on the stack, nothing written that was there before, its room as the claim has it -/
theorem lw_ret {p : Program} {l : Launch} {e : Env} {s : State} {m : MethodId} {below : List Frame} {meth : Method} {c : Code} {b : Nat} (hx : p.tables.exec = Jvm.exec) (hb : c.code = code) (hr : meth.sig.returnType = ret) (hlocks : meth.locks = false) {pc : Nat} {H : Heap} {ls : Array Slot} (hdg : decode code pc = .ok (.ireturn, 1)) : W p l e room_1 s m #[Value.ref b] below meth c H [] 86 1605 (lw_Z below #[Value.ref b] s) (F0 m pc ls [.int 1]) := by
  intro T hT X
  obtain ⟨fs, hret, hrun, hended, hW, hframe⟩ := X.leave (v := some (.int 1)) (hlocks := hlocks) (fun h => by rw [hr] at h; cases h)
  have hmeth' : T.vm.method? m = some meth := X.method'
  refine ⟨T.setFrames fs, ?_, .returned (some (.int 1)), hrun, hended, rfl, ⟨_, rfl⟩, hW, hframe⟩
  jvm_step X.here [X.here.top, hx, hb, hdg, hmeth', hr, ret, narrow_b1]
  (try refine ⟨rfl, ?_⟩); (try refine ⟨rfl, ?_⟩)
  first | (intro acts; rw [hret _ acts rfl rfl rfl]) | rw [hret _ _ rfl rfl rfl]
  exact Steps.refl _
/-- what holds at the law's entry: the machine, the code, the tables' words (any of lw_tbl by 'hts w (by decide +kernel)'), the script of L ints xs at the cell b, what the Statement gives of the start (any of its parts by flat_of_before) -/
def lw_At (p : Program) (s : State) (m : MethodId) (meth : Method) (c : Code) (b L : Nat) (xs : Nat → Int32) : Prop :=
  p.tables.exec = Jvm.exec ∧ c.code = code ∧ meth.sig.returnType = ret ∧ c.maxLocals = 4 ∧ s.vm.findClass R_law = some m.cls ∧ (∀ w ∈ lw_tbl, w.before #[Value.ref b] s = true) ∧ va_X b L xs s s.heap ∧ b < s.heap.size ∧ meth.locks = false ∧ (Jvm.Cond.and given_1 narrow_1).before #[Value.ref b] s = true
/-- the law's own state: the place, the stack, the store; its locals are ls -/
def LwS (l : Launch) (p : Program) (e : Env) (s : State) (m : MethodId) (below : List Frame) (meth : Method) (c : Code) (D : va_G) (cI : ClassId) (ad : Nat → Nat) (b : Nat) (ls : Array Slot) (pc : Nat) (st : List Value) (σ : St) : Prop :=
  ∀ (H : Heap) (locs : List Loc), va_P D vwCl (wsW cI ad σ) H → va_D (fun q : Nat => s.heap.size ≤ q) (wsW cI ad σ) → va_S (fun q : Nat => s.heap.size ≤ q) s.heap H locs → W p l e room_1 s m #[Value.ref b] below meth c H locs 86 1605 (lw_Z below #[Value.ref b] s) (F0 m pc ls st)
def LwC (p : Program) (s : State) (m : MethodId) (meth : Method) (c : Code) (D : va_G) (cI : ClassId) (ad : Nat → Nat) (b L i : Nat) (xs : Nat → Int32) (ls : Array Slot) : Prop :=
  lw_At p s m meth c b L xs ∧ L ≤ 4096 ∧ i + 8 ≤ L ∧ Wd D cI s ∧ lv_has ls 4 [(0, .ref b), (1, .ref (ad 0)), (2, .ref (ad 900)), (3, .int (nI i))]
section LW
variable {p : Program} {l : Launch} {e : Env} {s : State} {m : MethodId} {below : List Frame} {meth : Method} {c : Code} {D : va_G} {cI : ClassId} {ad : Nat → Nat} {b L i : Nat} {xs : Nat → Int32} {ls : Array Slot} {pc : Nat} {st : List Value} {σ : St}
theorem ls_a1 (hL : LwC p s m meth c D cI ad b L i xs ls) (d : decode code pc = .ok (.aload_n 1, 1)) (kk : LwS l p e s m below meth c D cI ad b ls (pc + 1) (.ref (ad 0) :: st) σ) : LwS l p e s m below meth c D cI ad b ls pc st σ := by
  obtain ⟨⟨hx, hb, -⟩, -, -, -, hl⟩ := hL
  intro H locs hP hD hS
  refine lv_aload_n hx hb d rfl (lv_at hl 1 rfl) ?_
  exact kk H locs hP hD hS
theorem ls_a2 (hL : LwC p s m meth c D cI ad b L i xs ls) (d : decode code pc = .ok (.aload_n 2, 1)) (kk : LwS l p e s m below meth c D cI ad b ls (pc + 1) (.ref (ad 900) :: st) σ) : LwS l p e s m below meth c D cI ad b ls pc st σ := by
  obtain ⟨⟨hx, hb, -⟩, -, -, -, hl⟩ := hL
  intro H locs hP hD hS
  refine lv_aload_n hx hb d rfl (lv_at hl 2 rfl) ?_
  exact kk H locs hP hD hS
theorem ls_c (k : Nat) {k' : Int} (hL : LwC p s m meth c D cI ad b L i xs ls) (d0 : decode code pc = .ok (.aload_n 0, 1)) (d1 : decode code (pc + 1) = .ok (.iload_n 3, 1)) (d2 : decode code (pc + 2) = .ok (.iconst k', 1)) (hk : Int32.ofInt k' = nI k) (d3 : decode code (pc + 3) = .ok (.iadd, 1)) (d4 : decode code (pc + 4) = .ok (.iaload, 1)) (h7 : k ≤ 7) (kk : LwS l p e s m below meth c D cI ad b ls (pc + 5) (.int (xs (i + k)) :: st) σ) : LwS l p e s m below meth c D cI ad b ls pc st σ := by
  obtain ⟨⟨hx, hb, -, -, -, -, hX, hbl, -, -⟩, h4, hi, -, hl⟩ := hL
  intro H locs hP hD hS
  refine lv_aload_n hx hb d0 rfl (lv_at hl 0 rfl) ?_
  refine lv_iload_n hx hb d1 rfl (lv_at hl 3 rfl) ?_
  refine lv_iconst hx hb d2 hk ?_
  refine lv_iadd hx hb d3 ?_
  rw [nI_add]
  refine va_sld hx hb hX hbl (Nat.not_le.mpr hbl) hS (vp_in_nI (by omega) (by omega)) d4 ?_
  rw [nI_clamp (by omega)]
  exact kk H locs hP hD hS
theorem ls_p (k : Nat) {k' : Int} (hL : LwC p s m meth c D cI ad b L i xs ls) (d0 : decode code pc = .ok (.aload_n 0, 1)) (d1 : decode code (pc + 1) = .ok (.iload_n 3, 1)) (d2 : decode code (pc + 2) = .ok (.bipush k', 2)) (hk : (Int8.ofInt k').toInt32 = nI k) (d3 : decode code (pc + 4) = .ok (.iadd, 1)) (d4 : decode code (pc + 5) = .ok (.iaload, 1)) (h7 : k ≤ 7) (kk : LwS l p e s m below meth c D cI ad b ls (pc + 6) (.int (xs (i + k)) :: st) σ) : LwS l p e s m below meth c D cI ad b ls pc st σ := by
  obtain ⟨⟨hx, hb, -, -, -, -, hX, hbl, -, -⟩, h4, hi, -, hl⟩ := hL
  intro H locs hP hD hS
  refine lv_aload_n hx hb d0 rfl (lv_at hl 0 rfl) ?_
  refine lv_iload_n hx hb d1 rfl (lv_at hl 3 rfl) ?_
  refine lv_bipush hx hb d2 hk ?_
  refine lv_iadd hx hb d3 ?_
  rw [nI_add]
  refine va_sld hx hb hX hbl (Nat.not_le.mpr hbl) hS (vp_in_nI (by omega) (by omega)) d4 ?_
  rw [nI_clamp (by omega)]
  exact kk H locs hP hD hS
theorem ls_i2l (hL : LwC p s m meth c D cI ad b L i xs ls) {x : Int32} (d : decode code pc = .ok (.i2l, 1)) (kk : LwS l p e s m below meth c D cI ad b ls (pc + 1) (.long x.toInt64 :: st) σ) : LwS l p e s m below meth c D cI ad b ls pc (.int x :: st) σ := by
  obtain ⟨⟨hx, hb, -⟩, -⟩ := hL
  intro H locs hP hD hS
  exact lv_i2l hx hb d rfl (kk H locs hP hD hS)
theorem ls_push (hL : LwC p s m meth c D cI ad b L i xs ls) {v : Int32} {k' : Int} (d : decode code pc = .ok (.bipush k', 2)) (hk : (Int8.ofInt k').toInt32 = v) (kk : LwS l p e s m below meth c D cI ad b ls (pc + 2) (.int v :: st) σ) : LwS l p e s m below meth c D cI ad b ls pc st σ := by
  obtain ⟨⟨hx, hb, -⟩, -⟩ := hL
  intro H locs hP hD hS
  exact lv_bipush hx hb d hk (kk H locs hP hD hS)
theorem ls_lshl (hL : LwC p s m meth c D cI ad b L i xs ls) {x : Int64} {y : Int32} (d : decode code pc = .ok (.lshl, 1)) (kk : LwS l p e s m below meth c D cI ad b ls (pc + 1) (.long (x <<< (y.toInt64 &&& 63)) :: st) σ) : LwS l p e s m below meth c D cI ad b ls pc (.int y :: .long x :: st) σ := by
  obtain ⟨⟨hx, hb, -⟩, -⟩ := hL
  intro H locs hP hD hS
  exact lv_lshl hx hb d rfl (kk H locs hP hD hS)
theorem ls_land (hL : LwC p s m meth c D cI ad b L i xs ls) {x y : Int64} (d : decode code pc = .ok (.land, 1)) (kk : LwS l p e s m below meth c D cI ad b ls (pc + 1) (.long (x &&& y) :: st) σ) : LwS l p e s m below meth c D cI ad b ls pc (.long y :: .long x :: st) σ := by
  obtain ⟨⟨hx, hb, -⟩, -⟩ := hL
  intro H locs hP hD hS
  exact lv_land hx hb d (kk H locs hP hD hS)
theorem ls_lor (hL : LwC p s m meth c D cI ad b L i xs ls) {x y : Int64} (d : decode code pc = .ok (.lor, 1)) (kk : LwS l p e s m below meth c D cI ad b ls (pc + 1) (.long (x ||| y) :: st) σ) : LwS l p e s m below meth c D cI ad b ls pc (.long y :: .long x :: st) σ := by
  obtain ⟨⟨hx, hb, -⟩, -⟩ := hL
  intro H locs hP hD hS
  exact lv_lor hx hb d (kk H locs hP hD hS)
theorem ls_ldc (hL : LwC p s m meth c D cI ad b L i xs ls) (d : decode code pc = .ok (.ldc2_w 56, 3)) (kk : LwS l p e s m below meth c D cI ad b ls (pc + 3) (.long 4294967295 :: st) σ) : LwS l p e s m below meth c D cI ad b ls pc st σ := by
  obtain ⟨⟨hx, hb, -, -, hown, hts, -⟩, -⟩ := hL
  intro H locs hP hD hS
  exact lv_ldc2 (own := RL) hx hb hown (hts (.constantLong RL 56 4294967295) (List.mem_of_getElem? (i := 1107) (by decide +kernel))) d (kk H locs hP hD hS)
theorem ls_call (k n bb : Nat) {x : Nat} (as : List Value) {K : Int32 → St → Prop} (hL : LwC p s m meth c D cI ad b L i xs ls) (hd : decode code pc = .ok (.invokevirtual x, 3)) (hml : mLT.any (fun q => q.1 == 8 && q.2.1 == x && q.2.2.1 == k) = true) (hmf : mFT.any (fun q => q.1 == k && q.2.1 == n && q.2.2.1 == false) = true) (hlev : (mT k).2.2.2.2.1 < 14) (hL2 : (mT k).2.2.1 ≤ 23) (hci : (mT k).2.2.2.2.2 < 7) (hrt : (mT k).2.2.2.1 = some .int) (hbb : clsOf bb = (mT k).2.2.2.2.2) (hn : as.length = n) (hst : (st.map fun v => v.category).sum ≤ 8)
    (hcall : CallAt l k (.ref bb :: as) σ K) (hk : ∀ r σ', K r σ' → LwS l p e s m below meth c D cI ad b ls (pc + 3) (.int r :: st) σ') : LwS l p e s m below meth c D cI ad b ls pc ((as.map (cv ad)).reverse ++ (.ref (ad bb) :: st)) σ := by
  obtain ⟨⟨hx, hb, hr, hmx, hown, hts, -, -, -, -⟩, -, -, hWd, hl⟩ := hL
  obtain ⟨Sp, hM, hSp⟩ := hcall
  obtain ⟨h1, h2, h3, h4, h5⟩ := mf_all hmf
  simp only [Bool.false_eq_true, if_false] at h5
  intro H locs hP hD hS0
  have hM := hM D cI ad σ (.ref bb :: as) K H.size hSp
  have hA1 : ∀ q, va_A (wsW cI ad σ) H.size q → s.heap.size ≤ q := by
    rintro q (⟨j, e, hj⟩ | hq)
    · exact hD.2 j (q, e) hj
    · exact Nat.le_trans hS0.1 hq
  have hcw : CallW room_1 s #[Value.ref b] RL (Rn (mT k).2.2.2.2.2) x (mT k).1 (mT k).2.1 (mT k).2.2.1 (mT k).2.2.2.1 (.code (mT k).1 (mT k).2.1 (mT k).2.2.1 (mT k).2.2.2.1 :: BIG) (rmL (mT k).2.2.2.2.1) 0 0 n := by
    refine ⟨callB_of n hts (good_lw h1) rfl rfl rfl (hts _ (big_in h2)) (hts _ (big_in (ml_big hml))) ⟨(mh_ne h3 (mT_lt hmf)).1, (mh_ne h3 (mT_lt hmf)).2, h4⟩ ?_, hts _ (big_in h5.1), hts _ (big_in h5.2)⟩
    simp only [rmL, room_1]
    omega
  obtain ⟨q0, hq0⟩ := ids_pos (k := bb) (by omega)
  have hat := ws_at (cI := cI) (ad := ad) (σ := σ) hq0
  rw [cell_obj hbb hci] at hat
  have hrun := va_runV (g := F0 m pc ls ((as.map (cv ad)).reverse ++ (.ref (ad bb) :: st))) (locs := locs) (cells := 86) (slots := 1605) (below := below) (meth := meth) (e := e) (As := as.map (cv ad)) (rest := st) ⟨hx, hb, hmx, hown, hts⟩ hM hcw ⟨Pw_blind D cI ad σ H.size _, va_recv hWd.1 hP (cl_at hci) hat, fun U hU hW => ⟨rfl, by rw [hU], by rw [hU]; exact hP, hWd.warm hW, hD.weaken (fun _ _ _ _ => trivial)⟩⟩ rfl (by simp [hn]) hl.1 rfl (lv_room hst) hd ⟨Nat.le_refl _, Nat.le_refl _⟩
  rw [hrt] at hrun
  refine va_calli (a := (Value.ref (ad bb) :: as.map (cv ad)).toArray) (A0 := fun q : Nat => s.heap.size ≤ q) (A1 := va_A (wsW cI ad σ) H.size) hrun hS0 (fun q _ h => hA1 q h) hA1 (fun r σ' t H1 locs1 ht _ hw hB _ _ hS1 => ?_)
  obtain ⟨hP1, -, hD1⟩ := hB
  rw [ht] at hP1
  exact hk r σ' hw H1 locs1 hP1 (hD1.weaken (fun _ _ _ h => hA1 _ h)) hS1
theorem ls_eq (hL : LwC p s m meth c D cI ad b L i xs ls) {x y : Int32} {off : Int} {tgt : Nat} (d : decode code pc = .ok (.if_icmp .eq off, 3)) (ht : (pc : Int) + off = (tgt : Int)) (h : x = y) (kk : LwS l p e s m below meth c D cI ad b ls tgt st σ) : LwS l p e s m below meth c D cI ad b ls pc (.int y :: .int x :: st) σ := by
  obtain ⟨⟨hx, hb, -⟩, -⟩ := hL
  intro H locs hP hD hS
  exact lv_icmp_eq hx hb d ht (fun _ => kk H locs hP hD hS) (fun z => absurd h z)
end LW
theorem MX.frx {A : AS} {σ σ' : St} (h : MX A σ) (hf : FrX σ σ') : MX A σ' := by
  obtain ⟨a1, a2, a3, a4, a5, a6⟩ := h
  refine ⟨a1, a2.fr (fun k _ _ => hf k (by omega)) (by rw [hf 900 (by omega)]) (by rw [hf 900 (by omega)]) (by rw [hf 900 (by omega)]), by rw [hf 900 (by omega)]; exact a3, fun E' he => (a4 E' he).frame (hf 924 (by omega)), ⟨by rw [hf 900 (by omega)]; exact a5.1, fun i hi => by rw [hf 916 (by omega)]; exact a5.2 i hi⟩, ⟨fun s hs => by rw [hf 926 (by omega), hf 927 (by omega)]; exact a6.1 s hs, fun j hj => by rw [hf 928 (by omega)]; exact a6.2 j hj⟩⟩
theorem CX.frm {A : AS} {σ σ' : St} (h : CX A σ) (hf : FrM σ σ') : CX A σ' := h.fr (fun k hk => hf k (by omega)) (by rw [hf 400 (by omega)])
