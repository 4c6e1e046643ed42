/-! constructors: they make cells -/
def wsB (ids : List Nat) (cI : ClassId) (ad : Nat → Nat) (σ : St) : va_W := ids.map fun k => (ad k, cellE cI ad σ k)
def estI (b : Nat) : List Nat := [b, b + 3, b + 4, b + 5, b + 6, b + 7, b + 9, b + 10, b + 11, b + 12, b + 13, b + 14]
/-- the estate at the start -/
def E0 : Es := fun i j => if i = 10 then (if j = 3 then 1 else if j = 6 then 3 else if j = 9 then 5 else 0) else if i = 11 then 1 else if i = 12 ∧ j = 2 then 1 else 0
theorem big_in {w : Cond} (h : w ∈ BIG) : w ∈ lw_tbl := (List.mem_filter.mp h).1
theorem last_C (wr : va_W) (x : Nat × va_E) : [wr.length].map (fun i => (wr ++ [x])[i]?) = [x].map some := by simp
theorem last_R (wr : va_W) (x : Nat × va_E) : (List.range wr.length).map (fun i => (wr ++ [x])[i]?) = wr.map some := by
  apply List.ext_getElem?
  intro i
  by_cases h : i < wr.length
  · simp [h, List.getElem?_append_left h]
  · have h1 : (List.range wr.length)[i]? = none := by simp; omega
    have h2 : wr[i]? = none := by simp; omega
    simp [h1, h2]
theorem nd_of : ∀ (L : List Nat), L.Nodup → va_nd L = true
  | [], _ => rfl
  | a :: l, h => by
    rw [List.nodup_cons] at h
    unfold va_nd
    rw [decide_eq_true h.1, nd_of l h.2]
    rfl
theorem nd_range (n : Nat) : va_nd (List.range n) = true := nd_of _ List.nodup_range
section CT
variable {p : Program} {l : Launch} {e : Env} {R : Room} {s : State} {m : MethodId} {args : Array Value} {below : List Frame} {meth : Method} {c : Code} {H H0 : Heap} {locs : List Loc} {cells slots : Nat} {Q : State → Prop} {cc : ByteArray} {pc : Nat} {ls : Array Slot} {rest : List Value} {D : va_G} {cI : ClassId} {ws : va_W} {A : Nat → Prop}
theorem c_newa (hx : p.tables.exec = Jvm.exec) (hb : c.code = cc) (harr : (Cond.arrayClass .int).before args s = true) (hK : va_K D vwCl [(cI, .int)] s) (hP : va_P D vwCl ws H) (hD : va_D A ws) (hS : va_S A H0 H locs) (hA : ∀ q, H0.size ≤ q → A q) {n : Int32} (N : Nat) (hn : ¬ n < 0) (hN : n.toNatClampNeg = N) (hN9 : N ≤ 1000) (hcells : cells + 1 ≤ R.cells) (hslots : slots + N ≤ R.slots) (hdg : decode cc pc = .ok (.newarray .int, 2))
    (kk : ∀ (q : Nat) (H1 : Heap), va_P D vwCl (ws ++ [(q, .inl (cI, N, .inl (fun _ => 0)))]) H1 → va_D A (ws ++ [(q, .inl (cI, N, .inl (fun _ => 0)))]) → va_S A H0 H1 locs → W p l e R s m args below meth c H1 locs (cells + 1) (slots + N) Q (F0 m (pc + 2) ls (.ref q :: rest))) : W p l e R s m args below meth c H locs cells slots Q (F0 m pc ls (.int n :: rest)) := by
  refine va_newa (atype := .int) (ty := .int) (a0 := (N, .inl (fun _ => 0))) hx hb harr rfl hK hP hD hS hA (fun cA => rfl) hn hN ?_ hcells hslots hdg (fun q cA H1 hK1 hP1 hD1 hS1 => ?_)
  · have : componentBytes FieldType.int = 4 := rfl
    rw [this]; omega
  · have h1 := (hK.2 0 _ rfl).2
    have h2 := (hK1.2 1 _ rfl).2
    have h3 : cA = cI := Option.some.inj (h2.symm.trans h1)
    subst h3
    exact kk q H1 hP1 hD1 hS1
end CT
/-- a constructor's end: the cells that it has made are ids, its own object is the first of them -/
def CQ (ids : List Nat) (b h0 : Nat) (D : va_G) (cI : ClassId) (X : St → Prop) (A : Nat → Prop) : Array Value → State → Outcome → State → Prop :=
  va_Qv (fun u : (Nat → Nat) × St => u.1 b = h0 ∧ X u.2) (fun u t => va_P D vwCl (wsB ids cI u.1 u.2) t.heap ∧ va_K D vwCl [(cI, .int)] t ∧ va_D A (wsB ids cI u.1 u.2)) A
/-- a constructor's contract -/
def CMet (l : Launch) (k : Nat) (ci : Nat) (fs : List Value) (ids : List Nat) (b : Nat) (rm : Room) (X : St → Prop) : Prop :=
  ∀ (D : va_G) (cI : ClassId) (h0 sz : Nat), Met l (mT k).1 (.code (mT k).1 (mT k).2.1 (mT k).2.2.1 none :: BIG) rm (va_Pc [.ref h0] (fun U => U.heap.size = sz ∧ va_P D vwCl [(h0, .inr (ci, fs))] U.heap ∧ va_K D vwCl [(cI, .int)] U ∧ va_D (fun _ => True) [(h0, .inr (ci, fs))])) (CQ ids b h0 D cI X (va_A [(h0, .inr (ci, fs))] sz)) rm.cells rm.slots (va_A [(h0, .inr (ci, fs))] sz)
