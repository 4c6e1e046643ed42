/-! THE WALKER: a method's body is walked by a function (vc) over cells that are numbers; proved once to tell of the machine (V_run) -/
abbrev St : Type := Nat → Nat → Int32
abbrev Ax : Type := Int32 ⊕ (Int64 ⊕ (List Nat ⊕ ((Nat × Nat × Nat × Bool) ⊕ (Nat × Nat × Bool × Bool × Nat))))
def aC (c : Int32) : Ax := .inl c
def aL (c : Int64) : Ax := .inr (.inl c)
def aT (t : List Nat) : Ax := .inr (.inr (.inl t))
def aF (ci j o : Nat) (b : Bool) : Ax := .inr (.inr (.inr (.inl (ci, j, o, b))))
def aM (k n : Nat) (st rt : Bool) (ci : Nat) : Ax := .inr (.inr (.inr (.inr (k, n, st, rt, ci))))
def gC (a : Ax) : Int32 := match a with | .inl c => c | _ => 0
def gL (a : Ax) : Int64 := match a with | .inr (.inl c) => c | _ => 0
def gT (a : Ax) : List Nat := match a with | .inr (.inr (.inl t)) => t | _ => []
def gF (a : Ax) : Nat × Nat × Nat × Bool := match a with | .inr (.inr (.inr (.inl t))) => t | _ => (99, 0, 0, false)
def gM (a : Ax) : Nat × Nat × Bool × Bool × Nat := match a with | .inr (.inr (.inr (.inr t))) => t | _ => (999, 0, false, false, 99)
/-- instruction, its place in the list, its pc, whether a walk halts there, what goes with it -/
abbrev Ins : Type := Instr × Nat × Nat × Bool × Ax
def wr (σ : St) (k j : Nat) (v : Int32) : St := fun k' => if k' = k then upd (σ k) j v else σ k'
def wrR (σ : St) (k : Nat) (f : Nat → Int32) : St := fun k' => if k' = k then f else σ k'
def BIG : List Cond := lw_tbl.filter goodWord
def rmL (d : Nat) : Room := { frames := d, cells := 0, slots := 0, locals := 42 * d }
def cv (ad : Nat → Nat) (v : Value) : Value := match v with | .ref k => .ref (ad k) | v => v
def fv (ad : Nat → Nat) (σ : St) (k j : Nat) : Value := if offs (clsOf k) j = 0 then .int (σ k j) else .ref (ad (k + offs (clsOf k) j))
def cellE (cI : ClassId) (ad : Nat → Nat) (σ : St) (k : Nat) : va_E := if clsOf k < 7 then .inr (clsOf k, (List.range (nF (clsOf k))).map (fv ad σ k)) else .inl (cI, lenOf k, .inl (σ k))
def wsW (cI : ClassId) (ad : Nat → Nat) (σ : St) : va_W := idsL.map fun k => (ad k, cellE cI ad σ k)
def nestL : List Cond := mLN.map fun q => Cond.methodLinkNest (Rn q.1) q.2.1 (mT q.2.2.1).1 RX5
def Wd (D : va_G) (cI : ClassId) (U : State) : Prop := va_K D vwCl [(cI, .int)] U ∧ ∀ w ∈ nestL, va_Nw w U
def Bk (D : va_G) (cI : ClassId) (ad : Nat → Nat) (A : Nat → Prop) (σ : St) (t : State) : Prop := va_P D vwCl (wsW cI ad σ) t.heap ∧ Wd D cI t ∧ va_D A (wsW cI ad σ)
def Pw (D : va_G) (cI : ClassId) (ad : Nat → Nat) (σ : St) (sz : Nat) (U : State) : Prop := U.heap.size = sz ∧ va_P D vwCl (wsW cI ad σ) U.heap ∧ Wd D cI U ∧ va_D (fun _ => True) (wsW cI ad σ)
/-- a method's end: an answer r (0 of a method without one) and the store -/
def Qc (rt : Option FieldType) (Q : Int32 → St → Prop) (D : va_G) (cI : ClassId) (ad : Nat → Nat) (A : Nat → Prop) : Array Value → State → Outcome → State → Prop :=
  match rt with
  | none => va_Qv (fun σ' : St => Q 0 σ') (Bk D cI ad A) A
  | some _ => va_Qi (fun r (σ' : St) => Q r σ') (Bk D cI ad A) A
abbrev Spec : Type := List Value → St → (Int32 → St → Prop) → Prop
/-- a method does what S says -/
def AMet (l : Launch) (mi : MI) (S : Spec) : Prop :=
  ∀ (D : va_G) (cI : ClassId) (ad : Nat → Nat) (σ : St) (as : List Value) (Q : Int32 → St → Prop) (sz : Nat), S as σ Q →
    Met l mi.1 (.code mi.1 mi.2.1 mi.2.2.1 mi.2.2.2.1 :: BIG) (rmL mi.2.2.2.2.1)
      (va_Pc (as.map (cv ad)) (Pw D cI ad σ sz))
      (Qc mi.2.2.2.1 Q D cI ad (va_A (wsW cI ad σ) sz)) 0 0 (va_A (wsW cI ad σ) sz)
def CallAt (l : Launch) (k : Nat) (as : List Value) (σ : St) (K : Int32 → St → Prop) : Prop := ∃ S : Spec, AMet l (mT k) S ∧ S as σ K
def okR (rt : Option FieldType) (v : Int32) : Prop := match rt with
  | some .int => True
  | some .boolean => v = nI 0 ∨ v = nI 1
  | _ => False
def lng (v : Value) : Bool := v.category == 2
def lngB (L : List Value) (k : Nat) : Bool := match k with | 0 => false | j + 1 => lng (L.getD j .null)
def swT (jp : Nat → Prop) (x : Int32) : Nat → List Nat → Prop
  | _, [] => True
  | n, t :: r => (x = nI n → jp t) ∧ swT jp x (n + 1) r
def swL (jp : Nat → Prop) (x : Int32) (d : Nat) : List (Int × Int) → List Nat → Prop
  | (a, _) :: r, t :: ts => (x = Int32.ofInt a → jp t) ∧ (¬ x = Int32.ofInt a → swL jp x d r ts)
  | [], [] => jp d
  | _, _ => False
def cnd (c : ClassFile.Cond) (x y : Int32) : Prop := match c with
  | .eq => x = y
  | .ne => ¬ x = y
  | .lt => x < y
  | .ge => y ≤ x
  | .gt => y < x
  | .le => x ≤ y
section Step
variable (l : Launch) (rt : Option FieldType) (Q : Int32 → St → Prop)
def stp (i : Ins) (L S : List Value) (σ : St) (nx : List Value → List Value → St → Prop) (jp : Nat → List Value → List Value → St → Prop) : Prop :=
  match i.1 with
  | .iconst _ => nx L (.int (gC i.2.2.2.2) :: S) σ
  | .bipush _ => nx L (.int (gC i.2.2.2.2) :: S) σ
  | .sipush _ => nx L (.int (gC i.2.2.2.2) :: S) σ
  | .ldc _ => nx L (.int (gC i.2.2.2.2) :: S) σ
  | .ldc_w _ => nx L (.int (gC i.2.2.2.2) :: S) σ
  | .lconst _ => nx L (.long (gL i.2.2.2.2) :: S) σ
  | .ldc2_w _ => nx L (.long (gL i.2.2.2.2) :: S) σ
  | .iload k => (match L.getD k .null with | .int x => nx L (.int x :: S) σ | _ => False)
  | .iload_n k => (match L.getD k.val .null with | .int x => nx L (.int x :: S) σ | _ => False)
  | .lload k => (match L.getD k .null with | .long x => nx L (.long x :: S) σ | _ => False)
  | .lload_n k => (match L.getD k.val .null with | .long x => nx L (.long x :: S) σ | _ => False)
  | .aload k => (match L.getD k .null with | .ref x => nx L (.ref x :: S) σ | _ => False)
  | .aload_n k => (match L.getD k.val .null with | .ref x => nx L (.ref x :: S) σ | _ => False)
  | .istore k => (match S with | .int x :: S => lngB L k = false ∧ nx (L.set k (.int x)) S σ | _ => False)
  | .istore_n k => (match S with | .int x :: S => lngB L k.val = false ∧ nx (L.set k.val (.int x)) S σ | _ => False)
  | .iinc k _ => (match L.getD k .null with | .int x => lngB L k = false ∧ nx (L.set k (.int (x + gC i.2.2.2.2))) S σ | _ => False)
  | .iadd => (match S with | .int y :: .int x :: S => nx L (.int (x + y) :: S) σ | _ => False)
  | .isub => (match S with | .int y :: .int x :: S => nx L (.int (x - y) :: S) σ | _ => False)
  | .imul => (match S with | .int y :: .int x :: S => nx L (.int (x * y) :: S) σ | _ => False)
  | .iand => (match S with | .int y :: .int x :: S => nx L (.int (x &&& y) :: S) σ | _ => False)
  | .ior => (match S with | .int y :: .int x :: S => nx L (.int (x ||| y) :: S) σ | _ => False)
  | .ixor => (match S with | .int y :: .int x :: S => nx L (.int (x ^^^ y) :: S) σ | _ => False)
  | .idiv => (match S with | .int y :: .int x :: S => (¬ y = 0) ∧ nx L (.int (x / y) :: S) σ | _ => False)
  | .irem => (match S with | .int y :: .int x :: S => (¬ y = 0) ∧ nx L (.int (x - x / y * y) :: S) σ | _ => False)
  | .ishl => (match S with | .int y :: .int x :: S => nx L (.int (x <<< (y &&& 31)) :: S) σ | _ => False)
  | .ishr => (match S with | .int y :: .int x :: S => nx L (.int (x >>> (y &&& 31)) :: S) σ | _ => False)
  | .iushr => (match S with | .int y :: .int x :: S => nx L (.int ((x.toUInt32 >>> (y.toUInt32 &&& Int32.toUInt32 31)).toInt32) :: S) σ | _ => False)
  | .ladd => (match S with | .long y :: .long x :: S => nx L (.long (x + y) :: S) σ | _ => False)
  | .lsub => (match S with | .long y :: .long x :: S => nx L (.long (x - y) :: S) σ | _ => False)
  | .lmul => (match S with | .long y :: .long x :: S => nx L (.long (x * y) :: S) σ | _ => False)
  | .land => (match S with | .long y :: .long x :: S => nx L (.long (x &&& y) :: S) σ | _ => False)
  | .lor => (match S with | .long y :: .long x :: S => nx L (.long (x ||| y) :: S) σ | _ => False)
  | .lshl => (match S with | .int y :: .long x :: S => nx L (.long (x <<< (y.toInt64 &&& 63)) :: S) σ | _ => False)
  | .lshr => (match S with | .int y :: .long x :: S => nx L (.long (x >>> (y.toInt64 &&& 63)) :: S) σ | _ => False)
  | .lcmp => (match S with | .long y :: .long x :: S => nx L (.int (lg_cmp x y) :: S) σ | _ => False)
  | .i2l => (match S with | .int x :: S => nx L (.long x.toInt64 :: S) σ | _ => False)
  | .l2i => (match S with | .long x :: S => nx L (.int x.toInt32 :: S) σ | _ => False)
  | .i2b => (match S with | .int x :: S => nx L (.int x.toInt8.toInt32 :: S) σ | _ => False)
  | .i2s => (match S with | .int x :: S => nx L (.int x.toInt16.toInt32 :: S) σ | _ => False)
  | .dup => (match S with | .int x :: S => nx L (.int x :: .int x :: S) σ | .ref x :: S => nx L (.ref x :: .ref x :: S) σ | _ => False)
  | .pop => (match S with | .int _ :: S => nx L S σ | _ => False)
  | .goto _ => (match gT i.2.2.2.2 with | [t] => jp t L S σ | _ => False)
  | .ifCond c _ => (match S, gT i.2.2.2.2 with | .int x :: S, [t] => (cnd c x (nI 0) → jp t L S σ) ∧ (¬ cnd c x (nI 0) → nx L S σ) | _, _ => False)
  | .if_icmp c _ => (match S, gT i.2.2.2.2 with | .int y :: .int x :: S, [t] => (cnd c x y → jp t L S σ) ∧ (¬ cnd c x y → nx L S σ) | _, _ => False)
  | .tableswitch _ lo hi _ => (match S, gT i.2.2.2.2 with | .int x :: S, d :: ts => lo = 0 ∧ (hi : Int) + 1 = ts.length ∧ ts.length < 2 ^ 31 ∧ swT (fun t => jp t L S σ) x 0 ts ∧ ((x < nI 0 ∨ nI ts.length ≤ x) → jp d L S σ) | _, _ => False)
  | .lookupswitch _ ps => (match S, gT i.2.2.2.2 with | .int x :: S, d :: ts => swL (fun t => jp t L S σ) x d ps.toList ts | _, _ => False)
  | .getfield _ => (match S with | .ref k :: S => clsOf k = (gF i.2.2.2.2).1 ∧ nx L ((if (gF i.2.2.2.2).2.2.1 = 0 then .int (σ k (gF i.2.2.2.2).2.1) else .ref (k + (gF i.2.2.2.2).2.2.1)) :: S) σ | _ => False)
  | .putfield _ => (match S with | .int v :: .ref k :: S => clsOf k = (gF i.2.2.2.2).1 ∧ ((gF i.2.2.2.2).2.2.2 = true → v = nI 0 ∨ v = nI 1) ∧ nx L S (wr σ k (gF i.2.2.2.2).2.1 v) | _ => False)
  | .iaload => (match S with | .int x :: .ref k :: S => clsOf k = 7 ∧ vp_in x (lenOf k) ∧ nx L (.int (σ k x.toNatClampNeg) :: S) σ | _ => False)
  | .iastore => (match S with | .int v :: .int x :: .ref k :: S => clsOf k = 7 ∧ vp_in x (lenOf k) ∧ nx L S (wr σ k x.toNatClampNeg v) | _ => False)
  | .arraylength => (match S with | .ref k :: S => clsOf k = 7 ∧ nx L (.int (nI (lenOf k)) :: S) σ | _ => False)
  | .invokevirtual _ => (match S.drop (gM i.2.2.2.2).2.1 with
      | .ref k :: S' => clsOf k = (gM i.2.2.2.2).2.2.2.2 ∧ S'.length ≤ 4 ∧ CallAt l (gM i.2.2.2.2).1 (.ref k :: (S.take (gM i.2.2.2.2).2.1).reverse) σ (fun r σ' => nx L (if (gM i.2.2.2.2).2.2.2.1 = true then .int r :: S' else S') σ')
      | _ => False)
  | .invokestatic _ =>
      if (gM i.2.2.2.2).1 = 900 then (match S with
        | .int n :: .int dp :: .ref kd :: .int sp :: .ref ks :: S => S.length ≤ 4 ∧ clsOf ks = 7 ∧ clsOf kd = 7 ∧ (¬ sp < 0) ∧ (¬ dp < 0) ∧ (¬ n < 0) ∧ sp.toNatClampNeg + n.toNatClampNeg ≤ lenOf ks ∧ dp.toNatClampNeg + n.toNatClampNeg ≤ lenOf kd ∧ nx L S (wrR σ kd (va_cpy (σ ks) (σ kd) sp.toNatClampNeg dp.toNatClampNeg n.toNatClampNeg))
        | _ => False)
      else if (gM i.2.2.2.2).1 = 901 then (match S with | .int y :: .int x :: S => S.length ≤ 4 ∧ nx L (.int (if x < y then y else x) :: S) σ | _ => False)
      else (S.take (gM i.2.2.2.2).2.1).length = (gM i.2.2.2.2).2.1 ∧ (S.drop (gM i.2.2.2.2).2.1).length ≤ 4 ∧ CallAt l (gM i.2.2.2.2).1 (S.take (gM i.2.2.2.2).2.1).reverse σ (fun r σ' => nx L (if (gM i.2.2.2.2).2.2.2.1 = true then .int r :: S.drop (gM i.2.2.2.2).2.1 else S.drop (gM i.2.2.2.2).2.1) σ')
  | .ireturn => (match S with | [.int v] => okR rt v ∧ Q v σ | _ => False)
  | .return_ => (match S with | [] => rt = none ∧ Q 0 σ | _ => False)
  | _ => False
/-- on from a place in the list: halt where it is marked -/
def goF (J : Nat → List Value → List Value → St → Prop) (f : List Ins → List Value → List Value → St → Prop) (r : List Ins) (L S : List Value) (σ : St) : Prop :=
  match r with
  | [] => False
  | j :: _ => if j.2.2.2.1 = true then J j.2.1 L S σ else f r L S σ
def vc (J : Nat → List Value → List Value → St → Prop) (cd : List Ins) : Nat → List Ins → List Value → List Value → St → Prop
  | 0, r, L, S, σ => (match r with | [] => False | j :: _ => J j.2.1 L S σ)
  | n + 1, r, L, S, σ => (match r with
    | [] => False
    | i :: r' => stp l rt Q i L S σ (goF J (vc J cd n) r') (fun t => goF J (vc J cd n) (cd.drop t)))
end Step
