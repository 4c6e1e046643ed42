/-! what a list of instructions must be to stand for a method's bytes -/
def lnI (i : Instr) : Nat := match i with
  | .iload _ => 2 | .lload _ => 2 | .aload _ => 2 | .istore _ => 2 | .bipush _ => 2 | .ldc _ => 2
  | .sipush _ => 3 | .ldc_w _ => 3 | .ldc2_w _ => 3 | .iinc _ _ => 3 | .goto _ => 3 | .ifCond _ _ => 3 | .if_icmp _ _ => 3
  | .getfield _ => 3 | .putfield _ => 3 | .invokevirtual _ => 3 | .invokestatic _ => 3
  | _ => 1
def isSw (i : Instr) : Bool := match i with | .tableswitch _ _ _ _ => true | .lookupswitch _ _ => true | _ => false
def pcA (cd : List Ins) (k : Nat) : Nat := match cd[k]? with | some i => i.2.2.1 | none => 0
def okT (cd : List Ins) (pc : Nat) (o : Int) (t : Nat) : Bool := decide (t < cd.length) && decide ((pc : Int) + o = (pcA cd t : Int))
def okTs (cd : List Ins) (pc : Nat) : List Int → List Nat → Bool
  | [], [] => true
  | o :: os, t :: ts => okT cd pc o t && okTs cd pc os ts
  | _, _ => false
def okA (mi : MI) (cd : List Ins) (i : Ins) : Bool :=
  match i.1 with
  | .iconst n => decide (Int32.ofInt n = gC i.2.2.2.2)
  | .bipush n => decide ((Int8.ofInt n).toInt32 = gC i.2.2.2.2)
  | .sipush n => decide ((Int16.ofInt n).toInt32 = gC i.2.2.2.2)
  | .ldc x => cIT.any (fun q => q.1 == mi.2.2.2.2.2 && q.2.1 == x && decide (q.2.2.1 = gC i.2.2.2.2))
  | .ldc_w x => cIT.any (fun q => q.1 == mi.2.2.2.2.2 && q.2.1 == x && decide (q.2.2.1 = gC i.2.2.2.2))
  | .lconst n => decide (Int64.ofNat (n : Nat) = gL i.2.2.2.2)
  | .ldc2_w x => cLT.any (fun q => q.1 == mi.2.2.2.2.2 && q.2.1 == x && decide (q.2.2.1 = gL i.2.2.2.2))
  | .istore k => decide (k < mi.2.2.1)
  | .istore_n k => decide (k.val < mi.2.2.1)
  | .iinc k n => decide (k < mi.2.2.1) && decide (Int32.ofInt n = gC i.2.2.2.2)
  | .goto o => okTs cd i.2.2.1 [o] (gT i.2.2.2.2)
  | .ifCond _ o => okTs cd i.2.2.1 [o] (gT i.2.2.2.2)
  | .if_icmp _ o => okTs cd i.2.2.1 [o] (gT i.2.2.2.2)
  | .tableswitch d _ _ os => okTs cd i.2.2.1 (d :: os.toList) (gT i.2.2.2.2)
  | .lookupswitch d ps => okTs cd i.2.2.1 (d :: ps.toList.map (fun q => q.2)) (gT i.2.2.2.2) && ps.toList.all (fun q => decide ((Int32.ofInt q.1).toInt = q.1)) && (ps.toList.zip (ps.toList.drop 1)).all (fun (a, next) => a.1 < next.1)
  | .getfield x => fLT.any (fun q => q.1 == mi.2.2.2.2.2 && q.2.1 == x && q.2.2.1 == (gF i.2.2.2.2).1 && q.2.2.2.1 == (gF i.2.2.2.2).2.1) && offs (gF i.2.2.2.2).1 (gF i.2.2.2.2).2.1 == (gF i.2.2.2.2).2.2.1 && decide ((gF i.2.2.2.2).1 < 7) && decide ((gF i.2.2.2.2).2.1 < nF (gF i.2.2.2.2).1)
  | .putfield x => fLT.any (fun q => q.1 == mi.2.2.2.2.2 && q.2.1 == x && q.2.2.1 == (gF i.2.2.2.2).1 && q.2.2.2.1 == (gF i.2.2.2.2).2.1) && offs (gF i.2.2.2.2).1 (gF i.2.2.2.2).2.1 == 0 && decide ((gF i.2.2.2.2).1 < 7) && decide ((gF i.2.2.2.2).2.1 < nF (gF i.2.2.2.2).1) && !(Tn (gF i.2.2.2.2).1 (gF i.2.2.2.2).2.1).2.2.2 && decide (parseFieldDescriptor (Tn (gF i.2.2.2.2).1 (gF i.2.2.2.2).2.1).2.2.1 = some (if (gF i.2.2.2.2).2.2.2 then .boolean else .int))
  | .invokevirtual x => mLT.any (fun q => q.1 == mi.2.2.2.2.2 && q.2.1 == x && q.2.2.1 == (gM i.2.2.2.2).1) && mFT.any (fun q => q.1 == (gM i.2.2.2.2).1 && q.2.1 == (gM i.2.2.2.2).2.1 && q.2.2.1 == false) && (mT (gM i.2.2.2.2).1).2.2.2.2.2 == (gM i.2.2.2.2).2.2.2.2 && (mT (gM i.2.2.2.2).1).2.2.2.1.isSome == (gM i.2.2.2.2).2.2.2.1 && decide ((mT (gM i.2.2.2.2).1).2.2.2.2.1 < mi.2.2.2.2.1) && decide ((mT (gM i.2.2.2.2).1).2.2.1 ≤ 23) && decide ((gM i.2.2.2.2).2.2.2.2 < 7)
  | .invokestatic x => if (gM i.2.2.2.2).1 = 900 then cpT.any (fun q => q.1 == mi.2.2.2.2.2 && q.2.1 == x) && decide (1 ≤ mi.2.2.2.2.1)
      else if (gM i.2.2.2.2).1 = 901 then mxT.any (fun q => q.1 == mi.2.2.2.2.2 && q.2.1 == x) && decide (1 ≤ mi.2.2.2.2.1)
      else (mLT.any (fun q => q.1 == mi.2.2.2.2.2 && q.2.1 == x && q.2.2.1 == (gM i.2.2.2.2).1) || mLN.any (fun q => q.1 == mi.2.2.2.2.2 && q.2.1 == x && q.2.2.1 == (gM i.2.2.2.2).1)) && mFT.any (fun q => q.1 == (gM i.2.2.2.2).1 && q.2.1 == (gM i.2.2.2.2).2.1 && q.2.2.1 == true) && (mT (gM i.2.2.2.2).1).2.2.2.1.isSome == (gM i.2.2.2.2).2.2.2.1 && decide ((mT (gM i.2.2.2.2).1).2.2.2.2.1 < mi.2.2.2.2.1) && decide ((mT (gM i.2.2.2.2).1).2.2.1 ≤ 23)
  | _ => true
def okI (mi : MI) (cd : List Ins) (k : Nat) : Bool := match cd[k]? with
  | none => false
  | some i => i.2.1 == k && (match decode mi.2.1 i.2.2.1 with | .ok (j, n) => decide (j = i.1) && (isSw i.1 || n == lnI i.1) | .error _ => false) && (isSw i.1 || (match cd[k + 1]? with | some j => j.2.2.1 == i.2.2.1 + lnI i.1 | none => true)) && okA mi cd i
def okCode (mi : MI) (cd : List Ins) : Bool := (List.range cd.length).all (okI mi cd)
/-! the tables' words, by their places -/
theorem big_at {w : Cond} (i : Nat) (h : lw_tbl[i]? = some w) (g : goodWord w = true) : w ∈ BIG := List.mem_filter.mpr ⟨List.mem_of_getElem? h, g⟩
theorem big_good : ∀ w ∈ BIG, goodWord w = true := fun _ h => (List.mem_filter.mp h).2
theorem fLT_ok : fLT.all (fun q => decide (lw_tbl[q.2.2.2.2]? = some (Cond.fieldLink (Rn q.1) q.2.1 (Tn q.2.2.1 q.2.2.2.1).1 (Tn q.2.2.1 q.2.2.2.1).2.1 (Tn q.2.2.1 q.2.2.2.1).2.2.1))) = true := by decide +kernel
theorem mLT_ok : mLT.all (fun q => decide (lw_tbl[q.2.2.2]? = some (Cond.methodLink (Rn q.1) q.2.1 (mT q.2.2.1).1))) = true := by decide +kernel
theorem mLN_ok : mLN.all (fun q => decide (lw_tbl[q.2.2.2]? = some (Cond.methodLinkNest (Rn q.1) q.2.1 (mT q.2.2.1).1 RX5))) = true := by decide +kernel
theorem cIT_ok : cIT.all (fun q => decide (lw_tbl[q.2.2.2]? = some (Cond.constant (Rn q.1) q.2.1 q.2.2.1))) = true := by decide +kernel
theorem cLT_ok : cLT.all (fun q => decide (lw_tbl[q.2.2.2]? = some (Cond.constantLong (Rn q.1) q.2.1 q.2.2.1))) = true := by decide +kernel
theorem cpT_ok : cpT.all (fun q => decide (lw_tbl[q.2.2]? = some (Cond.methodLink (Rn q.1) q.2.1 arraycopyName))) = true := by decide +kernel
theorem mxT_ok : mxT.all (fun q => decide (lw_tbl[q.2.2]? = some (Cond.methodLink (Rn q.1) q.2.1 Lib.Math.max.name))) = true := by decide +kernel
/-- the facts of a method: code, initialised, static or instance and selected, its class' name, how many arguments -/
def mFq (q : Nat × Nat × Bool × Nat × Nat × Nat × Nat) : Bool :=
  decide ((mT q.1).1.cls = Rn (mT q.1).2.2.2.2.2) && decide (lw_tbl[q.2.2.2.2.1]? = some (Cond.initialized (Rn (mT q.1).2.2.2.2.2))) && (if q.2.2.1 then decide (lw_tbl[q.2.2.2.2.2.1]? = some (Cond.static (mT q.1).1)) else decide (lw_tbl[q.2.2.2.2.2.1]? = some (Cond.instanceMethod (mT q.1).1)) && decide (lw_tbl[q.2.2.2.2.2.2]? = some (Cond.selects (Rn (mT q.1).2.2.2.2.2) (mT q.1).1 (mT q.1).1)))
   && decide ((parseMethodDescriptor (mT q.1).1.desc).map (fun d => d.parameters.length) = some q.2.1)
theorem mFT_ok : mFT.all mFq = true := by decide +kernel
theorem Rn_plain : (List.range 9).all (fun k => decide (Rn k ≠ "java/lang/invoke/MethodHandle" ∧ Rn k ≠ "java/lang/invoke/VarHandle") && plainName (Rn k)) = true := by decide +kernel
theorem mT_own : (List.range 200).all (fun k => decide ((mT k).2.2.2.2.2 < 8)) = true := by decide +kernel
