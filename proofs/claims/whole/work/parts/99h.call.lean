section CC
variable {p : Program} {l : Launch} {e : Env} {R : Room} {s : State} {m : MethodId} {args : Array Value} {below : List Frame} {meth : Method} {c : Code} {H H0 : Heap} {locs : List Loc} {cells slots : Nat} {Q : State → Prop} {cc : ByteArray} {pc : Nat} {ls : Array Slot} {rest : List Value} {D : va_G} {cI : ClassId} {wr : va_W} {A : Nat → Prop}
theorem c_call {k ci index nL q b : Nat} {fs : List Value} {ids : List Nat} {rm : Room} {X : St → Prop} {Ts : List Cond} {own : String} (hfix : CallFix p m c cc nL s args Ts own)
    (hcw : CallB R s args own index (mT k).1 (mT k).2.1 (mT k).2.2.1 none (.code (mT k).1 (mT k).2.1 (mT k).2.2.1 none :: BIG) rm rm.cells rm.slots 0 ∧ (mT k).1.name = "<init>" ∧ (Cond.instanceMethod (mT k).1).before args s = true)
    (hM : CMet l k ci fs ids b rm X) (hK : va_K D vwCl [(cI, .int)] s) (hP : va_P D vwCl (wr ++ [(q, .inr (ci, fs))]) H) (hD : va_D A (wr ++ [(q, .inr (ci, fs))])) (hS : va_S A H0 H locs) (hA : ∀ q, H0.size ≤ q → A q) (hls : ls.size = nL) (hrest : (rest.map fun v => v.category).sum ≤ 8) (hdg : decode cc pc = .ok (.invokespecial index, 3)) (hf : cells + rm.cells ≤ R.cells ∧ slots + rm.slots ≤ R.slots)
    (kk : ∀ (u : (Nat → Nat) × St) (H1 : Heap) (locs1 : List Loc), u.1 b = q → X u.2 → va_P D vwCl (wr ++ wsB ids cI u.1 u.2) H1 → va_D A (wr ++ wsB ids cI u.1 u.2) → va_S A H0 H1 locs1 → W p l e R s m args below meth c H1 locs1 (cells + rm.cells) (slots + rm.slots) Q (F0 m (pc + 3) ls rest)) : W p l e R s m args below meth c H locs cells slots Q (F0 m pc ls (.ref q :: rest)) := by
  have hPc := hP.sub (ws' := [(q, .inr (ci, fs))]) [wr.length] (by simp)
  have hDc := hD.sub (ws' := [(q, .inr (ci, fs))]) [wr.length] (by rfl) (last_C wr _)
  have hFc := va_free (wc := [(q, .inr (ci, fs))]) hD hS hA [wr.length] (last_C wr _)
  have hM1 := hM D cI q H.size
  unfold CQ at hM1
  refine va_callv (va_runI (As := []) (rest := rest) hfix hM1 hcw ⟨fun a U g mk q => by obtain ⟨q0, q1, qP, qK, qD⟩ := q; exact ⟨q0, q1, qP, va_K.moved (u := U) (U := U.calling g mk a) (Vm.Alike.refl U.vm) qK, qD⟩, fun U hU hW => ⟨rfl, by rw [hU], by rw [hU]; exact hPc, va_K.moved hW.alike hK, hDc.weaken (fun _ _ _ _ => trivial)⟩⟩ rfl rfl hls rfl (lv_room hrest) hdg hf) hS (fun q _ h => hFc q h) hFc (fun u t H1 locs ht hvm hw hB hz1 hk1 hS => ?_)
  obtain ⟨hP1, hK1, hD1⟩ := hB
  rw [ht] at hP1
  obtain ⟨hP2, hD2⟩ := va_join (wr := wr) (w1 := wsB ids cI u.1 u.2) hP hD [wr.length] (List.range wr.length) (last_C wr _) (last_R wr _) (nd_range _) (by intro i hi; simp at hi ⊢; omega) hk1 hFc hP1 hD1
  exact kk u H1 locs hw.1 hw.2 hP2 hD2 hS
end CC
theorem good_lw {y : MethodName} {b : ByteArray} {n : Nat} {rt : Option FieldType} (h : Cond.code y b n rt ∈ BIG) : GoodIn lw_tbl (.code y b n rt :: BIG) := by
  intro w hw
  rcases List.mem_cons.mp hw with rfl | hw
  · exact ⟨big_in h, Or.inl rfl⟩
  · exact ⟨big_in hw, good_of_word (big_good w hw)⟩
