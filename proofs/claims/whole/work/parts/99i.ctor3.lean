theorem dX3_init_0 : decode cX3_init 0 = .ok (.aload_n 0, 1) := by decide +kernel
theorem dX3_init_1 : decode cX3_init 1 = .ok (.invokespecial 3, 3) := by decide +kernel
theorem dX3_init_4 : decode cX3_init 4 = .ok (.aload_n 0, 1) := by decide +kernel
theorem dX3_init_5 : decode cX3_init 5 = .ok (.new 9, 3) := by decide +kernel
theorem dX3_init_8 : decode cX3_init 8 = .ok (.dup, 1) := by decide +kernel
theorem dX3_init_9 : decode cX3_init 9 = .ok (.invokespecial 11, 3) := by decide +kernel
theorem dX3_init_12 : decode cX3_init 12 = .ok (.putfield 12, 3) := by decide +kernel
theorem dX3_init_15 : decode cX3_init 15 = .ok (.aload_n 0, 1) := by decide +kernel
theorem dX3_init_16 : decode cX3_init 16 = .ok (.bipush 8, 2) := by decide +kernel
theorem dX3_init_18 : decode cX3_init 18 = .ok (.newarray .int, 2) := by decide +kernel
theorem dX3_init_20 : decode cX3_init 20 = .ok (.putfield 18, 3) := by decide +kernel
theorem dX3_init_23 : decode cX3_init 23 = .ok (.aload_n 0, 1) := by decide +kernel
theorem dX3_init_24 : decode cX3_init 24 = .ok (.iconst 0, 1) := by decide +kernel
theorem dX3_init_25 : decode cX3_init 25 = .ok (.putfield 22, 3) := by decide +kernel
theorem dX3_init_28 : decode cX3_init 28 = .ok (.aload_n 0, 1) := by decide +kernel
theorem dX3_init_29 : decode cX3_init 29 = .ok (.iconst 4, 1) := by decide +kernel
theorem dX3_init_30 : decode cX3_init 30 = .ok (.newarray .int, 2) := by decide +kernel
theorem dX3_init_32 : decode cX3_init 32 = .ok (.putfield 26, 3) := by decide +kernel
theorem dX3_init_35 : decode cX3_init 35 = .ok (.return_, 1) := by decide +kernel
set_option maxHeartbeats 4000000 in
set_option maxRecDepth 100000 in
theorem cm_X3 (l : Launch) : CMet l 46 3 [.null, .null, .int 0, .null] ([700, 702, 704] ++ estI 800) 700 { frames := 2, cells := 14, slots := 143, locals := 84 } (fun _ => True) := by
  intro D cI h0 sz
  show Met l yX3_init (.code yX3_init cX3_init 1 none :: BIG) _ _ _ _ _ _
  unfold CQ
  refine Met.ofW (cc := cX3_init) (maxL := 1) (ret := none) (by decide) rfl ?_
  intro p e s m args below meth c s₁ B hml hv
  obtain ⟨rfl, hsz, hP, hK, hD0⟩ := hv
  have hx := B.exec
  have hb := B.bytes
  have hr := B.returns
  have hts := atoms_spec (ws := .code yX3_init cX3_init 1 none :: BIG) B.pre
  have hbg : ∀ w ∈ BIG, w.before _ s = true := fun w hw => hts w (List.mem_cons_of_mem _ hw)
  have hown : s.vm.findClass RX3 = some m.cls := findClass_of_methodNamed B.named
  have hlocks := B.notSynchronized
  have hin : meth.name = "<init>" := (name_of_methodNamed B.named B.method).1
  subst hsz
  have hD := hD0.self (sz := s.heap.size)
  generalize hAe : va_A [(h0, .inr (3, [.null, .null, .int 0, .null]))] s.heap.size = A at hD ⊢
  have hA : ∀ q : Nat, s.heap.size ≤ q → A q := fun q h => by rw [← hAe]; exact Or.inr h
  have hS : va_S A s.heap s.heap [] := va_S.rf
  have hP : va_P D vwCl [(h0, .inr (3, [.null, .null, .int 0, .null]))] s.heap := hP
  have hl := lv_entry ([.ref h0]) (n := 1) (Nat.le_of_ble_eq_true rfl)
  rw [lg_entry_eq]
  generalize (lg_sl ([.ref h0]) ++ List.replicate (1 - (lg_sl ([.ref h0])).length) Slot.unset).toArray = ls at hl ⊢
  have hl : lv_has ls 1 [(0, .ref h0)] := hl
  refine lv_aload_n hx hb dX3_init_0 rfl (lv_at hl 0 rfl) ?_
  refine W.objInit hx hb hown (hbg (.methodLink RX3 3 objectInit) (big_at 194 (by decide +kernel) rfl)) (hbg (.instanceMethod objectInit) (big_at 57 (by decide +kernel) rfl)) (hbg (.code objectInit ⟨#[0xb1]⟩ 1 none) (big_at 58 (by decide +kernel) rfl)) rfl (by rw [hml]; exact hl.1) rfl dX3_init_1 (Nat.le_of_ble_eq_true rfl) (Nat.le_of_ble_eq_true rfl) ?_
  refine W.eq (g2 := F0 m 4 ls []) rfl ?_
  refine lv_aload_n hx hb dX3_init_4 rfl (lv_at hl 0 rfl) ?_
  refine va_new (D := D) (ci := 0) (fs := [.int 0, .int 0, .null, .null, .null, .null, .null, .int 0, .null, .null, .null, .null, .null, .null, .int 0]) (C := RX0) (T := TX0) (N := 15) hx hb hbg (cl_in (ci := 0) (by decide)) tyX0 tyX0_ok hown (hbg (.classLink RX3 9 RX0) (big_at 195 (by decide +kernel) rfl)) (hbg (.instantiable RX0 15) (big_at 60 (by decide +kernel) rfl)) (hbg (.initialized RX0) (big_at 42 (by decide +kernel) rfl)) hK hP hD hS hA rfl (fun j hj => by rcases (show j = 0 ∨ j = 1 ∨ j = 2 ∨ j = 3 ∨ j = 4 ∨ j = 5 ∨ j = 6 ∨ j = 7 ∨ j = 8 ∨ j = 9 ∨ j = 10 ∨ j = 11 ∨ j = 12 ∨ j = 13 ∨ j = 14 by omega) with rfl | rfl | rfl | rfl | rfl | rfl | rfl | rfl | rfl | rfl | rfl | rfl | rfl | rfl | rfl <;> rfl) (Nat.le_of_ble_eq_true rfl) (Nat.le_of_ble_eq_true rfl) dX3_init_5 (fun q0 H hP hD hS => ?_)
  refine lv_dup hx hb dX3_init_8 rfl ?_
  refine c_call (k := 0) (b := 800) ⟨hx, hb, hml, hown, hbg⟩ (cwI 0 hbg (good_big (y := yX0_init) (b := cX0_init) (n := 2) (rt := none) (big_at 63 (by decide +kernel) rfl)) rfl rfl rfl (hbg (.initialized RX0) (big_at 42 (by decide +kernel) rfl)) (hbg (.methodLink RX3 11 yX0_init) (big_at 196 (by decide +kernel) rfl)) (hbg (.instanceMethod yX0_init) (big_at 62 (by decide +kernel) rfl)) rfl (by decide +kernel) ⟨Nat.le_of_ble_eq_true rfl, Nat.le_of_ble_eq_true rfl⟩) (cm_X0 l (b := 800) (Or.inr (Or.inr (Or.inr rfl)))) hK hP hD hS hA hl.1 (Nat.le_of_ble_eq_true rfl) dX3_init_9 ⟨Nat.le_of_ble_eq_true rfl, Nat.le_of_ble_eq_true rfl⟩ (fun u0 H locs hq_u0 hX_u0 hP hD hS => ?_)
  have hP : va_P D vwCl ([(h0, .inr (3, [.null, .null, .int 0, .null]))] ++ wsB (estI 800) cI u0.1 u0.2) H := hP
  have hD : va_D A ([(h0, .inr (3, [.null, .null, .int 0, .null]))] ++ wsB (estI 800) cI u0.1 u0.2) := hD
  refine va_putF (D := D) (ci := 3) (v := .ref q0) (ty := tyX3 0) (C := RX3) (T := TX3) (N := 4) hx hb hbg (cl_in (ci := 3) (by decide)) tyX3 tyX3_ok nmX3 hown hK hP hD hS 0 rfl rfl 0 (by decide) (hbg (.fieldLink RX3 12 "KinGoods$Suit" "then" "LKinGoods$Estate;") (big_at 197 (by decide +kernel) rfl)) (fun _ h9 => h9) rfl hin rfl (tyX3_ok 0 (by decide)) rfl rfl (Nat.le_of_ble_eq_true rfl) dX3_init_12 (fun H locs hP hD hS => ?_)
  have hP : va_P D vwCl ([(h0, .inr (3, [.ref q0, .null, .int 0, .null]))] ++ wsB (estI 800) cI u0.1 u0.2) H := hP
  have hD : va_D A ([(h0, .inr (3, [.ref q0, .null, .int 0, .null]))] ++ wsB (estI 800) cI u0.1 u0.2) := hD
  refine lv_aload_n hx hb dX3_init_15 rfl (lv_at hl 0 rfl) ?_
  refine lv_bipush (v := 8) hx hb dX3_init_16 (by decide) ?_
  refine c_newa hx hb (hbg (.arrayClass .int) (big_at 129 (by decide +kernel) rfl)) hK hP hD hS hA 8 (by decide) (by decide) (by decide) (Nat.le_of_ble_eq_true rfl) (Nat.le_of_ble_eq_true rfl) dX3_init_18 (fun q1 H hP hD hS => ?_)
  have hP : va_P D vwCl (([(h0, .inr (3, [.ref q0, .null, .int 0, .null]))] ++ wsB (estI 800) cI u0.1 u0.2) ++ [(q1, .inl (cI, 8, .inl (fun _ => 0)))]) H := hP
  have hD : va_D A (([(h0, .inr (3, [.ref q0, .null, .int 0, .null]))] ++ wsB (estI 800) cI u0.1 u0.2) ++ [(q1, .inl (cI, 8, .inl (fun _ => 0)))]) := hD
  refine va_putF (D := D) (ci := 3) (v := .ref q1) (ty := tyX3 1) (C := RX3) (T := TX3) (N := 4) hx hb hbg (cl_in (ci := 3) (by decide)) tyX3 tyX3_ok nmX3 hown hK hP hD hS 0 rfl rfl 1 (by decide) (hbg (.fieldLink RX3 18 "KinGoods$Suit" "dead" "[I") (big_at 198 (by decide +kernel) rfl)) (fun _ h9 => h9) rfl hin rfl (tyX3_ok 1 (by decide)) rfl rfl (Nat.le_of_ble_eq_true rfl) dX3_init_20 (fun H locs hP hD hS => ?_)
  have hP : va_P D vwCl (([(h0, .inr (3, [.ref q0, .ref q1, .int 0, .null]))] ++ wsB (estI 800) cI u0.1 u0.2) ++ [(q1, .inl (cI, 8, .inl (fun _ => 0)))]) H := hP
  have hD : va_D A (([(h0, .inr (3, [.ref q0, .ref q1, .int 0, .null]))] ++ wsB (estI 800) cI u0.1 u0.2) ++ [(q1, .inl (cI, 8, .inl (fun _ => 0)))]) := hD
  refine lv_aload_n hx hb dX3_init_23 rfl (lv_at hl 0 rfl) ?_
  refine lv_iconst (v := 0) hx hb dX3_init_24 (by decide) ?_
  refine va_put (D := D) (ci := 3) (v := .int 0) (ty := tyX3 2) (C := RX3) (T := TX3) (N := 4) hx hb hbg (cl_in (ci := 3) (by decide)) tyX3 tyX3_ok nmX3 hown hK hP hD hS 0 rfl rfl 2 (by decide) (hbg (.fieldLink RX3 22 "KinGoods$Suit" "n" "I") (big_at 199 (by decide +kernel) rfl)) (fun _ h9 => h9) rfl (tyX3_ok 2 (by decide)) rfl rfl (Nat.le_of_ble_eq_true rfl) dX3_init_25 (fun H locs hP hD hS => ?_)
  have hP : va_P D vwCl (([(h0, .inr (3, [.ref q0, .ref q1, .int 0, .null]))] ++ wsB (estI 800) cI u0.1 u0.2) ++ [(q1, .inl (cI, 8, .inl (fun _ => 0)))]) H := hP
  have hD : va_D A (([(h0, .inr (3, [.ref q0, .ref q1, .int 0, .null]))] ++ wsB (estI 800) cI u0.1 u0.2) ++ [(q1, .inl (cI, 8, .inl (fun _ => 0)))]) := hD
  refine lv_aload_n hx hb dX3_init_28 rfl (lv_at hl 0 rfl) ?_
  refine lv_iconst (v := 4) hx hb dX3_init_29 (by decide) ?_
  refine c_newa hx hb (hbg (.arrayClass .int) (big_at 129 (by decide +kernel) rfl)) hK hP hD hS hA 4 (by decide) (by decide) (by decide) (Nat.le_of_ble_eq_true rfl) (Nat.le_of_ble_eq_true rfl) dX3_init_30 (fun q2 H hP hD hS => ?_)
  have hP : va_P D vwCl ((([(h0, .inr (3, [.ref q0, .ref q1, .int 0, .null]))] ++ wsB (estI 800) cI u0.1 u0.2) ++ [(q1, .inl (cI, 8, .inl (fun _ => 0)))]) ++ [(q2, .inl (cI, 4, .inl (fun _ => 0)))]) H := hP
  have hD : va_D A ((([(h0, .inr (3, [.ref q0, .ref q1, .int 0, .null]))] ++ wsB (estI 800) cI u0.1 u0.2) ++ [(q1, .inl (cI, 8, .inl (fun _ => 0)))]) ++ [(q2, .inl (cI, 4, .inl (fun _ => 0)))]) := hD
  refine va_putF (D := D) (ci := 3) (v := .ref q2) (ty := tyX3 3) (C := RX3) (T := TX3) (N := 4) hx hb hbg (cl_in (ci := 3) (by decide)) tyX3 tyX3_ok nmX3 hown hK hP hD hS 0 rfl rfl 3 (by decide) (hbg (.fieldLink RX3 26 "KinGoods$Suit" "wedded" "[I") (big_at 200 (by decide +kernel) rfl)) (fun _ h9 => h9) rfl hin rfl (tyX3_ok 3 (by decide)) rfl rfl (Nat.le_of_ble_eq_true rfl) dX3_init_32 (fun H locs hP hD hS => ?_)
  have hP : va_P D vwCl ((([(h0, .inr (3, [.ref q0, .ref q1, .int 0, .ref q2]))] ++ wsB (estI 800) cI u0.1 u0.2) ++ [(q1, .inl (cI, 8, .inl (fun _ => 0)))]) ++ [(q2, .inl (cI, 4, .inl (fun _ => 0)))]) H := hP
  have hD : va_D A ((([(h0, .inr (3, [.ref q0, .ref q1, .int 0, .ref q2]))] ++ wsB (estI 800) cI u0.1 u0.2) ++ [(q1, .inl (cI, 8, .inl (fun _ => 0)))]) ++ [(q2, .inl (cI, 4, .inl (fun _ => 0)))]) := hD
  have hP := hP.sub (ws' := ([(h0, .inr (3, [.ref q0, .ref q1, .int 0, .ref q2])), (q1, .inl (cI, 8, .inl (fun _ => 0))), (q2, .inl (cI, 4, .inl (fun _ => 0)))] ++ wsB (estI 800) cI u0.1 u0.2)) [0, 13, 14, 1, 2, 3, 4, 5, 6, 7, 8, 9, 10, 11, 12] rfl
  have hD := hD.sub (ws' := ([(h0, .inr (3, [.ref q0, .ref q1, .int 0, .ref q2])), (q1, .inl (cI, 8, .inl (fun _ => 0))), (q2, .inl (cI, 4, .inl (fun _ => 0)))] ++ wsB (estI 800) cI u0.1 u0.2)) [0, 13, 14, 1, 2, 3, 4, 5, 6, 7, 8, 9, 10, 11, 12] (by decide) rfl
  obtain ⟨ad, had⟩ : ∃ f : Nat → Nat, f = (fun k => if k = 700 then h0 else if k = 702 then q1 else if k = 704 then q2 else u0.1 k) := ⟨_, rfl⟩
  obtain ⟨sg, hsg⟩ : ∃ f : St, f = (fun k => if k < 800 then (fun _ => 0) else u0.2 k) := ⟨_, rfl⟩
  have hq : ([(h0, .inr (3, [.ref q0, .ref q1, .int 0, .ref q2])), (q1, .inl (cI, 8, .inl (fun _ => 0))), (q2, .inl (cI, 4, .inl (fun _ => 0)))] ++ wsB (estI 800) cI u0.1 u0.2) = wsB ([700, 702, 704] ++ estI 800) cI ad sg := by rw [had, hsg]; subst hq_u0; rfl
  rw [hq] at hP hD
  have hh : ad 700 = h0 := by rw [had]; rfl
  have hX : (fun _ => True) sg := trivial
  refine W.widen (k := 14) (n := 143) (Nat.le_of_ble_eq_true rfl) (Nat.le_of_ble_eq_true rfl) ?_
  exact W.vret hx hb hr (fun t ht hW => ⟨⟨(ad, sg), rfl, ⟨hh, hX⟩, by rw [ht]; exact hP, va_K.moved hW.alike hK, hD⟩, hS.F ht⟩) hS.2.2 dX3_init_35
