theorem dX5_init_0 : decode cX5_init 0 = .ok (.aload_n 0, 1) := by decide +kernel
theorem dX5_init_1 : decode cX5_init 1 = .ok (.invokespecial 1, 3) := by decide +kernel
theorem dX5_init_4 : decode cX5_init 4 = .ok (.aload_n 0, 1) := by decide +kernel
theorem dX5_init_5 : decode cX5_init 5 = .ok (.new 7, 3) := by decide +kernel
theorem dX5_init_8 : decode cX5_init 8 = .ok (.dup, 1) := by decide +kernel
theorem dX5_init_9 : decode cX5_init 9 = .ok (.invokespecial 9, 3) := by decide +kernel
theorem dX5_init_12 : decode cX5_init 12 = .ok (.putfield 10, 3) := by decide +kernel
theorem dX5_init_15 : decode cX5_init 15 = .ok (.aload_n 0, 1) := by decide +kernel
theorem dX5_init_16 : decode cX5_init 16 = .ok (.new 7, 3) := by decide +kernel
theorem dX5_init_19 : decode cX5_init 19 = .ok (.dup, 1) := by decide +kernel
theorem dX5_init_20 : decode cX5_init 20 = .ok (.invokespecial 9, 3) := by decide +kernel
theorem dX5_init_23 : decode cX5_init 23 = .ok (.putfield 16, 3) := by decide +kernel
theorem dX5_init_26 : decode cX5_init 26 = .ok (.aload_n 0, 1) := by decide +kernel
theorem dX5_init_27 : decode cX5_init 27 = .ok (.new 7, 3) := by decide +kernel
theorem dX5_init_30 : decode cX5_init 30 = .ok (.dup, 1) := by decide +kernel
theorem dX5_init_31 : decode cX5_init 31 = .ok (.invokespecial 9, 3) := by decide +kernel
theorem dX5_init_34 : decode cX5_init 34 = .ok (.putfield 19, 3) := by decide +kernel
theorem dX5_init_37 : decode cX5_init 37 = .ok (.aload_n 0, 1) := by decide +kernel
theorem dX5_init_38 : decode cX5_init 38 = .ok (.new 22, 3) := by decide +kernel
theorem dX5_init_41 : decode cX5_init 41 = .ok (.dup, 1) := by decide +kernel
theorem dX5_init_42 : decode cX5_init 42 = .ok (.invokespecial 24, 3) := by decide +kernel
theorem dX5_init_45 : decode cX5_init 45 = .ok (.putfield 25, 3) := by decide +kernel
theorem dX5_init_48 : decode cX5_init 48 = .ok (.aload_n 0, 1) := by decide +kernel
theorem dX5_init_49 : decode cX5_init 49 = .ok (.new 29, 3) := by decide +kernel
theorem dX5_init_52 : decode cX5_init 52 = .ok (.dup, 1) := by decide +kernel
theorem dX5_init_53 : decode cX5_init 53 = .ok (.invokespecial 31, 3) := by decide +kernel
theorem dX5_init_56 : decode cX5_init 56 = .ok (.putfield 32, 3) := by decide +kernel
theorem dX5_init_59 : decode cX5_init 59 = .ok (.aload_n 0, 1) := by decide +kernel
theorem dX5_init_60 : decode cX5_init 60 = .ok (.new 36, 3) := by decide +kernel
theorem dX5_init_63 : decode cX5_init 63 = .ok (.dup, 1) := by decide +kernel
theorem dX5_init_64 : decode cX5_init 64 = .ok (.invokespecial 38, 3) := by decide +kernel
theorem dX5_init_67 : decode cX5_init 67 = .ok (.putfield 39, 3) := by decide +kernel
theorem dX5_init_70 : decode cX5_init 70 = .ok (.aload_n 0, 1) := by decide +kernel
theorem dX5_init_71 : decode cX5_init 71 = .ok (.new 43, 3) := by decide +kernel
theorem dX5_init_74 : decode cX5_init 74 = .ok (.dup, 1) := by decide +kernel
theorem dX5_init_75 : decode cX5_init 75 = .ok (.invokespecial 45, 3) := by decide +kernel
theorem dX5_init_78 : decode cX5_init 78 = .ok (.putfield 46, 3) := by decide +kernel
theorem dX5_init_81 : decode cX5_init 81 = .ok (.aload_n 0, 1) := by decide +kernel
theorem dX5_init_82 : decode cX5_init 82 = .ok (.iconst 0, 1) := by decide +kernel
theorem dX5_init_83 : decode cX5_init 83 = .ok (.putfield 50, 3) := by decide +kernel
theorem dX5_init_86 : decode cX5_init 86 = .ok (.return_, 1) := by decide +kernel
set_option maxHeartbeats 4000000 in
set_option maxRecDepth 100000 in
theorem cm_X5 (l : Launch) : CMet l 71 5 [.null, .null, .null, .null, .null, .null, .null, .int 0] ([0] ++ estI 100 ++ estI 200 ++ estI 300 ++ [400, 401] ++ [500, 501, 502, 503] ++ [600, 601, 602, 603] ++ [700, 702, 704] ++ estI 800) 0 { frames := 3, cells := 61, slots := 790, locals := 126 } (fun σ => XE 100 E0 σ ∧ σ 0 7 = nI 0 ∧ σ 400 1 = nI 0 ∧ (∀ s, s < 4 → σ 501 s = -1 ∧ σ 502 s = nI 0) ∧ ∀ j, j < 96 → σ 503 j = 0) := by
  intro D cI h0 sz
  show Met l yX5_init (.code yX5_init cX5_init 1 none :: BIG) _ _ _ _ _ _
  unfold CQ
  refine Met.ofW (cc := cX5_init) (maxL := 1) (ret := none) (by decide) rfl ?_
  intro p e s m args below meth c s₁ B hml hv
  obtain ⟨rfl, hsz, hP, hK, hD0⟩ := hv
  have hx := B.exec
  have hb := B.bytes
  have hr := B.returns
  have hts := atoms_spec (ws := .code yX5_init cX5_init 1 none :: BIG) B.pre
  have hbg : ∀ w ∈ BIG, w.before _ s = true := fun w hw => hts w (List.mem_cons_of_mem _ hw)
  have hown : s.vm.findClass RX5 = some m.cls := findClass_of_methodNamed B.named
  have hlocks := B.notSynchronized
  have hin : meth.name = "<init>" := (name_of_methodNamed B.named B.method).1
  subst hsz
  have hD := hD0.self (sz := s.heap.size)
  generalize hAe : va_A [(h0, .inr (5, [.null, .null, .null, .null, .null, .null, .null, .int 0]))] s.heap.size = A at hD ⊢
  have hA : ∀ q : Nat, s.heap.size ≤ q → A q := fun q h => by rw [← hAe]; exact Or.inr h
  have hS : va_S A s.heap s.heap [] := va_S.rf
  have hP : va_P D vwCl [(h0, .inr (5, [.null, .null, .null, .null, .null, .null, .null, .int 0]))] s.heap := hP
  have hl := lv_entry ([.ref h0]) (n := 1) (Nat.le_of_ble_eq_true rfl)
  rw [lg_entry_eq]
  generalize (lg_sl ([.ref h0]) ++ List.replicate (1 - (lg_sl ([.ref h0])).length) Slot.unset).toArray = ls at hl ⊢
  have hl : lv_has ls 1 [(0, .ref h0)] := hl
  refine lv_aload_n hx hb dX5_init_0 rfl (lv_at hl 0 rfl) ?_
  refine W.objInit hx hb hown (hbg (.methodLink RX5 1 objectInit) (big_at 56 (by decide +kernel) rfl)) (hbg (.instanceMethod objectInit) (big_at 57 (by decide +kernel) rfl)) (hbg (.code objectInit ⟨#[0xb1]⟩ 1 none) (big_at 58 (by decide +kernel) rfl)) rfl (by rw [hml]; exact hl.1) rfl dX5_init_1 (Nat.le_of_ble_eq_true rfl) (Nat.le_of_ble_eq_true rfl) ?_
  refine W.eq (g2 := F0 m 4 ls []) rfl ?_
  refine lv_aload_n hx hb dX5_init_4 rfl (lv_at hl 0 rfl) ?_
  refine va_new (D := D) (ci := 0) (fs := [.int 0, .int 0, .null, .null, .null, .null, .null, .int 0, .null, .null, .null, .null, .null, .null, .int 0]) (C := RX0) (T := TX0) (N := 15) hx hb hbg (cl_in (ci := 0) (by decide)) tyX0 tyX0_ok hown (hbg (.classLink RX5 7 RX0) (big_at 59 (by decide +kernel) rfl)) (hbg (.instantiable RX0 15) (big_at 60 (by decide +kernel) rfl)) (hbg (.initialized RX0) (big_at 42 (by decide +kernel) rfl)) hK hP hD hS hA rfl (fun j hj => by rcases (show j = 0 ∨ j = 1 ∨ j = 2 ∨ j = 3 ∨ j = 4 ∨ j = 5 ∨ j = 6 ∨ j = 7 ∨ j = 8 ∨ j = 9 ∨ j = 10 ∨ j = 11 ∨ j = 12 ∨ j = 13 ∨ j = 14 by omega) with rfl | rfl | rfl | rfl | rfl | rfl | rfl | rfl | rfl | rfl | rfl | rfl | rfl | rfl | rfl <;> rfl) (Nat.le_of_ble_eq_true rfl) (Nat.le_of_ble_eq_true rfl) dX5_init_5 (fun q0 H hP hD hS => ?_)
  refine lv_dup hx hb dX5_init_8 rfl ?_
  refine c_call (k := 0) (b := 100) ⟨hx, hb, hml, hown, hbg⟩ (cwI 0 hbg (good_big (y := yX0_init) (b := cX0_init) (n := 2) (rt := none) (big_at 63 (by decide +kernel) rfl)) rfl rfl rfl (hbg (.initialized RX0) (big_at 42 (by decide +kernel) rfl)) (hbg (.methodLink RX5 9 yX0_init) (big_at 61 (by decide +kernel) rfl)) (hbg (.instanceMethod yX0_init) (big_at 62 (by decide +kernel) rfl)) rfl (by decide +kernel) ⟨Nat.le_of_ble_eq_true rfl, Nat.le_of_ble_eq_true rfl⟩) (cm_X0 l (b := 100) (Or.inl rfl)) hK hP hD hS hA hl.1 (Nat.le_of_ble_eq_true rfl) dX5_init_9 ⟨Nat.le_of_ble_eq_true rfl, Nat.le_of_ble_eq_true rfl⟩ (fun u0 H locs hq_u0 hX_u0 hP hD hS => ?_)
  have hP : va_P D vwCl ([(h0, .inr (5, [.null, .null, .null, .null, .null, .null, .null, .int 0]))] ++ wsB (estI 100) cI u0.1 u0.2) H := hP
  have hD : va_D A ([(h0, .inr (5, [.null, .null, .null, .null, .null, .null, .null, .int 0]))] ++ wsB (estI 100) cI u0.1 u0.2) := hD
  refine va_putF (D := D) (ci := 5) (v := .ref q0) (ty := tyX5 0) (C := RX5) (T := TX5) (N := 8) hx hb hbg (cl_in (ci := 5) (by decide)) tyX5 tyX5_ok nmX5 hown hK hP hD hS 0 rfl rfl 0 (by decide) (hbg (.fieldLink RX5 10 "KinGoods" "now" "LKinGoods$Estate;") (big_at 211 (by decide +kernel) rfl)) (fun _ h9 => h9) rfl hin rfl (tyX5_ok 0 (by decide)) rfl rfl (Nat.le_of_ble_eq_true rfl) dX5_init_12 (fun H locs hP hD hS => ?_)
  have hP : va_P D vwCl ([(h0, .inr (5, [.ref q0, .null, .null, .null, .null, .null, .null, .int 0]))] ++ wsB (estI 100) cI u0.1 u0.2) H := hP
  have hD : va_D A ([(h0, .inr (5, [.ref q0, .null, .null, .null, .null, .null, .null, .int 0]))] ++ wsB (estI 100) cI u0.1 u0.2) := hD
  refine lv_aload_n hx hb dX5_init_15 rfl (lv_at hl 0 rfl) ?_
  refine va_new (D := D) (ci := 0) (fs := [.int 0, .int 0, .null, .null, .null, .null, .null, .int 0, .null, .null, .null, .null, .null, .null, .int 0]) (C := RX0) (T := TX0) (N := 15) hx hb hbg (cl_in (ci := 0) (by decide)) tyX0 tyX0_ok hown (hbg (.classLink RX5 7 RX0) (big_at 59 (by decide +kernel) rfl)) (hbg (.instantiable RX0 15) (big_at 60 (by decide +kernel) rfl)) (hbg (.initialized RX0) (big_at 42 (by decide +kernel) rfl)) hK hP hD hS hA rfl (fun j hj => by rcases (show j = 0 ∨ j = 1 ∨ j = 2 ∨ j = 3 ∨ j = 4 ∨ j = 5 ∨ j = 6 ∨ j = 7 ∨ j = 8 ∨ j = 9 ∨ j = 10 ∨ j = 11 ∨ j = 12 ∨ j = 13 ∨ j = 14 by omega) with rfl | rfl | rfl | rfl | rfl | rfl | rfl | rfl | rfl | rfl | rfl | rfl | rfl | rfl | rfl <;> rfl) (Nat.le_of_ble_eq_true rfl) (Nat.le_of_ble_eq_true rfl) dX5_init_16 (fun q1 H hP hD hS => ?_)
  refine lv_dup hx hb dX5_init_19 rfl ?_
  refine c_call (k := 0) (b := 200) ⟨hx, hb, hml, hown, hbg⟩ (cwI 0 hbg (good_big (y := yX0_init) (b := cX0_init) (n := 2) (rt := none) (big_at 63 (by decide +kernel) rfl)) rfl rfl rfl (hbg (.initialized RX0) (big_at 42 (by decide +kernel) rfl)) (hbg (.methodLink RX5 9 yX0_init) (big_at 61 (by decide +kernel) rfl)) (hbg (.instanceMethod yX0_init) (big_at 62 (by decide +kernel) rfl)) rfl (by decide +kernel) ⟨Nat.le_of_ble_eq_true rfl, Nat.le_of_ble_eq_true rfl⟩) (cm_X0 l (b := 200) (Or.inr (Or.inl rfl))) hK hP hD hS hA hl.1 (Nat.le_of_ble_eq_true rfl) dX5_init_20 ⟨Nat.le_of_ble_eq_true rfl, Nat.le_of_ble_eq_true rfl⟩ (fun u1 H locs hq_u1 hX_u1 hP hD hS => ?_)
  have hP : va_P D vwCl (([(h0, .inr (5, [.ref q0, .null, .null, .null, .null, .null, .null, .int 0]))] ++ wsB (estI 100) cI u0.1 u0.2) ++ wsB (estI 200) cI u1.1 u1.2) H := hP
  have hD : va_D A (([(h0, .inr (5, [.ref q0, .null, .null, .null, .null, .null, .null, .int 0]))] ++ wsB (estI 100) cI u0.1 u0.2) ++ wsB (estI 200) cI u1.1 u1.2) := hD
  refine va_putF (D := D) (ci := 5) (v := .ref q1) (ty := tyX5 1) (C := RX5) (T := TX5) (N := 8) hx hb hbg (cl_in (ci := 5) (by decide)) tyX5 tyX5_ok nmX5 hown hK hP hD hS 0 rfl rfl 1 (by decide) (hbg (.fieldLink RX5 16 "KinGoods" "kept" "LKinGoods$Estate;") (big_at 212 (by decide +kernel) rfl)) (fun _ h9 => h9) rfl hin rfl (tyX5_ok 1 (by decide)) rfl rfl (Nat.le_of_ble_eq_true rfl) dX5_init_23 (fun H locs hP hD hS => ?_)
  have hP : va_P D vwCl (([(h0, .inr (5, [.ref q0, .ref q1, .null, .null, .null, .null, .null, .int 0]))] ++ wsB (estI 100) cI u0.1 u0.2) ++ wsB (estI 200) cI u1.1 u1.2) H := hP
  have hD : va_D A (([(h0, .inr (5, [.ref q0, .ref q1, .null, .null, .null, .null, .null, .int 0]))] ++ wsB (estI 100) cI u0.1 u0.2) ++ wsB (estI 200) cI u1.1 u1.2) := hD
  refine lv_aload_n hx hb dX5_init_26 rfl (lv_at hl 0 rfl) ?_
  refine va_new (D := D) (ci := 0) (fs := [.int 0, .int 0, .null, .null, .null, .null, .null, .int 0, .null, .null, .null, .null, .null, .null, .int 0]) (C := RX0) (T := TX0) (N := 15) hx hb hbg (cl_in (ci := 0) (by decide)) tyX0 tyX0_ok hown (hbg (.classLink RX5 7 RX0) (big_at 59 (by decide +kernel) rfl)) (hbg (.instantiable RX0 15) (big_at 60 (by decide +kernel) rfl)) (hbg (.initialized RX0) (big_at 42 (by decide +kernel) rfl)) hK hP hD hS hA rfl (fun j hj => by rcases (show j = 0 ∨ j = 1 ∨ j = 2 ∨ j = 3 ∨ j = 4 ∨ j = 5 ∨ j = 6 ∨ j = 7 ∨ j = 8 ∨ j = 9 ∨ j = 10 ∨ j = 11 ∨ j = 12 ∨ j = 13 ∨ j = 14 by omega) with rfl | rfl | rfl | rfl | rfl | rfl | rfl | rfl | rfl | rfl | rfl | rfl | rfl | rfl | rfl <;> rfl) (Nat.le_of_ble_eq_true rfl) (Nat.le_of_ble_eq_true rfl) dX5_init_27 (fun q2 H hP hD hS => ?_)
  refine lv_dup hx hb dX5_init_30 rfl ?_
  refine c_call (k := 0) (b := 300) ⟨hx, hb, hml, hown, hbg⟩ (cwI 0 hbg (good_big (y := yX0_init) (b := cX0_init) (n := 2) (rt := none) (big_at 63 (by decide +kernel) rfl)) rfl rfl rfl (hbg (.initialized RX0) (big_at 42 (by decide +kernel) rfl)) (hbg (.methodLink RX5 9 yX0_init) (big_at 61 (by decide +kernel) rfl)) (hbg (.instanceMethod yX0_init) (big_at 62 (by decide +kernel) rfl)) rfl (by decide +kernel) ⟨Nat.le_of_ble_eq_true rfl, Nat.le_of_ble_eq_true rfl⟩) (cm_X0 l (b := 300) (Or.inr (Or.inr (Or.inl rfl)))) hK hP hD hS hA hl.1 (Nat.le_of_ble_eq_true rfl) dX5_init_31 ⟨Nat.le_of_ble_eq_true rfl, Nat.le_of_ble_eq_true rfl⟩ (fun u2 H locs hq_u2 hX_u2 hP hD hS => ?_)
  have hP : va_P D vwCl ((([(h0, .inr (5, [.ref q0, .ref q1, .null, .null, .null, .null, .null, .int 0]))] ++ wsB (estI 100) cI u0.1 u0.2) ++ wsB (estI 200) cI u1.1 u1.2) ++ wsB (estI 300) cI u2.1 u2.2) H := hP
  have hD : va_D A ((([(h0, .inr (5, [.ref q0, .ref q1, .null, .null, .null, .null, .null, .int 0]))] ++ wsB (estI 100) cI u0.1 u0.2) ++ wsB (estI 200) cI u1.1 u1.2) ++ wsB (estI 300) cI u2.1 u2.2) := hD
  refine va_putF (D := D) (ci := 5) (v := .ref q2) (ty := tyX5 2) (C := RX5) (T := TX5) (N := 8) hx hb hbg (cl_in (ci := 5) (by decide)) tyX5 tyX5_ok nmX5 hown hK hP hD hS 0 rfl rfl 2 (by decide) (hbg (.fieldLink RX5 19 "KinGoods" "trial" "LKinGoods$Estate;") (big_at 213 (by decide +kernel) rfl)) (fun _ h9 => h9) rfl hin rfl (tyX5_ok 2 (by decide)) rfl rfl (Nat.le_of_ble_eq_true rfl) dX5_init_34 (fun H locs hP hD hS => ?_)
  have hP : va_P D vwCl ((([(h0, .inr (5, [.ref q0, .ref q1, .ref q2, .null, .null, .null, .null, .int 0]))] ++ wsB (estI 100) cI u0.1 u0.2) ++ wsB (estI 200) cI u1.1 u1.2) ++ wsB (estI 300) cI u2.1 u2.2) H := hP
  have hD : va_D A ((([(h0, .inr (5, [.ref q0, .ref q1, .ref q2, .null, .null, .null, .null, .int 0]))] ++ wsB (estI 100) cI u0.1 u0.2) ++ wsB (estI 200) cI u1.1 u1.2) ++ wsB (estI 300) cI u2.1 u2.2) := hD
  refine lv_aload_n hx hb dX5_init_37 rfl (lv_at hl 0 rfl) ?_
  refine va_new (D := D) (ci := 4) (fs := [.null, .int 0, .int 0]) (C := RX4) (T := TX4) (N := 3) hx hb hbg (cl_in (ci := 4) (by decide)) tyX4 tyX4_ok hown (hbg (.classLink RX5 22 RX4) (big_at 130 (by decide +kernel) rfl)) (hbg (.instantiable RX4 3) (big_at 131 (by decide +kernel) rfl)) (hbg (.initialized RX4) (big_at 43 (by decide +kernel) rfl)) hK hP hD hS hA rfl (fun j hj => by rcases (show j = 0 ∨ j = 1 ∨ j = 2 by omega) with rfl | rfl | rfl <;> rfl) (Nat.le_of_ble_eq_true rfl) (Nat.le_of_ble_eq_true rfl) dX5_init_38 (fun q3 H hP hD hS => ?_)
  refine lv_dup hx hb dX5_init_41 rfl ?_
  refine c_call (k := 53) (b := 400) ⟨hx, hb, hml, hown, hbg⟩ (cwI 0 hbg (good_big (y := yX4_init) (b := cX4_init) (n := 1) (rt := none) (big_at 134 (by decide +kernel) rfl)) rfl rfl rfl (hbg (.initialized RX4) (big_at 43 (by decide +kernel) rfl)) (hbg (.methodLink RX5 24 yX4_init) (big_at 132 (by decide +kernel) rfl)) (hbg (.instanceMethod yX4_init) (big_at 133 (by decide +kernel) rfl)) rfl (by decide +kernel) ⟨Nat.le_of_ble_eq_true rfl, Nat.le_of_ble_eq_true rfl⟩) (cm_X4 l) hK hP hD hS hA hl.1 (Nat.le_of_ble_eq_true rfl) dX5_init_42 ⟨Nat.le_of_ble_eq_true rfl, Nat.le_of_ble_eq_true rfl⟩ (fun u3 H locs hq_u3 hX_u3 hP hD hS => ?_)
  have hP : va_P D vwCl (((([(h0, .inr (5, [.ref q0, .ref q1, .ref q2, .null, .null, .null, .null, .int 0]))] ++ wsB (estI 100) cI u0.1 u0.2) ++ wsB (estI 200) cI u1.1 u1.2) ++ wsB (estI 300) cI u2.1 u2.2) ++ wsB [400, 401] cI u3.1 u3.2) H := hP
  have hD : va_D A (((([(h0, .inr (5, [.ref q0, .ref q1, .ref q2, .null, .null, .null, .null, .int 0]))] ++ wsB (estI 100) cI u0.1 u0.2) ++ wsB (estI 200) cI u1.1 u1.2) ++ wsB (estI 300) cI u2.1 u2.2) ++ wsB [400, 401] cI u3.1 u3.2) := hD
  refine va_putF (D := D) (ci := 5) (v := .ref q3) (ty := tyX5 3) (C := RX5) (T := TX5) (N := 8) hx hb hbg (cl_in (ci := 5) (by decide)) tyX5 tyX5_ok nmX5 hown hK hP hD hS 0 rfl rfl 3 (by decide) (hbg (.fieldLink RX5 25 "KinGoods" "tape" "LKinGoods$Tape;") (big_at 214 (by decide +kernel) rfl)) (fun _ h9 => h9) rfl hin rfl (tyX5_ok 3 (by decide)) rfl rfl (Nat.le_of_ble_eq_true rfl) dX5_init_45 (fun H locs hP hD hS => ?_)
  have hP : va_P D vwCl (((([(h0, .inr (5, [.ref q0, .ref q1, .ref q2, .ref q3, .null, .null, .null, .int 0]))] ++ wsB (estI 100) cI u0.1 u0.2) ++ wsB (estI 200) cI u1.1 u1.2) ++ wsB (estI 300) cI u2.1 u2.2) ++ wsB [400, 401] cI u3.1 u3.2) H := hP
  have hD : va_D A (((([(h0, .inr (5, [.ref q0, .ref q1, .ref q2, .ref q3, .null, .null, .null, .int 0]))] ++ wsB (estI 100) cI u0.1 u0.2) ++ wsB (estI 200) cI u1.1 u1.2) ++ wsB (estI 300) cI u2.1 u2.2) ++ wsB [400, 401] cI u3.1 u3.2) := hD
  refine lv_aload_n hx hb dX5_init_48 rfl (lv_at hl 0 rfl) ?_
  refine va_new (D := D) (ci := 2) (fs := [.null, .null, .null]) (C := RX2) (T := TX2) (N := 3) hx hb hbg (cl_in (ci := 2) (by decide)) tyX2 tyX2_ok hown (hbg (.classLink RX5 29 RX2) (big_at 146 (by decide +kernel) rfl)) (hbg (.instantiable RX2 3) (big_at 147 (by decide +kernel) rfl)) (hbg (.initialized RX2) (big_at 44 (by decide +kernel) rfl)) hK hP hD hS hA rfl (fun j hj => by rcases (show j = 0 ∨ j = 1 ∨ j = 2 by omega) with rfl | rfl | rfl <;> rfl) (Nat.le_of_ble_eq_true rfl) (Nat.le_of_ble_eq_true rfl) dX5_init_49 (fun q4 H hP hD hS => ?_)
  refine lv_dup hx hb dX5_init_52 rfl ?_
  refine c_call (k := 36) (b := 500) ⟨hx, hb, hml, hown, hbg⟩ (cwI 0 hbg (good_big (y := yX2_init) (b := cX2_init) (n := 2) (rt := none) (big_at 150 (by decide +kernel) rfl)) rfl rfl rfl (hbg (.initialized RX2) (big_at 44 (by decide +kernel) rfl)) (hbg (.methodLink RX5 31 yX2_init) (big_at 148 (by decide +kernel) rfl)) (hbg (.instanceMethod yX2_init) (big_at 149 (by decide +kernel) rfl)) rfl (by decide +kernel) ⟨Nat.le_of_ble_eq_true rfl, Nat.le_of_ble_eq_true rfl⟩) (cm_X2 l) hK hP hD hS hA hl.1 (Nat.le_of_ble_eq_true rfl) dX5_init_53 ⟨Nat.le_of_ble_eq_true rfl, Nat.le_of_ble_eq_true rfl⟩ (fun u4 H locs hq_u4 hX_u4 hP hD hS => ?_)
  have hP : va_P D vwCl ((((([(h0, .inr (5, [.ref q0, .ref q1, .ref q2, .ref q3, .null, .null, .null, .int 0]))] ++ wsB (estI 100) cI u0.1 u0.2) ++ wsB (estI 200) cI u1.1 u1.2) ++ wsB (estI 300) cI u2.1 u2.2) ++ wsB [400, 401] cI u3.1 u3.2) ++ wsB [500, 501, 502, 503] cI u4.1 u4.2) H := hP
  have hD : va_D A ((((([(h0, .inr (5, [.ref q0, .ref q1, .ref q2, .ref q3, .null, .null, .null, .int 0]))] ++ wsB (estI 100) cI u0.1 u0.2) ++ wsB (estI 200) cI u1.1 u1.2) ++ wsB (estI 300) cI u2.1 u2.2) ++ wsB [400, 401] cI u3.1 u3.2) ++ wsB [500, 501, 502, 503] cI u4.1 u4.2) := hD
  refine va_putF (D := D) (ci := 5) (v := .ref q4) (ty := tyX5 4) (C := RX5) (T := TX5) (N := 8) hx hb hbg (cl_in (ci := 5) (by decide)) tyX5 tyX5_ok nmX5 hown hK hP hD hS 0 rfl rfl 4 (by decide) (hbg (.fieldLink RX5 32 "KinGoods" "sheets" "LKinGoods$Sheets;") (big_at 215 (by decide +kernel) rfl)) (fun _ h9 => h9) rfl hin rfl (tyX5_ok 4 (by decide)) rfl rfl (Nat.le_of_ble_eq_true rfl) dX5_init_56 (fun H locs hP hD hS => ?_)
  have hP : va_P D vwCl ((((([(h0, .inr (5, [.ref q0, .ref q1, .ref q2, .ref q3, .ref q4, .null, .null, .int 0]))] ++ wsB (estI 100) cI u0.1 u0.2) ++ wsB (estI 200) cI u1.1 u1.2) ++ wsB (estI 300) cI u2.1 u2.2) ++ wsB [400, 401] cI u3.1 u3.2) ++ wsB [500, 501, 502, 503] cI u4.1 u4.2) H := hP
  have hD : va_D A ((((([(h0, .inr (5, [.ref q0, .ref q1, .ref q2, .ref q3, .ref q4, .null, .null, .int 0]))] ++ wsB (estI 100) cI u0.1 u0.2) ++ wsB (estI 200) cI u1.1 u1.2) ++ wsB (estI 300) cI u2.1 u2.2) ++ wsB [400, 401] cI u3.1 u3.2) ++ wsB [500, 501, 502, 503] cI u4.1 u4.2) := hD
  refine lv_aload_n hx hb dX5_init_59 rfl (lv_at hl 0 rfl) ?_
  refine va_new (D := D) (ci := 1) (fs := [.null, .null, .null, .int 0, .int 0]) (C := RX1) (T := TX1) (N := 5) hx hb hbg (cl_in (ci := 1) (by decide)) tyX1 tyX1_ok hown (hbg (.classLink RX5 36 RX1) (big_at 164 (by decide +kernel) rfl)) (hbg (.instantiable RX1 5) (big_at 165 (by decide +kernel) rfl)) (hbg (.initialized RX1) (big_at 45 (by decide +kernel) rfl)) hK hP hD hS hA rfl (fun j hj => by rcases (show j = 0 ∨ j = 1 ∨ j = 2 ∨ j = 3 ∨ j = 4 by omega) with rfl | rfl | rfl | rfl | rfl <;> rfl) (Nat.le_of_ble_eq_true rfl) (Nat.le_of_ble_eq_true rfl) dX5_init_60 (fun q5 H hP hD hS => ?_)
  refine lv_dup hx hb dX5_init_63 rfl ?_
  refine c_call (k := 32) (b := 600) ⟨hx, hb, hml, hown, hbg⟩ (cwI 0 hbg (good_big (y := yX1_init) (b := cX1_init) (n := 1) (rt := none) (big_at 168 (by decide +kernel) rfl)) rfl rfl rfl (hbg (.initialized RX1) (big_at 45 (by decide +kernel) rfl)) (hbg (.methodLink RX5 38 yX1_init) (big_at 166 (by decide +kernel) rfl)) (hbg (.instanceMethod yX1_init) (big_at 167 (by decide +kernel) rfl)) rfl (by decide +kernel) ⟨Nat.le_of_ble_eq_true rfl, Nat.le_of_ble_eq_true rfl⟩) (cm_X1 l) hK hP hD hS hA hl.1 (Nat.le_of_ble_eq_true rfl) dX5_init_64 ⟨Nat.le_of_ble_eq_true rfl, Nat.le_of_ble_eq_true rfl⟩ (fun u5 H locs hq_u5 hX_u5 hP hD hS => ?_)
  have hP : va_P D vwCl (((((([(h0, .inr (5, [.ref q0, .ref q1, .ref q2, .ref q3, .ref q4, .null, .null, .int 0]))] ++ wsB (estI 100) cI u0.1 u0.2) ++ wsB (estI 200) cI u1.1 u1.2) ++ wsB (estI 300) cI u2.1 u2.2) ++ wsB [400, 401] cI u3.1 u3.2) ++ wsB [500, 501, 502, 503] cI u4.1 u4.2) ++ wsB [600, 601, 602, 603] cI u5.1 u5.2) H := hP
  have hD : va_D A (((((([(h0, .inr (5, [.ref q0, .ref q1, .ref q2, .ref q3, .ref q4, .null, .null, .int 0]))] ++ wsB (estI 100) cI u0.1 u0.2) ++ wsB (estI 200) cI u1.1 u1.2) ++ wsB (estI 300) cI u2.1 u2.2) ++ wsB [400, 401] cI u3.1 u3.2) ++ wsB [500, 501, 502, 503] cI u4.1 u4.2) ++ wsB [600, 601, 602, 603] cI u5.1 u5.2) := hD
  refine va_putF (D := D) (ci := 5) (v := .ref q5) (ty := tyX5 5) (C := RX5) (T := TX5) (N := 8) hx hb hbg (cl_in (ci := 5) (by decide)) tyX5 tyX5_ok nmX5 hown hK hP hD hS 0 rfl rfl 5 (by decide) (hbg (.fieldLink RX5 39 "KinGoods" "rows" "LKinGoods$Orders;") (big_at 216 (by decide +kernel) rfl)) (fun _ h9 => h9) rfl hin rfl (tyX5_ok 5 (by decide)) rfl rfl (Nat.le_of_ble_eq_true rfl) dX5_init_67 (fun H locs hP hD hS => ?_)
  have hP : va_P D vwCl (((((([(h0, .inr (5, [.ref q0, .ref q1, .ref q2, .ref q3, .ref q4, .ref q5, .null, .int 0]))] ++ wsB (estI 100) cI u0.1 u0.2) ++ wsB (estI 200) cI u1.1 u1.2) ++ wsB (estI 300) cI u2.1 u2.2) ++ wsB [400, 401] cI u3.1 u3.2) ++ wsB [500, 501, 502, 503] cI u4.1 u4.2) ++ wsB [600, 601, 602, 603] cI u5.1 u5.2) H := hP
  have hD : va_D A (((((([(h0, .inr (5, [.ref q0, .ref q1, .ref q2, .ref q3, .ref q4, .ref q5, .null, .int 0]))] ++ wsB (estI 100) cI u0.1 u0.2) ++ wsB (estI 200) cI u1.1 u1.2) ++ wsB (estI 300) cI u2.1 u2.2) ++ wsB [400, 401] cI u3.1 u3.2) ++ wsB [500, 501, 502, 503] cI u4.1 u4.2) ++ wsB [600, 601, 602, 603] cI u5.1 u5.2) := hD
  refine lv_aload_n hx hb dX5_init_70 rfl (lv_at hl 0 rfl) ?_
  refine va_new (D := D) (ci := 3) (fs := [.null, .null, .int 0, .null]) (C := RX3) (T := TX3) (N := 4) hx hb hbg (cl_in (ci := 3) (by decide)) tyX3 tyX3_ok hown (hbg (.classLink RX5 43 RX3) (big_at 189 (by decide +kernel) rfl)) (hbg (.instantiable RX3 4) (big_at 190 (by decide +kernel) rfl)) (hbg (.initialized RX3) (big_at 46 (by decide +kernel) rfl)) hK hP hD hS hA rfl (fun j hj => by rcases (show j = 0 ∨ j = 1 ∨ j = 2 ∨ j = 3 by omega) with rfl | rfl | rfl | rfl <;> rfl) (Nat.le_of_ble_eq_true rfl) (Nat.le_of_ble_eq_true rfl) dX5_init_71 (fun q6 H hP hD hS => ?_)
  refine lv_dup hx hb dX5_init_74 rfl ?_
  refine c_call (k := 46) (b := 700) ⟨hx, hb, hml, hown, hbg⟩ (cwI 0 hbg (good_big (y := yX3_init) (b := cX3_init) (n := 1) (rt := none) (big_at 193 (by decide +kernel) rfl)) rfl rfl rfl (hbg (.initialized RX3) (big_at 46 (by decide +kernel) rfl)) (hbg (.methodLink RX5 45 yX3_init) (big_at 191 (by decide +kernel) rfl)) (hbg (.instanceMethod yX3_init) (big_at 192 (by decide +kernel) rfl)) rfl (by decide +kernel) ⟨Nat.le_of_ble_eq_true rfl, Nat.le_of_ble_eq_true rfl⟩) (cm_X3 l) hK hP hD hS hA hl.1 (Nat.le_of_ble_eq_true rfl) dX5_init_75 ⟨Nat.le_of_ble_eq_true rfl, Nat.le_of_ble_eq_true rfl⟩ (fun u6 H locs hq_u6 hX_u6 hP hD hS => ?_)
  have hP : va_P D vwCl ((((((([(h0, .inr (5, [.ref q0, .ref q1, .ref q2, .ref q3, .ref q4, .ref q5, .null, .int 0]))] ++ wsB (estI 100) cI u0.1 u0.2) ++ wsB (estI 200) cI u1.1 u1.2) ++ wsB (estI 300) cI u2.1 u2.2) ++ wsB [400, 401] cI u3.1 u3.2) ++ wsB [500, 501, 502, 503] cI u4.1 u4.2) ++ wsB [600, 601, 602, 603] cI u5.1 u5.2) ++ wsB ([700, 702, 704] ++ estI 800) cI u6.1 u6.2) H := hP
  have hD : va_D A ((((((([(h0, .inr (5, [.ref q0, .ref q1, .ref q2, .ref q3, .ref q4, .ref q5, .null, .int 0]))] ++ wsB (estI 100) cI u0.1 u0.2) ++ wsB (estI 200) cI u1.1 u1.2) ++ wsB (estI 300) cI u2.1 u2.2) ++ wsB [400, 401] cI u3.1 u3.2) ++ wsB [500, 501, 502, 503] cI u4.1 u4.2) ++ wsB [600, 601, 602, 603] cI u5.1 u5.2) ++ wsB ([700, 702, 704] ++ estI 800) cI u6.1 u6.2) := hD
  refine va_putF (D := D) (ci := 5) (v := .ref q6) (ty := tyX5 6) (C := RX5) (T := TX5) (N := 8) hx hb hbg (cl_in (ci := 5) (by decide)) tyX5 tyX5_ok nmX5 hown hK hP hD hS 0 rfl rfl 6 (by decide) (hbg (.fieldLink RX5 46 "KinGoods" "suit" "LKinGoods$Suit;") (big_at 217 (by decide +kernel) rfl)) (fun _ h9 => h9) rfl hin rfl (tyX5_ok 6 (by decide)) rfl rfl (Nat.le_of_ble_eq_true rfl) dX5_init_78 (fun H locs hP hD hS => ?_)
  have hP : va_P D vwCl ((((((([(h0, .inr (5, [.ref q0, .ref q1, .ref q2, .ref q3, .ref q4, .ref q5, .ref q6, .int 0]))] ++ wsB (estI 100) cI u0.1 u0.2) ++ wsB (estI 200) cI u1.1 u1.2) ++ wsB (estI 300) cI u2.1 u2.2) ++ wsB [400, 401] cI u3.1 u3.2) ++ wsB [500, 501, 502, 503] cI u4.1 u4.2) ++ wsB [600, 601, 602, 603] cI u5.1 u5.2) ++ wsB ([700, 702, 704] ++ estI 800) cI u6.1 u6.2) H := hP
  have hD : va_D A ((((((([(h0, .inr (5, [.ref q0, .ref q1, .ref q2, .ref q3, .ref q4, .ref q5, .ref q6, .int 0]))] ++ wsB (estI 100) cI u0.1 u0.2) ++ wsB (estI 200) cI u1.1 u1.2) ++ wsB (estI 300) cI u2.1 u2.2) ++ wsB [400, 401] cI u3.1 u3.2) ++ wsB [500, 501, 502, 503] cI u4.1 u4.2) ++ wsB [600, 601, 602, 603] cI u5.1 u5.2) ++ wsB ([700, 702, 704] ++ estI 800) cI u6.1 u6.2) := hD
  refine lv_aload_n hx hb dX5_init_81 rfl (lv_at hl 0 rfl) ?_
  refine lv_iconst (v := 0) hx hb dX5_init_82 (by decide) ?_
  refine va_put (D := D) (ci := 5) (v := .int 0) (ty := tyX5 7) (C := RX5) (T := TX5) (N := 8) hx hb hbg (cl_in (ci := 5) (by decide)) tyX5 tyX5_ok nmX5 hown hK hP hD hS 0 rfl rfl 7 (by decide) (hbg (.fieldLink RX5 50 "KinGoods" "imaged" "Z") (big_at 218 (by decide +kernel) rfl)) (fun _ h9 => h9) rfl (tyX5_ok 7 (by decide)) rfl rfl (Nat.le_of_ble_eq_true rfl) dX5_init_83 (fun H locs hP hD hS => ?_)
  have hP : va_P D vwCl ((((((([(h0, .inr (5, [.ref q0, .ref q1, .ref q2, .ref q3, .ref q4, .ref q5, .ref q6, .int 0]))] ++ wsB (estI 100) cI u0.1 u0.2) ++ wsB (estI 200) cI u1.1 u1.2) ++ wsB (estI 300) cI u2.1 u2.2) ++ wsB [400, 401] cI u3.1 u3.2) ++ wsB [500, 501, 502, 503] cI u4.1 u4.2) ++ wsB [600, 601, 602, 603] cI u5.1 u5.2) ++ wsB ([700, 702, 704] ++ estI 800) cI u6.1 u6.2) H := hP
  have hD : va_D A ((((((([(h0, .inr (5, [.ref q0, .ref q1, .ref q2, .ref q3, .ref q4, .ref q5, .ref q6, .int 0]))] ++ wsB (estI 100) cI u0.1 u0.2) ++ wsB (estI 200) cI u1.1 u1.2) ++ wsB (estI 300) cI u2.1 u2.2) ++ wsB [400, 401] cI u3.1 u3.2) ++ wsB [500, 501, 502, 503] cI u4.1 u4.2) ++ wsB [600, 601, 602, 603] cI u5.1 u5.2) ++ wsB ([700, 702, 704] ++ estI 800) cI u6.1 u6.2) := hD
  obtain ⟨ad, had⟩ : ∃ f : Nat → Nat, f = (fun k => if k < 100 then h0 else if k < 200 then u0.1 k else if k < 300 then u1.1 k else if k < 400 then u2.1 k else if k < 500 then u3.1 k else if k < 600 then u4.1 k else if k < 700 then u5.1 k else u6.1 k) := ⟨_, rfl⟩
  obtain ⟨sg, hsg⟩ : ∃ f : St, f = (fun k => if k < 100 then (fun _ => 0) else if k < 200 then u0.2 k else if k < 300 then u1.2 k else if k < 400 then u2.2 k else if k < 500 then u3.2 k else if k < 600 then u4.2 k else if k < 700 then u5.2 k else u6.2 k) := ⟨_, rfl⟩
  have hq : ((((((([(h0, .inr (5, [.ref q0, .ref q1, .ref q2, .ref q3, .ref q4, .ref q5, .ref q6, .int 0]))] ++ wsB (estI 100) cI u0.1 u0.2) ++ wsB (estI 200) cI u1.1 u1.2) ++ wsB (estI 300) cI u2.1 u2.2) ++ wsB [400, 401] cI u3.1 u3.2) ++ wsB [500, 501, 502, 503] cI u4.1 u4.2) ++ wsB [600, 601, 602, 603] cI u5.1 u5.2) ++ wsB ([700, 702, 704] ++ estI 800) cI u6.1 u6.2) = wsB ([0] ++ estI 100 ++ estI 200 ++ estI 300 ++ [400, 401] ++ [500, 501, 502, 503] ++ [600, 601, 602, 603] ++ [700, 702, 704] ++ estI 800) cI ad sg := by rw [had, hsg]; subst hq_u0 hq_u1 hq_u2 hq_u3 hq_u4 hq_u5 hq_u6; rfl
  rw [hq] at hP hD
  have hh : ad 0 = h0 := by rw [had]; rfl
  have s1 : ∀ k, 100 ≤ k → k < 115 → sg k = u0.2 k := fun k h1 h2 => by rw [hsg]; dsimp only; rw [if_neg (by omega), if_pos (by omega)]
  have s4 : sg 400 = u3.2 400 := by rw [hsg]; rfl
  have s501 : sg 501 = u4.2 501 := by rw [hsg]; rfl
  have s502 : sg 502 = u4.2 502 := by rw [hsg]; rfl
  have s503 : sg 503 = u4.2 503 := by rw [hsg]; rfl
  have hX : (fun σ => XE 100 E0 σ ∧ σ 0 7 = nI 0 ∧ σ 400 1 = nI 0 ∧ (∀ s, s < 4 → σ 501 s = -1 ∧ σ 502 s = nI 0) ∧ ∀ j, j < 96 → σ 503 j = 0) sg := ⟨hX_u0.frame s1, by rw [hsg]; rfl, by rw [s4]; exact hX_u3, by rw [s501, s502, s503]; exact hX_u4⟩
  refine W.widen (k := 61) (n := 790) (Nat.le_of_ble_eq_true rfl) (Nat.le_of_ble_eq_true rfl) ?_
  exact W.vret hx hb hr (fun t ht hW => ⟨⟨(ad, sg), rfl, ⟨hh, hX⟩, by rw [ht]; exact hP, va_K.moved hW.alike hK, hD⟩, hS.F ht⟩) hS.2.2 dX5_init_86
