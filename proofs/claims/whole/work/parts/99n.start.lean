theorem law_body {p : Program} {l : Launch} {e : Env} {s : State} {m : MethodId} {below : List Frame} {meth : Method} {c : Code} {D : va_G} {cI : ClassId} {ad : Nat → Nat} {b L i : Nat} {xs : Nat → Int32} {ls : Array Slot} {A : AS} {σ : St} (hL : LwC p s m meth c D cI ad b L i xs ls) (hC : CX A σ) (hM : MX A σ) (hN : ∀ A σ, CX A σ → MX A σ → LwS l p e s m below meth c D cI ad b ls 1249 [] σ) : LwS l p e s m below meth c D cI ad b ls 27 [] σ := by
  obtain ⟨⟨hx, hb, -, -, -, -, hX, hbl, -, -⟩, h4, hi, -, hl⟩ := id hL
  intro H locs hP hD hS
  refine lv_aload_n hx hb dL_law_27 rfl (lv_at hl 0 rfl) ?_
  refine lv_iload_n hx hb dL_law_28 rfl (lv_at hl 3 rfl) ?_
  refine va_sld hx hb hX hbl (Nat.not_le.mpr hbl) hS (vp_in_nI (by omega) (by omega)) dL_law_29 ?_
  refine lv_bipush (v := 31) hx hb dL_law_30 (by decide) ?_
  refine lv_iand hx hb dL_law_32 ?_
  obtain ⟨j, hj, e⟩ := pk_andE (xs (nI i).toNatClampNeg) (m := 31) 5 (by decide)
  rw [e]
  rcases (show j = 0 ∨ j = 1 ∨ j = 2 ∨ j = 3 ∨ j = 4 ∨ j = 5 ∨ j = 6 ∨ j = 7 ∨ j = 8 ∨ j = 9 ∨ j = 10 ∨ j = 11 ∨ j = 12 ∨ j = 13 ∨ j = 14 ∨ j = 15 ∨ j = 16 ∨ j = 17 ∨ j = 18 ∨ j = 19 ∨ j = 20 ∨ j = 21 ∨ j = 22 ∨ j = 23 ∨ j = 24 ∨ j = 25 ∨ j = 26 ∨ j = 27 ∨ j = 28 ∨ j = 29 ∨ j = 30 ∨ j = 31 by omega) with rfl | rfl | rfl | rfl | rfl | rfl | rfl | rfl | rfl | rfl | rfl | rfl | rfl | rfl | rfl | rfl | rfl | rfl | rfl | rfl | rfl | rfl | rfl | rfl | rfl | rfl | rfl | rfl | rfl | rfl | rfl | rfl
  · exact lv_tableIn (tgt := 172) hx hb dL_law_33 (by decide) (by decide) rfl (by decide) (law_person hL hC hM hN H locs hP hD hS)
  · exact lv_tableIn (tgt := 215) hx hb dL_law_33 (by decide) (by decide) rfl (by decide) (law_marry hL hC hM hN H locs hP hD hS)
  · exact lv_tableIn (tgt := 248) hx hb dL_law_33 (by decide) (by decide) rfl (by decide) (law_adopt hL hC hM hN H locs hP hD hS)
  · exact lv_tableIn (tgt := 281) hx hb dL_law_33 (by decide) (by decide) rfl (by decide) (law_god hL hC hM hN H locs hP hD hS)
  · exact lv_tableIn (tgt := 314) hx hb dL_law_33 (by decide) (by decide) rfl (by decide) (law_told hL hC hM hN H locs hP hD hS)
  · exact lv_tableIn (tgt := 347) hx hb dL_law_33 (by decide) (by decide) rfl (by decide) (law_kin hL hC hM hN H locs hP hD hS)
  · exact lv_tableIn (tgt := 380) hx hb dL_law_33 (by decide) (by decide) rfl (by decide) (law_thing hL hC hM hN H locs hP hD hS)
  · exact lv_tableIn (tgt := 433) hx hb dL_law_33 (by decide) (by decide) rfl (by decide) (law_of hL hC hM hN H locs hP hD hS)
  · exact lv_tableIn (tgt := 466) hx hb dL_law_33 (by decide) (by decide) rfl (by decide) (law_rule hL hC hM hN H locs hP hD hS)
  · exact lv_tableIn (tgt := 509) hx hb dL_law_33 (by decide) (by decide) rfl (by decide) (law_heir hL hC hM hN H locs hP hD hS)
  · exact lv_tableIn (tgt := 542) hx hb dL_law_33 (by decide) (by decide) rfl (by decide) (law_type hL hC hM hN H locs hP hD hS)
  · exact lv_tableIn (tgt := 605) hx hb dL_law_33 (by decide) (by decide) rfl (by decide) (law_family hL hC hM hN H locs hP hD hS)
  · exact lv_tableIn (tgt := 618) hx hb dL_law_33 (by decide) (by decide) rfl (by decide) (law_rules hL hC hM hN H locs hP hD hS)
  · exact lv_tableIn (tgt := 631) hx hb dL_law_33 (by decide) (by decide) rfl (by decide) (law_count hL hC hM hN H locs hP hD hS)
  · exact lv_tableIn (tgt := 654) hx hb dL_law_33 (by decide) (by decide) rfl (by decide) (law_dies hL hC hM hN H locs hP hD hS)
  · exact lv_tableIn (tgt := 677) hx hb dL_law_33 (by decide) (by decide) rfl (by decide) (law_gathers hL hC hM hN H locs hP hD hS)
  · exact lv_tableIn (tgt := 710) hx hb dL_law_33 (by decide) (by decide) rfl (by decide) (law_balance hL hC hM hN H locs hP hD hS)
  · exact lv_tableIn (tgt := 733) hx hb dL_law_33 (by decide) (by decide) rfl (by decide) (law_paid hL hC hM hN H locs hP hD hS)
  · exact lv_tableIn (tgt := 746) hx hb dL_law_33 (by decide) (by decide) rfl (by decide) (law_orders hL hC hM hN H locs hP hD hS)
  · exact lv_tableIn (tgt := 789) hx hb dL_law_33 (by decide) (by decide) rfl (by decide) (law_explained hL hC hM hN H locs hP hD hS)
  · exact lv_tableIn (tgt := 812) hx hb dL_law_33 (by decide) (by decide) rfl (by decide) (law_lots hL hC hM hN H locs hP hD hS)
  · exact lv_tableIn (tgt := 835) hx hb dL_law_33 (by decide) (by decide) rfl (by decide) (law_seed hL hC hM hN H locs hP hD hS)
  · exact lv_tableIn (tgt := 858) hx hb dL_law_33 (by decide) (by decide) rfl (by decide) (law_image hL hC hM hN H locs hP hD hS)
  · exact lv_tableIn (tgt := 871) hx hb dL_law_33 (by decide) (by decide) rfl (by decide) (law_restore hL hC hM hN H locs hP hD hS)
  · exact lv_tableIn (tgt := 884) hx hb dL_law_33 (by decide) (by decide) rfl (by decide) (law_judged hL hC hM hN H locs hP hD hS)
  · exact lv_tableIn (tgt := 937) hx hb dL_law_33 (by decide) (by decide) rfl (by decide) (law_wed hL hC hM hN H locs hP hD hS)
  · exact lv_tableIn (tgt := 1024) hx hb dL_law_33 (by decide) (by decide) rfl (by decide) (law_film hL hC hM hN H locs hP hD hS)
  · exact lv_tableIn (tgt := 1067) hx hb dL_law_33 (by decide) (by decide) rfl (by decide) (law_sheet hL hC hM hN H locs hP hD hS)
  · exact lv_tableIn (tgt := 1110) hx hb dL_law_33 (by decide) (by decide) rfl (by decide) (law_drop hL hC hM hN H locs hP hD hS)
  · exact lv_tableIn (tgt := 1133) hx hb dL_law_33 (by decide) (by decide) rfl (by decide) (law_item hL hC hM hN H locs hP hD hS)
  · exact lv_tableIn (tgt := 1186) hx hb dL_law_33 (by decide) (by decide) rfl (by decide) (law_copy hL hC hM hN H locs hP hD hS)
  · exact lv_tableOut (tgt := 1249) hx hb dL_law_33 (by decide) (by decide) (hN A σ hC hM H locs hP hD hS)
theorem law_loop {p : Program} {l : Launch} {e : Env} {s : State} {m : MethodId} {below : List Frame} {meth : Method} {c : Code} {D : va_G} {cI : ClassId} {ad : Nat → Nat} {b L : Nat} {xs : Nat → Int32} (C0 : lw_At p s m meth c b L xs) (h4 : L ≤ 4096) (hWd : Wd D cI s) : ∀ (n i : Nat) (A : AS) (σ : St) (ls : Array Slot), L < i + 8 * n + 8 → i ≤ 5000 → CX A σ → MX A σ → lv_has ls 4 [(0, .ref b), (1, .ref (ad 0)), (2, .ref (ad 900)), (3, .int (nI i))] → LwS l p e s m below meth c D cI ad b ls 18 [] σ := by
  intro n
  induction n with
  | zero =>
    intro i A σ ls hn hi5 hC hM hl
    obtain ⟨hx, hb, hr, -, -, -, hX, hbl, hlocks, -⟩ := id C0
    intro H locs hP hD hS
    refine lv_iload_n hx hb dL_law_18 rfl (lv_at hl 3 rfl) ?_
    refine lv_aload_n hx hb dL_law_19 rfl (lv_at hl 0 rfl) ?_
    refine va_slen hx hb hX hbl (Nat.not_le.mpr hbl) hS dL_law_20 ?_
    refine lv_bipush (v := nI 8) hx hb dL_law_21 (by decide) ?_
    refine lv_isub hx hb dL_law_23 ?_
    refine lv_icmp_gt (tgt := 1255) hx hb dL_law_24 (by decide) (fun _ => ?_) (fun c9 => absurd ?_ c9)
    · refine lv_iconst (v := 1) hx hb dL_law_1255 (by decide) ?_
      refine va_forget hS.2.2 ?_
      exact lw_ret hx hb hr hlocks dL_law_1256
    · show nI L - nI 8 < nI i
      rw [i_lt, pk_sub_toInt (by omega) (by decide), nI_nn i (by omega)]
      omega
  | succ n ih =>
    intro i A σ ls hn hi5 hC hM hl
    obtain ⟨hx, hb, hr, -, -, -, hX, hbl, hlocks, -⟩ := id C0
    intro H locs hP hD hS
    refine lv_iload_n hx hb dL_law_18 rfl (lv_at hl 3 rfl) ?_
    refine lv_aload_n hx hb dL_law_19 rfl (lv_at hl 0 rfl) ?_
    refine va_slen hx hb hX hbl (Nat.not_le.mpr hbl) hS dL_law_20 ?_
    refine lv_bipush (v := nI 8) hx hb dL_law_21 (by decide) ?_
    refine lv_isub hx hb dL_law_23 ?_
    refine lv_icmp_gt (tgt := 1255) hx hb dL_law_24 (by decide) (fun _ => ?_) (fun c9 => ?_)
    · refine lv_iconst (v := 1) hx hb dL_law_1255 (by decide) ?_
      refine va_forget hS.2.2 ?_
      exact lw_ret hx hb hr hlocks dL_law_1256
    · have hi : i + 8 ≤ L := by
        have c9 : ¬ nI L - nI 8 < nI i := c9
        rw [i_lt, pk_sub_toInt (by omega) (by decide), nI_nn i (by omega)] at c9
        omega
      refine law_body ⟨C0, h4, hi, hWd, hl⟩ hC hM (fun A' σ' hC' hM' => ?_) H locs hP hD hS
      intro H locs hP hD hS
      refine lv_iinc (v := nI (i + 8)) (lv' := [(3, .int (nI (i + 8))), (0, .ref b), (1, .ref (ad 0)), (2, .ref (ad 900))]) hx hb dL_law_1249 hl (k := 3) rfl (nI_add i 8) (by decide) rfl (fun ls hl => ?_)
      refine lv_goto (tgt := 18) hx hb dL_law_1252 (by decide) ?_
      exact ih (i + 8) A' σ' ls (by omega) (by omega) hC' hM' (lv_sub hl [1, 2, 3, 0] rfl) H locs hP hD hS
def A0 : AS := (E0, none, ((fun _ => 0), 0), ((fun _ => -1), (fun _ => 0), (fun _ => 0)))
theorem Wf_E0 : Wf E0 := ⟨by decide, by decide, by decide, fun p hp => absurd hp (Nat.not_lt_zero p), fun t ht => absurd ht (Nat.not_lt_zero t), fun k hk => by
  rcases (show k = 0 ∨ k = 1 ∨ k = 2 ∨ k = 3 by omega) with rfl | rfl | rfl | rfl <;> exact ⟨by decide, by decide, by decide⟩⟩
theorem AWf_0 : AWf A0 := ⟨Wf_E0, fun _ h => (by cases h), TpW_0 _, fun s _ => ⟨Or.inl rfl, Nat.zero_le _⟩⟩
theorem CX_0 {σ : St} (h1 : XE 100 E0 σ) (h2 : σ 0 7 = nI 0) (h3 : σ 400 1 = nI 0) (h4 : ∀ s, s < 4 → σ 501 s = -1 ∧ σ 502 s = nI 0) (h5 : ∀ j, j < 96 → σ 503 j = 0) : CX A0 σ :=
  ⟨AWf_0, h1, h2, fun _ h => (by cases h), ⟨h3, fun i hi => absurd hi (Nat.not_lt_zero i)⟩, ⟨h4, h5⟩⟩
theorem MX_0 {σ : St} (h1 : ME E0 σ) (h2 : σ 900 22 = nI 0) (h3 : σ 900 16 = nI 0) (h4 : ∀ s, s < 4 → σ 926 s = -1 ∧ σ 927 s = nI 0) (h5 : ∀ j, j < 96 → σ 928 j = 0) : MX A0 σ :=
  ⟨AWf_0, h1, h2, fun _ h => (by cases h), ⟨h3, fun i hi => absurd hi (Nat.not_lt_zero i)⟩, ⟨h4, h5⟩⟩
theorem inst_at : ∀ ci, ci < 7 → Cond.instantiable (Rn ci) (nF ci) ∈ lw_tbl := by
  intro ci h
  rcases (show ci = 0 ∨ ci = 1 ∨ ci = 2 ∨ ci = 3 ∨ ci = 4 ∨ ci = 5 ∨ ci = 6 by omega) with rfl | rfl | rfl | rfl | rfl | rfl | rfl

  · exact List.mem_of_getElem? (i := 60) (by decide +kernel)
  · exact List.mem_of_getElem? (i := 165) (by decide +kernel)
  · exact List.mem_of_getElem? (i := 147) (by decide +kernel)
  · exact List.mem_of_getElem? (i := 190) (by decide +kernel)
  · exact List.mem_of_getElem? (i := 131) (by decide +kernel)
  · exact List.mem_of_getElem? (i := 52) (by decide +kernel)
  · exact List.mem_of_getElem? (i := 683) (by decide +kernel)
theorem nest_in {w : Cond} (h : w ∈ nestL) : w ∈ lw_tbl := by
  obtain ⟨q, hq, rfl⟩ := List.mem_map.mp h
  exact List.mem_of_getElem? (of_decide_eq_true (List.all_eq_true.mp mLN_ok q hq))
theorem Wd_0 {s : State} {args : Array Value} (hts : ∀ w ∈ lw_tbl, w.before args s = true) : ∃ (D : va_G) (cI : ClassId), Wd D cI s := by
  have hk : ∀ ci, ∃ (cC : ClassId) (iS : Nat → Nat), ci < 7 → u_Kn s (Rn ci) (Tn ci) (nF ci) cC iS := fun ci => by
    by_cases h : ci < 7
    · obtain ⟨cC, iS, hu⟩ := u_known (C := Rn ci) (T := Tn ci) (N := nF ci) (n := nF ci) hts (fun w hw => big_in (cl_in h w hw)) (hts _ (inst_at ci h))
      exact ⟨cC, iS, fun _ => hu⟩
    · obtain ⟨cC, iS, hu⟩ := u_known (C := Rn 0) (T := Tn 0) (N := nF 0) (n := nF 0) hts (fun w hw => big_in (cl_in (by decide) w hw)) (hts _ (inst_at 0 (by decide)))
      exact ⟨cC, iS, fun z => absurd z h⟩
  obtain ⟨cA, kA, comp, hfind, hk2, hkind⟩ := Cond.arrayClass_spec (hts (.arrayClass .int) (List.mem_of_getElem? (i := 129) (by decide +kernel)))
  refine ⟨(fun ci => (hk ci).choose, fun ci => (hk ci).choose_spec.choose), cA, ⟨fun ci q hq => ?_, fun j q hq => ?_⟩, fun w hw => va_Nw.of (nest_on hw) (hts w (nest_in hw))⟩
  · have h7 : ci < 7 := by
      have := (List.getElem?_eq_some_iff.mp hq).1
      exact this
    have e := cl_at h7
    rw [hq] at e
    cases e
    exact (hk ci).choose_spec.choose_spec h7
  · match j, hq with
    | 0, hq =>
      cases hq
      exact ⟨fun n z => ⟨fun k h => (by cases h), kA, hk2, comp, hkind⟩, hfind⟩
    | j + 1, hq => simp at hq
set_option maxHeartbeats 4000000 in
set_option maxRecDepth 100000 in
/-- THE LAW, from its entry -/
theorem whole_start {p : Program} {e : Env} {s : State} {m : MethodId} {below : List Frame} {meth : Method} {c : Code} (l : Launch) (hflags : l.flags = flags0) {b L : Nat} {xs : Nat → Int32} (hL : L ≤ 4096) (C0 : lw_At p s m meth c b L xs) : W p l e room_1 s m #[Value.ref b] below meth c s.heap [] 0 0 (lw_Z below #[Value.ref b] s) (entryFrame m ([Value.ref b] : List Value).toArray 4) := by
  obtain ⟨hx, hb, hr, hml, hown, hts, hX, hbl, hlocks, hgv⟩ := id C0
  have hown : s.vm.findClass RL = some m.cls := hown
  have hA : ∀ q : Nat, s.heap.size ≤ q → (fun q : Nat => s.heap.size ≤ q) q := fun _ h => h
  obtain ⟨D, cI, hWd⟩ := Wd_0 hts
  have hK := hWd.1
  have hS : va_S (fun q : Nat => s.heap.size ≤ q) s.heap s.heap [] := va_S.rf
  have hP : va_P D vwCl [] s.heap := fun k q h => by simp at h
  have hD : va_D (fun q : Nat => s.heap.size ≤ q) [] := ⟨fun i j p q h => by simp at h, fun k q h => by simp at h⟩
  have hl := lv_entry ([.ref b]) (n := 4) (Nat.le_of_ble_eq_true rfl)
  rw [lg_entry_eq]
  generalize (lg_sl ([.ref b]) ++ List.replicate (4 - (lg_sl ([.ref b])).length) Slot.unset).toArray = ls at hl ⊢
  have hl : lv_has ls 4 [(0, .ref b)] := hl
  refine va_new (D := D) (ci := 5) (fs := [.null, .null, .null, .null, .null, .null, .null, .int 0]) (C := RX5) (T := TX5) (N := 8) hx hb hts (fun w hw => big_in (cl_in (ci := 5) (by decide) w hw)) tyX5 tyX5_ok hown (hts (.classLink RL 7 RX5) (List.mem_of_getElem? (i := 51) (by decide +kernel))) (hts (.instantiable RX5 8) (inst_at 5 (by decide))) (hts (.initialized RX5) (List.mem_of_getElem? (i := 41) (by decide +kernel))) hK hP hD hS hA rfl (fun j hj => by rcases (show j = 0 ∨ j = 1 ∨ j = 2 ∨ j = 3 ∨ j = 4 ∨ j = 5 ∨ j = 6 ∨ j = 7 by omega) with rfl | rfl | rfl | rfl | rfl | rfl | rfl | rfl <;> rfl) (Nat.le_of_ble_eq_true rfl) (Nat.le_of_ble_eq_true rfl) dL_law_0 (fun q0 H hP hD hS => ?_)
  refine lv_dup hx hb dL_law_3 rfl ?_
  refine c_call (k := 71) (b := 0) ⟨hx, hb, hml, hown, hts⟩ (cwI 0 hts (good_lw (y := yX5_init) (b := cX5_init) (n := 1) (rt := none) (big_at 55 (by decide +kernel) rfl)) rfl rfl rfl (hts (.initialized RX5) (List.mem_of_getElem? (i := 41) (by decide +kernel))) (hts (.methodLink RL 9 yX5_init) (List.mem_of_getElem? (i := 53) (by decide +kernel))) (hts (.instanceMethod yX5_init) (List.mem_of_getElem? (i := 54) (by decide +kernel))) rfl (by decide +kernel) ⟨Nat.le_of_ble_eq_true rfl, Nat.le_of_ble_eq_true rfl⟩) (cm_X5 l) hK hP hD hS hA hl.1 (Nat.le_of_ble_eq_true rfl) dL_law_4 ⟨Nat.le_of_ble_eq_true rfl, Nat.le_of_ble_eq_true rfl⟩ (fun u H locs hq_u hX_u hP hD hS => ?_)
  have hP : va_P D vwCl (wsB ([0] ++ estI 100 ++ estI 200 ++ estI 300 ++ [400, 401] ++ [500, 501, 502, 503] ++ [600, 601, 602, 603] ++ [700, 702, 704] ++ estI 800) cI u.1 u.2) H := hP
  have hD : va_D (fun q : Nat => s.heap.size ≤ q) (wsB ([0] ++ estI 100 ++ estI 200 ++ estI 300 ++ [400, 401] ++ [500, 501, 502, 503] ++ [600, 601, 602, 603] ++ [700, 702, 704] ++ estI 800) cI u.1 u.2) := hD
  refine lv_astore_n (lv' := [(1, .ref q0), (0, .ref b)]) hx hb dL_law_7 rfl hl (by decide) rfl (fun ls hl => ?_)
  refine va_new (D := D) (ci := 6) (fs := [.null, .null, .null, .null, .null, .null, .int 0, .null, .null, .null, .null, .int 0, .null, .null, .int 0, .null, .int 0, .int 0, .int 0, .null, .null, .null, .int 0, .null, .null, .null, .null, .null, .null, .null]) (C := RX6) (T := TX6) (N := 30) hx hb hts (fun w hw => big_in (cl_in (ci := 6) (by decide) w hw)) tyX6 tyX6_ok hown (hts (.classLink RL 10 RX6) (List.mem_of_getElem? (i := 682) (by decide +kernel))) (hts (.instantiable RX6 30) (inst_at 6 (by decide))) (hts (.initialized RX6) (List.mem_of_getElem? (i := 47) (by decide +kernel))) hK hP hD hS hA rfl (fun j hj => by rcases (show j = 0 ∨ j = 1 ∨ j = 2 ∨ j = 3 ∨ j = 4 ∨ j = 5 ∨ j = 6 ∨ j = 7 ∨ j = 8 ∨ j = 9 ∨ j = 10 ∨ j = 11 ∨ j = 12 ∨ j = 13 ∨ j = 14 ∨ j = 15 ∨ j = 16 ∨ j = 17 ∨ j = 18 ∨ j = 19 ∨ j = 20 ∨ j = 21 ∨ j = 22 ∨ j = 23 ∨ j = 24 ∨ j = 25 ∨ j = 26 ∨ j = 27 ∨ j = 28 ∨ j = 29 by omega) with rfl | rfl | rfl | rfl | rfl | rfl | rfl | rfl | rfl | rfl | rfl | rfl | rfl | rfl | rfl | rfl | rfl | rfl | rfl | rfl | rfl | rfl | rfl | rfl | rfl | rfl | rfl | rfl | rfl | rfl <;> rfl) (Nat.le_of_ble_eq_true rfl) (Nat.le_of_ble_eq_true rfl) dL_law_8 (fun q1 H hP hD hS => ?_)
  refine lv_dup hx hb dL_law_11 rfl ?_
  refine c_call (k := 107) (b := 900) ⟨hx, hb, hml, hown, hts⟩ (cwI 0 hts (good_lw (y := yX6_init) (b := cX6_init) (n := 2) (rt := none) (big_at 686 (by decide +kernel) rfl)) rfl rfl rfl (hts (.initialized RX6) (List.mem_of_getElem? (i := 47) (by decide +kernel))) (hts (.methodLink RL 12 yX6_init) (List.mem_of_getElem? (i := 684) (by decide +kernel))) (hts (.instanceMethod yX6_init) (List.mem_of_getElem? (i := 685) (by decide +kernel))) rfl (by decide +kernel) ⟨Nat.le_of_ble_eq_true rfl, Nat.le_of_ble_eq_true rfl⟩) (cm_X6 l) hK hP hD hS hA hl.1 (Nat.le_of_ble_eq_true rfl) dL_law_12 ⟨Nat.le_of_ble_eq_true rfl, Nat.le_of_ble_eq_true rfl⟩ (fun v H locs hq_v hX_v hP hD hS => ?_)
  refine lv_astore_n (lv' := [(2, .ref q1), (1, .ref q0), (0, .ref b)]) hx hb dL_law_15 rfl hl (by decide) rfl (fun ls hl => ?_)
  refine lv_iconst (v := nI 0) hx hb dL_law_16 (by decide) ?_
  refine lv_istore_n (lv' := [(3, .int (nI 0)), (2, .ref q1), (1, .ref q0), (0, .ref b)]) hx hb dL_law_17 rfl hl (by decide) rfl (fun ls hl => ?_)
  obtain ⟨ad, had⟩ : ∃ f : Nat → Nat, f = (fun k => if k < 900 then u.1 k else v.1 k) := ⟨_, rfl⟩
  obtain ⟨σ, hsg⟩ : ∃ f : St, f = (fun k => if k < 900 then u.2 k else v.2 k) := ⟨_, rfl⟩
  have hq : wsB ([0] ++ estI 100 ++ estI 200 ++ estI 300 ++ [400, 401] ++ [500, 501, 502, 503] ++ [600, 601, 602, 603] ++ [700, 702, 704] ++ estI 800) cI u.1 u.2 ++ wsB [900, 901, 902, 903, 904, 905, 906, 908, 909, 910, 911, 913, 914, 916, 920, 921, 922, 924, 925, 926, 927, 928, 929, 930] cI v.1 v.2 = wsW cI ad σ := by rw [had, hsg]; rfl
  rw [hq] at hP hD
  have hlo : ∀ k, k < 900 → σ k = u.2 k := fun k hk => by rw [hsg]; dsimp only; rw [if_pos hk]
  have hhi : ∀ k, 900 ≤ k → σ k = v.2 k := fun k hk => by rw [hsg]; dsimp only; rw [if_neg (by omega)]
  obtain ⟨a1, a2, a3, a4, a5⟩ := hX_u
  obtain ⟨m1, m2, m3, m4, m5⟩ := hX_v
  have hC0 : CX A0 σ := CX_0 (a1.frame (fun k h1 h2 => hlo k (by omega))) (by rw [hlo 0 (by decide)]; exact a2) (by rw [hlo 400 (by decide)]; exact a3) (by rw [hlo 501 (by decide), hlo 502 (by decide)]; exact a4) (by rw [hlo 503 (by decide)]; exact a5)
  have hM0 : MX A0 σ := MX_0 (m1.fr (fun k h1 h2 => hhi k (by omega)) (by rw [hhi 900 (by decide)]) (by rw [hhi 900 (by decide)]) (by rw [hhi 900 (by decide)])) (by rw [hhi 900 (by decide)]; exact m2) (by rw [hhi 900 (by decide)]; exact m3) (by rw [hhi 926 (by decide), hhi 927 (by decide)]; exact m4) (by rw [hhi 928 (by decide)]; exact m5)
  have e0 : ad 0 = q0 := by rw [had]; exact hq_u
  have e9 : ad 900 = q1 := by rw [had]; exact hq_v
  have hl2 : lv_has ls 4 [(0, .ref b), (1, .ref (ad 0)), (2, .ref (ad 900)), (3, .int (nI 0))] := by
    rw [e0, e9]
    exact lv_sub hl [3, 2, 1, 0] rfl
  refine W.widen (k := 86) (n := 1605) (Nat.le_of_ble_eq_true rfl) (Nat.le_of_ble_eq_true rfl) ?_
  exact law_loop C0 hL hWd 600 0 A0 σ ls (by omega) (by omega) hC0 hM0 hl2 H locs hP hD hS
