set_option maxRecDepth 1000000 in
theorem bg_maxc : Cond.code Lib.Math.max.name Lib.Math.max.code 2 (some .int) ∈ BIG := big_at 515 rfl rfl
section Snd2
variable {l : Launch} {p : Program} {e : Env} {R : Room} {s : State} {m : MethodId} {args : Array Value} {below : List Frame} {meth : Method} {c : Code} {D : va_G} {cI : ClassId} {ad : Nat → Nat} {A : Nat → Prop} {mi : MI} {Q : Int32 → St → Prop}
theorem okTs1 {cd : List Ins} {pc t : Nat} {o : Int} (h : okTs cd pc [o] [t] = true) : t < cd.length ∧ (pc : Int) + o = (pcA cd t : Int) := by
  simp only [okTs, okT, Bool.and_true, Bool.and_eq_true, decide_eq_true_eq] at h
  exact h
theorem okTs2 {cd : List Ins} {pc t : Nat} {o : Int} {os : List Int} {ts : List Nat} (h : okTs cd pc (o :: os) (t :: ts) = true) : (t < cd.length ∧ (pc : Int) + o = (pcA cd t : Int)) ∧ okTs cd pc os ts = true := by
  simp only [okTs, okT, Bool.and_eq_true, decide_eq_true_eq] at h
  exact ⟨h.1, h.2⟩
theorem okTs_at {cd : List Ins} {pc : Nat} : ∀ {os : List Int} {ts : List Nat}, okTs cd pc os ts = true → ∀ (j t : Nat), ts[j]? = some t → ∃ o, os[j]? = some o ∧ t < cd.length ∧ (pc : Int) + o = (pcA cd t : Int)
  | [], [], _, j, t, h => by simp at h
  | [], _ :: _, h, _, _, _ => by simp [okTs] at h
  | _ :: _, [], h, _, _, _ => by simp [okTs] at h
  | o :: os, t0 :: ts, h, j, t, hj => by
    obtain ⟨h1, h2⟩ := okTs2 h
    cases j with
    | zero => simp at hj; subst hj; exact ⟨o, rfl, h1⟩
    | succ j => simpa using okTs_at h2 j t (by simpa using hj)
theorem okTs_len {cd : List Ins} {pc : Nat} : ∀ {os : List Int} {ts : List Nat}, okTs cd pc os ts = true → os.length = ts.length
  | [], [], _ => rfl
  | [], _ :: _, h => by simp [okTs] at h
  | _ :: _, [], h => by simp [okTs] at h
  | o :: os, t0 :: ts, h => by simp [okTs_len (okTs2 h).2]
theorem swT_at {jp : Nat → Prop} {x : Int32} : ∀ {n : Nat} {ts : List Nat}, swT jp x n ts → ∀ (j t : Nat), ts[j]? = some t → x = nI (n + j) → jp t
  | _, [], _, j, t, h, _ => by simp at h
  | n, t0 :: ts, h, j, t, hj, hx => by
    cases j with
    | zero => simp at hj; subst hj; exact h.1 hx
    | succ j => exact swT_at h.2 j t (by simpa using hj) (by rw [hx]; congr 1; omega)
theorem swL_at {jp : Nat → Prop} {x : Int32} {d : Nat} {cd : List Ins} {pc : Nat} {dO : Int} (hd : d < cd.length ∧ (pc : Int) + dO = (pcA cd d : Int)) : ∀ {ps : List (Int × Int)} {ts : List Nat}, okTs cd pc (ps.map (fun q => q.2)) ts = true → ps.all (fun q => decide ((Int32.ofInt q.1).toInt = q.1)) = true → swL jp x d ps ts → ∃ (t : Nat) (o : Int), Op.lookupswitch.offset ps dO x.toInt = o ∧ t < cd.length ∧ (pc : Int) + o = (pcA cd t : Int) ∧ jp t
  | [], [], _, _, h => ⟨d, dO, rfl, hd.1, hd.2, h⟩
  | [], _ :: _, h, _, _ => by simp [okTs] at h
  | (a, o) :: r, [], h, _, _ => by simp [okTs] at h
  | (a, o) :: r, t :: ts, h, hA, hs => by
    obtain ⟨h1, h2⟩ := okTs2 h
    simp only [List.all_cons, Bool.and_eq_true, decide_eq_true_eq] at hA
    by_cases hx : x = Int32.ofInt a
    · refine ⟨t, o, ?_, h1.1, h1.2, hs.1 hx⟩
      rw [Op.lookupswitch.offset_cons, if_pos]
      rw [hx, hA.1]
    · obtain ⟨t', o', e1, e2⟩ := swL_at hd h2 hA.2 (hs.2 hx)
      refine ⟨t', o', ?_, e2⟩
      rw [← e1]
      exact lv_osw hx hA.1
theorem narrow_b {v : Int32} (h : v = nI 0 ∨ v = nI 1) : narrow .boolean (.int v) = .int v ∧ fits .boolean (.int v) = true := by
  rcases h with rfl | rfl
  · exact ⟨by decide, by decide⟩
  · exact ⟨by decide, by decide⟩
theorem stp_snd {cd : List Ins} {i : Ins} {L S : List Value} {σ : St} {nx : List Value → List Value → St → Prop} {jp : Nat → List Value → List Value → St → Prop}
    (hC : Cx p R s m args meth c D cI A mi) (hdec : ∃ n, decode mi.2.1 i.2.2.1 = .ok (i.1, n) ∧ (isSw i.1 = true ∨ n = lnI i.1)) (hA : okA mi cd i = true)
    (hn : ∀ L S σ, nx L S σ → Sm l p e R s m args below meth c D cI ad A mi Q (i.2.2.1 + lnI i.1) L S σ)
    (hj : ∀ t, t < cd.length → ∀ L S σ, jp t L S σ → Sm l p e R s m args below meth c D cI ad A mi Q (pcA cd t) L S σ)
    (h : stp l mi.2.2.2.1 Q i L S σ nx jp) : Sm l p e R s m args below meth c D cI ad A mi Q i.2.2.1 L S σ := by
  obtain ⟨ins, ix, pc, hd0, ax⟩ := i
  dsimp only at hdec hn ⊢
  obtain ⟨n, hd, hsw⟩ := hdec
  obtain ⟨hx, hb, hml, hr, hlk, hown, hts, hWd, hR, hAA⟩ := id hC
  cases ins
  case iconst v =>
    obtain rfl : n = 1 := by simpa [isSw, lnI] using hsw
    have hv : Int32.ofInt v = gC ax := by simpa [okA] using hA
    intro H locs ls hP hD hS hl
    exact lv_iconst hx hb hd hv (hn _ _ _ h H locs ls hP hD hS hl)
  case bipush v =>
    obtain rfl : n = 2 := by simpa [isSw, lnI] using hsw
    have hv : (Int8.ofInt v).toInt32 = gC ax := by simpa [okA] using hA
    intro H locs ls hP hD hS hl
    exact lv_bipush hx hb hd hv (hn _ _ _ h H locs ls hP hD hS hl)
  case sipush v =>
    obtain rfl : n = 3 := by simpa [isSw, lnI] using hsw
    have hv : (Int16.ofInt v).toInt32 = gC ax := by simpa [okA] using hA
    intro H locs ls hP hD hS hl
    exact lv_sipush hx hb hd hv (hn _ _ _ h H locs ls hP hD hS hl)
  case ldc v =>
    obtain rfl : n = 2 := by simpa [isSw, lnI] using hsw
    intro H locs ls hP hD hS hl
    exact lv_ldc hx hb hown (hts _ (ci_big hA)) hd (hn _ _ _ h H locs ls hP hD hS hl)
  case ldc_w v =>
    obtain rfl : n = 3 := by simpa [isSw, lnI] using hsw
    intro H locs ls hP hD hS hl
    exact lv_ldcw hx hb hown (hts _ (ci_big hA)) hd (hn _ _ _ h H locs ls hP hD hS hl)
  case lconst v =>
    obtain rfl : n = 1 := by simpa [isSw, lnI] using hsw
    have hv : Int64.ofNat (v : Nat) = gL ax := by simpa [okA] using hA
    intro H locs ls hP hD hS hl
    exact lv_lconst hx hb hd hv (hn _ _ _ h H locs ls hP hD hS hl)
  case ldc2_w v =>
    obtain rfl : n = 3 := by simpa [isSw, lnI] using hsw
    intro H locs ls hP hD hS hl
    exact lv_ldc2 hx hb hown (hts _ (cl_big hA)) hd (hn _ _ _ h H locs ls hP hD hS hl)
  case iload k =>
    obtain rfl : n = 2 := by simpa [isSw, lnI] using hsw
    simp only [stp] at h
    split at h
    · rename_i x hx1
      intro H locs ls hP hD hS hl
      exact lv_iload hx hb hd (hl.get hx1 (by simp)) (hn _ _ _ h H locs ls hP hD hS hl)
    · exact h.elim
  case iload_n k =>
    obtain rfl : n = 1 := by simpa [isSw, lnI] using hsw
    simp only [stp] at h
    split at h
    · rename_i x hx1
      intro H locs ls hP hD hS hl
      exact lv_iload_n hx hb hd rfl (hl.get hx1 (by simp)) (hn _ _ _ h H locs ls hP hD hS hl)
    · exact h.elim
  case lload k =>
    obtain rfl : n = 2 := by simpa [isSw, lnI] using hsw
    simp only [stp] at h
    split at h
    · rename_i x hx1
      intro H locs ls hP hD hS hl
      exact lv_lload hx hb hd (hl.get hx1 (by simp)) (hn _ _ _ h H locs ls hP hD hS hl)
    · exact h.elim
  case lload_n k =>
    obtain rfl : n = 1 := by simpa [isSw, lnI] using hsw
    simp only [stp] at h
    split at h
    · rename_i x hx1
      intro H locs ls hP hD hS hl
      exact lv_lload_n hx hb hd rfl (hl.get hx1 (by simp)) (hn _ _ _ h H locs ls hP hD hS hl)
    · exact h.elim
  case aload k =>
    obtain rfl : n = 2 := by simpa [isSw, lnI] using hsw
    simp only [stp] at h
    split at h
    · rename_i x hx1
      intro H locs ls hP hD hS hl
      exact lv_aload hx hb hd (hl.get hx1 (by simp)) (hn _ _ _ h H locs ls hP hD hS hl)
    · exact h.elim
  case aload_n k =>
    obtain rfl : n = 1 := by simpa [isSw, lnI] using hsw
    simp only [stp] at h
    split at h
    · rename_i x hx1
      intro H locs ls hP hD hS hl
      exact lv_aload_n hx hb hd rfl (hl.get hx1 (by simp)) (hn _ _ _ h H locs ls hP hD hS hl)
    · exact h.elim
  case istore k =>
    obtain rfl : n = 2 := by simpa [isSw, lnI] using hsw
    have hk : k < mi.2.2.1 := by simpa [okA] using hA
    simp only [stp] at h
    split at h
    · rename_i x S'
      intro H locs ls hP hD hS hl
      exact lv_istore hx hb hd hl.lv hk rfl (fun ls' hl' => hn _ _ _ h.2 H locs ls' hP hD hS (hl.set h.1 hl'))
    · exact h.elim
  case istore_n k =>
    obtain rfl : n = 1 := by simpa [isSw, lnI] using hsw
    have hk : k.val < mi.2.2.1 := by simpa [okA] using hA
    simp only [stp] at h
    split at h
    · rename_i x S'
      intro H locs ls hP hD hS hl
      exact lv_istore_n hx hb hd rfl hl.lv hk rfl (fun ls' hl' => hn _ _ _ h.2 H locs ls' hP hD hS (hl.set h.1 hl'))
    · exact h.elim
  case iinc k v =>
    obtain rfl : n = 3 := by simpa [isSw, lnI] using hsw
    simp only [okA, Bool.and_eq_true, decide_eq_true_eq] at hA
    simp only [stp] at h
    split at h
    · rename_i x hx1
      intro H locs ls hP hD hS hl
      obtain ⟨j, hj⟩ := List.getElem?_of_mem (toL_mem (ad := ad) (getD_some hx1 (by simp)) (by simp))
      exact lv_iinc (v := x + gC ax) hx hb hd hl.lv hj (by rw [hA.2]) hA.1 rfl (fun ls' hl' => hn _ _ _ h.2 H locs ls' hP hD hS (hl.set h.1 hl'))
    · exact h.elim
  case dup =>
    obtain rfl : n = 1 := by simpa [isSw, lnI] using hsw
    simp only [stp] at h
    split at h
    · intro H locs ls hP hD hS hl
      exact lv_dup hx hb hd rfl (hn _ _ _ h H locs ls hP hD hS hl)
    · intro H locs ls hP hD hS hl
      exact lv_dup hx hb hd rfl (hn _ _ _ h H locs ls hP hD hS hl)
    · exact h.elim
  case pop =>
    obtain rfl : n = 1 := by simpa [isSw, lnI] using hsw
    simp only [stp] at h
    split at h
    · intro H locs ls hP hD hS hl
      exact lv_pop hx hb hd rfl (hn _ _ _ h H locs ls hP hD hS hl)
    · exact h.elim
  case goto o =>
    obtain rfl : n = 3 := by simpa [isSw, lnI] using hsw
    simp only [stp] at h
    simp only [okA] at hA
    split at h
    · rename_i t ht
      rw [ht] at hA
      intro H locs ls hP hD hS hl
      exact lv_goto hx hb hd (okTs1 hA).2 (hj t (okTs1 hA).1 _ _ _ h H locs ls hP hD hS hl)
    · exact h.elim
  case ifCond cn o =>
    obtain rfl : n = 3 := by simpa [isSw, lnI] using hsw
    simp only [stp] at h
    simp only [okA] at hA
    split at h
    · rename_i x S' t ht
      rw [ht] at hA
      intro H locs ls hP hD hS hl
      have k1 := fun hc => hj t (okTs1 hA).1 _ _ _ (h.1 hc) H locs ls hP hD hS hl
      have k2 := fun hc => hn _ _ _ (h.2 hc) H locs ls hP hD hS hl
      cases cn
      · exact lv_if_eq hx hb hd (okTs1 hA).2 k1 k2
      · exact lv_if_ne hx hb hd (okTs1 hA).2 k1 (fun z => k2 (fun q => q z))
      · exact lv_if_lt hx hb hd (okTs1 hA).2 k1 k2
      · exact lv_if_ge hx hb hd (okTs1 hA).2 k1 k2
      · exact lv_if_gt hx hb hd (okTs1 hA).2 k1 k2
      · exact lv_if_le hx hb hd (okTs1 hA).2 k1 k2
    · exact h.elim
  case if_icmp cn o =>
    obtain rfl : n = 3 := by simpa [isSw, lnI] using hsw
    simp only [stp] at h
    simp only [okA] at hA
    split at h
    · rename_i y x S' t ht
      rw [ht] at hA
      intro H locs ls hP hD hS hl
      have k1 := fun hc => hj t (okTs1 hA).1 _ _ _ (h.1 hc) H locs ls hP hD hS hl
      have k2 := fun hc => hn _ _ _ (h.2 hc) H locs ls hP hD hS hl
      cases cn
      · exact lv_icmp_eq hx hb hd (okTs1 hA).2 k1 k2
      · exact lv_icmp_ne hx hb hd (okTs1 hA).2 k1 (fun z => k2 (fun q => q z))
      · exact lv_icmp_lt hx hb hd (okTs1 hA).2 k1 k2
      · exact lv_icmp_ge hx hb hd (okTs1 hA).2 k1 k2
      · exact lv_icmp_gt hx hb hd (okTs1 hA).2 k1 k2
      · exact lv_icmp_le hx hb hd (okTs1 hA).2 k1 k2
    · exact h.elim
  case tableswitch dO lo hi os =>
    simp only [stp] at h
    simp only [okA] at hA
    split at h
    · rename_i x S' d ts ht
      rw [ht] at hA
      obtain ⟨hlo, hhi, hlen, hin, hout⟩ := h
      subst hlo
      intro H locs ls hP hD hS hl
      obtain ⟨h0, h1⟩ := okTs2 hA
      by_cases hq : x < nI 0 ∨ nI ts.length ≤ x
      · refine lv_tableOut hx hb hd ?_ h0.2 (hj d h0.1 _ _ _ (hout hq) H locs ls hP hD hS hl)
        rcases hq with hq | hq
        · left
          have := Int32.lt_iff_toInt_lt.mp hq
          rwa [nI_toInt (by decide)] at this
        · right
          have := Int32.le_iff_toInt_le.mp hq
          rw [nI_toInt hlen] at this
          omega
      · have hq1 : ¬ x < 0 := fun z => hq (Or.inl z)
        obtain ⟨j, hj1, rfl⟩ := nI_of hq1
        have hjl : j < ts.length := by
          rcases Nat.lt_or_ge j ts.length with q | q
          · exact q
          · exact absurd (Or.inr (nI_le q hj1)) hq
        have hti : (nI j).toInt = (j : Int) := nI_toInt hj1
        obtain ⟨o, ho, ht1, ht2⟩ := okTs_at h1 j ts[j] (by simp)
        refine lv_tableIn (off := o) hx hb hd (by rw [hti]; omega) (by rw [hti]; omega) ?_ ht2 (hj _ ht1 _ _ _ (swT_at hin j ts[j] (by simp) (by simp)) H locs ls hP hD hS hl)
        rw [hti]
        simpa using ho
    · exact h.elim
  case lookupswitch dO ps =>
    simp only [stp] at h
    simp only [okA, Bool.and_eq_true] at hA
    split at h
    · rename_i x S' d ts ht
      rw [ht] at hA
      intro H locs ls hP hD hS hl
      obtain ⟨h0, h1⟩ := okTs2 hA.1.1
      obtain ⟨t, o, e1, e2, e3, e4⟩ := swL_at h0 h1 hA.1.2 h
      exact lv_lookup hx hb hd hA.2 e1 e3 (hj t e2 _ _ _ e4 H locs ls hP hD hS hl)
    · exact h.elim
  case iadd =>
    obtain rfl : n = 1 := by simpa [isSw, lnI] using hsw
    simp only [stp] at h
    split at h
    · intro H locs ls hP hD hS hl
      exact lv_iadd hx hb hd (hn _ _ _ h H locs ls hP hD hS hl)
    · exact h.elim
  case isub =>
    obtain rfl : n = 1 := by simpa [isSw, lnI] using hsw
    simp only [stp] at h
    split at h
    · intro H locs ls hP hD hS hl
      exact lv_isub hx hb hd (hn _ _ _ h H locs ls hP hD hS hl)
    · exact h.elim
  case imul =>
    obtain rfl : n = 1 := by simpa [isSw, lnI] using hsw
    simp only [stp] at h
    split at h
    · intro H locs ls hP hD hS hl
      exact lv_imul hx hb hd (hn _ _ _ h H locs ls hP hD hS hl)
    · exact h.elim
  case iand =>
    obtain rfl : n = 1 := by simpa [isSw, lnI] using hsw
    simp only [stp] at h
    split at h
    · intro H locs ls hP hD hS hl
      exact lv_iand hx hb hd (hn _ _ _ h H locs ls hP hD hS hl)
    · exact h.elim
  case ior =>
    obtain rfl : n = 1 := by simpa [isSw, lnI] using hsw
    simp only [stp] at h
    split at h
    · intro H locs ls hP hD hS hl
      exact lv_ior hx hb hd (hn _ _ _ h H locs ls hP hD hS hl)
    · exact h.elim
  case ixor =>
    obtain rfl : n = 1 := by simpa [isSw, lnI] using hsw
    simp only [stp] at h
    split at h
    · intro H locs ls hP hD hS hl
      exact lv_ixor hx hb hd (hn _ _ _ h H locs ls hP hD hS hl)
    · exact h.elim
  case ishl =>
    obtain rfl : n = 1 := by simpa [isSw, lnI] using hsw
    simp only [stp] at h
    split at h
    · intro H locs ls hP hD hS hl
      exact lv_ishl hx hb hd (hn _ _ _ h H locs ls hP hD hS hl)
    · exact h.elim
  case ishr =>
    obtain rfl : n = 1 := by simpa [isSw, lnI] using hsw
    simp only [stp] at h
    split at h
    · intro H locs ls hP hD hS hl
      exact lv_ishr hx hb hd (hn _ _ _ h H locs ls hP hD hS hl)
    · exact h.elim
  case ladd =>
    obtain rfl : n = 1 := by simpa [isSw, lnI] using hsw
    simp only [stp] at h
    split at h
    · intro H locs ls hP hD hS hl
      exact lv_ladd hx hb hd (hn _ _ _ h H locs ls hP hD hS hl)
    · exact h.elim
  case lsub =>
    obtain rfl : n = 1 := by simpa [isSw, lnI] using hsw
    simp only [stp] at h
    split at h
    · intro H locs ls hP hD hS hl
      exact lv_lsub hx hb hd (hn _ _ _ h H locs ls hP hD hS hl)
    · exact h.elim
  case lmul =>
    obtain rfl : n = 1 := by simpa [isSw, lnI] using hsw
    simp only [stp] at h
    split at h
    · intro H locs ls hP hD hS hl
      exact lv_lmul hx hb hd (hn _ _ _ h H locs ls hP hD hS hl)
    · exact h.elim
  case land =>
    obtain rfl : n = 1 := by simpa [isSw, lnI] using hsw
    simp only [stp] at h
    split at h
    · intro H locs ls hP hD hS hl
      exact lv_land hx hb hd (hn _ _ _ h H locs ls hP hD hS hl)
    · exact h.elim
  case lor =>
    obtain rfl : n = 1 := by simpa [isSw, lnI] using hsw
    simp only [stp] at h
    split at h
    · intro H locs ls hP hD hS hl
      exact lv_lor hx hb hd (hn _ _ _ h H locs ls hP hD hS hl)
    · exact h.elim
  case idiv =>
    obtain rfl : n = 1 := by simpa [isSw, lnI] using hsw
    simp only [stp] at h
    split at h
    · intro H locs ls hP hD hS hl
      exact lv_idiv hx hb hd h.1 (hn _ _ _ h.2 H locs ls hP hD hS hl)
    · exact h.elim
  case irem =>
    obtain rfl : n = 1 := by simpa [isSw, lnI] using hsw
    simp only [stp] at h
    split at h
    · intro H locs ls hP hD hS hl
      exact lv_irem hx hb hd h.1 (hn _ _ _ h.2 H locs ls hP hD hS hl)
    · exact h.elim
  case iushr =>
    obtain rfl : n = 1 := by simpa [isSw, lnI] using hsw
    simp only [stp] at h
    split at h
    · intro H locs ls hP hD hS hl
      exact lv_iushr hx hb hd rfl (hn _ _ _ h H locs ls hP hD hS hl)
    · exact h.elim
  case lshl =>
    obtain rfl : n = 1 := by simpa [isSw, lnI] using hsw
    simp only [stp] at h
    split at h
    · intro H locs ls hP hD hS hl
      exact lv_lshl hx hb hd rfl (hn _ _ _ h H locs ls hP hD hS hl)
    · exact h.elim
  case lshr =>
    obtain rfl : n = 1 := by simpa [isSw, lnI] using hsw
    simp only [stp] at h
    split at h
    · intro H locs ls hP hD hS hl
      exact lv_lshr hx hb hd rfl (hn _ _ _ h H locs ls hP hD hS hl)
    · exact h.elim
  case i2l =>
    obtain rfl : n = 1 := by simpa [isSw, lnI] using hsw
    simp only [stp] at h
    split at h
    · intro H locs ls hP hD hS hl
      exact lv_i2l hx hb hd rfl (hn _ _ _ h H locs ls hP hD hS hl)
    · exact h.elim
  case l2i =>
    obtain rfl : n = 1 := by simpa [isSw, lnI] using hsw
    simp only [stp] at h
    split at h
    · intro H locs ls hP hD hS hl
      exact lv_l2i hx hb hd rfl (hn _ _ _ h H locs ls hP hD hS hl)
    · exact h.elim
  case i2b =>
    obtain rfl : n = 1 := by simpa [isSw, lnI] using hsw
    simp only [stp] at h
    split at h
    · intro H locs ls hP hD hS hl
      exact lv_i2b hx hb hd rfl (hn _ _ _ h H locs ls hP hD hS hl)
    · exact h.elim
  case i2s =>
    obtain rfl : n = 1 := by simpa [isSw, lnI] using hsw
    simp only [stp] at h
    split at h
    · intro H locs ls hP hD hS hl
      exact lv_i2s hx hb hd rfl (hn _ _ _ h H locs ls hP hD hS hl)
    · exact h.elim
  case lcmp =>
    obtain rfl : n = 1 := by simpa [isSw, lnI] using hsw
    simp only [stp] at h
    split at h
    · intro H locs ls hP hD hS hl
      exact W.lcmp hx hb hd (hn _ _ _ h H locs ls hP hD hS hl)
    · exact h.elim
  case getfield x =>
    obtain rfl : n = 3 := by simpa [isSw, lnI] using hsw
    simp only [okA, Bool.and_eq_true, beq_iff_eq, decide_eq_true_eq] at hA
    obtain ⟨⟨⟨h1, h2⟩, h3⟩, h4⟩ := hA
    simp only [stp] at h
    split at h
    · rename_i k S'
      obtain ⟨hc, h⟩ := h
      intro H locs ls hP hD hS hl
      obtain ⟨q0, hq0⟩ := ids_pos (k := k) (by omega)
      have hat := ws_at (cI := cI) (ad := ad) (σ := σ) hq0
      rw [cell_obj hc h3] at hat
      refine va_get (C := Rn (gF ax).1) (T := Tn (gF ax).1) (N := nF (gF ax).1) (ref := (Tn (gF ax).1 (gF ax).2.1).1) hx hb hts (cl_in h3) hown hWd.1 hP q0 hat (cl_at h3) (gF ax).2.1 h4 (hts _ (fl_big h1)) (fun _ z => z) (v := fv ad σ k (gF ax).2.1) (by rw [List.getElem?_map, List.getElem?_range h4]; rfl) hd ?_
      have h5 := hn _ _ _ h H locs ls hP hD hS hl
      have e1 : cv ad (if (gF ax).2.2.1 = 0 then .int (σ k (gF ax).2.1) else .ref (k + (gF ax).2.2.1)) = fv ad σ k (gF ax).2.1 := by
        unfold fv
        rw [hc, h2]
        split <;> rfl
      rw [List.map_cons, e1] at h5
      exact h5
    · exact h.elim
  case putfield x =>
    obtain rfl : n = 3 := by simpa [isSw, lnI] using hsw
    simp only [okA, Bool.and_eq_true, beq_iff_eq, decide_eq_true_eq, Bool.not_eq_true'] at hA
    obtain ⟨⟨⟨⟨⟨h1, h2⟩, h3⟩, h4⟩, h5⟩, h6⟩ := hA
    simp only [stp] at h
    split at h
    · rename_i v k S'
      obtain ⟨hc, hbo, h⟩ := h
      intro H locs ls hP hD hS hl
      obtain ⟨q0, hq0⟩ := ids_pos (k := k) (by omega)
      have hat := ws_at (cI := cI) (ad := ad) (σ := σ) hq0
      rw [cell_obj hc h3] at hat
      have hnf : narrow (if (gF ax).2.2.2 = true then .boolean else .int) (.int v) = .int v ∧ fits (if (gF ax).2.2.2 = true then .boolean else .int) (.int v) = true := by
        by_cases hz : (gF ax).2.2.2 = true
        · rw [if_pos hz]; exact narrow_b (hbo hz)
        · rw [if_neg hz]; exact ⟨rfl, rfl⟩
      have hset : (wsW cI ad σ).set q0 (ad k, .inr ((gF ax).1, ((List.range (nF (gF ax).1)).map (fv ad σ k)).set (gF ax).2.1 (.int v))) = wsW cI ad (wr σ k (gF ax).2.1 v) := by
        refine ws_set hq0 wr_ne ?_
        rw [cell_obj hc h3]
        congr 2
        apply List.ext_getElem?
        intro j
        by_cases hj : j = (gF ax).2.1
        · subst hj
          rw [List.getElem?_set_self (by simpa using h4), List.getElem?_map, List.getElem?_range h4]
          simp [fv, wr, upd, hc, h2]
        · rw [List.getElem?_set_ne (Ne.symm hj), List.getElem?_map, List.getElem?_map]
          cases hjj : (List.range (nF (gF ax).1))[j]? with
          | none => rfl
          | some j' =>
            obtain ⟨hz, ez⟩ := List.getElem?_eq_some_iff.mp hjj
            have ez : j' = j := by simpa using ez.symm
            subst ez
            simp [fv, wr, upd, hj]
      refine va_put (v := .int v) (C := Rn (gF ax).1) (T := Tn (gF ax).1) (N := nF (gF ax).1) (ref := (Tn (gF ax).1 (gF ax).2.1).1) hx hb hts (cl_in h3) (tyn (gF ax).1) (cl_ty h3) (cl_nm h3) hown hWd.1 hP hD hS q0 hat (cl_at h3) (gF ax).2.1 h4 (hts _ (fl_big h1)) (fun _ z => z) h5 h6 hnf.1 hnf.2 (by simpa using h4) hd (fun H1 locs1 hP1 hD1 hS1 => ?_)
      rw [hset] at hP1 hD1
      exact hn _ _ _ h H1 locs1 ls hP1 hD1 hS1 hl
    · exact h.elim
  case iaload =>
    obtain rfl : n = 1 := by simpa [isSw, lnI] using hsw
    simp only [stp] at h
    split at h
    · rename_i x k S'
      obtain ⟨hc, hin, h⟩ := h
      intro H locs ls hP hD hS hl
      obtain ⟨q0, hq0⟩ := ids_pos (k := k) (by omega)
      have hat := ws_at (cI := cI) (ad := ad) (σ := σ) hq0
      rw [cell_arr hc] at hat
      exact va_iald hx hb hWd.1 hP q0 0 hat rfl hin hd (hn _ _ _ h H locs ls hP hD hS hl)
    · exact h.elim
  case iastore =>
    obtain rfl : n = 1 := by simpa [isSw, lnI] using hsw
    simp only [stp] at h
    split at h
    · rename_i v x k S'
      obtain ⟨hc, hin, h⟩ := h
      intro H locs ls hP hD hS hl
      obtain ⟨q0, hq0⟩ := ids_pos (k := k) (by omega)
      have hat := ws_at (cI := cI) (ad := ad) (σ := σ) hq0
      rw [cell_arr hc] at hat
      refine va_iast hx hb hWd.1 hP hD hS q0 0 hat rfl hin hd (fun H1 locs1 hP1 hD1 hS1 => ?_)
      have hset : (wsW cI ad σ).set q0 (ad k, .inl (cI, lenOf k, .inl (upd (σ k) x.toNatClampNeg v))) = wsW cI ad (wr σ k x.toNatClampNeg v) := ws_set hq0 wr_ne (by rw [cell_arr hc]; simp [wr])
      rw [hset] at hP1 hD1
      exact hn _ _ _ h H1 locs1 ls hP1 hD1 hS1 hl
    · exact h.elim
  case arraylength =>
    obtain rfl : n = 1 := by simpa [isSw, lnI] using hsw
    simp only [stp] at h
    split at h
    · rename_i k S'
      obtain ⟨hc, h⟩ := h
      intro H locs ls hP hD hS hl
      obtain ⟨q0, hq0⟩ := ids_pos (k := k) (by omega)
      have hat := ws_at (cI := cI) (ad := ad) (σ := σ) hq0
      rw [cell_arr hc] at hat
      exact va_alen hx hb hWd.1 hP q0 0 hat rfl rfl hd (hn _ _ _ h H locs ls hP hD hS hl)
    · exact h.elim
  case invokevirtual x =>
    obtain rfl : n = 3 := by simpa [isSw, lnI] using hsw
    simp only [okA, Bool.and_eq_true, beq_iff_eq, decide_eq_true_eq] at hA
    obtain ⟨⟨⟨⟨⟨⟨h1, h2⟩, h3⟩, h4⟩, h5⟩, h6⟩, h7⟩ := hA
    simp only [stp] at h
    split at h
    · rename_i k S' hst
      obtain ⟨hc, hl4, h⟩ := h
      refine sm_virtual hC hd h1 h2 h5 h6 (by omega) hst (by rw [hc, h3]) hl4 h (fun r σ' hk => ?_)
      rw [h4]
      exact hn _ _ _ hk
    · exact h.elim
  case invokestatic x =>
    obtain rfl : n = 3 := by simpa [isSw, lnI] using hsw
    simp only [okA] at hA
    simp only [stp] at h
    split at h
    · rename_i h900
      rw [if_pos h900, Bool.and_eq_true, decide_eq_true_eq] at hA
      split at h
      · rename_i n dp kd sp ks S'
        obtain ⟨hl4, hc0, hc1, g1, g2, g3, g4, g5, h⟩ := h
        intro H locs ls hP hD hS hl
        obtain ⟨q0, hq0⟩ := ids_pos (k := ks) (by omega)
        obtain ⟨q1, hq1⟩ := ids_pos (k := kd) (by omega)
        have hat0 := ws_at (cI := cI) (ad := ad) (σ := σ) hq0
        have hat1 := ws_at (cI := cI) (ad := ad) (σ := σ) hq1
        rw [cell_arr hc0] at hat0
        rw [cell_arr hc1] at hat1
        refine va_copyi hx hb (hml.trans hl.1.symm) hown (hts _ (cp_big hA.1)) (hts _ bg_copy.1) (hts _ bg_copy.2.1) (hts _ bg_copy.2.2) hWd.1 hP hD hS q0 q1 0 0 hat0 hat1 rfl rfl rfl g1 g2 g3 g4 g5 (fun _ _ => rfl) (by rw [hR]; exact hA.2) ?_ hd (fun H1 locs1 hP1 hD1 hS1 => ?_)
        · rw [hR]
          have := sum_le S' ad
          have h42 : nativeFrameWords "java/lang/System" "arraycopy" 5 + 11 ≤ 34 := by decide
          simp only [rmL]
          omega
        · have hset : (wsW cI ad σ).set q1 (ad kd, .inl (cI, lenOf kd, .inl (va_cpy (σ ks) (σ kd) sp.toNatClampNeg dp.toNatClampNeg n.toNatClampNeg))) = wsW cI ad (wrR σ kd (va_cpy (σ ks) (σ kd) sp.toNatClampNeg dp.toNatClampNeg n.toNatClampNeg)) := ws_set hq1 wrR_ne (by rw [cell_arr hc1]; simp [wrR])
          rw [hset] at hP1 hD1
          exact hn _ _ _ h H1 locs1 ls hP1 hD1 hS1 hl
      · exact h.elim
    · rename_i h900
      rw [if_neg h900] at hA
      split at h
      · rename_i h901
        rw [if_pos h901, Bool.and_eq_true, decide_eq_true_eq] at hA
        split at h
        · rename_i y x' S'
          intro H locs ls hP hD hS hl
          refine va_mmax hx hb (hml.trans hl.1.symm) hown (hts _ (mx_big hA.1)) (hts _ bg_max.1) (hts _ bg_max.2) (hts _ bg_maxc) (by rw [hR]; exact hA.2) ?_ (Nat.zero_le _) (Nat.zero_le _) hd (hn _ _ _ h.2 H locs ls hP hD hS hl)
          rw [hR]
          have := sum_le S' ad
          have := h.1
          simp only [rmL]
          omega
        · exact h.elim
      · rename_i h901
        rw [if_neg h901] at hA
        simp only [Bool.and_eq_true, Bool.or_eq_true, beq_iff_eq, decide_eq_true_eq] at hA
        obtain ⟨⟨⟨⟨h1, h2⟩, h3⟩, h4⟩, h5⟩ := hA
        refine sm_static hC hd h1 h2 h4 h5 h.1 h.2.1 h.2.2 (fun r σ' hk => ?_)
        rw [h3]
        exact hn _ _ _ hk
  case ireturn =>
    obtain rfl : n = 1 := by simpa [isSw, lnI] using hsw
    simp only [stp] at h
    split at h
    · rename_i v
      obtain ⟨hok, hq⟩ := h
      intro H locs ls hP hD hS hl
      cases hrt : mi.2.2.2.1 with
      | none => rw [hrt] at hok; exact hok.elim
      | some ty =>
        have hn2 : narrow ty (.int v) = .int v := by
          rw [hrt] at hok
          cases ty <;> first | exact hok.elim | exact (narrow_b hok).1 | rfl
        refine W.zret hx hb (hr.trans hrt) hn2 (fun t ht hw => ⟨⟨v, σ, rfl, hq, by rw [ht]; exact hP, hWd.warm hw, hD⟩, hS.F ht⟩) hS.2.2 hd hlk
    · exact h.elim
  case return_ =>
    obtain rfl : n = 1 := by simpa [isSw, lnI] using hsw
    simp only [stp] at h
    split at h
    · obtain ⟨hok, hq⟩ := h
      intro H locs ls hP hD hS hl
      rw [hok]
      refine W.vret hx hb (hr.trans hok) (fun t ht hw => ⟨⟨σ, rfl, hq, by rw [ht]; exact hP, hWd.warm hw, hD⟩, hS.F ht⟩) hS.2.2 hd hlk
    · exact h.elim
  all_goals exact (show False from h).elim
end Snd2
