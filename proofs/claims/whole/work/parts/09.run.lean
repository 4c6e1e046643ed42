def argL : List Value → List Value
  | [] => []
  | v :: r => if v.category = 2 then v :: .null :: argL r else v :: argL r
def ent (n : Nat) (as : List Value) : List Value := argL as ++ List.replicate (n - (argL as).length) .null
theorem argL_mem {ad : Nat → Nat} : ∀ (as : List Value) (j i : Nat) (v : Value), (argL as)[i]? = some v → v ≠ .null → (j + i, cv ad v) ∈ lv_args j (as.map (cv ad))
  | [], j, i, v, h, _ => by simp [argL] at h
  | w :: r, j, i, v, h, hv => by
    rw [List.map_cons, lv_args, cv_cat]
    unfold argL at h
    by_cases hc : w.category = 2
    · rw [if_pos hc] at h ⊢
      match i, h with
      | 0, h => simp at h; subst h; exact List.mem_cons_self
      | 1, h => simp at h; exact absurd h.symm hv
      | i + 2, h =>
        have := argL_mem (ad := ad) r (j + 2) i v (by simpa using h) hv
        rw [show j + 2 + i = j + (i + 2) by omega] at this
        exact List.mem_cons_of_mem _ this
    · rw [if_neg hc] at h ⊢
      match i, h with
      | 0, h => simp at h; subst h; exact List.mem_cons_self
      | i + 1, h =>
        have := argL_mem (ad := ad) r (j + 1) i v (by simpa using h) hv
        rw [show j + 1 + i = j + (i + 1) by omega] at this
        exact List.mem_cons_of_mem _ this
theorem argL_len {ad : Nat → Nat} : ∀ (as : List Value), (lg_sl (as.map (cv ad))).length = (argL as).length
  | [] => rfl
  | w :: r => by
    have ih := argL_len (ad := ad) r
    simp only [lg_sl, List.map_cons, List.flatMap_cons, List.length_append, cv_cat, argL] at ih ⊢
    by_cases hc : w.category = 2
    · simp [hc, ih]; omega
    · simp [hc, ih]; omega
theorem okI_spec {mi : MI} {cd : List Ins} {k : Nat} {i : Ins} (h : okCode mi cd = true) (hk : cd[k]? = some i) : i.2.1 = k ∧ (∃ n, decode mi.2.1 i.2.2.1 = .ok (i.1, n) ∧ (isSw i.1 = true ∨ n = lnI i.1)) ∧ (isSw i.1 = true ∨ ∀ j, cd[k + 1]? = some j → j.2.2.1 = i.2.2.1 + lnI i.1) ∧ okA mi cd i = true := by
  have hl := (List.getElem?_eq_some_iff.mp hk).1
  have h1 := List.all_eq_true.mp h k (List.mem_range.mpr hl)
  unfold okI at h1
  rw [hk] at h1
  simp only [Bool.and_eq_true, beq_iff_eq, Bool.or_eq_true] at h1
  obtain ⟨⟨⟨a1, a2⟩, a3⟩, a4⟩ := h1
  refine ⟨a1, ?_, ?_, a4⟩
  · split at a2
    · rename_i j n hj
      simp only [Bool.and_eq_true, decide_eq_true_eq, Bool.or_eq_true, beq_iff_eq] at a2
      exact ⟨n, by rw [hj, a2.1], a2.2⟩
    · cases a2
  · rcases a3 with a3 | a3
    · exact Or.inl a3
    · right
      intro j hj
      rw [hj] at a3
      simpa using a3
section Run
variable {l : Launch} {mi : MI} {cd : List Ins} {Q : Int32 → St → Prop}
theorem drop_cons {k : Nat} {i : Ins} {r : List Ins} (h : cd.drop k = i :: r) : cd[k]? = some i ∧ r = cd.drop (k + 1) := by
  refine ⟨?_, ?_⟩
  · have := congrArg (fun z => z[0]?) h
    simpa using this
  · have := congrArg List.tail h
    simpa using this.symm
theorem vc_snd (hok : okCode mi cd = true) {p : Program} {e : Env} {R : Room} {s : State} {m : MethodId} {args : Array Value} {below : List Frame} {meth : Method} {c : Code} {D : va_G} {cI : ClassId} {ad : Nat → Nat} {A : Nat → Prop} (hC : Cx p R s m args meth c D cI A mi) :
    ∀ (n k : Nat) (L S : List Value) (σ : St), vc l mi.2.2.2.1 Q (fun t L S σ => V l mi cd t L S σ Q) cd n (cd.drop k) L S σ → Sm l p e R s m args below meth c D cI ad A mi Q (pcA cd k) L S σ
  | 0, k, L, S, σ, h => by
    unfold vc at h
    split at h
    · exact h.elim
    · rename_i j r hr
      obtain ⟨h1, -⟩ := drop_cons hr
      rw [(okI_spec hok h1).1] at h
      exact h p e R s m args below meth c D cI ad A hC
  | n + 1, k, L, S, σ, h => by
    unfold vc at h
    split at h
    · exact h.elim
    · rename_i i r hr
      obtain ⟨h1, h2⟩ := drop_cons hr
      obtain ⟨-, o2, o3, o4⟩ := okI_spec hok h1
      have go : ∀ (t : Nat) (L S : List Value) (σ : St), goF (fun t L S σ => V l mi cd t L S σ Q) (vc l mi.2.2.2.1 Q (fun t L S σ => V l mi cd t L S σ Q) cd n) (cd.drop t) L S σ → Sm l p e R s m args below meth c D cI ad A mi Q (pcA cd t) L S σ := by
        intro t L S σ hg
        unfold goF at hg
        split at hg
        · exact hg.elim
        · rename_i j r' hj
          split at hg
          · rw [(okI_spec hok (drop_cons hj).1).1] at hg
            exact hg p e R s m args below meth c D cI ad A hC
          · exact vc_snd hok hC n t L S σ hg
      have hpc : pcA cd k = i.2.2.1 := by unfold pcA; rw [h1]
      rw [hpc]
      by_cases hsw : isSw i.1 = true
      · have h' : stp l mi.2.2.2.1 Q i L S σ (fun _ _ _ => False) (fun t => goF (fun t L S σ => V l mi cd t L S σ Q) (vc l mi.2.2.2.1 Q (fun t L S σ => V l mi cd t L S σ Q) cd n) (cd.drop t)) := by
          obtain ⟨ins, w⟩ := i
          cases ins <;> first | exact h | (exfalso; revert hsw; simp [isSw])
        exact stp_snd hC o2 o4 (fun _ _ _ z => z.elim) (fun t _ L S σ z => go t L S σ z) h'
      · refine stp_snd hC o2 o4 (fun L' S' σ' z => ?_) (fun t _ L S σ z => go t L S σ z) h
        rw [h2] at z
        have hz := go (k + 1) L' S' σ' z
        have hp2 : pcA cd (k + 1) = i.2.2.1 + lnI i.1 := by
          rcases o3 with o3 | o3
          · exact absurd o3 hsw
          · unfold goF at z
            split at z
            · exact z.elim
            · rename_i j r' hj
              have h3 := (drop_cons hj).1
              unfold pcA
              rw [h3]
              exact o3 j h3
        rw [hp2] at hz
        exact hz
/-- THE RULE: n steps of the walk from place k -/
theorem V_run (hok : okCode mi cd = true) (n k : Nat) {L S : List Value} {σ : St} (h : vc l mi.2.2.2.1 Q (fun t L S σ => V l mi cd t L S σ Q) cd n (cd.drop k) L S σ) : V l mi cd k L S σ Q :=
  fun p e R s m args below meth c D cI ad A hC => vc_snd hok hC n k L S σ h
end Run
/-- a method's contract out of a walk from its first instruction -/
theorem AMet.of {l : Launch} {mi : MI} {cd : List Ins} {Sp : Spec} (hok : okCode mi cd = true) (hpl : plainName mi.1.cls = true) (hown : mi.1.cls = Rn mi.2.2.2.2.2) (h0 : pcA cd 0 = 0)
    (h : ∀ (as : List Value) (σ : St) (Q : Int32 → St → Prop), Sp as σ Q → (argL as).length ≤ mi.2.2.1 ∧ V l mi cd 0 (ent mi.2.2.1 as) [] σ Q) : AMet l mi Sp := by
  intro D cI ad σ as Q sz hS
  obtain ⟨hlen, hV⟩ := h as σ Q hS
  refine Met.ofW (cc := mi.2.1) (maxL := mi.2.2.1) (ret := mi.2.2.2.1) hpl rfl ?_
  intro p e s m args below meth c s₁ B hml hv
  obtain ⟨rfl, hsz, hP, hWd, hD0⟩ := hv
  have hts := atoms_spec (ws := .code mi.1 mi.2.1 mi.2.2.1 mi.2.2.2.1 :: BIG) B.pre
  have hown2 : s.vm.findClass (Rn mi.2.2.2.2.2) = some m.cls := by rw [← hown]; exact findClass_of_methodNamed B.named
  subst hsz
  have hD := hD0.self (sz := s.heap.size)
  have hl := lv_entry (as.map (cv ad)) (n := mi.2.2.1) (by rw [argL_len]; exact hlen)
  rw [lg_entry_eq]
  have hC : Cx p (rmL mi.2.2.2.2.1) s m (as.map (cv ad)).toArray meth c D cI (va_A (wsW cI ad σ) s.heap.size) mi :=
    ⟨B.exec, B.bytes, hml, B.returns, B.notSynchronized, hown2, fun w hw => hts w (List.mem_cons_of_mem _ hw), hWd, rfl, fun q hq => Or.inr hq⟩
  have hz := hV p e (rmL mi.2.2.2.2.1) s m (as.map (cv ad)).toArray below meth c D cI ad _ hC s.heap [] _ hP hD va_S.rf ⟨hl.1, hl.2.1, ?_, ?_⟩
  · rw [h0] at hz
    exact hz
  · simp only [ent, List.length_append, List.length_replicate]
    omega
  · intro i v hi hv
    refine hl.2.2 (i, cv ad v) ?_
    unfold ent at hi
    by_cases hil : i < (argL as).length
    · rw [List.getElem?_append_left hil] at hi
      simpa using argL_mem (ad := ad) as 0 i v hi hv
    · rw [List.getElem?_append_right (by omega)] at hi
      obtain ⟨hz, hr⟩ := List.getElem?_eq_some_iff.mp hi
      simp at hr
      exact absurd hr.symm hv
