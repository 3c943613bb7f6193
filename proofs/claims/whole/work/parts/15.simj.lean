/-! every run of the small machine is one of the JVM's -/
theorem z_ini_len (y : Nat) (A : zS) (h : (z_lcs A).length ≤ z_ml y) : (z_ini y A).length = z_ml y := by
  unfold z_ini
  rw [List.length_append, List.length_replicate]
  omega
theorem z_ini_get {y : Nat} {A : zS} {i : Nat} {v : Value} (h : (z_ini y A).getD i none = some v) : (z_lcs A).getD i none = some v := by
  unfold z_ini at h
  rw [List.getD_eq_getElem?_getD] at h ⊢
  by_cases hi : i < (z_lcs A).length
  · rw [List.getElem?_append_left hi] at h
    exact h
  · rw [List.getElem?_append_right (by omega), List.getElem?_replicate] at h
    split at h <;> cases h
set_option maxHeartbeats 4000000 in
theorem z_sim (hOK : z_OK) (hCd : z_CODE) (hY : z_LAY) (l : Launch) (D : va_G) (cA : Nat → ClassId) (n0 : Nat) (st : Nat → Value) (Ls : Nat) (xs : Nat → Int32) : ∀ (n y pc : Nat) (L : zL) (S : zS) (h : zH) (r : Option Value) (h' : zH), z_run n y pc L S h = some (r, h') →
    ∀ {p : Program} {e : Env} {R : Room} {s : State} {m : MethodId} {args : Array Value} {below : List Frame} {meth : Method} {c : Code} {Q : State → Prop} {c0 u0 : Nat},
    z_CX p R s m args meth c D cA n0 st Ls xs y → s.heap.size = n0 + c0 → z_nx h' - c0 ≤ R.cells → z_us h' - u0 ≤ R.slots → z_nx h' ≤ z_SC →
    (∀ pc L S, z_gdE y pc (z_c y pc) → z_isR (z_c y pc).1 = true → z_ret (z_c y pc).1 (z_rt y) S = some r → z_SW p l e R s m args below meth c Q D cA n0 st Ls xs y c0 u0 pc L S h') →
    z_SW p l e R s m args below meth c Q D cA n0 st Ls xs y c0 u0 pc L S h := by
  intro n
  induction n with
  | zero => intro y pc L S h r h' e; exact absurd e (by simp [z_run])
  | succ n ih =>
    intro y pc L S h r h' hrun p e R s m args below meth c Q c0 u0 C hs0 hR1 hR2 hR3 hret
    have hgr := z_run_grow _ _ _ _ _ _ _ hrun
    simp only at hgr
    rw [z_run_succ] at hrun
    cases hR : z_isR (z_c y pc).1 with
    | true =>
      rw [hR] at hrun
      simp only [cond_true] at hrun
      cases hr : z_ret (z_c y pc).1 (z_rt y) S with
      | none => rw [hr] at hrun; exact absurd hrun (by simp)
      | some q =>
        rw [hr] at hrun
        obtain ⟨e1, e2⟩ := Prod.mk.inj (Option.some.inj hrun)
        subst e1; subst e2
        rcases hOK y pc with hat | hg
        · rw [hat] at hR; cases hR
        · exact hret pc L S hg hR hr
    | false =>
      rw [hR] at hrun
      simp only [cond_false] at hrun
      cases hC : z_isC (z_c y pc).1 && Nat.ble 2 (z_c y pc).2.2.1 with
      | true =>
        rw [hC] at hrun
        simp only [cond_true] at hrun
        have hC' := Bool.and_eq_true_iff.mp hC
        cases hG : z_grd (z_c y pc).2.2.1 (z_c y pc).2.2.2.1 S h with
        | false => rw [hG] at hrun; exact absurd hrun (by simp)
        | true =>
          rw [hG] at hrun
          simp only [cond_true] at hrun
          cases hI : z_run n (z_c y pc).2.2.1 0 (z_ini (z_c y pc).2.2.1 (z_arg (z_c y pc).2.2.2.1 S)) [] h with
          | none => rw [hI] at hrun; exact absurd hrun (by simp)
          | some q =>
            rw [hI] at hrun
            obtain ⟨r1, h1⟩ := q
            simp only at hrun
            have g1 := z_run_grow _ _ _ _ _ _ _ hI
            have g2 := z_run_grow _ _ _ _ _ _ _ hrun
            simp only at g1 g2
            rcases hOK y pc with hat | hg
            · rw [hat] at hC'; exact absurd hC'.1 (by decide)
            refine s_call C hCd hg rfl rfl hC'.1 hC'.2 hG ?_ g1 (by omega) (by omega) (ih y (pc + 3) L _ h1 r h' hrun C hs0 hR1 hR2 hR3 hret)
            -- the callee's contract
            generalize hz : (z_c y pc).2.2.1 = z at hI hG hg hC' ⊢
            generalize hA : z_arg (z_c y pc).2.2.2.1 S = A at hI hG hg ⊢
            have hpl : plainFor (z_nm z) = true := by
              have hs := hg.2.2.1
              have hzz : (z_c y pc).2.2.1 = z := hz
              have h2 := Nat.le_of_ble_eq_true hC'.2
              have hb0 : Nat.beq (z_c y pc).2.2.1 0 = false := by
                cases hb : Nat.beq (z_c y pc).2.2.1 0 with
                | false => rfl
                | true => have := Nat.eq_of_beq_eq_true hb; omega
              have hb1 : Nat.beq (z_c y pc).2.2.1 1 = false := by
                cases hb : Nat.beq (z_c y pc).2.2.1 1 with
                | false => rfl
                | true => have := Nat.eq_of_beq_eq_true hb; omega
              revert hs
              have hc1 := hC'.1
              revert hc1
              unfold z_side
              rw [hb0, hb1, hzz]
              cases hi : (z_c y pc).1 <;> simp only [z_isC, cond_false, z_okC, Bool.and_eq_true, decide_eq_true_eq] <;> intro hc1 hs
              all_goals first
                | (cases hc1; done)
                | exact hs.1.2
                | exact hs.1.1.1.2
            have hml : (z_lcs A).length ≤ z_ml z := by
              unfold z_grd at hG
              simp only [Bool.and_eq_true] at hG
              rw [hA] at hG
              exact Nat.le_of_ble_eq_true hG.2
            refine va_MetF (cc := z_by z) (maxL := z_ml z) (ret := z_rt z) (ws' := z_tbl) hpl rfl ?_
            intro p e s m args below meth c s₁ B hmc hv
            obtain ⟨rfl, hHR, hVM, hST⟩ := hv
            have hts : ∀ w ∈ z_ws z, w.before _ s = true := atoms_spec (ws := z_ws z) B.pre
            have hown : s.vm.findClass (z_nm z).cls = some m.cls := findClass_of_methodNamed B.named
            have hname : meth.name = (z_nm z).name := (name_of_methodNamed B.named B.method).1
            have C2 : z_CX p (headSpec (z_ws z) (z_rmm z (z_nx h1 - z_nx h) (z_us h1 - z_us h))).room s m (A.map (z_ph n0 st)).toArray meth c D cA n0 st Ls xs z :=
              ⟨B.exec, B.bytes, hmc, hown, fun w hw => hts w (List.mem_cons_of_mem _ hw), fun q => hname.trans q, hVM, hST, by rw [hHR.1]; omega, Nat.le_refl _, Nat.le_refl _⟩
            have hst := hST.2.2.2.2.2.2
            have hlen : (lg_sl (A.map (z_ph n0 st))).length ≤ z_ml z := by rw [z_lcs_len hst]; exact hml
            have hl := lv_entry (A.map (z_ph n0 st)) hlen
            rw [lg_entry_eq]
            have hLR : z_LR (z_ml z) n0 st (z_ini z A) ((lg_sl (A.map (z_ph n0 st)) ++ List.replicate (z_ml z - (lg_sl (A.map (z_ph n0 st))).length) Slot.unset).toArray) := by
              refine ⟨z_ini_len z A hml, hl.1, hl.2.1, ?_⟩
              rintro ⟨i, w⟩ hq
              obtain ⟨v, hv, rfl⟩ := z_lvl_mem.mp hq
              have := z_lcs_mem (n0 := n0) hst A 0 i v (z_ini_get hv)
              rw [Nat.zero_add] at this
              exact hl.2.2 _ this
            have key := ih z 0 (z_ini z A) [] h r1 h1 hI (R := (headSpec (z_ws z) (z_rmm z (z_nx h1 - z_nx h) (z_us h1 - z_us h))).room) (Q := MQ below (z_Qc D cA n0 st Ls xs r1 h1) (A.map (z_ph n0 st)).toArray s (z_nx h1 - z_nx h) (z_us h1 - z_us h) (z_A n0)) (c0 := z_nx h) (u0 := z_us h) (below := below) (e := e)
              C2 hHR.1 (Nat.le_refl _) (Nat.le_refl _) (by omega) (fun pc L S hg hR hr => s_ret C2 B.returns B.notSynchronized hg hR hr) s.heap [] _ hHR hLR va_S.rf (Nat.le_refl _) (Nat.le_refl _)
            rw [Nat.sub_self, Nat.sub_self] at key
            exact key
      | false =>
        rw [hC] at hrun
        simp only [cond_false] at hrun
        cases hO : z_op (z_c y pc) pc L S h with
        | none => rw [hO] at hrun; exact absurd hrun (by simp)
        | some t =>
          rw [hO] at hrun
          simp only at hrun
          have g2 := z_run_grow _ _ _ _ _ _ _ hrun
          simp only at g2
          rcases hOK y pc with hat | hg
          · have : z_op (z_c y pc) pc L S h = none := by unfold z_op; rw [hat]
            rw [this] at hO; cases hO
          · exact s_op C hY hs0 hg hO (by omega) (by omega) (by omega) (ih y t.1 t.2.1 t.2.2.1 t.2.2.2 r h' hrun C hs0 hR1 hR2 hR3 hret)
