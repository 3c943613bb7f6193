/-! the run only adds cells; a call by contract; every run of the small machine is one of the JVM's -/
theorem z_op_mono {E : zE} {pc : Nat} {L : zL} {S : zS} {h : zH} {t : zT} (ho : z_op E pc L S h = some t) : z_nx h ≤ z_nx t.2.2.2 ∧ z_us h ≤ z_us t.2.2.2 := by
  have key : ∀ (o : Option zT), o = some t → (∀ u, o = some u → z_nx h ≤ z_nx u.2.2.2 ∧ z_us h ≤ z_us u.2.2.2) → z_nx h ≤ z_nx t.2.2.2 ∧ z_us h ≤ z_us t.2.2.2 := fun o e k => k t e
  refine key _ ho fun u hu => ?_
  unfold z_op z_ldI z_ldL z_ldA z_stI z_stL z_stA z_ii z_ll z_li z_i1 z_l1 z_dvI z_rmI z_dvL z_b1 z_b2 z_nl z_acn z_gf z_pf z_aldI z_aldB z_ais z_ard z_ars z_len z_na z_cpy at hu
  try simp only [Bool.cond_eq_ite] at hu
  repeat' (first | (split at hu) | (cases hu; done))
  all_goals first
    | (cases hu; exact ⟨Nat.le_refl _, Nat.le_refl _⟩)
    | (cases hu; exact ⟨Nat.le_succ _, Nat.le_add_right _ _⟩)
theorem z_run_grow : ∀ (n y pc : Nat) (L : zL) (S : zS) (h : zH) (r : Option Value × zH), z_run n y pc L S h = some r → z_nx h ≤ z_nx r.2 ∧ z_us h ≤ z_us r.2 := by
  intro n
  induction n with
  | zero => intro y pc L S h r e; exact absurd e (by simp [z_run])
  | succ n ih =>
    intro y pc L S h r e
    rw [z_run_succ] at e
    cases hR : z_isR (z_c y pc).1 with
    | true =>
      rw [hR] at e
      simp only [cond_true] at e
      cases hr : z_ret (z_c y pc).1 (z_rt y) S with
      | none => rw [hr] at e; exact absurd e (by simp)
      | some q =>
        rw [hr] at e
        rw [← Option.some.inj e]
        exact ⟨Nat.le_refl _, Nat.le_refl _⟩
    | false =>
      rw [hR] at e
      simp only [cond_false] at e
      cases hC : z_isC (z_c y pc).1 && Nat.ble 2 (z_c y pc).2.2.1 with
      | true =>
        rw [hC] at e
        simp only [cond_true] at e
        cases hG : z_grd (z_c y pc).2.2.1 (z_c y pc).2.2.2.1 S h with
        | false => rw [hG] at e; exact absurd e (by simp)
        | true =>
          rw [hG] at e
          simp only [cond_true] at e
          cases hI : z_run n (z_c y pc).2.2.1 0 (z_ini (z_c y pc).2.2.1 (z_arg (z_c y pc).2.2.2.1 S)) [] h with
          | none => rw [hI] at e; exact absurd e (by simp)
          | some q =>
            rw [hI] at e
            have a := ih _ _ _ _ _ _ hI
            have b := ih _ _ _ _ _ _ e
            exact ⟨Nat.le_trans a.1 b.1, Nat.le_trans a.2 b.2⟩
      | false =>
        rw [hC] at e
        simp only [cond_false] at e
        cases hO : z_op (z_c y pc) pc L S h with
        | none => rw [hO] at e; exact absurd e (by simp)
        | some t =>
          rw [hO] at e
          have a := z_op_mono hO
          have b := ih _ _ _ _ _ _ e
          exact ⟨Nat.le_trans a.1 b.1, Nat.le_trans a.2 b.2⟩
def z_ws (y : Nat) : List Jvm.Cond := z_codeW y :: z_tbl
def z_rmm (y k n : Nat) : Room := { frames := z_fr y, cells := k, slots := n, locals := z_lo y }
def z_Pc (D : va_G) (cA : Nat → ClassId) (n0 : Nat) (st : Nat → Value) (Ls : Nat) (xs : Nat → Int32) (h : zH) (A : zS) : Array Value → State → Prop := va_Pc (A.map (z_ph n0 st)) (fun U => z_HR D cA n0 st Ls xs h U.heap ∧ z_VM D cA st U ∧ z_ST n0 st Ls xs U U.heap)
def z_Qc (D : va_G) (cA : Nat → ClassId) (n0 : Nat) (st : Nat → Value) (Ls : Nat) (xs : Nat → Int32) (r : Option Value) (h' : zH) : Array Value → State → Outcome → State → Prop := fun _ s o t => o = .returned (r.map (z_ph n0 st)) ∧ z_HR D cA n0 st Ls xs h' t.heap ∧ va_F (z_A n0) s t
theorem z_VM.same {D : va_G} {cA : Nat → ClassId} {st : Nat → Value} {u U : State} (hv : U.vm = u.vm) (h : z_VM D cA st u) : z_VM D cA st U := by
  obtain ⟨h1, h2, h3, h4⟩ := h
  have hal : u.vm.Alike U.vm := by rw [hv]; exact Vm.Alike.refl _
  refine ⟨va_K.moved hal h1, fun a i x o hm => va_Nw.same rfl hv.symm (h2 a i x o hm), fun t a b => va_AO.moved hal (h3 t a b), fun i b hb hm => ?_⟩
  obtain ⟨a, h5, h6⟩ := h4 i b hb hm
  exact ⟨a, h5, vk_R.same hv h6⟩
theorem z_Pc_blind (D : va_G) (cA : Nat → ClassId) (n0 : Nat) (st : Nat → Value) (Ls : Nat) (xs : Nat → Int32) (h : zH) (A : zS) : FrameBlind (z_Pc D cA n0 st Ls xs h A) := by
  rintro a U g mk ⟨h1, h2, h3, h4⟩
  exact ⟨h1, h2, z_VM.same (u := U) rfl h3, z_ST.moved (u := U) (Vm.Alike.refl _) h4⟩
theorem z_tbl_good {w : Jvm.Cond} (h : w ∈ z_tbl) : (w.onTables && w.keeps) = true ∨ ∃ ty, w = .arrayClass ty := good_of_word (List.mem_filter.mp h).2
theorem z_good_ws {z : Nat} (h : z_codeW z ∈ z_tbl) : GoodIn z_tbl (z_ws z) := by
  intro w hw
  rcases List.mem_cons.mp hw with rfl | hw
  · exact ⟨h, z_tbl_good h⟩
  · exact ⟨hw, z_tbl_good hw⟩
theorem z_lcs_mem {n0 : Nat} {st : Nat → Value} (hst : ∀ q, (∃ t, st q = .ref t) ∨ st q = .null) : ∀ (A : zS) (k i : Nat) (v : Value), (z_lcs A).getD i none = some v → (k + i, z_ph n0 st v) ∈ lv_args k (A.map (z_ph n0 st)) := by
  have c1 : ∀ v : Value, (∀ x, v ≠ .long x) → (∀ x, v ≠ .double x) → ¬ (z_ph n0 st v).category = 2 := by
    intro v h1 h2 hc
    have := z_ph_long hst v hc
    cases v with
    | long x => exact h1 x rfl
    | double x => exact h2 x rfl
    | _ => cases this
  intro A
  induction A with
  | nil => intro k i v h; simp [z_lcs] at h
  | cons a A ih =>
    intro k i v h
    have one : (∀ x, a ≠ .long x) → (∀ x, a ≠ .double x) → z_lcs (a :: A) = some a :: z_lcs A → (k + i, z_ph n0 st v) ∈ lv_args k ((a :: A).map (z_ph n0 st)) := by
      intro h1 h2 h3
      rw [h3] at h
      rw [List.map_cons, lv_args, if_neg (c1 a h1 h2)]
      cases i with
      | zero =>
        have : a = v := by simpa using h
        rw [this]
        exact List.mem_cons_self
      | succ i =>
        refine List.mem_cons_of_mem _ ?_
        have := ih (k + 1) i v (by simpa using h)
        rwa [show k + 1 + i = k + (i + 1) by omega] at this
    have two : (z_ph n0 st a).category = 2 → z_lcs (a :: A) = some a :: none :: z_lcs A → (k + i, z_ph n0 st v) ∈ lv_args k ((a :: A).map (z_ph n0 st)) := by
      intro h1 h3
      rw [h3] at h
      rw [List.map_cons, lv_args, if_pos h1]
      match i, h with
      | 0, h =>
        have : a = v := by simpa using h
        rw [this]
        exact List.mem_cons_self
      | 1, h => simp at h
      | i + 2, h =>
        refine List.mem_cons_of_mem _ ?_
        have := ih (k + 2) i v (by simpa using h)
        rwa [show k + 2 + i = k + (i + 2) by omega] at this
    cases a with
    | long x => exact two rfl rfl
    | double x => exact two rfl rfl
    | int x => exact one (fun _ h => by cases h) (fun _ h => by cases h) rfl
    | float x => exact one (fun _ h => by cases h) (fun _ h => by cases h) rfl
    | null => exact one (fun _ h => by cases h) (fun _ h => by cases h) rfl
    | ref x => exact one (fun _ h => by cases h) (fun _ h => by cases h) rfl
    | retAddr x => exact one (fun _ h => by cases h) (fun _ h => by cases h) rfl
theorem z_lcs_len {n0 : Nat} {st : Nat → Value} (hst : ∀ q, (∃ t, st q = .ref t) ∨ st q = .null) : ∀ (A : zS), (lg_sl (A.map (z_ph n0 st))).length = (z_lcs A).length := by
  intro A
  induction A with
  | nil => rfl
  | cons a A ih =>
    have e : lg_sl ((a :: A).map (z_ph n0 st)) = lg_sl [z_ph n0 st a] ++ lg_sl (A.map (z_ph n0 st)) := by
      rw [List.map_cons]
      simp [lg_sl]
    rw [e, List.length_append, ih]
    cases a with
    | long x => simp [lg_sl, z_ph, Value.category, z_lcs]; omega
    | double x => simp [lg_sl, z_ph, Value.category, z_lcs]; omega
    | int x => simp [lg_sl, z_ph, Value.category, z_lcs]; omega
    | float x => simp [lg_sl, z_ph, Value.category, z_lcs]; omega
    | null => simp [lg_sl, z_ph, Value.category, z_lcs]; omega
    | ref x => simp [lg_sl, z_ph, Value.category, z_lcs]; omega
    | retAddr x =>
      rcases hst x with ⟨t, ht⟩ | ht <;> simp [lg_sl, z_ph, ht, Value.category, z_lcs] <;> omega
theorem z_wt_sum {n0 : Nat} {st : Nat → Value} (hst : ∀ q, (∃ t, st q = .ref t) ∨ st q = .null) : ∀ (A : zS), ((A.map (z_ph n0 st)).map fun v => v.category).sum = z_wt A := by
  intro A
  induction A with
  | nil => rfl
  | cons a A ih =>
    rw [List.map_cons, List.map_cons, List.sum_cons, ih]
    cases a with
    | retAddr x =>
      rcases hst x with ⟨t, ht⟩ | ht <;> simp [z_ph, ht, Value.category, z_wt]
    | _ => rfl
