/-! returns, calls, and the whole run -/
theorem z_nar_ok {ty : Option FieldType} {v : Int32} {w : Value} (e : z_nar ty v = some w) : ∃ t, ty = some t ∧ narrow t (.int v) = .int v := by
  unfold z_nar at e
  split at e
  · exact ⟨_, rfl, rfl⟩
  · split at e
    · rename_i hv
      exact ⟨_, rfl, by rcases hv with rfl | rfl <;> rfl⟩
    · cases e
  · split at e
    · rename_i hv
      exact ⟨_, rfl, by show Value.int v.toInt8.toInt32 = _; rw [← hv]⟩
    · cases e
  · split at e
    · rename_i hv
      refine ⟨_, rfl, ?_⟩
      rw [hv]
      exact pk_nc v
    · cases e
  · cases e
section SIMI
variable {p : Program} {l : Launch} {e : Env} {R : Room} {s : State} {m : MethodId} {args : Array Value} {below : List Frame} {meth : Method} {c : Code} {Q : State → Prop}
variable {D : va_G} {cA : Nat → ClassId} {n0 : Nat} {st : Nat → Value} {Ls : Nat} {xs : Nat → Int32} {y c0 u0 : Nat} {pc : Nat} {L : zL} {S : zS} {h : zH}
theorem s_ret (C : z_CX p R s m args meth c D cA n0 st Ls xs y) (hr : meth.sig.returnType = z_rt y) (hlocks : meth.locks = false) {E : zE} {r : Option Value} (hg : z_gdE y pc E) (hR : z_isR E.1 = true) (he : z_ret E.1 (z_rt y) S = some r) :
    z_SW p l e R s m args below meth c (MQ below (z_Qc D cA n0 st Ls xs r h) args s (z_nx h - c0) (z_us h - u0) (z_A n0)) D cA n0 st Ls xs y c0 u0 pc L S h := by
  obtain ⟨i, len, a, b, v⟩ := E
  obtain ⟨hd, hlen, -, -, -⟩ := hg
  simp only at hd hlen hR he
  intro H locs ls hH hL hS h1 h2
  cases i with
  | return_ =>
    have hlen : len = _ := hlen
    subst hlen
    simp only [z_ret] at he
    split at he
    · rename_i hty
      cases he
      exact W.vret C.1 C.2.1 (hr.trans hty) (fun t ht hW => ⟨rfl, by rw [ht]; exact hH, hS.F ht⟩) hS.2.2 hd hlocks
    · cases he
  | ireturn =>
    have hlen : len = _ := hlen
    subst hlen
    simp only [z_ret] at he
    split at he
    · rename_i v2
      split at he
      · rename_i w hw
        cases he
        obtain ⟨t, ht, hn⟩ := z_nar_ok hw
        obtain ⟨hw1, -⟩ := z_nar_int hw
        subst hw1
        exact W.zret C.1 C.2.1 (hr.trans ht) hn (fun t ht hW => ⟨rfl, by rw [ht]; exact hH, hS.F ht⟩) hS.2.2 hd hlocks
      · cases he
    · cases he
  | lreturn =>
    have hlen : len = _ := hlen
    subst hlen
    simp only [z_ret] at he
    split at he
    · rename_i _ hty
      cases he
      exact W.lret C.1 C.2.1 (hr.trans hty) (fun t ht hW => ⟨rfl, by rw [ht]; exact hH, hS.F ht⟩) hS.2.2 hd hlocks
    · cases he
  | areturn =>
    have hlen : len = _ := hlen
    subst hlen
    simp only [z_ret] at he
    split at he
    · rename_i nm a hty
      split at he
      · cases he
      · cases he
        exact W.aret (v := .ref (n0 + a)) C.1 C.2.1 (hr.trans hty) (Or.inl ⟨_, rfl⟩) (Or.inr ⟨_, rfl⟩) (fun t ht hW => ⟨rfl, by rw [ht]; exact hH, hS.F ht⟩) hS.2.2 hd hlocks
    · rename_i nm hty
      split at he
      · cases he
      · cases he
        exact W.aret (v := .null) C.1 C.2.1 (hr.trans hty) (Or.inl ⟨_, rfl⟩) (Or.inl rfl) (fun t ht hW => ⟨rfl, by rw [ht]; exact hH, hS.F ht⟩) hS.2.2 hd hlocks
    · rename_i nm q hty
      split at he
      · cases he
        refine W.aret (v := st q) C.1 C.2.1 (hr.trans hty) (Or.inl ⟨_, rfl⟩) ?_ (fun t ht hW => ⟨rfl, by rw [ht]; exact hH, hS.F ht⟩) hS.2.2 hd hlocks
        rcases C.hst q with ⟨t, ht⟩ | ht
        · exact Or.inr ⟨t, ht⟩
        · exact Or.inl ht
      · cases he
    · cases he
  | _ => cases hR
/-- behind a call -/
theorem s_after {H : Heap} {locs : List Loc} {ls : Array Slot} {st0 rest : zS} {r : Option Value} {h1 : zH} {av : Array Value} (hg : z_nx h ≤ z_nx h1 ∧ z_us h ≤ z_us h1) (hc0 : c0 ≤ z_nx h) (hu0 : u0 ≤ z_us h) (hL : z_LR (z_ml y) n0 st L ls) (hS : va_S (z_A n0) s.heap H locs)
    (hr : va_Run p l e R s m args below meth c H locs (z_nx h - c0) (z_us h - u0) (z_nx h1 - z_nx h) (z_us h1 - z_us h) (F0 m pc ls st0) (rest.map (z_ph n0 st)) (z_Qc D cA n0 st Ls xs r h1 av) (z_A n0))
    (kk : z_SW p l e R s m args below meth c Q D cA n0 st Ls xs y c0 u0 (pc + 3) L (r.toList ++ rest) h1) : W p l e R s m args below meth c H locs (z_nx h - c0) (z_us h - u0) Q (F0 m pc ls st0) := by
  intro T hT X
  obtain ⟨v, s₀, t, T', L', e0, X', hL', e1, e2, ⟨hoc, hH1, hF⟩, st'⟩ := hr T hT X
  have hv : v = r.map (z_ph n0 st) := by
    have := Outcome.returned.inj hoc
    exact this
  subst hv
  have hS' : va_S (z_A n0) s.heap T'.heap (locs ++ L') := by
    refine ⟨Nat.le_trans hS.1 (by rw [e1, ← e0]; exact hF.1), fun q g1 g2 => ?_, fun q hq => ?_⟩
    · rw [e1, hF.2 q (by rw [e0]; exact Nat.lt_of_lt_of_le g1 hS.1) g2, e0]
      exact hS.2.1 q g1 g2
    · rcases List.mem_append.mp hq with g | g
      · exact hS.2.2 q g
      · exact hL' q g
  have k1 := kk T'.heap (locs ++ L') ls (by rw [e1]; exact hH1) hL hS' (by omega) (by omega)
  rw [show z_nx h1 - c0 = z_nx h - c0 + (z_nx h1 - z_nx h) by omega, show z_us h1 - u0 = z_us h - u0 + (z_us h1 - z_us h) by omega] at k1
  have eS : (r.toList ++ rest).map (z_ph n0 st) = (r.map (z_ph n0 st)).toList ++ rest.map (z_ph n0 st) := by
    rw [List.map_append]
    cases r <;> rfl
  rw [eS] at k1
  obtain ⟨t2, a1, b1⟩ := k1 T' rfl X'
  exact ⟨t2, st' t2 a1, b1⟩
theorem z_arg_split {n : Nat} {S : zS} {v : Value} {A : zS} (hn : n ≤ S.length) (h : z_arg n S = v :: A) : S = A.reverse ++ v :: S.drop n ∧ A.length + 1 = n := by
  have h2 : S.take n = (v :: A).reverse := by rw [← h, z_arg, List.reverse_reverse]
  have h3 : (S.take n).length = n := by rw [List.length_take]; omega
  refine ⟨?_, by rw [h2] at h3; simpa using h3⟩
  have := (List.take_append_drop n S).symm
  rw [h2] at this
  rw [List.reverse_cons, List.append_assoc] at this
  exact this
theorem z_arg_all {n : Nat} {S : zS} (hn : n ≤ S.length) : S = (z_arg n S).reverse ++ S.drop n ∧ (z_arg n S).length = n := by
  refine ⟨by rw [z_arg, List.reverse_reverse, List.take_append_drop], by rw [z_arg, List.length_reverse, List.length_take]; omega⟩
/-- the callee's receiver is there -/
theorem z_recv (C : z_CX p R s m args meth c D cA n0 st Ls xs y) {H : Heap} {locs : List Loc} (hH : z_HR D cA n0 st Ls xs h H) (hS : va_S (z_A n0) s.heap H locs) {z : Nat} {v : Value} {A : zS} (hz : z_rc z ≠ 0) (hok : z_rok (z_rc z) h (v :: A) = true)
    (hcl : (bif Nat.beq (z_rc z) 20 then decide ((z_nm z).cls = "java/lang/String") else (Nat.ble 1 (z_rc z) && Nat.ble (z_rc z) 12 && decide ((z_nm z).cls = (z_cl (z_rc z)).1))) = true) :
    ∃ b, z_ph n0 st v = .ref b ∧ ∃ cellB : Cell, H[b]? = some cellB ∧ cellB.vm.isStatics = false ∧ s.vm.findClass (z_nm z).cls = some cellB.cls := by
  have h0 : Nat.beq (z_rc z) 0 = false := by
    cases hb : Nat.beq (z_rc z) 0 with
    | false => rfl
    | true => exact absurd (Nat.eq_of_beq_eq_true hb) hz
  unfold z_rok at hok
  rw [h0, Bool.false_or] at hok
  cases v with
  | ref a =>
    have ht : z_tg h a = z_rc z := Nat.eq_of_beq_eq_true hok
    have ha := hH.lt (a := a) (by omega)
    refine ⟨n0 + a, rfl, ?_⟩
    cases hb : Nat.beq (z_rc z) 20 with
    | true =>
      have h20 := Nat.eq_of_beq_eq_true hb
      exact absurd (hH.2.1 a _ (z_W_get ha)) (by rw [z_E_obj ht (by omega), h20]; rintro ⟨r, hr, -⟩; simp at hr)
    | false =>
      rw [hb] at hcl
      simp only [cond_false, Bool.and_eq_true, decide_eq_true_eq] at hcl
      have g1 := Nat.le_of_ble_eq_true hcl.1.1
      have g2 := Nat.le_of_ble_eq_true hcl.1.2
      have hg := z_W_get (cA := cA) (n0 := n0) (st := st) ha
      rw [z_E_obj ht (by omega)] at hg
      have := va_recv C.2.2.2.2.2.2.1.1 hH.2.1 (z_cls_ok _ g1 g2) hg
      rw [hcl.2]
      exact this
  | retAddr q =>
    have hok : (Nat.beq (z_rc z) 20 && (Nat.ble 3 q && Nat.blt q 11)) = true := hok
    simp only [Bool.and_eq_true] at hok
    rw [hok.1] at hcl
    simp only [cond_true, decide_eq_true_eq] at hcl
    obtain ⟨a, e1, e2, -⟩ := C.2.2.2.2.2.2.2.1.2.2.2.2.2.1 q (Nat.le_of_ble_eq_true hok.2.1) (Nat.le_of_ble_eq_true hok.2.2)
    refine ⟨a, e1, ?_⟩
    obtain ⟨cell, g1, g2, g3, -⟩ := e2.kept hS.2.1
    rw [hcl]
    exact ⟨cell, g1, g2, g3⟩
  | int x => cases hok
  | long x => cases hok
  | float x => cases hok
  | double x => cases hok
  | null => cases hok
/-- a call, by the callee's contract -/
theorem s_call (C : z_CX p R s m args meth c D cA n0 st Ls xs y) (hCd : z_CODE) {E : zE} {z n : Nat} {r : Option Value} {h1 : zH} (hg : z_gdE y pc E) (hz : E.2.2.1 = z) (hn : E.2.2.2.1 = n) (hCl : z_isC E.1 = true) (h2 : Nat.ble 2 z = true) (hG : z_grd z n S h = true)
    (hM : Met l (z_nm z) (z_ws z) (z_rmm z (z_nx h1 - z_nx h) (z_us h1 - z_us h)) (z_Pc D cA n0 st Ls xs h (z_arg n S)) (z_Qc D cA n0 st Ls xs r h1) (z_nx h1 - z_nx h) (z_us h1 - z_us h) (z_A n0))
    (hgr : z_nx h ≤ z_nx h1 ∧ z_us h ≤ z_us h1) (hr1 : z_nx h1 - c0 ≤ R.cells) (hr2 : z_us h1 - u0 ≤ R.slots)
    (kk : z_SW p l e R s m args below meth c Q D cA n0 st Ls xs y c0 u0 (pc + 3) L (r.toList ++ S.drop n) h1) : z_SW p l e R s m args below meth c Q D cA n0 st Ls xs y c0 u0 pc L S h := by
  obtain ⟨i, len, a, b, v⟩ := E
  simp only at hz hn hCl
  subst hz; subst hn
  obtain ⟨hd, hlen, hsd, hw, hwn⟩ := hg
  simp only at hd hlen hsd hw hwn
  intro H locs ls hH hL hS g1 g2
  unfold z_grd at hG
  simp only [Bool.and_eq_true] at hG
  obtain ⟨⟨⟨hG1, hG2⟩, hG3⟩, hG4⟩ := hG
  have hG1 := Nat.le_of_ble_eq_true hG1
  have hG2 := Nat.le_of_ble_eq_true hG2
  have h2' := Nat.le_of_ble_eq_true h2
  have hWt : 2 * (F0 m pc ls (S.map (z_ph n0 st))).monitorRoom + (((S.drop b).map (z_ph n0 st)).map fun v => v.category).sum ≤ 8 := by
    rw [z_wt_sum C.hst]
    show 2 * 0 + _ ≤ 8
    omega
  have hb0 : Nat.beq a 0 = false := by
    cases hb : Nat.beq a 0 with
    | false => rfl
    | true => have := Nat.eq_of_beq_eq_true hb; omega
  have hb1 : Nat.beq a 1 = false := by
    cases hb : Nat.beq a 1 with
    | false => rfl
    | true => have := Nat.eq_of_beq_eq_true hb; omega
  have hCF : CallFix p m c (z_by y) (z_ml y) s args z_tbl (z_nm y).cls := ⟨C.1, C.2.1, C.2.2.1, C.2.2.2.1, C.2.2.2.2.1⟩
  have hfr := C.2.2.2.2.2.2.2.2.2.1
  have hlo := C.2.2.2.2.2.2.2.2.2.2
  have hf : (z_nx h - c0) + (z_nx h1 - z_nx h) ≤ R.cells ∧ (z_us h - u0) + (z_us h1 - z_us h) ≤ R.slots := ⟨by omega, by omega⟩
  have hpre : ∀ U : State, U.heap = H → s.WarmedH U.vm → z_Pc D cA n0 st Ls xs h (z_arg b S) ((z_arg b S).map (z_ph n0 st)).toArray U := fun U hU hWm => ⟨rfl, by rw [hU]; exact hH, z_VM.warm hWm C.2.2.2.2.2.2.1, by rw [hU]; exact (C.2.2.2.2.2.2.2.1.kept hS.2.1).moved hWm.alike⟩
  cases i with
  | invokestatic k =>
    have hlen : len = _ := hlen
    subst hlen
    simp only [z_side, hb1, cond_false, z_okC, cond_true, Bool.and_eq_true, decide_eq_true_eq] at hsd
    obtain ⟨⟨⟨⟨⟨⟨f0, f1⟩, f2⟩, f3⟩, f4⟩, f5⟩, f6, f7⟩ := hsd
    have hcw : z_codeW a ∈ z_tbl := hCd a h2' (Nat.le_of_ble_eq_true f0)
    have f1 := Nat.le_of_ble_eq_true f1
    have f2 := Nat.le_of_ble_eq_true f2
    obtain ⟨eS, eL⟩ := z_arg_all hG1
    have hst : (F0 m pc ls (S.map (z_ph n0 st))).stack = ((z_arg b S).map (z_ph n0 st)).reverse ++ (S.drop b).map (z_ph n0 st) := by
      show S.map (z_ph n0 st) = _
      rw [← List.map_reverse, ← List.map_append, ← eS]
    have hRm : (z_rmm a (z_nx h1 - z_nx h) (z_us h1 - z_us h)).frames + 1 ≤ R.frames ∧ 8 + (z_ml a + 11) + (z_rmm a (z_nx h1 - z_nx h) (z_us h1 - z_us h)).locals ≤ R.locals := ⟨by show z_fr a + 1 ≤ _; omega, by show 8 + (z_ml a + 11) + z_lo a ≤ _; omega⟩
    by_cases hv : v = 0
    · simp only [z_need, hb1, cond_false, hv, decide_true, cond_true] at hw
      refine s_after hgr g1 g2 hL hS (va_runS hCF hM (va_cwS b C.2.2.2.2.1 (fun w hwm => ?_) rfl rfl rfl ⟨f3, f4, f6⟩ hRm) ⟨z_Pc_blind _ _ _ _ _ _ _ _, hpre⟩ rfl (by rw [List.length_map]; exact eL) hL.2.1 hst hWt hd hf) kk
      unfold va_wsS at hwm
      rcases List.mem_append.mp hwm with q | q
      · have : w ∈ z_tbl := hw w (by simp at q ⊢; rcases q with q | q | q <;> simp [q])
        exact ⟨this, z_tbl_good this⟩
      · exact z_good_ws hcw w q
    · simp only [z_need, hb1, cond_false, hv, decide_false] at hw
      simp only [z_ndN, hb1, hv, decide_false, Bool.or_self, cond_false] at hwn
      exact s_after hgr g1 g2 hL hS (va_runSN hCF hM ⟨va_cnB b C.2.2.2.2.1 (z_good_ws hcw) rfl rfl rfl (C.2.2.2.2.2.2.1.2.1 _ _ _ _ (hwn _ List.mem_cons_self)) (C.2.2.2.2.1 _ (hw _ (by simp))) ⟨f3, f4, f6⟩ hRm, C.2.2.2.2.1 _ (hw _ (by simp)), trivial⟩ ⟨z_Pc_blind _ _ _ _ _ _ _ _, hpre⟩ rfl (by rw [List.length_map]; exact eL) hL.2.1 hst hWt hd hf) kk
  | invokevirtual k =>
    have hlen : len = _ := hlen
    subst hlen
    simp only [z_side, z_okC, cond_false, Bool.and_eq_true, decide_eq_true_eq] at hsd
    obtain ⟨⟨⟨⟨⟨⟨f0, f1⟩, f2⟩, f3⟩, f4⟩, f5⟩, f6, f7⟩ := hsd
    have hcw : z_codeW a ∈ z_tbl := hCd a h2' (Nat.le_of_ble_eq_true f0)
    have f1 := Nat.le_of_ble_eq_true f1
    have f2 := Nat.le_of_ble_eq_true f2
    simp only [z_need] at hw
    have hrc : z_rc a ≠ 0 := fun q => by rw [q] at f7; simp at f7
    cases hA : z_arg b S with
    | nil =>
      rw [hA] at hG3
      have h0 : Nat.beq (z_rc a) 0 = false := by
        cases hb : Nat.beq (z_rc a) 0 with
        | false => rfl
        | true => exact absurd (Nat.eq_of_beq_eq_true hb) hrc
      unfold z_rok at hG3
      rw [h0] at hG3
      cases hG3
    | cons v0 A0 =>
      obtain ⟨eS, eL⟩ := z_arg_split hG1 hA
      rw [hA] at hG3 hpre hM
      obtain ⟨bb, ebb, hcell⟩ := z_recv C hH hS hrc hG3 f7
      have hst : (F0 m pc ls (S.map (z_ph n0 st))).stack = (A0.map (z_ph n0 st)).reverse ++ .ref bb :: (S.drop b).map (z_ph n0 st) := by
        show S.map (z_ph n0 st) = _
        conv => lhs; rw [eS]
        rw [List.map_append, List.map_cons, List.map_reverse, ebb]
      have hRm : (z_rmm a (z_nx h1 - z_nx h) (z_us h1 - z_us h)).frames + 1 ≤ R.frames ∧ 8 + (z_ml a + 11) + (z_rmm a (z_nx h1 - z_nx h) (z_us h1 - z_us h)).locals ≤ R.locals := ⟨by show z_fr a + 1 ≤ _; omega, by show 8 + (z_ml a + 11) + z_lo a ≤ _; omega⟩
      have hpar : (parseMethodDescriptor (z_nm a).desc).map (fun d => d.parameters.length) = some A0.length := by
        cases hp : parseMethodDescriptor (z_nm a).desc with
        | none => rw [hp] at f6; cases f6
        | some d =>
          rw [hp] at f6
          have q6 : d.parameters.length + 1 = b := Option.some.inj f6
          exact congrArg some (show d.parameters.length = A0.length by omega)
      have hpre2 : ∀ U : State, U.heap = H → s.WarmedH U.vm → z_Pc D cA n0 st Ls xs h (v0 :: A0) (Value.ref bb :: A0.map (z_ph n0 st)).toArray U := fun U hU hWm => by
        have := hpre U hU hWm
        rw [List.map_cons, ebb] at this
        exact this
      refine s_after hgr g1 g2 hL hS (va_runV hCF hM (cwV A0.length C.2.2.2.2.1 (fun w hwm => ?_) rfl rfl rfl ⟨rfl, f3, f4, hpar⟩ hRm) ⟨z_Pc_blind _ _ _ _ _ _ _ _, hcell, hpre2⟩ rfl (by rw [List.length_map]) hL.2.1 hst hWt hd hf) kk
      unfold wsV at hwm
      rcases List.mem_append.mp hwm with q | q
      · have : w ∈ z_tbl := hw w (by simp at q ⊢; rcases q with q | q | q | q <;> simp [q])
        exact ⟨this, z_tbl_good this⟩
      · exact z_good_ws hcw w q
  | invokespecial k =>
    have hlen : len = _ := hlen
    subst hlen
    simp only [z_side, hb0, z_okC, cond_false, Bool.and_eq_true, decide_eq_true_eq] at hsd
    obtain ⟨⟨⟨⟨⟨⟨⟨⟨f0, f1⟩, f2⟩, f3⟩, f4⟩, f5⟩, f6, f7⟩, f8⟩, f9⟩ := hsd
    have hcw : z_codeW a ∈ z_tbl := hCd a h2' (Nat.le_of_ble_eq_true f0)
    have f1 := Nat.le_of_ble_eq_true f1
    have f2 := Nat.le_of_ble_eq_true f2
    have hrc : z_rc a ≠ 0 := fun q => by rw [q] at f7; simp at f7
    cases hA : z_arg b S with
    | nil =>
      rw [hA] at hG3
      have h0 : Nat.beq (z_rc a) 0 = false := by
        cases hb : Nat.beq (z_rc a) 0 with
        | false => rfl
        | true => exact absurd (Nat.eq_of_beq_eq_true hb) hrc
      unfold z_rok at hG3
      rw [h0] at hG3
      cases hG3
    | cons v0 A0 =>
      obtain ⟨eS, eL⟩ := z_arg_split hG1 hA
      rw [hA] at hG3 hpre hM
      obtain ⟨bb, ebb, hcell⟩ := z_recv C hH hS hrc hG3 f7
      have hst : (F0 m pc ls (S.map (z_ph n0 st))).stack = (A0.map (z_ph n0 st)).reverse ++ .ref bb :: (S.drop b).map (z_ph n0 st) := by
        show S.map (z_ph n0 st) = _
        conv => lhs; rw [eS]
        rw [List.map_append, List.map_cons, List.map_reverse, ebb]
      have hRm : (z_rmm a (z_nx h1 - z_nx h) (z_us h1 - z_us h)).frames + 1 ≤ R.frames ∧ 8 + (z_ml a + 11) + (z_rmm a (z_nx h1 - z_nx h) (z_us h1 - z_us h)).locals ≤ R.locals := ⟨by show z_fr a + 1 ≤ _; omega, by show 8 + (z_ml a + 11) + z_lo a ≤ _; omega⟩
      have hpar : (parseMethodDescriptor (z_nm a).desc).map (fun d => d.parameters.length) = some A0.length := by
        cases hp : parseMethodDescriptor (z_nm a).desc with
        | none => rw [hp] at f6; cases f6
        | some d =>
          rw [hp] at f6
          have q6 : d.parameters.length + 1 = b := Option.some.inj f6
          exact congrArg some (show d.parameters.length = A0.length by omega)
      have hpre2 : ∀ U : State, U.heap = H → s.WarmedH U.vm → z_Pc D cA n0 st Ls xs h (v0 :: A0) (Value.ref bb :: A0.map (z_ph n0 st)).toArray U := fun U hU hWm => by
        have := hpre U hU hWm
        rw [List.map_cons, ebb] at this
        exact this
      have hwsE : z_ws a = Jvm.Cond.code (z_nm a) (z_by a) (z_ml a) none :: z_tbl := by
        show Jvm.Cond.code (z_nm a) (z_by a) (z_ml a) (z_rt a) :: z_tbl = _
        rw [f9]
      by_cases hv : v = 0
      · simp only [z_need, hb0, cond_false, hv, decide_true, cond_true] at hw
        exact s_after hgr g1 g2 hL hS (va_runI hCF hM (cwI A0.length C.2.2.2.2.1 (z_good_ws hcw) hwsE rfl rfl (C.2.2.2.2.1 _ (hw _ (by simp))) (C.2.2.2.2.1 _ (hw _ (by simp))) (C.2.2.2.2.1 _ (hw _ (by simp))) f8 ⟨f3, f4, hpar⟩ hRm) ⟨z_Pc_blind _ _ _ _ _ _ _ _, hpre2⟩ rfl (by rw [List.length_map]) hL.2.1 hst hWt hd hf) kk
      · simp only [z_need, hb0, cond_false, hv, decide_false] at hw
        simp only [z_ndN, hb0, hv, decide_false, Bool.or_self, cond_false] at hwn
        exact s_after hgr g1 g2 hL hS (va_runIN hCF hM ⟨va_cnB A0.length C.2.2.2.2.1 (z_good_ws hcw) hwsE rfl rfl (C.2.2.2.2.2.2.1.2.1 _ _ _ _ (hwn _ List.mem_cons_self)) (C.2.2.2.2.1 _ (hw _ (by simp))) ⟨f3, f4, hpar⟩ hRm, f8, C.2.2.2.2.1 _ (hw _ (by simp))⟩ ⟨z_Pc_blind _ _ _ _ _ _ _ _, hpre2⟩ rfl (by rw [List.length_map]) hL.2.1 hst hWt hd hf) kk
  | _ => cases hCl
end SIMI
