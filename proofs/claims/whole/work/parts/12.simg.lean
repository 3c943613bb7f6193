/-! every instruction that is no call and no return; what a run never takes back -/
def z_gdE (y pc : Nat) (e : zE) : Prop := decode (z_by y) pc = .ok (e.1, e.2.1) ∧ (match e.1 with
    | .tableswitch _ _ _ _ => True
    | i => e.2.1 = z_len1 i) ∧ z_side y pc e = true ∧ (∀ w ∈ z_need (z_nm y).cls e, w ∈ z_tbl) ∧ (∀ w ∈ z_ndN (z_nm y).cls e, w ∈ z_nest)
/-- the program's rows have been looked up -/
def z_OK : Prop := ∀ y pc, (z_c y pc).1 = .athrow ∨ z_gdE y pc (z_c y pc)
section SIMG
variable {p : Program} {l : Launch} {e : Env} {R : Room} {s : State} {m : MethodId} {args : Array Value} {below : List Frame} {meth : Method} {c : Code} {Q : State → Prop}
variable {D : va_G} {cA : Nat → ClassId} {n0 : Nat} {st : Nat → Value} {Ls : Nat} {xs : Nat → Int32} {y c0 u0 : Nat} {pc : Nat} {L : zL} {S : zS} {h : zH}
set_option maxHeartbeats 4000000 in
theorem s_op (C : z_CX p R s m args meth c D cA n0 st Ls xs y) (hY : z_LAY) (hs0 : s.heap.size = n0 + c0) {E : zE} {t : zT} (hg : z_gdE y pc E) (ho : z_op E pc L S h = some t) (hr1 : z_nx t.2.2.2 - c0 ≤ R.cells) (hr2 : z_us t.2.2.2 - u0 ≤ R.slots) (hr3 : z_nx t.2.2.2 ≤ z_SC)
    (kk : z_SW p l e R s m args below meth c Q D cA n0 st Ls xs y c0 u0 t.1 t.2.1 t.2.2.1 t.2.2.2) : z_SW p l e R s m args below meth c Q D cA n0 st Ls xs y c0 u0 pc L S h := by
  obtain ⟨i, len, a, b, v⟩ := E
  obtain ⟨hd, hlen, hsd, hw, hwn⟩ := hg
  simp only at hd hlen hsd hw
  cases i with
  | iconst n =>
    have hlen : len = _ := hlen
    subst hlen
    cases ho
    exact s_iconst C hd kk
  | bipush n =>
    have hlen : len = _ := hlen
    subst hlen
    cases ho
    exact s_bipush C hd (of_decide_eq_true hsd) kk
  | sipush n =>
    have hlen : len = _ := hlen
    subst hlen
    cases ho
    exact s_sipush C hd (of_decide_eq_true hsd) kk
  | lconst n =>
    have hlen : len = _ := hlen
    subst hlen
    cases ho
    exact s_lconst C hd kk
  | aconst_null =>
    have hlen : len = _ := hlen
    subst hlen
    cases ho
    exact s_null C hd kk
  | iadd =>
    have hlen : len = _ := hlen
    subst hlen
    simp only [z_op, z_ii] at ho
    split at ho
    · cases ho
      exact s_iadd C hd kk
    · cases ho
  | isub =>
    have hlen : len = _ := hlen
    subst hlen
    simp only [z_op, z_ii] at ho
    split at ho
    · cases ho
      exact s_isub C hd kk
    · cases ho
  | imul =>
    have hlen : len = _ := hlen
    subst hlen
    simp only [z_op, z_ii] at ho
    split at ho
    · cases ho
      exact s_imul C hd kk
    · cases ho
  | iand =>
    have hlen : len = _ := hlen
    subst hlen
    simp only [z_op, z_ii] at ho
    split at ho
    · cases ho
      exact s_iand C hd kk
    · cases ho
  | ior =>
    have hlen : len = _ := hlen
    subst hlen
    simp only [z_op, z_ii] at ho
    split at ho
    · cases ho
      exact s_ior C hd kk
    · cases ho
  | ixor =>
    have hlen : len = _ := hlen
    subst hlen
    simp only [z_op, z_ii] at ho
    split at ho
    · cases ho
      exact s_ixor C hd kk
    · cases ho
  | ishl =>
    have hlen : len = _ := hlen
    subst hlen
    simp only [z_op, z_ii] at ho
    split at ho
    · cases ho
      exact s_ishl C hd kk
    · cases ho
  | ishr =>
    have hlen : len = _ := hlen
    subst hlen
    simp only [z_op, z_ii] at ho
    split at ho
    · cases ho
      exact s_ishr C hd kk
    · cases ho
  | ladd =>
    have hlen : len = _ := hlen
    subst hlen
    simp only [z_op, z_ll] at ho
    split at ho
    · cases ho
      exact s_ladd C hd kk
    · cases ho
  | lsub =>
    have hlen : len = _ := hlen
    subst hlen
    simp only [z_op, z_ll] at ho
    split at ho
    · cases ho
      exact s_lsub C hd kk
    · cases ho
  | lmul =>
    have hlen : len = _ := hlen
    subst hlen
    simp only [z_op, z_ll] at ho
    split at ho
    · cases ho
      exact s_lmul C hd kk
    · cases ho
  | land =>
    have hlen : len = _ := hlen
    subst hlen
    simp only [z_op, z_ll] at ho
    split at ho
    · cases ho
      exact s_land C hd kk
    · cases ho
  | lor =>
    have hlen : len = _ := hlen
    subst hlen
    simp only [z_op, z_ll] at ho
    split at ho
    · cases ho
      exact s_lor C hd kk
    · cases ho
  | lxor =>
    have hlen : len = _ := hlen
    subst hlen
    simp only [z_op, z_ll] at ho
    split at ho
    · cases ho
      exact s_lxor C hd kk
    · cases ho
  | lshl =>
    have hlen : len = _ := hlen
    subst hlen
    simp only [z_op, z_li] at ho
    split at ho
    · cases ho
      exact s_lshl C hd kk
    · cases ho
  | lshr =>
    have hlen : len = _ := hlen
    subst hlen
    simp only [z_op, z_li] at ho
    split at ho
    · cases ho
      exact s_lshr C hd kk
    · cases ho
  | lushr =>
    have hlen : len = _ := hlen
    subst hlen
    simp only [z_op, z_li] at ho
    split at ho
    · cases ho
      exact s_lushr C hd kk
    · cases ho
  | ineg =>
    have hlen : len = _ := hlen
    subst hlen
    simp only [z_op, z_i1] at ho
    split at ho
    · cases ho
      exact s_ineg C hd kk
    · cases ho
  | i2l =>
    have hlen : len = _ := hlen
    subst hlen
    simp only [z_op, z_i1] at ho
    split at ho
    · cases ho
      exact s_i2l C hd kk
    · cases ho
  | i2b =>
    have hlen : len = _ := hlen
    subst hlen
    simp only [z_op, z_i1] at ho
    split at ho
    · cases ho
      exact s_i2b C hd kk
    · cases ho
  | i2s =>
    have hlen : len = _ := hlen
    subst hlen
    simp only [z_op, z_i1] at ho
    split at ho
    · cases ho
      exact s_i2s C hd kk
    · cases ho
  | i2c =>
    have hlen : len = _ := hlen
    subst hlen
    simp only [z_op, z_i1] at ho
    split at ho
    · cases ho
      exact s_i2c C hd kk
    · cases ho
  | l2i =>
    have hlen : len = _ := hlen
    subst hlen
    simp only [z_op, z_l1] at ho
    split at ho
    · cases ho
      exact s_l2i C hd kk
    · cases ho
  | lneg =>
    have hlen : len = _ := hlen
    subst hlen
    simp only [z_op, z_l1] at ho
    split at ho
    · cases ho
      exact s_lneg C hd kk
    · cases ho
  | idiv =>
    have hlen : len = _ := hlen
    subst hlen
    simp only [z_op, z_dvI] at ho
    split at ho
    · split at ho
      · cases ho
      · rename_i hne
        cases ho
        exact s_idiv C hd hne kk
    · cases ho
  | irem =>
    have hlen : len = _ := hlen
    subst hlen
    simp only [z_op, z_rmI] at ho
    split at ho
    · split at ho
      · cases ho
      · rename_i hne
        cases ho
        exact s_irem C hd hne kk
    · cases ho
  | ldiv =>
    have hlen : len = _ := hlen
    subst hlen
    simp only [z_op, z_dvL] at ho
    split at ho
    · split at ho
      · cases ho
      · rename_i hne
        cases ho
        exact s_ldiv C hd hne kk
    · cases ho
  | lcmp =>
    have hlen : len = _ := hlen
    subst hlen
    simp only [z_op] at ho
    split at ho
    · cases ho
      exact s_lcmp C hd kk
    · cases ho
  | dup =>
    have hlen : len = _ := hlen
    subst hlen
    simp only [z_op] at ho
    split at ho
    · cases ho
      exact s_dupI C hd kk
    · cases ho
      exact s_dupR C hd kk
    · cases ho
  | pop =>
    have hlen : len = _ := hlen
    subst hlen
    simp only [z_op] at ho
    split at ho
    · cases ho
      exact s_pop C hd kk
    · cases ho
  | dup2 =>
    have hlen : len = _ := hlen
    subst hlen
    simp only [z_op] at ho
    split at ho
    · cases ho
      exact s_dup2 C hd kk
    · cases ho
  | iload i =>
    have hlen : len = _ := hlen
    subst hlen
    simp only [z_op, z_ldI] at ho
    split at ho
    · rename_i x hx
      cases ho
      exact s_iload C hd hx kk
    · cases ho
  | lload i =>
    have hlen : len = _ := hlen
    subst hlen
    simp only [z_op, z_ldL] at ho
    split at ho
    · rename_i x hx
      cases ho
      exact s_lload C hd hx kk
    · cases ho
  | aload i =>
    have hlen : len = _ := hlen
    subst hlen
    simp only [z_op, z_ldA] at ho
    split at ho
    · rename_i x hx
      cases ho
      exact s_aload C hd hx kk
    · rename_i hx
      cases ho
      exact s_aloadN C hd hx kk
    · rename_i q hx
      cases ho
      exact s_aloadS C hd hx kk
    · cases ho
  | istore i =>
    have hlen : len = _ := hlen
    subst hlen
    simp only [z_op, z_stI] at ho
    split at ho
    · cases hb : Nat.blt i L.length <;> rw [hb] at ho
      · cases ho
      · cases ho
        exact s_istore C hd (Nat.le_of_ble_eq_true hb) kk
    · cases ho
  | lstore i =>
    have hlen : len = _ := hlen
    subst hlen
    simp only [z_op, z_stL] at ho
    split at ho
    · cases hb : Nat.blt (i + 1) L.length <;> rw [hb] at ho
      · cases ho
      · cases ho
        exact s_lstore C hd (Nat.le_of_ble_eq_true hb) kk
    · cases ho
  | astore i =>
    have hlen : len = _ := hlen
    subst hlen
    simp only [z_op, z_stA] at ho
    split at ho
    · cases hb : Nat.blt i L.length <;> rw [hb] at ho
      · cases ho
      · cases ho
        exact s_astore C hd (Nat.le_of_ble_eq_true hb) kk
    · cases hb : Nat.blt i L.length <;> rw [hb] at ho
      · cases ho
      · cases ho
        exact s_astoreN C hd (Nat.le_of_ble_eq_true hb) kk
    · cases hb : Nat.blt i L.length <;> rw [hb] at ho
      · cases ho
      · cases ho
        exact s_astoreS C hd (Nat.le_of_ble_eq_true hb) kk
    · cases ho
  | iload_n i =>
    have hlen : len = _ := hlen
    subst hlen
    simp only [z_op, z_ldI] at ho
    split at ho
    · rename_i x hx
      cases ho
      exact s_iload_n C hd hx kk
    · cases ho
  | lload_n i =>
    have hlen : len = _ := hlen
    subst hlen
    simp only [z_op, z_ldL] at ho
    split at ho
    · rename_i x hx
      cases ho
      exact s_lload_n C hd hx kk
    · cases ho
  | aload_n i =>
    have hlen : len = _ := hlen
    subst hlen
    simp only [z_op, z_ldA] at ho
    split at ho
    · rename_i x hx
      cases ho
      exact s_aload_n C hd hx kk
    · rename_i hx
      cases ho
      exact s_aloadN_n C hd hx kk
    · rename_i q hx
      cases ho
      exact s_aloadS_n C hd hx kk
    · cases ho
  | istore_n i =>
    have hlen : len = _ := hlen
    subst hlen
    simp only [z_op, z_stI] at ho
    split at ho
    · cases hb : Nat.blt i L.length <;> rw [hb] at ho
      · cases ho
      · cases ho
        exact s_istore_n C hd (Nat.le_of_ble_eq_true hb) kk
    · cases ho
  | lstore_n i =>
    have hlen : len = _ := hlen
    subst hlen
    simp only [z_op, z_stL] at ho
    split at ho
    · cases hb : Nat.blt (i + 1) L.length <;> rw [hb] at ho
      · cases ho
      · cases ho
        exact s_lstore_n C hd (Nat.le_of_ble_eq_true hb) kk
    · cases ho
  | astore_n i =>
    have hlen : len = _ := hlen
    subst hlen
    simp only [z_op, z_stA] at ho
    split at ho
    · cases hb : Nat.blt i L.length <;> rw [hb] at ho
      · cases ho
      · cases ho
        exact s_astore_n C hd (Nat.le_of_ble_eq_true hb) kk
    · cases hb : Nat.blt i L.length <;> rw [hb] at ho
      · cases ho
      · cases ho
        exact s_astoreN_n C hd (Nat.le_of_ble_eq_true hb) kk
    · cases hb : Nat.blt i L.length <;> rw [hb] at ho
      · cases ho
      · cases ho
        exact s_astoreS_n C hd (Nat.le_of_ble_eq_true hb) kk
    · cases ho
  | iinc i n =>
    have hlen : len = _ := hlen
    subst hlen
    simp only [z_op] at ho
    split at ho
    · rename_i x hx
      cases ho
      exact s_iinc C hd hx kk
    · cases ho
  | goto off =>
    have hlen : len = _ := hlen
    subst hlen
    cases ho
    exact s_goto C hd (of_decide_eq_true hsd) kk
  | ifCond cnd off =>
    have hlen : len = _ := hlen
    subst hlen
    simp only [z_op, z_b1] at ho
    have hoff : 0 ≤ (pc : Int) + off := of_decide_eq_true hsd
    split at ho
    · cases cnd with
      | eq => exact s_if_eq C hd hoff (fun q => by have ho := ho; simp only [if_pos q] at ho; cases ho; exact kk) (fun q => by have ho := ho; simp only [if_neg q] at ho; cases ho; exact kk)
      | ne => exact s_if_ne C hd hoff (fun q => by have ho := ho; simp only [if_neg q] at ho; cases ho; exact kk) (fun q => by have ho := ho; simp only [if_pos q] at ho; cases ho; exact kk)
      | lt => exact s_if_lt C hd hoff (fun q => by have ho := ho; simp only [if_pos q] at ho; cases ho; exact kk) (fun q => by have ho := ho; simp only [if_neg q] at ho; cases ho; exact kk)
      | ge => exact s_if_ge C hd hoff (fun q => by have ho := ho; simp only [if_pos q] at ho; cases ho; exact kk) (fun q => by have ho := ho; simp only [if_neg q] at ho; cases ho; exact kk)
      | gt => exact s_if_gt C hd hoff (fun q => by have ho := ho; simp only [if_pos q] at ho; cases ho; exact kk) (fun q => by have ho := ho; simp only [if_neg q] at ho; cases ho; exact kk)
      | le => exact s_if_le C hd hoff (fun q => by have ho := ho; simp only [if_pos q] at ho; cases ho; exact kk) (fun q => by have ho := ho; simp only [if_neg q] at ho; cases ho; exact kk)
    · cases ho
  | if_icmp cnd off =>
    have hlen : len = _ := hlen
    subst hlen
    simp only [z_op, z_b2] at ho
    have hoff : 0 ≤ (pc : Int) + off := of_decide_eq_true hsd
    split at ho
    · cases cnd with
      | eq => exact s_icmp_eq C hd hoff (fun q => by have ho := ho; simp only [if_pos q] at ho; cases ho; exact kk) (fun q => by have ho := ho; simp only [if_neg q] at ho; cases ho; exact kk)
      | ne => exact s_icmp_ne C hd hoff (fun q => by have ho := ho; simp only [if_neg q] at ho; cases ho; exact kk) (fun q => by have ho := ho; simp only [if_pos q] at ho; cases ho; exact kk)
      | lt => exact s_icmp_lt C hd hoff (fun q => by have ho := ho; simp only [if_pos q] at ho; cases ho; exact kk) (fun q => by have ho := ho; simp only [if_neg q] at ho; cases ho; exact kk)
      | ge => exact s_icmp_ge C hd hoff (fun q => by have ho := ho; simp only [if_pos q] at ho; cases ho; exact kk) (fun q => by have ho := ho; simp only [if_neg q] at ho; cases ho; exact kk)
      | gt => exact s_icmp_gt C hd hoff (fun q => by have ho := ho; simp only [if_pos q] at ho; cases ho; exact kk) (fun q => by have ho := ho; simp only [if_neg q] at ho; cases ho; exact kk)
      | le => exact s_icmp_le C hd hoff (fun q => by have ho := ho; simp only [if_pos q] at ho; cases ho; exact kk) (fun q => by have ho := ho; simp only [if_neg q] at ho; cases ho; exact kk)
    · cases ho
  | ifnull off =>
    have hlen : len = _ := hlen
    subst hlen
    simp only [z_op, z_nl] at ho
    have hoff : 0 ≤ (pc : Int) + off := of_decide_eq_true hsd
    split at ho
    · cases ho
      exact s_ifnullN C hd hoff kk
    · cases ho
      exact s_ifnullR C hd hoff kk
    · cases ho
  | ifnonnull off =>
    have hlen : len = _ := hlen
    subst hlen
    simp only [z_op, z_nl] at ho
    have hoff : 0 ≤ (pc : Int) + off := of_decide_eq_true hsd
    split at ho
    · cases ho
      exact s_ifnonnullN C hd hoff kk
    · cases ho
      exact s_ifnonnullR C hd hoff kk
    · cases ho
  | if_acmp cnd off =>
    have hlen : len = _ := hlen
    subst hlen
    have hoff : 0 ≤ (pc : Int) + off := of_decide_eq_true hsd
    cases cnd with
    | eq => exact absurd ho (by simp [z_op])
    | ne =>
      simp only [z_op, z_acn] at ho
      split at ho
      · rename_i w x S2
        exact s_acmp_ne (rx := some x) (ry := some w) C hd hoff (fun q => by rw [if_neg (fun z => q (by rw [z]))] at ho; cases ho; exact kk) (fun q => by rw [if_pos (Option.some.inj q)] at ho; cases ho; exact kk)
      · exact s_acmp_ne (rx := none) (ry := none) C hd hoff (fun q => absurd rfl q) (fun _ => by cases ho; exact kk)
      · rename_i w S2
        exact s_acmp_ne (rx := none) (ry := some w) C hd hoff (fun _ => by cases ho; exact kk) (fun q => by cases q)
      · rename_i w S2
        exact s_acmp_ne (rx := some w) (ry := none) C hd hoff (fun _ => by cases ho; exact kk) (fun q => by cases q)
      · cases ho
  | tableswitch d lo hi offs =>
    simp only [z_side, Bool.and_eq_true, decide_eq_true_eq] at hsd
    simp only [z_op] at ho
    split at ho
    · cases ho
      exact s_switch C hd hsd.1.1 hsd.1.2.1 hsd.1.2.2.1 hsd.1.2.2.2 (fun o hm => of_decide_eq_true (List.all_eq_true.mp hsd.2 o hm)) kk
    · cases ho
  | ldc i =>
    have hlen : len = _ := hlen
    subst hlen
    simp only [z_op] at ho
    simp only [z_need] at hw
    simp only [z_side] at hsd
    cases hb : Nat.beq a 0 with
    | true =>
      simp only [hb, cond_true] at ho hw
      cases ho
      exact s_ldcI C (hw _ List.mem_cons_self) hd kk
    | false =>
      simp only [hb, cond_false, decide_eq_true_eq] at ho hsd
      cases ho
      exact s_ldcS C hsd.2.1 hsd.1 hsd.2.2 hd kk
  | ldc_w i =>
    have hlen : len = _ := hlen
    subst hlen
    cases ho
    exact s_ldcw C (hw _ List.mem_cons_self) hd kk
  | ldc2_w i =>
    have hlen : len = _ := hlen
    subst hlen
    cases ho
    exact s_ldc2 C (hw _ List.mem_cons_self) hd kk
  | getstatic i =>
    have hlen : len = _ := hlen
    subst hlen
    simp only [z_op] at ho
    simp only [z_need] at hw
    simp only [z_side] at hsd
    cases hb : Nat.beq a 0 with
    | true =>
      simp only [hb, cond_true, decide_eq_true_eq] at ho hw hsd
      cases ho
      exact s_gets C hsd (hw _ List.mem_cons_self) hd kk
    | false =>
      simp only [hb, cond_false, decide_eq_true_eq] at ho hw hsd
      subst hsd
      cases ho
      exact s_getsC C (hw _ List.mem_cons_self) hd kk
  | getfield i =>
    have hlen : len = _ := hlen
    subst hlen
    simp only [z_op, z_gf] at ho
    simp only [z_need] at hw
    simp only [z_side] at hsd
    split at ho
    · split at ho
      · rename_i q S2 ht
        cases ho
        cases hb : Nat.beq a 20 with
        | true =>
          simp only [hb, cond_true, decide_eq_true_eq] at hw hsd
          have h20 := Nat.eq_of_beq_eq_true hb
          intro H locs ls hH
          exact absurd (hH.2.1 q _ (z_W_get (hH.lt (a := q) (by omega)))) (by rw [z_E_obj ht (by omega), h20]; rintro ⟨r, hr, -⟩; simp at hr)
        | false =>
          simp only [hb, cond_false, Bool.and_eq_true, decide_eq_true_eq] at hw hsd
          obtain ⟨⟨⟨⟨g1, g2⟩, g3⟩, g4⟩, g5⟩ := hsd
          subst g5
          exact s_getf C hY (Nat.le_of_ble_eq_true g1) (Nat.le_of_ble_eq_true g2) (Nat.le_of_ble_eq_true g3) g4 (hw _ List.mem_cons_self) ht hd kk
      · cases ho
    · split at ho
      · rename_i q S2 hq
        cases ho
        obtain ⟨rfl, hq1, hq2⟩ := hq
        exact s_getT C hq1 hq2 (hw _ List.mem_cons_self) hd kk
      · cases ho
    · cases ho
  | putfield i =>
    have hlen : len = _ := hlen
    subst hlen
    simp only [z_op, z_pf] at ho
    simp only [z_need] at hw
    simp only [z_side, Bool.and_eq_true, decide_eq_true_eq] at hsd
    obtain ⟨⟨⟨⟨⟨g1, g2⟩, g3⟩, g4⟩, g5⟩, g6⟩ := hsd
    have g1 := Nat.le_of_ble_eq_true g1
    have g2 := Nat.le_of_ble_eq_true g2
    have g3 := Nat.le_of_ble_eq_true g3
    have hfin : (z_fd a b).2.2.2 = true → (z_nm y).name = "<init>" ∧ (z_nm y).cls = (z_cl a).1 := fun q => by
      rw [q] at g6
      simp only [cond_true, Bool.and_eq_true, decide_eq_true_eq] at g6
      exact g6
    subst g5
    split at ho
    · split at ho
      · rename_i x q S2 hq
        cases ho
        exact s_putI C hY g1 g2 g3 g4 (hw _ List.mem_cons_self) hq.1 hd hfin hq.2 kk
      · cases ho
    · split at ho
      · rename_i x q S2 hq
        cases ho
        exact s_putL C hY g1 g2 g3 g4 (hw _ List.mem_cons_self) hq.1 hd hfin hq.2 kk
      · cases ho
    · split at ho
      · rename_i x q S2 hq
        cases ho
        exact s_putR (x := some x) C hY g1 g2 g3 g4 (hw _ List.mem_cons_self) hq.1 hd hfin hq.2 kk
      · cases ho
    · split at ho
      · rename_i q S2 hq
        cases ho
        exact s_putR (x := none) C hY g1 g2 g3 g4 (hw _ List.mem_cons_self) hq.1 hd hfin hq.2 kk
      · cases ho
    · cases ho
  | iaload =>
    have hlen : len = _ := hlen
    subst hlen
    simp only [z_op, z_aldI] at ho
    split at ho
    · split at ho
      · rename_i hq
        cases ho
        exact s_iald C hq.1 hq.2 hd kk
      · cases ho
    · split at ho
      · rename_i i q S2 hq
        cases ho
        exact s_sald C hq.1 hq.2 hd kk
      · cases ho
    · cases ho
  | baload =>
    have hlen : len = _ := hlen
    subst hlen
    simp only [z_op, z_aldB] at ho
    split at ho
    · split at ho
      · rename_i hq
        cases ho
        exact s_zald C hq.1 hq.2 hd kk
      · cases ho
    · split at ho
      · rename_i i q S2 hq
        cases ho
        exact s_sbld C hq.1.1 hq.1.2 hq.2 hd kk
      · cases ho
    · cases ho
  | iastore =>
    have hlen : len = _ := hlen
    subst hlen
    simp only [z_op, z_ais] at ho
    split at ho
    · split at ho
      · rename_i hq
        cases ho
        exact s_iast C hq.1 hq.2.1 hd kk
      · cases ho
    · cases ho
  | bastore =>
    have hlen : len = _ := hlen
    subst hlen
    simp only [z_op, z_ais] at ho
    split at ho
    · split at ho
      · rename_i hq
        cases ho
        exact s_zast C hq.1 hq.2.1 (by rcases hq.2.2 with q | q; exact absurd q (by decide); exact q) hd kk
      · cases ho
    · cases ho
  | aaload =>
    have hlen : len = _ := hlen
    subst hlen
    simp only [z_op, z_ard] at ho
    split at ho
    · split at ho
      · rename_i hq
        cases ho
        exact s_ard C hq.1.1 hq.1.2 hq.2 hd kk
      · cases ho
    · cases ho
  | aastore =>
    have hlen : len = _ := hlen
    subst hlen
    simp only [z_op, z_ars] at ho
    split at ho
    · split at ho
      · rename_i hq
        cases ho
        exact s_ars C hq.1.1 hq.1.2 hq.2.1 hq.2.2 hd kk
      · cases ho
    · cases ho
  | arraylength =>
    have hlen : len = _ := hlen
    subst hlen
    simp only [z_op, z_len] at ho
    split at ho
    · split at ho
      · rename_i hq
        cases ho
        exact s_len C hq.1 hq.2 hd kk
      · cases ho
    · split at ho
      · rename_i hq
        cases ho
        exact s_slen C hq hd kk
      · cases ho
    · cases ho
  | newarray t2 =>
    have hlen : len = _ := hlen
    subst hlen
    simp only [z_op, z_na] at ho
    simp only [z_side, decide_eq_true_eq] at hsd
    split at ho
    · split at ho
      · rename_i hq
        cases ho
        exact s_newa C hsd (hw _ List.mem_cons_self) hq hd hr1 hr2 hr3 kk
      · cases ho
    · cases ho
  | anewarray i =>
    have hlen : len = _ := hlen
    subst hlen
    simp only [z_op, z_na] at ho
    simp only [z_side, Bool.and_eq_true] at hsd
    split at ho
    · split at ho
      · rename_i hq
        cases ho
        exact s_newq C (Nat.le_of_ble_eq_true hsd.1) (Nat.le_of_ble_eq_true hsd.2) (hw _ List.mem_cons_self) hq hd hr1 hr2 hr3 kk
      · cases ho
    · cases ho
  | new i =>
    have hlen : len = _ := hlen
    subst hlen
    simp only [z_side, Bool.and_eq_true] at hsd
    cases ho
    have hN := Nat.eq_of_beq_eq_true hsd.2
    subst hN
    exact s_new C hY (Nat.le_of_ble_eq_true hsd.1.1) (Nat.le_of_ble_eq_true hsd.1.2) (hw _ (by simp [z_need])) (hw _ (by simp [z_need])) (hw _ (by simp [z_need])) hd hr1 hr2 hr3 kk
  | invokespecial i =>
    have hlen : len = _ := hlen
    subst hlen
    simp only [z_op] at ho
    cases hb : Nat.beq a 0 with
    | false => rw [hb] at ho; cases ho
    | true =>
      simp only [z_side, hb, cond_true, Bool.and_eq_true] at hsd
      simp only [hb, cond_true] at ho
      simp only [z_need, hb, cond_true] at hw
      split at ho
      · cases ho
        exact s_obj C (hw _ (by simp)) (hw _ (by simp)) (hw _ (by simp)) (Nat.le_of_ble_eq_true hsd.1) (Nat.le_of_ble_eq_true hsd.2) hd kk
      · cases ho
  | invokestatic i =>
    have hlen : len = _ := hlen
    subst hlen
    simp only [z_op] at ho
    cases hb : Nat.beq a 1 with
    | false => rw [hb] at ho; cases ho
    | true =>
      simp only [z_side, hb, cond_true, Bool.and_eq_true] at hsd
      simp only [hb, cond_true, z_cpy] at ho
      simp only [z_need, hb, cond_true] at hw
      split at ho
      · split at ho
        · rename_i hq
          cases ho
          obtain ⟨⟨q1, q2, q3⟩, ⟨q4, q5, q6, q7, q8⟩, q9⟩ := hq
          subst q9
          exact s_cpy C hs0 q1 q2 q3 q4 q5 q6 q7 q8 (hw _ (by simp)) (hw _ (by simp)) (hw _ (by simp)) (hw _ (by simp)) (Nat.le_of_ble_eq_true hsd.1) (Nat.le_of_ble_eq_true hsd.2) hd kk
        · cases ho
      · cases ho
  | _ => exact absurd ho (by simp [z_op])
end SIMG
