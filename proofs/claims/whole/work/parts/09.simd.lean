/-! stores of fields by their kinds, arrays, new cells, constants -/
theorem z_fs_set {n0 : Nat} {st : Nat → Value} {h h' : zH} {a j : Nat} {w : Value} (ht : z_tg h' a = z_tg h a) (hj : z_ph n0 st (z_fv h' a j (z_kd (z_fd (z_tg h a) j).2.2.1)) = w)
    (ho : ∀ q, q ≠ j → z_fv h' a q (z_kd (z_fd (z_tg h a) q).2.2.1) = z_fv h a q (z_kd (z_fd (z_tg h a) q).2.2.1)) : z_fs n0 st h' a = (z_fs n0 st h a).set j w := by
  refine List.ext_getElem? fun q => ?_
  by_cases hq : q < (z_cl (z_tg h a)).2.2
  · rw [z_fs_get ht hq]
    by_cases hqj : q = j
    · subst hqj
      rw [List.getElem?_set_self (by unfold z_fs; rw [List.length_map, List.length_range]; exact hq), hj]
    · rw [List.getElem?_set_ne (fun e => hqj e.symm), z_fs_get rfl hq, ho q hqj]
  · rw [List.getElem?_eq_none (by unfold z_fs; rw [List.length_map, List.length_range, ht]; omega), List.getElem?_eq_none (by rw [List.length_set]; unfold z_fs; rw [List.length_map, List.length_range]; omega)]
theorem z_up2_ne {α : Type} {f : Nat → Nat → α} {a i b : Nat} {v : α} (hb : b ≠ a) : z_up2 f a i v b = f b := by
  funext j
  unfold z_up2
  rw [if_neg (fun q => hb q.1)]
theorem z_up2_nj {α : Type} {f : Nat → Nat → α} {a i b j : Nat} {v : α} (hj : j ≠ i) : z_up2 f a i v b j = f b j := by
  unfold z_up2
  rw [if_neg (fun q => hj q.2)]
theorem z_up2_at {α : Type} {f : Nat → Nat → α} {a i : Nat} {v : α} : z_up2 f a i v a i = v := by
  unfold z_up2
  rw [if_pos ⟨rfl, rfl⟩]
theorem z_row_ne {α : Type} {f : Nat → Nat → α} {a b : Nat} {g : Nat → α} (hb : b ≠ a) : z_row f a g b = f b := by
  funext j
  unfold z_row
  rw [if_neg hb]
theorem z_row_at {α : Type} {f : Nat → Nat → α} {a : Nat} {g : Nat → α} : z_row f a g a = g := by
  funext j
  unfold z_row
  rw [if_pos rfl]
section SIMD
variable {p : Program} {l : Launch} {e : Env} {R : Room} {s : State} {m : MethodId} {args : Array Value} {below : List Frame} {meth : Method} {c : Code} {Q : State → Prop}
variable {D : va_G} {cA : Nat → ClassId} {n0 : Nat} {st : Nat → Value} {Ls : Nat} {xs : Nat → Int32} {y c0 u0 : Nat} {pc : Nat} {L : zL} {S : zS} {h : zH}
theorem s_putI (C : z_CX p R s m args meth c D cA n0 st Ls xs y) (hY : z_LAY) {a k j i : Nat} {x : Int32} (hk1 : 1 ≤ k) (hk2 : k ≤ 12) (hj : j < (z_cl k).2.2) (hf : (z_fd k j).1 = (z_cl k).1) (hw : Jvm.Cond.fieldLink (z_nm y).cls i (z_cl k).1 (z_fd k j).2.1 (z_fd k j).2.2.1 ∈ z_tbl) (ht : z_tg h a = k) (hd : decode (z_by y) pc = .ok (.putfield i, 3))
    (hfin : (z_fd k j).2.2.2 = true → (z_nm y).name = "<init>" ∧ (z_nm y).cls = (z_cl k).1) (hkd : z_kd (z_fd k j).2.2.1 = 0 ∨ (z_kd (z_fd k j).2.2.1 = 3 ∧ (x = 0 ∨ x = 1)))
    (kk : z_SW p l e R s m args below meth c Q D cA n0 st Ls xs y c0 u0 (pc + 3) L S (z_sI h a j x)) : z_SW p l e R s m args below meth c Q D cA n0 st Ls xs y c0 u0 pc L (.int x :: .ref a :: S) h := by
  have hok := z_kd_ok k hk1 hk2 j hj
  unfold z_tyOk at hok
  have hnf : narrow (z_tyc k j) (.int x) = .int x ∧ fits (z_tyc k j) (.int x) = true := by
    rcases hkd with q | ⟨q, q2⟩
    · rw [q] at hok
      simp only [decide_true, cond_true, decide_eq_true_eq] at hok
      rw [hok]
      exact ⟨rfl, rfl⟩
    · rw [q] at hok
      simp only [decide_true, cond_true, decide_eq_true_eq, show decide ((3 : Int) = 0) = false from by decide, cond_false] at hok
      rw [hok]
      rcases q2 with rfl | rfl <;> decide
  refine s_putf (h' := z_sI h a j x) C hY hk1 hk2 hj hf hw ht hd hfin hnf.1 hnf.2 rfl rfl rfl rfl (fun b hb => z_up2_ne hb) (fun b hb => z_E_same rfl rfl (fun j => congrFun (z_up2_ne hb) j) (fun _ => rfl) (fun _ => rfl)) (z_fs_set rfl ?_ (fun q hq => ?_)) kk
  · rw [ht]
    have : z_fv (z_sI h a j x) a j (z_kd (z_fd k j).2.2.1) = .int x := by
      unfold z_fv
      rw [if_neg (by omega), if_neg (by omega)]
      exact congrArg Value.int z_up2_at
    rw [this]
  · unfold z_fv
    have : z_iv (z_sI h a j x) a q = z_iv h a q := z_up2_nj hq
    rw [this]
    rfl
theorem s_putL (C : z_CX p R s m args meth c D cA n0 st Ls xs y) (hY : z_LAY) {a k j i : Nat} {x : Int64} (hk1 : 1 ≤ k) (hk2 : k ≤ 12) (hj : j < (z_cl k).2.2) (hf : (z_fd k j).1 = (z_cl k).1) (hw : Jvm.Cond.fieldLink (z_nm y).cls i (z_cl k).1 (z_fd k j).2.1 (z_fd k j).2.2.1 ∈ z_tbl) (ht : z_tg h a = k) (hd : decode (z_by y) pc = .ok (.putfield i, 3))
    (hfin : (z_fd k j).2.2.2 = true → (z_nm y).name = "<init>" ∧ (z_nm y).cls = (z_cl k).1) (hkd : z_kd (z_fd k j).2.2.1 = 1)
    (kk : z_SW p l e R s m args below meth c Q D cA n0 st Ls xs y c0 u0 (pc + 3) L S (z_sL h a j x)) : z_SW p l e R s m args below meth c Q D cA n0 st Ls xs y c0 u0 pc L (.long x :: .ref a :: S) h := by
  have hok := z_kd_ok k hk1 hk2 j hj
  unfold z_tyOk at hok
  have hnf : narrow (z_tyc k j) (.long x) = .long x ∧ fits (z_tyc k j) (.long x) = true := by
    rw [hkd] at hok
    simp only [decide_true, cond_true, decide_eq_true_eq, show decide ((1 : Int) = 0) = false from by decide, show decide ((1 : Int) = 3) = false from by decide, cond_false] at hok
    rw [hok]
    exact ⟨rfl, rfl⟩
  refine s_putf (h' := z_sL h a j x) C hY hk1 hk2 hj hf hw ht hd hfin hnf.1 hnf.2 rfl rfl rfl rfl (fun b hb => rfl) (fun b hb => z_E_same rfl rfl (fun _ => rfl) (fun j => congrFun (z_up2_ne hb) j) (fun _ => rfl)) (z_fs_set rfl ?_ (fun q hq => ?_)) kk
  · rw [ht]
    have : z_fv (z_sL h a j x) a j (z_kd (z_fd k j).2.2.1) = .long x := by
      unfold z_fv
      rw [if_pos hkd]
      exact congrArg Value.long z_up2_at
    rw [this]
  · unfold z_fv
    have : z_lv (z_sL h a j x) a q = z_lv h a q := z_up2_nj hq
    rw [this]
    rfl
theorem s_putR (C : z_CX p R s m args meth c D cA n0 st Ls xs y) (hY : z_LAY) {a k j i : Nat} {x : Option Nat} (hk1 : 1 ≤ k) (hk2 : k ≤ 12) (hj : j < (z_cl k).2.2) (hf : (z_fd k j).1 = (z_cl k).1) (hw : Jvm.Cond.fieldLink (z_nm y).cls i (z_cl k).1 (z_fd k j).2.1 (z_fd k j).2.2.1 ∈ z_tbl) (ht : z_tg h a = k) (hd : decode (z_by y) pc = .ok (.putfield i, 3))
    (hfin : (z_fd k j).2.2.2 = true → (z_nm y).name = "<init>" ∧ (z_nm y).cls = (z_cl k).1) (hkd : z_kd (z_fd k j).2.2.1 = 2)
    (kk : z_SW p l e R s m args below meth c Q D cA n0 st Ls xs y c0 u0 (pc + 3) L S (z_sR h a j x)) : z_SW p l e R s m args below meth c Q D cA n0 st Ls xs y c0 u0 pc L (va_rf x :: .ref a :: S) h := by
  have hok := z_kd_ok k hk1 hk2 j hj
  unfold z_tyOk at hok
  have hnf : narrow (z_tyc k j) (z_ph n0 st (va_rf x)) = z_ph n0 st (va_rf x) ∧ fits (z_tyc k j) (z_ph n0 st (va_rf x)) = true := by
    rw [hkd] at hok
    simp only [show decide ((2 : Int) = 0) = false from by decide, show decide ((2 : Int) = 3) = false from by decide, show decide ((2 : Int) = 1) = false from by decide, cond_false] at hok
    cases hty : z_tyc k j <;> rw [hty] at hok <;> first | (cases hok; done) | (cases x <;> exact ⟨rfl, rfl⟩)
  refine s_putf (h' := z_sR h a j x) C hY hk1 hk2 hj hf hw ht hd hfin hnf.1 hnf.2 rfl rfl rfl rfl (fun b hb => rfl) (fun b hb => z_E_same rfl rfl (fun _ => rfl) (fun _ => rfl) (fun j => congrFun (z_up2_ne hb) j)) (z_fs_set rfl ?_ (fun q hq => ?_)) kk
  · rw [ht]
    have : z_fv (z_sR h a j x) a j (z_kd (z_fd k j).2.2.1) = va_rf x := by
      unfold z_fv
      rw [if_neg (by omega), if_pos hkd]
      exact congrArg va_rf z_up2_at
    rw [this]
  · unfold z_fv
    have : z_rv (z_sR h a j x) a q = z_rv h a q := z_up2_nj hq
    rw [this]
    rfl
theorem z_HR.sv {H : Heap} (hH : z_HR D cA n0 st Ls xs h H) (q i : Nat) : z_sv h q i = z_sv0 xs q i := by
  unfold z_sv z_sv0
  rw [hH.2.2.2.2.2]
theorem z_HR.sl {H : Heap} (hH : z_HR D cA n0 st Ls xs h H) (q : Nat) : z_sl h q = z_sl0 Ls q := by
  unfold z_sl z_sl0
  rw [hH.2.2.2.2.1]
theorem s_iald (C : z_CX p R s m args meth c D cA n0 st Ls xs y) {a : Nat} {i : Int32} (ht : z_tg h a = 100) (hin : 0 ≤ i.toInt ∧ i.toInt < (z_ln h a : Int)) (hd : decode (z_by y) pc = .ok (.iaload, 1))
    (kk : z_SW p l e R s m args below meth c Q D cA n0 st Ls xs y c0 u0 (pc + 1) L (.int (z_iv h a (z_ix i)) :: S) h) : z_SW p l e R s m args below meth c Q D cA n0 st Ls xs y c0 u0 pc L (.int i :: .ref a :: S) h := by
  intro H locs ls hH hL hS h1 h2
  have ha := hH.lt (a := a) (by omega)
  have hg := z_W_get (cA := cA) (n0 := n0) (st := st) ha
  rw [z_E_int ht (by omega) (by omega)] at hg
  exact va_iald C.1 C.2.1 C.2.2.2.2.2.2.1.1 hH.2.1 a 0 hg rfl (z_in_vp hin) hd (kk H locs ls hH hL hS h1 h2)
theorem s_zald (C : z_CX p R s m args meth c D cA n0 st Ls xs y) {a : Nat} {i : Int32} (ht : z_tg h a = 101) (hin : 0 ≤ i.toInt ∧ i.toInt < (z_ln h a : Int)) (hd : decode (z_by y) pc = .ok (.baload, 1))
    (kk : z_SW p l e R s m args below meth c Q D cA n0 st Ls xs y c0 u0 (pc + 1) L (.int (z_iv h a (z_ix i)) :: S) h) : z_SW p l e R s m args below meth c Q D cA n0 st Ls xs y c0 u0 pc L (.int i :: .ref a :: S) h := by
  intro H locs ls hH hL hS h1 h2
  have ha := hH.lt (a := a) (by omega)
  have hg := z_W_get (cA := cA) (n0 := n0) (st := st) ha
  rw [z_E_int ht (by omega) (by omega)] at hg
  exact va_zald C.1 C.2.1 C.2.2.2.2.2.2.1.1 hH.2.1 a 1 hg rfl (z_in_vp hin) hd (kk H locs ls hH hL hS h1 h2)
theorem s_sald (C : z_CX p R s m args meth c D cA n0 st Ls xs y) {q : Nat} {i : Int32} (hq : q < 3 ∨ q = 19) (hin : 0 ≤ i.toInt ∧ i.toInt < (z_sl h q : Int)) (hd : decode (z_by y) pc = .ok (.iaload, 1))
    (kk : z_SW p l e R s m args below meth c Q D cA n0 st Ls xs y c0 u0 (pc + 1) L (.int (z_sv h q (z_ix i)) :: S) h) : z_SW p l e R s m args below meth c Q D cA n0 st Ls xs y c0 u0 pc L (.int i :: .retAddr q :: S) h := by
  intro H locs ls hH hL hS h1 h2
  obtain ⟨t, e1, hT⟩ := C.2.2.2.2.2.2.2.1.2.2.2.1 q hq
  have k1 := kk H locs ls hH hL hS h1 h2
  rw [hH.sv] at k1
  rw [hH.sl] at hin
  simp only [List.map_cons, z_ph, e1] at k1 ⊢
  exact va_ti C.1 C.2.1 hT hS (z_in_vp hin) rfl hd k1
theorem s_sbld (C : z_CX p R s m args meth c D cA n0 st Ls xs y) {q : Nat} {i : Int32} (hq1 : 11 ≤ q) (hq2 : q < 19) (hin : 0 ≤ i.toInt ∧ i.toInt < (z_sl h q : Int)) (hd : decode (z_by y) pc = .ok (.baload, 1))
    (kk : z_SW p l e R s m args below meth c Q D cA n0 st Ls xs y c0 u0 (pc + 1) L (.int (z_sv h q (z_ix i)) :: S) h) : z_SW p l e R s m args below meth c Q D cA n0 st Ls xs y c0 u0 pc L (.int i :: .retAddr q :: S) h := by
  intro H locs ls hH hL hS h1 h2
  obtain ⟨t, e1, hT⟩ := C.2.2.2.2.2.2.2.1.2.2.2.2.1 q hq1 hq2
  have k1 := kk H locs ls hH hL hS h1 h2
  rw [hH.sv] at k1
  rw [hH.sl] at hin
  simp only [List.map_cons, z_ph, e1] at k1 ⊢
  exact va_tb C.1 C.2.1 hT hS (z_in_vp hin) rfl hd k1
theorem s_slen (C : z_CX p R s m args meth c D cA n0 st Ls xs y) {q : Nat} (hq : q < 3 ∨ (11 ≤ q ∧ q < 20)) (hd : decode (z_by y) pc = .ok (.arraylength, 1))
    (kk : z_SW p l e R s m args below meth c Q D cA n0 st Ls xs y c0 u0 (pc + 1) L (.int (Int32.ofNat (z_sl h q)) :: S) h) : z_SW p l e R s m args below meth c Q D cA n0 st Ls xs y c0 u0 pc L (.retAddr q :: S) h := by
  intro H locs ls hH hL hS h1 h2
  have k1 := kk H locs ls hH hL hS h1 h2
  rw [hH.sl] at k1
  by_cases hb : 11 ≤ q ∧ q < 19
  · obtain ⟨t, e1, hT⟩ := C.2.2.2.2.2.2.2.1.2.2.2.2.1 q hb.1 hb.2
    simp only [List.map_cons, z_ph, e1] at k1 ⊢
    exact va_tlen C.1 C.2.1 hT hS rfl hd k1
  · obtain ⟨t, e1, hT⟩ := C.2.2.2.2.2.2.2.1.2.2.2.1 q (by omega)
    simp only [List.map_cons, z_ph, e1] at k1 ⊢
    exact va_tlen C.1 C.2.1 hT hS rfl hd k1
theorem s_ard (C : z_CX p R s m args meth c D cA n0 st Ls xs y) {a : Nat} {i : Int32} (ht1 : 102 ≤ z_tg h a) (ht2 : z_tg h a < 106) (hin : 0 ≤ i.toInt ∧ i.toInt < (z_ln h a : Int)) (hd : decode (z_by y) pc = .ok (.aaload, 1))
    (kk : z_SW p l e R s m args below meth c Q D cA n0 st Ls xs y c0 u0 (pc + 1) L (va_rf (z_rv h a (z_ix i)) :: S) h) : z_SW p l e R s m args below meth c Q D cA n0 st Ls xs y c0 u0 pc L (.int i :: .ref a :: S) h := by
  intro H locs ls hH hL hS h1 h2
  have ha := hH.lt (a := a) (by omega)
  have hg := z_W_get (cA := cA) (n0 := n0) (st := st) ha
  rw [z_E_ref rfl ht1] at hg
  have k1 := kk H locs ls hH hL hS h1 h2
  rw [List.map_cons, z_ph_rf] at k1
  rcases (show z_tg h a = 102 ∨ z_tg h a = 103 ∨ z_tg h a = 104 ∨ z_tg h a = 105 by omega) with q | q | q | q <;> rw [q] at hg
  · exact va_aldq C.1 C.2.1 C.2.2.2.2.2.2.1.1 hH.2.1 a 2 hg rfl (z_in_vp hin) hd k1
  · exact va_aldq C.1 C.2.1 C.2.2.2.2.2.2.1.1 hH.2.1 a 3 hg rfl (z_in_vp hin) hd k1
  · exact va_aldq C.1 C.2.1 C.2.2.2.2.2.2.1.1 hH.2.1 a 4 hg rfl (z_in_vp hin) hd k1
  · exact va_aldq C.1 C.2.1 C.2.2.2.2.2.2.1.1 hH.2.1 a 5 hg rfl (z_in_vp hin) hd k1
theorem s_len (C : z_CX p R s m args meth c D cA n0 st Ls xs y) {a : Nat} (ht1 : 100 ≤ z_tg h a) (ht2 : z_tg h a < 106) (hd : decode (z_by y) pc = .ok (.arraylength, 1))
    (kk : z_SW p l e R s m args below meth c Q D cA n0 st Ls xs y c0 u0 (pc + 1) L (.int (Int32.ofNat (z_ln h a)) :: S) h) : z_SW p l e R s m args below meth c Q D cA n0 st Ls xs y c0 u0 pc L (.ref a :: S) h := by
  intro H locs ls hH hL hS h1 h2
  have ha := hH.lt (a := a) (by omega)
  have hg := z_W_get (cA := cA) (n0 := n0) (st := st) ha
  have k1 := kk H locs ls hH hL hS h1 h2
  rcases (show z_tg h a = 100 ∨ z_tg h a = 101 ∨ z_tg h a = 102 ∨ z_tg h a = 103 ∨ z_tg h a = 104 ∨ z_tg h a = 105 by omega) with q | q | q | q | q | q
  · rw [z_E_int q (by omega) (by omega)] at hg
    exact va_alen C.1 C.2.1 C.2.2.2.2.2.2.1.1 hH.2.1 a 0 hg rfl rfl hd k1
  · rw [z_E_int q (by omega) (by omega)] at hg
    exact va_alen C.1 C.2.1 C.2.2.2.2.2.2.1.1 hH.2.1 a 1 hg rfl rfl hd k1
  · rw [z_E_ref q (by omega)] at hg
    exact va_alen C.1 C.2.1 C.2.2.2.2.2.2.1.1 hH.2.1 a 2 hg rfl rfl hd k1
  · rw [z_E_ref q (by omega)] at hg
    exact va_alen C.1 C.2.1 C.2.2.2.2.2.2.1.1 hH.2.1 a 3 hg rfl rfl hd k1
  · rw [z_E_ref q (by omega)] at hg
    exact va_alen C.1 C.2.1 C.2.2.2.2.2.2.1.1 hH.2.1 a 4 hg rfl rfl hd k1
  · rw [z_E_ref q (by omega)] at hg
    exact va_alen C.1 C.2.1 C.2.2.2.2.2.2.1.1 hH.2.1 a 5 hg rfl rfl hd k1
/-- an element of an int row (or of a boolean one) has been written -/
theorem z_HR.sI {H H' : Heap} {a i k : Nat} {x : Int32} (hH : z_HR D cA n0 st Ls xs h H) (ht : z_tg h a = k) (hk1 : 100 ≤ k) (hk2 : k < 102) (z : H'.size = H.size) (oq : ∀ q, q ≠ n0 + a → H'[q]? = H[q]?) (he : H'[n0 + a]? = some (arrV (cA (k - 100)) (z_ln h a) (updV (fun j => .int (z_iv h a j)) i (.int x)))) : z_HR D cA n0 st Ls xs (z_sI h a i x) H' := by
  have ha := hH.lt (a := a) (by omega)
  refine hH.upd (h' := z_sI h a i x) ha rfl rfl rfl (z_up2_ne (z_SC_ne hH ha)) (fun b hb => z_E_same rfl rfl (fun j => congrFun (z_up2_ne hb) j) (fun _ => rfl) (fun _ => rfl)) z oq ?_
  rw [z_E_int (h := z_sI h a i x) (c := k) ht hk1 hk2]
  show H'[n0 + a]? = some (vp_cell _ _)
  rw [he, vp_cell_i]
  refine congrArg (fun f => some (arrV _ _ f)) (funext fun j => ?_)
  unfold updV
  by_cases hj : j = i
  · subst hj
    rw [if_pos rfl]
    exact congrArg Value.int z_up2_at.symm
  · rw [if_neg hj]
    exact congrArg Value.int (z_up2_nj hj).symm
theorem s_iast (C : z_CX p R s m args meth c D cA n0 st Ls xs y) {a : Nat} {i x : Int32} (ht : z_tg h a = 100) (hin : 0 ≤ i.toInt ∧ i.toInt < (z_ln h a : Int)) (hd : decode (z_by y) pc = .ok (.iastore, 1))
    (kk : z_SW p l e R s m args below meth c Q D cA n0 st Ls xs y c0 u0 (pc + 1) L S (z_sI h a (z_ix i) x)) : z_SW p l e R s m args below meth c Q D cA n0 st Ls xs y c0 u0 pc L (.int x :: .int i :: .ref a :: S) h := by
  intro H locs ls hH hL hS h1 h2
  have ha := hH.lt (a := a) (by omega)
  have hg := z_W_get (cA := cA) (n0 := n0) (st := st) ha
  rw [z_E_int ht (by omega) (by omega)] at hg
  have hc : H[n0 + a]? = some (vp_cell (cA (100 - 100)) (z_ln h a, .inl (z_iv h a))) := hH.2.1 a _ hg
  rw [vp_cell_i] at hc
  refine W.iast C.1 C.2.1 hc ((C.2.2.2.2.2.2.1.1.2 0 _ rfl).1 _ _) (fun q => by cases q) (by rw [arrV_size]; exact z_in_vp hin) rfl rfl hd fun H' w1 w2 w3 => ?_
  rw [arrV_store] at w1
  exact kk H' _ ls (hH.sI ht (by omega) (by omega) w2 w3 w1) hL (hS.put w2 w3 (show n0 ≤ n0 + a by omega)) h1 h2
theorem s_zast (C : z_CX p R s m args meth c D cA n0 st Ls xs y) {a : Nat} {i x : Int32} (ht : z_tg h a = 101) (hin : 0 ≤ i.toInt ∧ i.toInt < (z_ln h a : Int)) (hx : x = 0 ∨ x = 1) (hd : decode (z_by y) pc = .ok (.bastore, 1))
    (kk : z_SW p l e R s m args below meth c Q D cA n0 st Ls xs y c0 u0 (pc + 1) L S (z_sI h a (z_ix i) x)) : z_SW p l e R s m args below meth c Q D cA n0 st Ls xs y c0 u0 pc L (.int x :: .int i :: .ref a :: S) h := by
  intro H locs ls hH hL hS h1 h2
  have ha := hH.lt (a := a) (by omega)
  have hg := z_W_get (cA := cA) (n0 := n0) (st := st) ha
  rw [z_E_int ht (by omega) (by omega)] at hg
  have hc : H[n0 + a]? = some (vp_cell (cA (101 - 100)) (z_ln h a, .inl (z_iv h a))) := hH.2.1 a _ hg
  rw [vp_cell_i] at hc
  refine W.zast C.1 C.2.1 hc ((C.2.2.2.2.2.2.1.1.2 1 _ rfl).1 _ _) (fun q => by cases q) (by rw [arrV_size]; exact z_in_vp hin) rfl rfl hd fun H' w1 w2 w3 => ?_
  have hnx : narrow .boolean (.int x) = .int x := by rcases hx with rfl | rfl <;> rfl
  rw [hnx, arrV_store] at w1
  exact kk H' _ ls (hH.sI ht (by omega) (by omega) w2 w3 w1) hL (hS.put w2 w3 (show n0 ≤ n0 + a by omega)) h1 h2
end SIMD
