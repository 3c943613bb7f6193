/-! references in rows, new cells, copies, constants, statics -/
theorem z_el_cl (t : Nat) (h1 : 102 ≤ t) (h2 : t ≤ 105) : 1 ≤ z_el t ∧ z_el t ≤ 12 := by
  rcases (show t = 102 ∨ t = 103 ∨ t = 104 ∨ t = 105 by omega) with rfl | rfl | rfl | rfl <;> decide
theorem z_ty_at (cA : Nat → ClassId) (t : Nat) (h1 : 102 ≤ t) (h2 : t ≤ 105) : (z_ty cA)[t - 100]? = some (cA (t - 100), .object (z_cl (z_el t)).1) := by
  rcases (show t = 102 ∨ t = 103 ∨ t = 104 ∨ t = 105 by omega) with rfl | rfl | rfl | rfl <;> rfl
theorem z_new_ive {h : zH} {k len n j : Nat} (hj : j ≠ z_nx h) (q : Nat) : z_iv (z_nw h k len n) j q = z_iv h j q := by
  show z_row (z_iv h) (z_nx h) (fun _ => 0) j q = _
  rw [z_row_ne hj]
theorem z_new_lve {h : zH} {k len n j : Nat} (hj : j ≠ z_nx h) (q : Nat) : z_lv (z_nw h k len n) j q = z_lv h j q := by
  show z_row (z_lv h) (z_nx h) (fun _ => 0) j q = _
  rw [z_row_ne hj]
theorem z_new_rve {h : zH} {k len n j : Nat} (hj : j ≠ z_nx h) (q : Nat) : z_rv (z_nw h k len n) j q = z_rv h j q := by
  show z_row (z_rv h) (z_nx h) (fun _ => none) j q = _
  rw [z_row_ne hj]
section SIME
variable {p : Program} {l : Launch} {e : Env} {R : Room} {s : State} {m : MethodId} {args : Array Value} {below : List Frame} {meth : Method} {c : Code} {Q : State → Prop}
variable {D : va_G} {cA : Nat → ClassId} {n0 : Nat} {st : Nat → Value} {Ls : Nat} {xs : Nat → Int32} {y c0 u0 : Nat} {pc : Nat} {L : zL} {S : zS} {h : zH}
theorem s_ars (C : z_CX p R s m args meth c D cA n0 st Ls xs y) {a v : Nat} {i : Int32} (ht1 : 102 ≤ z_tg h a) (ht2 : z_tg h a < 106) (hin : 0 ≤ i.toInt ∧ i.toInt < (z_ln h a : Int)) (hv : z_tg h v = z_el (z_tg h a)) (hd : decode (z_by y) pc = .ok (.aastore, 1))
    (kk : z_SW p l e R s m args below meth c Q D cA n0 st Ls xs y c0 u0 (pc + 1) L S (z_sR h a (z_ix i) (some v))) : z_SW p l e R s m args below meth c Q D cA n0 st Ls xs y c0 u0 pc L (.ref v :: .int i :: .ref a :: S) h := by
  intro H locs ls hH hL hS h1 h2
  have ha := hH.lt (a := a) (by omega)
  have hel := z_el_cl _ ht1 (by omega : z_tg h a ≤ 105)
  have hvl := hH.lt (a := v) (by omega)
  have hg := z_W_get (cA := cA) (n0 := n0) (st := st) ha
  have hgv := z_W_get (cA := cA) (n0 := n0) (st := st) hvl
  rw [z_E_ref rfl ht1] at hg
  rw [z_E_obj hv (by omega)] at hgv
  have hK := C.2.2.2.2.2.2.1.1
  have hc := z_cls_ok _ hel.1 hel.2
  have hcell : H[n0 + a]? = some (vp_cell (cA (z_tg h a - 100)) (z_ln h a, .inr (.inr (.inr (.inr (fun j => z_rm n0 (z_rv h a j))))))) := hH.2.1 a _ hg
  rw [vp_cell_q] at hcell
  obtain ⟨r', hr', cellV, g1, g2, g3, -⟩ := hH.2.1 v _ hgv
  have hcls := (hK.1 _ _ hc).2
  obtain ⟨kA, comp, k1, k2, k3, -⟩ := (hK.2 _ _ (z_ty_at cA _ ht1 (by omega))).2
  have hcomp : comp = D.1 (z_el (z_tg h a) - 1) := Option.some.inj (k3.symm.trans hcls.1)
  subst hcomp
  obtain ⟨kC, hkC, -⟩ := hcls.2
  have hvp := z_in_vp hin
  refine W.aast C.1 C.2.1 hcell (fun q h => by cases h) (fun h => by cases h) k1 k2 rfl hkC ⟨fun q => hvp (Or.inl q), by rw [arrV_size]; exact Nat.not_le.mp fun q => hvp (Or.inr q)⟩ g1 (fun q h => by rw [g3] at h; cases h) (by rw [g2]; exact hkC) (by rw [g2]; exact va_assign hcls) rfl rfl hd fun H' w1 w2 w3 => ?_
  rw [arrV_store] at w1
  refine kk H' _ ls (hH.upd (h' := z_sR h a (z_ix i) (some v)) ha rfl rfl rfl rfl (fun b hb => z_E_same rfl rfl (fun _ => rfl) (fun _ => rfl) (fun j => congrFun (z_up2_ne hb) j)) w2 w3 ?_) hL (hS.put w2 w3 (show n0 ≤ n0 + a by omega)) h1 h2
  rw [z_E_ref (h := z_sR h a (z_ix i) (some v)) (c := z_tg h a) rfl ht1]
  show H'[n0 + a]? = some (vp_cell _ _)
  rw [w1, vp_cell_q]
  refine congrArg (fun f => some (arrV _ _ f)) (funext fun j => ?_)
  unfold updV
  by_cases hj : j = i.toNatClampNeg
  · subst hj
    rw [if_pos rfl]
    have : z_rv (z_sR h a (z_ix i) (some v)) a (Int32.toNatClampNeg i) = some v := z_up2_at
    rw [this]
    rfl
  · rw [if_neg hj]
    have : z_rv (z_sR h a (z_ix i) (some v)) a j = z_rv h a j := z_up2_nj hj
    rw [this]
/-- a new cell behind the others -/
theorem z_HR.push {H H' : Heap} {k len n : Nat} (hH : z_HR D cA n0 st Ls xs h H) (hk : k ≠ 0) (hsc : z_nx h + 1 ≤ z_SC) (z : H'.size = H.size + 1) (oq : ∀ q, q < H.size → H'[q]? = H[q]?) (he : va_at D vwCl (n0 + z_nx h, z_E cA n0 st (z_nw h k len n) (z_nx h)) H') : z_HR D cA n0 st Ls xs (z_nw h k len n) H' := by
  obtain ⟨h1, h2, h3, h4, h5, h6⟩ := hH
  have hne : z_SC ≠ z_nx h := by omega
  refine ⟨by rw [z, h1]; show n0 + z_nx h + 1 = n0 + (z_nx h + 1); omega, ?_, fun a ha => ?_, hsc, ?_, ?_⟩
  · rw [← z_W_push (h' := z_nw h k len n) (h := h) rfl (fun j hj => z_E_same (if_neg (by omega)) (if_neg (by omega)) (z_new_ive (by omega)) (z_new_lve (by omega)) (z_new_rve (by omega)))]
    refine (h2.kept fun k q hq => oq _ ((h2 k q hq).lt)).app fun k q hq => ?_
    have hz : k < 1 := (List.getElem?_eq_some_iff.mp hq).1
    rw [show k = 0 by omega] at hq
    cases hq
    exact he
  · have : z_nx h + 1 ≤ a := ha
    show (if a = z_nx h then k else z_tg h a) = 0
    rw [if_neg (by omega)]
    exact h3 a (by omega)
  · show (if z_SC = z_nx h then len else z_ln h z_SC) = Ls
    rw [if_neg hne]; exact h5
  · show z_row (z_iv h) (z_nx h) (fun _ => 0) z_SC = xs
    rw [z_row_ne hne]; exact h6
theorem va_S_push {H0 H H' : Heap} {locs : List Loc} (hS : va_S (z_A n0) H0 H locs) (z : H'.size = H.size + 1) (oq : ∀ q, q < H.size → H'[q]? = H[q]?) : va_S (z_A n0) H0 H' locs :=
  ⟨Nat.le_trans hS.1 (by omega), fun x h1 h2 => (oq x (Nat.lt_of_lt_of_le h1 hS.1)).trans (hS.2.1 x h1 h2), hS.2.2⟩
theorem z_new_tg {k len n : Nat} : z_tg (z_nw h k len n) (z_nx h) = k := if_pos rfl
theorem z_new_ln {k len n : Nat} : z_ln (z_nw h k len n) (z_nx h) = len := if_pos rfl
theorem z_new_iv {k len n : Nat} : z_iv (z_nw h k len n) (z_nx h) = fun _ => 0 := z_row_at
theorem z_new_lv {k len n : Nat} : z_lv (z_nw h k len n) (z_nx h) = fun _ => 0 := z_row_at
theorem z_new_rv {k len n : Nat} : z_rv (z_nw h k len n) (z_nx h) = fun _ => none := z_row_at
theorem s_new (C : z_CX p R s m args meth c D cA n0 st Ls xs y) (hY : z_LAY) {k i : Nat} (hk1 : 1 ≤ k) (hk2 : k ≤ 12) (hw1 : Jvm.Cond.classLink (z_nm y).cls i (z_cl k).1 ∈ z_tbl) (hw2 : Jvm.Cond.instantiable (z_cl k).1 (z_cl k).2.2 ∈ z_tbl) (hw3 : Jvm.Cond.initialized (z_cl k).1 ∈ z_tbl) (hd : decode (z_by y) pc = .ok (.new i, 3))
    (hc1 : z_nx h + 1 - c0 ≤ R.cells) (hc2 : z_us h + (z_cl k).2.2 - u0 ≤ R.slots) (hsc : z_nx h + 1 ≤ z_SC)
    (kk : z_SW p l e R s m args below meth c Q D cA n0 st Ls xs y c0 u0 (pc + 3) L (.ref (z_nx h) :: S) (z_nw h k 0 (z_cl k).2.2)) : z_SW p l e R s m args below meth c Q D cA n0 st Ls xs y c0 u0 pc L S h := by
  intro H locs ls hH hL hS h1 h2
  have hts := C.2.2.2.2.1
  have hK := C.2.2.2.2.2.2.1.1
  have hc := z_cls_ok k hk1 hk2
  have hKn := hK.1 _ _ hc
  refine W.newcK C.1 C.2.1 C.2.2.2.1 (hts _ hw1) (hts _ hw2) (hts _ hw3) rfl hd (by omega) (by omega) hKn.2.1 hH.1 fun H' kC hkC w1 w2 w3 => ?_
  rw [← hH.1] at w2 w3
  have hat : va_at D vwCl (n0 + z_nx h, z_E cA n0 st (z_nw h k 0 (z_cl k).2.2) (z_nx h)) H' := by
    rw [z_E_obj (c := k) z_new_tg (by omega)]
    refine ⟨_, hc, (u_born (z_tyc k) hts (hY k hk1 hk2) hKn hkC w1 (z_ty_ok k hk1 hk2)).to fun j hj => ?_⟩
    unfold vp_V
    rw [List.getD_eq_getElem?_getD, z_fs_get z_new_tg hj, Option.getD_some]
    unfold z_fv
    rw [z_new_iv, z_new_lv, z_new_rv]
    have hok := z_kd_ok k hk1 hk2 j hj
    unfold z_tyOk at hok
    by_cases q0 : z_kd (z_fd k j).2.2.1 = 0
    · rw [q0] at hok ⊢
      simp only [decide_true, cond_true, decide_eq_true_eq] at hok
      rw [hok]; rfl
    by_cases q3 : z_kd (z_fd k j).2.2.1 = 3
    · rw [q3] at hok ⊢
      simp only [decide_true, cond_true, decide_eq_true_eq, show decide ((3 : Int) = 0) = false from by decide, cond_false] at hok
      rw [hok]; rfl
    by_cases q1 : z_kd (z_fd k j).2.2.1 = 1
    · rw [q1] at hok ⊢
      simp only [decide_true, cond_true, decide_eq_true_eq, show decide ((1 : Int) = 0) = false from by decide, show decide ((1 : Int) = 3) = false from by decide, cond_false] at hok
      rw [hok]; rfl
    have q2 : z_kd (z_fd k j).2.2.1 = 2 := by
      revert q0 q1 q3
      unfold z_kd
      split
      · simp
      · split
        · simp
        · split <;> simp
    rw [q2] at hok ⊢
    simp only [show decide ((2 : Int) = 0) = false from by decide, show decide ((2 : Int) = 3) = false from by decide, show decide ((2 : Int) = 1) = false from by decide, cond_false] at hok
    cases hty : z_tyc k j <;> rw [hty] at hok <;> first | (cases hok; done) | rfl
  have k1 := kk H' locs ls (hH.push (by omega) hsc w2 w3 hat) hL (va_S_push hS w2 w3) (show c0 ≤ z_nx h + 1 by omega) (show u0 ≤ z_us h + _ by omega)
  have e1 : z_nx (z_nw h k 0 (z_cl k).2.2) - c0 = z_nx h - c0 + 1 := by show z_nx h + 1 - c0 = _; omega
  have e2 : z_us (z_nw h k 0 (z_cl k).2.2) - u0 = z_us h - u0 + (z_cl k).2.2 := by show z_us h + _ - u0 = _; omega
  rw [e1, e2] at k1
  exact k1
theorem s_newa (C : z_CX p R s m args meth c D cA n0 st Ls xs y) {t : ArrayType} {k : Nat} {n : Int32} (hk : (t = .int ∧ k = 100) ∨ (t = .boolean ∧ k = 101)) (hw : Jvm.Cond.arrayClass (newarray.typeOf t) ∈ z_tbl) (hn : 0 ≤ n.toInt ∧ n.toInt ≤ 100000) (hd : decode (z_by y) pc = .ok (.newarray t, 2))
    (hc1 : z_nx h + 1 - c0 ≤ R.cells) (hc2 : z_us h + z_ix n - u0 ≤ R.slots) (hsc : z_nx h + 1 ≤ z_SC)
    (kk : z_SW p l e R s m args below meth c Q D cA n0 st Ls xs y c0 u0 (pc + 2) L (.ref (z_nx h) :: S) (z_nw h k (z_ix n) (z_ix n))) : z_SW p l e R s m args below meth c Q D cA n0 st Ls xs y c0 u0 pc L (.int n :: S) h := by
  intro H locs ls hH hL hS h1 h2
  have hts := C.2.2.2.2.1
  have hK := C.2.2.2.2.2.2.1.1
  have hnn : ¬ n < 0 := fun q => (z_in_vp (i := n) (n := 100001) ⟨hn.1, by have := hn.2; show n.toInt < 100001; omega⟩) (Or.inl q)
  have hle : z_ix n ≤ 100000 := by unfold z_ix; omega
  have hcb : componentBytes (newarray.typeOf t) ≤ 4 := by rcases hk with ⟨rfl, -⟩ | ⟨rfl, -⟩ <;> decide
  refine va_newaK C.1 C.2.1 (hts _ hw) rfl hd rfl hnn rfl (Nat.le_trans (Nat.mul_le_mul hle hcb) (by decide)) (by omega) (show z_us h - u0 + z_ix n ≤ R.slots by omega) hH.1 fun H' cA' w1 w2 w3 hAr hNm => ?_
  rw [← hH.1] at w2 w3
  have hat : va_at D vwCl (n0 + z_nx h, z_E cA n0 st (z_nw h k (z_ix n) (z_ix n)) (z_nx h)) H' := by
    rw [z_E_int (c := k) z_new_tg (by omega) (by omega), z_new_ln, z_new_iv]
    show H'[n0 + z_nx h]? = some (vp_cell _ _)
    rw [vp_cell_i, w1]
    rcases hk with ⟨rfl, rfl⟩ | ⟨rfl, rfl⟩
    · have : cA' = cA 0 := Option.some.inj (hNm.symm.trans (hK.2 0 _ rfl).2)
      rw [this]; rfl
    · have : cA' = cA 1 := Option.some.inj (hNm.symm.trans (hK.2 1 _ rfl).2)
      rw [this]; rfl
  have k1 := kk H' locs ls (hH.push (by omega) hsc w2 w3 hat) hL (va_S_push hS w2 w3) (show c0 ≤ z_nx h + 1 by omega) (show u0 ≤ z_us h + _ by omega)
  have e1 : z_nx (z_nw h k (z_ix n) (z_ix n)) - c0 = z_nx h - c0 + 1 := by show z_nx h + 1 - c0 = _; omega
  have e2 : z_us (z_nw h k (z_ix n) (z_ix n)) - u0 = z_us h - u0 + z_ix n := by show z_us h + _ - u0 = _; omega
  rw [e1, e2] at k1
  exact k1
theorem s_newq (C : z_CX p R s m args meth c D cA n0 st Ls xs y) {k i : Nat} {n : Int32} (hk1 : 102 ≤ k) (hk2 : k ≤ 105) (hw : Jvm.Cond.classLink (z_nm y).cls i (z_cl (z_el k)).1 ∈ z_tbl) (hn : 0 ≤ n.toInt ∧ n.toInt ≤ 100000) (hd : decode (z_by y) pc = .ok (.anewarray i, 3))
    (hc1 : z_nx h + 1 - c0 ≤ R.cells) (hc2 : z_us h + z_ix n - u0 ≤ R.slots) (hsc : z_nx h + 1 ≤ z_SC)
    (kk : z_SW p l e R s m args below meth c Q D cA n0 st Ls xs y c0 u0 (pc + 3) L (.ref (z_nx h) :: S) (z_nw h k (z_ix n) (z_ix n))) : z_SW p l e R s m args below meth c Q D cA n0 st Ls xs y c0 u0 pc L (.int n :: S) h := by
  intro H locs ls hH hL hS h1 h2
  have hts := C.2.2.2.2.1
  have hK := C.2.2.2.2.2.2.1.1
  have hnn : ¬ n < 0 := fun q => (z_in_vp (i := n) (n := 100001) ⟨hn.1, by have := hn.2; show n.toInt < 100001; omega⟩) (Or.inl q)
  have hle : z_ix n ≤ 100000 := by unfold z_ix; omega
  refine W.anew C.1 C.2.1 C.2.2.2.1 (hts _ hw) (va_AO.use (C.2.2.2.2.2.2.1.2.2.1 k hk1 hk2)) rfl hd rfl hnn (show z_ix n * 4 ≤ _ by omega) (by omega) (show z_us h - u0 + z_ix n ≤ R.slots by omega) fun cA' kA comp f1 f2 f3 f4 => ?_
  generalize hH1 : H.push ({ cls := cA', slots := Array.replicate n.toNatClampNeg .null, vm := .none } : Cell) = H'
  have w2 : H'.size = H.size + 1 := by rw [← hH1, Array.size_push]
  have w1 : H'[H.size]? = some (arrV cA' n.toNatClampNeg (fun _ => .null)) := by rw [← hH1, Array.getElem?_push_size, ← arrV_new]
  have w3 : ∀ q : Nat, q < H.size → H'[q]? = H[q]? := fun q hq => by rw [← hH1, Array.getElem?_push, if_neg (Nat.ne_of_lt hq)]
  have hat : va_at D vwCl (n0 + z_nx h, z_E cA n0 st (z_nw h k (z_ix n) (z_ix n)) (z_nx h)) H' := by
    rw [z_E_ref (c := k) z_new_tg hk1, z_new_ln, z_new_rv]
    show H'[n0 + z_nx h]? = some (vp_cell _ _)
    rw [vp_cell_q, ← hH.1, w1]
    obtain ⟨kA2, comp2, -, -, -, k4⟩ := (hK.2 _ _ (z_ty_at cA k hk1 hk2)).2
    have : cA' = cA (k - 100) := Option.some.inj (f1.symm.trans k4)
    rw [this]; rfl
  have k1 := kk H' locs ls (hH.push (by omega) hsc w2 w3 hat) hL (va_S_push hS w2 w3) (show c0 ≤ z_nx h + 1 by omega) (show u0 ≤ z_us h + _ by omega)
  have e1 : z_nx (z_nw h k (z_ix n) (z_ix n)) - c0 = z_nx h - c0 + 1 := by show z_nx h + 1 - c0 = _; omega
  have e2 : z_us (z_nw h k (z_ix n) (z_ix n)) - u0 = z_us h - u0 + z_ix n := by show z_us h + _ - u0 = _; omega
  rw [e1, e2] at k1
  rw [hH.1]
  exact k1
end SIME
