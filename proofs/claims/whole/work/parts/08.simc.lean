/-! rows of the instructions that touch the heap -/
def z_tyc (c : Nat) : Nat → FieldType := ([tyX0, tyX1, tyX2, tyX3, tyX4, tyX5, tyX6, tyX7, tyX8, tyX9, tyX10, tyX11] : List (Nat → FieldType)).getD (c - 1) tyX0
def z_isRf : FieldType → Bool
  | .object _ => true
  | .array _ => true
  | _ => false
def z_tyOk (c j : Nat) : Bool := bif decide (z_kd (z_fd c j).2.2.1 = 0) then decide (z_tyc c j = .int) else bif decide (z_kd (z_fd c j).2.2.1 = 3) then decide (z_tyc c j = .boolean) else bif decide (z_kd (z_fd c j).2.2.1 = 1) then decide (z_tyc c j = .long) else z_isRf (z_tyc c j)
theorem z_all12 {P : Nat → Prop} (h : ∀ c, c < 12 → P (c + 1)) : ∀ c, 1 ≤ c → c ≤ 12 → P c := by
  intro c h1 h2
  have := h (c - 1) (by omega)
  rwa [Nat.sub_add_cancel h1] at this
theorem z_cls_ok : ∀ c, 1 ≤ c → c ≤ 12 → vwCl[c - 1]? = some (z_cl c) := by
  refine z_all12 fun c hc => ?_
  rcases (show c = 0 ∨ c = 1 ∨ c = 2 ∨ c = 3 ∨ c = 4 ∨ c = 5 ∨ c = 6 ∨ c = 7 ∨ c = 8 ∨ c = 9 ∨ c = 10 ∨ c = 11 by omega) with rfl | rfl | rfl | rfl | rfl | rfl | rfl | rfl | rfl | rfl | rfl | rfl <;> rfl
theorem z_ty_ok : ∀ c, 1 ≤ c → c ≤ 12 → ∀ k, k < (z_cl c).2.2 → parseFieldDescriptor ((z_cl c).2.1 k).2.2.1 = some (z_tyc c k) := by
  refine z_all12 fun c hc => ?_
  rcases (show c = 0 ∨ c = 1 ∨ c = 2 ∨ c = 3 ∨ c = 4 ∨ c = 5 ∨ c = 6 ∨ c = 7 ∨ c = 8 ∨ c = 9 ∨ c = 10 ∨ c = 11 by omega) with rfl | rfl | rfl | rfl | rfl | rfl | rfl | rfl | rfl | rfl | rfl | rfl
  · exact tyX0_ok
  · exact tyX1_ok
  · exact tyX2_ok
  · exact tyX3_ok
  · exact tyX4_ok
  · exact tyX5_ok
  · exact tyX6_ok
  · exact tyX7_ok
  · exact tyX8_ok
  · exact tyX9_ok
  · exact tyX10_ok
  · exact tyX11_ok
theorem z_nm_ok : ∀ c, 1 ≤ c → c ≤ 12 → ∀ a, a < (z_cl c).2.2 → ∀ b, b < (z_cl c).2.2 → a ≠ b → ((z_cl c).2.1 a).2.1 ≠ ((z_cl c).2.1 b).2.1 := by
  refine z_all12 fun c hc => ?_
  rcases (show c = 0 ∨ c = 1 ∨ c = 2 ∨ c = 3 ∨ c = 4 ∨ c = 5 ∨ c = 6 ∨ c = 7 ∨ c = 8 ∨ c = 9 ∨ c = 10 ∨ c = 11 by omega) with rfl | rfl | rfl | rfl | rfl | rfl | rfl | rfl | rfl | rfl | rfl | rfl
  · exact nmX0
  · exact nmX1
  · exact nmX2
  · exact nmX3
  · exact nmX4
  · exact nmX5
  · exact nmX6
  · exact nmX7
  · exact nmX8
  · exact nmX9
  · exact nmX10
  · exact nmX11
theorem z_kd_ok : ∀ c, 1 ≤ c → c ≤ 12 → ∀ k, k < (z_cl c).2.2 → z_tyOk c k = true := by
  have h : (List.range 12).all (fun c => (List.range (z_cl (c + 1)).2.2).all (fun k => z_tyOk (c + 1) k)) = true := by decide +kernel
  refine z_all12 fun c hc k hk => ?_
  exact List.all_eq_true.mp (List.all_eq_true.mp h c (List.mem_range.mpr hc)) k (List.mem_range.mpr hk)
/-- the fields' words are among the tables' -/
def z_LAY : Prop := ∀ c, 1 ≤ c → c ≤ 12 → ∀ w ∈ u_ws (z_cl c).1 (z_cl c).2.1 (z_cl c).2.2, w ∈ z_tbl
theorem z_fs_get {n0 : Nat} {st : Nat → Value} {h : zH} {a c j : Nat} (ht : z_tg h a = c) (hj : j < (z_cl c).2.2) : (z_fs n0 st h a)[j]? = some (z_ph n0 st (z_fv h a j (z_kd (z_fd c j).2.2.1))) := by
  subst ht
  unfold z_fs
  rw [List.getElem?_map, List.getElem?_range hj]
  rfl
theorem z_E_obj {cA : Nat → ClassId} {n0 : Nat} {st : Nat → Value} {h : zH} {a c : Nat} (ht : z_tg h a = c) (hc : c < 100) : z_E cA n0 st h a = .inr (c - 1, z_fs n0 st h a) := by
  unfold z_E
  rw [if_pos (by omega), ht]
theorem z_E_int {cA : Nat → ClassId} {n0 : Nat} {st : Nat → Value} {h : zH} {a c : Nat} (ht : z_tg h a = c) (h1 : 100 ≤ c) (h2 : c < 102) : z_E cA n0 st h a = .inl (cA (c - 100), z_ln h a, .inl (z_iv h a)) := by
  unfold z_E
  rw [if_neg (by omega), if_pos (by omega), ht]
theorem z_E_ref {cA : Nat → ClassId} {n0 : Nat} {st : Nat → Value} {h : zH} {a c : Nat} (ht : z_tg h a = c) (h1 : 102 ≤ c) : z_E cA n0 st h a = .inl (cA (c - 100), z_ln h a, .inr (.inr (.inr (.inr (fun j => z_rm n0 (z_rv h a j)))))) := by
  unfold z_E
  rw [if_neg (by omega), if_neg (by omega), ht]
theorem z_E_same {cA : Nat → ClassId} {n0 : Nat} {st : Nat → Value} {h h' : zH} {a : Nat} (ht : z_tg h' a = z_tg h a) (hl : z_ln h' a = z_ln h a) (hi : ∀ j, z_iv h' a j = z_iv h a j) (hv : ∀ j, z_lv h' a j = z_lv h a j) (hr : ∀ j, z_rv h' a j = z_rv h a j) : z_E cA n0 st h' a = z_E cA n0 st h a := by
  have e1 : z_iv h' a = z_iv h a := funext hi
  have e2 : z_rv h' a = z_rv h a := funext hr
  have e3 : ∀ j k, z_fv h' a j k = z_fv h a j k := fun j k => by unfold z_fv; rw [hi, hv, hr]
  unfold z_E z_fs
  simp only [ht, hl, e1, e2, e3]
theorem z_ix_clamp (i : Int32) : i.toNatClampNeg = z_ix i := rfl
theorem z_in_vp {i : Int32} {n : Nat} (h : 0 ≤ i.toInt ∧ i.toInt < (n : Int)) : vp_in i n := vp_in_iff.mpr h
section SIMC
variable {p : Program} {l : Launch} {e : Env} {R : Room} {s : State} {m : MethodId} {args : Array Value} {below : List Frame} {meth : Method} {c : Code} {Q : State → Prop}
variable {D : va_G} {cA : Nat → ClassId} {n0 : Nat} {st : Nat → Value} {Ls : Nat} {xs : Nat → Int32} {y c0 u0 : Nat} {pc : Nat} {L : zL} {S : zS} {h : zH}
theorem z_HR.lt {H : Heap} {a : Nat} (hH : z_HR D cA n0 st Ls xs h H) (ht : z_tg h a ≠ 0) : a < z_nx h := by
  rcases Nat.lt_or_ge a (z_nx h) with q | q
  · exact q
  · exact absurd (hH.2.2.1 a q) ht
theorem z_HR.upd {h' : zH} {H H' : Heap} {a : Nat} (hH : z_HR D cA n0 st Ls xs h H) (ha : a < z_nx h) (hn : z_nx h' = z_nx h) (ht : z_tg h' = z_tg h) (hl : z_ln h' = z_ln h) (hx : z_iv h' z_SC = z_iv h z_SC)
    (ho : ∀ j, j ≠ a → z_E cA n0 st h' j = z_E cA n0 st h j) (z : H'.size = H.size) (oq : ∀ q, q ≠ n0 + a → H'[q]? = H[q]?) (he : va_at D vwCl (n0 + a, z_E cA n0 st h' a) H') : z_HR D cA n0 st Ls xs h' H' := by
  obtain ⟨h1, h2, h3, h4, h5, h6⟩ := hH
  refine ⟨by rw [z, hn]; exact h1, ?_, by rw [hn, ht]; exact h3, by rw [hn]; exact h4, by rw [hl]; exact h5, by rw [hx]; exact h6⟩
  rw [← z_W_set hn ho]
  exact h2.set (z_W_D cA n0 st h) (z_W_get ha) he oq
theorem z_SC_ne {H : Heap} {a : Nat} (hH : z_HR D cA n0 st Ls xs h H) (ha : a < z_nx h) : z_SC ≠ a := by
  have := hH.2.2.2.1
  omega
theorem s_getf (C : z_CX p R s m args meth c D cA n0 st Ls xs y) (hY : z_LAY) {a k j i : Nat} (hk1 : 1 ≤ k) (hk2 : k ≤ 12) (hj : j < (z_cl k).2.2) (hf : (z_fd k j).1 = (z_cl k).1) (hw : Jvm.Cond.fieldLink (z_nm y).cls i (z_cl k).1 (z_fd k j).2.1 (z_fd k j).2.2.1 ∈ z_tbl) (ht : z_tg h a = k) (hd : decode (z_by y) pc = .ok (.getfield i, 3))
    (kk : z_SW p l e R s m args below meth c Q D cA n0 st Ls xs y c0 u0 (pc + 3) L (z_fv h a j (z_kd (z_fd k j).2.2.1) :: S) h) : z_SW p l e R s m args below meth c Q D cA n0 st Ls xs y c0 u0 pc L (.ref a :: S) h := by
  intro H locs ls hH hL hS h1 h2
  have ha := hH.lt (a := a) (by omega)
  have hg := z_W_get (cA := cA) (n0 := n0) (st := st) ha
  rw [z_E_obj ht (by omega)] at hg
  refine va_get C.1 C.2.1 C.2.2.2.2.1 (hY k hk1 hk2) C.2.2.2.1 C.2.2.2.2.2.2.1.1 hH.2.1 a hg (z_cls_ok k hk1 hk2) j hj (C.2.2.2.2.1 _ hw) (fun x hx => ?_) (z_fs_get ht hj) hd (kk H locs ls hH hL hS h1 h2)
  have e1 : ((z_cl k).2.1 j).1 = (z_cl k).1 := hf
  rw [e1] at hx
  exact hx
/-- a field is written; of what kind it is says nv -/
theorem s_putf (C : z_CX p R s m args meth c D cA n0 st Ls xs y) (hY : z_LAY) {a k j i : Nat} {v : Value} {h' : zH} (hk1 : 1 ≤ k) (hk2 : k ≤ 12) (hj : j < (z_cl k).2.2) (hf : (z_fd k j).1 = (z_cl k).1) (hw : Jvm.Cond.fieldLink (z_nm y).cls i (z_cl k).1 (z_fd k j).2.1 (z_fd k j).2.2.1 ∈ z_tbl) (ht : z_tg h a = k) (hd : decode (z_by y) pc = .ok (.putfield i, 3))
    (hfin : (z_fd k j).2.2.2 = true → (z_nm y).name = "<init>" ∧ (z_nm y).cls = (z_cl k).1) (hn : narrow (z_tyc k j) (z_ph n0 st v) = z_ph n0 st v) (hfit : fits (z_tyc k j) (z_ph n0 st v) = true)
    (e1 : z_nx h' = z_nx h) (e1' : z_us h' = z_us h) (e2 : z_tg h' = z_tg h) (e3 : z_ln h' = z_ln h) (e4 : ∀ b, b ≠ a → z_iv h' b = z_iv h b) (e5 : ∀ b, b ≠ a → z_E cA n0 st h' b = z_E cA n0 st h b) (e6 : z_fs n0 st h' a = (z_fs n0 st h a).set j (z_ph n0 st v))
    (kk : z_SW p l e R s m args below meth c Q D cA n0 st Ls xs y c0 u0 (pc + 3) L S h') : z_SW p l e R s m args below meth c Q D cA n0 st Ls xs y c0 u0 pc L (v :: .ref a :: S) h := by
  intro H locs ls hH hL hS h1 h2
  have ha := hH.lt (a := a) (by omega)
  have hg := z_W_get (cA := cA) (n0 := n0) (st := st) ha
  rw [z_E_obj ht (by omega)] at hg
  have hK := C.2.2.2.2.2.2.1.1
  have hts := C.2.2.2.2.1
  have hin := hY k hk1 hk2
  have hc := z_cls_ok k hk1 hk2
  have hap := va_apart (own := (z_nm y).cls) hts hin (z_tyc k) (z_ty_ok k hk1 hk2) (z_nm_ok k hk1 hk2) hK hc
  obtain ⟨r, g1, cell, q1, q2, q3, q4⟩ := hH.2.1 a _ hg
  have hr : r = z_cl k := Option.some.inj (g1.symm.trans hc)
  subst hr
  obtain ⟨hSl, hfc, kC, hkC, hkind⟩ := hK.1 (k - 1) _ hc
  obtain ⟨cf, kf, fi, f, hi, hsl⟩ := hSl j hj
  have hlen : j < (z_fs n0 st h a).length := by unfold z_fs; rw [List.length_map, List.length_range, ht]; exact hj
  have hlay := hts _ (hin _ (u_in_lay hj))
  have hst := (u_facts hfc hkC (u_lays hts hin hj) hi).1
  have hi2 : s.fieldFound? (z_cl k).1 (z_fd k j).2.1 (z_fd k j).2.2.1 = some (cf, kf, fi, f) := by
    have hf2 : ((z_cl k).2.1 j).1 = (z_cl k).1 := hf
    rw [hf2] at hi
    exact hi
  have key : ∀ H' : Heap, H'[n0 + a]? = some (cell.setSlot f.slot (z_ph n0 st v)) → H'.size = H.size → (∀ q, q ≠ n0 + a → H'[q]? = H[q]?) → W p l e R s m args below meth c H' (locs ++ [⟨n0 + a, f.slot⟩]) (z_nx h - c0) (z_us h - u0) Q (F0 m (pc + 3) ls (S.map (z_ph n0 st))) := by
    intro H' w1 w2 w3
    have hat : va_at D vwCl (n0 + a, z_E cA n0 st h' a) H' := by
      rw [z_E_obj (c := k) (by rw [e2]; exact ht) (by omega), e6]
      rw [hsl] at w1
      exact ⟨_, hc, t_OB.to (V := updV (vp_V (z_fs n0 st h a)) j (z_ph n0 st v)) ⟨_, w1, q2, q3, t_set q4 hap hj _⟩ (fun q _ => vp_updV_set hlen _ q)⟩
    have := kk H' (locs ++ [⟨n0 + a, f.slot⟩]) ls (hH.upd ha e1 e2 e3 (e4 _ (z_SC_ne hH ha)) e5 w2 w3 hat) hL (hS.put w2 w3 (show n0 ≤ n0 + a by omega)) (by rw [e1]; exact h1) (by rw [e1']; exact h2)
    rw [e1, e1'] at this
    exact this
  unfold u_lay at hlay
  by_cases hF : (z_fd k j).2.2.2 = true
  · rw [if_pos (show ((z_cl k).2.1 j).2.2.2 = true from hF)] at hlay
    obtain ⟨f1, f2⟩ := hfin hF
    have hcf : m.cls = cf := by
      obtain ⟨_, _, c', _, _, _, -, -, hf', -, -, -, hown2, -⟩ := Cond.laysFinal_spec hlay
      have e1 : c' = cf := by have := hi.symm.trans hf'; simp at this; exact this.1.symm
      have hf2 : ((z_cl k).2.1 j).1 = (z_nm y).cls := by rw [f2]; exact hf
      rw [hf2] at hown2
      rw [← e1]; exact Option.some.inj (C.2.2.2.1.symm.trans hown2)
    have h6 := u_fits hfc hkC hkind (Or.inr hlay) hi (z_ty_ok k hk1 hk2 j hj) hn hfit
    exact W.putFinK C.1 C.2.1 C.2.2.2.1 (hts _ hw) hi2 hst hcf (C.2.2.2.2.2.1 f1) (by rw [q2]; exact h6) q1 q3 (by rw [hsl]; exact k2_hasslot (q4 j hj)) rfl rfl hd key
  · rw [if_neg (show ¬ ((z_cl k).2.1 j).2.2.2 = true from hF)] at hlay
    have h6 := u_store hfc hkC hkind hlay hi (z_ty_ok k hk1 hk2 j hj) hn hfit
    exact W.putK C.1 C.2.1 (f := f) ⟨C.2.2.2.1, hts _ hw, ⟨_, _, _, hi2⟩, hst⟩ (by rw [q2]; exact h6) q1 q3 (by rw [hsl]; exact k2_hasslot (q4 j hj)) rfl rfl hd key
end SIMC
