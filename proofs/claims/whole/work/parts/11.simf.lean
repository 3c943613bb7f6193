/-! copies, constants, statics, texts, switches; then every instruction that is no call and no return -/
section SIMF
variable {p : Program} {l : Launch} {e : Env} {R : Room} {s : State} {m : MethodId} {args : Array Value} {below : List Frame} {meth : Method} {c : Code} {Q : State → Prop}
variable {D : va_G} {cA : Nat → ClassId} {n0 : Nat} {st : Nat → Value} {Ls : Nat} {xs : Nat → Int32} {y c0 u0 : Nat} {pc : Nat} {L : zL} {S : zS} {h : zH}
theorem W_size {H : Heap} {locs : List Loc} {cells slots : Nat} {g : JFrame} (k : H.size ≤ s.heap.size + cells → W p l e R s m args below meth c H locs cells slots Q g) : W p l e R s m args below meth c H locs cells slots Q g := by
  intro T hT X
  have := X.same.2.2.1
  exact k (by rw [← hT]; exact this) T hT X
theorem s_cpy (C : z_CX p R s m args meth c D cA n0 st Ls xs y) (hs0 : s.heap.size = n0 + c0) {a b i : Nat} {sp dp n : Int32} (hta : z_tg h a = 100) (htb : z_tg h b = 100) (hab : ¬ a = b) (h1 : 0 ≤ sp.toInt) (h2 : 0 ≤ dp.toInt) (h3 : 0 ≤ n.toInt) (h4 : sp.toInt + n.toInt ≤ (z_ln h a : Int)) (h5 : dp.toInt + n.toInt ≤ (z_ln h b : Int))
    (hw1 : Jvm.Cond.methodLink (z_nm y).cls i arraycopyName ∈ z_tbl) (hw2 : Jvm.Cond.native arraycopyName ∈ z_tbl) (hw3 : Jvm.Cond.static arraycopyName ∈ z_tbl) (hw4 : Jvm.Cond.initialized "java/lang/System" ∈ z_tbl) (hf : 1 ≤ z_fr y) (hlo : 30 ≤ z_lo y) (hd : decode (z_by y) pc = .ok (.invokestatic i, 3))
    (kk : z_SW p l e R s m args below meth c Q D cA n0 st Ls xs y c0 u0 (pc + 3) L [] (z_sW h b (va_cpy (z_iv h a) (z_iv h b) (z_ix sp) (z_ix dp) (z_ix n)))) : z_SW p l e R s m args below meth c Q D cA n0 st Ls xs y c0 u0 pc L [.int n, .int dp, .ref b, .int sp, .ref a] h := by
  intro H locs ls hH hL hS g1 g2
  have ha := hH.lt (a := a) (by omega)
  have hb := hH.lt (a := b) (by omega)
  have hga := z_W_get (cA := cA) (n0 := n0) (st := st) ha
  have hgb := z_W_get (cA := cA) (n0 := n0) (st := st) hb
  rw [z_E_int hta (by omega) (by omega)] at hga
  rw [z_E_int htb (by omega) (by omega)] at hgb
  have hts := C.2.2.2.2.1
  have nn : ∀ z : Int32, 0 ≤ z.toInt → ¬ z < 0 := fun z hz q => by
    have := Int32.lt_iff_toInt_lt.mp q
    have h0 : (0 : Int32).toInt = 0 := rfl
    omega
  refine va_copyi (rest := []) C.1 C.2.1 (by rw [hL.2.1]; exact C.2.2.1) C.2.2.2.1 (hts _ hw1) (hts _ hw2) (hts _ hw3) (hts _ hw4) C.2.2.2.2.2.2.1.1 hH.2.1 (z_W_D cA n0 st h) hS a b 0 0 hga hgb rfl rfl rfl (nn sp h1) (nn dp h2) (nn n h3) (by show z_ix sp + z_ix n ≤ _; unfold z_ix; omega) (by show z_ix dp + z_ix n ≤ _; unfold z_ix; omega) (fun _ _ => rfl)
    (by have := C.2.2.2.2.2.2.2.2.2.1; omega) (by have := C.2.2.2.2.2.2.2.2.2.2; show 0 + (7 + 11) ≤ _; omega) hd fun H1 locs1 hP1 hD1 hS1 => ?_
  have e0 : z_E cA n0 st (z_sW h b (va_cpy (z_iv h a) (z_iv h b) (z_ix sp) (z_ix dp) (z_ix n))) b = .inl (cA (100 - 100), z_ln h b, .inl (va_cpy (z_iv h a) (z_iv h b) (z_ix sp) (z_ix dp) (z_ix n))) := by
    rw [z_E_int (h := z_sW h b _) (c := 100) htb (by omega) (by omega)]
    have : z_iv (z_sW h b (va_cpy (z_iv h a) (z_iv h b) (z_ix sp) (z_ix dp) (z_ix n))) b = va_cpy (z_iv h a) (z_iv h b) (z_ix sp) (z_ix dp) (z_ix n) := z_row_at
    rw [this]
    rfl
  have eW := z_W_set (cA := cA) (n0 := n0) (st := st) (h := h) (h' := z_sW h b (va_cpy (z_iv h a) (z_iv h b) (z_ix sp) (z_ix dp) (z_ix n))) (k := b) rfl (fun j hj => z_E_same rfl rfl (fun q => by show z_row (z_iv h) b _ j q = _; rw [z_row_ne hj]) (fun _ => rfl) (fun _ => rfl))
  rw [e0] at eW
  have hP2 : va_P D vwCl (z_W cA n0 st (z_sW h b (va_cpy (z_iv h a) (z_iv h b) (z_ix sp) (z_ix dp) (z_ix n)))) H1 := by
    rw [← eW]
    exact hP1
  refine W_size fun hsz => ?_
  have hlow : n0 + z_nx h ≤ H1.size := by
    have hlast := (hP2 (z_nx h - 1) _ (z_W_get (show z_nx h - 1 < z_nx h by omega))).lt
    have : n0 + (z_nx h - 1) < H1.size := hlast
    omega
  refine kk H1 locs1 ls ⟨by show H1.size = n0 + z_nx h; omega, hP2, hH.2.2.1, hH.2.2.2.1, hH.2.2.2.2.1, ?_⟩ hL hS1 g1 g2
  show z_row (z_iv h) b _ z_SC = xs
  rw [z_row_ne (z_SC_ne hH hb)]
  exact hH.2.2.2.2.2
theorem s_ldcI (C : z_CX p R s m args meth c D cA n0 st Ls xs y) {i : Nat} {v : Int32} (hw : Jvm.Cond.constant (z_nm y).cls i v ∈ z_tbl) (hd : decode (z_by y) pc = .ok (.ldc i, 2))
    (kk : z_SW p l e R s m args below meth c Q D cA n0 st Ls xs y c0 u0 (pc + 2) L (.int v :: S) h) : z_SW p l e R s m args below meth c Q D cA n0 st Ls xs y c0 u0 pc L S h :=
  fun H locs ls hH hL hS h1 h2 => W.ldc C.1 C.2.1 C.2.2.2.1 (C.2.2.2.2.1 _ hw) rfl hd (kk H locs ls hH hL hS h1 h2)
theorem s_ldcw (C : z_CX p R s m args meth c D cA n0 st Ls xs y) {i : Nat} {v : Int32} (hw : Jvm.Cond.constant (z_nm y).cls i v ∈ z_tbl) (hd : decode (z_by y) pc = .ok (.ldc_w i, 3))
    (kk : z_SW p l e R s m args below meth c Q D cA n0 st Ls xs y c0 u0 (pc + 3) L (.int v :: S) h) : z_SW p l e R s m args below meth c Q D cA n0 st Ls xs y c0 u0 pc L S h := by
  intro H locs ls hH hL hS h1 h2 T hT X
  obtain ⟨t, a1, b1⟩ := kk H locs ls hH hL hS h1 h2 T hT X
  exact ⟨t, va_ldcwI X C.1 C.2.2.2.1 (C.2.2.2.2.1 _ hw) (g := F0 m pc ls (S.map (z_ph n0 st))) rfl (by rw [C.2.1]; exact hd) t a1, b1⟩
theorem s_ldc2 (C : z_CX p R s m args meth c D cA n0 st Ls xs y) {i : Nat} {v : Int64} (hw : Jvm.Cond.constantLong (z_nm y).cls i v ∈ z_tbl) (hd : decode (z_by y) pc = .ok (.ldc2_w i, 3))
    (kk : z_SW p l e R s m args below meth c Q D cA n0 st Ls xs y c0 u0 (pc + 3) L (.long v :: S) h) : z_SW p l e R s m args below meth c Q D cA n0 st Ls xs y c0 u0 pc L S h :=
  fun H locs ls hH hL hS h1 h2 => W.ldc2 C.1 C.2.1 C.2.2.2.1 (C.2.2.2.2.1 _ hw) rfl hd (kk H locs ls hH hL hS h1 h2)
theorem s_ldcS (C : z_CX p R s m args meth c D cA n0 st Ls xs y) {i b : Nat} (hb : b < 8) (ho : (z_nm y).cls = RX6) (hw : Jvm.Cond.stringRef RX6 i (z_tx b) ∈ lw_tbl) (hd : decode (z_by y) pc = .ok (.ldc i, 2))
    (kk : z_SW p l e R s m args below meth c Q D cA n0 st Ls xs y c0 u0 (pc + 2) L (.retAddr (3 + b) :: S) h) : z_SW p l e R s m args below meth c Q D cA n0 st Ls xs y c0 u0 pc L S h := by
  intro H locs ls hH hL hS h1 h2
  obtain ⟨a, e1, hR⟩ := C.2.2.2.2.2.2.1.2.2.2 i b hb hw
  have k1 := kk H locs ls hH hL hS h1 h2
  simp only [List.map_cons, z_ph, e1] at k1
  have hown := C.2.2.2.1
  rw [ho] at hown
  exact va_ldcS C.1 C.2.1 hown hR hd k1
theorem s_gets (C : z_CX p R s m args meth c D cA n0 st Ls xs y) {i b : Nat} (hb : b < 3 ∨ b = 100) (hw : Jvm.Cond.fieldLink (z_nm y).cls i (z_sd b).1 (z_sd b).2.1 (z_sd b).2.2 ∈ z_tbl) (hd : decode (z_by y) pc = .ok (.getstatic i, 3))
    (kk : z_SW p l e R s m args below meth c Q D cA n0 st Ls xs y c0 u0 (pc + 3) L (.retAddr b :: S) h) : z_SW p l e R s m args below meth c Q D cA n0 st Ls xs y c0 u0 pc L S h := by
  intro H locs ls hH hL hS h1 h2
  have hZ : va_Z (z_sd b).1 (z_sd b).2.1 (z_sd b).2.2 (st b) (z_A n0) s s.heap := by
    rcases hb with hb | rfl
    · exact C.2.2.2.2.2.2.2.1.1 b hb
    · exact C.2.2.2.2.2.2.2.1.2.1
  exact va_gets C.1 C.2.1 hZ hS C.2.2.2.1 (C.2.2.2.2.1 _ hw) (fun _ h => h) hd (kk H locs ls hH hL hS h1 h2)
theorem s_getsC (C : z_CX p R s m args meth c D cA n0 st Ls xs y) {i : Nat} (hw : Jvm.Cond.fieldLink (z_nm y).cls i RJ0 "COMPACT_STRINGS" "Z" ∈ z_tbl) (hd : decode (z_by y) pc = .ok (.getstatic i, 3))
    (kk : z_SW p l e R s m args below meth c Q D cA n0 st Ls xs y c0 u0 (pc + 3) L (.int 1 :: S) h) : z_SW p l e R s m args below meth c Q D cA n0 st Ls xs y c0 u0 pc L S h :=
  fun H locs ls hH hL hS h1 h2 => va_gets C.1 C.2.1 C.2.2.2.2.2.2.2.1.2.2.1 hS C.2.2.2.1 (C.2.2.2.2.1 _ hw) (fun _ h => h) hd (kk H locs ls hH hL hS h1 h2)
theorem s_getT (C : z_CX p R s m args meth c D cA n0 st Ls xs y) {i j q : Nat} (hq1 : 3 ≤ q) (hq2 : q < 11) (hw : Jvm.Cond.fieldLink (z_nm y).cls i RJ0 (bif Nat.beq j 0 then "value" else "coder") (bif Nat.beq j 0 then "[B" else "B") ∈ z_tbl) (hd : decode (z_by y) pc = .ok (.getfield i, 3))
    (kk : z_SW p l e R s m args below meth c Q D cA n0 st Ls xs y c0 u0 (pc + 3) L ((if j = 0 then .retAddr (q + 8) else .int 0) :: S) h) : z_SW p l e R s m args below meth c Q D cA n0 st Ls xs y c0 u0 pc L (.retAddr q :: S) h := by
  intro H locs ls hH hL hS h1 h2
  obtain ⟨a, e1, -, e3, e4⟩ := C.2.2.2.2.2.2.2.1.2.2.2.2.2.1 q hq1 hq2
  have k1 := kk H locs ls hH hL hS h1 h2
  by_cases hj : j = 0
  · subst hj
    simp only [if_true, List.map_cons, z_ph, e1] at k1 ⊢
    exact vk_getf C.1 C.2.1 e4 hS C.2.2.2.1 (C.2.2.2.2.1 _ hw) (fun _ h => h) hd k1
  · have hjb : Nat.beq j 0 = false := by cases j with
      | zero => exact absurd rfl hj
      | succ k => rfl
    rw [hjb] at hw
    simp only [if_neg hj, List.map_cons, z_ph, e1] at k1 ⊢
    exact vk_getf C.1 C.2.1 e3 hS C.2.2.2.1 (C.2.2.2.2.1 _ hw) (fun _ h => h) hd k1
theorem s_obj (C : z_CX p R s m args meth c D cA n0 st Ls xs y) {a i : Nat} (hw1 : Jvm.Cond.methodLink (z_nm y).cls i objectInit ∈ z_tbl) (hw2 : Jvm.Cond.instanceMethod objectInit ∈ z_tbl) (hw3 : Jvm.Cond.code objectInit ⟨#[0xb1]⟩ 1 none ∈ z_tbl) (hf : 1 ≤ z_fr y) (hlo : 20 ≤ z_lo y) (hd : decode (z_by y) pc = .ok (.invokespecial i, 3))
    (kk : z_SW p l e R s m args below meth c Q D cA n0 st Ls xs y c0 u0 (pc + 3) L [] h) : z_SW p l e R s m args below meth c Q D cA n0 st Ls xs y c0 u0 pc L [.ref a] h :=
  fun H locs ls hH hL hS h1 h2 => W.objInit C.1 C.2.1 C.2.2.2.1 (C.2.2.2.2.1 _ hw1) (C.2.2.2.2.1 _ hw2) (C.2.2.2.2.1 _ hw3) rfl (hL.2.1.trans C.2.2.1.symm) (rest := []) rfl hd (by have := C.2.2.2.2.2.2.2.2.2.1; omega) (by have := C.2.2.2.2.2.2.2.2.2.2; show 2 * 0 + 0 + 12 ≤ _; omega) (kk H locs ls hH hL hS h1 h2)
theorem z_swI_out (x : Int32) : ∀ (os : List Int) (lo d : Int), 0 ≤ lo → lo + os.length < 1000001 → (x.toInt < lo ∨ lo + os.length ≤ x.toInt) → z_swI x lo os d = d := by
  intro os
  induction os with
  | nil => intro lo d _ _ _; rfl
  | cons o os ih =>
    intro lo d h0 hb hx
    rw [List.length_cons] at hb hx
    have hne : ¬ x = Int32.ofInt lo := fun e => by
      have : x.toInt = lo := by rw [e, Int32.toInt_ofInt_of_le (by omega) (by omega)]
      omega
    rw [z_swI, if_neg hne]
    exact ih (lo + 1) d (by omega) (by omega) (by omega)
theorem z_swI_in (x : Int32) : ∀ (os : List Int) (lo d : Int), 0 ≤ lo → lo + os.length < 1000001 → lo ≤ x.toInt → x.toInt < lo + os.length → os[(x.toInt - lo).toNat]? = some (z_swI x lo os d) := by
  intro os
  induction os with
  | nil => intro lo d _ _ h1 h2; rw [List.length_nil] at h2; omega
  | cons o os ih =>
    intro lo d h0 hb h1 h2
    rw [List.length_cons] at hb h2
    by_cases he : x = Int32.ofInt lo
    · have : x.toInt = lo := by rw [he, Int32.toInt_ofInt_of_le (by omega) (by omega)]
      rw [z_swI, if_pos he, this, Int.sub_self]
      rfl
    · have hne : x.toInt ≠ lo := fun q => he (by rw [← q, Int32.ofInt_toInt])
      rw [z_swI, if_neg he, show (x.toInt - lo).toNat = (x.toInt - (lo + 1)).toNat + 1 by omega, List.getElem?_cons_succ]
      exact ih (lo + 1) d (by omega) (by omega) (by omega) (by omega)
theorem s_switch (C : z_CX p R s m args meth c D cA n0 st Ls xs y) {d lo hi : Int} {offs : Array Int} {len : Nat} {x : Int32} (hd : decode (z_by y) pc = .ok (.tableswitch d lo hi offs, len)) (h0 : 0 ≤ (pc : Int) + d) (h1 : 0 ≤ lo) (h2 : hi = lo + offs.size - 1) (h3 : hi < 1000000) (h4 : ∀ o ∈ offs.toList, 0 ≤ (pc : Int) + o)
    (kk : z_SW p l e R s m args below meth c Q D cA n0 st Ls xs y c0 u0 (z_tgt pc (z_swI x lo offs.toList d)) L S h) : z_SW p l e R s m args below meth c Q D cA n0 st Ls xs y c0 u0 pc L (.int x :: S) h := by
  intro H locs ls hH hL hS g1 g2
  have k1 := kk H locs ls hH hL hS g1 g2
  have hlen : offs.toList.length = offs.size := Array.length_toList
  by_cases hx : x.toInt < lo ∨ hi < x.toInt
  · rw [z_swI_out x _ lo d h1 (by omega) (by omega)] at k1
    exact lv_tableOut C.1 C.2.1 hd hx (by unfold z_tgt; omega) k1
  · have hin := z_swI_in x offs.toList lo d h1 (by omega) (by omega) (by omega)
    have hmem := List.mem_of_getElem? hin
    have hp := h4 _ hmem
    rw [Array.getElem?_toList] at hin
    exact lv_tableIn C.1 C.2.1 hd (by omega) (by omega) hin (by unfold z_tgt; omega) k1
end SIMF
