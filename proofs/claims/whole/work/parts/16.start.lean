/-! the start: what the Statement gives is what the small machine's heap stands on -/
def z_INS : Prop := ∀ c, 1 ≤ c → c ≤ 12 → Jvm.Cond.instantiable (z_cl c).1 (z_cl c).2.2 ∈ lw_tbl
def z_ids : List Nat := [51, 111, 113, 115, 117, 119, 121, 123]
def z_tm (b : Nat) : Term := .string RX6 (z_ids.getD b 0)
def z_sln : List Nat := [4, 5, 5, 4, 5, 4, 4, 6]
def z_byt : List (List Int32) := z_st.drop 11
/-- the premises that are used, of the table q -/
def z_pre (q : Nat) : List Jvm.Cond := .arrayOf (.static (z_sd q).1 (z_sd q).2.1 (z_sd q).2.2) .int :: .eq (.length (.static (z_sd q).1 (z_sd q).2.1 (z_sd q).2.2)) (.int (Int32.ofNat (z_st.getD q []).length)) :: (List.range (z_st.getD q []).length).map (fun j => .eq (.elem (.static (z_sd q).1 (z_sd q).2.1 (z_sd q).2.2) (.int (Int32.ofNat j))) (.int ((z_st.getD q []).getD j 0)))
def z_preS (b : Nat) : List Jvm.Cond := .exactly (z_tm b) "java/lang/String" :: .eq (.field (z_tm b) "java/lang/String" "coder" "B") (.int 0) :: .arrayOf (.field (z_tm b) "java/lang/String" "value" "[B") .byte :: .eq (.length (.field (z_tm b) "java/lang/String" "value" "[B")) (.int (Int32.ofNat (z_sln.getD b 0))) ::
  (List.range (z_sln.getD b 0)).map (fun j => .eq (.elem (.field (z_tm b) "java/lang/String" "value" "[B") (.int (Int32.ofNat j))) (.int ((z_byt.getD b []).getD j 0)))
theorem z_pre_in : ((List.range 3).flatMap z_pre ++ (List.range 8).flatMap z_preS).all (fun w => decide (w ∈ flatC (Jvm.Cond.and given_1 narrow_1))) = true := by decide +kernel
theorem z_pre_ne : ((List.range 8).flatMap (fun i => (List.range 8).map (fun j => (i, j)))).all (fun q => decide (q.1 = q.2) || decide (Jvm.Cond.not (Jvm.Cond.eq (z_tm q.1) (z_tm q.2)) ∈ flatC (Jvm.Cond.and given_1 narrow_1)) || decide (Jvm.Cond.not (Jvm.Cond.eq (z_tm q.2) (z_tm q.1)) ∈ flatC (Jvm.Cond.and given_1 narrow_1))) = true := by decide +kernel
theorem z_pre_ot : ([.eq (.static RJ0 "COMPACT_STRINGS" "Z") (.int 1), .isRef (.static RJ3 "SIOOBE_FORMATTER" "Ljava/util/function/BiFunction;")] : List Jvm.Cond).all (fun w => decide (w ∈ flatC (Jvm.Cond.and given_1 narrow_1))) = true := by decide +kernel
/-- words of the tables that are used at the start alone -/
def z_wst : List Jvm.Cond := [.arrayClass .int, .arrayClass .boolean, .arrayOver (.object RX3), .arrayOver (.object RX2), .arrayOver (.object RX4), .arrayOver (.object RX7), .laysStatic RX0 "GROUP" "[I", .laysStatic RX6 "LEAST" "[I", .laysStatic RX6 "MOST" "[I", .laysStatic RJ0 "COMPACT_STRINGS" "Z", .laysStatic RJ3 "SIOOBE_FORMATTER" "Ljava/util/function/BiFunction;", .initialized RX0, .initialized RX6, .initialized RJ0, .initialized RJ3]
theorem z_wst_in : z_wst.all (fun w => decide (w ∈ lw_tbl)) = true := by decide +kernel
theorem z_str_ids : (lw_tbl.all (fun w => match w with
  | .stringRef a i t => !decide (a = RX6) || (List.range 8).all (fun b => !decide (t = z_tx b) || decide (i = z_ids.getD b 0))
  | _ => true)) = true := by decide +kernel
theorem z_start {s : State} {b L : Nat} {xs : Nat → Int32} (hY : z_LAY) (hI : z_INS) (hts : ∀ w ∈ lw_tbl, w.before #[Value.ref b] s = true) (hX : va_X b L xs s s.heap) (hb : b < s.heap.size) (hL : L ≤ 3584) (hgv : (Jvm.Cond.and given_1 narrow_1).before #[Value.ref b] s = true) :
    ∃ (D : va_G) (cA : Nat → ClassId) (st : Nat → Value), z_VM D cA st s ∧ z_ST s.heap.size st L xs s s.heap ∧ st 19 = .ref b := by
  have hA : ∀ a : Nat, a < s.heap.size → ¬ z_A s.heap.size a := fun a h q => Nat.not_le.mpr h q
  have hfl := flat_of_before _ hgv
  have hw : ∀ w ∈ z_wst, w.before #[Value.ref b] s = true := fun w h => hts w (of_decide_eq_true (List.all_eq_true.mp z_wst_in w h))
  have hpr : ∀ w, w ∈ (List.range 3).flatMap z_pre ++ (List.range 8).flatMap z_preS → w.before #[Value.ref b] s = true := fun w h => hfl w (of_decide_eq_true (List.all_eq_true.mp z_pre_in w h))
  -- the classes
  have hcl : ∀ k : Nat, ∃ x : ClassId × (Nat → Nat), ∀ q, vwCl[k]? = some q → u_Kn s q.1 q.2.1 q.2.2 x.1 x.2 := by
    intro k
    by_cases hk : k < 12
    · obtain ⟨c, i, hc⟩ := u_known (C := (z_cl (k + 1)).1) (T := (z_cl (k + 1)).2.1) (N := (z_cl (k + 1)).2.2) (fun w hw => hts w (List.mem_filter.mp (show w ∈ z_tbl from hw)).1) (hY (k + 1) (by omega) (by omega)) (hts _ (hI (k + 1) (by omega) (by omega)))
      refine ⟨(c, i), fun q hq => ?_⟩
      have := z_cls_ok (k + 1) (by omega) (by omega)
      rw [Nat.add_sub_cancel] at this
      cases hq.symm.trans this
      exact hc
    · refine ⟨(0, fun _ => 0), fun q hq => ?_⟩
      have := (List.getElem?_eq_some_iff.mp hq).1
      simp at this
      omega
  obtain ⟨d, hd⟩ := Classical.axiomOfChoice hcl
  obtain ⟨a0, k0, p0, f0, g0, e0⟩ := Cond.arrayClass_spec (hw (.arrayClass .int) (by simp [z_wst]))
  obtain ⟨a1, k1, p1, f1, g1, e1⟩ := Cond.arrayClass_spec (hw (.arrayClass .boolean) (by simp [z_wst]))
  obtain ⟨p2, a2, k2, x2, -, g2, e2, f2⟩ := Cond.arrayOver_spec (hw (.arrayOver (.object RX3)) (by simp [z_wst]))
  obtain ⟨p3, a3, k3, x3, -, g3, e3, f3⟩ := Cond.arrayOver_spec (hw (.arrayOver (.object RX2)) (by simp [z_wst]))
  obtain ⟨p4, a4, k4, x4, -, g4, e4, f4⟩ := Cond.arrayOver_spec (hw (.arrayOver (.object RX4)) (by simp [z_wst]))
  obtain ⟨p5, a5, k5, x5, -, g5, e5, f5⟩ := Cond.arrayOver_spec (hw (.arrayOver (.object RX7)) (by simp [z_wst]))
  -- the static tables
  have hT : ∀ q : Nat, ∃ t : Nat, q < 3 → (Term.static (z_sd q).1 (z_sd q).2.1 (z_sd q).2.2).eval #[Value.ref b] s none [] s = some (.ref t) ∧ va_T .int t (z_st.getD q []).length (fun j => .int ((z_st.getD q []).getD j 0)) (z_A s.heap.size) s s.heap := by
    intro q
    by_cases hq : q < 3
    · have hm : ∀ w ∈ z_pre q, w.before #[Value.ref b] s = true := fun w h => hpr w (List.mem_append_left _ (List.mem_flatMap.mpr ⟨q, List.mem_range.mpr hq, h⟩))
      obtain ⟨t, h1, h2⟩ := va_Tof (N := (z_st.getD q []).length) (f := fun j => .int ((z_st.getD q []).getD j 0)) (A := z_A s.heap.size) (by rcases (show q = 0 ∨ q = 1 ∨ q = 2 by omega) with rfl | rfl | rfl <;> decide) (hm _ List.mem_cons_self) (va_eqt (hm _ (List.mem_cons_of_mem _ List.mem_cons_self)))
        (fun j hj => va_eqt (hm _ (List.mem_cons_of_mem _ (List.mem_cons_of_mem _ (List.mem_map.mpr ⟨j, List.mem_range.mpr hj, rfl⟩))))) hA
      exact ⟨t, fun _ => ⟨h1, h2⟩⟩
    · exact ⟨0, fun h => absurd h hq⟩
  obtain ⟨tt, htt⟩ := Classical.axiomOfChoice hT
  -- the texts
  have hms : ∀ i : Nat, i < 8 → ∀ w ∈ z_preS i, w.before #[Value.ref b] s = true := fun i hi w h => hpr w (List.mem_append_right _ (List.mem_flatMap.mpr ⟨i, List.mem_range.mpr hi, h⟩))
  obtain ⟨adK, adV, hSt, hEv⟩ := vk_Sof (args := #[Value.ref b]) (s := s) (N := 8) (tm := z_tm) (len := z_sln) (byt := z_byt) (A := z_A s.heap.size)
    (fun i hi => by rcases (show i = 0 ∨ i = 1 ∨ i = 2 ∨ i = 3 ∨ i = 4 ∨ i = 5 ∨ i = 6 ∨ i = 7 by omega) with rfl | rfl | rfl | rfl | rfl | rfl | rfl | rfl <;> decide)
    (fun i hi => hms i hi _ List.mem_cons_self) (fun i hi => hms i hi _ (List.mem_cons_of_mem _ List.mem_cons_self)) (fun i hi => hms i hi _ (List.mem_cons_of_mem _ (List.mem_cons_of_mem _ List.mem_cons_self))) (fun i hi => hms i hi _ (List.mem_cons_of_mem _ (List.mem_cons_of_mem _ (List.mem_cons_of_mem _ List.mem_cons_self))))
    (fun i hi j hj => hms i hi _ (List.mem_cons_of_mem _ (List.mem_cons_of_mem _ (List.mem_cons_of_mem _ (List.mem_cons_of_mem _ (List.mem_map.mpr ⟨j, List.mem_range.mpr hj, rfl⟩))))))
    (fun i j hi hj hne => by
      have := List.all_eq_true.mp z_pre_ne (i, j) (List.mem_flatMap.mpr ⟨i, List.mem_range.mpr hi, List.mem_map.mpr ⟨j, List.mem_range.mpr hj, rfl⟩⟩)
      simp only [Bool.or_eq_true, decide_eq_true_eq] at this
      rcases this with (q | q) | q
      · exact absurd q hne
      · exact Or.inl (hfl _ q)
      · exact Or.inr (hfl _ q)) hA
  have hot : ∀ w ∈ ([.eq (.static RJ0 "COMPACT_STRINGS" "Z") (.int 1), .isRef (.static RJ3 "SIOOBE_FORMATTER" "Ljava/util/function/BiFunction;")] : List Jvm.Cond), w.before #[Value.ref b] s = true := fun w h => hfl w (of_decide_eq_true (List.all_eq_true.mp z_pre_ot w h))
  have hCS := va_Zof (A := z_A s.heap.size) (hw (.laysStatic RJ0 "COMPACT_STRINGS" "Z") (by simp [z_wst])) (hw (.initialized RJ0) (by simp [z_wst])) (va_eqi (hot _ List.mem_cons_self)) hA
  obtain ⟨v100, hv100, hz100⟩ : ∃ v : Value, ((∃ t, v = .ref t) ∨ v = .null) ∧ va_Z RJ3 "SIOOBE_FORMATTER" "Ljava/util/function/BiFunction;" v (z_A s.heap.size) s s.heap := by
    rcases va_Zqof (A := z_A s.heap.size) (hw (.laysStatic RJ3 "SIOOBE_FORMATTER" "Ljava/util/function/BiFunction;") (by simp [z_wst])) (hw (.initialized RJ3) (by simp [z_wst])) (hot _ (List.mem_cons_of_mem _ List.mem_cons_self)) hA with h | ⟨t, h⟩
    · exact ⟨.null, Or.inr rfl, h⟩
    · exact ⟨.ref t, Or.inl ⟨t, rfl⟩, h⟩
  let st : Nat → Value := fun q => if q < 3 then .ref (tt q) else if q < 11 then .ref (adK (q - 3)) else if q < 19 then .ref (adV (q - 11)) else if q = 19 then .ref b else v100
  let cA : Nat → ClassId := fun i => if i = 0 then a0 else if i = 1 then a1 else if i = 2 then a2 else if i = 3 then a3 else if i = 4 then a4 else a5
  refine ⟨(fun k => (d k).1, fun k => (d k).2), cA, st, ⟨⟨fun k q hq => hd k q hq, fun k q hq => ?_⟩, fun a i x o hm => va_Nw.of rfl (hts _ (List.mem_filter.mp hm).1), fun t h1 h2 => ?_, fun i q hq hm => ?_⟩, ⟨fun q hq => ?_, ?_, hCS, fun q hq => ?_, fun q h1 h2 => ?_, fun q h1 h2 => ?_, fun q => ?_⟩, rfl⟩
  · match k, hq with
    | 0, hq => cases hq; exact ⟨fun n z => ⟨fun k h => (by cases h), k0, g0, p0, e0⟩, f0⟩
    | 1, hq => cases hq; exact ⟨fun n z => ⟨fun k h => (by cases h), k1, g1, p1, e1⟩, f1⟩
    | 2, hq => cases hq; exact ⟨fun n z => ⟨fun k h => (by cases h), k2, g2, p2, e2⟩, k2, p2, g2, e2, x2, f2⟩
    | 3, hq => cases hq; exact ⟨fun n z => ⟨fun k h => (by cases h), k3, g3, p3, e3⟩, k3, p3, g3, e3, x3, f3⟩
    | 4, hq => cases hq; exact ⟨fun n z => ⟨fun k h => (by cases h), k4, g4, p4, e4⟩, k4, p4, g4, e4, x4, f4⟩
    | 5, hq => cases hq; exact ⟨fun n z => ⟨fun k h => (by cases h), k5, g5, p5, e5⟩, k5, p5, g5, e5, x5, f5⟩
    | k + 6, hq => simp [z_ty] at hq
  · rcases (show t = 102 ∨ t = 103 ∨ t = 104 ∨ t = 105 by omega) with rfl | rfl | rfl | rfl
    · exact va_AO.of (hw (.arrayOver (.object RX3)) (by simp [z_wst]))
    · exact va_AO.of (hw (.arrayOver (.object RX2)) (by simp [z_wst]))
    · exact va_AO.of (hw (.arrayOver (.object RX4)) (by simp [z_wst]))
    · exact va_AO.of (hw (.arrayOver (.object RX7)) (by simp [z_wst]))
  · have h1 := List.all_eq_true.mp z_str_ids _ hm
    have h2 : i = z_ids.getD q 0 := by
      simp only [decide_true, Bool.not_true, Bool.false_or] at h1
      have h3 := List.all_eq_true.mp h1 q (List.mem_range.mpr hq)
      simpa using h3
    refine ⟨adK q, ?_, vk_R.of (A := #[Value.ref b]) (hts _ hm) ?_⟩
    · show (if 3 + q < 3 then _ else if 3 + q < 11 then Value.ref (adK (3 + q - 3)) else _) = _
      rw [if_neg (by omega), if_pos (by omega), show 3 + q - 3 = q by omega]
    · rw [h2]
      exact hEv q hq
  · show va_Z _ _ _ (if q < 3 then _ else _) _ _ _
    rw [if_pos hq]
    rcases (show q = 0 ∨ q = 1 ∨ q = 2 by omega) with rfl | rfl | rfl
    · exact va_Zof (hw (.laysStatic RX0 "GROUP" "[I") (by simp [z_wst])) (hw (.initialized RX0) (by simp [z_wst])) (htt 0 (by omega)).1 hA
    · exact va_Zof (hw (.laysStatic RX6 "LEAST" "[I") (by simp [z_wst])) (hw (.initialized RX6) (by simp [z_wst])) (htt 1 (by omega)).1 hA
    · exact va_Zof (hw (.laysStatic RX6 "MOST" "[I") (by simp [z_wst])) (hw (.initialized RX6) (by simp [z_wst])) (htt 2 (by omega)).1 hA
  · exact hz100
  · rcases hq with hq | rfl
    · refine ⟨tt q, if_pos hq, ?_⟩
      have hne : Nat.beq q 19 = false := by rcases (show q = 0 ∨ q = 1 ∨ q = 2 by omega) with rfl | rfl | rfl <;> rfl
      have e1 : z_sl0 L q = (z_st.getD q []).length := by unfold z_sl0; rw [hne]; rfl
      have e2 : (fun j => Value.int (z_sv0 xs q j)) = fun j => .int ((z_st.getD q []).getD j 0) := funext fun j => by unfold z_sv0; rw [hne]; rfl
      rw [e1, e2]
      exact (htt q hq).2
    · refine ⟨b, rfl, ?_⟩
      obtain ⟨scr, h1, h2, h3, h4, h5⟩ := hX
      refine ⟨scr, h1, h2, h3, by rw [h4]; exact Nat.le_refl _, by rw [h4]; rfl, h5, hA b hb⟩
  · have h8 : q - 11 < 8 := by omega
    refine ⟨adV (q - 11), ?_, ?_⟩
    · show (if q < 3 then _ else if q < 11 then _ else if q < 19 then Value.ref (adV (q - 11)) else _) = _
      rw [if_neg (by omega), if_neg (by omega), if_pos h2]
    · have := (hSt.1 (q - 11) h8).2.2.2
      have e1 : z_sl0 L q = z_sln.getD (q - 11) 0 := by
        rcases (show q = 11 ∨ q = 12 ∨ q = 13 ∨ q = 14 ∨ q = 15 ∨ q = 16 ∨ q = 17 ∨ q = 18 by omega) with rfl | rfl | rfl | rfl | rfl | rfl | rfl | rfl <;> rfl
      have e2 : (fun j => Value.int (z_sv0 xs q j)) = fun j => .int ((z_byt.getD (q - 11) []).getD j 0) := by
        rcases (show q = 11 ∨ q = 12 ∨ q = 13 ∨ q = 14 ∨ q = 15 ∨ q = 16 ∨ q = 17 ∨ q = 18 by omega) with rfl | rfl | rfl | rfl | rfl | rfl | rfl | rfl <;> rfl
      rw [e1, e2]
      exact this
  · have h8 : q - 3 < 8 := by omega
    obtain ⟨w1, w2, w3, -⟩ := hSt.1 (q - 3) h8
    refine ⟨adK (q - 3), ?_, w1, w2, ?_⟩
    · show (if q < 3 then _ else if q < 11 then Value.ref (adK (q - 3)) else _) = _
      rw [if_neg (by omega), if_pos h2]
    · show va_OF _ _ _ (if q + 8 < 3 then _ else if q + 8 < 11 then _ else if q + 8 < 19 then Value.ref (adV (q + 8 - 11)) else _) _ _ _ _
      rw [if_neg (by omega), if_neg (by omega), if_pos (by omega), show q + 8 - 11 = q - 3 by omega]
      exact w3
  · show (∃ t, (if q < 3 then Value.ref (tt q) else if q < 11 then .ref (adK (q - 3)) else if q < 19 then .ref (adV (q - 11)) else if q = 19 then .ref b else v100) = .ref t) ∨ (if q < 3 then Value.ref (tt q) else if q < 11 then .ref (adK (q - 3)) else if q < 19 then .ref (adV (q - 11)) else if q = 19 then .ref b else v100) = .null
    split
    · exact Or.inl ⟨_, rfl⟩
    · split
      · exact Or.inl ⟨_, rfl⟩
      · split
        · exact Or.inl ⟨_, rfl⟩
        · split
          · exact Or.inl ⟨_, rfl⟩
          · exact hv100
