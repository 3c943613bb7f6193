/-! the small machine's state, and the JVM's that stands for it -/
def z_ph (n0 : Nat) (st : Nat → Value) : Value → Value
  | .ref a => .ref (n0 + a)
  | .retAddr q => st q
  | v => v
def z_rm (n0 : Nat) (r : Option Nat) : Option Nat := r.map (fun a => n0 + a)
theorem z_ph_rf (n0 : Nat) (st : Nat → Value) (r : Option Nat) : z_ph n0 st (va_rf r) = va_rf (z_rm n0 r) := by cases r <;> rfl
/-- the fields of the object k -/
def z_fs (n0 : Nat) (st : Nat → Value) (h : zH) (k : Nat) : List Value := (List.range (z_cl (z_tg h k)).2.2).map (fun j => z_ph n0 st (z_fv h k j (z_kd (z_fd (z_tg h k) j).2.2.1)))
def z_E (cA : Nat → ClassId) (n0 : Nat) (st : Nat → Value) (h : zH) (k : Nat) : va_E :=
  if z_tg h k < 100 then .inr (z_tg h k - 1, z_fs n0 st h k)
  else if z_tg h k < 102 then .inl (cA (z_tg h k - 100), z_ln h k, .inl (z_iv h k))
  else .inl (cA (z_tg h k - 100), z_ln h k, .inr (.inr (.inr (.inr (fun j => z_rm n0 (z_rv h k j))))))
def z_W (cA : Nat → ClassId) (n0 : Nat) (st : Nat → Value) (h : zH) : va_W := (List.range (z_nx h)).map (fun k => (n0 + k, z_E cA n0 st h k))
def z_ty (cA : Nat → ClassId) : List (ClassId × FieldType) := [(cA 0, .int), (cA 1, .boolean), (cA 2, .object RX3), (cA 3, .object RX2), (cA 4, .object RX4), (cA 5, .object RX7)]
abbrev z_A (n0 : Nat) : Nat → Prop := fun q => n0 ≤ q
theorem z_W_get {cA : Nat → ClassId} {n0 : Nat} {st : Nat → Value} {h : zH} {k : Nat} (hk : k < z_nx h) : (z_W cA n0 st h)[k]? = some (n0 + k, z_E cA n0 st h k) := by
  unfold z_W
  rw [List.getElem?_map, List.getElem?_range hk]
  rfl
theorem z_W_D (cA : Nat → ClassId) (n0 : Nat) (st : Nat → Value) (h : zH) : va_D (z_A n0) (z_W cA n0 st h) := by
  have key : ∀ (i : Nat) (q : Nat × va_E), (z_W cA n0 st h)[i]? = some q → q.1 = n0 + i := by
    intro i q e
    have hl : i < z_nx h := by
      have := (List.getElem?_eq_some_iff.mp e).1
      simpa [z_W] using this
    rw [z_W_get hl] at e
    rw [← Option.some.inj e]
  refine ⟨fun i j p q hp hq e => ?_, fun k q hq => ?_⟩
  · have h1 := key i p hp
    have h2 := key j q hq
    omega
  · have h1 := key k q hq
    show n0 ≤ q.1
    omega
/-- one cell has changed -/
theorem z_W_set {cA : Nat → ClassId} {n0 : Nat} {st : Nat → Value} {h h' : zH} {k : Nat} (hn : z_nx h' = z_nx h) (ho : ∀ j, j ≠ k → z_E cA n0 st h' j = z_E cA n0 st h j) : (z_W cA n0 st h).set k (n0 + k, z_E cA n0 st h' k) = z_W cA n0 st h' := by
  refine List.ext_getElem? fun i => ?_
  by_cases hi : i < z_nx h
  · rw [z_W_get (by omega : i < z_nx h')]
    by_cases hik : i = k
    · subst hik
      rw [List.getElem?_set_self (by simpa [z_W] using hi)]
    · rw [List.getElem?_set_ne (fun e => hik e.symm), z_W_get hi, ho i hik]
  · have h1 : (z_W cA n0 st h).length ≤ i := by simp [z_W]; omega
    rw [List.getElem?_eq_none (by rw [List.length_set]; exact h1), List.getElem?_eq_none (by simp [z_W]; omega)]
theorem z_W_push {cA : Nat → ClassId} {n0 : Nat} {st : Nat → Value} {h h' : zH} (hn : z_nx h' = z_nx h + 1) (ho : ∀ j, j < z_nx h → z_E cA n0 st h' j = z_E cA n0 st h j) : z_W cA n0 st h ++ [(n0 + z_nx h, z_E cA n0 st h' (z_nx h))] = z_W cA n0 st h' := by
  unfold z_W
  rw [hn, List.range_succ, List.map_append]
  congr 1
  exact List.map_congr_left fun j hj => by rw [ho j (List.mem_range.mp hj)]
/-- the heap stands for h; L, xs: the script -/
def z_HR (D : va_G) (cA : Nat → ClassId) (n0 : Nat) (st : Nat → Value) (Ls : Nat) (xs : Nat → Int32) (h : zH) (H : Heap) : Prop :=
  H.size = n0 + z_nx h ∧ va_P D vwCl (z_W cA n0 st h) H ∧ (∀ a, z_nx h ≤ a → z_tg h a = 0) ∧ z_nx h ≤ z_SC ∧ z_ln h z_SC = Ls ∧ z_iv h z_SC = xs
/-- the pairs that the locals hold -/
def z_lvl (n0 : Nat) (st : Nat → Value) (L : zL) : List (Nat × Value) := (List.range L.length).filterMap (fun i => (L.getD i none).map (fun v => (i, z_ph n0 st v)))
def z_LR (nL n0 : Nat) (st : Nat → Value) (L : zL) (ls : Array Slot) : Prop := L.length = nL ∧ lv_has ls nL (z_lvl n0 st L)
theorem z_lvl_mem {n0 : Nat} {st : Nat → Value} {L : zL} {i : Nat} {w : Value} : (i, w) ∈ z_lvl n0 st L ↔ ∃ v, L.getD i none = some v ∧ w = z_ph n0 st v := by
  unfold z_lvl
  rw [List.mem_filterMap]
  constructor
  · rintro ⟨j, -, hj⟩
    cases hv : L.getD j none with
    | none => rw [hv] at hj; cases hj
    | some v =>
      rw [hv] at hj
      have := Option.some.inj hj
      have h1 : j = i := congrArg Prod.fst this
      have h2 : z_ph n0 st v = w := congrArg Prod.snd this
      subst h1
      exact ⟨v, hv, h2.symm⟩
  · rintro ⟨v, hv, rfl⟩
    refine ⟨i, ?_, by rw [hv]; rfl⟩
    rw [List.mem_range]
    rcases Nat.lt_or_ge i L.length with q | q
    · exact q
    · rw [List.getD_eq_getElem?_getD, List.getElem?_eq_none q] at hv
      cases hv
theorem z_LR_at {nL n0 : Nat} {st : Nat → Value} {L : zL} {ls : Array Slot} (h : z_LR nL n0 st L ls) {i : Nat} {v : Value} (hv : L.getD i none = some v) : ls[i]? = some (.val (z_ph n0 st v)) :=
  h.2.2.2 (i, z_ph n0 st v) (z_lvl_mem.mpr ⟨v, hv, rfl⟩)
theorem z_ph_long {n0 : Nat} {st : Nat → Value} (hst : ∀ q, (∃ t, st q = .ref t) ∨ st q = .null) (v : Value) : (z_ph n0 st v).category = 2 → v.category = 2 := by
  cases v with
  | retAddr q =>
    intro h
    rcases hst q with ⟨t, ht⟩ | ht <;> rw [z_ph, ht] at h <;> cases h
  | _ => intro h; exact h
theorem z_kp_len (L : zL) (i : Nat) : (z_kp L i).length = L.length := by
  unfold z_kp
  split
  · rfl
  · cases z_isL _ <;> simp
theorem z_getD_set (L : zL) (i j : Nat) (x : Option Value) : (L.set i x).getD j none = if i = j ∧ j < L.length then x else L.getD j none := by
  rw [List.getD_eq_getElem?_getD, List.getD_eq_getElem?_getD, List.getElem?_set]
  by_cases h : i = j
  · subst h
    by_cases h2 : i < L.length
    · simp [h2]
    · simp [h2]
  · simp [h]
theorem z_kp_get {L : zL} {i j : Nat} {v : Value} (h : (z_kp L i).getD j none = some v) : L.getD j none = some v ∧ ¬ (j + 1 = i ∧ z_isL (some v) = true) := by
  unfold z_kp at h
  split at h
  · exact ⟨h, fun q => by omega⟩
  · rename_i k
    cases hl : z_isL (L.getD k none) with
    | true =>
      rw [hl] at h
      simp only [cond_true] at h
      rw [z_getD_set] at h
      by_cases hk : k = j ∧ j < L.length
      · rw [if_pos hk] at h; cases h
      · rw [if_neg hk] at h
        refine ⟨h, fun q => hk ⟨by omega, ?_⟩⟩
        rcases Nat.lt_or_ge j L.length with u | u
        · exact u
        · rw [List.getD_eq_getElem?_getD, List.getElem?_eq_none u] at h; cases h
    | false =>
      rw [hl] at h
      simp only [cond_false] at h
      refine ⟨h, fun q => ?_⟩
      have : k = j := by omega
      subst this
      rw [h] at hl
      rw [hl] at q
      exact absurd q.2 (by decide)
theorem z_isL_cat (v : Value) (h : v.category = 2) : z_isL (some v) = true := by
  cases v with
  | long x => rfl
  | double x => rfl
  | _ => cases h
theorem z_LR_s1 {nL n0 : Nat} {st : Nat → Value} (hst : ∀ q, (∃ t, st q = .ref t) ∨ st q = .null) {L : zL} {ls' : Array Slot} {i : Nat} {v : Value} (hL : L.length = nL)
    (hl : lv_has ls' nL ((i, z_ph n0 st v) :: (z_lvl n0 st L).filter (fun q => !(q.1 == i) && !(q.1 + 1 == i && q.2.category == 2)))) : z_LR nL n0 st (z_s1 L i v) ls' := by
  refine ⟨by unfold z_s1; rw [List.length_set, z_kp_len]; exact hL, hl.1, hl.2.1, ?_⟩
  rintro ⟨j, w⟩ hq
  obtain ⟨u, hu, rfl⟩ := z_lvl_mem.mp hq
  unfold z_s1 at hu
  rw [z_getD_set] at hu
  by_cases hij : i = j ∧ j < (z_kp L i).length
  · rw [if_pos hij] at hu
    obtain ⟨rfl, -⟩ := hij
    rw [← Option.some.inj hu]
    exact hl.2.2 _ List.mem_cons_self
  · rw [if_neg hij] at hu
    obtain ⟨h1, h2⟩ := z_kp_get hu
    have hj : ¬ j = i := fun e => hij ⟨e.symm, by
      rcases Nat.lt_or_ge j L.length with u | u
      · rw [z_kp_len]; exact u
      · rw [List.getD_eq_getElem?_getD, List.getElem?_eq_none u] at h1; cases h1⟩
    refine hl.2.2 (j, z_ph n0 st u) (List.mem_cons_of_mem _ (List.mem_filter.mpr ⟨z_lvl_mem.mpr ⟨u, h1, rfl⟩, ?_⟩))
    simp only [Bool.and_eq_true, Bool.not_eq_true', beq_eq_false_iff_ne, ne_eq]
    refine ⟨hj, ?_⟩
    by_cases hk : j + 1 = i
    · have : ¬ (z_ph n0 st u).category = 2 := fun c2 => h2 ⟨hk, z_isL_cat u (z_ph_long hst u c2)⟩
      simp [this]
    · simp [hk]
theorem z_LR_s2 {nL n0 : Nat} {st : Nat → Value} (hst : ∀ q, (∃ t, st q = .ref t) ∨ st q = .null) {L : zL} {ls' : Array Slot} {i : Nat} {v : Value} (hL : L.length = nL)
    (hl : lv_has ls' nL ((i, z_ph n0 st v) :: (z_lvl n0 st L).filter (fun q => !(q.1 == i) && (!(q.1 == i + 1) && !(q.1 + 1 == i && q.2.category == 2))))) : z_LR nL n0 st (z_s2 L i v) ls' := by
  refine ⟨by unfold z_s2; rw [List.length_set, List.length_set, z_kp_len]; exact hL, hl.1, hl.2.1, ?_⟩
  rintro ⟨j, w⟩ hq
  obtain ⟨u, hu, rfl⟩ := z_lvl_mem.mp hq
  unfold z_s2 at hu
  rw [z_getD_set] at hu
  by_cases hij1 : i + 1 = j ∧ j < ((z_kp L i).set i (some v)).length
  · rw [if_pos hij1] at hu; cases hu
  rw [if_neg hij1, z_getD_set] at hu
  by_cases hij : i = j ∧ j < (z_kp L i).length
  · rw [if_pos hij] at hu
    obtain ⟨rfl, -⟩ := hij
    rw [← Option.some.inj hu]
    exact hl.2.2 _ List.mem_cons_self
  · rw [if_neg hij] at hu
    obtain ⟨h1, h2⟩ := z_kp_get hu
    have hjl : j < L.length := by
      rcases Nat.lt_or_ge j L.length with u | u
      · exact u
      · rw [List.getD_eq_getElem?_getD, List.getElem?_eq_none u] at h1; cases h1
    have hj : ¬ j = i := fun e => hij ⟨e.symm, by rw [z_kp_len]; exact hjl⟩
    have hj1 : ¬ j = i + 1 := fun e => hij1 ⟨e.symm, by rw [List.length_set, z_kp_len]; exact hjl⟩
    refine hl.2.2 (j, z_ph n0 st u) (List.mem_cons_of_mem _ (List.mem_filter.mpr ⟨z_lvl_mem.mpr ⟨u, h1, rfl⟩, ?_⟩))
    simp only [Bool.and_eq_true, Bool.not_eq_true', beq_eq_false_iff_ne, ne_eq]
    refine ⟨hj, hj1, ?_⟩
    by_cases hk : j + 1 = i
    · have : ¬ (z_ph n0 st u).category = 2 := fun c2 => h2 ⟨hk, z_isL_cat u (z_ph_long hst u c2)⟩
      simp [this]
    · simp [hk]
/-- a local is changed in place (iinc) -/
theorem z_LR_inc {nL n0 : Nat} {st : Nat → Value} (hst : ∀ q, (∃ t, st q = .ref t) ∨ st q = .null) {L : zL} {ls' : Array Slot} {i : Nat} {v : Value} (hL : L.length = nL) (hk : ∀ j w, j + 1 = i → L.getD j none = some w → ¬ w.category = 2)
    (hl : lv_has ls' nL ((i, z_ph n0 st v) :: (z_lvl n0 st L).filter (fun q => !(q.1 == i) && !(q.1 + 1 == i && q.2.category == 2)))) : z_LR nL n0 st (L.set i (some v)) ls' := by
  refine ⟨by rw [List.length_set]; exact hL, hl.1, hl.2.1, ?_⟩
  rintro ⟨j, w⟩ hq
  obtain ⟨u, hu, rfl⟩ := z_lvl_mem.mp hq
  rw [z_getD_set] at hu
  by_cases hij : i = j ∧ j < L.length
  · rw [if_pos hij] at hu
    obtain ⟨rfl, -⟩ := hij
    rw [← Option.some.inj hu]
    exact hl.2.2 _ List.mem_cons_self
  · rw [if_neg hij] at hu
    have hj : ¬ j = i := fun e => hij ⟨e.symm, by
      rcases Nat.lt_or_ge j L.length with q | q
      · exact q
      · rw [List.getD_eq_getElem?_getD, List.getElem?_eq_none q] at hu; cases hu⟩
    refine hl.2.2 (j, z_ph n0 st u) (List.mem_cons_of_mem _ (List.mem_filter.mpr ⟨z_lvl_mem.mpr ⟨u, hu, rfl⟩, ?_⟩))
    simp only [Bool.and_eq_true, Bool.not_eq_true', beq_eq_false_iff_ne, ne_eq]
    refine ⟨hj, ?_⟩
    by_cases hk2 : j + 1 = i
    · have : ¬ (z_ph n0 st u).category = 2 := fun c2 => hk j u hk2 hu (z_ph_long hst u c2)
      simp [this]
    · simp [hk2]
