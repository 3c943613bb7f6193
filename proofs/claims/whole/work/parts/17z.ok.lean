/-! the looked-up rows give what the simulation wants -/
theorem z_chkL_mem {y : Nat} : ∀ {l : List (Nat × zE)} {ps : List (List Nat)}, z_chkL y l ps = true → ∀ q ∈ l, ∃ p, z_chk1 y q p = true := by
  intro l
  induction l with
  | nil => intro ps _ q hq; exact absurd hq List.not_mem_nil
  | cons a l ih =>
    intro ps h q hq
    cases ps with
    | nil =>
      have h := Bool.and_eq_true_iff.mp h
      rcases List.mem_cons.mp hq with rfl | hq
      · exact ⟨_, h.1⟩
      · exact ih h.2 q hq
    | cons p ps =>
      have h := Bool.and_eq_true_iff.mp h
      rcases List.mem_cons.mp hq with rfl | hq
      · exact ⟨_, h.1⟩
      · exact ih h.2 q hq
theorem z_find_mem (pc : Nat) : ∀ l : List (Nat × zE), (z_find pc l).1 = .athrow ∨ (pc, z_find pc l) ∈ l := by
  intro l
  induction l with
  | nil => exact Or.inl rfl
  | cons a l ih =>
    unfold z_find
    cases hb : Nat.beq a.1 pc with
    | true =>
      right
      have := Nat.eq_of_beq_eq_true hb
      rw [← this]
      exact List.mem_cons_self
    | false =>
      rcases ih with q | q
      · exact Or.inl q
      · exact Or.inr (List.mem_cons_of_mem _ q)
theorem z_getD_mem {α : Type} {l : List (List α)} {i : Nat} {x : α} (h : x ∈ l.getD i []) : l[i]? = some (l.getD i []) := by
  rw [List.getD_eq_getElem?_getD] at h ⊢
  cases hl : l[i]? with
  | none => rw [hl] at h; exact absurd h List.not_mem_nil
  | some b => rfl
theorem z_OK_of (h : z_okA 0 z_tab) : z_OK := by
  intro y pc
  unfold z_c
  rcases z_find_mem pc (((z_tab.getD (y / 16) []).getD (y % 16) []).getD (pc / 16) []) with q | q
  · exact Or.inl q
  right
  generalize hE : z_find pc (((z_tab.getD (y / 16) []).getD (y % 16) []).getD (pc / 16) []) = E at q ⊢
  have h1 := z_getD_mem q
  have hb : ((z_tab.getD (y / 16) []).getD (y % 16) []).getD (pc / 16) [] ∈ (z_tab.getD (y / 16) []).getD (y % 16) [] := List.mem_of_getElem? h1
  have h2 := z_getD_mem hb
  have hb2 : (z_tab.getD (y / 16) []).getD (y % 16) [] ∈ z_tab.getD (y / 16) [] := List.mem_of_getElem? h2
  have h3 := z_getD_mem hb2
  have k1 := h (y / 16) _ h3
  have k2 := k1 (y % 16) _ h2
  rw [show 16 * (0 + y / 16) + y % 16 = y by omega] at k2
  obtain ⟨ps, hps⟩ := k2 _ hb
  obtain ⟨p, hp⟩ := z_chkL_mem hps _ q
  unfold z_chk1 at hp
  simp only [Bool.and_eq_true, decide_eq_true_eq] at hp
  obtain ⟨⟨⟨⟨c1, c2⟩, c3⟩, c4⟩, c5⟩ := hp
  have hin : ∀ w ∈ z_need (z_nm y).cls E ++ z_ndN (z_nm y).cls E, w ∈ lw_tbl := by
    intro w hw
    have : some w ∈ (z_need (z_nm y).cls E ++ z_ndN (z_nm y).cls E).map some := List.mem_map.mpr ⟨w, hw, rfl⟩
    rw [c4] at this
    obtain ⟨i, -, hi⟩ := List.mem_map.mp this
    exact List.mem_of_getElem? hi
  refine ⟨c1, ?_, c3, fun w hw => List.mem_filter.mpr ⟨hin w (List.mem_append_left _ hw), List.all_eq_true.mp c5 w hw⟩, fun w hw => List.mem_filter.mpr ⟨hin w (List.mem_append_right _ hw), ?_⟩⟩
  · obtain ⟨i, len, a, b, v⟩ := E
    cases i <;> first | exact trivial | exact Nat.eq_of_beq_eq_true c2
  · obtain ⟨i, len, a, b, v⟩ := E
    cases i <;> first
      | exact absurd hw List.not_mem_nil
      | (simp only [z_ndN] at hw
         revert hw
         cases (Nat.beq a 1 || decide (v = 0)) with
         | true => intro hw; exact absurd hw List.not_mem_nil
         | false => intro hw; rw [List.mem_singleton.mp hw])
      | (simp only [z_ndN] at hw
         revert hw
         cases (Nat.beq a 0 || decide (v = 0)) with
         | true => intro hw; exact absurd hw List.not_mem_nil
         | false => intro hw; rw [List.mem_singleton.mp hw])
theorem z_LAY_ok : z_LAY := by
  refine z_all12 fun c hc w hw => ?_
  have := List.all_eq_true.mp (List.all_eq_true.mp z_LAYb c (List.mem_range.mpr hc)) w hw
  simp only [Bool.and_eq_true, decide_eq_true_eq] at this
  exact List.mem_filter.mpr this
theorem z_INS_ok : z_INS := by
  refine z_all12 fun c hc => ?_
  exact of_decide_eq_true (List.all_eq_true.mp z_INSb c (List.mem_range.mpr hc))
theorem z_OK_ok : z_OK := z_OK_of zs_all
