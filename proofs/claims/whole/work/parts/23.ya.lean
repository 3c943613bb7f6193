set_option maxRecDepth 20000 in
theorem X_11 (x1 : Int32) (h : zH)  {Q : Int32 → zH → Prop} (H : ∀ m2 : Int32, m2 = (if 0 ≤ x1 then x1 else (-x1)) → Q m2 h) : KK z_pI 11 [.int x1] h Q := by
  refine k_K (L := [some (.int x1)]) rfl ?_
  refine k_n 1 (pc' := 1) (L' := [some (.int x1)]) (S' := [.int x1]) (h' := h) rfl ?_
  obtain ⟨m2, em2⟩ : ∃ m : Int32, m = (if 0 ≤ x1 then x1 else (-x1)) := ⟨_, rfl⟩
  have H := H m2 em2
  have hj3 : KG z_pI 11 10 [some (.int x1)] [.int m2] h Q := by
    exact k_r rfl rfl rfl H
  refine k_b (g := 0 ≤ x1) (pc' := 9) (L' := [some (.int x1)]) (S' := []) (pc2 := 4) (L2 := [some (.int x1)]) (S2 := []) (h' := h) (h2 := h) rfl rfl (fun hc => ?_) (fun hc => ?_)
  · have c1 := hc
    refine k_n 1 (pc' := 10) (L' := [some (.int x1)]) (S' := [.int x1]) (h' := h) rfl ?_
    rw [(em2.trans (by rw [if_pos c1]) : m2 = x1)] at hj3
    exact hj3
  · have c1 := hc
    refine k_n 3 (pc' := 10) (L' := [some (.int x1)]) (S' := [.int (-x1)]) (h' := h) rfl ?_
    rw [(em2.trans (by rw [if_neg c1]) : m2 = (-x1))] at hj3
    exact hj3
theorem C_11 (x1 : Int32) (h : zH)   {Q : Int32 → zH → Prop} (q : Q (if 0 ≤ x1 then x1 else (-x1)) h) : KK z_pI 11 [.int x1] h Q := by
  refine X_11 x1 h   ?_
  intro m_ em_; subst em_
  exact q
set_option maxRecDepth 20000 in
theorem X_12 (x1 : Int32) (x2 : Int32) (h : zH)  {Q : Int32 → zH → Prop} (H : ∀ m2 : Int32, m2 = (if x1 < x2 then x2 else x1) → Q m2 h) : KK z_pI 12 [.int x1, .int x2] h Q := by
  refine k_K (L := [some (.int x1), some (.int x2)]) rfl ?_
  refine k_n 2 (pc' := 2) (L' := [some (.int x1), some (.int x2)]) (S' := [.int x2, .int x1]) (h' := h) rfl ?_
  obtain ⟨m2, em2⟩ : ∃ m : Int32, m = (if x1 < x2 then x2 else x1) := ⟨_, rfl⟩
  have H := H m2 em2
  have hj3 : KG z_pI 12 10 [some (.int x1), some (.int x2)] [.int m2] h Q := by
    exact k_r rfl rfl rfl H
  refine k_b (g := x1 < x2) (pc' := 9) (L' := [some (.int x1), some (.int x2)]) (S' := []) (pc2 := 5) (L2 := [some (.int x1), some (.int x2)]) (S2 := []) (h' := h) (h2 := h) rfl rfl (fun hc => ?_) (fun hc => ?_)
  · have c1 := hc
    refine k_n 1 (pc' := 10) (L' := [some (.int x1), some (.int x2)]) (S' := [.int x2]) (h' := h) rfl ?_
    rw [(em2.trans (by rw [if_pos c1]) : m2 = x2)] at hj3
    exact hj3
  · have c1 := hc
    refine k_n 2 (pc' := 10) (L' := [some (.int x1), some (.int x2)]) (S' := [.int x1]) (h' := h) rfl ?_
    rw [(em2.trans (by rw [if_neg c1]) : m2 = x1)] at hj3
    exact hj3
theorem C_12 (x1 : Int32) (x2 : Int32) (h : zH)   {Q : Int32 → zH → Prop} (q : Q (if x1 < x2 then x2 else x1) h) : KK z_pI 12 [.int x1, .int x2] h Q := by
  refine X_12 x1 x2 h   ?_
  intro m_ em_; subst em_
  exact q
set_option maxRecDepth 20000 in
theorem X_13 (x1 : Int64) (x2 : Int64) (h : zH)  {Q : Int64 → zH → Prop} (H : ∀ m2 : Int64, m2 = (if x1 < x2 then x2 else x1) → Q m2 h) : KK z_pL 13 [.long x1, .long x2] h Q := by
  refine k_K (L := [some (.long x1), none, some (.long x2), none]) rfl ?_
  refine k_n 3 (pc' := 3) (L' := [some (.long x1), none, some (.long x2), none]) (S' := [.int (z_cmp x1 x2)]) (h' := h) rfl ?_
  obtain ⟨m2, em2⟩ : ∃ m : Int64, m = (if x1 < x2 then x2 else x1) := ⟨_, rfl⟩
  have H := H m2 em2
  have hj3 : KG z_pL 13 11 [some (.long x1), none, some (.long x2), none] [.long m2] h Q := by
    exact k_r rfl rfl rfl H
  refine k_b (g := z_cmp x1 x2 < 0) (pc' := 10) (L' := [some (.long x1), none, some (.long x2), none]) (S' := []) (pc2 := 6) (L2 := [some (.long x1), none, some (.long x2), none]) (S2 := []) (h' := h) (h2 := h) rfl rfl (fun hc => ?_) (fun hc => ?_)
  · have c1 := z_cmp_lt.mp hc
    refine k_n 1 (pc' := 11) (L' := [some (.long x1), none, some (.long x2), none]) (S' := [.long x2]) (h' := h) rfl ?_
    rw [(em2.trans (by rw [if_pos c1]) : m2 = x2)] at hj3
    exact hj3
  · have c1 := (fun q => hc (z_cmp_lt.mpr q))
    refine k_n 2 (pc' := 11) (L' := [some (.long x1), none, some (.long x2), none]) (S' := [.long x1]) (h' := h) rfl ?_
    rw [(em2.trans (by rw [if_neg c1]) : m2 = x1)] at hj3
    exact hj3
theorem C_13 (x1 : Int64) (x2 : Int64) (h : zH)   {Q : Int64 → zH → Prop} (q : Q (if x1 < x2 then x2 else x1) h) : KK z_pL 13 [.long x1, .long x2] h Q := by
  refine X_13 x1 x2 h   ?_
  intro m_ em_; subst em_
  exact q
set_option maxRecDepth 20000 in
theorem X_14 (x1 : Int32) (x2 : Int32) (h : zH)  {Q : Int32 → zH → Prop} (H : ∀ m2 : Int32, m2 = (if x2 < x1 then x2 else x1) → Q m2 h) : KK z_pI 14 [.int x1, .int x2] h Q := by
  refine k_K (L := [some (.int x1), some (.int x2)]) rfl ?_
  refine k_n 2 (pc' := 2) (L' := [some (.int x1), some (.int x2)]) (S' := [.int x2, .int x1]) (h' := h) rfl ?_
  obtain ⟨m2, em2⟩ : ∃ m : Int32, m = (if x2 < x1 then x2 else x1) := ⟨_, rfl⟩
  have H := H m2 em2
  have hj3 : KG z_pI 14 10 [some (.int x1), some (.int x2)] [.int m2] h Q := by
    exact k_r rfl rfl rfl H
  refine k_b (g := x2 < x1) (pc' := 9) (L' := [some (.int x1), some (.int x2)]) (S' := []) (pc2 := 5) (L2 := [some (.int x1), some (.int x2)]) (S2 := []) (h' := h) (h2 := h) rfl rfl (fun hc => ?_) (fun hc => ?_)
  · have c1 := hc
    refine k_n 1 (pc' := 10) (L' := [some (.int x1), some (.int x2)]) (S' := [.int x2]) (h' := h) rfl ?_
    rw [(em2.trans (by rw [if_pos c1]) : m2 = x2)] at hj3
    exact hj3
  · have c1 := hc
    refine k_n 2 (pc' := 10) (L' := [some (.int x1), some (.int x2)]) (S' := [.int x1]) (h' := h) rfl ?_
    rw [(em2.trans (by rw [if_neg c1]) : m2 = x1)] at hj3
    exact hj3
theorem C_14 (x1 : Int32) (x2 : Int32) (h : zH)   {Q : Int32 → zH → Prop} (q : Q (if x2 < x1 then x2 else x1) h) : KK z_pI 14 [.int x1, .int x2] h Q := by
  refine X_14 x1 x2 h   ?_
  intro m_ em_; subst em_
  exact q
set_option maxRecDepth 20000 in
theorem X_15 (x1 : Int64) (x2 : Int64) (h : zH)  {Q : Int64 → zH → Prop} (H : ∀ m2 : Int64, m2 = (if x2 < x1 then x2 else x1) → Q m2 h) : KK z_pL 15 [.long x1, .long x2] h Q := by
  refine k_K (L := [some (.long x1), none, some (.long x2), none]) rfl ?_
  refine k_n 3 (pc' := 3) (L' := [some (.long x1), none, some (.long x2), none]) (S' := [.int (z_cmp x1 x2)]) (h' := h) rfl ?_
  obtain ⟨m2, em2⟩ : ∃ m : Int64, m = (if x2 < x1 then x2 else x1) := ⟨_, rfl⟩
  have H := H m2 em2
  have hj3 : KG z_pL 15 11 [some (.long x1), none, some (.long x2), none] [.long m2] h Q := by
    exact k_r rfl rfl rfl H
  refine k_b (g := 0 < z_cmp x1 x2) (pc' := 10) (L' := [some (.long x1), none, some (.long x2), none]) (S' := []) (pc2 := 6) (L2 := [some (.long x1), none, some (.long x2), none]) (S2 := []) (h' := h) (h2 := h) rfl rfl (fun hc => ?_) (fun hc => ?_)
  · have c1 := z_cmp_gt.mp hc
    refine k_n 1 (pc' := 11) (L' := [some (.long x1), none, some (.long x2), none]) (S' := [.long x2]) (h' := h) rfl ?_
    rw [(em2.trans (by rw [if_pos c1]) : m2 = x2)] at hj3
    exact hj3
  · have c1 := (fun q => hc (z_cmp_gt.mpr q))
    refine k_n 2 (pc' := 11) (L' := [some (.long x1), none, some (.long x2), none]) (S' := [.long x1]) (h' := h) rfl ?_
    rw [(em2.trans (by rw [if_neg c1]) : m2 = x1)] at hj3
    exact hj3
theorem C_15 (x1 : Int64) (x2 : Int64) (h : zH)   {Q : Int64 → zH → Prop} (q : Q (if x2 < x1 then x2 else x1) h) : KK z_pL 15 [.long x1, .long x2] h Q := by
  refine X_15 x1 x2 h   ?_
  intro m_ em_; subst em_
  exact q
set_option maxRecDepth 20000 in
theorem X_9 (x1 : Int64) (x2 : Int64) (h : zH)  {Q : Int64 → zH → Prop} (H : (¬ x2 = 0) ∧ (if (0 : Int64) ≤ (x1 ^^^ x2) then (Q (x1 / x2) h) else (if ((x1 / x2) * x2) = x1 then (Q (x1 / x2) h) else (Q ((x1 / x2) - (1 : Int64)) h)))) : KK z_pL 9 [.long x1, .long x2] h Q := by
  refine k_K (L := [some (.long x1), none, some (.long x2), none, none, none]) rfl ?_
  refine k_n 2 (pc' := 2) (L' := [some (.long x1), none, some (.long x2), none, none, none]) (S' := [.long x2, .long x1]) (h' := h) rfl ?_
  obtain ⟨o1, H⟩ := H
  refine k_d (g := x2 = 0) (pc' := 3) (L' := [some (.long x1), none, some (.long x2), none, none, none]) (S' := [.long (x1 / x2)]) (h' := h) rfl rfl o1 ?_
  refine k_n 6 (pc' := 10) (L' := [some (.long x1), none, some (.long x2), none, some (.long (x1 / x2)), none]) (S' := [.int (z_cmp (x1 ^^^ x2) (0 : Int64))]) (h' := h) rfl ?_
  refine k_b (g := 0 ≤ z_cmp (x1 ^^^ x2) (0 : Int64)) (pc' := 27) (L' := [some (.long x1), none, some (.long x2), none, some (.long (x1 / x2)), none]) (S' := []) (pc2 := 13) (L2 := [some (.long x1), none, some (.long x2), none, some (.long (x1 / x2)), none]) (S2 := []) (h' := h) (h2 := h) rfl rfl (fun hc => ?_) (fun hc => ?_)
  · have hc := z_cmp_ge.mp hc
    rw [if_pos hc] at H
    refine k_n 1 (pc' := 29) (L' := [some (.long x1), none, some (.long x2), none, some (.long (x1 / x2)), none]) (S' := [.long (x1 / x2)]) (h' := h) rfl ?_
    exact k_r rfl rfl rfl H
  · have hc := (fun q => hc (z_cmp_ge.mpr q))
    rw [if_neg hc] at H
    refine k_n 5 (pc' := 19) (L' := [some (.long x1), none, some (.long x2), none, some (.long (x1 / x2)), none]) (S' := [.int (z_cmp ((x1 / x2) * x2) x1)]) (h' := h) rfl ?_
    refine k_b (g := z_cmp ((x1 / x2) * x2) x1 = 0) (pc' := 27) (L' := [some (.long x1), none, some (.long x2), none, some (.long (x1 / x2)), none]) (S' := []) (pc2 := 22) (L2 := [some (.long x1), none, some (.long x2), none, some (.long (x1 / x2)), none]) (S2 := []) (h' := h) (h2 := h) rfl rfl (fun hc => ?_) (fun hc => ?_)
    · have hc := z_cmp_eq.mp hc
      rw [if_pos hc] at H
      refine k_n 1 (pc' := 29) (L' := [some (.long x1), none, some (.long x2), none, some (.long (x1 / x2)), none]) (S' := [.long (x1 / x2)]) (h' := h) rfl ?_
      exact k_r rfl rfl rfl H
    · have hc := (fun q => hc (z_cmp_eq.mpr q))
      rw [if_neg hc] at H
      refine k_n 3 (pc' := 26) (L' := [some (.long x1), none, some (.long x2), none, some (.long (x1 / x2)), none]) (S' := [.long ((x1 / x2) - (1 : Int64))]) (h' := h) rfl ?_
      exact k_r rfl rfl rfl H
theorem C_9 (x1 : Int64) (x2 : Int64) (h : zH)  (O0 : ¬ x2 = 0) {Q : Int64 → zH → Prop} (q : Q (if (0 : Int64) ≤ (x1 ^^^ x2) then (x1 / x2) else (if ((x1 / x2) * x2) = x1 then (x1 / x2) else ((x1 / x2) - (1 : Int64)))) h) : KK z_pL 9 [.long x1, .long x2] h Q := by
  refine X_9 x1 x2 h   ?_
  refine ⟨O0, ?_⟩
  refine z_ifd (fun c1_1 => ?_) (fun c1_1 => ?_)
  · rw [if_pos c1_1] at q
    exact q
  · rw [if_neg c1_1] at q
    refine z_ifd (fun c2_1 => ?_) (fun c2_1 => ?_)
    · rw [if_pos c2_1] at q
      exact q
    · rw [if_neg c2_1] at q
      exact q
set_option maxRecDepth 20000 in
theorem X_10 (x1 : Int32) (x2 : Int32) (h : zH)  {Q : Int32 → zH → Prop} (H : (¬ x2 = 0) ∧ (if 0 ≤ (x1 ^^^ x2) then (Q (x1 - x1 / x2 * x2) h) else (if (x1 - x1 / x2 * x2) = 0 then (Q (x1 - x1 / x2 * x2) h) else (Q ((x1 - x1 / x2 * x2) + x2) h)))) : KK z_pI 10 [.int x1, .int x2] h Q := by
  refine k_K (L := [some (.int x1), some (.int x2), none]) rfl ?_
  refine k_n 2 (pc' := 2) (L' := [some (.int x1), some (.int x2), none]) (S' := [.int x2, .int x1]) (h' := h) rfl ?_
  obtain ⟨o1, H⟩ := H
  refine k_d (g := x2 = 0) (pc' := 3) (L' := [some (.int x1), some (.int x2), none]) (S' := [.int (x1 - x1 / x2 * x2)]) (h' := h) rfl rfl o1 ?_
  refine k_n 4 (pc' := 7) (L' := [some (.int x1), some (.int x2), some (.int (x1 - x1 / x2 * x2))]) (S' := [.int (x1 ^^^ x2)]) (h' := h) rfl ?_
  refine k_b (g := 0 ≤ (x1 ^^^ x2)) (pc' := 18) (L' := [some (.int x1), some (.int x2), some (.int (x1 - x1 / x2 * x2))]) (S' := []) (pc2 := 10) (L2 := [some (.int x1), some (.int x2), some (.int (x1 - x1 / x2 * x2))]) (S2 := []) (h' := h) (h2 := h) rfl rfl (fun hc => ?_) (fun hc => ?_)
  · have hc := hc
    rw [if_pos hc] at H
    refine k_n 1 (pc' := 19) (L' := [some (.int x1), some (.int x2), some (.int (x1 - x1 / x2 * x2))]) (S' := [.int (x1 - x1 / x2 * x2)]) (h' := h) rfl ?_
    exact k_r rfl rfl rfl H
  · have hc := hc
    rw [if_neg hc] at H
    refine k_n 1 (pc' := 11) (L' := [some (.int x1), some (.int x2), some (.int (x1 - x1 / x2 * x2))]) (S' := [.int (x1 - x1 / x2 * x2)]) (h' := h) rfl ?_
    refine k_b (g := (x1 - x1 / x2 * x2) = 0) (pc' := 18) (L' := [some (.int x1), some (.int x2), some (.int (x1 - x1 / x2 * x2))]) (S' := []) (pc2 := 14) (L2 := [some (.int x1), some (.int x2), some (.int (x1 - x1 / x2 * x2))]) (S2 := []) (h' := h) (h2 := h) rfl rfl (fun hc => ?_) (fun hc => ?_)
    · have hc := hc
      rw [if_pos hc] at H
      refine k_n 1 (pc' := 19) (L' := [some (.int x1), some (.int x2), some (.int (x1 - x1 / x2 * x2))]) (S' := [.int (x1 - x1 / x2 * x2)]) (h' := h) rfl ?_
      exact k_r rfl rfl rfl H
    · have hc := hc
      rw [if_neg hc] at H
      refine k_n 3 (pc' := 17) (L' := [some (.int x1), some (.int x2), some (.int (x1 - x1 / x2 * x2))]) (S' := [.int ((x1 - x1 / x2 * x2) + x2)]) (h' := h) rfl ?_
      exact k_r rfl rfl rfl H
theorem C_10 (x1 : Int32) (x2 : Int32) (h : zH)  (O0 : ¬ x2 = 0) {Q : Int32 → zH → Prop} (q : Q (if 0 ≤ (x1 ^^^ x2) then (x1 - x1 / x2 * x2) else (if (x1 - x1 / x2 * x2) = 0 then (x1 - x1 / x2 * x2) else ((x1 - x1 / x2 * x2) + x2))) h) : KK z_pI 10 [.int x1, .int x2] h Q := by
  refine X_10 x1 x2 h   ?_
  refine ⟨O0, ?_⟩
  refine z_ifd (fun c1_1 => ?_) (fun c1_1 => ?_)
  · rw [if_pos c1_1] at q
    exact q
  · rw [if_neg c1_1] at q
    refine z_ifd (fun c2_1 => ?_) (fun c2_1 => ?_)
    · rw [if_pos c2_1] at q
      exact q
    · rw [if_neg c2_1] at q
      exact q
/-! the class's divisions -/
def s_fm (x y : Int32) : Int32 := if 0 ≤ (x ^^^ y) then (x - x / y * y) else (if (x - x / y * y) = 0 then (x - x / y * y) else ((x - x / y * y) + y))
def s_fd (x y : Int64) : Int64 := if (0 : Int64) ≤ (x ^^^ y) then (x / y) else (if ((x / y) * y) = x then (x / y) else ((x / y) - (1 : Int64)))
def s_dn (x y : Int64) : Int64 := if (0 : Int64) < y then s_fd x y else 0
def s_up (x y : Int64) : Int64 := if (0 : Int64) < y then -s_fd (-x) y else 0
theorem z_pos_ne {y : Int64} (h : 0 < y) : ¬ y = 0 := by
  intro e
  rw [e] at h
  exact absurd h (by decide)
theorem c_fm (x y : Int32) (h : zH) (O : ¬ y = 0) {Q : Int32 → zH → Prop} (q : Q (s_fm x y) h) : KK z_pI 10 [.int x, .int y] h Q := C_10 x y h O q
theorem c_fd (x y : Int64) (h : zH) (O : ¬ y = 0) {Q : Int64 → zH → Prop} (q : Q (s_fd x y) h) : KK z_pL 9 [.long x, .long y] h Q := C_9 x y h O q

set_option maxRecDepth 20000 in
theorem X_146 (x1 : Int64) (x2 : Int64) (h : zH)  {Q : Int64 → zH → Prop} (H : if (0 : Int64) < x2 then ((¬ x2 = 0) ∧ Q (s_fd x1 x2) h) else (Q (0 : Int64) h)) : KK z_pL 146 [.long x1, .long x2] h Q := by
  refine k_K (L := [some (.long x1), none, some (.long x2), none]) rfl ?_
  refine k_n 3 (pc' := 3) (L' := [some (.long x1), none, some (.long x2), none]) (S' := [.int (z_cmp x2 (0 : Int64))]) (h' := h) rfl ?_
  refine k_b (g := 0 < z_cmp x2 (0 : Int64)) (pc' := 10) (L' := [some (.long x1), none, some (.long x2), none]) (S' := []) (pc2 := 6) (L2 := [some (.long x1), none, some (.long x2), none]) (S2 := []) (h' := h) (h2 := h) rfl rfl (fun hc => ?_) (fun hc => ?_)
  · have hc := z_cmp_gt.mp hc
    rw [if_pos hc] at H
    refine k_n 2 (pc' := 12) (L' := [some (.long x1), none, some (.long x2), none]) (S' := [.long x2, .long x1]) (h' := h) rfl ?_
    refine k_cL 9 2 rfl rfl rfl (A := [.long x1, .long x2]) rfl rfl rfl (rest := []) rfl rfl ?_
    obtain ⟨o1, H⟩ := H
    refine c_fd x1 x2 h o1 ?_
    exact k_r rfl rfl rfl H
  · have hc := (fun q => hc (z_cmp_gt.mpr q))
    rw [if_neg hc] at H
    refine k_n 2 (pc' := 15) (L' := [some (.long x1), none, some (.long x2), none]) (S' := [.long (0 : Int64)]) (h' := h) rfl ?_
    exact k_r rfl rfl rfl H
theorem C_146 (x1 : Int64) (x2 : Int64) (h : zH)  (O0 : ((0 : Int64) < x2) → ¬ x2 = 0) {Q : Int64 → zH → Prop} (q : Q (if (0 : Int64) < x2 then (s_fd x1 x2) else (0 : Int64)) h) : KK z_pL 146 [.long x1, .long x2] h Q := by
  refine X_146 x1 x2 h   ?_
  refine z_ifd (fun c1_0 => ?_) (fun c1_0 => ?_)
  · rw [if_pos c1_0] at q
    refine ⟨O0 c1_0, ?_⟩
    exact q
  · rw [if_neg c1_0] at q
    exact q
set_option maxRecDepth 20000 in
theorem X_147 (x1 : Int64) (x2 : Int64) (h : zH)  {Q : Int64 → zH → Prop} (H : if (0 : Int64) < x2 then ((¬ x2 = 0) ∧ Q (-(s_fd (-x1) x2)) h) else (Q (0 : Int64) h)) : KK z_pL 147 [.long x1, .long x2] h Q := by
  refine k_K (L := [some (.long x1), none, some (.long x2), none]) rfl ?_
  refine k_n 3 (pc' := 3) (L' := [some (.long x1), none, some (.long x2), none]) (S' := [.int (z_cmp x2 (0 : Int64))]) (h' := h) rfl ?_
  refine k_b (g := 0 < z_cmp x2 (0 : Int64)) (pc' := 10) (L' := [some (.long x1), none, some (.long x2), none]) (S' := []) (pc2 := 6) (L2 := [some (.long x1), none, some (.long x2), none]) (S2 := []) (h' := h) (h2 := h) rfl rfl (fun hc => ?_) (fun hc => ?_)
  · have hc := z_cmp_gt.mp hc
    rw [if_pos hc] at H
    refine k_n 3 (pc' := 13) (L' := [some (.long x1), none, some (.long x2), none]) (S' := [.long x2, .long (-x1)]) (h' := h) rfl ?_
    refine k_cL 9 2 rfl rfl rfl (A := [.long (-x1), .long x2]) rfl rfl rfl (rest := []) rfl rfl ?_
    obtain ⟨o1, H⟩ := H
    refine c_fd (-x1) x2 h o1 ?_
    refine k_n 1 (pc' := 17) (L' := [some (.long x1), none, some (.long x2), none]) (S' := [.long (-(s_fd (-x1) x2))]) (h' := h) rfl ?_
    exact k_r rfl rfl rfl H
  · have hc := (fun q => hc (z_cmp_gt.mpr q))
    rw [if_neg hc] at H
    refine k_n 2 (pc' := 17) (L' := [some (.long x1), none, some (.long x2), none]) (S' := [.long (0 : Int64)]) (h' := h) rfl ?_
    exact k_r rfl rfl rfl H
theorem C_147 (x1 : Int64) (x2 : Int64) (h : zH)  (O0 : ((0 : Int64) < x2) → ¬ x2 = 0) {Q : Int64 → zH → Prop} (q : Q (if (0 : Int64) < x2 then (-(s_fd (-x1) x2)) else (0 : Int64)) h) : KK z_pL 147 [.long x1, .long x2] h Q := by
  refine X_147 x1 x2 h   ?_
  refine z_ifd (fun c1_0 => ?_) (fun c1_0 => ?_)
  · rw [if_pos c1_0] at q
    refine ⟨O0 c1_0, ?_⟩
    exact q
  · rw [if_neg c1_0] at q
    exact q
theorem c_dn (x y : Int64) (h : zH) {Q : Int64 → zH → Prop} (q : Q (s_dn x y) h) : KK z_pL 146 [.long x, .long y] h Q := C_146 x y h z_pos_ne q
theorem c_up (x y : Int64) (h : zH) {Q : Int64 → zH → Prop} (q : Q (s_up x y) h) : KK z_pL 147 [.long x, .long y] h Q := C_147 x y h z_pos_ne q

set_option maxRecDepth 20000 in
theorem X_135 (x1 : Int32) (x2 : Int32) (x3 : Int32) (h : zH)  {Q : Int32 → zH → Prop} (H : Q (z_bt (¬ (x1 < x2) ∧ (¬ (x3 < x1)))) h) : KK z_pI 135 [.int x1, .int x2, .int x3] h Q := by
  refine k_K (L := [some (.int x1), some (.int x2), some (.int x3)]) rfl ?_
  refine k_n 2 (pc' := 2) (L' := [some (.int x1), some (.int x2), some (.int x3)]) (S' := [.int x2, .int x1]) (h' := h) rfl ?_
  have hj3 : KG z_pI 135 15 [some (.int x1), some (.int x2), some (.int x3)] [.int (z_bt (¬ (x1 < x2) ∧ (¬ (x3 < x1))))] h Q := by
    exact k_r rfl (z_retB z_bt_01) rfl H
  refine k_b (g := x1 < x2) (pc' := 14) (L' := [some (.int x1), some (.int x2), some (.int x3)]) (S' := []) (pc2 := 5) (L2 := [some (.int x1), some (.int x2), some (.int x3)]) (S2 := []) (h' := h) (h2 := h) rfl rfl (fun hc => ?_) (fun hc => ?_)
  · have c1 := hc
    refine k_n 1 (pc' := 15) (L' := [some (.int x1), some (.int x2), some (.int x3)]) (S' := [.int (0 : Int32)]) (h' := h) rfl ?_
    rw [show z_bt (¬ (x1 < x2) ∧ (¬ (x3 < x1))) = 0 from z_bt_0.mpr ((fun q => q.1 c1))] at hj3
    exact hj3
  · have c1 := hc
    refine k_n 2 (pc' := 7) (L' := [some (.int x1), some (.int x2), some (.int x3)]) (S' := [.int x3, .int x1]) (h' := h) rfl ?_
    refine k_b (g := x3 < x1) (pc' := 14) (L' := [some (.int x1), some (.int x2), some (.int x3)]) (S' := []) (pc2 := 10) (L2 := [some (.int x1), some (.int x2), some (.int x3)]) (S2 := []) (h' := h) (h2 := h) rfl rfl (fun hc => ?_) (fun hc => ?_)
    · have c2 := hc
      refine k_n 1 (pc' := 15) (L' := [some (.int x1), some (.int x2), some (.int x3)]) (S' := [.int (0 : Int32)]) (h' := h) rfl ?_
      rw [show z_bt (¬ (x1 < x2) ∧ (¬ (x3 < x1))) = 0 from z_bt_0.mpr ((fun q => (fun q => q c2) q.2))] at hj3
      exact hj3
    · have c2 := hc
      refine k_n 2 (pc' := 15) (L' := [some (.int x1), some (.int x2), some (.int x3)]) (S' := [.int (1 : Int32)]) (h' := h) rfl ?_
      rw [show z_bt (¬ (x1 < x2) ∧ (¬ (x3 < x1))) = 1 from z_bt_1.mpr (⟨c1, c2⟩)] at hj3
      exact hj3
set_option maxRecDepth 20000 in
theorem X_145 (x1 : Int32) (h : zH)  {Q : Int32 → zH → Prop} (H : Q (z_bt (¬ (x1 = 0))) h) : KK z_pI 145 [.int x1] h Q := by
  refine k_K (L := [some (.int x1)]) rfl ?_
  refine k_n 1 (pc' := 1) (L' := [some (.int x1)]) (S' := [.int x1]) (h' := h) rfl ?_
  have hj2 : KG z_pI 145 9 [some (.int x1)] [.int (z_bt (¬ (x1 = 0)))] h Q := by
    exact k_r rfl rfl rfl H
  refine k_b (g := x1 = 0) (pc' := 8) (L' := [some (.int x1)]) (S' := []) (pc2 := 4) (L2 := [some (.int x1)]) (S2 := []) (h' := h) (h2 := h) rfl rfl (fun hc => ?_) (fun hc => ?_)
  · have c1 := hc
    refine k_n 1 (pc' := 9) (L' := [some (.int x1)]) (S' := [.int (0 : Int32)]) (h' := h) rfl ?_
    rw [show z_bt (¬ (x1 = 0)) = 0 from z_bt_0.mpr ((fun q => q c1))] at hj2
    exact hj2
  · have c1 := hc
    refine k_n 2 (pc' := 9) (L' := [some (.int x1)]) (S' := [.int (1 : Int32)]) (h' := h) rfl ?_
    rw [show z_bt (¬ (x1 = 0)) = 1 from z_bt_1.mpr (c1)] at hj2
    exact hj2
theorem C_145 (x1 : Int32) (h : zH)   {Q : Int32 → zH → Prop} (q : Q (z_bt (¬ (x1 = 0))) h) : KK z_pI 145 [.int x1] h Q := by
  refine X_145 x1 h   ?_
  exact q
theorem c_within (v a b : Int32) (h : zH) {Q : Int32 → zH → Prop} (q : Q (z_bt (a ≤ v ∧ v ≤ b)) h) : KK z_pI 135 [.int v, .int a, .int b] h Q := by
  refine X_135 v a b h ?_
  have : z_bt (¬ v < a ∧ ¬ b < v) = z_bt (a ≤ v ∧ v ≤ b) := by
    unfold z_bt
    simp only [Int32.not_lt]
  rw [this]
  exact q
theorem c_bit (P : Prop) [Decidable P] (h : zH) {Q : Int32 → zH → Prop} (q : Q (z_bt P) h) : KK z_pI 145 [.int (z_bt P)] h Q := by
  refine X_145 _ h ?_
  have : z_bt (¬ z_bt P = 0) = z_bt P := by
    by_cases hP : P <;> simp [z_bt, hP]
  rw [this]
  exact q

set_option maxRecDepth 20000 in
theorem X_136 (x1 : Int32) (h : zH)  {Q : Int32 → zH → Prop} (H : Q (z_bt ((1 : Int32) ≤ x1 ∧ x1 ≤ (300 : Int32))) h) : KK z_pI 136 [.int x1] h Q := by
  refine k_K (L := [some (.int x1)]) rfl ?_
  refine k_n 3 (pc' := 5) (L' := [some (.int x1)]) (S' := [.int (300 : Int32), .int (1 : Int32), .int x1]) (h' := h) rfl ?_
  refine k_cI 135 3 rfl rfl rfl (A := [.int x1, .int (1 : Int32), .int (300 : Int32)]) rfl rfl rfl (rest := []) rfl (z_tyI rfl rfl) ?_
  refine c_within x1 (1 : Int32) (300 : Int32) h ?_
  exact k_r rfl (z_retB z_bt_01) rfl H
theorem C_136 (x1 : Int32) (h : zH)   {Q : Int32 → zH → Prop} (q : Q (z_bt ((1 : Int32) ≤ x1 ∧ x1 ≤ (300 : Int32))) h) : KK z_pI 136 [.int x1] h Q := by
  refine X_136 x1 h   ?_
  exact q
set_option maxRecDepth 20000 in
theorem X_137 (x1 : Int32) (h : zH)  {Q : Int32 → zH → Prop} (H : Q (z_bt ((1 : Int32) ≤ x1 ∧ x1 ≤ (99 : Int32))) h) : KK z_pI 137 [.int x1] h Q := by
  refine k_K (L := [some (.int x1)]) rfl ?_
  refine k_n 3 (pc' := 4) (L' := [some (.int x1)]) (S' := [.int (99 : Int32), .int (1 : Int32), .int x1]) (h' := h) rfl ?_
  refine k_cI 135 3 rfl rfl rfl (A := [.int x1, .int (1 : Int32), .int (99 : Int32)]) rfl rfl rfl (rest := []) rfl (z_tyI rfl rfl) ?_
  refine c_within x1 (1 : Int32) (99 : Int32) h ?_
  exact k_r rfl (z_retB z_bt_01) rfl H
theorem C_137 (x1 : Int32) (h : zH)   {Q : Int32 → zH → Prop} (q : Q (z_bt ((1 : Int32) ≤ x1 ∧ x1 ≤ (99 : Int32))) h) : KK z_pI 137 [.int x1] h Q := by
  refine X_137 x1 h   ?_
  exact q
set_option maxRecDepth 20000 in
theorem X_138 (x1 : Int32) (h : zH)  {Q : Int32 → zH → Prop} (H : Q (z_bt ((1 : Int32) ≤ x1 ∧ x1 ≤ (99 : Int32))) h) : KK z_pI 138 [.int x1] h Q := by
  refine k_K (L := [some (.int x1)]) rfl ?_
  refine k_n 3 (pc' := 4) (L' := [some (.int x1)]) (S' := [.int (99 : Int32), .int (1 : Int32), .int x1]) (h' := h) rfl ?_
  refine k_cI 135 3 rfl rfl rfl (A := [.int x1, .int (1 : Int32), .int (99 : Int32)]) rfl rfl rfl (rest := []) rfl (z_tyI rfl rfl) ?_
  refine c_within x1 (1 : Int32) (99 : Int32) h ?_
  exact k_r rfl (z_retB z_bt_01) rfl H
theorem C_138 (x1 : Int32) (h : zH)   {Q : Int32 → zH → Prop} (q : Q (z_bt ((1 : Int32) ≤ x1 ∧ x1 ≤ (99 : Int32))) h) : KK z_pI 138 [.int x1] h Q := by
  refine X_138 x1 h   ?_
  exact q
set_option maxRecDepth 20000 in
theorem X_139 (x1 : Int32) (h : zH)  {Q : Int32 → zH → Prop} (H : Q (z_bt ((1 : Int32) ≤ x1 ∧ x1 ≤ (9999 : Int32))) h) : KK z_pI 139 [.int x1] h Q := by
  refine k_K (L := [some (.int x1)]) rfl ?_
  refine k_n 3 (pc' := 5) (L' := [some (.int x1)]) (S' := [.int (9999 : Int32), .int (1 : Int32), .int x1]) (h' := h) rfl ?_
  refine k_cI 135 3 rfl rfl rfl (A := [.int x1, .int (1 : Int32), .int (9999 : Int32)]) rfl rfl rfl (rest := []) rfl (z_tyI rfl rfl) ?_
  refine c_within x1 (1 : Int32) (9999 : Int32) h ?_
  exact k_r rfl (z_retB z_bt_01) rfl H
theorem C_139 (x1 : Int32) (h : zH)   {Q : Int32 → zH → Prop} (q : Q (z_bt ((1 : Int32) ≤ x1 ∧ x1 ≤ (9999 : Int32))) h) : KK z_pI 139 [.int x1] h Q := by
  refine X_139 x1 h   ?_
  exact q
set_option maxRecDepth 20000 in
theorem X_140 (x1 : Int32) (h : zH)  {Q : Int32 → zH → Prop} (H : Q (z_bt ((0 : Int32) ≤ x1 ∧ x1 ≤ (999 : Int32))) h) : KK z_pI 140 [.int x1] h Q := by
  refine k_K (L := [some (.int x1)]) rfl ?_
  refine k_n 3 (pc' := 5) (L' := [some (.int x1)]) (S' := [.int (999 : Int32), .int (0 : Int32), .int x1]) (h' := h) rfl ?_
  refine k_cI 135 3 rfl rfl rfl (A := [.int x1, .int (0 : Int32), .int (999 : Int32)]) rfl rfl rfl (rest := []) rfl (z_tyI rfl rfl) ?_
  refine c_within x1 (0 : Int32) (999 : Int32) h ?_
  exact k_r rfl (z_retB z_bt_01) rfl H
theorem C_140 (x1 : Int32) (h : zH)   {Q : Int32 → zH → Prop} (q : Q (z_bt ((0 : Int32) ≤ x1 ∧ x1 ≤ (999 : Int32))) h) : KK z_pI 140 [.int x1] h Q := by
  refine X_140 x1 h   ?_
  exact q
set_option maxRecDepth 20000 in
theorem X_141 (x1 : Int32) (h : zH)  {Q : Int32 → zH → Prop} (H : Q (z_bt ((0 : Int32) ≤ x1 ∧ x1 ≤ (7 : Int32))) h) : KK z_pI 141 [.int x1] h Q := by
  refine k_K (L := [some (.int x1)]) rfl ?_
  refine k_n 3 (pc' := 4) (L' := [some (.int x1)]) (S' := [.int (7 : Int32), .int (0 : Int32), .int x1]) (h' := h) rfl ?_
  refine k_cI 135 3 rfl rfl rfl (A := [.int x1, .int (0 : Int32), .int (7 : Int32)]) rfl rfl rfl (rest := []) rfl (z_tyI rfl rfl) ?_
  refine c_within x1 (0 : Int32) (7 : Int32) h ?_
  exact k_r rfl (z_retB z_bt_01) rfl H
theorem C_141 (x1 : Int32) (h : zH)   {Q : Int32 → zH → Prop} (q : Q (z_bt ((0 : Int32) ≤ x1 ∧ x1 ≤ (7 : Int32))) h) : KK z_pI 141 [.int x1] h Q := by
  refine X_141 x1 h   ?_
  exact q
set_option maxRecDepth 20000 in
theorem X_142 (x1 : Int32) (h : zH)  {Q : Int32 → zH → Prop} (H : Q (z_bt ((0 : Int32) ≤ x1 ∧ x1 ≤ (3 : Int32))) h) : KK z_pI 142 [.int x1] h Q := by
  refine k_K (L := [some (.int x1)]) rfl ?_
  refine k_n 3 (pc' := 3) (L' := [some (.int x1)]) (S' := [.int (3 : Int32), .int (0 : Int32), .int x1]) (h' := h) rfl ?_
  refine k_cI 135 3 rfl rfl rfl (A := [.int x1, .int (0 : Int32), .int (3 : Int32)]) rfl rfl rfl (rest := []) rfl (z_tyI rfl rfl) ?_
  refine c_within x1 (0 : Int32) (3 : Int32) h ?_
  exact k_r rfl (z_retB z_bt_01) rfl H
theorem C_142 (x1 : Int32) (h : zH)   {Q : Int32 → zH → Prop} (q : Q (z_bt ((0 : Int32) ≤ x1 ∧ x1 ≤ (3 : Int32))) h) : KK z_pI 142 [.int x1] h Q := by
  refine X_142 x1 h   ?_
  exact q
set_option maxRecDepth 20000 in
theorem X_143 (x1 : Int32) (h : zH)  {Q : Int32 → zH → Prop} (H : Q (z_bt ((0 : Int32) ≤ x1 ∧ x1 ≤ (2 : Int32))) h) : KK z_pI 143 [.int x1] h Q := by
  refine k_K (L := [some (.int x1)]) rfl ?_
  refine k_n 3 (pc' := 3) (L' := [some (.int x1)]) (S' := [.int (2 : Int32), .int (0 : Int32), .int x1]) (h' := h) rfl ?_
  refine k_cI 135 3 rfl rfl rfl (A := [.int x1, .int (0 : Int32), .int (2 : Int32)]) rfl rfl rfl (rest := []) rfl (z_tyI rfl rfl) ?_
  refine c_within x1 (0 : Int32) (2 : Int32) h ?_
  exact k_r rfl (z_retB z_bt_01) rfl H
theorem C_143 (x1 : Int32) (h : zH)   {Q : Int32 → zH → Prop} (q : Q (z_bt ((0 : Int32) ≤ x1 ∧ x1 ≤ (2 : Int32))) h) : KK z_pI 143 [.int x1] h Q := by
  refine X_143 x1 h   ?_
  exact q
set_option maxRecDepth 20000 in
theorem X_144 (x1 : Int32) (x2 : Int32) (x3 : Int32) (h : zH)  {Q : Int32 → zH → Prop} (H : if (1 : Int32) ≤ x1 ∧ x1 ≤ (24 : Int32) then (if (0 : Int32) ≤ x2 ∧ x2 ≤ (9999 : Int32) then (Q (z_bt ((0 : Int32) ≤ x3 ∧ x3 ≤ (99999 : Int32))) h) else (Q (0 : Int32) h)) else (Q (0 : Int32) h)) : KK z_pI 144 [.int x1, .int x2, .int x3] h Q := by
  refine k_K (L := [some (.int x1), some (.int x2), some (.int x3)]) rfl ?_
  refine k_n 3 (pc' := 4) (L' := [some (.int x1), some (.int x2), some (.int x3)]) (S' := [.int (24 : Int32), .int (1 : Int32), .int x1]) (h' := h) rfl ?_
  refine k_cI 135 3 rfl rfl rfl (A := [.int x1, .int (1 : Int32), .int (24 : Int32)]) rfl rfl rfl (rest := []) rfl (z_tyI rfl rfl) ?_
  refine c_within x1 (1 : Int32) (24 : Int32) h ?_
  refine k_b (g := z_bt ((1 : Int32) ≤ x1 ∧ x1 ≤ (24 : Int32)) = 0) (pc' := 36) (L' := [some (.int x1), some (.int x2), some (.int x3)]) (S' := []) (pc2 := 10) (L2 := [some (.int x1), some (.int x2), some (.int x3)]) (S2 := []) (h' := h) (h2 := h) rfl rfl (fun hc => ?_) (fun hc => ?_)
  · have hc := z_bt_0.mp hc
    rw [if_neg hc] at H
    refine k_n 1 (pc' := 37) (L' := [some (.int x1), some (.int x2), some (.int x3)]) (S' := [.int (0 : Int32)]) (h' := h) rfl ?_
    exact k_r rfl rfl rfl H
  · have hc := Decidable.not_not.mp (fun q => hc (z_bt_0.mpr q))
    rw [if_pos hc] at H
    refine k_n 3 (pc' := 15) (L' := [some (.int x1), some (.int x2), some (.int x3)]) (S' := [.int (9999 : Int32), .int (0 : Int32), .int x2]) (h' := h) rfl ?_
    refine k_cI 135 3 rfl rfl rfl (A := [.int x2, .int (0 : Int32), .int (9999 : Int32)]) rfl rfl rfl (rest := []) rfl (z_tyI rfl rfl) ?_
    refine c_within x2 (0 : Int32) (9999 : Int32) h ?_
    refine k_b (g := z_bt ((0 : Int32) ≤ x2 ∧ x2 ≤ (9999 : Int32)) = 0) (pc' := 36) (L' := [some (.int x1), some (.int x2), some (.int x3)]) (S' := []) (pc2 := 21) (L2 := [some (.int x1), some (.int x2), some (.int x3)]) (S2 := []) (h' := h) (h2 := h) rfl rfl (fun hc => ?_) (fun hc => ?_)
    · have hc := z_bt_0.mp hc
      rw [if_neg hc] at H
      refine k_n 1 (pc' := 37) (L' := [some (.int x1), some (.int x2), some (.int x3)]) (S' := [.int (0 : Int32)]) (h' := h) rfl ?_
      exact k_r rfl rfl rfl H
    · have hc := Decidable.not_not.mp (fun q => hc (z_bt_0.mpr q))
      rw [if_pos hc] at H
      refine k_n 3 (pc' := 26) (L' := [some (.int x1), some (.int x2), some (.int x3)]) (S' := [.int (99999 : Int32), .int (0 : Int32), .int x3]) (h' := h) rfl ?_
      refine k_cI 135 3 rfl rfl rfl (A := [.int x3, .int (0 : Int32), .int (99999 : Int32)]) rfl rfl rfl (rest := []) rfl (z_tyI rfl rfl) ?_
      refine c_within x3 (0 : Int32) (99999 : Int32) h ?_
      have hj2 : KG z_pI 144 37 [some (.int x1), some (.int x2), some (.int x3)] [.int (z_bt ((0 : Int32) ≤ x3 ∧ x3 ≤ (99999 : Int32)))] h Q := by
        exact k_r rfl (z_retB z_bt_01) rfl H
      refine k_b (g := z_bt ((0 : Int32) ≤ x3 ∧ x3 ≤ (99999 : Int32)) = 0) (pc' := 36) (L' := [some (.int x1), some (.int x2), some (.int x3)]) (S' := []) (pc2 := 32) (L2 := [some (.int x1), some (.int x2), some (.int x3)]) (S2 := []) (h' := h) (h2 := h) rfl rfl (fun hc => ?_) (fun hc => ?_)
      · have c1 := z_bt_0.mp hc
        refine k_n 1 (pc' := 37) (L' := [some (.int x1), some (.int x2), some (.int x3)]) (S' := [.int (0 : Int32)]) (h' := h) rfl ?_
        rw [show z_bt ((0 : Int32) ≤ x3 ∧ x3 ≤ (99999 : Int32)) = 0 from z_bt_0.mpr (c1)] at hj2
        exact hj2
      · have c1 := Decidable.not_not.mp (fun q => hc (z_bt_0.mpr q))
        refine k_n 2 (pc' := 37) (L' := [some (.int x1), some (.int x2), some (.int x3)]) (S' := [.int (1 : Int32)]) (h' := h) rfl ?_
        rw [show z_bt ((0 : Int32) ≤ x3 ∧ x3 ≤ (99999 : Int32)) = 1 from z_bt_1.mpr (c1)] at hj2
        exact hj2
theorem C_144 (x1 : Int32) (x2 : Int32) (x3 : Int32) (h : zH)   {Q : Int32 → zH → Prop} (q : Q (z_bt (((1 : Int32) ≤ x1 ∧ x1 ≤ (24 : Int32)) ∧ (((0 : Int32) ≤ x2 ∧ x2 ≤ (9999 : Int32)) ∧ ((0 : Int32) ≤ x3 ∧ x3 ≤ (99999 : Int32))))) h) : KK z_pI 144 [.int x1, .int x2, .int x3] h Q := by
  refine X_144 x1 x2 x3 h   ?_
  refine z_ifd (fun c1_0 => ?_) (fun c1_0 => ?_)
  ·
    refine z_ifd (fun c2_0 => ?_) (fun c2_0 => ?_)
    ·
      exact (z_cg (Q := fun v_ => Q v_ h) (by simp [z_bt, c1_0, c2_0]) q)
    ·
      exact (z_cg (Q := fun v_ => Q v_ h) (by simp [z_bt, c1_0, c2_0]) q)
  ·
    exact (z_cg (Q := fun v_ => Q v_ h) (by simp [z_bt, c1_0]) q)
set_option maxRecDepth 20000 in
theorem X_148 (x1 : Int32) (h : zH) (W : CW h)  {Q : Option Nat → zH → Prop} (H : if (0 : Int32) ≤ x1 ∧ x1 ≤ ((z_iv h 0 12) - (1 : Int32)) then (if (6 : Int32) ≤ x1 then (Q none h) else ((0 ≤ x1.toInt ∧ x1.toInt < 6) ∧ ((z_rv h 1 (z_ix x1) = none → Q none h) ∧ (∀ b3, z_rv h 1 (z_ix x1) = some b3 → Q (some b3) h)))) else (Q none h)) : KK z_pA 148 [.ref 0, .int x1] h Q := by
  refine k_K (L := [some (.ref 0), some (.int x1)]) rfl ?_
  refine k_n 3 (pc' := 3) (L' := [some (.ref 0), some (.int x1)]) (S' := [.ref 0, .int (0 : Int32), .int x1]) (h' := h) rfl ?_
  refine k_gI rfl rfl W.t0 ?_
  refine k_n 2 (pc' := 8) (L' := [some (.ref 0), some (.int x1)]) (S' := [.int ((z_iv h 0 12) - (1 : Int32)), .int (0 : Int32), .int x1]) (h' := h) rfl ?_
  refine k_cI 135 3 rfl rfl rfl (A := [.int x1, .int (0 : Int32), .int ((z_iv h 0 12) - (1 : Int32))]) rfl rfl rfl (rest := []) rfl (z_tyI rfl rfl) ?_
  refine c_within x1 (0 : Int32) ((z_iv h 0 12) - (1 : Int32)) h ?_
  refine k_b (g := z_bt ((0 : Int32) ≤ x1 ∧ x1 ≤ ((z_iv h 0 12) - (1 : Int32))) = 0) (pc' := 29) (L' := [some (.ref 0), some (.int x1)]) (S' := []) (pc2 := 14) (L2 := [some (.ref 0), some (.int x1)]) (S2 := []) (h' := h) (h2 := h) rfl rfl (fun hc => ?_) (fun hc => ?_)
  · have hc := z_bt_0.mp hc
    rw [if_neg hc] at H
    refine k_n 1 (pc' := 30) (L' := [some (.ref 0), some (.int x1)]) (S' := [.null]) (h' := h) rfl ?_
    exact k_r rfl (z_retN (by decide)) rfl H
  · have hc := Decidable.not_not.mp (fun q => hc (z_bt_0.mpr q))
    rw [if_pos hc] at H
    refine k_n 2 (pc' := 17) (L' := [some (.ref 0), some (.int x1)]) (S' := [.int (6 : Int32), .int x1]) (h' := h) rfl ?_
    refine k_b (g := (6 : Int32) ≤ x1) (pc' := 29) (L' := [some (.ref 0), some (.int x1)]) (S' := []) (pc2 := 20) (L2 := [some (.ref 0), some (.int x1)]) (S2 := []) (h' := h) (h2 := h) rfl rfl (fun hc => ?_) (fun hc => ?_)
    · have hc := hc
      rw [if_pos hc] at H
      refine k_n 1 (pc' := 30) (L' := [some (.ref 0), some (.int x1)]) (S' := [.null]) (h' := h) rfl ?_
      exact k_r rfl (z_retN (by decide)) rfl H
    · have hc := hc
      rw [if_neg hc] at H
      refine k_n 1 (pc' := 21) (L' := [some (.ref 0), some (.int x1)]) (S' := [.ref 0]) (h' := h) rfl ?_
      refine k_gS (b := 1) rfl W.t0 (W.abOf (t := 11) (j := 0) (o := 1) (n := 6) (by decide) W.t0).1 ?_
      refine k_n 1 (pc' := 25) (L' := [some (.ref 0), some (.int x1)]) (S' := [.int x1, .ref 1]) (h' := h) rfl ?_
      obtain ⟨o1, H⟩ := H
      obtain hb2 | ⟨b3, hb2⟩ := z_opt (z_rv h 1 (z_ix x1))
      · have H := H.1 hb2
        refine k_aN rfl (CW.tyOf (t := 11) (t' := 102) W (j := 0) W.t0 (W.abOf (t := 11) (j := 0) (o := 1) (n := 6) (by decide) W.t0).1 (by decide) rfl) rfl (W.abOf (t := 11) (j := 0) (o := 1) (n := 6) (by decide) W.t0).2 o1 hb2 ?_
        refine k_n 1 (pc' := 30) (L' := [some (.ref 0), some (.int x1)]) (S' := [.null]) (h' := h) rfl ?_
        exact k_r rfl (z_retN (by decide)) rfl H
      · have H := H.2 b3 hb2
        have t4 : z_tg h b3 = 4 := (CW.tyOf (t := 102) (t' := 4) W (CW.tyOf (t := 11) (t' := 102) W (j := 0) W.t0 (W.abOf (t := 11) (j := 0) (o := 1) (n := 6) (by decide) W.t0).1 (by decide) rfl) hb2 (by decide) rfl)
        refine k_aS rfl (CW.tyOf (t := 11) (t' := 102) W (j := 0) W.t0 (W.abOf (t := 11) (j := 0) (o := 1) (n := 6) (by decide) W.t0).1 (by decide) rfl) rfl (W.abOf (t := 11) (j := 0) (o := 1) (n := 6) (by decide) W.t0).2 o1 hb2 ?_
        refine k_n 1 (pc' := 30) (L' := [some (.ref 0), some (.int x1)]) (S' := [.ref b3]) (h' := h) rfl ?_
        exact k_r rfl (z_retA (by decide)) rfl H
set_option maxRecDepth 20000 in
theorem X_149 (x1 : Int32) (h : zH) (W : CW h)  {Q : Option Nat → zH → Prop} (H : if (0 : Int32) ≤ x1 ∧ x1 ≤ ((z_iv h 0 13) - (1 : Int32)) then (if (12 : Int32) ≤ x1 then (Q none h) else ((0 ≤ x1.toInt ∧ x1.toInt < 12) ∧ ((z_rv h 2 (z_ix x1) = none → Q none h) ∧ (∀ b3, z_rv h 2 (z_ix x1) = some b3 → Q (some b3) h)))) else (Q none h)) : KK z_pA 149 [.ref 0, .int x1] h Q := by
  refine k_K (L := [some (.ref 0), some (.int x1)]) rfl ?_
  refine k_n 3 (pc' := 3) (L' := [some (.ref 0), some (.int x1)]) (S' := [.ref 0, .int (0 : Int32), .int x1]) (h' := h) rfl ?_
  refine k_gI rfl rfl W.t0 ?_
  refine k_n 2 (pc' := 8) (L' := [some (.ref 0), some (.int x1)]) (S' := [.int ((z_iv h 0 13) - (1 : Int32)), .int (0 : Int32), .int x1]) (h' := h) rfl ?_
  refine k_cI 135 3 rfl rfl rfl (A := [.int x1, .int (0 : Int32), .int ((z_iv h 0 13) - (1 : Int32))]) rfl rfl rfl (rest := []) rfl (z_tyI rfl rfl) ?_
  refine c_within x1 (0 : Int32) ((z_iv h 0 13) - (1 : Int32)) h ?_
  refine k_b (g := z_bt ((0 : Int32) ≤ x1 ∧ x1 ≤ ((z_iv h 0 13) - (1 : Int32))) = 0) (pc' := 29) (L' := [some (.ref 0), some (.int x1)]) (S' := []) (pc2 := 14) (L2 := [some (.ref 0), some (.int x1)]) (S2 := []) (h' := h) (h2 := h) rfl rfl (fun hc => ?_) (fun hc => ?_)
  · have hc := z_bt_0.mp hc
    rw [if_neg hc] at H
    refine k_n 1 (pc' := 30) (L' := [some (.ref 0), some (.int x1)]) (S' := [.null]) (h' := h) rfl ?_
    exact k_r rfl (z_retN (by decide)) rfl H
  · have hc := Decidable.not_not.mp (fun q => hc (z_bt_0.mpr q))
    rw [if_pos hc] at H
    refine k_n 2 (pc' := 17) (L' := [some (.ref 0), some (.int x1)]) (S' := [.int (12 : Int32), .int x1]) (h' := h) rfl ?_
    refine k_b (g := (12 : Int32) ≤ x1) (pc' := 29) (L' := [some (.ref 0), some (.int x1)]) (S' := []) (pc2 := 20) (L2 := [some (.ref 0), some (.int x1)]) (S2 := []) (h' := h) (h2 := h) rfl rfl (fun hc => ?_) (fun hc => ?_)
    · have hc := hc
      rw [if_pos hc] at H
      refine k_n 1 (pc' := 30) (L' := [some (.ref 0), some (.int x1)]) (S' := [.null]) (h' := h) rfl ?_
      exact k_r rfl (z_retN (by decide)) rfl H
    · have hc := hc
      rw [if_neg hc] at H
      refine k_n 1 (pc' := 21) (L' := [some (.ref 0), some (.int x1)]) (S' := [.ref 0]) (h' := h) rfl ?_
      refine k_gS (b := 2) rfl W.t0 (W.abOf (t := 11) (j := 1) (o := 2) (n := 12) (by decide) W.t0).1 ?_
      refine k_n 1 (pc' := 25) (L' := [some (.ref 0), some (.int x1)]) (S' := [.int x1, .ref 2]) (h' := h) rfl ?_
      obtain ⟨o1, H⟩ := H
      obtain hb2 | ⟨b3, hb2⟩ := z_opt (z_rv h 2 (z_ix x1))
      · have H := H.1 hb2
        refine k_aN rfl (CW.tyOf (t := 11) (t' := 103) W (j := 1) W.t0 (W.abOf (t := 11) (j := 1) (o := 2) (n := 12) (by decide) W.t0).1 (by decide) rfl) rfl (W.abOf (t := 11) (j := 1) (o := 2) (n := 12) (by decide) W.t0).2 o1 hb2 ?_
        refine k_n 1 (pc' := 30) (L' := [some (.ref 0), some (.int x1)]) (S' := [.null]) (h' := h) rfl ?_
        exact k_r rfl (z_retN (by decide)) rfl H
      · have H := H.2 b3 hb2
        have t4 : z_tg h b3 = 3 := (CW.tyOf (t := 103) (t' := 3) W (CW.tyOf (t := 11) (t' := 103) W (j := 1) W.t0 (W.abOf (t := 11) (j := 1) (o := 2) (n := 12) (by decide) W.t0).1 (by decide) rfl) hb2 (by decide) rfl)
        refine k_aS rfl (CW.tyOf (t := 11) (t' := 103) W (j := 1) W.t0 (W.abOf (t := 11) (j := 1) (o := 2) (n := 12) (by decide) W.t0).1 (by decide) rfl) rfl (W.abOf (t := 11) (j := 1) (o := 2) (n := 12) (by decide) W.t0).2 o1 hb2 ?_
        refine k_n 1 (pc' := 30) (L' := [some (.ref 0), some (.int x1)]) (S' := [.ref b3]) (h' := h) rfl ?_
        exact k_r rfl (z_retA (by decide)) rfl H
set_option maxRecDepth 20000 in
theorem X_150 (x1 : Int32) (h : zH) (W : CW h)  {Q : Option Nat → zH → Prop} (H : if (0 : Int32) ≤ x1 ∧ x1 ≤ ((z_iv h 0 14) - (1 : Int32)) then (if (60 : Int32) ≤ x1 then (Q none h) else ((0 ≤ x1.toInt ∧ x1.toInt < 60) ∧ ((z_rv h 3 (z_ix x1) = none → Q none h) ∧ (∀ b3, z_rv h 3 (z_ix x1) = some b3 → Q (some b3) h)))) else (Q none h)) : KK z_pA 150 [.ref 0, .int x1] h Q := by
  refine k_K (L := [some (.ref 0), some (.int x1)]) rfl ?_
  refine k_n 3 (pc' := 3) (L' := [some (.ref 0), some (.int x1)]) (S' := [.ref 0, .int (0 : Int32), .int x1]) (h' := h) rfl ?_
  refine k_gI rfl rfl W.t0 ?_
  refine k_n 2 (pc' := 8) (L' := [some (.ref 0), some (.int x1)]) (S' := [.int ((z_iv h 0 14) - (1 : Int32)), .int (0 : Int32), .int x1]) (h' := h) rfl ?_
  refine k_cI 135 3 rfl rfl rfl (A := [.int x1, .int (0 : Int32), .int ((z_iv h 0 14) - (1 : Int32))]) rfl rfl rfl (rest := []) rfl (z_tyI rfl rfl) ?_
  refine c_within x1 (0 : Int32) ((z_iv h 0 14) - (1 : Int32)) h ?_
  refine k_b (g := z_bt ((0 : Int32) ≤ x1 ∧ x1 ≤ ((z_iv h 0 14) - (1 : Int32))) = 0) (pc' := 29) (L' := [some (.ref 0), some (.int x1)]) (S' := []) (pc2 := 14) (L2 := [some (.ref 0), some (.int x1)]) (S2 := []) (h' := h) (h2 := h) rfl rfl (fun hc => ?_) (fun hc => ?_)
  · have hc := z_bt_0.mp hc
    rw [if_neg hc] at H
    refine k_n 1 (pc' := 30) (L' := [some (.ref 0), some (.int x1)]) (S' := [.null]) (h' := h) rfl ?_
    exact k_r rfl (z_retN (by decide)) rfl H
  · have hc := Decidable.not_not.mp (fun q => hc (z_bt_0.mpr q))
    rw [if_pos hc] at H
    refine k_n 2 (pc' := 17) (L' := [some (.ref 0), some (.int x1)]) (S' := [.int (60 : Int32), .int x1]) (h' := h) rfl ?_
    refine k_b (g := (60 : Int32) ≤ x1) (pc' := 29) (L' := [some (.ref 0), some (.int x1)]) (S' := []) (pc2 := 20) (L2 := [some (.ref 0), some (.int x1)]) (S2 := []) (h' := h) (h2 := h) rfl rfl (fun hc => ?_) (fun hc => ?_)
    · have hc := hc
      rw [if_pos hc] at H
      refine k_n 1 (pc' := 30) (L' := [some (.ref 0), some (.int x1)]) (S' := [.null]) (h' := h) rfl ?_
      exact k_r rfl (z_retN (by decide)) rfl H
    · have hc := hc
      rw [if_neg hc] at H
      refine k_n 1 (pc' := 21) (L' := [some (.ref 0), some (.int x1)]) (S' := [.ref 0]) (h' := h) rfl ?_
      refine k_gS (b := 3) rfl W.t0 (W.abOf (t := 11) (j := 2) (o := 3) (n := 60) (by decide) W.t0).1 ?_
      refine k_n 1 (pc' := 25) (L' := [some (.ref 0), some (.int x1)]) (S' := [.int x1, .ref 3]) (h' := h) rfl ?_
      obtain ⟨o1, H⟩ := H
      obtain hb2 | ⟨b3, hb2⟩ := z_opt (z_rv h 3 (z_ix x1))
      · have H := H.1 hb2
        refine k_aN rfl (CW.tyOf (t := 11) (t' := 104) W (j := 2) W.t0 (W.abOf (t := 11) (j := 2) (o := 3) (n := 60) (by decide) W.t0).1 (by decide) rfl) rfl (W.abOf (t := 11) (j := 2) (o := 3) (n := 60) (by decide) W.t0).2 o1 hb2 ?_
        refine k_n 1 (pc' := 30) (L' := [some (.ref 0), some (.int x1)]) (S' := [.null]) (h' := h) rfl ?_
        exact k_r rfl (z_retN (by decide)) rfl H
      · have H := H.2 b3 hb2
        have t4 : z_tg h b3 = 5 := (CW.tyOf (t := 104) (t' := 5) W (CW.tyOf (t := 11) (t' := 104) W (j := 2) W.t0 (W.abOf (t := 11) (j := 2) (o := 3) (n := 60) (by decide) W.t0).1 (by decide) rfl) hb2 (by decide) rfl)
        refine k_aS rfl (CW.tyOf (t := 11) (t' := 104) W (j := 2) W.t0 (W.abOf (t := 11) (j := 2) (o := 3) (n := 60) (by decide) W.t0).1 (by decide) rfl) rfl (W.abOf (t := 11) (j := 2) (o := 3) (n := 60) (by decide) W.t0).2 o1 hb2 ?_
        refine k_n 1 (pc' := 30) (L' := [some (.ref 0), some (.int x1)]) (S' := [.ref b3]) (h' := h) rfl ?_
        exact k_r rfl (z_retA (by decide)) rfl H
set_option maxRecDepth 20000 in
theorem X_44 (a0 : Nat) (h : zH) (W : CW h) (T0 : z_tg h a0 = 4) {Q : Option Nat → zH → Prop} (H : (z_rv h a0 10 = none → Q none h) ∧ (∀ b2, z_rv h a0 10 = some b2 → if (z_iv h b2 10) = 0 then (Q (some b2) h) else (Q none h))) : KK z_pA 44 [.ref a0] h Q := by
  refine k_K (L := [some (.ref a0)]) rfl ?_
  refine k_n 1 (pc' := 1) (L' := [some (.ref a0)]) (S' := [.ref a0]) (h' := h) rfl ?_
  obtain hb1 | ⟨b2, hb1⟩ := z_opt (z_rv h a0 10)
  · have H := H.1 hb1
    refine k_gN rfl T0 hb1 ?_
    refine k_n 3 (pc' := 25) (L' := [some (.ref a0)]) (S' := [.null]) (h' := h) rfl ?_
    exact k_r rfl (z_retN (by decide)) rfl H
  · have H := H.2 b2 hb1
    have t3 : z_tg h b2 = 3 := (CW.tyOf (t := 4) (t' := 3) W T0 hb1 (by decide) rfl)
    refine k_gS rfl T0 hb1 ?_
    refine k_n 2 (pc' := 8) (L' := [some (.ref a0)]) (S' := [.ref a0]) (h' := h) rfl ?_
    refine k_gS rfl T0 hb1 ?_
    refine k_gI rfl rfl t3 ?_
    refine k_b (g := (z_iv h b2 10) = 0) (pc' := 21) (L' := [some (.ref a0)]) (S' := []) (pc2 := 17) (L2 := [some (.ref a0)]) (S2 := []) (h' := h) (h2 := h) rfl rfl (fun hc => ?_) (fun hc => ?_)
    · have hc := hc
      rw [if_pos hc] at H
      refine k_n 1 (pc' := 22) (L' := [some (.ref a0)]) (S' := [.ref a0]) (h' := h) rfl ?_
      refine k_gS rfl T0 hb1 ?_
      exact k_r rfl (z_retA (by decide)) rfl H
    · have hc := hc
      rw [if_neg hc] at H
      refine k_n 2 (pc' := 25) (L' := [some (.ref a0)]) (S' := [.null]) (h' := h) rfl ?_
      exact k_r rfl (z_retN (by decide)) rfl H
set_option maxRecDepth 20000 in
theorem X_45 (a0 : Nat) (x1 : Int32) (h : zH) (W : CW h) (T0 : z_tg h a0 = 4) {Q : Int32 → zH → Prop} (H : (0 ≤ (s_fm x1 (12 : Int32)).toInt ∧ (s_fm x1 (12 : Int32)).toInt < 12) ∧ Q (z_iv h (a0 + 1) (z_ix (s_fm x1 (12 : Int32)))) h) : KK z_pI 45 [.ref a0, .int x1] h Q := by
  refine k_K (L := [some (.ref a0), some (.int x1)]) rfl ?_
  refine k_n 1 (pc' := 1) (L' := [some (.ref a0), some (.int x1)]) (S' := [.ref a0]) (h' := h) rfl ?_
  refine k_gS (b := (a0 + 1)) rfl T0 (W.reOf (t := 4) (j := 2) (o := 1) (n := 12) (by decide) T0).1 ?_
  refine k_n 2 (pc' := 7) (L' := [some (.ref a0), some (.int x1)]) (S' := [.int (12 : Int32), .int x1, .ref (a0 + 1)]) (h' := h) rfl ?_
  refine k_cI 10 2 rfl rfl rfl (A := [.int x1, .int (12 : Int32)]) rfl rfl rfl (rest := [.ref (a0 + 1)]) rfl (z_tyI rfl rfl) ?_
  refine c_fm x1 (12 : Int32) h (by decide) ?_
  obtain ⟨o1, H⟩ := H
  refine k_ia (c := 0) (n := 12) rfl (CW.tyOf (t := 4) (t' := 100) W (j := 2) T0 (W.reOf (t := 4) (j := 2) (o := 1) (n := 12) (by decide) T0).1 (by decide) rfl) (W.reOf (t := 4) (j := 2) (o := 1) (n := 12) (by decide) T0).2 o1 ?_
  exact k_r rfl rfl rfl H
theorem C_45 (a0 : Nat) (x1 : Int32) (h : zH) (W : CW h) (T0 : z_tg h a0 = 4) (O0 : 0 ≤ (s_fm x1 (12 : Int32)).toInt ∧ (s_fm x1 (12 : Int32)).toInt < 12) {Q : Int32 → zH → Prop} (q : Q (z_iv h (a0 + 1) (z_ix (s_fm x1 (12 : Int32)))) h) : KK z_pI 45 [.ref a0, .int x1] h Q := by
  refine X_45 a0 x1 h W T0 ?_
  refine ⟨O0, ?_⟩
  exact q
set_option maxRecDepth 20000 in
theorem X_39 (a0 : Nat) (x1 : Int32) (x2 : Int32) (h : zH) (W : CW h) (T0 : z_tg h a0 = 3) {Q : Int32 → zH → Prop} (H : Q ((s_up (x1.toInt64 * x2.toInt64) ((z_iv h a0 1).toInt64)).toInt32) h) : KK z_pI 39 [.ref a0, .int x1, .int x2] h Q := by
  refine k_K (L := [some (.ref a0), some (.int x1), some (.int x2)]) rfl ?_
  refine k_n 6 (pc' := 6) (L' := [some (.ref a0), some (.int x1), some (.int x2)]) (S' := [.ref a0, .long (x1.toInt64 * x2.toInt64)]) (h' := h) rfl ?_
  refine k_gI rfl rfl T0 ?_
  refine k_n 1 (pc' := 10) (L' := [some (.ref a0), some (.int x1), some (.int x2)]) (S' := [.long ((z_iv h a0 1).toInt64), .long (x1.toInt64 * x2.toInt64)]) (h' := h) rfl ?_
  refine k_cL 147 2 rfl rfl rfl (A := [.long (x1.toInt64 * x2.toInt64), .long ((z_iv h a0 1).toInt64)]) rfl rfl rfl (rest := []) rfl rfl ?_
  refine c_up (x1.toInt64 * x2.toInt64) ((z_iv h a0 1).toInt64) h  ?_
  refine k_n 1 (pc' := 14) (L' := [some (.ref a0), some (.int x1), some (.int x2)]) (S' := [.int ((s_up (x1.toInt64 * x2.toInt64) ((z_iv h a0 1).toInt64)).toInt32)]) (h' := h) rfl ?_
  exact k_r rfl rfl rfl H
theorem C_39 (a0 : Nat) (x1 : Int32) (x2 : Int32) (h : zH) (W : CW h) (T0 : z_tg h a0 = 3)  {Q : Int32 → zH → Prop} (q : Q ((s_up (x1.toInt64 * x2.toInt64) ((z_iv h a0 1).toInt64)).toInt32) h) : KK z_pI 39 [.ref a0, .int x1, .int x2] h Q := by
  refine X_39 a0 x1 x2 h W T0 ?_
  exact q
set_option maxRecDepth 20000 in
theorem X_40 (a0 : Nat) (x1 : Int32) (x2 : Int32) (x3 : Int32) (h : zH) (W : CW h) (T0 : z_tg h a0 = 3) {Q : Int32 → zH → Prop} (H : Q ((s_up (x1.toInt64 * (z_iv h a0 1).toInt64) (if (1 : Int64) < (s_dn (x2.toInt64 * (100 : Int64)) ((100 : Int64) + x3.toInt64)) then (s_dn (x2.toInt64 * (100 : Int64)) ((100 : Int64) + x3.toInt64)) else (1 : Int64))).toInt32) h) : KK z_pI 40 [.ref a0, .int x1, .int x2, .int x3] h Q := by
  refine k_K (L := [some (.ref a0), some (.int x1), some (.int x2), some (.int x3), none, none]) rfl ?_
  refine k_n 9 (pc' := 13) (L' := [some (.ref a0), some (.int x1), some (.int x2), some (.int x3), none, none]) (S' := [.long ((100 : Int64) + x3.toInt64), .long (x2.toInt64 * (100 : Int64)), .long (1 : Int64)]) (h' := h) rfl ?_
  refine k_cL 146 2 rfl rfl rfl (A := [.long (x2.toInt64 * (100 : Int64)), .long ((100 : Int64) + x3.toInt64)]) rfl rfl rfl (rest := [.long (1 : Int64)]) rfl rfl ?_
  refine c_dn (x2.toInt64 * (100 : Int64)) ((100 : Int64) + x3.toInt64) h  ?_
  refine k_cL 13 2 rfl rfl rfl (A := [.long (1 : Int64), .long (s_dn (x2.toInt64 * (100 : Int64)) ((100 : Int64) + x3.toInt64))]) rfl rfl rfl (rest := []) rfl rfl ?_
  refine C_13 (1 : Int64) (s_dn (x2.toInt64 * (100 : Int64)) ((100 : Int64) + x3.toInt64)) h    ?_
  refine k_n 4 (pc' := 24) (L' := [some (.ref a0), some (.int x1), some (.int x2), some (.int x3), some (.long (if (1 : Int64) < (s_dn (x2.toInt64 * (100 : Int64)) ((100 : Int64) + x3.toInt64)) then (s_dn (x2.toInt64 * (100 : Int64)) ((100 : Int64) + x3.toInt64)) else (1 : Int64))), none]) (S' := [.ref a0, .long x1.toInt64]) (h' := h) rfl ?_
  refine k_gI rfl rfl T0 ?_
  refine k_n 3 (pc' := 31) (L' := [some (.ref a0), some (.int x1), some (.int x2), some (.int x3), some (.long (if (1 : Int64) < (s_dn (x2.toInt64 * (100 : Int64)) ((100 : Int64) + x3.toInt64)) then (s_dn (x2.toInt64 * (100 : Int64)) ((100 : Int64) + x3.toInt64)) else (1 : Int64))), none]) (S' := [.long (if (1 : Int64) < (s_dn (x2.toInt64 * (100 : Int64)) ((100 : Int64) + x3.toInt64)) then (s_dn (x2.toInt64 * (100 : Int64)) ((100 : Int64) + x3.toInt64)) else (1 : Int64)), .long (x1.toInt64 * (z_iv h a0 1).toInt64)]) (h' := h) rfl ?_
  refine k_cL 147 2 rfl rfl rfl (A := [.long (x1.toInt64 * (z_iv h a0 1).toInt64), .long (if (1 : Int64) < (s_dn (x2.toInt64 * (100 : Int64)) ((100 : Int64) + x3.toInt64)) then (s_dn (x2.toInt64 * (100 : Int64)) ((100 : Int64) + x3.toInt64)) else (1 : Int64))]) rfl rfl rfl (rest := []) rfl rfl ?_
  refine c_up (x1.toInt64 * (z_iv h a0 1).toInt64) (if (1 : Int64) < (s_dn (x2.toInt64 * (100 : Int64)) ((100 : Int64) + x3.toInt64)) then (s_dn (x2.toInt64 * (100 : Int64)) ((100 : Int64) + x3.toInt64)) else (1 : Int64)) h  ?_
  refine k_n 1 (pc' := 35) (L' := [some (.ref a0), some (.int x1), some (.int x2), some (.int x3), some (.long (if (1 : Int64) < (s_dn (x2.toInt64 * (100 : Int64)) ((100 : Int64) + x3.toInt64)) then (s_dn (x2.toInt64 * (100 : Int64)) ((100 : Int64) + x3.toInt64)) else (1 : Int64))), none]) (S' := [.int ((s_up (x1.toInt64 * (z_iv h a0 1).toInt64) (if (1 : Int64) < (s_dn (x2.toInt64 * (100 : Int64)) ((100 : Int64) + x3.toInt64)) then (s_dn (x2.toInt64 * (100 : Int64)) ((100 : Int64) + x3.toInt64)) else (1 : Int64))).toInt32)]) (h' := h) rfl ?_
  exact k_r rfl rfl rfl H
theorem C_40 (a0 : Nat) (x1 : Int32) (x2 : Int32) (x3 : Int32) (h : zH) (W : CW h) (T0 : z_tg h a0 = 3)  {Q : Int32 → zH → Prop} (q : Q ((s_up (x1.toInt64 * (z_iv h a0 1).toInt64) (if (1 : Int64) < (s_dn (x2.toInt64 * (100 : Int64)) ((100 : Int64) + x3.toInt64)) then (s_dn (x2.toInt64 * (100 : Int64)) ((100 : Int64) + x3.toInt64)) else (1 : Int64))).toInt32) h) : KK z_pI 40 [.ref a0, .int x1, .int x2, .int x3] h Q := by
  refine X_40 a0 x1 x2 x3 h W T0 ?_
  exact q
set_option maxRecDepth 20000 in
theorem X_37 (a0 : Nat) (x1 : Int32) (x2 : Int32) (x3 : Int32) (h : zH) (W : CW h) (T0 : z_tg h a0 = 3) {Q : Unit → zH → Prop} (H : Q () (z_sI (z_sI (z_sI h a0 5 x1) a0 6 x2) a0 13 x3)) : KK z_pV 37 [.ref a0, .int x1, .int x2, .int x3] h Q := by
  refine k_K (L := [some (.ref a0), some (.int x1), some (.int x2), some (.int x3)]) rfl ?_
  refine k_n 2 (pc' := 2) (L' := [some (.ref a0), some (.int x1), some (.int x2), some (.int x3)]) (S' := [.int x1, .ref a0]) (h' := h) rfl ?_
  refine k_pI rfl T0 ?_
  refine k_n 2 (pc' := 7) (L' := [some (.ref a0), some (.int x1), some (.int x2), some (.int x3)]) (S' := [.int x2, .ref a0]) (h' := (z_sI h a0 5 x1)) rfl ?_
  refine k_pI rfl (z_tgI T0) ?_
  refine k_n 2 (pc' := 12) (L' := [some (.ref a0), some (.int x1), some (.int x2), some (.int x3)]) (S' := [.int x3, .ref a0]) (h' := (z_sI (z_sI h a0 5 x1) a0 6 x2)) rfl ?_
  refine k_pI rfl (z_tgI (z_tgI T0)) ?_
  exact k_r rfl rfl rfl H
set_option maxRecDepth 20000 in
theorem X_38 (a0 : Nat) (x1 : Int32) (h : zH) (W : CW h) (T0 : z_tg h a0 = 3) {Q : Unit → zH → Prop} (H : Q () (z_sI (z_sI (z_sI h a0 13 x1) a0 14 (z_iv h a0 8)) a0 15 (z_iv h a0 12))) : KK z_pV 38 [.ref a0, .int x1] h Q := by
  refine k_K (L := [some (.ref a0), some (.int x1)]) rfl ?_
  refine k_n 2 (pc' := 2) (L' := [some (.ref a0), some (.int x1)]) (S' := [.int x1, .ref a0]) (h' := h) rfl ?_
  refine k_pI rfl T0 ?_
  refine k_n 2 (pc' := 7) (L' := [some (.ref a0), some (.int x1)]) (S' := [.ref a0, .ref a0]) (h' := (z_sI h a0 13 x1)) rfl ?_
  refine k_gV rfl rfl (z_tgI T0) (v_nj (by decide) rfl) ?_
  refine k_pI rfl (z_tgI T0) ?_
  refine k_n 2 (pc' := 15) (L' := [some (.ref a0), some (.int x1)]) (S' := [.ref a0, .ref a0]) (h' := (z_sI (z_sI h a0 13 x1) a0 14 (z_iv h a0 8))) rfl ?_
  refine k_gV rfl rfl (z_tgI (z_tgI T0)) (v_nj (by decide) (v_nj (by decide) rfl)) ?_
  refine k_pI rfl (z_tgI (z_tgI T0)) ?_
  exact k_r rfl rfl rfl H
set_option maxRecDepth 20000 in
theorem X_41 (a0 : Nat) (x1 : Int32) (x2 : Int32) (h : zH) (W : CW h) (T0 : z_tg h a0 = 3) {Q : Unit → zH → Prop} (H : if (z_iv h a0 9) = 0 then (Q () (z_sI (z_sI (z_sI (z_sI h a0 11 ((z_iv h a0 11) + x1)) a0 12 ((z_iv h a0 12) + x2)) a0 7 ((z_iv h a0 7) + (1 : Int32))) a0 8 (s_fm ((z_iv h a0 8) + x1) (10000 : Int32)))) else (Q () (z_sI (z_sI (z_sI h a0 11 ((z_iv h a0 11) + x1)) a0 12 ((z_iv h a0 12) + x2)) a0 7 ((z_iv h a0 7) + (1 : Int32))))) : KK z_pV 41 [.ref a0, .int x1, .int x2] h Q := by
  refine k_K (L := [some (.ref a0), some (.int x1), some (.int x2)]) rfl ?_
  refine k_n 2 (pc' := 2) (L' := [some (.ref a0), some (.int x1), some (.int x2)]) (S' := [.ref a0, .ref a0]) (h' := h) rfl ?_
  refine k_gI rfl rfl T0 ?_
  refine k_n 2 (pc' := 7) (L' := [some (.ref a0), some (.int x1), some (.int x2)]) (S' := [.int ((z_iv h a0 11) + x1), .ref a0]) (h' := h) rfl ?_
  refine k_pI rfl T0 ?_
  refine k_n 2 (pc' := 12) (L' := [some (.ref a0), some (.int x1), some (.int x2)]) (S' := [.ref a0, .ref a0]) (h' := (z_sI h a0 11 ((z_iv h a0 11) + x1))) rfl ?_
  refine k_gV rfl rfl (z_tgI T0) (v_nj (by decide) rfl) ?_
  refine k_n 2 (pc' := 17) (L' := [some (.ref a0), some (.int x1), some (.int x2)]) (S' := [.int ((z_iv h a0 12) + x2), .ref a0]) (h' := (z_sI h a0 11 ((z_iv h a0 11) + x1))) rfl ?_
  refine k_pI rfl (z_tgI T0) ?_
  refine k_n 2 (pc' := 22) (L' := [some (.ref a0), some (.int x1), some (.int x2)]) (S' := [.ref a0, .ref a0]) (h' := (z_sI (z_sI h a0 11 ((z_iv h a0 11) + x1)) a0 12 ((z_iv h a0 12) + x2))) rfl ?_
  refine k_gV rfl rfl (z_tgI (z_tgI T0)) (v_nj (by decide) (v_nj (by decide) rfl)) ?_
  refine k_n 2 (pc' := 27) (L' := [some (.ref a0), some (.int x1), some (.int x2)]) (S' := [.int ((z_iv h a0 7) + (1 : Int32)), .ref a0]) (h' := (z_sI (z_sI h a0 11 ((z_iv h a0 11) + x1)) a0 12 ((z_iv h a0 12) + x2))) rfl ?_
  refine k_pI rfl (z_tgI (z_tgI T0)) ?_
  refine k_n 1 (pc' := 31) (L' := [some (.ref a0), some (.int x1), some (.int x2)]) (S' := [.ref a0]) (h' := (z_sI (z_sI (z_sI h a0 11 ((z_iv h a0 11) + x1)) a0 12 ((z_iv h a0 12) + x2)) a0 7 ((z_iv h a0 7) + (1 : Int32)))) rfl ?_
  refine k_gV rfl rfl (z_tgI (z_tgI (z_tgI T0))) (v_nj (by decide) (v_nj (by decide) (v_nj (by decide) rfl))) ?_
  refine k_b (g := (z_iv h a0 9) = 0) (pc' := 37) (L' := [some (.ref a0), some (.int x1), some (.int x2)]) (S' := []) (pc2 := 53) (L2 := [some (.ref a0), some (.int x1), some (.int x2)]) (S2 := []) (h' := (z_sI (z_sI (z_sI h a0 11 ((z_iv h a0 11) + x1)) a0 12 ((z_iv h a0 12) + x2)) a0 7 ((z_iv h a0 7) + (1 : Int32)))) (h2 := (z_sI (z_sI (z_sI h a0 11 ((z_iv h a0 11) + x1)) a0 12 ((z_iv h a0 12) + x2)) a0 7 ((z_iv h a0 7) + (1 : Int32)))) rfl rfl (fun hc => ?_) (fun hc => ?_)
  · have hc := hc
    rw [if_pos hc] at H
    refine k_n 2 (pc' := 39) (L' := [some (.ref a0), some (.int x1), some (.int x2)]) (S' := [.ref a0, .ref a0]) (h' := (z_sI (z_sI (z_sI h a0 11 ((z_iv h a0 11) + x1)) a0 12 ((z_iv h a0 12) + x2)) a0 7 ((z_iv h a0 7) + (1 : Int32)))) rfl ?_
    refine k_gV rfl rfl (z_tgI (z_tgI (z_tgI T0))) (v_nj (by decide) (v_nj (by decide) (v_nj (by decide) rfl))) ?_
    refine k_n 3 (pc' := 47) (L' := [some (.ref a0), some (.int x1), some (.int x2)]) (S' := [.int (10000 : Int32), .int ((z_iv h a0 8) + x1), .ref a0]) (h' := (z_sI (z_sI (z_sI h a0 11 ((z_iv h a0 11) + x1)) a0 12 ((z_iv h a0 12) + x2)) a0 7 ((z_iv h a0 7) + (1 : Int32)))) rfl ?_
    refine k_cI 10 2 rfl rfl rfl (A := [.int ((z_iv h a0 8) + x1), .int (10000 : Int32)]) rfl rfl rfl (rest := [.ref a0]) rfl (z_tyI rfl rfl) ?_
    refine c_fm ((z_iv h a0 8) + x1) (10000 : Int32) (z_sI (z_sI (z_sI h a0 11 ((z_iv h a0 11) + x1)) a0 12 ((z_iv h a0 12) + x2)) a0 7 ((z_iv h a0 7) + (1 : Int32))) (by decide) ?_
    refine k_pI rfl (z_tgI (z_tgI (z_tgI T0))) ?_
    exact k_r rfl rfl rfl H
  · have hc := hc
    rw [if_neg hc] at H
    exact k_r rfl rfl rfl H
set_option maxRecDepth 20000 in
theorem X_42 (a0 : Nat) (x1 : Int32) (x2 : Int32) (h : zH) (W : CW h) (T0 : z_tg h a0 = 3) {Q : Int32 → zH → Prop} (H : if (z_iv h a0 0) = (2 : Int32) then (if x2 = 0 then (Q (z_bt (¬ (x1 = 0) ∧ (((z_iv h a0 4) &&& x1) = x1))) h) else (Q (z_bt (¬ (((z_iv h a0 4) &&& x1) = 0))) h)) else (Q (0 : Int32) h)) : KK z_pI 42 [.ref a0, .int x1, .int x2] h Q := by
  refine k_K (L := [some (.ref a0), some (.int x1), some (.int x2)]) rfl ?_
  refine k_n 1 (pc' := 1) (L' := [some (.ref a0), some (.int x1), some (.int x2)]) (S' := [.ref a0]) (h' := h) rfl ?_
  refine k_gI rfl rfl T0 ?_
  refine k_n 1 (pc' := 5) (L' := [some (.ref a0), some (.int x1), some (.int x2)]) (S' := [.int (2 : Int32), .int (z_iv h a0 0)]) (h' := h) rfl ?_
  refine k_b (g := (z_iv h a0 0) = (2 : Int32)) (pc' := 10) (L' := [some (.ref a0), some (.int x1), some (.int x2)]) (S' := []) (pc2 := 8) (L2 := [some (.ref a0), some (.int x1), some (.int x2)]) (S2 := []) (h' := h) (h2 := h) rfl rfl (fun hc => ?_) (fun hc => ?_)
  · have hc := hc
    rw [if_pos hc] at H
    refine k_n 1 (pc' := 11) (L' := [some (.ref a0), some (.int x1), some (.int x2)]) (S' := [.int x2]) (h' := h) rfl ?_
    refine k_b (g := x2 = 0) (pc' := 29) (L' := [some (.ref a0), some (.int x1), some (.int x2)]) (S' := []) (pc2 := 14) (L2 := [some (.ref a0), some (.int x1), some (.int x2)]) (S2 := []) (h' := h) (h2 := h) rfl rfl (fun hc => ?_) (fun hc => ?_)
    · have hc := hc
      rw [if_pos hc] at H
      refine k_n 1 (pc' := 30) (L' := [some (.ref a0), some (.int x1), some (.int x2)]) (S' := [.int x1]) (h' := h) rfl ?_
      have hj3 : KG z_pI 42 48 [some (.ref a0), some (.int x1), some (.int x2)] [.int (z_bt (¬ (x1 = 0) ∧ (((z_iv h a0 4) &&& x1) = x1)))] h Q := by
        exact k_r rfl (z_retB z_bt_01) rfl H
      refine k_b (g := x1 = 0) (pc' := 47) (L' := [some (.ref a0), some (.int x1), some (.int x2)]) (S' := []) (pc2 := 33) (L2 := [some (.ref a0), some (.int x1), some (.int x2)]) (S2 := []) (h' := h) (h2 := h) rfl rfl (fun hc => ?_) (fun hc => ?_)
      · have c1 := hc
        refine k_n 1 (pc' := 48) (L' := [some (.ref a0), some (.int x1), some (.int x2)]) (S' := [.int (0 : Int32)]) (h' := h) rfl ?_
        rw [show z_bt (¬ (x1 = 0) ∧ (((z_iv h a0 4) &&& x1) = x1)) = 0 from z_bt_0.mpr ((fun q => q.1 c1))] at hj3
        exact hj3
      · have c1 := hc
        refine k_n 1 (pc' := 34) (L' := [some (.ref a0), some (.int x1), some (.int x2)]) (S' := [.ref a0]) (h' := h) rfl ?_
        refine k_gI rfl rfl T0 ?_
        refine k_n 3 (pc' := 40) (L' := [some (.ref a0), some (.int x1), some (.int x2)]) (S' := [.int x1, .int ((z_iv h a0 4) &&& x1)]) (h' := h) rfl ?_
        refine k_b (g := ((z_iv h a0 4) &&& x1) = x1) (pc' := 43) (L' := [some (.ref a0), some (.int x1), some (.int x2)]) (S' := []) (pc2 := 47) (L2 := [some (.ref a0), some (.int x1), some (.int x2)]) (S2 := []) (h' := h) (h2 := h) rfl rfl (fun hc => ?_) (fun hc => ?_)
        · have c2 := hc
          refine k_n 2 (pc' := 48) (L' := [some (.ref a0), some (.int x1), some (.int x2)]) (S' := [.int (1 : Int32)]) (h' := h) rfl ?_
          rw [show z_bt (¬ (x1 = 0) ∧ (((z_iv h a0 4) &&& x1) = x1)) = 1 from z_bt_1.mpr (⟨c1, c2⟩)] at hj3
          exact hj3
        · have c2 := hc
          refine k_n 1 (pc' := 48) (L' := [some (.ref a0), some (.int x1), some (.int x2)]) (S' := [.int (0 : Int32)]) (h' := h) rfl ?_
          rw [show z_bt (¬ (x1 = 0) ∧ (((z_iv h a0 4) &&& x1) = x1)) = 0 from z_bt_0.mpr ((fun q => c2 q.2))] at hj3
          exact hj3
    · have hc := hc
      rw [if_neg hc] at H
      refine k_n 1 (pc' := 15) (L' := [some (.ref a0), some (.int x1), some (.int x2)]) (S' := [.ref a0]) (h' := h) rfl ?_
      refine k_gI rfl rfl T0 ?_
      refine k_n 2 (pc' := 20) (L' := [some (.ref a0), some (.int x1), some (.int x2)]) (S' := [.int ((z_iv h a0 4) &&& x1)]) (h' := h) rfl ?_
      have hj5 : KG z_pI 42 28 [some (.ref a0), some (.int x1), some (.int x2)] [.int (z_bt (¬ (((z_iv h a0 4) &&& x1) = 0)))] h Q := by
        exact k_r rfl (z_retB z_bt_01) rfl H
      refine k_b (g := ((z_iv h a0 4) &&& x1) = 0) (pc' := 27) (L' := [some (.ref a0), some (.int x1), some (.int x2)]) (S' := []) (pc2 := 23) (L2 := [some (.ref a0), some (.int x1), some (.int x2)]) (S2 := []) (h' := h) (h2 := h) rfl rfl (fun hc => ?_) (fun hc => ?_)
      · have c4 := hc
        refine k_n 1 (pc' := 28) (L' := [some (.ref a0), some (.int x1), some (.int x2)]) (S' := [.int (0 : Int32)]) (h' := h) rfl ?_
        rw [show z_bt (¬ (((z_iv h a0 4) &&& x1) = 0)) = 0 from z_bt_0.mpr ((fun q => q c4))] at hj5
        exact hj5
      · have c4 := hc
        refine k_n 2 (pc' := 28) (L' := [some (.ref a0), some (.int x1), some (.int x2)]) (S' := [.int (1 : Int32)]) (h' := h) rfl ?_
        rw [show z_bt (¬ (((z_iv h a0 4) &&& x1) = 0)) = 1 from z_bt_1.mpr (c4)] at hj5
        exact hj5
  · have hc := hc
    rw [if_neg hc] at H
    refine k_n 1 (pc' := 9) (L' := [some (.ref a0), some (.int x1), some (.int x2)]) (S' := [.int (0 : Int32)]) (h' := h) rfl ?_
    exact k_r rfl rfl rfl H
theorem C_42 (a0 : Nat) (x1 : Int32) (x2 : Int32) (h : zH) (W : CW h) (T0 : z_tg h a0 = 3)  {Q : Int32 → zH → Prop} (q : Q (z_bt (((z_iv h a0 0) = (2 : Int32)) ∧ (((x2 = 0) ∧ (¬ (x1 = 0) ∧ (((z_iv h a0 4) &&& x1) = x1))) ∨ (¬ (x2 = 0) ∧ (¬ (((z_iv h a0 4) &&& x1) = 0)))))) h) : KK z_pI 42 [.ref a0, .int x1, .int x2] h Q := by
  refine X_42 a0 x1 x2 h W T0 ?_
  refine z_ifd (fun c1_0 => ?_) (fun c1_0 => ?_)
  ·
    refine z_ifd (fun c2_0 => ?_) (fun c2_0 => ?_)
    ·
      exact (z_cg (Q := fun v_ => Q v_ h) (by simp [z_bt, c1_0, c2_0]) q)
    ·
      exact (z_cg (Q := fun v_ => Q v_ h) (by simp [z_bt, c1_0, c2_0]) q)
  ·
    exact (z_cg (Q := fun v_ => Q v_ h) (by simp [z_bt, c1_0]) q)
set_option maxRecDepth 20000 in
theorem X_46 (a0 : Nat) (x1 : Int32) (h : zH) (W : CW h) (T0 : z_tg h a0 = 4) {Q : Int32 → zH → Prop} (H : (z_rv h a0 10 = none → Q (0 : Int32) h) ∧ (∀ b2, z_rv h a0 10 = some b2 → if (z_iv h b2 10) = 0 then (Q (x1 - (z_iv h b2 13)) h) else (Q (0 : Int32) h))) : KK z_pI 46 [.ref a0, .int x1] h Q := by
  refine k_K (L := [some (.ref a0), some (.int x1), none]) rfl ?_
  refine k_n 1 (pc' := 1) (L' := [some (.ref a0), some (.int x1), none]) (S' := [.ref a0]) (h' := h) rfl ?_
  refine k_cA 44 1 "SavedThird$Engine" rfl rfl rfl (A := [.ref a0]) rfl rfl (z_rok_ref T0) (rest := []) rfl rfl (by decide) ?_
  refine X_44 a0 h W T0 ?_
  refine ⟨fun hb1 => ?_, fun b2 hb1 => ?_⟩
  · have H := H.1 hb1
    refine k_n 5 (pc' := 19) (L' := [some (.ref a0), some (.int x1), some (.null)]) (S' := [.int (0 : Int32)]) (h' := h) rfl ?_
    exact k_r rfl rfl rfl H
  · have H := H.2 b2 hb1
    by_cases c3 : (z_iv h b2 10) = 0
    · rw [if_pos c3] at H ⊢
      have t4 : z_tg h b2 = 3 := (CW.tyOf (t := 4) (t' := 3) W T0 hb1 (by decide) rfl)
      refine k_n 5 (pc' := 15) (L' := [some (.ref a0), some (.int x1), some (.ref b2)]) (S' := [.ref b2, .int x1]) (h' := h) rfl ?_
      refine k_gI rfl rfl t4 ?_
      refine k_n 1 (pc' := 19) (L' := [some (.ref a0), some (.int x1), some (.ref b2)]) (S' := [.int (x1 - (z_iv h b2 13))]) (h' := h) rfl ?_
      exact k_r rfl rfl rfl H
    · rw [if_neg c3] at H ⊢
      refine k_n 5 (pc' := 19) (L' := [some (.ref a0), some (.int x1), some (.null)]) (S' := [.int (0 : Int32)]) (h' := h) rfl ?_
      exact k_r rfl rfl rfl H
set_option maxRecDepth 20000 in
theorem X_48 (a0 : Nat) (x1 : Int32) (x2 : Int32) (x3 : Int32) (h : zH) (W : CW h) (T0 : z_tg h a0 = 4) {Q : Unit → zH → Prop} (H : if (0 : Int32) ≤ x1 ∧ x1 ≤ (59 : Int32) then (if (0 : Int32) ≤ x2 ∧ x2 ≤ (5 : Int32) then ((0 ≤ ((x2 * (60 : Int32)) + x1).toInt ∧ ((x2 * (60 : Int32)) + x1).toInt < 360) ∧ Q () (z_sI h (a0 + 3) (z_ix ((x2 * (60 : Int32)) + x1)) x3)) else (Q () h)) else (Q () h)) : KK z_pV 48 [.ref a0, .int x1, .int x2, .int x3] h Q := by
  refine k_K (L := [some (.ref a0), some (.int x1), some (.int x2), some (.int x3)]) rfl ?_
  refine k_n 3 (pc' := 4) (L' := [some (.ref a0), some (.int x1), some (.int x2), some (.int x3)]) (S' := [.int (59 : Int32), .int (0 : Int32), .int x1]) (h' := h) rfl ?_
  refine k_cI 135 3 rfl rfl rfl (A := [.int x1, .int (0 : Int32), .int (59 : Int32)]) rfl rfl rfl (rest := []) rfl (z_tyI rfl rfl) ?_
  refine c_within x1 (0 : Int32) (59 : Int32) h ?_
  refine k_b (g := z_bt ((0 : Int32) ≤ x1 ∧ x1 ≤ (59 : Int32)) = 0) (pc' := 31) (L' := [some (.ref a0), some (.int x1), some (.int x2), some (.int x3)]) (S' := []) (pc2 := 10) (L2 := [some (.ref a0), some (.int x1), some (.int x2), some (.int x3)]) (S2 := []) (h' := h) (h2 := h) rfl rfl (fun hc => ?_) (fun hc => ?_)
  · have hc := z_bt_0.mp hc
    rw [if_neg hc] at H
    exact k_r rfl rfl rfl H
  · have hc := Decidable.not_not.mp (fun q => hc (z_bt_0.mpr q))
    rw [if_pos hc] at H
    refine k_n 3 (pc' := 13) (L' := [some (.ref a0), some (.int x1), some (.int x2), some (.int x3)]) (S' := [.int (5 : Int32), .int (0 : Int32), .int x2]) (h' := h) rfl ?_
    refine k_cI 135 3 rfl rfl rfl (A := [.int x2, .int (0 : Int32), .int (5 : Int32)]) rfl rfl rfl (rest := []) rfl (z_tyI rfl rfl) ?_
    refine c_within x2 (0 : Int32) (5 : Int32) h ?_
    refine k_b (g := z_bt ((0 : Int32) ≤ x2 ∧ x2 ≤ (5 : Int32)) = 0) (pc' := 31) (L' := [some (.ref a0), some (.int x1), some (.int x2), some (.int x3)]) (S' := []) (pc2 := 19) (L2 := [some (.ref a0), some (.int x1), some (.int x2), some (.int x3)]) (S2 := []) (h' := h) (h2 := h) rfl rfl (fun hc => ?_) (fun hc => ?_)
    · have hc := z_bt_0.mp hc
      rw [if_neg hc] at H
      exact k_r rfl rfl rfl H
    · have hc := Decidable.not_not.mp (fun q => hc (z_bt_0.mpr q))
      rw [if_pos hc] at H
      refine k_n 1 (pc' := 20) (L' := [some (.ref a0), some (.int x1), some (.int x2), some (.int x3)]) (S' := [.ref a0]) (h' := h) rfl ?_
      refine k_gS (b := (a0 + 3)) rfl T0 (W.reOf (t := 4) (j := 4) (o := 3) (n := 360) (by decide) T0).1 ?_
      refine k_n 6 (pc' := 30) (L' := [some (.ref a0), some (.int x1), some (.int x2), some (.int x3)]) (S' := [.int x3, .int ((x2 * (60 : Int32)) + x1), .ref (a0 + 3)]) (h' := h) rfl ?_
      obtain ⟨o1, H⟩ := H
      refine k_is (n := 360) rfl (CW.tyOf (t := 4) (t' := 100) W (j := 4) T0 (W.reOf (t := 4) (j := 4) (o := 3) (n := 360) (by decide) T0).1 (by decide) rfl) (W.reOf (t := 4) (j := 4) (o := 3) (n := 360) (by decide) T0).2 o1 ?_
      exact k_r rfl rfl rfl H
set_option maxRecDepth 20000 in
theorem X_49 (a0 : Nat) (x1 : Int32) (x2 : Int32) (h : zH) (W : CW h) (T0 : z_tg h a0 = 4) {Q : Int32 → zH → Prop} (H : if (0 : Int32) ≤ x1 ∧ x1 ≤ (59 : Int32) then (if (0 : Int32) ≤ x2 ∧ x2 ≤ (5 : Int32) then ((0 ≤ ((x2 * (60 : Int32)) + x1).toInt ∧ ((x2 * (60 : Int32)) + x1).toInt < 360) ∧ Q (z_iv h (a0 + 3) (z_ix ((x2 * (60 : Int32)) + x1))) h) else (Q (0 : Int32) h)) else (Q (0 : Int32) h)) : KK z_pI 49 [.ref a0, .int x1, .int x2] h Q := by
  refine k_K (L := [some (.ref a0), some (.int x1), some (.int x2)]) rfl ?_
  refine k_n 3 (pc' := 4) (L' := [some (.ref a0), some (.int x1), some (.int x2)]) (S' := [.int (59 : Int32), .int (0 : Int32), .int x1]) (h' := h) rfl ?_
  refine k_cI 135 3 rfl rfl rfl (A := [.int x1, .int (0 : Int32), .int (59 : Int32)]) rfl rfl rfl (rest := []) rfl (z_tyI rfl rfl) ?_
  refine c_within x1 (0 : Int32) (59 : Int32) h ?_
  refine k_b (g := z_bt ((0 : Int32) ≤ x1 ∧ x1 ≤ (59 : Int32)) = 0) (pc' := 19) (L' := [some (.ref a0), some (.int x1), some (.int x2)]) (S' := []) (pc2 := 10) (L2 := [some (.ref a0), some (.int x1), some (.int x2)]) (S2 := []) (h' := h) (h2 := h) rfl rfl (fun hc => ?_) (fun hc => ?_)
  · have hc := z_bt_0.mp hc
    rw [if_neg hc] at H
    refine k_n 1 (pc' := 20) (L' := [some (.ref a0), some (.int x1), some (.int x2)]) (S' := [.int (0 : Int32)]) (h' := h) rfl ?_
    exact k_r rfl rfl rfl H
  · have hc := Decidable.not_not.mp (fun q => hc (z_bt_0.mpr q))
    rw [if_pos hc] at H
    refine k_n 3 (pc' := 13) (L' := [some (.ref a0), some (.int x1), some (.int x2)]) (S' := [.int (5 : Int32), .int (0 : Int32), .int x2]) (h' := h) rfl ?_
    refine k_cI 135 3 rfl rfl rfl (A := [.int x2, .int (0 : Int32), .int (5 : Int32)]) rfl rfl rfl (rest := []) rfl (z_tyI rfl rfl) ?_
    refine c_within x2 (0 : Int32) (5 : Int32) h ?_
    refine k_b (g := z_bt ((0 : Int32) ≤ x2 ∧ x2 ≤ (5 : Int32)) = 0) (pc' := 19) (L' := [some (.ref a0), some (.int x1), some (.int x2)]) (S' := []) (pc2 := 21) (L2 := [some (.ref a0), some (.int x1), some (.int x2)]) (S2 := []) (h' := h) (h2 := h) rfl rfl (fun hc => ?_) (fun hc => ?_)
    · have hc := z_bt_0.mp hc
      rw [if_neg hc] at H
      refine k_n 1 (pc' := 20) (L' := [some (.ref a0), some (.int x1), some (.int x2)]) (S' := [.int (0 : Int32)]) (h' := h) rfl ?_
      exact k_r rfl rfl rfl H
    · have hc := Decidable.not_not.mp (fun q => hc (z_bt_0.mpr q))
      rw [if_pos hc] at H
      refine k_n 1 (pc' := 22) (L' := [some (.ref a0), some (.int x1), some (.int x2)]) (S' := [.ref a0]) (h' := h) rfl ?_
      refine k_gS (b := (a0 + 3)) rfl T0 (W.reOf (t := 4) (j := 4) (o := 3) (n := 360) (by decide) T0).1 ?_
      refine k_n 5 (pc' := 31) (L' := [some (.ref a0), some (.int x1), some (.int x2)]) (S' := [.int ((x2 * (60 : Int32)) + x1), .ref (a0 + 3)]) (h' := h) rfl ?_
      obtain ⟨o1, H⟩ := H
      refine k_ia (c := 0) (n := 360) rfl (CW.tyOf (t := 4) (t' := 100) W (j := 4) T0 (W.reOf (t := 4) (j := 4) (o := 3) (n := 360) (by decide) T0).1 (by decide) rfl) (W.reOf (t := 4) (j := 4) (o := 3) (n := 360) (by decide) T0).2 o1 ?_
      exact k_r rfl rfl rfl H
theorem C_49 (a0 : Nat) (x1 : Int32) (x2 : Int32) (h : zH) (W : CW h) (T0 : z_tg h a0 = 4) (O0 : ((0 : Int32) ≤ x1 ∧ x1 ≤ (59 : Int32)) → ((0 : Int32) ≤ x2 ∧ x2 ≤ (5 : Int32)) → 0 ≤ ((x2 * (60 : Int32)) + x1).toInt ∧ ((x2 * (60 : Int32)) + x1).toInt < 360) {Q : Int32 → zH → Prop} (q : Q (if (0 : Int32) ≤ x1 ∧ x1 ≤ (59 : Int32) then (if (0 : Int32) ≤ x2 ∧ x2 ≤ (5 : Int32) then (z_iv h (a0 + 3) (z_ix ((x2 * (60 : Int32)) + x1))) else (0 : Int32)) else (0 : Int32)) h) : KK z_pI 49 [.ref a0, .int x1, .int x2] h Q := by
  refine X_49 a0 x1 x2 h W T0 ?_
  refine z_ifd (fun c1_0 => ?_) (fun c1_0 => ?_)
  · rw [if_pos c1_0] at q
    refine z_ifd (fun c2_0 => ?_) (fun c2_0 => ?_)
    · rw [if_pos c2_0] at q
      refine ⟨O0 c1_0 c2_0, ?_⟩
      exact q
    · rw [if_neg c2_0] at q
      exact q
  · rw [if_neg c1_0] at q
    exact q
set_option maxRecDepth 20000 in
theorem X_53 (a0 : Nat) (x1 : Int32) (h : zH) (W : CW h) (T0 : z_tg h a0 = 4) {Q : Int32 → zH → Prop} (H : (((0 : Int32) ≤ x1 ∧ x1 ≤ (7 : Int32)) → 0 ≤ x1.toInt ∧ x1.toInt < 8) ∧ (∀ m3 : Int32, m3 = (if (0 : Int32) ≤ x1 ∧ x1 ≤ (7 : Int32) then (z_iv h (a0 + 2) (z_ix x1)) else (0 : Int32)) → Q m3 h)) : KK z_pI 53 [.ref a0, .int x1] h Q := by
  refine k_K (L := [some (.ref a0), some (.int x1)]) rfl ?_
  refine k_n 1 (pc' := 1) (L' := [some (.ref a0), some (.int x1)]) (S' := [.int x1]) (h' := h) rfl ?_
  refine k_cI 141 1 rfl rfl rfl (A := [.int x1]) rfl rfl rfl (rest := []) rfl (z_tyI rfl rfl) ?_
  refine C_141 x1 h    ?_
  obtain ⟨o2, H⟩ := H
  obtain ⟨m3, em3⟩ : ∃ m : Int32, m = (if (0 : Int32) ≤ x1 ∧ x1 ≤ (7 : Int32) then (z_iv h (a0 + 2) (z_ix x1)) else (0 : Int32)) := ⟨_, rfl⟩
  have H := H m3 em3
  have hj4 : KG z_pI 53 17 [some (.ref a0), some (.int x1)] [.int m3] h Q := by
    exact k_r rfl rfl rfl H
  refine k_b (g := z_bt ((0 : Int32) ≤ x1 ∧ x1 ≤ (7 : Int32)) = 0) (pc' := 16) (L' := [some (.ref a0), some (.int x1)]) (S' := []) (pc2 := 7) (L2 := [some (.ref a0), some (.int x1)]) (S2 := []) (h' := h) (h2 := h) rfl rfl (fun hc => ?_) (fun hc => ?_)
  · have c1 := z_bt_0.mp hc
    refine k_n 1 (pc' := 17) (L' := [some (.ref a0), some (.int x1)]) (S' := [.int (0 : Int32)]) (h' := h) rfl ?_
    rw [(em3.trans (by rw [if_neg c1]) : m3 = (0 : Int32))] at hj4
    exact hj4
  · have c1 := Decidable.not_not.mp (fun q => hc (z_bt_0.mpr q))
    refine k_n 1 (pc' := 8) (L' := [some (.ref a0), some (.int x1)]) (S' := [.ref a0]) (h' := h) rfl ?_
    refine k_gS (b := (a0 + 2)) rfl T0 (W.reOf (t := 4) (j := 3) (o := 2) (n := 8) (by decide) T0).1 ?_
    refine k_n 1 (pc' := 12) (L' := [some (.ref a0), some (.int x1)]) (S' := [.int x1, .ref (a0 + 2)]) (h' := h) rfl ?_
    refine k_ia (c := 0) (n := 8) rfl (CW.tyOf (t := 4) (t' := 100) W (j := 3) T0 (W.reOf (t := 4) (j := 3) (o := 2) (n := 8) (by decide) T0).1 (by decide) rfl) (W.reOf (t := 4) (j := 3) (o := 2) (n := 8) (by decide) T0).2 (o2 c1) ?_
    refine k_n 1 (pc' := 17) (L' := [some (.ref a0), some (.int x1)]) (S' := [.int (z_iv h (a0 + 2) (z_ix x1))]) (h' := h) rfl ?_
    rw [(em3.trans (by rw [if_pos c1]) : m3 = (z_iv h (a0 + 2) (z_ix x1)))] at hj4
    exact hj4
theorem C_53 (a0 : Nat) (x1 : Int32) (h : zH) (W : CW h) (T0 : z_tg h a0 = 4) (O0 : ((0 : Int32) ≤ x1 ∧ x1 ≤ (7 : Int32)) → 0 ≤ x1.toInt ∧ x1.toInt < 8) {Q : Int32 → zH → Prop} (q : Q (if (0 : Int32) ≤ x1 ∧ x1 ≤ (7 : Int32) then (z_iv h (a0 + 2) (z_ix x1)) else (0 : Int32)) h) : KK z_pI 53 [.ref a0, .int x1] h Q := by
  refine X_53 a0 x1 h W T0 ?_
  refine ⟨O0, ?_⟩
  intro m_ em_; subst em_
  exact q
set_option maxRecDepth 20000 in
theorem X_52 (a0 : Nat) (x1 : Int32) (x2 : Int32) (x3 : Int32) (h : zH) (W : CW h) (T0 : z_tg h a0 = 4) {Q : Int64 → zH → Prop} (H : (((0 : Int32) ≤ x1 ∧ x1 ≤ (7 : Int32)) → 0 ≤ x1.toInt ∧ x1.toInt < 8) ∧ Q (s_dn (x2.toInt64 * (if (0 : Int32) ≤ x1 ∧ x1 ≤ (7 : Int32) then (z_iv h (a0 + 2) (z_ix x1)) else (0 : Int32)).toInt64) x3.toInt64) h) : KK z_pL 52 [.ref a0, .int x1, .int x2, .int x3] h Q := by
  refine k_K (L := [some (.ref a0), some (.int x1), some (.int x2), some (.int x3)]) rfl ?_
  refine k_n 4 (pc' := 4) (L' := [some (.ref a0), some (.int x1), some (.int x2), some (.int x3)]) (S' := [.int x1, .ref a0, .long x2.toInt64]) (h' := h) rfl ?_
  refine k_cI 53 2 rfl rfl rfl (A := [.ref a0, .int x1]) rfl rfl (z_rok_ref T0) (rest := [.long x2.toInt64]) rfl (z_tyI rfl rfl) ?_
  obtain ⟨o1, H⟩ := H
  refine C_53 a0 x1 h W T0 o1 ?_
  refine k_n 4 (pc' := 11) (L' := [some (.ref a0), some (.int x1), some (.int x2), some (.int x3)]) (S' := [.long x3.toInt64, .long (x2.toInt64 * (if (0 : Int32) ≤ x1 ∧ x1 ≤ (7 : Int32) then (z_iv h (a0 + 2) (z_ix x1)) else (0 : Int32)).toInt64)]) (h' := h) rfl ?_
  refine k_cL 146 2 rfl rfl rfl (A := [.long (x2.toInt64 * (if (0 : Int32) ≤ x1 ∧ x1 ≤ (7 : Int32) then (z_iv h (a0 + 2) (z_ix x1)) else (0 : Int32)).toInt64), .long x3.toInt64]) rfl rfl rfl (rest := []) rfl rfl ?_
  refine c_dn (x2.toInt64 * (if (0 : Int32) ≤ x1 ∧ x1 ≤ (7 : Int32) then (z_iv h (a0 + 2) (z_ix x1)) else (0 : Int32)).toInt64) x3.toInt64 h  ?_
  exact k_r rfl rfl rfl H
theorem C_52 (a0 : Nat) (x1 : Int32) (x2 : Int32) (x3 : Int32) (h : zH) (W : CW h) (T0 : z_tg h a0 = 4) (O0 : ((0 : Int32) ≤ x1 ∧ x1 ≤ (7 : Int32)) → 0 ≤ x1.toInt ∧ x1.toInt < 8) {Q : Int64 → zH → Prop} (q : Q (s_dn (x2.toInt64 * (if (0 : Int32) ≤ x1 ∧ x1 ≤ (7 : Int32) then (z_iv h (a0 + 2) (z_ix x1)) else (0 : Int32)).toInt64) x3.toInt64) h) : KK z_pL 52 [.ref a0, .int x1, .int x2, .int x3] h Q := by
  refine X_52 a0 x1 x2 x3 h W T0 ?_
  refine ⟨O0, ?_⟩
  exact q
set_option maxRecDepth 20000 in
theorem X_95 (a0 : Nat) (x1 : Int32) (x2 : Int32) (h : zH) (W : CW h) (T0 : z_tg h a0 = 10) {Q : Int32 → zH → Prop} (H : Q ((if (s_dn ((x1.toInt64 * x2.toInt64) * (z_iv h a0 2).toInt64) ((z_iv h a0 0).toInt64 * (z_iv h a0 1).toInt64)) < (100000 : Int64) then (s_dn ((x1.toInt64 * x2.toInt64) * (z_iv h a0 2).toInt64) ((z_iv h a0 0).toInt64 * (z_iv h a0 1).toInt64)) else (100000 : Int64)).toInt32) h) : KK z_pI 95 [.ref a0, .int x1, .int x2] h Q := by
  refine k_K (L := [some (.ref a0), some (.int x1), some (.int x2), none, none]) rfl ?_
  refine k_n 6 (pc' := 6) (L' := [some (.ref a0), some (.int x1), some (.int x2), none, none]) (S' := [.ref a0, .long (x1.toInt64 * x2.toInt64)]) (h' := h) rfl ?_
  refine k_gI rfl rfl T0 ?_
  refine k_n 3 (pc' := 12) (L' := [some (.ref a0), some (.int x1), some (.int x2), none, none]) (S' := [.ref a0, .long ((x1.toInt64 * x2.toInt64) * (z_iv h a0 2).toInt64)]) (h' := h) rfl ?_
  refine k_gI rfl rfl T0 ?_
  refine k_n 2 (pc' := 17) (L' := [some (.ref a0), some (.int x1), some (.int x2), none, none]) (S' := [.ref a0, .long ((z_iv h a0 0).toInt64), .long ((x1.toInt64 * x2.toInt64) * (z_iv h a0 2).toInt64)]) (h' := h) rfl ?_
  refine k_gI rfl rfl T0 ?_
  refine k_n 2 (pc' := 22) (L' := [some (.ref a0), some (.int x1), some (.int x2), none, none]) (S' := [.long ((z_iv h a0 0).toInt64 * (z_iv h a0 1).toInt64), .long ((x1.toInt64 * x2.toInt64) * (z_iv h a0 2).toInt64)]) (h' := h) rfl ?_
  refine k_cL 146 2 rfl rfl rfl (A := [.long ((x1.toInt64 * x2.toInt64) * (z_iv h a0 2).toInt64), .long ((z_iv h a0 0).toInt64 * (z_iv h a0 1).toInt64)]) rfl rfl rfl (rest := []) rfl rfl ?_
  refine c_dn ((x1.toInt64 * x2.toInt64) * (z_iv h a0 2).toInt64) ((z_iv h a0 0).toInt64 * (z_iv h a0 1).toInt64) h  ?_
  refine k_n 3 (pc' := 30) (L' := [some (.ref a0), some (.int x1), some (.int x2), some (.long (s_dn ((x1.toInt64 * x2.toInt64) * (z_iv h a0 2).toInt64) ((z_iv h a0 0).toInt64 * (z_iv h a0 1).toInt64))), none]) (S' := [.long (s_dn ((x1.toInt64 * x2.toInt64) * (z_iv h a0 2).toInt64) ((z_iv h a0 0).toInt64 * (z_iv h a0 1).toInt64)), .long (100000 : Int64)]) (h' := h) rfl ?_
  refine k_cL 15 2 rfl rfl rfl (A := [.long (100000 : Int64), .long (s_dn ((x1.toInt64 * x2.toInt64) * (z_iv h a0 2).toInt64) ((z_iv h a0 0).toInt64 * (z_iv h a0 1).toInt64))]) rfl rfl rfl (rest := []) rfl rfl ?_
  refine C_15 (100000 : Int64) (s_dn ((x1.toInt64 * x2.toInt64) * (z_iv h a0 2).toInt64) ((z_iv h a0 0).toInt64 * (z_iv h a0 1).toInt64)) h    ?_
  refine k_n 1 (pc' := 34) (L' := [some (.ref a0), some (.int x1), some (.int x2), some (.long (s_dn ((x1.toInt64 * x2.toInt64) * (z_iv h a0 2).toInt64) ((z_iv h a0 0).toInt64 * (z_iv h a0 1).toInt64))), none]) (S' := [.int ((if (s_dn ((x1.toInt64 * x2.toInt64) * (z_iv h a0 2).toInt64) ((z_iv h a0 0).toInt64 * (z_iv h a0 1).toInt64)) < (100000 : Int64) then (s_dn ((x1.toInt64 * x2.toInt64) * (z_iv h a0 2).toInt64) ((z_iv h a0 0).toInt64 * (z_iv h a0 1).toInt64)) else (100000 : Int64)).toInt32)]) (h' := h) rfl ?_
  exact k_r rfl rfl rfl H
theorem C_95 (a0 : Nat) (x1 : Int32) (x2 : Int32) (h : zH) (W : CW h) (T0 : z_tg h a0 = 10)  {Q : Int32 → zH → Prop} (q : Q ((if (s_dn ((x1.toInt64 * x2.toInt64) * (z_iv h a0 2).toInt64) ((z_iv h a0 0).toInt64 * (z_iv h a0 1).toInt64)) < (100000 : Int64) then (s_dn ((x1.toInt64 * x2.toInt64) * (z_iv h a0 2).toInt64) ((z_iv h a0 0).toInt64 * (z_iv h a0 1).toInt64)) else (100000 : Int64)).toInt32) h) : KK z_pI 95 [.ref a0, .int x1, .int x2] h Q := by
  refine X_95 a0 x1 x2 h W T0 ?_
  exact q
set_option maxRecDepth 20000 in
theorem X_96 (a0 : Nat) (h : zH) (W : CW h) (T0 : z_tg h a0 = 10) {Q : Int32 → zH → Prop} (H : Q ((if (1 : Int64) < (s_dn ((z_iv h a0 0).toInt64 * (z_iv h a0 1).toInt64) ((z_iv h a0 2).toInt64)) then (s_dn ((z_iv h a0 0).toInt64 * (z_iv h a0 1).toInt64) ((z_iv h a0 2).toInt64)) else (1 : Int64)).toInt32) h) : KK z_pI 96 [.ref a0] h Q := by
  refine k_K (L := [some (.ref a0)]) rfl ?_
  refine k_n 2 (pc' := 2) (L' := [some (.ref a0)]) (S' := [.ref a0, .long (1 : Int64)]) (h' := h) rfl ?_
  refine k_gI rfl rfl T0 ?_
  refine k_n 2 (pc' := 7) (L' := [some (.ref a0)]) (S' := [.ref a0, .long ((z_iv h a0 0).toInt64), .long (1 : Int64)]) (h' := h) rfl ?_
  refine k_gI rfl rfl T0 ?_
  refine k_n 3 (pc' := 13) (L' := [some (.ref a0)]) (S' := [.ref a0, .long ((z_iv h a0 0).toInt64 * (z_iv h a0 1).toInt64), .long (1 : Int64)]) (h' := h) rfl ?_
  refine k_gI rfl rfl T0 ?_
  refine k_n 1 (pc' := 17) (L' := [some (.ref a0)]) (S' := [.long ((z_iv h a0 2).toInt64), .long ((z_iv h a0 0).toInt64 * (z_iv h a0 1).toInt64), .long (1 : Int64)]) (h' := h) rfl ?_
  refine k_cL 146 2 rfl rfl rfl (A := [.long ((z_iv h a0 0).toInt64 * (z_iv h a0 1).toInt64), .long ((z_iv h a0 2).toInt64)]) rfl rfl rfl (rest := [.long (1 : Int64)]) rfl rfl ?_
  refine c_dn ((z_iv h a0 0).toInt64 * (z_iv h a0 1).toInt64) ((z_iv h a0 2).toInt64) h  ?_
  refine k_cL 13 2 rfl rfl rfl (A := [.long (1 : Int64), .long (s_dn ((z_iv h a0 0).toInt64 * (z_iv h a0 1).toInt64) ((z_iv h a0 2).toInt64))]) rfl rfl rfl (rest := []) rfl rfl ?_
  refine C_13 (1 : Int64) (s_dn ((z_iv h a0 0).toInt64 * (z_iv h a0 1).toInt64) ((z_iv h a0 2).toInt64)) h    ?_
  refine k_n 1 (pc' := 24) (L' := [some (.ref a0)]) (S' := [.int ((if (1 : Int64) < (s_dn ((z_iv h a0 0).toInt64 * (z_iv h a0 1).toInt64) ((z_iv h a0 2).toInt64)) then (s_dn ((z_iv h a0 0).toInt64 * (z_iv h a0 1).toInt64) ((z_iv h a0 2).toInt64)) else (1 : Int64)).toInt32)]) (h' := h) rfl ?_
  exact k_r rfl rfl rfl H
theorem C_96 (a0 : Nat) (h : zH) (W : CW h) (T0 : z_tg h a0 = 10)  {Q : Int32 → zH → Prop} (q : Q ((if (1 : Int64) < (s_dn ((z_iv h a0 0).toInt64 * (z_iv h a0 1).toInt64) ((z_iv h a0 2).toInt64)) then (s_dn ((z_iv h a0 0).toInt64 * (z_iv h a0 1).toInt64) ((z_iv h a0 2).toInt64)) else (1 : Int64)).toInt32) h) : KK z_pI 96 [.ref a0] h Q := by
  refine X_96 a0 h W T0 ?_
  exact q
set_option maxRecDepth 20000 in
theorem X_97 (a0 : Nat) (x1 : Int32) (x2 : Int32) (x3 : Int32) (x4 : Int32) (x5 : Int32) (h : zH) (W : CW h) (T0 : z_tg h a0 = 10) {Q : Int32 → zH → Prop} (H : Q ((s_dn ((if (0 : Int32) < ((if (s_dn ((x1.toInt64 * x2.toInt64) * (z_iv h a0 2).toInt64) ((z_iv h a0 0).toInt64 * (z_iv h a0 1).toInt64)) < (100000 : Int64) then (s_dn ((x1.toInt64 * x2.toInt64) * (z_iv h a0 2).toInt64) ((z_iv h a0 0).toInt64 * (z_iv h a0 1).toInt64)) else (100000 : Int64)).toInt32 - x3) then ((if (s_dn ((x1.toInt64 * x2.toInt64) * (z_iv h a0 2).toInt64) ((z_iv h a0 0).toInt64 * (z_iv h a0 1).toInt64)) < (100000 : Int64) then (s_dn ((x1.toInt64 * x2.toInt64) * (z_iv h a0 2).toInt64) ((z_iv h a0 0).toInt64 * (z_iv h a0 1).toInt64)) else (100000 : Int64)).toInt32 - x3) else (0 : Int32)).toInt64 * x4.toInt64) x5.toInt64).toInt32) h) : KK z_pI 97 [.ref a0, .int x1, .int x2, .int x3, .int x4, .int x5] h Q := by
  refine k_K (L := [some (.ref a0), some (.int x1), some (.int x2), some (.int x3), some (.int x4), some (.int x5), none]) rfl ?_
  refine k_n 4 (pc' := 4) (L' := [some (.ref a0), some (.int x1), some (.int x2), some (.int x3), some (.int x4), some (.int x5), none]) (S' := [.int x2, .int x1, .ref a0, .int (0 : Int32)]) (h' := h) rfl ?_
  refine k_cI 95 3 rfl rfl rfl (A := [.ref a0, .int x1, .int x2]) rfl rfl (z_rok_ref T0) (rest := [.int (0 : Int32)]) rfl (z_tyI rfl rfl) ?_
  refine C_95 a0 x1 x2 h W T0  ?_
  refine k_n 2 (pc' := 9) (L' := [some (.ref a0), some (.int x1), some (.int x2), some (.int x3), some (.int x4), some (.int x5), none]) (S' := [.int ((if (s_dn ((x1.toInt64 * x2.toInt64) * (z_iv h a0 2).toInt64) ((z_iv h a0 0).toInt64 * (z_iv h a0 1).toInt64)) < (100000 : Int64) then (s_dn ((x1.toInt64 * x2.toInt64) * (z_iv h a0 2).toInt64) ((z_iv h a0 0).toInt64 * (z_iv h a0 1).toInt64)) else (100000 : Int64)).toInt32 - x3), .int (0 : Int32)]) (h' := h) rfl ?_
  refine k_cI 12 2 rfl rfl rfl (A := [.int (0 : Int32), .int ((if (s_dn ((x1.toInt64 * x2.toInt64) * (z_iv h a0 2).toInt64) ((z_iv h a0 0).toInt64 * (z_iv h a0 1).toInt64)) < (100000 : Int64) then (s_dn ((x1.toInt64 * x2.toInt64) * (z_iv h a0 2).toInt64) ((z_iv h a0 0).toInt64 * (z_iv h a0 1).toInt64)) else (100000 : Int64)).toInt32 - x3)]) rfl rfl rfl (rest := []) rfl (z_tyI rfl rfl) ?_
  refine C_12 (0 : Int32) ((if (s_dn ((x1.toInt64 * x2.toInt64) * (z_iv h a0 2).toInt64) ((z_iv h a0 0).toInt64 * (z_iv h a0 1).toInt64)) < (100000 : Int64) then (s_dn ((x1.toInt64 * x2.toInt64) * (z_iv h a0 2).toInt64) ((z_iv h a0 0).toInt64 * (z_iv h a0 1).toInt64)) else (100000 : Int64)).toInt32 - x3) h    ?_
  refine k_n 8 (pc' := 24) (L' := [some (.ref a0), some (.int x1), some (.int x2), some (.int x3), some (.int x4), some (.int x5), some (.int (if (0 : Int32) < ((if (s_dn ((x1.toInt64 * x2.toInt64) * (z_iv h a0 2).toInt64) ((z_iv h a0 0).toInt64 * (z_iv h a0 1).toInt64)) < (100000 : Int64) then (s_dn ((x1.toInt64 * x2.toInt64) * (z_iv h a0 2).toInt64) ((z_iv h a0 0).toInt64 * (z_iv h a0 1).toInt64)) else (100000 : Int64)).toInt32 - x3) then ((if (s_dn ((x1.toInt64 * x2.toInt64) * (z_iv h a0 2).toInt64) ((z_iv h a0 0).toInt64 * (z_iv h a0 1).toInt64)) < (100000 : Int64) then (s_dn ((x1.toInt64 * x2.toInt64) * (z_iv h a0 2).toInt64) ((z_iv h a0 0).toInt64 * (z_iv h a0 1).toInt64)) else (100000 : Int64)).toInt32 - x3) else (0 : Int32)))]) (S' := [.long x5.toInt64, .long ((if (0 : Int32) < ((if (s_dn ((x1.toInt64 * x2.toInt64) * (z_iv h a0 2).toInt64) ((z_iv h a0 0).toInt64 * (z_iv h a0 1).toInt64)) < (100000 : Int64) then (s_dn ((x1.toInt64 * x2.toInt64) * (z_iv h a0 2).toInt64) ((z_iv h a0 0).toInt64 * (z_iv h a0 1).toInt64)) else (100000 : Int64)).toInt32 - x3) then ((if (s_dn ((x1.toInt64 * x2.toInt64) * (z_iv h a0 2).toInt64) ((z_iv h a0 0).toInt64 * (z_iv h a0 1).toInt64)) < (100000 : Int64) then (s_dn ((x1.toInt64 * x2.toInt64) * (z_iv h a0 2).toInt64) ((z_iv h a0 0).toInt64 * (z_iv h a0 1).toInt64)) else (100000 : Int64)).toInt32 - x3) else (0 : Int32)).toInt64 * x4.toInt64)]) (h' := h) rfl ?_
  refine k_cL 146 2 rfl rfl rfl (A := [.long ((if (0 : Int32) < ((if (s_dn ((x1.toInt64 * x2.toInt64) * (z_iv h a0 2).toInt64) ((z_iv h a0 0).toInt64 * (z_iv h a0 1).toInt64)) < (100000 : Int64) then (s_dn ((x1.toInt64 * x2.toInt64) * (z_iv h a0 2).toInt64) ((z_iv h a0 0).toInt64 * (z_iv h a0 1).toInt64)) else (100000 : Int64)).toInt32 - x3) then ((if (s_dn ((x1.toInt64 * x2.toInt64) * (z_iv h a0 2).toInt64) ((z_iv h a0 0).toInt64 * (z_iv h a0 1).toInt64)) < (100000 : Int64) then (s_dn ((x1.toInt64 * x2.toInt64) * (z_iv h a0 2).toInt64) ((z_iv h a0 0).toInt64 * (z_iv h a0 1).toInt64)) else (100000 : Int64)).toInt32 - x3) else (0 : Int32)).toInt64 * x4.toInt64), .long x5.toInt64]) rfl rfl rfl (rest := []) rfl rfl ?_
  refine c_dn ((if (0 : Int32) < ((if (s_dn ((x1.toInt64 * x2.toInt64) * (z_iv h a0 2).toInt64) ((z_iv h a0 0).toInt64 * (z_iv h a0 1).toInt64)) < (100000 : Int64) then (s_dn ((x1.toInt64 * x2.toInt64) * (z_iv h a0 2).toInt64) ((z_iv h a0 0).toInt64 * (z_iv h a0 1).toInt64)) else (100000 : Int64)).toInt32 - x3) then ((if (s_dn ((x1.toInt64 * x2.toInt64) * (z_iv h a0 2).toInt64) ((z_iv h a0 0).toInt64 * (z_iv h a0 1).toInt64)) < (100000 : Int64) then (s_dn ((x1.toInt64 * x2.toInt64) * (z_iv h a0 2).toInt64) ((z_iv h a0 0).toInt64 * (z_iv h a0 1).toInt64)) else (100000 : Int64)).toInt32 - x3) else (0 : Int32)).toInt64 * x4.toInt64) x5.toInt64 h  ?_
  refine k_n 1 (pc' := 28) (L' := [some (.ref a0), some (.int x1), some (.int x2), some (.int x3), some (.int x4), some (.int x5), some (.int (if (0 : Int32) < ((if (s_dn ((x1.toInt64 * x2.toInt64) * (z_iv h a0 2).toInt64) ((z_iv h a0 0).toInt64 * (z_iv h a0 1).toInt64)) < (100000 : Int64) then (s_dn ((x1.toInt64 * x2.toInt64) * (z_iv h a0 2).toInt64) ((z_iv h a0 0).toInt64 * (z_iv h a0 1).toInt64)) else (100000 : Int64)).toInt32 - x3) then ((if (s_dn ((x1.toInt64 * x2.toInt64) * (z_iv h a0 2).toInt64) ((z_iv h a0 0).toInt64 * (z_iv h a0 1).toInt64)) < (100000 : Int64) then (s_dn ((x1.toInt64 * x2.toInt64) * (z_iv h a0 2).toInt64) ((z_iv h a0 0).toInt64 * (z_iv h a0 1).toInt64)) else (100000 : Int64)).toInt32 - x3) else (0 : Int32)))]) (S' := [.int ((s_dn ((if (0 : Int32) < ((if (s_dn ((x1.toInt64 * x2.toInt64) * (z_iv h a0 2).toInt64) ((z_iv h a0 0).toInt64 * (z_iv h a0 1).toInt64)) < (100000 : Int64) then (s_dn ((x1.toInt64 * x2.toInt64) * (z_iv h a0 2).toInt64) ((z_iv h a0 0).toInt64 * (z_iv h a0 1).toInt64)) else (100000 : Int64)).toInt32 - x3) then ((if (s_dn ((x1.toInt64 * x2.toInt64) * (z_iv h a0 2).toInt64) ((z_iv h a0 0).toInt64 * (z_iv h a0 1).toInt64)) < (100000 : Int64) then (s_dn ((x1.toInt64 * x2.toInt64) * (z_iv h a0 2).toInt64) ((z_iv h a0 0).toInt64 * (z_iv h a0 1).toInt64)) else (100000 : Int64)).toInt32 - x3) else (0 : Int32)).toInt64 * x4.toInt64) x5.toInt64).toInt32)]) (h' := h) rfl ?_
  exact k_r rfl rfl rfl H
theorem C_97 (a0 : Nat) (x1 : Int32) (x2 : Int32) (x3 : Int32) (x4 : Int32) (x5 : Int32) (h : zH) (W : CW h) (T0 : z_tg h a0 = 10)  {Q : Int32 → zH → Prop} (q : Q ((s_dn ((if (0 : Int32) < ((if (s_dn ((x1.toInt64 * x2.toInt64) * (z_iv h a0 2).toInt64) ((z_iv h a0 0).toInt64 * (z_iv h a0 1).toInt64)) < (100000 : Int64) then (s_dn ((x1.toInt64 * x2.toInt64) * (z_iv h a0 2).toInt64) ((z_iv h a0 0).toInt64 * (z_iv h a0 1).toInt64)) else (100000 : Int64)).toInt32 - x3) then ((if (s_dn ((x1.toInt64 * x2.toInt64) * (z_iv h a0 2).toInt64) ((z_iv h a0 0).toInt64 * (z_iv h a0 1).toInt64)) < (100000 : Int64) then (s_dn ((x1.toInt64 * x2.toInt64) * (z_iv h a0 2).toInt64) ((z_iv h a0 0).toInt64 * (z_iv h a0 1).toInt64)) else (100000 : Int64)).toInt32 - x3) else (0 : Int32)).toInt64 * x4.toInt64) x5.toInt64).toInt32) h) : KK z_pI 97 [.ref a0, .int x1, .int x2, .int x3, .int x4, .int x5] h Q := by
  refine X_97 a0 x1 x2 x3 x4 x5 h W T0 ?_
  exact q
set_option maxRecDepth 20000 in
theorem X_18 (x1 : Int32) (h : zH)  {Q : Int32 → zH → Prop} (H : if x1 < 0 then (Q (-4 : Int32) h) else ((¬ ((7 : Int32) ≤ x1) → 0 ≤ x1.toInt ∧ x1.toInt < 7) ∧ (∀ m3 : Int32, m3 = (if (7 : Int32) ≤ x1 then (-4 : Int32) else ((z_st.getD 0 []).getD (z_ix x1) 0)) → Q m3 h))) : KK z_pI 18 [.int x1] h Q := by
  refine k_K (L := [some (.int x1)]) rfl ?_
  refine k_n 1 (pc' := 1) (L' := [some (.int x1)]) (S' := [.int x1]) (h' := h) rfl ?_
  refine k_b (g := x1 < 0) (pc' := 20) (L' := [some (.int x1)]) (S' := []) (pc2 := 4) (L2 := [some (.int x1)]) (S2 := []) (h' := h) (h2 := h) rfl rfl (fun hc => ?_) (fun hc => ?_)
  · have hc := hc
    rw [if_pos hc] at H
    refine k_n 1 (pc' := 22) (L' := [some (.int x1)]) (S' := [.int (-4 : Int32)]) (h' := h) rfl ?_
    exact k_r rfl rfl rfl H
  · have hc := hc
    rw [if_neg hc] at H
    refine k_n 2 (pc' := 8) (L' := [some (.int x1)]) (S' := [.retAddr 0, .int x1]) (h' := h) rfl ?_
    refine k_g (g := 0 < 3 ∨ (11 ≤ 0 ∧ 0 < 20)) (pc' := 9) (L' := [some (.int x1)]) (S' := [.int (7 : Int32), .int x1]) (h' := h) rfl rfl (by decide) ?_
    obtain ⟨o2, H⟩ := H
    obtain ⟨m3, em3⟩ : ∃ m : Int32, m = (if (7 : Int32) ≤ x1 then (-4 : Int32) else ((z_st.getD 0 []).getD (z_ix x1) 0)) := ⟨_, rfl⟩
    have H := H m3 em3
    have hj4 : KG z_pI 18 22 [some (.int x1)] [.int m3] h Q := by
      exact k_r rfl rfl rfl H
    refine k_b (g := (7 : Int32) ≤ x1) (pc' := 20) (L' := [some (.int x1)]) (S' := []) (pc2 := 12) (L2 := [some (.int x1)]) (S2 := []) (h' := h) (h2 := h) rfl rfl (fun hc => ?_) (fun hc => ?_)
    · have c1 := hc
      refine k_n 1 (pc' := 22) (L' := [some (.int x1)]) (S' := [.int (-4 : Int32)]) (h' := h) rfl ?_
      rw [(em3.trans (by rw [if_pos c1]) : m3 = (-4 : Int32))] at hj4
      exact hj4
    · have c1 := hc
      refine k_n 2 (pc' := 16) (L' := [some (.int x1)]) (S' := [.int x1, .retAddr 0]) (h' := h) rfl ?_
      refine k_sa (n := 7) rfl rfl rfl (o2 c1) ?_
      refine k_n 1 (pc' := 22) (L' := [some (.int x1)]) (S' := [.int ((z_st.getD 0 []).getD (z_ix x1) 0)]) (h' := h) rfl ?_
      rw [(em3.trans (by rw [if_neg c1]) : m3 = ((z_st.getD 0 []).getD (z_ix x1) 0))] at hj4
      exact hj4
theorem C_18 (x1 : Int32) (h : zH)  (O0 : ¬ (x1 < 0) → ¬ ((7 : Int32) ≤ x1) → 0 ≤ x1.toInt ∧ x1.toInt < 7) {Q : Int32 → zH → Prop} (q : Q (if x1 < 0 then (-4 : Int32) else (if (7 : Int32) ≤ x1 then (-4 : Int32) else ((z_st.getD 0 []).getD (z_ix x1) 0))) h) : KK z_pI 18 [.int x1] h Q := by
  refine X_18 x1 h   ?_
  refine z_ifd (fun c1_0 => ?_) (fun c1_0 => ?_)
  · rw [if_pos c1_0] at q
    exact q
  · rw [if_neg c1_0] at q
    refine ⟨O0 c1_0, ?_⟩
    intro m_ em_; subst em_
    exact q
set_option maxRecDepth 20000 in
theorem X_17 (a0 : Nat) (x1 : Int32) (x2 : Int32) (x3 : Int32) (x4 : Int32) (h : zH) (W : CW h) (T0 : z_tg h a0 = 1) {Q : Unit → zH → Prop} (H : if (z_iv h a0 5) < 0 then (Q () h) else (if (z_iv h a0 5) < (16 : Int32) then ((0 ≤ (z_iv h a0 5).toInt ∧ (z_iv h a0 5).toInt < 16) ∧ (0 ≤ (z_iv h a0 5).toInt ∧ (z_iv h a0 5).toInt < 16) ∧ (¬ (x2 < 0) → ¬ ((7 : Int32) ≤ x2) → 0 ≤ x2.toInt ∧ x2.toInt < 7) ∧ (0 ≤ (z_iv h a0 5).toInt ∧ (z_iv h a0 5).toInt < 16) ∧ (0 ≤ (z_iv h a0 5).toInt ∧ (z_iv h a0 5).toInt < 16) ∧ (0 ≤ (z_iv h a0 5).toInt ∧ (z_iv h a0 5).toInt < 16) ∧ Q () (z_sI (z_sI (z_sI (z_sI (z_sI (z_sI h (a0 + 1) (z_ix (z_iv h a0 5)) x1) (a0 + 2) (z_ix (z_iv h a0 5)) x2) (a0 + 3) (z_ix (z_iv h a0 5)) (if x2 < 0 then (-4 : Int32) else (if (7 : Int32) ≤ x2 then (-4 : Int32) else ((z_st.getD 0 []).getD (z_ix x2) 0)))) (a0 + 4) (z_ix (z_iv h a0 5)) x3) (a0 + 5) (z_ix (z_iv h a0 5)) x4) a0 5 ((z_iv h a0 5) + (1 : Int32)))) else (Q () h))) : KK z_pV 17 [.ref a0, .int x1, .int x2, .int x3, .int x4] h Q := by
  refine k_K (L := [some (.ref a0), some (.int x1), some (.int x2), some (.int x3), some (.int x4)]) rfl ?_
  refine k_n 1 (pc' := 1) (L' := [some (.ref a0), some (.int x1), some (.int x2), some (.int x3), some (.int x4)]) (S' := [.ref a0]) (h' := h) rfl ?_
  refine k_gI rfl rfl T0 ?_
  refine k_b (g := (z_iv h a0 5) < 0) (pc' := 16) (L' := [some (.ref a0), some (.int x1), some (.int x2), some (.int x3), some (.int x4)]) (S' := []) (pc2 := 7) (L2 := [some (.ref a0), some (.int x1), some (.int x2), some (.int x3), some (.int x4)]) (S2 := []) (h' := h) (h2 := h) rfl rfl (fun hc => ?_) (fun hc => ?_)
  · have hc := hc
    rw [if_pos hc] at H
    exact k_r rfl rfl rfl H
  · have hc := hc
    rw [if_neg hc] at H
    refine k_n 1 (pc' := 8) (L' := [some (.ref a0), some (.int x1), some (.int x2), some (.int x3), some (.int x4)]) (S' := [.ref a0]) (h' := h) rfl ?_
    refine k_gI rfl rfl T0 ?_
    refine k_n 1 (pc' := 13) (L' := [some (.ref a0), some (.int x1), some (.int x2), some (.int x3), some (.int x4)]) (S' := [.int (16 : Int32), .int (z_iv h a0 5)]) (h' := h) rfl ?_
    refine k_b (g := (z_iv h a0 5) < (16 : Int32)) (pc' := 17) (L' := [some (.ref a0), some (.int x1), some (.int x2), some (.int x3), some (.int x4)]) (S' := []) (pc2 := 16) (L2 := [some (.ref a0), some (.int x1), some (.int x2), some (.int x3), some (.int x4)]) (S2 := []) (h' := h) (h2 := h) rfl rfl (fun hc => ?_) (fun hc => ?_)
    · have hc := hc
      rw [if_pos hc] at H
      refine k_n 1 (pc' := 18) (L' := [some (.ref a0), some (.int x1), some (.int x2), some (.int x3), some (.int x4)]) (S' := [.ref a0]) (h' := h) rfl ?_
      refine k_gS (b := (a0 + 1)) rfl T0 (W.reOf (t := 1) (j := 0) (o := 1) (n := 16) (by decide) T0).1 ?_
      refine k_n 1 (pc' := 22) (L' := [some (.ref a0), some (.int x1), some (.int x2), some (.int x3), some (.int x4)]) (S' := [.ref a0, .ref (a0 + 1)]) (h' := h) rfl ?_
      refine k_gI rfl rfl T0 ?_
      refine k_n 1 (pc' := 26) (L' := [some (.ref a0), some (.int x1), some (.int x2), some (.int x3), some (.int x4)]) (S' := [.int x1, .int (z_iv h a0 5), .ref (a0 + 1)]) (h' := h) rfl ?_
      obtain ⟨o1, H⟩ := H
      refine k_is (n := 16) rfl (CW.tyOf (t := 1) (t' := 100) W (j := 0) T0 (W.reOf (t := 1) (j := 0) (o := 1) (n := 16) (by decide) T0).1 (by decide) rfl) (W.reOf (t := 1) (j := 0) (o := 1) (n := 16) (by decide) T0).2 o1 ?_
      refine k_n 1 (pc' := 28) (L' := [some (.ref a0), some (.int x1), some (.int x2), some (.int x3), some (.int x4)]) (S' := [.ref a0]) (h' := (z_sI h (a0 + 1) (z_ix (z_iv h a0 5)) x1)) rfl ?_
      refine k_gS (b := (a0 + 2)) rfl (z_tgI T0) ((CW.sI W).reOf (t := 1) (j := 1) (o := 2) (n := 16) (by decide) (z_tgI T0)).1 ?_
      refine k_n 1 (pc' := 32) (L' := [some (.ref a0), some (.int x1), some (.int x2), some (.int x3), some (.int x4)]) (S' := [.ref a0, .ref (a0 + 2)]) (h' := (z_sI h (a0 + 1) (z_ix (z_iv h a0 5)) x1)) rfl ?_
      refine k_gV rfl rfl (z_tgI T0) (v_nt T0 (CW.tyOf (t := 1) (t' := 100) W (j := 0) T0 (W.reOf (t := 1) (j := 0) (o := 1) (n := 16) (by decide) T0).1 (by decide) rfl) (by decide) rfl) ?_
      refine k_n 1 (pc' := 36) (L' := [some (.ref a0), some (.int x1), some (.int x2), some (.int x3), some (.int x4)]) (S' := [.int x2, .int (z_iv h a0 5), .ref (a0 + 2)]) (h' := (z_sI h (a0 + 1) (z_ix (z_iv h a0 5)) x1)) rfl ?_
      obtain ⟨o2, H⟩ := H
      refine k_is (n := 16) rfl (CW.tyOf (t := 1) (t' := 100) (CW.sI W) (j := 1) (z_tgI T0) ((CW.sI W).reOf (t := 1) (j := 1) (o := 2) (n := 16) (by decide) (z_tgI T0)).1 (by decide) rfl) ((CW.sI W).reOf (t := 1) (j := 1) (o := 2) (n := 16) (by decide) (z_tgI T0)).2 o2 ?_
      refine k_n 1 (pc' := 38) (L' := [some (.ref a0), some (.int x1), some (.int x2), some (.int x3), some (.int x4)]) (S' := [.ref a0]) (h' := (z_sI (z_sI h (a0 + 1) (z_ix (z_iv h a0 5)) x1) (a0 + 2) (z_ix (z_iv h a0 5)) x2)) rfl ?_
      refine k_gS (b := (a0 + 3)) rfl (z_tgI (z_tgI T0)) ((CW.sI (CW.sI W)).reOf (t := 1) (j := 2) (o := 3) (n := 16) (by decide) (z_tgI (z_tgI T0))).1 ?_
      refine k_n 1 (pc' := 42) (L' := [some (.ref a0), some (.int x1), some (.int x2), some (.int x3), some (.int x4)]) (S' := [.ref a0, .ref (a0 + 3)]) (h' := (z_sI (z_sI h (a0 + 1) (z_ix (z_iv h a0 5)) x1) (a0 + 2) (z_ix (z_iv h a0 5)) x2)) rfl ?_
      refine k_gV rfl rfl (z_tgI (z_tgI T0)) (v_nt (z_tgI T0) (CW.tyOf (t := 1) (t' := 100) (CW.sI W) (j := 1) (z_tgI T0) ((CW.sI W).reOf (t := 1) (j := 1) (o := 2) (n := 16) (by decide) (z_tgI T0)).1 (by decide) rfl) (by decide) (v_nt T0 (CW.tyOf (t := 1) (t' := 100) W (j := 0) T0 (W.reOf (t := 1) (j := 0) (o := 1) (n := 16) (by decide) T0).1 (by decide) rfl) (by decide) rfl)) ?_
      refine k_n 1 (pc' := 46) (L' := [some (.ref a0), some (.int x1), some (.int x2), some (.int x3), some (.int x4)]) (S' := [.int x2, .int (z_iv h a0 5), .ref (a0 + 3)]) (h' := (z_sI (z_sI h (a0 + 1) (z_ix (z_iv h a0 5)) x1) (a0 + 2) (z_ix (z_iv h a0 5)) x2)) rfl ?_
      refine k_cI 18 1 rfl rfl rfl (A := [.int x2]) rfl rfl rfl (rest := [.int (z_iv h a0 5), .ref (a0 + 3)]) rfl (z_tyI rfl rfl) ?_
      obtain ⟨o3, H⟩ := H
      refine C_18 x2 (z_sI (z_sI h (a0 + 1) (z_ix (z_iv h a0 5)) x1) (a0 + 2) (z_ix (z_iv h a0 5)) x2)   o3 ?_
      obtain ⟨o4, H⟩ := H
      refine k_is (n := 16) rfl (CW.tyOf (t := 1) (t' := 100) (CW.sI (CW.sI W)) (j := 2) (z_tgI (z_tgI T0)) ((CW.sI (CW.sI W)).reOf (t := 1) (j := 2) (o := 3) (n := 16) (by decide) (z_tgI (z_tgI T0))).1 (by decide) rfl) ((CW.sI (CW.sI W)).reOf (t := 1) (j := 2) (o := 3) (n := 16) (by decide) (z_tgI (z_tgI T0))).2 o4 ?_
      refine k_n 1 (pc' := 51) (L' := [some (.ref a0), some (.int x1), some (.int x2), some (.int x3), some (.int x4)]) (S' := [.ref a0]) (h' := (z_sI (z_sI (z_sI h (a0 + 1) (z_ix (z_iv h a0 5)) x1) (a0 + 2) (z_ix (z_iv h a0 5)) x2) (a0 + 3) (z_ix (z_iv h a0 5)) (if x2 < 0 then (-4 : Int32) else (if (7 : Int32) ≤ x2 then (-4 : Int32) else ((z_st.getD 0 []).getD (z_ix x2) 0))))) rfl ?_
      refine k_gS (b := (a0 + 4)) rfl (z_tgI (z_tgI (z_tgI T0))) ((CW.sI (CW.sI (CW.sI W))).reOf (t := 1) (j := 3) (o := 4) (n := 16) (by decide) (z_tgI (z_tgI (z_tgI T0)))).1 ?_
      refine k_n 1 (pc' := 55) (L' := [some (.ref a0), some (.int x1), some (.int x2), some (.int x3), some (.int x4)]) (S' := [.ref a0, .ref (a0 + 4)]) (h' := (z_sI (z_sI (z_sI h (a0 + 1) (z_ix (z_iv h a0 5)) x1) (a0 + 2) (z_ix (z_iv h a0 5)) x2) (a0 + 3) (z_ix (z_iv h a0 5)) (if x2 < 0 then (-4 : Int32) else (if (7 : Int32) ≤ x2 then (-4 : Int32) else ((z_st.getD 0 []).getD (z_ix x2) 0))))) rfl ?_
      refine k_gV rfl rfl (z_tgI (z_tgI (z_tgI T0))) (v_nt (z_tgI (z_tgI T0)) (CW.tyOf (t := 1) (t' := 100) (CW.sI (CW.sI W)) (j := 2) (z_tgI (z_tgI T0)) ((CW.sI (CW.sI W)).reOf (t := 1) (j := 2) (o := 3) (n := 16) (by decide) (z_tgI (z_tgI T0))).1 (by decide) rfl) (by decide) (v_nt (z_tgI T0) (CW.tyOf (t := 1) (t' := 100) (CW.sI W) (j := 1) (z_tgI T0) ((CW.sI W).reOf (t := 1) (j := 1) (o := 2) (n := 16) (by decide) (z_tgI T0)).1 (by decide) rfl) (by decide) (v_nt T0 (CW.tyOf (t := 1) (t' := 100) W (j := 0) T0 (W.reOf (t := 1) (j := 0) (o := 1) (n := 16) (by decide) T0).1 (by decide) rfl) (by decide) rfl))) ?_
      refine k_n 1 (pc' := 59) (L' := [some (.ref a0), some (.int x1), some (.int x2), some (.int x3), some (.int x4)]) (S' := [.int x3, .int (z_iv h a0 5), .ref (a0 + 4)]) (h' := (z_sI (z_sI (z_sI h (a0 + 1) (z_ix (z_iv h a0 5)) x1) (a0 + 2) (z_ix (z_iv h a0 5)) x2) (a0 + 3) (z_ix (z_iv h a0 5)) (if x2 < 0 then (-4 : Int32) else (if (7 : Int32) ≤ x2 then (-4 : Int32) else ((z_st.getD 0 []).getD (z_ix x2) 0))))) rfl ?_
      obtain ⟨o5, H⟩ := H
      refine k_is (n := 16) rfl (CW.tyOf (t := 1) (t' := 100) (CW.sI (CW.sI (CW.sI W))) (j := 3) (z_tgI (z_tgI (z_tgI T0))) ((CW.sI (CW.sI (CW.sI W))).reOf (t := 1) (j := 3) (o := 4) (n := 16) (by decide) (z_tgI (z_tgI (z_tgI T0)))).1 (by decide) rfl) ((CW.sI (CW.sI (CW.sI W))).reOf (t := 1) (j := 3) (o := 4) (n := 16) (by decide) (z_tgI (z_tgI (z_tgI T0)))).2 o5 ?_
      refine k_n 1 (pc' := 61) (L' := [some (.ref a0), some (.int x1), some (.int x2), some (.int x3), some (.int x4)]) (S' := [.ref a0]) (h' := (z_sI (z_sI (z_sI (z_sI h (a0 + 1) (z_ix (z_iv h a0 5)) x1) (a0 + 2) (z_ix (z_iv h a0 5)) x2) (a0 + 3) (z_ix (z_iv h a0 5)) (if x2 < 0 then (-4 : Int32) else (if (7 : Int32) ≤ x2 then (-4 : Int32) else ((z_st.getD 0 []).getD (z_ix x2) 0)))) (a0 + 4) (z_ix (z_iv h a0 5)) x3)) rfl ?_
      refine k_gS (b := (a0 + 5)) rfl (z_tgI (z_tgI (z_tgI (z_tgI T0)))) ((CW.sI (CW.sI (CW.sI (CW.sI W)))).reOf (t := 1) (j := 4) (o := 5) (n := 16) (by decide) (z_tgI (z_tgI (z_tgI (z_tgI T0))))).1 ?_
      refine k_n 1 (pc' := 65) (L' := [some (.ref a0), some (.int x1), some (.int x2), some (.int x3), some (.int x4)]) (S' := [.ref a0, .ref (a0 + 5)]) (h' := (z_sI (z_sI (z_sI (z_sI h (a0 + 1) (z_ix (z_iv h a0 5)) x1) (a0 + 2) (z_ix (z_iv h a0 5)) x2) (a0 + 3) (z_ix (z_iv h a0 5)) (if x2 < 0 then (-4 : Int32) else (if (7 : Int32) ≤ x2 then (-4 : Int32) else ((z_st.getD 0 []).getD (z_ix x2) 0)))) (a0 + 4) (z_ix (z_iv h a0 5)) x3)) rfl ?_
      refine k_gV rfl rfl (z_tgI (z_tgI (z_tgI (z_tgI T0)))) (v_nt (z_tgI (z_tgI (z_tgI T0))) (CW.tyOf (t := 1) (t' := 100) (CW.sI (CW.sI (CW.sI W))) (j := 3) (z_tgI (z_tgI (z_tgI T0))) ((CW.sI (CW.sI (CW.sI W))).reOf (t := 1) (j := 3) (o := 4) (n := 16) (by decide) (z_tgI (z_tgI (z_tgI T0)))).1 (by decide) rfl) (by decide) (v_nt (z_tgI (z_tgI T0)) (CW.tyOf (t := 1) (t' := 100) (CW.sI (CW.sI W)) (j := 2) (z_tgI (z_tgI T0)) ((CW.sI (CW.sI W)).reOf (t := 1) (j := 2) (o := 3) (n := 16) (by decide) (z_tgI (z_tgI T0))).1 (by decide) rfl) (by decide) (v_nt (z_tgI T0) (CW.tyOf (t := 1) (t' := 100) (CW.sI W) (j := 1) (z_tgI T0) ((CW.sI W).reOf (t := 1) (j := 1) (o := 2) (n := 16) (by decide) (z_tgI T0)).1 (by decide) rfl) (by decide) (v_nt T0 (CW.tyOf (t := 1) (t' := 100) W (j := 0) T0 (W.reOf (t := 1) (j := 0) (o := 1) (n := 16) (by decide) T0).1 (by decide) rfl) (by decide) rfl)))) ?_
      refine k_n 1 (pc' := 70) (L' := [some (.ref a0), some (.int x1), some (.int x2), some (.int x3), some (.int x4)]) (S' := [.int x4, .int (z_iv h a0 5), .ref (a0 + 5)]) (h' := (z_sI (z_sI (z_sI (z_sI h (a0 + 1) (z_ix (z_iv h a0 5)) x1) (a0 + 2) (z_ix (z_iv h a0 5)) x2) (a0 + 3) (z_ix (z_iv h a0 5)) (if x2 < 0 then (-4 : Int32) else (if (7 : Int32) ≤ x2 then (-4 : Int32) else ((z_st.getD 0 []).getD (z_ix x2) 0)))) (a0 + 4) (z_ix (z_iv h a0 5)) x3)) rfl ?_
      obtain ⟨o6, H⟩ := H
      refine k_is (n := 16) rfl (CW.tyOf (t := 1) (t' := 100) (CW.sI (CW.sI (CW.sI (CW.sI W)))) (j := 4) (z_tgI (z_tgI (z_tgI (z_tgI T0)))) ((CW.sI (CW.sI (CW.sI (CW.sI W)))).reOf (t := 1) (j := 4) (o := 5) (n := 16) (by decide) (z_tgI (z_tgI (z_tgI (z_tgI T0))))).1 (by decide) rfl) ((CW.sI (CW.sI (CW.sI (CW.sI W)))).reOf (t := 1) (j := 4) (o := 5) (n := 16) (by decide) (z_tgI (z_tgI (z_tgI (z_tgI T0))))).2 o6 ?_
      refine k_n 2 (pc' := 73) (L' := [some (.ref a0), some (.int x1), some (.int x2), some (.int x3), some (.int x4)]) (S' := [.ref a0, .ref a0]) (h' := (z_sI (z_sI (z_sI (z_sI (z_sI h (a0 + 1) (z_ix (z_iv h a0 5)) x1) (a0 + 2) (z_ix (z_iv h a0 5)) x2) (a0 + 3) (z_ix (z_iv h a0 5)) (if x2 < 0 then (-4 : Int32) else (if (7 : Int32) ≤ x2 then (-4 : Int32) else ((z_st.getD 0 []).getD (z_ix x2) 0)))) (a0 + 4) (z_ix (z_iv h a0 5)) x3) (a0 + 5) (z_ix (z_iv h a0 5)) x4)) rfl ?_
      refine k_gV rfl rfl (z_tgI (z_tgI (z_tgI (z_tgI (z_tgI T0))))) (v_nt (z_tgI (z_tgI (z_tgI (z_tgI T0)))) (CW.tyOf (t := 1) (t' := 100) (CW.sI (CW.sI (CW.sI (CW.sI W)))) (j := 4) (z_tgI (z_tgI (z_tgI (z_tgI T0)))) ((CW.sI (CW.sI (CW.sI (CW.sI W)))).reOf (t := 1) (j := 4) (o := 5) (n := 16) (by decide) (z_tgI (z_tgI (z_tgI (z_tgI T0))))).1 (by decide) rfl) (by decide) (v_nt (z_tgI (z_tgI (z_tgI T0))) (CW.tyOf (t := 1) (t' := 100) (CW.sI (CW.sI (CW.sI W))) (j := 3) (z_tgI (z_tgI (z_tgI T0))) ((CW.sI (CW.sI (CW.sI W))).reOf (t := 1) (j := 3) (o := 4) (n := 16) (by decide) (z_tgI (z_tgI (z_tgI T0)))).1 (by decide) rfl) (by decide) (v_nt (z_tgI (z_tgI T0)) (CW.tyOf (t := 1) (t' := 100) (CW.sI (CW.sI W)) (j := 2) (z_tgI (z_tgI T0)) ((CW.sI (CW.sI W)).reOf (t := 1) (j := 2) (o := 3) (n := 16) (by decide) (z_tgI (z_tgI T0))).1 (by decide) rfl) (by decide) (v_nt (z_tgI T0) (CW.tyOf (t := 1) (t' := 100) (CW.sI W) (j := 1) (z_tgI T0) ((CW.sI W).reOf (t := 1) (j := 1) (o := 2) (n := 16) (by decide) (z_tgI T0)).1 (by decide) rfl) (by decide) (v_nt T0 (CW.tyOf (t := 1) (t' := 100) W (j := 0) T0 (W.reOf (t := 1) (j := 0) (o := 1) (n := 16) (by decide) T0).1 (by decide) rfl) (by decide) rfl))))) ?_
      refine k_n 2 (pc' := 78) (L' := [some (.ref a0), some (.int x1), some (.int x2), some (.int x3), some (.int x4)]) (S' := [.int ((z_iv h a0 5) + (1 : Int32)), .ref a0]) (h' := (z_sI (z_sI (z_sI (z_sI (z_sI h (a0 + 1) (z_ix (z_iv h a0 5)) x1) (a0 + 2) (z_ix (z_iv h a0 5)) x2) (a0 + 3) (z_ix (z_iv h a0 5)) (if x2 < 0 then (-4 : Int32) else (if (7 : Int32) ≤ x2 then (-4 : Int32) else ((z_st.getD 0 []).getD (z_ix x2) 0)))) (a0 + 4) (z_ix (z_iv h a0 5)) x3) (a0 + 5) (z_ix (z_iv h a0 5)) x4)) rfl ?_
      refine k_pI rfl (z_tgI (z_tgI (z_tgI (z_tgI (z_tgI T0))))) ?_
      exact k_r rfl rfl rfl H
    · have hc := hc
      rw [if_neg hc] at H
      exact k_r rfl rfl rfl H
set_option maxRecDepth 20000 in
theorem X_88 (a0 : Nat) (x1 : Int32) (h : zH) (W : CW h) (T0 : z_tg h a0 = 8) {Q : Int32 → zH → Prop} (H : Q (z_bt ((0 : Int32) ≤ x1 ∧ x1 ≤ ((Int32.ofNat (z_ln h (a0 + 1))) - (1 : Int32)))) h) : KK z_pI 88 [.ref a0, .int x1] h Q := by
  refine k_K (L := [some (.ref a0), some (.int x1)]) rfl ?_
  refine k_n 3 (pc' := 3) (L' := [some (.ref a0), some (.int x1)]) (S' := [.ref a0, .int (0 : Int32), .int x1]) (h' := h) rfl ?_
  refine k_gS (b := (a0 + 1)) rfl T0 (W.sh a0 T0).1 ?_
  refine k_ln (n := (z_ln h (a0 + 1))) rfl (CW.tyOf (t := 8) (t' := 100) W (j := 1) T0 (W.sh a0 T0).1 (by decide) rfl) rfl rfl ?_
  refine k_n 2 (pc' := 9) (L' := [some (.ref a0), some (.int x1)]) (S' := [.int ((Int32.ofNat (z_ln h (a0 + 1))) - (1 : Int32)), .int (0 : Int32), .int x1]) (h' := h) rfl ?_
  refine k_cI 135 3 rfl rfl rfl (A := [.int x1, .int (0 : Int32), .int ((Int32.ofNat (z_ln h (a0 + 1))) - (1 : Int32))]) rfl rfl rfl (rest := []) rfl (z_tyI rfl rfl) ?_
  refine c_within x1 (0 : Int32) ((Int32.ofNat (z_ln h (a0 + 1))) - (1 : Int32)) h ?_
  exact k_r rfl (z_retB z_bt_01) rfl H
theorem C_88 (a0 : Nat) (x1 : Int32) (h : zH) (W : CW h) (T0 : z_tg h a0 = 8)  {Q : Int32 → zH → Prop} (q : Q (z_bt ((0 : Int32) ≤ x1 ∧ x1 ≤ ((Int32.ofNat (z_ln h (a0 + 1))) - (1 : Int32)))) h) : KK z_pI 88 [.ref a0, .int x1] h Q := by
  refine X_88 a0 x1 h W T0 ?_
  exact q
set_option maxRecDepth 20000 in
theorem X_90 (a0 : Nat) (x1 : Int32) (h : zH) (W : CW h) (T0 : z_tg h a0 = 8) {Q : Int32 → zH → Prop} (H : (((0 : Int32) ≤ x1 ∧ x1 ≤ ((Int32.ofNat (z_ln h (a0 + 1))) - (1 : Int32))) → 0 ≤ x1.toInt ∧ x1.toInt < ((z_ln h (a0 + 1)) : Int)) ∧ (∀ m3 : Int32, m3 = (if (0 : Int32) ≤ x1 ∧ x1 ≤ ((Int32.ofNat (z_ln h (a0 + 1))) - (1 : Int32)) then (z_iv h (a0 + 1) (z_ix x1)) else (0 : Int32)) → Q m3 h)) : KK z_pI 90 [.ref a0, .int x1] h Q := by
  refine k_K (L := [some (.ref a0), some (.int x1)]) rfl ?_
  refine k_n 2 (pc' := 2) (L' := [some (.ref a0), some (.int x1)]) (S' := [.int x1, .ref a0]) (h' := h) rfl ?_
  refine k_cI 88 2 rfl rfl rfl (A := [.ref a0, .int x1]) rfl rfl (z_rok_ref T0) (rest := []) rfl (z_tyI rfl rfl) ?_
  refine C_88 a0 x1 h W T0  ?_
  obtain ⟨o2, H⟩ := H
  obtain ⟨m3, em3⟩ : ∃ m : Int32, m = (if (0 : Int32) ≤ x1 ∧ x1 ≤ ((Int32.ofNat (z_ln h (a0 + 1))) - (1 : Int32)) then (z_iv h (a0 + 1) (z_ix x1)) else (0 : Int32)) := ⟨_, rfl⟩
  have H := H m3 em3
  have hj4 : KG z_pI 90 18 [some (.ref a0), some (.int x1)] [.int m3] h Q := by
    exact k_r rfl rfl rfl H
  refine k_b (g := z_bt ((0 : Int32) ≤ x1 ∧ x1 ≤ ((Int32.ofNat (z_ln h (a0 + 1))) - (1 : Int32))) = 0) (pc' := 17) (L' := [some (.ref a0), some (.int x1)]) (S' := []) (pc2 := 8) (L2 := [some (.ref a0), some (.int x1)]) (S2 := []) (h' := h) (h2 := h) rfl rfl (fun hc => ?_) (fun hc => ?_)
  · have c1 := z_bt_0.mp hc
    refine k_n 1 (pc' := 18) (L' := [some (.ref a0), some (.int x1)]) (S' := [.int (0 : Int32)]) (h' := h) rfl ?_
    rw [(em3.trans (by rw [if_neg c1]) : m3 = (0 : Int32))] at hj4
    exact hj4
  · have c1 := Decidable.not_not.mp (fun q => hc (z_bt_0.mpr q))
    refine k_n 1 (pc' := 9) (L' := [some (.ref a0), some (.int x1)]) (S' := [.ref a0]) (h' := h) rfl ?_
    refine k_gS (b := (a0 + 1)) rfl T0 (W.sh a0 T0).1 ?_
    refine k_n 1 (pc' := 13) (L' := [some (.ref a0), some (.int x1)]) (S' := [.int x1, .ref (a0 + 1)]) (h' := h) rfl ?_
    refine k_ia (c := 0) (n := (z_ln h (a0 + 1))) rfl (CW.tyOf (t := 8) (t' := 100) W (j := 1) T0 (W.sh a0 T0).1 (by decide) rfl) rfl (o2 c1) ?_
    refine k_n 1 (pc' := 18) (L' := [some (.ref a0), some (.int x1)]) (S' := [.int (z_iv h (a0 + 1) (z_ix x1))]) (h' := h) rfl ?_
    rw [(em3.trans (by rw [if_pos c1]) : m3 = (z_iv h (a0 + 1) (z_ix x1)))] at hj4
    exact hj4
theorem C_90 (a0 : Nat) (x1 : Int32) (h : zH) (W : CW h) (T0 : z_tg h a0 = 8) (O0 : ((0 : Int32) ≤ x1 ∧ x1 ≤ ((Int32.ofNat (z_ln h (a0 + 1))) - (1 : Int32))) → 0 ≤ x1.toInt ∧ x1.toInt < ((z_ln h (a0 + 1)) : Int)) {Q : Int32 → zH → Prop} (q : Q (if (0 : Int32) ≤ x1 ∧ x1 ≤ ((Int32.ofNat (z_ln h (a0 + 1))) - (1 : Int32)) then (z_iv h (a0 + 1) (z_ix x1)) else (0 : Int32)) h) : KK z_pI 90 [.ref a0, .int x1] h Q := by
  refine X_90 a0 x1 h W T0 ?_
  refine ⟨O0, ?_⟩
  intro m_ em_; subst em_
  exact q
set_option maxRecDepth 20000 in
theorem X_89 (a0 : Nat) (x1 : Int32) (x2 : Int32) (h : zH) (W : CW h) (T0 : z_tg h a0 = 8) {Q : Unit → zH → Prop} (H : if (0 : Int32) ≤ x1 ∧ x1 ≤ ((Int32.ofNat (z_ln h (a0 + 1))) - (1 : Int32)) then (∀ m3 : Int32, m3 = (if (z_iv h a0 0) = 0 then x2.toInt8.toInt32 else (if (z_iv h a0 0) = (1 : Int32) then x2.toInt16.toInt32 else x2)) → (0 ≤ x1.toInt ∧ x1.toInt < ((z_ln h (a0 + 1)) : Int)) ∧ Q () (z_sI h (a0 + 1) (z_ix x1) m3)) else (Q () h)) : KK z_pV 89 [.ref a0, .int x1, .int x2] h Q := by
  refine k_K (L := [some (.ref a0), some (.int x1), some (.int x2)]) rfl ?_
  refine k_n 2 (pc' := 2) (L' := [some (.ref a0), some (.int x1), some (.int x2)]) (S' := [.int x1, .ref a0]) (h' := h) rfl ?_
  refine k_cI 88 2 rfl rfl rfl (A := [.ref a0, .int x1]) rfl rfl (z_rok_ref T0) (rest := []) rfl (z_tyI rfl rfl) ?_
  refine C_88 a0 x1 h W T0  ?_
  refine k_b (g := z_bt ((0 : Int32) ≤ x1 ∧ x1 ≤ ((Int32.ofNat (z_ln h (a0 + 1))) - (1 : Int32))) = 0) (pc' := 40) (L' := [some (.ref a0), some (.int x1), some (.int x2)]) (S' := []) (pc2 := 8) (L2 := [some (.ref a0), some (.int x1), some (.int x2)]) (S2 := []) (h' := h) (h2 := h) rfl rfl (fun hc => ?_) (fun hc => ?_)
  · have hc := z_bt_0.mp hc
    rw [if_neg hc] at H
    exact k_r rfl rfl rfl H
  · have hc := Decidable.not_not.mp (fun q => hc (z_bt_0.mpr q))
    rw [if_pos hc] at H
    refine k_n 1 (pc' := 9) (L' := [some (.ref a0), some (.int x1), some (.int x2)]) (S' := [.ref a0]) (h' := h) rfl ?_
    refine k_gS (b := (a0 + 1)) rfl T0 (W.sh a0 T0).1 ?_
    refine k_n 2 (pc' := 14) (L' := [some (.ref a0), some (.int x1), some (.int x2)]) (S' := [.ref a0, .int x1, .ref (a0 + 1)]) (h' := h) rfl ?_
    refine k_gI rfl rfl T0 ?_
    obtain ⟨m3, em3⟩ : ∃ m : Int32, m = (if (z_iv h a0 0) = 0 then x2.toInt8.toInt32 else (if (z_iv h a0 0) = (1 : Int32) then x2.toInt16.toInt32 else x2)) := ⟨_, rfl⟩
    have H := H m3 em3
    have hj4 : KG z_pV 89 39 [some (.ref a0), some (.int x1), some (.int x2)] [.int m3, .int x1, .ref (a0 + 1)] h Q := by
      obtain ⟨o5, H⟩ := H
      refine k_is (n := (z_ln h (a0 + 1))) rfl (CW.tyOf (t := 8) (t' := 100) W (j := 1) T0 (W.sh a0 T0).1 (by decide) rfl) rfl o5 ?_
      exact k_r rfl rfl rfl H
    refine k_b (g := (z_iv h a0 0) = 0) (pc' := 20) (L' := [some (.ref a0), some (.int x1), some (.int x2)]) (S' := [.int x1, .ref (a0 + 1)]) (pc2 := 25) (L2 := [some (.ref a0), some (.int x1), some (.int x2)]) (S2 := [.int x1, .ref (a0 + 1)]) (h' := h) (h2 := h) rfl rfl (fun hc => ?_) (fun hc => ?_)
    · have c1 := hc
      refine k_n 3 (pc' := 39) (L' := [some (.ref a0), some (.int x1), some (.int x2)]) (S' := [.int x2.toInt8.toInt32, .int x1, .ref (a0 + 1)]) (h' := h) rfl ?_
      rw [(em3.trans (by rw [if_pos c1]) : m3 = x2.toInt8.toInt32)] at hj4
      exact hj4
    · have c1 := hc
      refine k_n 1 (pc' := 26) (L' := [some (.ref a0), some (.int x1), some (.int x2)]) (S' := [.ref a0, .int x1, .ref (a0 + 1)]) (h' := h) rfl ?_
      refine k_gI rfl rfl T0 ?_
      refine k_n 1 (pc' := 30) (L' := [some (.ref a0), some (.int x1), some (.int x2)]) (S' := [.int (1 : Int32), .int (z_iv h a0 0), .int x1, .ref (a0 + 1)]) (h' := h) rfl ?_
      refine k_b (g := (z_iv h a0 0) = (1 : Int32)) (pc' := 33) (L' := [some (.ref a0), some (.int x1), some (.int x2)]) (S' := [.int x1, .ref (a0 + 1)]) (pc2 := 38) (L2 := [some (.ref a0), some (.int x1), some (.int x2)]) (S2 := [.int x1, .ref (a0 + 1)]) (h' := h) (h2 := h) rfl rfl (fun hc => ?_) (fun hc => ?_)
      · have c2 := hc
        refine k_n 3 (pc' := 39) (L' := [some (.ref a0), some (.int x1), some (.int x2)]) (S' := [.int x2.toInt16.toInt32, .int x1, .ref (a0 + 1)]) (h' := h) rfl ?_
        rw [(em3.trans (by rw [if_neg c1, if_pos c2]) : m3 = x2.toInt16.toInt32)] at hj4
        exact hj4
      · have c2 := hc
        refine k_n 1 (pc' := 39) (L' := [some (.ref a0), some (.int x1), some (.int x2)]) (S' := [.int x2, .int x1, .ref (a0 + 1)]) (h' := h) rfl ?_
        rw [(em3.trans (by rw [if_neg c1, if_neg c2]) : m3 = x2)] at hj4
        exact hj4
set_option maxRecDepth 20000 in
theorem X_93 (a0 : Nat) (x1 : Int32) (h : zH) (W : CW h) (T0 : z_tg h a0 = 9) {Q : Int32 → zH → Prop} (H : (¬ (x1 < 0) → ¬ ((z_iv h a0 1) ≤ x1) → ¬ ((200 : Int32) ≤ x1) → 0 ≤ x1.toInt ∧ x1.toInt < 200) ∧ (∀ m5 : Int32, m5 = (if x1 < 0 then (0 : Int32) else (if (z_iv h a0 1) ≤ x1 then (0 : Int32) else (if (200 : Int32) ≤ x1 then (0 : Int32) else (z_iv h (a0 + 1) (z_ix x1))))) → Q m5 h)) : KK z_pI 93 [.ref a0, .int x1] h Q := by
  refine k_K (L := [some (.ref a0), some (.int x1)]) rfl ?_
  refine k_n 1 (pc' := 1) (L' := [some (.ref a0), some (.int x1)]) (S' := [.int x1]) (h' := h) rfl ?_
  obtain ⟨o4, H⟩ := H
  obtain ⟨m5, em5⟩ : ∃ m : Int32, m = (if x1 < 0 then (0 : Int32) else (if (z_iv h a0 1) ≤ x1 then (0 : Int32) else (if (200 : Int32) ≤ x1 then (0 : Int32) else (z_iv h (a0 + 1) (z_ix x1))))) := ⟨_, rfl⟩
  have H := H m5 em5
  have hj6 : KG z_pI 93 29 [some (.ref a0), some (.int x1)] [.int m5] h Q := by
    exact k_r rfl rfl rfl H
  refine k_b (g := x1 < 0) (pc' := 28) (L' := [some (.ref a0), some (.int x1)]) (S' := []) (pc2 := 4) (L2 := [some (.ref a0), some (.int x1)]) (S2 := []) (h' := h) (h2 := h) rfl rfl (fun hc => ?_) (fun hc => ?_)
  · have c1 := hc
    refine k_n 1 (pc' := 29) (L' := [some (.ref a0), some (.int x1)]) (S' := [.int (0 : Int32)]) (h' := h) rfl ?_
    rw [(em5.trans (by rw [if_pos c1]) : m5 = (0 : Int32))] at hj6
    exact hj6
  · have c1 := hc
    refine k_n 2 (pc' := 6) (L' := [some (.ref a0), some (.int x1)]) (S' := [.ref a0, .int x1]) (h' := h) rfl ?_
    refine k_gI rfl rfl T0 ?_
    refine k_b (g := (z_iv h a0 1) ≤ x1) (pc' := 28) (L' := [some (.ref a0), some (.int x1)]) (S' := []) (pc2 := 12) (L2 := [some (.ref a0), some (.int x1)]) (S2 := []) (h' := h) (h2 := h) rfl rfl (fun hc => ?_) (fun hc => ?_)
    · have c2 := hc
      refine k_n 1 (pc' := 29) (L' := [some (.ref a0), some (.int x1)]) (S' := [.int (0 : Int32)]) (h' := h) rfl ?_
      rw [(em5.trans (by rw [if_neg c1, if_pos c2]) : m5 = (0 : Int32))] at hj6
      exact hj6
    · have c2 := hc
      refine k_n 2 (pc' := 16) (L' := [some (.ref a0), some (.int x1)]) (S' := [.int (200 : Int32), .int x1]) (h' := h) rfl ?_
      refine k_b (g := (200 : Int32) ≤ x1) (pc' := 28) (L' := [some (.ref a0), some (.int x1)]) (S' := []) (pc2 := 19) (L2 := [some (.ref a0), some (.int x1)]) (S2 := []) (h' := h) (h2 := h) rfl rfl (fun hc => ?_) (fun hc => ?_)
      · have c3 := hc
        refine k_n 1 (pc' := 29) (L' := [some (.ref a0), some (.int x1)]) (S' := [.int (0 : Int32)]) (h' := h) rfl ?_
        rw [(em5.trans (by rw [if_neg c1, if_neg c2, if_pos c3]) : m5 = (0 : Int32))] at hj6
        exact hj6
      · have c3 := hc
        refine k_n 1 (pc' := 20) (L' := [some (.ref a0), some (.int x1)]) (S' := [.ref a0]) (h' := h) rfl ?_
        refine k_gS (b := (a0 + 1)) rfl T0 (W.reOf (t := 9) (j := 0) (o := 1) (n := 200) (by decide) T0).1 ?_
        refine k_n 1 (pc' := 24) (L' := [some (.ref a0), some (.int x1)]) (S' := [.int x1, .ref (a0 + 1)]) (h' := h) rfl ?_
        refine k_ia (c := 0) (n := 200) rfl (CW.tyOf (t := 9) (t' := 100) W (j := 0) T0 (W.reOf (t := 9) (j := 0) (o := 1) (n := 200) (by decide) T0).1 (by decide) rfl) (W.reOf (t := 9) (j := 0) (o := 1) (n := 200) (by decide) T0).2 (o4 c1 c2 c3) ?_
        refine k_n 1 (pc' := 29) (L' := [some (.ref a0), some (.int x1)]) (S' := [.int (z_iv h (a0 + 1) (z_ix x1))]) (h' := h) rfl ?_
        rw [(em5.trans (by rw [if_neg c1, if_neg c2, if_neg c3]) : m5 = (z_iv h (a0 + 1) (z_ix x1)))] at hj6
        exact hj6
theorem C_93 (a0 : Nat) (x1 : Int32) (h : zH) (W : CW h) (T0 : z_tg h a0 = 9) (O0 : ¬ (x1 < 0) → ¬ ((z_iv h a0 1) ≤ x1) → ¬ ((200 : Int32) ≤ x1) → 0 ≤ x1.toInt ∧ x1.toInt < 200) {Q : Int32 → zH → Prop} (q : Q (if x1 < 0 then (0 : Int32) else (if (z_iv h a0 1) ≤ x1 then (0 : Int32) else (if (200 : Int32) ≤ x1 then (0 : Int32) else (z_iv h (a0 + 1) (z_ix x1))))) h) : KK z_pI 93 [.ref a0, .int x1] h Q := by
  refine X_93 a0 x1 h W T0 ?_
  refine ⟨O0, ?_⟩
  intro m_ em_; subst em_
  exact q
set_option maxRecDepth 20000 in
theorem X_151 (x1 : Nat) (h : zH) (W : CW h) (T1 : z_tg h x1 = 3) {Q : Int32 → zH → Prop} (H : if (0 : Int32) ≤ (z_iv h x1 5) ∧ (z_iv h x1 5) ≤ ((z_iv h 0 12) - (1 : Int32)) then (if (6 : Int32) ≤ (z_iv h x1 5) then (Q (0 : Int32) h) else ((0 ≤ (z_iv h x1 5).toInt ∧ (z_iv h x1 5).toInt < 6) ∧ ((z_rv h 1 (z_ix (z_iv h x1 5)) = none → Q (0 : Int32) h) ∧ (∀ b5, z_rv h 1 (z_ix (z_iv h x1 5)) = some b5 → (z_rv h b5 10 = none → Q (0 : Int32) h) ∧ (∀ b8, z_rv h b5 10 = some b8 → if (z_iv h b8 10) = 0 then (if b8 = x1 then (Q (1 : Int32) h) else (Q (0 : Int32) h)) else (Q (0 : Int32) h)))))) else (Q (0 : Int32) h)) : KK z_pI 151 [.ref 0, .ref x1] h Q := by
  refine k_K (L := [some (.ref 0), some (.ref x1), none]) rfl ?_
  refine k_n 2 (pc' := 2) (L' := [some (.ref 0), some (.ref x1), none]) (S' := [.ref x1, .ref 0]) (h' := h) rfl ?_
  refine k_gI rfl rfl T1 ?_
  refine k_cA 148 2 "SavedThird$Mine" rfl rfl rfl (A := [.ref 0, .int (z_iv h x1 5)]) rfl rfl (z_rok_ref W.t0) (rest := []) rfl rfl (by decide) ?_
  refine X_148 (z_iv h x1 5) h W  ?_
  by_cases c1 : (0 : Int32) ≤ (z_iv h x1 5) ∧ (z_iv h x1 5) ≤ ((z_iv h 0 12) - (1 : Int32))
  · rw [if_pos c1] at H ⊢
    by_cases c2 : (6 : Int32) ≤ (z_iv h x1 5)
    · rw [if_pos c2] at H ⊢
      refine k_n 4 (pc' := 26) (L' := [some (.ref 0), some (.ref x1), some (.null)]) (S' := [.int (0 : Int32)]) (h' := h) rfl ?_
      exact k_r rfl rfl rfl H
    · rw [if_neg c2] at H ⊢
      obtain ⟨o3, H⟩ := H
      refine ⟨o3, ?_⟩
      refine ⟨fun hb4 => ?_, fun b5 hb4 => ?_⟩
      · have H := H.1 hb4
        refine k_n 4 (pc' := 26) (L' := [some (.ref 0), some (.ref x1), some (.null)]) (S' := [.int (0 : Int32)]) (h' := h) rfl ?_
        exact k_r rfl rfl rfl H
      · have H := H.2 b5 hb4
        have t6 : z_tg h b5 = 4 := (CW.tyOf (t := 102) (t' := 4) W (CW.tyOf (t := 11) (t' := 102) W (j := 0) W.t0 (W.abOf (t := 11) (j := 0) (o := 1) (n := 6) (by decide) W.t0).1 (by decide) rfl) hb4 (by decide) rfl)
        refine k_n 4 (pc' := 14) (L' := [some (.ref 0), some (.ref x1), some (.ref b5)]) (S' := [.ref b5]) (h' := h) rfl ?_
        refine k_cA 44 1 "SavedThird$Engine" rfl rfl rfl (A := [.ref b5]) rfl rfl (z_rok_ref t6) (rest := []) rfl rfl (by decide) ?_
        refine X_44 b5 h W t6 ?_
        refine ⟨fun hb7 => ?_, fun b8 hb7 => ?_⟩
        · have H := H.1 hb7
          refine k_n 3 (pc' := 26) (L' := [some (.ref 0), some (.ref x1), some (.ref b5)]) (S' := [.int (0 : Int32)]) (h' := h) rfl ?_
          exact k_r rfl rfl rfl H
        · have H := H.2 b8 hb7
          by_cases c9 : (z_iv h b8 10) = 0
          · rw [if_pos c9] at H ⊢
            have t10 : z_tg h b8 = 3 := (CW.tyOf (t := 4) (t' := 3) W t6 hb7 (by decide) rfl)
            refine k_n 1 (pc' := 18) (L' := [some (.ref 0), some (.ref x1), some (.ref b5)]) (S' := [.ref x1, .ref b8]) (h' := h) rfl ?_
            refine k_b (g := b8 = x1) (pc' := 21) (L' := [some (.ref 0), some (.ref x1), some (.ref b5)]) (S' := []) (pc2 := 25) (L2 := [some (.ref 0), some (.ref x1), some (.ref b5)]) (S2 := []) (h' := h) (h2 := h) rfl rfl (fun hc => ?_) (fun hc => ?_)
            · rw [if_pos hc] at H
              refine k_n 2 (pc' := 26) (L' := [some (.ref 0), some (.ref x1), some (.ref b5)]) (S' := [.int (1 : Int32)]) (h' := h) rfl ?_
              exact k_r rfl rfl rfl H
            · rw [if_neg hc] at H
              refine k_n 1 (pc' := 26) (L' := [some (.ref 0), some (.ref x1), some (.ref b5)]) (S' := [.int (0 : Int32)]) (h' := h) rfl ?_
              exact k_r rfl rfl rfl H
          · rw [if_neg c9] at H ⊢
            refine k_n 3 (pc' := 26) (L' := [some (.ref 0), some (.ref x1), some (.ref b5)]) (S' := [.int (0 : Int32)]) (h' := h) rfl ?_
            exact k_r rfl rfl rfl H
  · rw [if_neg c1] at H ⊢
    refine k_n 4 (pc' := 26) (L' := [some (.ref 0), some (.ref x1), some (.null)]) (S' := [.int (0 : Int32)]) (h' := h) rfl ?_
    exact k_r rfl rfl rfl H
set_option maxRecDepth 20000 in
theorem X_59 (x1 : Nat) (x2 : Nat) (h : zH) (W : CW h) (T1 : z_tg h x1 = 4) (T2 : z_tg h x2 = 4) {Q : Int32 → zH → Prop} (H : Q ((s_up (((if 0 ≤ ((z_iv h x1 0) - (z_iv h x2 0)) then ((z_iv h x1 0) - (z_iv h x2 0)) else (-((z_iv h x1 0) - (z_iv h x2 0)))) + (if 0 ≤ ((z_iv h x1 1) - (z_iv h x2 1)) then ((z_iv h x1 1) - (z_iv h x2 1)) else (-((z_iv h x1 1) - (z_iv h x2 1))))).toInt64) (10 : Int64)).toInt32) h) : KK z_pI 59 [.ref x1, .ref x2] h Q := by
  refine k_K (L := [some (.ref x1), some (.ref x2)]) rfl ?_
  refine k_n 5 (pc' := 11) (L' := [some (.ref x1), some (.ref x2)]) (S' := [.ref x1]) (h' := h) rfl ?_
  refine k_gI rfl rfl T1 ?_
  refine k_n 1 (pc' := 15) (L' := [some (.ref x1), some (.ref x2)]) (S' := [.ref x2, .int (z_iv h x1 0)]) (h' := h) rfl ?_
  refine k_gI rfl rfl T2 ?_
  refine k_n 1 (pc' := 19) (L' := [some (.ref x1), some (.ref x2)]) (S' := [.int ((z_iv h x1 0) - (z_iv h x2 0))]) (h' := h) rfl ?_
  refine k_cI 11 1 rfl rfl rfl (A := [.int ((z_iv h x1 0) - (z_iv h x2 0))]) rfl rfl rfl (rest := []) rfl (z_tyI rfl rfl) ?_
  refine C_11 ((z_iv h x1 0) - (z_iv h x2 0)) h    ?_
  refine k_n 1 (pc' := 23) (L' := [some (.ref x1), some (.ref x2)]) (S' := [.ref x1, .int (if 0 ≤ ((z_iv h x1 0) - (z_iv h x2 0)) then ((z_iv h x1 0) - (z_iv h x2 0)) else (-((z_iv h x1 0) - (z_iv h x2 0))))]) (h' := h) rfl ?_
  refine k_gI rfl rfl T1 ?_
  refine k_n 1 (pc' := 27) (L' := [some (.ref x1), some (.ref x2)]) (S' := [.ref x2, .int (z_iv h x1 1), .int (if 0 ≤ ((z_iv h x1 0) - (z_iv h x2 0)) then ((z_iv h x1 0) - (z_iv h x2 0)) else (-((z_iv h x1 0) - (z_iv h x2 0))))]) (h' := h) rfl ?_
  refine k_gI rfl rfl T2 ?_
  refine k_n 1 (pc' := 31) (L' := [some (.ref x1), some (.ref x2)]) (S' := [.int ((z_iv h x1 1) - (z_iv h x2 1)), .int (if 0 ≤ ((z_iv h x1 0) - (z_iv h x2 0)) then ((z_iv h x1 0) - (z_iv h x2 0)) else (-((z_iv h x1 0) - (z_iv h x2 0))))]) (h' := h) rfl ?_
  refine k_cI 11 1 rfl rfl rfl (A := [.int ((z_iv h x1 1) - (z_iv h x2 1))]) rfl rfl rfl (rest := [.int (if 0 ≤ ((z_iv h x1 0) - (z_iv h x2 0)) then ((z_iv h x1 0) - (z_iv h x2 0)) else (-((z_iv h x1 0) - (z_iv h x2 0))))]) rfl (z_tyI rfl rfl) ?_
  refine C_11 ((z_iv h x1 1) - (z_iv h x2 1)) h    ?_
  refine k_n 3 (pc' := 39) (L' := [some (.ref x1), some (.ref x2)]) (S' := [.long (10 : Int64), .long (((if 0 ≤ ((z_iv h x1 0) - (z_iv h x2 0)) then ((z_iv h x1 0) - (z_iv h x2 0)) else (-((z_iv h x1 0) - (z_iv h x2 0)))) + (if 0 ≤ ((z_iv h x1 1) - (z_iv h x2 1)) then ((z_iv h x1 1) - (z_iv h x2 1)) else (-((z_iv h x1 1) - (z_iv h x2 1))))).toInt64)]) (h' := h) rfl ?_
  refine k_cL 147 2 rfl rfl rfl (A := [.long (((if 0 ≤ ((z_iv h x1 0) - (z_iv h x2 0)) then ((z_iv h x1 0) - (z_iv h x2 0)) else (-((z_iv h x1 0) - (z_iv h x2 0)))) + (if 0 ≤ ((z_iv h x1 1) - (z_iv h x2 1)) then ((z_iv h x1 1) - (z_iv h x2 1)) else (-((z_iv h x1 1) - (z_iv h x2 1))))).toInt64), .long (10 : Int64)]) rfl rfl rfl (rest := []) rfl rfl ?_
  refine c_up (((if 0 ≤ ((z_iv h x1 0) - (z_iv h x2 0)) then ((z_iv h x1 0) - (z_iv h x2 0)) else (-((z_iv h x1 0) - (z_iv h x2 0)))) + (if 0 ≤ ((z_iv h x1 1) - (z_iv h x2 1)) then ((z_iv h x1 1) - (z_iv h x2 1)) else (-((z_iv h x1 1) - (z_iv h x2 1))))).toInt64) (10 : Int64) h  ?_
  refine k_n 1 (pc' := 43) (L' := [some (.ref x1), some (.ref x2)]) (S' := [.int ((s_up (((if 0 ≤ ((z_iv h x1 0) - (z_iv h x2 0)) then ((z_iv h x1 0) - (z_iv h x2 0)) else (-((z_iv h x1 0) - (z_iv h x2 0)))) + (if 0 ≤ ((z_iv h x1 1) - (z_iv h x2 1)) then ((z_iv h x1 1) - (z_iv h x2 1)) else (-((z_iv h x1 1) - (z_iv h x2 1))))).toInt64) (10 : Int64)).toInt32)]) (h' := h) rfl ?_
  exact k_r rfl rfl rfl H
theorem C_59 (x1 : Nat) (x2 : Nat) (h : zH) (W : CW h) (T1 : z_tg h x1 = 4) (T2 : z_tg h x2 = 4)  {Q : Int32 → zH → Prop} (q : Q ((s_up (((if 0 ≤ ((z_iv h x1 0) - (z_iv h x2 0)) then ((z_iv h x1 0) - (z_iv h x2 0)) else (-((z_iv h x1 0) - (z_iv h x2 0)))) + (if 0 ≤ ((z_iv h x1 1) - (z_iv h x2 1)) then ((z_iv h x1 1) - (z_iv h x2 1)) else (-((z_iv h x1 1) - (z_iv h x2 1))))).toInt64) (10 : Int64)).toInt32) h) : KK z_pI 59 [.ref x1, .ref x2] h Q := by
  refine X_59 x1 x2 h W T1 T2 ?_
  exact q
set_option maxRecDepth 20000 in
theorem X_77 (x1 : Int32) (h : zH)  {Q : Int32 → zH → Prop} (H : (((0 : Int32) ≤ x1 ∧ x1 ≤ ((5 : Int32) - (1 : Int32))) → 0 ≤ x1.toInt ∧ x1.toInt < 5) ∧ (∀ m3 : Int32, m3 = (if (0 : Int32) ≤ x1 ∧ x1 ≤ ((5 : Int32) - (1 : Int32)) then ((z_st.getD 1 []).getD (z_ix x1) 0) else (0 : Int32)) → Q m3 h)) : KK z_pI 77 [.int x1] h Q := by
  refine k_K (L := [some (.int x1)]) rfl ?_
  refine k_n 3 (pc' := 5) (L' := [some (.int x1)]) (S' := [.retAddr 1, .int (0 : Int32), .int x1]) (h' := h) rfl ?_
  refine k_g (g := 1 < 3 ∨ (11 ≤ 1 ∧ 1 < 20)) (pc' := 6) (L' := [some (.int x1)]) (S' := [.int (5 : Int32), .int (0 : Int32), .int x1]) (h' := h) rfl rfl (by decide) ?_
  refine k_n 2 (pc' := 8) (L' := [some (.int x1)]) (S' := [.int ((5 : Int32) - (1 : Int32)), .int (0 : Int32), .int x1]) (h' := h) rfl ?_
  refine k_cI 135 3 rfl rfl rfl (A := [.int x1, .int (0 : Int32), .int ((5 : Int32) - (1 : Int32))]) rfl rfl rfl (rest := []) rfl (z_tyI rfl rfl) ?_
  refine c_within x1 (0 : Int32) ((5 : Int32) - (1 : Int32)) h ?_
  obtain ⟨o2, H⟩ := H
  obtain ⟨m3, em3⟩ : ∃ m : Int32, m = (if (0 : Int32) ≤ x1 ∧ x1 ≤ ((5 : Int32) - (1 : Int32)) then ((z_st.getD 1 []).getD (z_ix x1) 0) else (0 : Int32)) := ⟨_, rfl⟩
  have H := H m3 em3
  have hj4 : KG z_pI 77 23 [some (.int x1)] [.int m3] h Q := by
    exact k_r rfl rfl rfl H
  refine k_b (g := z_bt ((0 : Int32) ≤ x1 ∧ x1 ≤ ((5 : Int32) - (1 : Int32))) = 0) (pc' := 22) (L' := [some (.int x1)]) (S' := []) (pc2 := 14) (L2 := [some (.int x1)]) (S2 := []) (h' := h) (h2 := h) rfl rfl (fun hc => ?_) (fun hc => ?_)
  · have c1 := z_bt_0.mp hc
    refine k_n 1 (pc' := 23) (L' := [some (.int x1)]) (S' := [.int (0 : Int32)]) (h' := h) rfl ?_
    rw [(em3.trans (by rw [if_neg c1]) : m3 = (0 : Int32))] at hj4
    exact hj4
  · have c1 := Decidable.not_not.mp (fun q => hc (z_bt_0.mpr q))
    refine k_n 2 (pc' := 18) (L' := [some (.int x1)]) (S' := [.int x1, .retAddr 1]) (h' := h) rfl ?_
    refine k_sa (n := 5) rfl rfl rfl (o2 c1) ?_
    refine k_n 1 (pc' := 23) (L' := [some (.int x1)]) (S' := [.int ((z_st.getD 1 []).getD (z_ix x1) 0)]) (h' := h) rfl ?_
    rw [(em3.trans (by rw [if_pos c1]) : m3 = ((z_st.getD 1 []).getD (z_ix x1) 0))] at hj4
    exact hj4
theorem C_77 (x1 : Int32) (h : zH)  (O0 : ((0 : Int32) ≤ x1 ∧ x1 ≤ ((5 : Int32) - (1 : Int32))) → 0 ≤ x1.toInt ∧ x1.toInt < 5) {Q : Int32 → zH → Prop} (q : Q (if (0 : Int32) ≤ x1 ∧ x1 ≤ ((5 : Int32) - (1 : Int32)) then ((z_st.getD 1 []).getD (z_ix x1) 0) else (0 : Int32)) h) : KK z_pI 77 [.int x1] h Q := by
  refine X_77 x1 h   ?_
  refine ⟨O0, ?_⟩
  intro m_ em_; subst em_
  exact q
set_option maxRecDepth 20000 in
theorem X_78 (x1 : Int32) (h : zH)  {Q : Int32 → zH → Prop} (H : (((0 : Int32) ≤ x1 ∧ x1 ≤ ((5 : Int32) - (1 : Int32))) → 0 ≤ x1.toInt ∧ x1.toInt < 5) ∧ (∀ m3 : Int32, m3 = (if (0 : Int32) ≤ x1 ∧ x1 ≤ ((5 : Int32) - (1 : Int32)) then ((z_st.getD 2 []).getD (z_ix x1) 0) else (0 : Int32)) → Q m3 h)) : KK z_pI 78 [.int x1] h Q := by
  refine k_K (L := [some (.int x1)]) rfl ?_
  refine k_n 3 (pc' := 5) (L' := [some (.int x1)]) (S' := [.retAddr 2, .int (0 : Int32), .int x1]) (h' := h) rfl ?_
  refine k_g (g := 2 < 3 ∨ (11 ≤ 2 ∧ 2 < 20)) (pc' := 6) (L' := [some (.int x1)]) (S' := [.int (5 : Int32), .int (0 : Int32), .int x1]) (h' := h) rfl rfl (by decide) ?_
  refine k_n 2 (pc' := 8) (L' := [some (.int x1)]) (S' := [.int ((5 : Int32) - (1 : Int32)), .int (0 : Int32), .int x1]) (h' := h) rfl ?_
  refine k_cI 135 3 rfl rfl rfl (A := [.int x1, .int (0 : Int32), .int ((5 : Int32) - (1 : Int32))]) rfl rfl rfl (rest := []) rfl (z_tyI rfl rfl) ?_
  refine c_within x1 (0 : Int32) ((5 : Int32) - (1 : Int32)) h ?_
  obtain ⟨o2, H⟩ := H
  obtain ⟨m3, em3⟩ : ∃ m : Int32, m = (if (0 : Int32) ≤ x1 ∧ x1 ≤ ((5 : Int32) - (1 : Int32)) then ((z_st.getD 2 []).getD (z_ix x1) 0) else (0 : Int32)) := ⟨_, rfl⟩
  have H := H m3 em3
  have hj4 : KG z_pI 78 23 [some (.int x1)] [.int m3] h Q := by
    exact k_r rfl rfl rfl H
  refine k_b (g := z_bt ((0 : Int32) ≤ x1 ∧ x1 ≤ ((5 : Int32) - (1 : Int32))) = 0) (pc' := 22) (L' := [some (.int x1)]) (S' := []) (pc2 := 14) (L2 := [some (.int x1)]) (S2 := []) (h' := h) (h2 := h) rfl rfl (fun hc => ?_) (fun hc => ?_)
  · have c1 := z_bt_0.mp hc
    refine k_n 1 (pc' := 23) (L' := [some (.int x1)]) (S' := [.int (0 : Int32)]) (h' := h) rfl ?_
    rw [(em3.trans (by rw [if_neg c1]) : m3 = (0 : Int32))] at hj4
    exact hj4
  · have c1 := Decidable.not_not.mp (fun q => hc (z_bt_0.mpr q))
    refine k_n 2 (pc' := 18) (L' := [some (.int x1)]) (S' := [.int x1, .retAddr 2]) (h' := h) rfl ?_
    refine k_sa (n := 5) rfl rfl rfl (o2 c1) ?_
    refine k_n 1 (pc' := 23) (L' := [some (.int x1)]) (S' := [.int ((z_st.getD 2 []).getD (z_ix x1) 0)]) (h' := h) rfl ?_
    rw [(em3.trans (by rw [if_pos c1]) : m3 = ((z_st.getD 2 []).getD (z_ix x1) 0))] at hj4
    exact hj4
theorem C_78 (x1 : Int32) (h : zH)  (O0 : ((0 : Int32) ≤ x1 ∧ x1 ≤ ((5 : Int32) - (1 : Int32))) → 0 ≤ x1.toInt ∧ x1.toInt < 5) {Q : Int32 → zH → Prop} (q : Q (if (0 : Int32) ≤ x1 ∧ x1 ≤ ((5 : Int32) - (1 : Int32)) then ((z_st.getD 2 []).getD (z_ix x1) 0) else (0 : Int32)) h) : KK z_pI 78 [.int x1] h Q := by
  refine X_78 x1 h   ?_
  refine ⟨O0, ?_⟩
  intro m_ em_; subst em_
  exact q
set_option maxRecDepth 20000 in
theorem X_85 (x1 : Int32) (h : zH)  {Q : Int32 → zH → Prop} (H : Q (z_bt (¬ (x1 < (97 : Int32)) ∧ (¬ ((122 : Int32) < x1)))) h) : KK z_pI 85 [.int x1] h Q := by
  refine k_K (L := [some (.int x1)]) rfl ?_
  refine k_n 2 (pc' := 3) (L' := [some (.int x1)]) (S' := [.int (97 : Int32), .int x1]) (h' := h) rfl ?_
  have hj3 : KG z_pI 85 17 [some (.int x1)] [.int (z_bt (¬ (x1 < (97 : Int32)) ∧ (¬ ((122 : Int32) < x1))))] h Q := by
    exact k_r rfl (z_retB z_bt_01) rfl H
  refine k_b (g := x1 < (97 : Int32)) (pc' := 16) (L' := [some (.int x1)]) (S' := []) (pc2 := 6) (L2 := [some (.int x1)]) (S2 := []) (h' := h) (h2 := h) rfl rfl (fun hc => ?_) (fun hc => ?_)
  · have c1 := hc
    refine k_n 1 (pc' := 17) (L' := [some (.int x1)]) (S' := [.int (0 : Int32)]) (h' := h) rfl ?_
    rw [show z_bt (¬ (x1 < (97 : Int32)) ∧ (¬ ((122 : Int32) < x1))) = 0 from z_bt_0.mpr ((fun q => q.1 c1))] at hj3
    exact hj3
  · have c1 := hc
    refine k_n 2 (pc' := 9) (L' := [some (.int x1)]) (S' := [.int (122 : Int32), .int x1]) (h' := h) rfl ?_
    refine k_b (g := (122 : Int32) < x1) (pc' := 16) (L' := [some (.int x1)]) (S' := []) (pc2 := 12) (L2 := [some (.int x1)]) (S2 := []) (h' := h) (h2 := h) rfl rfl (fun hc => ?_) (fun hc => ?_)
    · have c2 := hc
      refine k_n 1 (pc' := 17) (L' := [some (.int x1)]) (S' := [.int (0 : Int32)]) (h' := h) rfl ?_
      rw [show z_bt (¬ (x1 < (97 : Int32)) ∧ (¬ ((122 : Int32) < x1))) = 0 from z_bt_0.mpr ((fun q => (fun q => q c2) q.2))] at hj3
      exact hj3
    · have c2 := hc
      refine k_n 2 (pc' := 17) (L' := [some (.int x1)]) (S' := [.int (1 : Int32)]) (h' := h) rfl ?_
      rw [show z_bt (¬ (x1 < (97 : Int32)) ∧ (¬ ((122 : Int32) < x1))) = 1 from z_bt_1.mpr (⟨c1, c2⟩)] at hj3
      exact hj3
theorem C_85 (x1 : Int32) (h : zH)   {Q : Int32 → zH → Prop} (q : Q (z_bt (¬ (x1 < (97 : Int32)) ∧ (¬ ((122 : Int32) < x1)))) h) : KK z_pI 85 [.int x1] h Q := by
  refine X_85 x1 h   ?_
  exact q
set_option maxRecDepth 20000 in
theorem X_86 (x1 : Int32) (h : zH)  {Q : Int32 → zH → Prop} (H : Q (z_bt (¬ (x1 < (48 : Int32)) ∧ (¬ ((57 : Int32) < x1)))) h) : KK z_pI 86 [.int x1] h Q := by
  refine k_K (L := [some (.int x1)]) rfl ?_
  refine k_n 2 (pc' := 3) (L' := [some (.int x1)]) (S' := [.int (48 : Int32), .int x1]) (h' := h) rfl ?_
  have hj3 : KG z_pI 86 17 [some (.int x1)] [.int (z_bt (¬ (x1 < (48 : Int32)) ∧ (¬ ((57 : Int32) < x1))))] h Q := by
    exact k_r rfl (z_retB z_bt_01) rfl H
  refine k_b (g := x1 < (48 : Int32)) (pc' := 16) (L' := [some (.int x1)]) (S' := []) (pc2 := 6) (L2 := [some (.int x1)]) (S2 := []) (h' := h) (h2 := h) rfl rfl (fun hc => ?_) (fun hc => ?_)
  · have c1 := hc
    refine k_n 1 (pc' := 17) (L' := [some (.int x1)]) (S' := [.int (0 : Int32)]) (h' := h) rfl ?_
    rw [show z_bt (¬ (x1 < (48 : Int32)) ∧ (¬ ((57 : Int32) < x1))) = 0 from z_bt_0.mpr ((fun q => q.1 c1))] at hj3
    exact hj3
  · have c1 := hc
    refine k_n 2 (pc' := 9) (L' := [some (.int x1)]) (S' := [.int (57 : Int32), .int x1]) (h' := h) rfl ?_
    refine k_b (g := (57 : Int32) < x1) (pc' := 16) (L' := [some (.int x1)]) (S' := []) (pc2 := 12) (L2 := [some (.int x1)]) (S2 := []) (h' := h) (h2 := h) rfl rfl (fun hc => ?_) (fun hc => ?_)
    · have c2 := hc
      refine k_n 1 (pc' := 17) (L' := [some (.int x1)]) (S' := [.int (0 : Int32)]) (h' := h) rfl ?_
      rw [show z_bt (¬ (x1 < (48 : Int32)) ∧ (¬ ((57 : Int32) < x1))) = 0 from z_bt_0.mpr ((fun q => (fun q => q c2) q.2))] at hj3
      exact hj3
    · have c2 := hc
      refine k_n 2 (pc' := 17) (L' := [some (.int x1)]) (S' := [.int (1 : Int32)]) (h' := h) rfl ?_
      rw [show z_bt (¬ (x1 < (48 : Int32)) ∧ (¬ ((57 : Int32) < x1))) = 1 from z_bt_1.mpr (⟨c1, c2⟩)] at hj3
      exact hj3
theorem C_86 (x1 : Int32) (h : zH)   {Q : Int32 → zH → Prop} (q : Q (z_bt (¬ (x1 < (48 : Int32)) ∧ (¬ ((57 : Int32) < x1)))) h) : KK z_pI 86 [.int x1] h Q := by
  refine X_86 x1 h   ?_
  exact q
set_option maxRecDepth 20000 in
theorem X_72 (a0 : Nat) (x1 : Int32) (h : zH) (W : CW h) (T0 : z_tg h a0 = 7) {Q : Int32 → zH → Prop} (H : Q (0 : Int32) (z_sI (z_sI h a0 0 x1) a0 1 (z_iv h a0 5))) : KK z_pI 72 [.ref a0, .int x1] h Q := by
  refine k_K (L := [some (.ref a0), some (.int x1)]) rfl ?_
  refine k_n 2 (pc' := 2) (L' := [some (.ref a0), some (.int x1)]) (S' := [.int x1, .ref a0]) (h' := h) rfl ?_
  refine k_pI rfl T0 ?_
  refine k_n 2 (pc' := 7) (L' := [some (.ref a0), some (.int x1)]) (S' := [.ref a0, .ref a0]) (h' := (z_sI h a0 0 x1)) rfl ?_
  refine k_gV rfl rfl (z_tgI T0) (v_nj (by decide) rfl) ?_
  refine k_pI rfl (z_tgI T0) ?_
  refine k_n 1 (pc' := 14) (L' := [some (.ref a0), some (.int x1)]) (S' := [.int (0 : Int32)]) (h' := (z_sI (z_sI h a0 0 x1) a0 1 (z_iv h a0 5))) rfl ?_
  exact k_r rfl rfl rfl H
set_option maxRecDepth 20000 in
theorem X_76 (a0 : Nat) (x1 : Int32) (x2 : Int32) (h : zH) (W : CW h) (T0 : z_tg h a0 = 7) {Q : Int32 → zH → Prop} (H : if (z_iv h a0 4) = (2 : Int32) then (if x1 ≤ (z_iv h a0 7) ∧ (z_iv h a0 7) ≤ x2 then (Q (1 : Int32) h) else (Q (0 : Int32) (z_sI (z_sI h a0 0 (3 : Int32)) a0 1 (z_iv h a0 5)))) else (Q (0 : Int32) (z_sI (z_sI h a0 0 (2 : Int32)) a0 1 (z_iv h a0 5)))) : KK z_pI 76 [.ref a0, .int x1, .int x2] h Q := by
  refine k_K (L := [some (.ref a0), some (.int x1), some (.int x2)]) rfl ?_
  refine k_n 1 (pc' := 1) (L' := [some (.ref a0), some (.int x1), some (.int x2)]) (S' := [.ref a0]) (h' := h) rfl ?_
  refine k_gI rfl rfl T0 ?_
  refine k_n 1 (pc' := 5) (L' := [some (.ref a0), some (.int x1), some (.int x2)]) (S' := [.int (2 : Int32), .int (z_iv h a0 4)]) (h' := h) rfl ?_
  refine k_b (g := (z_iv h a0 4) = (2 : Int32)) (pc' := 14) (L' := [some (.ref a0), some (.int x1), some (.int x2)]) (S' := []) (pc2 := 8) (L2 := [some (.ref a0), some (.int x1), some (.int x2)]) (S2 := []) (h' := h) (h2 := h) rfl rfl (fun hc => ?_) (fun hc => ?_)
  · have hc := hc
    rw [if_pos hc] at H
    refine k_n 1 (pc' := 15) (L' := [some (.ref a0), some (.int x1), some (.int x2)]) (S' := [.ref a0]) (h' := h) rfl ?_
    refine k_gI rfl rfl T0 ?_
    refine k_n 2 (pc' := 20) (L' := [some (.ref a0), some (.int x1), some (.int x2)]) (S' := [.int x2, .int x1, .int (z_iv h a0 7)]) (h' := h) rfl ?_
    refine k_cI 135 3 rfl rfl rfl (A := [.int (z_iv h a0 7), .int x1, .int x2]) rfl rfl rfl (rest := []) rfl (z_tyI rfl rfl) ?_
    refine c_within (z_iv h a0 7) x1 x2 h ?_
    refine k_b (g := z_bt (x1 ≤ (z_iv h a0 7) ∧ (z_iv h a0 7) ≤ x2) = 0) (pc' := 26) (L' := [some (.ref a0), some (.int x1), some (.int x2)]) (S' := []) (pc2 := 34) (L2 := [some (.ref a0), some (.int x1), some (.int x2)]) (S2 := []) (h' := h) (h2 := h) rfl rfl (fun hc => ?_) (fun hc => ?_)
    · have hc := z_bt_0.mp hc
      rw [if_neg hc] at H
      refine k_n 2 (pc' := 28) (L' := [some (.ref a0), some (.int x1), some (.int x2)]) (S' := [.int (3 : Int32), .ref a0]) (h' := h) rfl ?_
      refine k_cI 72 2 rfl rfl rfl (A := [.ref a0, .int (3 : Int32)]) rfl rfl (z_rok_ref T0) (rest := []) rfl (z_tyI rfl rfl) ?_
      refine X_72 a0 (3 : Int32) h W T0 ?_
      refine k_n 2 (pc' := 39) (L' := [some (.ref a0), some (.int x1), some (.int x2)]) (S' := [.int (0 : Int32)]) (h' := (z_sI (z_sI h a0 0 (3 : Int32)) a0 1 (z_iv h a0 5))) rfl ?_
      exact k_r rfl rfl rfl H
    · have hc := Decidable.not_not.mp (fun q => hc (z_bt_0.mpr q))
      rw [if_pos hc] at H
      refine k_n 2 (pc' := 39) (L' := [some (.ref a0), some (.int x1), some (.int x2)]) (S' := [.int (1 : Int32)]) (h' := h) rfl ?_
      exact k_r rfl rfl rfl H
  · have hc := hc
    rw [if_neg hc] at H
    refine k_n 2 (pc' := 10) (L' := [some (.ref a0), some (.int x1), some (.int x2)]) (S' := [.int (2 : Int32), .ref a0]) (h' := h) rfl ?_
    refine k_cI 72 2 rfl rfl rfl (A := [.ref a0, .int (2 : Int32)]) rfl rfl (z_rok_ref T0) (rest := []) rfl (z_tyI rfl rfl) ?_
    refine X_72 a0 (2 : Int32) h W T0 ?_
    exact k_r rfl rfl rfl H
