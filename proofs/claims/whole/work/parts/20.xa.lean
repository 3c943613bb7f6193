set_option maxRecDepth 20000 in
theorem X_161 (x1 : Int64) (x2 : Int64) (x3 : Int64) (g : zG) {Q : Int32 → zG → Prop} (H : Q (z_bt (¬ (x1 < x2) ∧ (¬ (x3 < x1)))) g) : MK z_pI 161 [.long x1, .long x2, .long x3] g Q := by
  refine m_K (L := [some (.long x1), none, some (.long x2), none, some (.long x3), none]) rfl ?_
  refine m_n 3 (pc' := 3) (L' := [some (.long x1), none, some (.long x2), none, some (.long x3), none]) (S' := [.int (z_cmp x1 x2)]) (fun _ => rfl) ?_
  have hj3 : MG z_pI 161 18 [some (.long x1), none, some (.long x2), none, some (.long x3), none] [.int (z_bt (¬ (x1 < x2) ∧ (¬ (x3 < x1))))] g Q := by
    exact m_r rfl (z_retB z_bt_01) rfl H
  refine m_b (c := z_cmp x1 x2 < 0) (pc' := 17) (L' := [some (.long x1), none, some (.long x2), none, some (.long x3), none]) (S' := []) (pc2 := 6) (L2 := [some (.long x1), none, some (.long x2), none, some (.long x3), none]) (S2 := []) rfl (fun _ => rfl) (fun hc => ?_) (fun hc => ?_)
  · have c1 := z_cmp_lt.mp hc
    refine m_n 1 (pc' := 18) (L' := [some (.long x1), none, some (.long x2), none, some (.long x3), none]) (S' := [.int (0 : Int32)]) (fun _ => rfl) ?_
    rw [show z_bt (¬ (x1 < x2) ∧ (¬ (x3 < x1))) = 0 from z_bt_0.mpr ((fun q => q.1 c1))] at hj3
    exact hj3
  · have c1 := (fun q => hc (z_cmp_lt.mpr q))
    refine m_n 3 (pc' := 10) (L' := [some (.long x1), none, some (.long x2), none, some (.long x3), none]) (S' := [.int (z_cmp x1 x3)]) (fun _ => rfl) ?_
    refine m_b (c := 0 < z_cmp x1 x3) (pc' := 17) (L' := [some (.long x1), none, some (.long x2), none, some (.long x3), none]) (S' := []) (pc2 := 13) (L2 := [some (.long x1), none, some (.long x2), none, some (.long x3), none]) (S2 := []) rfl (fun _ => rfl) (fun hc => ?_) (fun hc => ?_)
    · have c2 := z_cmp_gt.mp hc
      refine m_n 1 (pc' := 18) (L' := [some (.long x1), none, some (.long x2), none, some (.long x3), none]) (S' := [.int (0 : Int32)]) (fun _ => rfl) ?_
      rw [show z_bt (¬ (x1 < x2) ∧ (¬ (x3 < x1))) = 0 from z_bt_0.mpr ((fun q => (fun q => q c2) q.2))] at hj3
      exact hj3
    · have c2 := (fun q => hc (z_cmp_gt.mpr q))
      refine m_n 2 (pc' := 18) (L' := [some (.long x1), none, some (.long x2), none, some (.long x3), none]) (S' := [.int (1 : Int32)]) (fun _ => rfl) ?_
      rw [show z_bt (¬ (x1 < x2) ∧ (¬ (x3 < x1))) = 1 from z_bt_1.mpr (⟨c1, c2⟩)] at hj3
      exact hj3
set_option maxRecDepth 20000 in
theorem X_162 (x1 : Int64) (x2 : Int64) (g : zG) {Q : Int64 → zG → Prop} (H : (¬ x2 = 0) ∧ Q (((x1 + x2) - (1 : Int64)) / x2) g) : MK z_pL 162 [.long x1, .long x2] g Q := by
  refine m_K (L := [some (.long x1), none, some (.long x2), none]) rfl ?_
  refine m_n 6 (pc' := 6) (L' := [some (.long x1), none, some (.long x2), none]) (S' := [.long x2, .long ((x1 + x2) - (1 : Int64))]) (fun _ => rfl) ?_
  obtain ⟨o1, H⟩ := H
  refine m_d (c := x2 = 0) (pc' := 7) (L' := [some (.long x1), none, some (.long x2), none]) (S' := [.long (((x1 + x2) - (1 : Int64)) / x2)]) rfl (fun _ => rfl) o1 ?_
  exact m_r rfl rfl rfl H
/-! what stands in a call -/
theorem z_i64_le {a b : Int32} : a.toInt64 ≤ b.toInt64 ↔ a ≤ b := by
  rw [Int64.le_iff_toInt_le, Int32.le_iff_toInt_le, Int32.toInt_toInt64, Int32.toInt_toInt64]
theorem z_i64_lt {a b : Int32} : a.toInt64 < b.toInt64 ↔ a < b := by
  rw [Int64.lt_iff_toInt_lt, Int32.lt_iff_toInt_lt, Int32.toInt_toInt64, Int32.toInt_toInt64]
theorem c_in (v a b : Int64) (g : zG) {Q : Int32 → zG → Prop} (q : Q (z_bt (a ≤ v ∧ v ≤ b)) g) : MK z_pI 161 [.long v, .long a, .long b] g Q := by
  refine X_161 v a b g ?_
  have : z_bt (¬ v < a ∧ ¬ b < v) = z_bt (a ≤ v ∧ v ≤ b) := by
    unfold z_bt
    simp only [Int64.not_lt]
  rw [this]
  exact q
theorem c_inJ (v a b : Int32) (g : zG) {v' a' b' : Int64} (hv : v' = v.toInt64) (ha : a' = a.toInt64) (hb : b' = b.toInt64) {Q : Int32 → zG → Prop} (q : Q (z_bt (a ≤ v ∧ v ≤ b)) g) : MK z_pI 161 [.long v', .long a', .long b'] g Q := by
  subst hv; subst ha; subst hb
  refine c_in _ _ _ g ?_
  have : z_bt (a.toInt64 ≤ v.toInt64 ∧ v.toInt64 ≤ b.toInt64) = z_bt (a ≤ v ∧ v ≤ b) := by
    unfold z_bt
    simp only [z_i64_le]
  rw [this]
  exact q

