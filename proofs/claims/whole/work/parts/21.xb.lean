set_option maxRecDepth 20000 in
theorem X_163 (x1 : Int32) (g : zG) {Q : Int32 → zG → Prop} (H : Q (z_bt ((0 : Int32) ≤ x1 ∧ x1 ≤ ((g 27 1) - (1 : Int32)))) g) : MK z_pI 163 [.ref 27, .int x1] g Q := by
  refine m_K (L := [some (.ref 27), some (.int x1)]) rfl ?_
  refine m_n 4 (pc' := 4) (L' := [some (.ref 27), some (.int x1)]) (S' := [.ref 27, .long (0 : Int64), .long x1.toInt64]) (fun _ => rfl) ?_
  refine m_gI rfl ?_
  refine m_n 3 (pc' := 10) (L' := [some (.ref 27), some (.int x1)]) (S' := [.long (((g 27 1) - (1 : Int32)).toInt64), .long (0 : Int64), .long x1.toInt64]) (fun _ => rfl) ?_
  refine m_cI 161 3 rfl rfl rfl (A := [.long x1.toInt64, .long (0 : Int64), .long (((g 27 1) - (1 : Int32)).toInt64)]) rfl rfl (Or.inl rfl) (rest := []) rfl rfl rfl ?_
  refine c_inJ x1 (0 : Int32) ((g 27 1) - (1 : Int32)) g rfl rfl rfl ?_
  exact m_r rfl (z_retB z_bt_01) rfl H
set_option maxRecDepth 20000 in
theorem X_164 (x1 : Int32) (g : zG) {Q : Int32 → zG → Prop} (H : Q (z_bt ((0 : Int32) ≤ x1 ∧ x1 ≤ ((g 27 20) - (1 : Int32)))) g) : MK z_pI 164 [.ref 27, .int x1] g Q := by
  refine m_K (L := [some (.ref 27), some (.int x1)]) rfl ?_
  refine m_n 4 (pc' := 4) (L' := [some (.ref 27), some (.int x1)]) (S' := [.ref 27, .long (0 : Int64), .long x1.toInt64]) (fun _ => rfl) ?_
  refine m_gI rfl ?_
  refine m_n 3 (pc' := 10) (L' := [some (.ref 27), some (.int x1)]) (S' := [.long (((g 27 20) - (1 : Int32)).toInt64), .long (0 : Int64), .long x1.toInt64]) (fun _ => rfl) ?_
  refine m_cI 161 3 rfl rfl rfl (A := [.long x1.toInt64, .long (0 : Int64), .long (((g 27 20) - (1 : Int32)).toInt64)]) rfl rfl (Or.inl rfl) (rest := []) rfl rfl rfl ?_
  refine c_inJ x1 (0 : Int32) ((g 27 20) - (1 : Int32)) g rfl rfl rfl ?_
  exact m_r rfl (z_retB z_bt_01) rfl H
set_option maxRecDepth 20000 in
theorem X_174 (x1 : Int32) (x2 : Int32) (x3 : Int32) (g : zG) {Q : Int64 → zG → Prop} (H : (0 ≤ (((12 : Int32) * x1) + (x2 - x2 / (12 : Int32) * (12 : Int32))).toInt ∧ (((12 : Int32) * x1) + (x2 - x2 / (12 : Int32) * (12 : Int32))).toInt < 72) ∧ (0 ≤ x1.toInt ∧ x1.toInt < 6) ∧ (¬ x3.toInt64 = 0) ∧ Q (((((g 32 (z_ix (((12 : Int32) * x1) + (x2 - x2 / (12 : Int32) * (12 : Int32))))).toInt64 * (g 30 (z_ix x1)).toInt64) + x3.toInt64) - (1 : Int64)) / x3.toInt64) g) : MK z_pL 174 [.ref 27, .int x1, .int x2, .int x3] g Q := by
  refine m_K (L := [some (.ref 27), some (.int x1), some (.int x2), some (.int x3)]) rfl ?_
  refine m_n 1 (pc' := 1) (L' := [some (.ref 27), some (.int x1), some (.int x2), some (.int x3)]) (S' := [.ref 27]) (fun _ => rfl) ?_
  refine m_gR (q := 32) rfl (by decide) ?_
  refine m_n 5 (pc' := 11) (L' := [some (.ref 27), some (.int x1), some (.int x2), some (.int x3)]) (S' := [.int (12 : Int32), .int x2, .int ((12 : Int32) * x1), .ref 32]) (fun _ => rfl) ?_
  refine m_d (c := (12 : Int32) = 0) (pc' := 12) (L' := [some (.ref 27), some (.int x1), some (.int x2), some (.int x3)]) (S' := [.int (x2 - x2 / (12 : Int32) * (12 : Int32)), .int ((12 : Int32) * x1), .ref 32]) rfl (fun _ => rfl) (by decide) ?_
  refine m_n 1 (pc' := 13) (L' := [some (.ref 27), some (.int x1), some (.int x2), some (.int x3)]) (S' := [.int (((12 : Int32) * x1) + (x2 - x2 / (12 : Int32) * (12 : Int32))), .ref 32]) (fun _ => rfl) ?_
  obtain ⟨o1, H⟩ := H
  refine m_ia 72 rfl rfl o1 ?_
  refine m_n 2 (pc' := 16) (L' := [some (.ref 27), some (.int x1), some (.int x2), some (.int x3)]) (S' := [.ref 27, .long ((g 32 (z_ix (((12 : Int32) * x1) + (x2 - x2 / (12 : Int32) * (12 : Int32))))).toInt64)]) (fun _ => rfl) ?_
  refine m_gR (q := 30) rfl (by decide) ?_
  refine m_n 1 (pc' := 20) (L' := [some (.ref 27), some (.int x1), some (.int x2), some (.int x3)]) (S' := [.int x1, .ref 30, .long ((g 32 (z_ix (((12 : Int32) * x1) + (x2 - x2 / (12 : Int32) * (12 : Int32))))).toInt64)]) (fun _ => rfl) ?_
  obtain ⟨o2, H⟩ := H
  refine m_ia 6 rfl rfl o2 ?_
  refine m_n 4 (pc' := 25) (L' := [some (.ref 27), some (.int x1), some (.int x2), some (.int x3)]) (S' := [.long x3.toInt64, .long ((g 32 (z_ix (((12 : Int32) * x1) + (x2 - x2 / (12 : Int32) * (12 : Int32))))).toInt64 * (g 30 (z_ix x1)).toInt64)]) (fun _ => rfl) ?_
  refine m_cL 162 2 rfl rfl rfl (A := [.long ((g 32 (z_ix (((12 : Int32) * x1) + (x2 - x2 / (12 : Int32) * (12 : Int32))))).toInt64 * (g 30 (z_ix x1)).toInt64), .long x3.toInt64]) rfl rfl (Or.inl rfl) (rest := []) rfl rfl ?_
  obtain ⟨o3, H⟩ := H
  refine X_162 ((g 32 (z_ix (((12 : Int32) * x1) + (x2 - x2 / (12 : Int32) * (12 : Int32))))).toInt64 * (g 30 (z_ix x1)).toInt64) x3.toInt64 g ⟨o3, ?_⟩
  exact m_r rfl rfl rfl H
set_option maxRecDepth 20000 in
theorem X_175 (x1 : Int64) (x2 : Int32) (x3 : Int32) (x4 : Int32) (g : zG) {Q : Int64 → zG → Prop} (H : (¬ ((100 : Int32) + x4).toInt64 = 0) ∧ (∀ m3 : Int64, m3 = (if (1 : Int64) ≤ ((x3.toInt64 * (100 : Int64)) / ((100 : Int32) + x4).toInt64) then ((x3.toInt64 * (100 : Int64)) / ((100 : Int32) + x4).toInt64) else (1 : Int64)) → (¬ m3 = 0) ∧ Q ((((x1 * x2.toInt64) + m3) - (1 : Int64)) / m3) g)) : MK z_pL 175 [.long x1, .int x2, .int x3, .int x4] g Q := by
  refine m_K (L := [some (.long x1), none, some (.int x2), some (.int x3), some (.int x4), none, none]) rfl ?_
  refine m_n 8 (pc' := 12) (L' := [some (.long x1), none, some (.int x2), some (.int x3), some (.int x4), none, none]) (S' := [.long (((100 : Int32) + x4).toInt64), .long (x3.toInt64 * (100 : Int64))]) (fun _ => rfl) ?_
  obtain ⟨o1, H⟩ := H
  refine m_d (c := ((100 : Int32) + x4).toInt64 = 0) (pc' := 13) (L' := [some (.long x1), none, some (.int x2), some (.int x3), some (.int x4), none, none]) (S' := [.long ((x3.toInt64 * (100 : Int64)) / ((100 : Int32) + x4).toInt64)]) rfl (fun _ => rfl) o1 ?_
  refine m_n 8 (pc' := 23) (L' := [some (.long x1), none, some (.int x2), some (.int x3), some (.int x4), some (.long ((x3.toInt64 * (100 : Int64)) / ((100 : Int32) + x4).toInt64)), none]) (S' := [.int (z_cmp ((x3.toInt64 * (100 : Int64)) / ((100 : Int32) + x4).toInt64) (1 : Int64)), .long (x1 * x2.toInt64)]) (fun _ => rfl) ?_
  obtain ⟨m3, em3⟩ : ∃ m : Int64, m = (if (1 : Int64) ≤ ((x3.toInt64 * (100 : Int64)) / ((100 : Int32) + x4).toInt64) then ((x3.toInt64 * (100 : Int64)) / ((100 : Int32) + x4).toInt64) else (1 : Int64)) := ⟨_, rfl⟩
  have H := H m3 em3
  have hj4 : MG z_pL 175 32 [some (.long x1), none, some (.int x2), some (.int x3), some (.int x4), some (.long ((x3.toInt64 * (100 : Int64)) / ((100 : Int32) + x4).toInt64)), none] [.long m3, .long (x1 * x2.toInt64)] g Q := by
    refine m_cL 162 2 rfl rfl rfl (A := [.long (x1 * x2.toInt64), .long m3]) rfl rfl (Or.inl rfl) (rest := []) rfl rfl ?_
    obtain ⟨o5, H⟩ := H
    refine X_162 (x1 * x2.toInt64) m3 g ⟨o5, ?_⟩
    exact m_r rfl rfl rfl H
  refine m_b (c := 0 ≤ z_cmp ((x3.toInt64 * (100 : Int64)) / ((100 : Int32) + x4).toInt64) (1 : Int64)) (pc' := 30) (L' := [some (.long x1), none, some (.int x2), some (.int x3), some (.int x4), some (.long ((x3.toInt64 * (100 : Int64)) / ((100 : Int32) + x4).toInt64)), none]) (S' := [.long (x1 * x2.toInt64)]) (pc2 := 26) (L2 := [some (.long x1), none, some (.int x2), some (.int x3), some (.int x4), some (.long ((x3.toInt64 * (100 : Int64)) / ((100 : Int32) + x4).toInt64)), none]) (S2 := [.long (x1 * x2.toInt64)]) rfl (fun _ => rfl) (fun hc => ?_) (fun hc => ?_)
  · have c2 := z_cmp_ge.mp hc
    refine m_n 1 (pc' := 32) (L' := [some (.long x1), none, some (.int x2), some (.int x3), some (.int x4), some (.long ((x3.toInt64 * (100 : Int64)) / ((100 : Int32) + x4).toInt64)), none]) (S' := [.long ((x3.toInt64 * (100 : Int64)) / ((100 : Int32) + x4).toInt64), .long (x1 * x2.toInt64)]) (fun _ => rfl) ?_
    rw [em3, if_pos c2] at hj4
    exact hj4
  · have c2 := (fun q => hc (z_cmp_ge.mpr q))
    refine m_n 2 (pc' := 32) (L' := [some (.long x1), none, some (.int x2), some (.int x3), some (.int x4), some (.long ((x3.toInt64 * (100 : Int64)) / ((100 : Int32) + x4).toInt64)), none]) (S' := [.long (1 : Int64), .long (x1 * x2.toInt64)]) (fun _ => rfl) ?_
    rw [em3, if_neg c2] at hj4
    exact hj4
set_option maxRecDepth 20000 in
theorem X_181 (x1 : Int64) (x2 : Int32) (x3 : Int32) (x4 : Int32) (x5 : Int32) (g : zG) {Q : Int64 → zG → Prop} (H : (¬ (x3.toInt64 * x4.toInt64) = 0) ∧ (∀ m3 : Int64, m3 = (if (((x1 * x2.toInt64) * x5.toInt64) / (x3.toInt64 * x4.toInt64)) ≤ (100000 : Int64) then (((x1 * x2.toInt64) * x5.toInt64) / (x3.toInt64 * x4.toInt64)) else (100000 : Int64)) → Q m3 g)) : MK z_pL 181 [.long x1, .int x2, .int x3, .int x4, .int x5] g Q := by
  refine m_K (L := [some (.long x1), none, some (.int x2), some (.int x3), some (.int x4), some (.int x5), none, none]) rfl ?_
  refine m_n 12 (pc' := 14) (L' := [some (.long x1), none, some (.int x2), some (.int x3), some (.int x4), some (.int x5), none, none]) (S' := [.long (x3.toInt64 * x4.toInt64), .long ((x1 * x2.toInt64) * x5.toInt64)]) (fun _ => rfl) ?_
  obtain ⟨o1, H⟩ := H
  refine m_d (c := (x3.toInt64 * x4.toInt64) = 0) (pc' := 15) (L' := [some (.long x1), none, some (.int x2), some (.int x3), some (.int x4), some (.int x5), none, none]) (S' := [.long (((x1 * x2.toInt64) * x5.toInt64) / (x3.toInt64 * x4.toInt64))]) rfl (fun _ => rfl) o1 ?_
  refine m_n 4 (pc' := 23) (L' := [some (.long x1), none, some (.int x2), some (.int x3), some (.int x4), some (.int x5), some (.long (((x1 * x2.toInt64) * x5.toInt64) / (x3.toInt64 * x4.toInt64))), none]) (S' := [.int (z_cmp (((x1 * x2.toInt64) * x5.toInt64) / (x3.toInt64 * x4.toInt64)) (100000 : Int64))]) (fun _ => rfl) ?_
  obtain ⟨m3, em3⟩ : ∃ m : Int64, m = (if (((x1 * x2.toInt64) * x5.toInt64) / (x3.toInt64 * x4.toInt64)) ≤ (100000 : Int64) then (((x1 * x2.toInt64) * x5.toInt64) / (x3.toInt64 * x4.toInt64)) else (100000 : Int64)) := ⟨_, rfl⟩
  have H := H m3 em3
  have hj4 : MG z_pL 181 34 [some (.long x1), none, some (.int x2), some (.int x3), some (.int x4), some (.int x5), some (.long (((x1 * x2.toInt64) * x5.toInt64) / (x3.toInt64 * x4.toInt64))), none] [.long m3] g Q := by
    exact m_r rfl rfl rfl H
  refine m_b (c := z_cmp (((x1 * x2.toInt64) * x5.toInt64) / (x3.toInt64 * x4.toInt64)) (100000 : Int64) ≤ 0) (pc' := 32) (L' := [some (.long x1), none, some (.int x2), some (.int x3), some (.int x4), some (.int x5), some (.long (((x1 * x2.toInt64) * x5.toInt64) / (x3.toInt64 * x4.toInt64))), none]) (S' := []) (pc2 := 26) (L2 := [some (.long x1), none, some (.int x2), some (.int x3), some (.int x4), some (.int x5), some (.long (((x1 * x2.toInt64) * x5.toInt64) / (x3.toInt64 * x4.toInt64))), none]) (S2 := []) rfl (fun _ => rfl) (fun hc => ?_) (fun hc => ?_)
  · have c2 := z_cmp_le.mp hc
    refine m_n 1 (pc' := 34) (L' := [some (.long x1), none, some (.int x2), some (.int x3), some (.int x4), some (.int x5), some (.long (((x1 * x2.toInt64) * x5.toInt64) / (x3.toInt64 * x4.toInt64))), none]) (S' := [.long (((x1 * x2.toInt64) * x5.toInt64) / (x3.toInt64 * x4.toInt64))]) (fun _ => rfl) ?_
    rw [em3, if_pos c2] at hj4
    exact hj4
  · have c2 := (fun q => hc (z_cmp_le.mpr q))
    refine m_n 2 (pc' := 34) (L' := [some (.long x1), none, some (.int x2), some (.int x3), some (.int x4), some (.int x5), some (.long (((x1 * x2.toInt64) * x5.toInt64) / (x3.toInt64 * x4.toInt64))), none]) (S' := [.long (100000 : Int64)]) (fun _ => rfl) ?_
    rw [em3, if_neg c2] at hj4
    exact hj4
set_option maxRecDepth 20000 in
theorem X_190 (x1 : Int32) (g : zG) {Q : Int32 → zG → Prop} (H : ∀ m3 : Int32, m3 = (if x1 = (1 : Int32) then (0 : Int32) else (if x1 = (6 : Int32) then (5 : Int32) else x1)) → Q m3 g) : MK z_pI 190 [.int x1] g Q := by
  refine m_K (L := [some (.int x1)]) rfl ?_
  refine m_n 2 (pc' := 2) (L' := [some (.int x1)]) (S' := [.int (1 : Int32), .int x1]) (fun _ => rfl) ?_
  obtain ⟨m3, em3⟩ : ∃ m : Int32, m = (if x1 = (1 : Int32) then (0 : Int32) else (if x1 = (6 : Int32) then (5 : Int32) else x1)) := ⟨_, rfl⟩
  have H := H m3 em3
  have hj4 : MG z_pI 190 20 [some (.int x1)] [.int m3] g Q := by
    exact m_r rfl rfl rfl H
  refine m_b (c := x1 = (1 : Int32)) (pc' := 5) (L' := [some (.int x1)]) (S' := []) (pc2 := 9) (L2 := [some (.int x1)]) (S2 := []) rfl (fun _ => rfl) (fun hc => ?_) (fun hc => ?_)
  · have c1 := hc
    refine m_n 2 (pc' := 20) (L' := [some (.int x1)]) (S' := [.int (0 : Int32)]) (fun _ => rfl) ?_
    rw [em3, if_pos c1] at hj4
    exact hj4
  · have c1 := hc
    refine m_n 2 (pc' := 12) (L' := [some (.int x1)]) (S' := [.int (6 : Int32), .int x1]) (fun _ => rfl) ?_
    refine m_b (c := x1 = (6 : Int32)) (pc' := 15) (L' := [some (.int x1)]) (S' := []) (pc2 := 19) (L2 := [some (.int x1)]) (S2 := []) rfl (fun _ => rfl) (fun hc => ?_) (fun hc => ?_)
    · have c2 := hc
      refine m_n 2 (pc' := 20) (L' := [some (.int x1)]) (S' := [.int (5 : Int32)]) (fun _ => rfl) ?_
      rw [em3, if_neg c1, if_pos c2] at hj4
      exact hj4
    · have c2 := hc
      refine m_n 1 (pc' := 20) (L' := [some (.int x1)]) (S' := [.int x1]) (fun _ => rfl) ?_
      rw [em3, if_neg c1, if_neg c2] at hj4
      exact hj4
set_option maxRecDepth 20000 in
theorem X_192 (x1 : Int32) (g : zG) {Q : Int32 → zG → Prop} (H : ∀ m5 : Int32, m5 = (if x1 = 0 then (9 : Int32) else (if x1 = (1 : Int32) then (9999 : Int32) else (if x1 = (2 : Int32) then (24 : Int32) else (if x1 = (3 : Int32) then (99 : Int32) else (60 : Int32))))) → Q m5 g) : MK z_pI 192 [.ref 27, .int x1] g Q := by
  refine m_K (L := [some (.ref 27), some (.int x1)]) rfl ?_
  refine m_n 1 (pc' := 1) (L' := [some (.ref 27), some (.int x1)]) (S' := [.int x1]) (fun _ => rfl) ?_
  obtain ⟨m5, em5⟩ : ∃ m : Int32, m = (if x1 = 0 then (9 : Int32) else (if x1 = (1 : Int32) then (9999 : Int32) else (if x1 = (2 : Int32) then (24 : Int32) else (if x1 = (3 : Int32) then (99 : Int32) else (60 : Int32))))) := ⟨_, rfl⟩
  have H := H m5 em5
  have hj6 : MG z_pI 192 42 [some (.ref 27), some (.int x1)] [.int m5] g Q := by
    exact m_r rfl rfl rfl H
  refine m_b (c := x1 = 0) (pc' := 4) (L' := [some (.ref 27), some (.int x1)]) (S' := []) (pc2 := 9) (L2 := [some (.ref 27), some (.int x1)]) (S2 := []) rfl (fun _ => rfl) (fun hc => ?_) (fun hc => ?_)
  · have c1 := hc
    refine m_n 2 (pc' := 42) (L' := [some (.ref 27), some (.int x1)]) (S' := [.int (9 : Int32)]) (fun _ => rfl) ?_
    rw [em5, if_pos c1] at hj6
    exact hj6
  · have c1 := hc
    refine m_n 2 (pc' := 11) (L' := [some (.ref 27), some (.int x1)]) (S' := [.int (1 : Int32), .int x1]) (fun _ => rfl) ?_
    refine m_b (c := x1 = (1 : Int32)) (pc' := 14) (L' := [some (.ref 27), some (.int x1)]) (S' := []) (pc2 := 20) (L2 := [some (.ref 27), some (.int x1)]) (S2 := []) rfl (fun _ => rfl) (fun hc => ?_) (fun hc => ?_)
    · have c2 := hc
      refine m_n 2 (pc' := 42) (L' := [some (.ref 27), some (.int x1)]) (S' := [.int (9999 : Int32)]) (fun _ => rfl) ?_
      rw [em5, if_neg c1, if_pos c2] at hj6
      exact hj6
    · have c2 := hc
      refine m_n 2 (pc' := 22) (L' := [some (.ref 27), some (.int x1)]) (S' := [.int (2 : Int32), .int x1]) (fun _ => rfl) ?_
      refine m_b (c := x1 = (2 : Int32)) (pc' := 25) (L' := [some (.ref 27), some (.int x1)]) (S' := []) (pc2 := 30) (L2 := [some (.ref 27), some (.int x1)]) (S2 := []) rfl (fun _ => rfl) (fun hc => ?_) (fun hc => ?_)
      · have c3 := hc
        refine m_n 2 (pc' := 42) (L' := [some (.ref 27), some (.int x1)]) (S' := [.int (24 : Int32)]) (fun _ => rfl) ?_
        rw [em5, if_neg c1, if_neg c2, if_pos c3] at hj6
        exact hj6
      · have c3 := hc
        refine m_n 2 (pc' := 32) (L' := [some (.ref 27), some (.int x1)]) (S' := [.int (3 : Int32), .int x1]) (fun _ => rfl) ?_
        refine m_b (c := x1 = (3 : Int32)) (pc' := 35) (L' := [some (.ref 27), some (.int x1)]) (S' := []) (pc2 := 40) (L2 := [some (.ref 27), some (.int x1)]) (S2 := []) rfl (fun _ => rfl) (fun hc => ?_) (fun hc => ?_)
        · have c4 := hc
          refine m_n 2 (pc' := 42) (L' := [some (.ref 27), some (.int x1)]) (S' := [.int (99 : Int32)]) (fun _ => rfl) ?_
          rw [em5, if_neg c1, if_neg c2, if_neg c3, if_pos c4] at hj6
          exact hj6
        · have c4 := hc
          refine m_n 1 (pc' := 42) (L' := [some (.ref 27), some (.int x1)]) (S' := [.int (60 : Int32)]) (fun _ => rfl) ?_
          rw [em5, if_neg c1, if_neg c2, if_neg c3, if_neg c4] at hj6
          exact hj6
set_option maxRecDepth 20000 in
theorem X_185 (x1 : Int32) (g : zG) {Q : Int32 → zG → Prop} (H : (¬ ((g 27 35) ≤ x1) → 0 ≤ x1.toInt ∧ x1.toInt < 200) ∧ (∀ m3 : Int32, m3 = (if (g 27 35) ≤ x1 then (-4 : Int32) else (g 59 (z_ix x1))) → Q m3 g)) : MK z_pI 185 [.ref 27, .int x1] g Q := by
  refine m_K (L := [some (.ref 27), some (.int x1)]) rfl ?_
  refine m_n 2 (pc' := 2) (L' := [some (.ref 27), some (.int x1)]) (S' := [.ref 27, .int x1]) (fun _ => rfl) ?_
  refine m_gI rfl ?_
  obtain ⟨o2, H⟩ := H
  obtain ⟨m3, em3⟩ : ∃ m : Int32, m = (if (g 27 35) ≤ x1 then (-4 : Int32) else (g 59 (z_ix x1))) := ⟨_, rfl⟩
  have H := H m3 em3
  have hj4 : MG z_pI 185 19 [some (.ref 27), some (.int x1)] [.int m3] g Q := by
    exact m_r rfl rfl rfl H
  refine m_b (c := (g 27 35) ≤ x1) (pc' := 17) (L' := [some (.ref 27), some (.int x1)]) (S' := []) (pc2 := 8) (L2 := [some (.ref 27), some (.int x1)]) (S2 := []) rfl (fun _ => rfl) (fun hc => ?_) (fun hc => ?_)
  · have c1 := hc
    refine m_n 1 (pc' := 19) (L' := [some (.ref 27), some (.int x1)]) (S' := [.int (-4 : Int32)]) (fun _ => rfl) ?_
    rw [em3, if_pos c1] at hj4
    exact hj4
  · have c1 := hc
    refine m_n 1 (pc' := 9) (L' := [some (.ref 27), some (.int x1)]) (S' := [.ref 27]) (fun _ => rfl) ?_
    refine m_gR (q := 59) rfl (by decide) ?_
    refine m_n 1 (pc' := 13) (L' := [some (.ref 27), some (.int x1)]) (S' := [.int x1, .ref 59]) (fun _ => rfl) ?_
    refine m_ia 200 rfl rfl (o2 c1) ?_
    refine m_n 1 (pc' := 19) (L' := [some (.ref 27), some (.int x1)]) (S' := [.int (g 59 (z_ix x1))]) (fun _ => rfl) ?_
    rw [em3, if_neg c1] at hj4
    exact hj4
set_option maxRecDepth 20000 in
theorem X_169 (x1 : Int32) (g : zG) {Q : Int32 → zG → Prop} (H : MG z_pI 169 5 [some (.ref 27), some (.int x1), some (.int (-4 : Int32)), some (.int (0 : Int32))] [] g Q) : MK z_pI 169 [.ref 27, .int x1] g Q := by
  refine m_K (L := [some (.ref 27), some (.int x1), none, none]) rfl ?_
  refine m_n 4 (pc' := 5) (L' := [some (.ref 27), some (.int x1), some (.int (-4 : Int32)), some (.int (0 : Int32))]) (S' := []) (fun _ => rfl) ?_
  exact H
set_option maxRecDepth 20000 in
theorem X_169_5 (y1 : Int32) (y2 : Int32) (y3 : Int32) (g : zG) {Q : Int32 → zG → Prop} (H : if (g 27 20) ≤ y3 then (Q y2 g) else ((0 ≤ y3.toInt ∧ y3.toInt < 12) ∧ (∀ m3 : Int32, m3 = (if (g 46 (z_ix y3)) = y1 then y3 else y2) → MG z_pI 169 5 [some (.ref 27), some (.int y1), some (.int m3), some (.int (y3 + (1 : Int32)))] [] g Q))) : MG z_pI 169 5 [some (.ref 27), some (.int y1), some (.int y2), some (.int y3)] [] g Q := by
  refine m_n 2 (pc' := 7) (L' := [some (.ref 27), some (.int y1), some (.int y2), some (.int y3)]) (S' := [.ref 27, .int y3]) (fun _ => rfl) ?_
  refine m_gI rfl ?_
  refine m_b (c := (g 27 20) ≤ y3) (pc' := 35) (L' := [some (.ref 27), some (.int y1), some (.int y2), some (.int y3)]) (S' := []) (pc2 := 13) (L2 := [some (.ref 27), some (.int y1), some (.int y2), some (.int y3)]) (S2 := []) rfl (fun _ => rfl) (fun hc => ?_) (fun hc => ?_)
  · have hc := hc
    rw [if_pos hc] at H
    refine m_n 1 (pc' := 36) (L' := [some (.ref 27), some (.int y1), some (.int y2), some (.int y3)]) (S' := [.int y2]) (fun _ => rfl) ?_
    exact m_r rfl rfl rfl H
  · have hc := hc
    rw [if_neg hc] at H
    refine m_n 1 (pc' := 14) (L' := [some (.ref 27), some (.int y1), some (.int y2), some (.int y3)]) (S' := [.ref 27]) (fun _ => rfl) ?_
    refine m_gR (q := 46) rfl (by decide) ?_
    refine m_n 1 (pc' := 18) (L' := [some (.ref 27), some (.int y1), some (.int y2), some (.int y3)]) (S' := [.int y3, .ref 46]) (fun _ => rfl) ?_
    obtain ⟨o1, H⟩ := H
    refine m_ia 12 rfl rfl o1 ?_
    refine m_n 1 (pc' := 20) (L' := [some (.ref 27), some (.int y1), some (.int y2), some (.int y3)]) (S' := [.int y1, .int (g 46 (z_ix y3))]) (fun _ => rfl) ?_
    obtain ⟨m3, em3⟩ : ∃ m : Int32, m = (if (g 46 (z_ix y3)) = y1 then y3 else y2) := ⟨_, rfl⟩
    have H := H m3 em3
    have hj4 : MG z_pI 169 28 [some (.ref 27), some (.int y1), some (.int y2), some (.int y3)] [.int m3] g Q := by
      refine m_n 3 (pc' := 5) (L' := [some (.ref 27), some (.int y1), some (.int m3), some (.int (y3 + (1 : Int32)))]) (S' := []) (fun _ => rfl) ?_
      exact H
    refine m_b (c := (g 46 (z_ix y3)) = y1) (pc' := 23) (L' := [some (.ref 27), some (.int y1), some (.int y2), some (.int y3)]) (S' := []) (pc2 := 27) (L2 := [some (.ref 27), some (.int y1), some (.int y2), some (.int y3)]) (S2 := []) rfl (fun _ => rfl) (fun hc => ?_) (fun hc => ?_)
    · have c2 := hc
      refine m_n 2 (pc' := 28) (L' := [some (.ref 27), some (.int y1), some (.int y2), some (.int y3)]) (S' := [.int y3]) (fun _ => rfl) ?_
      rw [em3, if_pos c2] at hj4
      exact hj4
    · have c2 := hc
      refine m_n 1 (pc' := 28) (L' := [some (.ref 27), some (.int y1), some (.int y2), some (.int y3)]) (S' := [.int y2]) (fun _ => rfl) ?_
      rw [em3, if_neg c2] at hj4
      exact hj4
set_option maxRecDepth 20000 in
theorem X_225 (x1 : Int32) (g : zG) {Q : Int32 → zG → Prop} (H : MG z_pI 225 4 [some (.ref 27), some (.int x1), some (.int (1 : Int32)), some (.int (1 : Int32))] [] g Q) : MK z_pI 225 [.ref 27, .int x1] g Q := by
  refine m_K (L := [some (.ref 27), some (.int x1), none, none]) rfl ?_
  refine m_n 4 (pc' := 4) (L' := [some (.ref 27), some (.int x1), some (.int (1 : Int32)), some (.int (1 : Int32))]) (S' := []) (fun _ => rfl) ?_
  exact H
set_option maxRecDepth 20000 in
theorem X_225_4 (y1 : Int32) (y2 : Int32) (y3 : Int32) (g : zG) {Q : Int32 → zG → Prop} (H : if y1 ≤ y3 then (Q y2 g) else (MG z_pI 225 4 [some (.ref 27), some (.int y1), some (.int (y2 * (10 : Int32))), some (.int (y3 + (1 : Int32)))] [] g Q)) : MG z_pI 225 4 [some (.ref 27), some (.int y1), some (.int y2), some (.int y3)] [] g Q := by
  refine m_n 2 (pc' := 6) (L' := [some (.ref 27), some (.int y1), some (.int y2), some (.int y3)]) (S' := [.int y1, .int y3]) (fun _ => rfl) ?_
  refine m_b (c := y1 ≤ y3) (pc' := 20) (L' := [some (.ref 27), some (.int y1), some (.int y2), some (.int y3)]) (S' := []) (pc2 := 9) (L2 := [some (.ref 27), some (.int y1), some (.int y2), some (.int y3)]) (S2 := []) rfl (fun _ => rfl) (fun hc => ?_) (fun hc => ?_)
  · have hc := hc
    rw [if_pos hc] at H
    refine m_n 1 (pc' := 21) (L' := [some (.ref 27), some (.int y1), some (.int y2), some (.int y3)]) (S' := [.int y2]) (fun _ => rfl) ?_
    exact m_r rfl rfl rfl H
  · have hc := hc
    rw [if_neg hc] at H
    refine m_n 6 (pc' := 4) (L' := [some (.ref 27), some (.int y1), some (.int (y2 * (10 : Int32))), some (.int (y3 + (1 : Int32)))]) (S' := []) (fun _ => rfl) ?_
    exact H
set_option maxRecDepth 20000 in
theorem X_221 (x1 : Int32) (x2 : Int32) (g : zG) {Q : Int32 → zG → Prop} (H : (0 ≤ x1.toInt ∧ x1.toInt < 6) ∧ (0 ≤ x2.toInt ∧ x2.toInt < 6) ∧ (0 ≤ x1.toInt ∧ x1.toInt < 6) ∧ (0 ≤ x2.toInt ∧ x2.toInt < 6) ∧ (∀ m6 : Int32, m6 = (if 0 ≤ ((g 28 (z_ix x1)) - (g 28 (z_ix x2))) then ((g 28 (z_ix x1)) - (g 28 (z_ix x2))) else (-((g 28 (z_ix x1)) - (g 28 (z_ix x2))))) → ∀ m9 : Int32, m9 = (if 0 ≤ ((g 29 (z_ix x1)) - (g 29 (z_ix x2))) then ((g 29 (z_ix x1)) - (g 29 (z_ix x2))) else (-((g 29 (z_ix x1)) - (g 29 (z_ix x2))))) → Q (((m6 + m9) + (9 : Int32)) / (10 : Int32)) g)) : MK z_pI 221 [.ref 27, .int x1, .int x2] g Q := by
  refine m_K (L := [some (.ref 27), some (.int x1), some (.int x2), none, none]) rfl ?_
  refine m_n 1 (pc' := 1) (L' := [some (.ref 27), some (.int x1), some (.int x2), none, none]) (S' := [.ref 27]) (fun _ => rfl) ?_
  refine m_gR (q := 28) rfl (by decide) ?_
  refine m_n 1 (pc' := 5) (L' := [some (.ref 27), some (.int x1), some (.int x2), none, none]) (S' := [.int x1, .ref 28]) (fun _ => rfl) ?_
  obtain ⟨o1, H⟩ := H
  refine m_ia 6 rfl rfl o1 ?_
  refine m_n 1 (pc' := 7) (L' := [some (.ref 27), some (.int x1), some (.int x2), none, none]) (S' := [.ref 27, .int (g 28 (z_ix x1))]) (fun _ => rfl) ?_
  refine m_gR (q := 28) rfl (by decide) ?_
  refine m_n 1 (pc' := 11) (L' := [some (.ref 27), some (.int x1), some (.int x2), none, none]) (S' := [.int x2, .ref 28, .int (g 28 (z_ix x1))]) (fun _ => rfl) ?_
  obtain ⟨o2, H⟩ := H
  refine m_ia 6 rfl rfl o2 ?_
  refine m_n 3 (pc' := 15) (L' := [some (.ref 27), some (.int x1), some (.int x2), some (.int ((g 28 (z_ix x1)) - (g 28 (z_ix x2)))), none]) (S' := [.ref 27]) (fun _ => rfl) ?_
  refine m_gR (q := 29) rfl (by decide) ?_
  refine m_n 1 (pc' := 19) (L' := [some (.ref 27), some (.int x1), some (.int x2), some (.int ((g 28 (z_ix x1)) - (g 28 (z_ix x2)))), none]) (S' := [.int x1, .ref 29]) (fun _ => rfl) ?_
  obtain ⟨o3, H⟩ := H
  refine m_ia 6 rfl rfl o3 ?_
  refine m_n 1 (pc' := 21) (L' := [some (.ref 27), some (.int x1), some (.int x2), some (.int ((g 28 (z_ix x1)) - (g 28 (z_ix x2)))), none]) (S' := [.ref 27, .int (g 29 (z_ix x1))]) (fun _ => rfl) ?_
  refine m_gR (q := 29) rfl (by decide) ?_
  refine m_n 1 (pc' := 25) (L' := [some (.ref 27), some (.int x1), some (.int x2), some (.int ((g 28 (z_ix x1)) - (g 28 (z_ix x2)))), none]) (S' := [.int x2, .ref 29, .int (g 29 (z_ix x1))]) (fun _ => rfl) ?_
  obtain ⟨o4, H⟩ := H
  refine m_ia 6 rfl rfl o4 ?_
  refine m_n 3 (pc' := 30) (L' := [some (.ref 27), some (.int x1), some (.int x2), some (.int ((g 28 (z_ix x1)) - (g 28 (z_ix x2)))), some (.int ((g 29 (z_ix x1)) - (g 29 (z_ix x2))))]) (S' := [.int ((g 28 (z_ix x1)) - (g 28 (z_ix x2)))]) (fun _ => rfl) ?_
  obtain ⟨m6, em6⟩ : ∃ m : Int32, m = (if 0 ≤ ((g 28 (z_ix x1)) - (g 28 (z_ix x2))) then ((g 28 (z_ix x1)) - (g 28 (z_ix x2))) else (-((g 28 (z_ix x1)) - (g 28 (z_ix x2))))) := ⟨_, rfl⟩
  have H := H m6 em6
  have hj7 : MG z_pI 221 39 [some (.ref 27), some (.int x1), some (.int x2), some (.int ((g 28 (z_ix x1)) - (g 28 (z_ix x2)))), some (.int ((g 29 (z_ix x1)) - (g 29 (z_ix x2))))] [.int m6] g Q := by
    refine m_n 1 (pc' := 41) (L' := [some (.ref 27), some (.int x1), some (.int x2), some (.int ((g 28 (z_ix x1)) - (g 28 (z_ix x2)))), some (.int ((g 29 (z_ix x1)) - (g 29 (z_ix x2))))]) (S' := [.int ((g 29 (z_ix x1)) - (g 29 (z_ix x2))), .int m6]) (fun _ => rfl) ?_
    obtain ⟨m9, em9⟩ : ∃ m : Int32, m = (if 0 ≤ ((g 29 (z_ix x1)) - (g 29 (z_ix x2))) then ((g 29 (z_ix x1)) - (g 29 (z_ix x2))) else (-((g 29 (z_ix x1)) - (g 29 (z_ix x2))))) := ⟨_, rfl⟩
    have H := H m9 em9
    have hj10 : MG z_pI 221 52 [some (.ref 27), some (.int x1), some (.int x2), some (.int ((g 28 (z_ix x1)) - (g 28 (z_ix x2)))), some (.int ((g 29 (z_ix x1)) - (g 29 (z_ix x2))))] [.int m9, .int m6] g Q := by
      refine m_n 4 (pc' := 58) (L' := [some (.ref 27), some (.int x1), some (.int x2), some (.int ((g 28 (z_ix x1)) - (g 28 (z_ix x2)))), some (.int ((g 29 (z_ix x1)) - (g 29 (z_ix x2))))]) (S' := [.int (10 : Int32), .int ((m6 + m9) + (9 : Int32))]) (fun _ => rfl) ?_
      refine m_d (c := (10 : Int32) = 0) (pc' := 59) (L' := [some (.ref 27), some (.int x1), some (.int x2), some (.int ((g 28 (z_ix x1)) - (g 28 (z_ix x2)))), some (.int ((g 29 (z_ix x1)) - (g 29 (z_ix x2))))]) (S' := [.int (((m6 + m9) + (9 : Int32)) / (10 : Int32))]) rfl (fun _ => rfl) (by decide) ?_
      exact m_r rfl rfl rfl H
    refine m_b (c := 0 ≤ ((g 29 (z_ix x1)) - (g 29 (z_ix x2)))) (pc' := 50) (L' := [some (.ref 27), some (.int x1), some (.int x2), some (.int ((g 28 (z_ix x1)) - (g 28 (z_ix x2)))), some (.int ((g 29 (z_ix x1)) - (g 29 (z_ix x2))))]) (S' := [.int m6]) (pc2 := 44) (L2 := [some (.ref 27), some (.int x1), some (.int x2), some (.int ((g 28 (z_ix x1)) - (g 28 (z_ix x2)))), some (.int ((g 29 (z_ix x1)) - (g 29 (z_ix x2))))]) (S2 := [.int m6]) rfl (fun _ => rfl) (fun hc => ?_) (fun hc => ?_)
    · have c8 := hc
      refine m_n 1 (pc' := 52) (L' := [some (.ref 27), some (.int x1), some (.int x2), some (.int ((g 28 (z_ix x1)) - (g 28 (z_ix x2)))), some (.int ((g 29 (z_ix x1)) - (g 29 (z_ix x2))))]) (S' := [.int ((g 29 (z_ix x1)) - (g 29 (z_ix x2))), .int m6]) (fun _ => rfl) ?_
      rw [em9, if_pos c8] at hj10
      exact hj10
    · have c8 := hc
      refine m_n 3 (pc' := 52) (L' := [some (.ref 27), some (.int x1), some (.int x2), some (.int ((g 28 (z_ix x1)) - (g 28 (z_ix x2)))), some (.int ((g 29 (z_ix x1)) - (g 29 (z_ix x2))))]) (S' := [.int (-((g 29 (z_ix x1)) - (g 29 (z_ix x2)))), .int m6]) (fun _ => rfl) ?_
      rw [em9, if_neg c8] at hj10
      exact hj10
  refine m_b (c := 0 ≤ ((g 28 (z_ix x1)) - (g 28 (z_ix x2)))) (pc' := 38) (L' := [some (.ref 27), some (.int x1), some (.int x2), some (.int ((g 28 (z_ix x1)) - (g 28 (z_ix x2)))), some (.int ((g 29 (z_ix x1)) - (g 29 (z_ix x2))))]) (S' := []) (pc2 := 33) (L2 := [some (.ref 27), some (.int x1), some (.int x2), some (.int ((g 28 (z_ix x1)) - (g 28 (z_ix x2)))), some (.int ((g 29 (z_ix x1)) - (g 29 (z_ix x2))))]) (S2 := []) rfl (fun _ => rfl) (fun hc => ?_) (fun hc => ?_)
  · have c5 := hc
    refine m_n 1 (pc' := 39) (L' := [some (.ref 27), some (.int x1), some (.int x2), some (.int ((g 28 (z_ix x1)) - (g 28 (z_ix x2)))), some (.int ((g 29 (z_ix x1)) - (g 29 (z_ix x2))))]) (S' := [.int ((g 28 (z_ix x1)) - (g 28 (z_ix x2)))]) (fun _ => rfl) ?_
    rw [em6, if_pos c5] at hj7
    exact hj7
  · have c5 := hc
    refine m_n 3 (pc' := 39) (L' := [some (.ref 27), some (.int x1), some (.int x2), some (.int ((g 28 (z_ix x1)) - (g 28 (z_ix x2)))), some (.int ((g 29 (z_ix x1)) - (g 29 (z_ix x2))))]) (S' := [.int (-((g 28 (z_ix x1)) - (g 28 (z_ix x2))))]) (fun _ => rfl) ?_
    rw [em6, if_neg c5] at hj7
    exact hj7
set_option maxRecDepth 20000 in
theorem X_196  (g : zG) {Q : Int32 → zG → Prop} (H : Q (g 27 36) g) : MK z_pI 196 [.ref 27] g Q := by
  refine m_K (L := [some (.ref 27)]) rfl ?_
  refine m_n 1 (pc' := 1) (L' := [some (.ref 27)]) (S' := [.ref 27]) (fun _ => rfl) ?_
  refine m_gI rfl ?_
  exact m_r rfl rfl rfl H
set_option maxRecDepth 20000 in
theorem X_231  (g : zG) {Q : Int32 → zG → Prop} (H : Q (g 27 76) g) : MK z_pI 231 [.ref 27] g Q := by
  refine m_K (L := [some (.ref 27)]) rfl ?_
  refine m_n 1 (pc' := 1) (L' := [some (.ref 27)]) (S' := [.ref 27]) (fun _ => rfl) ?_
  refine m_gI rfl ?_
  exact m_r rfl rfl rfl H
set_option maxRecDepth 20000 in
theorem X_184 (x1 : Int32) (g : zG) {Q : Int32 → zG → Prop} (H : if (0 : Int32) ≤ x1 ∧ x1 ≤ (g 27 35) then (Q (g 27 35) (z_up2 g 27 35 x1)) else (Q (-1 : Int32) g)) : MK z_pI 184 [.ref 27, .int x1] g Q := by
  refine m_K (L := [some (.ref 27), some (.int x1), none]) rfl ?_
  refine m_n 4 (pc' := 4) (L' := [some (.ref 27), some (.int x1), none]) (S' := [.ref 27, .long (0 : Int64), .long x1.toInt64]) (fun _ => rfl) ?_
  refine m_gI rfl ?_
  refine m_n 1 (pc' := 8) (L' := [some (.ref 27), some (.int x1), none]) (S' := [.long ((g 27 35).toInt64), .long (0 : Int64), .long x1.toInt64]) (fun _ => rfl) ?_
  refine m_cI 161 3 rfl rfl rfl (A := [.long x1.toInt64, .long (0 : Int64), .long ((g 27 35).toInt64)]) rfl rfl (Or.inl rfl) (rest := []) rfl rfl rfl ?_
  refine c_inJ x1 (0 : Int32) (g 27 35) g rfl rfl rfl ?_
  refine m_b (c := z_bt ((0 : Int32) ≤ x1 ∧ x1 ≤ (g 27 35)) = 0) (pc' := 14) (L' := [some (.ref 27), some (.int x1), none]) (S' := []) (pc2 := 16) (L2 := [some (.ref 27), some (.int x1), none]) (S2 := []) rfl (fun _ => rfl) (fun hc => ?_) (fun hc => ?_)
  · have hc := z_bt_0.mp hc
    rw [if_neg hc] at H
    refine m_n 1 (pc' := 15) (L' := [some (.ref 27), some (.int x1), none]) (S' := [.int (-1 : Int32)]) (fun _ => rfl) ?_
    exact m_r rfl rfl rfl H
  · have hc := Decidable.not_not.mp (fun q => hc (z_bt_0.mpr q))
    rw [if_pos hc] at H
    refine m_n 1 (pc' := 17) (L' := [some (.ref 27), some (.int x1), none]) (S' := [.ref 27]) (fun _ => rfl) ?_
    refine m_gI rfl ?_
    refine m_n 3 (pc' := 23) (L' := [some (.ref 27), some (.int x1), some (.int (g 27 35))]) (S' := [.int x1, .ref 27]) (fun _ => rfl) ?_
    refine m_pI rfl ?_
    refine m_n 1 (pc' := 27) (L' := [some (.ref 27), some (.int x1), some (.int (g 27 35))]) (S' := [.int (g 27 35)]) (fun _ => rfl) ?_
    exact m_r rfl rfl rfl H
set_option maxRecDepth 20000 in
theorem X_183 (x1 : Int64) (g : zG) {Q : Int32 → zG → Prop} (H : if ((g 27 35) + (8 : Int32)) ≤ (200 : Int32) then (MG z_pI 183 19 [some (.ref 27), some (.long x1), none, some (.int (56 : Int32))] [] g Q) else (Q (-3 : Int32) g)) : MK z_pI 183 [.ref 27, .long x1] g Q := by
  refine m_K (L := [some (.ref 27), some (.long x1), none, none]) rfl ?_
  refine m_n 1 (pc' := 1) (L' := [some (.ref 27), some (.long x1), none, none]) (S' := [.ref 27]) (fun _ => rfl) ?_
  refine m_gI rfl ?_
  refine m_n 3 (pc' := 10) (L' := [some (.ref 27), some (.long x1), none, none]) (S' := [.int (200 : Int32), .int ((g 27 35) + (8 : Int32))]) (fun _ => rfl) ?_
  refine m_b (c := ((g 27 35) + (8 : Int32)) ≤ (200 : Int32)) (pc' := 16) (L' := [some (.ref 27), some (.long x1), none, none]) (S' := []) (pc2 := 13) (L2 := [some (.ref 27), some (.long x1), none, none]) (S2 := []) rfl (fun _ => rfl) (fun hc => ?_) (fun hc => ?_)
  · have hc := hc
    rw [if_pos hc] at H
    refine m_n 2 (pc' := 19) (L' := [some (.ref 27), some (.long x1), none, some (.int (56 : Int32))]) (S' := []) (fun _ => rfl) ?_
    exact H
  · have hc := hc
    rw [if_neg hc] at H
    refine m_n 1 (pc' := 15) (L' := [some (.ref 27), some (.long x1), none, none]) (S' := [.int (-3 : Int32)]) (fun _ => rfl) ?_
    exact m_r rfl rfl rfl H
set_option maxRecDepth 20000 in
theorem X_183_19 (y1 : Int64) (y3 : Int32) (g : zG) {Q : Int32 → zG → Prop} (H : if y3 < 0 then (Q (g 27 35) g) else ((0 ≤ (g 27 35).toInt ∧ (g 27 35).toInt < 200) ∧ MG z_pI 183 19 [some (.ref 27), some (.long y1), none, some (.int (y3 + (-8 : Int32)))] [] (z_up2 (z_up2 g 59 (z_ix (g 27 35)) ((y1 >>> (y3.toInt64 &&& 63)).toInt32 &&& (255 : Int32))) 27 35 (((z_up2 g 59 (z_ix (g 27 35)) ((y1 >>> (y3.toInt64 &&& 63)).toInt32 &&& (255 : Int32))) 27 35) + (1 : Int32))) Q)) : MG z_pI 183 19 [some (.ref 27), some (.long y1), none, some (.int y3)] [] g Q := by
  refine m_n 1 (pc' := 20) (L' := [some (.ref 27), some (.long y1), none, some (.int y3)]) (S' := [.int y3]) (fun _ => rfl) ?_
  refine m_b (c := y3 < 0) (pc' := 56) (L' := [some (.ref 27), some (.long y1), none, some (.int y3)]) (S' := []) (pc2 := 23) (L2 := [some (.ref 27), some (.long y1), none, some (.int y3)]) (S2 := []) rfl (fun _ => rfl) (fun hc => ?_) (fun hc => ?_)
  · have hc := hc
    rw [if_pos hc] at H
    refine m_n 1 (pc' := 57) (L' := [some (.ref 27), some (.long y1), none, some (.int y3)]) (S' := [.ref 27]) (fun _ => rfl) ?_
    refine m_gI rfl ?_
    exact m_r rfl rfl rfl H
  · have hc := hc
    rw [if_neg hc] at H
    refine m_n 1 (pc' := 24) (L' := [some (.ref 27), some (.long y1), none, some (.int y3)]) (S' := [.ref 27]) (fun _ => rfl) ?_
    refine m_gR (q := 59) rfl (by decide) ?_
    refine m_n 1 (pc' := 28) (L' := [some (.ref 27), some (.long y1), none, some (.int y3)]) (S' := [.ref 27, .ref 59]) (fun _ => rfl) ?_
    refine m_gI rfl ?_
    refine m_n 6 (pc' := 39) (L' := [some (.ref 27), some (.long y1), none, some (.int y3)]) (S' := [.int ((y1 >>> (y3.toInt64 &&& 63)).toInt32 &&& (255 : Int32)), .int (g 27 35), .ref 59]) (fun _ => rfl) ?_
    obtain ⟨o1, H⟩ := H
    refine m_is 200 rfl rfl rfl o1 ?_
    refine m_n 2 (pc' := 42) (L' := [some (.ref 27), some (.long y1), none, some (.int y3)]) (S' := [.ref 27, .ref 27]) (fun _ => rfl) ?_
    refine m_gI rfl ?_
    refine m_n 2 (pc' := 47) (L' := [some (.ref 27), some (.long y1), none, some (.int y3)]) (S' := [.int (((z_up2 g 59 (z_ix (g 27 35)) ((y1 >>> (y3.toInt64 &&& 63)).toInt32 &&& (255 : Int32))) 27 35) + (1 : Int32)), .ref 27]) (fun _ => rfl) ?_
    refine m_pI rfl ?_
    refine m_n 2 (pc' := 19) (L' := [some (.ref 27), some (.long y1), none, some (.int (y3 + (-8 : Int32)))]) (S' := []) (fun _ => rfl) ?_
    exact H
