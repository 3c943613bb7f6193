set_option maxRecDepth 20000 in
theorem X_165 (x1 : Int32) (x2 : Int32) (x3 : Int32) (x4 : Int32) (g : zG) {Q : Int32 → zG → Prop} (H : if (0 : Int32) ≤ x1 ∧ x1 ≤ (99 : Int32) then (if (0 : Int32) ≤ x2 ∧ x2 ≤ (99 : Int32) then (if (1 : Int32) ≤ x3 ∧ x3 ≤ (300 : Int32) then (if (1 : Int32) ≤ x4 ∧ x4 ≤ (99 : Int32) then (if (g 27 1) = (6 : Int32) then (Q (-3 : Int32) g) else ((0 ≤ (g 27 1).toInt ∧ (g 27 1).toInt < 6) ∧ (∀ g2 : zG, g2 = (z_up2 g 28 (z_ix (g 27 1)) x1) → (0 ≤ (g2 27 1).toInt ∧ (g2 27 1).toInt < 6) ∧ (∀ g4 : zG, g4 = (z_up2 g2 29 (z_ix (g2 27 1)) x2) → (0 ≤ (g4 27 1).toInt ∧ (g4 27 1).toInt < 6) ∧ (∀ g6 : zG, g6 = (z_up2 g4 30 (z_ix (g4 27 1)) x3) → (0 ≤ (g6 27 1).toInt ∧ (g6 27 1).toInt < 6) ∧ (∀ g8 : zG, g8 = (z_up2 g6 31 (z_ix (g6 27 1)) x4) → MG z_pI 165 107 [some (.ref 27), some (.int x1), some (.int x2), some (.int x3), some (.int x4), some (.int (0 : Int32))] [] g8 Q)))))) else (Q (-1 : Int32) g)) else (Q (-1 : Int32) g)) else (Q (-1 : Int32) g)) else (Q (-1 : Int32) g)) : MK z_pI 165 [.ref 27, .int x1, .int x2, .int x3, .int x4] g Q := by
  refine m_K (L := [some (.ref 27), some (.int x1), some (.int x2), some (.int x3), some (.int x4), none]) rfl ?_
  refine m_n 4 (pc' := 6) (L' := [some (.ref 27), some (.int x1), some (.int x2), some (.int x3), some (.int x4), none]) (S' := [.long (99 : Int64), .long (0 : Int64), .long x1.toInt64]) (fun _ => rfl) ?_
  refine m_cI 161 3 rfl rfl rfl (A := [.long x1.toInt64, .long (0 : Int64), .long (99 : Int64)]) rfl rfl (Or.inl rfl) (rest := []) rfl rfl rfl ?_
  refine c_inJ x1 (0 : Int32) (99 : Int32) g rfl rfl rfl ?_
  refine m_b (c := z_bt ((0 : Int32) ≤ x1 ∧ x1 ≤ (99 : Int32)) = 0) (pc' := 49) (L' := [some (.ref 27), some (.int x1), some (.int x2), some (.int x3), some (.int x4), none]) (S' := []) (pc2 := 12) (L2 := [some (.ref 27), some (.int x1), some (.int x2), some (.int x3), some (.int x4), none]) (S2 := []) rfl (fun _ => rfl) (fun hc => ?_) (fun hc => ?_)
  · have hc := z_bt_0.mp hc
    rw [if_neg hc] at H
    refine m_n 1 (pc' := 50) (L' := [some (.ref 27), some (.int x1), some (.int x2), some (.int x3), some (.int x4), none]) (S' := [.int (-1 : Int32)]) (fun _ => rfl) ?_
    exact m_r rfl rfl rfl H
  · have hc := Decidable.not_not.mp (fun q => hc (z_bt_0.mpr q))
    rw [if_pos hc] at H
    refine m_n 4 (pc' := 18) (L' := [some (.ref 27), some (.int x1), some (.int x2), some (.int x3), some (.int x4), none]) (S' := [.long (99 : Int64), .long (0 : Int64), .long x2.toInt64]) (fun _ => rfl) ?_
    refine m_cI 161 3 rfl rfl rfl (A := [.long x2.toInt64, .long (0 : Int64), .long (99 : Int64)]) rfl rfl (Or.inl rfl) (rest := []) rfl rfl rfl ?_
    refine c_inJ x2 (0 : Int32) (99 : Int32) g rfl rfl rfl ?_
    refine m_b (c := z_bt ((0 : Int32) ≤ x2 ∧ x2 ≤ (99 : Int32)) = 0) (pc' := 49) (L' := [some (.ref 27), some (.int x1), some (.int x2), some (.int x3), some (.int x4), none]) (S' := []) (pc2 := 24) (L2 := [some (.ref 27), some (.int x1), some (.int x2), some (.int x3), some (.int x4), none]) (S2 := []) rfl (fun _ => rfl) (fun hc => ?_) (fun hc => ?_)
    · have hc := z_bt_0.mp hc
      rw [if_neg hc] at H
      refine m_n 1 (pc' := 50) (L' := [some (.ref 27), some (.int x1), some (.int x2), some (.int x3), some (.int x4), none]) (S' := [.int (-1 : Int32)]) (fun _ => rfl) ?_
      exact m_r rfl rfl rfl H
    · have hc := Decidable.not_not.mp (fun q => hc (z_bt_0.mpr q))
      rw [if_pos hc] at H
      refine m_n 4 (pc' := 30) (L' := [some (.ref 27), some (.int x1), some (.int x2), some (.int x3), some (.int x4), none]) (S' := [.long (300 : Int64), .long (1 : Int64), .long x3.toInt64]) (fun _ => rfl) ?_
      refine m_cI 161 3 rfl rfl rfl (A := [.long x3.toInt64, .long (1 : Int64), .long (300 : Int64)]) rfl rfl (Or.inl rfl) (rest := []) rfl rfl rfl ?_
      refine c_inJ x3 (1 : Int32) (300 : Int32) g rfl rfl rfl ?_
      refine m_b (c := z_bt ((1 : Int32) ≤ x3 ∧ x3 ≤ (300 : Int32)) = 0) (pc' := 49) (L' := [some (.ref 27), some (.int x1), some (.int x2), some (.int x3), some (.int x4), none]) (S' := []) (pc2 := 36) (L2 := [some (.ref 27), some (.int x1), some (.int x2), some (.int x3), some (.int x4), none]) (S2 := []) rfl (fun _ => rfl) (fun hc => ?_) (fun hc => ?_)
      · have hc := z_bt_0.mp hc
        rw [if_neg hc] at H
        refine m_n 1 (pc' := 50) (L' := [some (.ref 27), some (.int x1), some (.int x2), some (.int x3), some (.int x4), none]) (S' := [.int (-1 : Int32)]) (fun _ => rfl) ?_
        exact m_r rfl rfl rfl H
      · have hc := Decidable.not_not.mp (fun q => hc (z_bt_0.mpr q))
        rw [if_pos hc] at H
        refine m_n 4 (pc' := 43) (L' := [some (.ref 27), some (.int x1), some (.int x2), some (.int x3), some (.int x4), none]) (S' := [.long (99 : Int64), .long (1 : Int64), .long x4.toInt64]) (fun _ => rfl) ?_
        refine m_cI 161 3 rfl rfl rfl (A := [.long x4.toInt64, .long (1 : Int64), .long (99 : Int64)]) rfl rfl (Or.inl rfl) (rest := []) rfl rfl rfl ?_
        refine c_inJ x4 (1 : Int32) (99 : Int32) g rfl rfl rfl ?_
        refine m_b (c := z_bt ((1 : Int32) ≤ x4 ∧ x4 ≤ (99 : Int32)) = 0) (pc' := 49) (L' := [some (.ref 27), some (.int x1), some (.int x2), some (.int x3), some (.int x4), none]) (S' := []) (pc2 := 51) (L2 := [some (.ref 27), some (.int x1), some (.int x2), some (.int x3), some (.int x4), none]) (S2 := []) rfl (fun _ => rfl) (fun hc => ?_) (fun hc => ?_)
        · have hc := z_bt_0.mp hc
          rw [if_neg hc] at H
          refine m_n 1 (pc' := 50) (L' := [some (.ref 27), some (.int x1), some (.int x2), some (.int x3), some (.int x4), none]) (S' := [.int (-1 : Int32)]) (fun _ => rfl) ?_
          exact m_r rfl rfl rfl H
        · have hc := Decidable.not_not.mp (fun q => hc (z_bt_0.mpr q))
          rw [if_pos hc] at H
          refine m_n 1 (pc' := 52) (L' := [some (.ref 27), some (.int x1), some (.int x2), some (.int x3), some (.int x4), none]) (S' := [.ref 27]) (fun _ => rfl) ?_
          refine m_gI rfl ?_
          refine m_n 1 (pc' := 57) (L' := [some (.ref 27), some (.int x1), some (.int x2), some (.int x3), some (.int x4), none]) (S' := [.int (6 : Int32), .int (g 27 1)]) (fun _ => rfl) ?_
          refine m_b (c := (g 27 1) = (6 : Int32)) (pc' := 60) (L' := [some (.ref 27), some (.int x1), some (.int x2), some (.int x3), some (.int x4), none]) (S' := []) (pc2 := 63) (L2 := [some (.ref 27), some (.int x1), some (.int x2), some (.int x3), some (.int x4), none]) (S2 := []) rfl (fun _ => rfl) (fun hc => ?_) (fun hc => ?_)
          · have hc := hc
            rw [if_pos hc] at H
            refine m_n 1 (pc' := 62) (L' := [some (.ref 27), some (.int x1), some (.int x2), some (.int x3), some (.int x4), none]) (S' := [.int (-3 : Int32)]) (fun _ => rfl) ?_
            exact m_r rfl rfl rfl H
          · have hc := hc
            rw [if_neg hc] at H
            refine m_n 1 (pc' := 64) (L' := [some (.ref 27), some (.int x1), some (.int x2), some (.int x3), some (.int x4), none]) (S' := [.ref 27]) (fun _ => rfl) ?_
            refine m_gR (q := 28) rfl (by decide) ?_
            refine m_n 1 (pc' := 68) (L' := [some (.ref 27), some (.int x1), some (.int x2), some (.int x3), some (.int x4), none]) (S' := [.ref 27, .ref 28]) (fun _ => rfl) ?_
            refine m_gI rfl ?_
            refine m_n 1 (pc' := 72) (L' := [some (.ref 27), some (.int x1), some (.int x2), some (.int x3), some (.int x4), none]) (S' := [.int x1, .int (g 27 1), .ref 28]) (fun _ => rfl) ?_
            obtain ⟨o1, H⟩ := H
            refine m_is 6 rfl rfl rfl o1 ?_
            obtain ⟨g2, eg2⟩ : ∃ m : zG, m = (z_up2 g 28 (z_ix (g 27 1)) x1) := ⟨_, rfl⟩
            have H := H g2 eg2
            refine z_nmG eg2 ?_
            refine m_n 1 (pc' := 74) (L' := [some (.ref 27), some (.int x1), some (.int x2), some (.int x3), some (.int x4), none]) (S' := [.ref 27]) (fun _ => rfl) ?_
            refine m_gR (q := 29) rfl (by decide) ?_
            refine m_n 1 (pc' := 78) (L' := [some (.ref 27), some (.int x1), some (.int x2), some (.int x3), some (.int x4), none]) (S' := [.ref 27, .ref 29]) (fun _ => rfl) ?_
            refine m_gI rfl ?_
            refine m_n 1 (pc' := 82) (L' := [some (.ref 27), some (.int x1), some (.int x2), some (.int x3), some (.int x4), none]) (S' := [.int x2, .int (g2 27 1), .ref 29]) (fun _ => rfl) ?_
            obtain ⟨o3, H⟩ := H
            refine m_is 6 rfl rfl rfl o3 ?_
            obtain ⟨g4, eg4⟩ : ∃ m : zG, m = (z_up2 g2 29 (z_ix (g2 27 1)) x2) := ⟨_, rfl⟩
            have H := H g4 eg4
            refine z_nmG eg4 ?_
            refine m_n 1 (pc' := 84) (L' := [some (.ref 27), some (.int x1), some (.int x2), some (.int x3), some (.int x4), none]) (S' := [.ref 27]) (fun _ => rfl) ?_
            refine m_gR (q := 30) rfl (by decide) ?_
            refine m_n 1 (pc' := 88) (L' := [some (.ref 27), some (.int x1), some (.int x2), some (.int x3), some (.int x4), none]) (S' := [.ref 27, .ref 30]) (fun _ => rfl) ?_
            refine m_gI rfl ?_
            refine m_n 1 (pc' := 92) (L' := [some (.ref 27), some (.int x1), some (.int x2), some (.int x3), some (.int x4), none]) (S' := [.int x3, .int (g4 27 1), .ref 30]) (fun _ => rfl) ?_
            obtain ⟨o5, H⟩ := H
            refine m_is 6 rfl rfl rfl o5 ?_
            obtain ⟨g6, eg6⟩ : ∃ m : zG, m = (z_up2 g4 30 (z_ix (g4 27 1)) x3) := ⟨_, rfl⟩
            have H := H g6 eg6
            refine z_nmG eg6 ?_
            refine m_n 1 (pc' := 94) (L' := [some (.ref 27), some (.int x1), some (.int x2), some (.int x3), some (.int x4), none]) (S' := [.ref 27]) (fun _ => rfl) ?_
            refine m_gR (q := 31) rfl (by decide) ?_
            refine m_n 1 (pc' := 98) (L' := [some (.ref 27), some (.int x1), some (.int x2), some (.int x3), some (.int x4), none]) (S' := [.ref 27, .ref 31]) (fun _ => rfl) ?_
            refine m_gI rfl ?_
            refine m_n 1 (pc' := 103) (L' := [some (.ref 27), some (.int x1), some (.int x2), some (.int x3), some (.int x4), none]) (S' := [.int x4, .int (g6 27 1), .ref 31]) (fun _ => rfl) ?_
            obtain ⟨o7, H⟩ := H
            refine m_is 6 rfl rfl rfl o7 ?_
            obtain ⟨g8, eg8⟩ : ∃ m : zG, m = (z_up2 g6 31 (z_ix (g6 27 1)) x4) := ⟨_, rfl⟩
            have H := H g8 eg8
            refine z_nmG eg8 ?_
            refine m_n 2 (pc' := 107) (L' := [some (.ref 27), some (.int x1), some (.int x2), some (.int x3), some (.int x4), some (.int (0 : Int32))]) (S' := []) (fun _ => rfl) ?_
            exact H
set_option maxRecDepth 20000 in
theorem X_165_107 (y1 : Int32) (y2 : Int32) (y3 : Int32) (y4 : Int32) (y5 : Int32) (g : zG) {Q : Int32 → zG → Prop} (H : if (g 27 0) ≤ y5 then (∀ g9 : zG, g9 = (z_up2 g 27 1 ((g 27 1) + (1 : Int32))) → Q ((g9 27 1) - (1 : Int32)) g9) else ((0 ≤ (((60 : Int32) * (g 27 1)) + y5).toInt ∧ (((60 : Int32) * (g 27 1)) + y5).toInt < 360) ∧ (∀ g11 : zG, g11 = (z_up2 g 39 (z_ix (((60 : Int32) * (g 27 1)) + y5)) (-4 : Int32)) → MG z_pI 165 107 [some (.ref 27), some (.int y1), some (.int y2), some (.int y3), some (.int y4), some (.int (y5 + (1 : Int32)))] [] g11 Q))) : MG z_pI 165 107 [some (.ref 27), some (.int y1), some (.int y2), some (.int y3), some (.int y4), some (.int y5)] [] g Q := by
  refine m_n 2 (pc' := 110) (L' := [some (.ref 27), some (.int y1), some (.int y2), some (.int y3), some (.int y4), some (.int y5)]) (S' := [.ref 27, .int y5]) (fun _ => rfl) ?_
  refine m_gI rfl ?_
  refine m_b (c := (g 27 0) ≤ y5) (pc' := 139) (L' := [some (.ref 27), some (.int y1), some (.int y2), some (.int y3), some (.int y4), some (.int y5)]) (S' := []) (pc2 := 116) (L2 := [some (.ref 27), some (.int y1), some (.int y2), some (.int y3), some (.int y4), some (.int y5)]) (S2 := []) rfl (fun _ => rfl) (fun hc => ?_) (fun hc => ?_)
  · have hc := hc
    rw [if_pos hc] at H
    refine m_n 2 (pc' := 141) (L' := [some (.ref 27), some (.int y1), some (.int y2), some (.int y3), some (.int y4), some (.int y5)]) (S' := [.ref 27, .ref 27]) (fun _ => rfl) ?_
    refine m_gI rfl ?_
    refine m_n 2 (pc' := 146) (L' := [some (.ref 27), some (.int y1), some (.int y2), some (.int y3), some (.int y4), some (.int y5)]) (S' := [.int ((g 27 1) + (1 : Int32)), .ref 27]) (fun _ => rfl) ?_
    refine m_pI rfl ?_
    obtain ⟨g9, eg9⟩ : ∃ m : zG, m = (z_up2 g 27 1 ((g 27 1) + (1 : Int32))) := ⟨_, rfl⟩
    have H := H g9 eg9
    refine z_nmG eg9 ?_
    refine m_n 1 (pc' := 150) (L' := [some (.ref 27), some (.int y1), some (.int y2), some (.int y3), some (.int y4), some (.int y5)]) (S' := [.ref 27]) (fun _ => rfl) ?_
    refine m_gI rfl ?_
    refine m_n 2 (pc' := 155) (L' := [some (.ref 27), some (.int y1), some (.int y2), some (.int y3), some (.int y4), some (.int y5)]) (S' := [.int ((g9 27 1) - (1 : Int32))]) (fun _ => rfl) ?_
    exact m_r rfl rfl rfl H
  · have hc := hc
    rw [if_neg hc] at H
    refine m_n 1 (pc' := 117) (L' := [some (.ref 27), some (.int y1), some (.int y2), some (.int y3), some (.int y4), some (.int y5)]) (S' := [.ref 27]) (fun _ => rfl) ?_
    refine m_gR (q := 39) rfl (by decide) ?_
    refine m_n 2 (pc' := 123) (L' := [some (.ref 27), some (.int y1), some (.int y2), some (.int y3), some (.int y4), some (.int y5)]) (S' := [.ref 27, .int (60 : Int32), .ref 39]) (fun _ => rfl) ?_
    refine m_gI rfl ?_
    refine m_n 4 (pc' := 132) (L' := [some (.ref 27), some (.int y1), some (.int y2), some (.int y3), some (.int y4), some (.int y5)]) (S' := [.int (-4 : Int32), .int (((60 : Int32) * (g 27 1)) + y5), .ref 39]) (fun _ => rfl) ?_
    obtain ⟨o10, H⟩ := H
    refine m_is 360 rfl rfl rfl o10 ?_
    obtain ⟨g11, eg11⟩ : ∃ m : zG, m = (z_up2 g 39 (z_ix (((60 : Int32) * (g 27 1)) + y5)) (-4 : Int32)) := ⟨_, rfl⟩
    have H := H g11 eg11
    refine z_nmG eg11 ?_
    refine m_n 2 (pc' := 107) (L' := [some (.ref 27), some (.int y1), some (.int y2), some (.int y3), some (.int y4), some (.int (y5 + (1 : Int32)))]) (S' := []) (fun _ => rfl) ?_
    exact H
set_option maxRecDepth 20000 in
theorem X_166 (x1 : Int32) (x2 : Int32) (x3 : Int32) (g : zG) {Q : Int32 → zG → Prop} (H : if (0 : Int32) ≤ x1 ∧ x1 ≤ ((g 27 1) - (1 : Int32)) then (if (0 : Int32) ≤ x2 ∧ x2 ≤ (11 : Int32) then (if (0 : Int32) ≤ x3 ∧ x3 ≤ (999 : Int32) then ((0 ≤ (((12 : Int32) * x1) + x2).toInt ∧ (((12 : Int32) * x1) + x2).toInt < 72) ∧ (0 ≤ (((12 : Int32) * x1) + x2).toInt ∧ (((12 : Int32) * x1) + x2).toInt < 72) ∧ Q (g 32 (z_ix (((12 : Int32) * x1) + x2))) (z_up2 g 32 (z_ix (((12 : Int32) * x1) + x2)) x3)) else (Q (-1 : Int32) g)) else (Q (-1 : Int32) g)) else (Q (-1 : Int32) g)) : MK z_pI 166 [.ref 27, .int x1, .int x2, .int x3] g Q := by
  refine m_K (L := [some (.ref 27), some (.int x1), some (.int x2), some (.int x3), none]) rfl ?_
  refine m_n 2 (pc' := 2) (L' := [some (.ref 27), some (.int x1), some (.int x2), some (.int x3), none]) (S' := [.int x1, .ref 27]) (fun _ => rfl) ?_
  refine m_cI 163 2 rfl rfl rfl (A := [.ref 27, .int x1]) rfl rfl (Or.inr ⟨rfl, _, rfl⟩) (rest := []) rfl rfl rfl ?_
  refine X_163 x1 g ?_
  refine m_b (c := z_bt ((0 : Int32) ≤ x1 ∧ x1 ≤ ((g 27 1) - (1 : Int32))) = 0) (pc' := 32) (L' := [some (.ref 27), some (.int x1), some (.int x2), some (.int x3), none]) (S' := []) (pc2 := 8) (L2 := [some (.ref 27), some (.int x1), some (.int x2), some (.int x3), none]) (S2 := []) rfl (fun _ => rfl) (fun hc => ?_) (fun hc => ?_)
  · have hc := z_bt_0.mp hc
    rw [if_neg hc] at H
    refine m_n 1 (pc' := 33) (L' := [some (.ref 27), some (.int x1), some (.int x2), some (.int x3), none]) (S' := [.int (-1 : Int32)]) (fun _ => rfl) ?_
    exact m_r rfl rfl rfl H
  · have hc := Decidable.not_not.mp (fun q => hc (z_bt_0.mpr q))
    rw [if_pos hc] at H
    refine m_n 4 (pc' := 14) (L' := [some (.ref 27), some (.int x1), some (.int x2), some (.int x3), none]) (S' := [.long (11 : Int64), .long (0 : Int64), .long x2.toInt64]) (fun _ => rfl) ?_
    refine m_cI 161 3 rfl rfl rfl (A := [.long x2.toInt64, .long (0 : Int64), .long (11 : Int64)]) rfl rfl (Or.inl rfl) (rest := []) rfl rfl rfl ?_
    refine c_inJ x2 (0 : Int32) (11 : Int32) g rfl rfl rfl ?_
    refine m_b (c := z_bt ((0 : Int32) ≤ x2 ∧ x2 ≤ (11 : Int32)) = 0) (pc' := 32) (L' := [some (.ref 27), some (.int x1), some (.int x2), some (.int x3), none]) (S' := []) (pc2 := 20) (L2 := [some (.ref 27), some (.int x1), some (.int x2), some (.int x3), none]) (S2 := []) rfl (fun _ => rfl) (fun hc => ?_) (fun hc => ?_)
    · have hc := z_bt_0.mp hc
      rw [if_neg hc] at H
      refine m_n 1 (pc' := 33) (L' := [some (.ref 27), some (.int x1), some (.int x2), some (.int x3), none]) (S' := [.int (-1 : Int32)]) (fun _ => rfl) ?_
      exact m_r rfl rfl rfl H
    · have hc := Decidable.not_not.mp (fun q => hc (z_bt_0.mpr q))
      rw [if_pos hc] at H
      refine m_n 4 (pc' := 26) (L' := [some (.ref 27), some (.int x1), some (.int x2), some (.int x3), none]) (S' := [.long (999 : Int64), .long (0 : Int64), .long x3.toInt64]) (fun _ => rfl) ?_
      refine m_cI 161 3 rfl rfl rfl (A := [.long x3.toInt64, .long (0 : Int64), .long (999 : Int64)]) rfl rfl (Or.inl rfl) (rest := []) rfl rfl rfl ?_
      refine c_inJ x3 (0 : Int32) (999 : Int32) g rfl rfl rfl ?_
      refine m_b (c := z_bt ((0 : Int32) ≤ x3 ∧ x3 ≤ (999 : Int32)) = 0) (pc' := 32) (L' := [some (.ref 27), some (.int x1), some (.int x2), some (.int x3), none]) (S' := []) (pc2 := 34) (L2 := [some (.ref 27), some (.int x1), some (.int x2), some (.int x3), none]) (S2 := []) rfl (fun _ => rfl) (fun hc => ?_) (fun hc => ?_)
      · have hc := z_bt_0.mp hc
        rw [if_neg hc] at H
        refine m_n 1 (pc' := 33) (L' := [some (.ref 27), some (.int x1), some (.int x2), some (.int x3), none]) (S' := [.int (-1 : Int32)]) (fun _ => rfl) ?_
        exact m_r rfl rfl rfl H
      · have hc := Decidable.not_not.mp (fun q => hc (z_bt_0.mpr q))
        rw [if_pos hc] at H
        refine m_n 1 (pc' := 35) (L' := [some (.ref 27), some (.int x1), some (.int x2), some (.int x3), none]) (S' := [.ref 27]) (fun _ => rfl) ?_
        refine m_gR (q := 32) rfl (by decide) ?_
        refine m_n 5 (pc' := 44) (L' := [some (.ref 27), some (.int x1), some (.int x2), some (.int x3), none]) (S' := [.int (((12 : Int32) * x1) + x2), .ref 32]) (fun _ => rfl) ?_
        obtain ⟨o1, H⟩ := H
        refine m_ia 72 rfl rfl o1 ?_
        refine m_n 2 (pc' := 48) (L' := [some (.ref 27), some (.int x1), some (.int x2), some (.int x3), some (.int (g 32 (z_ix (((12 : Int32) * x1) + x2))))]) (S' := [.ref 27]) (fun _ => rfl) ?_
        refine m_gR (q := 32) rfl (by decide) ?_
        refine m_n 6 (pc' := 58) (L' := [some (.ref 27), some (.int x1), some (.int x2), some (.int x3), some (.int (g 32 (z_ix (((12 : Int32) * x1) + x2))))]) (S' := [.int x3, .int (((12 : Int32) * x1) + x2), .ref 32]) (fun _ => rfl) ?_
        obtain ⟨o2, H⟩ := H
        refine m_is 72 rfl rfl rfl o2 ?_
        refine m_n 1 (pc' := 61) (L' := [some (.ref 27), some (.int x1), some (.int x2), some (.int x3), some (.int (g 32 (z_ix (((12 : Int32) * x1) + x2))))]) (S' := [.int (g 32 (z_ix (((12 : Int32) * x1) + x2)))]) (fun _ => rfl) ?_
        exact m_r rfl rfl rfl H
set_option maxRecDepth 20000 in
theorem X_167 (x1 : Int32) (x2 : Int32) (x3 : Int32) (g : zG) {Q : Int32 → zG → Prop} (H : if (0 : Int32) ≤ x1 ∧ x1 ≤ ((g 27 1) - (1 : Int32)) then (if (0 : Int32) ≤ x2 ∧ x2 ≤ (1 : Int32) then (∀ m2 : Int64, m2 = (if x2 = 0 then (300 : Int64) else (99 : Int64)) → if (1 : Int64) ≤ x3.toInt64 ∧ x3.toInt64 ≤ m2 then (((x2 = 0) → 0 ≤ x1.toInt ∧ x1.toInt < 6) ∧ (¬ (x2 = 0) → 0 ≤ x1.toInt ∧ x1.toInt < 6) ∧ (∀ m7 : Int32, m7 = (if x2 = 0 then (g 30 (z_ix x1)) else (g 31 (z_ix x1))) → if x2 = 0 then ((0 ≤ x1.toInt ∧ x1.toInt < 6) ∧ Q m7 (z_up2 g 30 (z_ix x1) x3)) else ((0 ≤ x1.toInt ∧ x1.toInt < 6) ∧ Q m7 (z_up2 g 31 (z_ix x1) x3)))) else (Q (-1 : Int32) g)) else (Q (-1 : Int32) g)) else (Q (-1 : Int32) g)) : MK z_pI 167 [.ref 27, .int x1, .int x2, .int x3] g Q := by
  refine m_K (L := [some (.ref 27), some (.int x1), some (.int x2), some (.int x3), none]) rfl ?_
  refine m_n 2 (pc' := 2) (L' := [some (.ref 27), some (.int x1), some (.int x2), some (.int x3), none]) (S' := [.int x1, .ref 27]) (fun _ => rfl) ?_
  refine m_cI 163 2 rfl rfl rfl (A := [.ref 27, .int x1]) rfl rfl (Or.inr ⟨rfl, _, rfl⟩) (rest := []) rfl rfl rfl ?_
  refine X_163 x1 g ?_
  refine m_b (c := z_bt ((0 : Int32) ≤ x1 ∧ x1 ≤ ((g 27 1) - (1 : Int32))) = 0) (pc' := 40) (L' := [some (.ref 27), some (.int x1), some (.int x2), some (.int x3), none]) (S' := []) (pc2 := 8) (L2 := [some (.ref 27), some (.int x1), some (.int x2), some (.int x3), none]) (S2 := []) rfl (fun _ => rfl) (fun hc => ?_) (fun hc => ?_)
  · have hc := z_bt_0.mp hc
    rw [if_neg hc] at H
    refine m_n 1 (pc' := 41) (L' := [some (.ref 27), some (.int x1), some (.int x2), some (.int x3), none]) (S' := [.int (-1 : Int32)]) (fun _ => rfl) ?_
    exact m_r rfl rfl rfl H
  · have hc := Decidable.not_not.mp (fun q => hc (z_bt_0.mpr q))
    rw [if_pos hc] at H
    refine m_n 4 (pc' := 12) (L' := [some (.ref 27), some (.int x1), some (.int x2), some (.int x3), none]) (S' := [.long (1 : Int64), .long (0 : Int64), .long x2.toInt64]) (fun _ => rfl) ?_
    refine m_cI 161 3 rfl rfl rfl (A := [.long x2.toInt64, .long (0 : Int64), .long (1 : Int64)]) rfl rfl (Or.inl rfl) (rest := []) rfl rfl rfl ?_
    refine c_inJ x2 (0 : Int32) (1 : Int32) g rfl rfl rfl ?_
    refine m_b (c := z_bt ((0 : Int32) ≤ x2 ∧ x2 ≤ (1 : Int32)) = 0) (pc' := 40) (L' := [some (.ref 27), some (.int x1), some (.int x2), some (.int x3), none]) (S' := []) (pc2 := 18) (L2 := [some (.ref 27), some (.int x1), some (.int x2), some (.int x3), none]) (S2 := []) rfl (fun _ => rfl) (fun hc => ?_) (fun hc => ?_)
    · have hc := z_bt_0.mp hc
      rw [if_neg hc] at H
      refine m_n 1 (pc' := 41) (L' := [some (.ref 27), some (.int x1), some (.int x2), some (.int x3), none]) (S' := [.int (-1 : Int32)]) (fun _ => rfl) ?_
      exact m_r rfl rfl rfl H
    · have hc := Decidable.not_not.mp (fun q => hc (z_bt_0.mpr q))
      rw [if_pos hc] at H
      refine m_n 4 (pc' := 22) (L' := [some (.ref 27), some (.int x1), some (.int x2), some (.int x3), none]) (S' := [.int x2, .long (1 : Int64), .long x3.toInt64]) (fun _ => rfl) ?_
      obtain ⟨m2, em2⟩ : ∃ m : Int64, m = (if x2 = 0 then (300 : Int64) else (99 : Int64)) := ⟨_, rfl⟩
      have H := H m2 em2
      have hj3 : MG z_pI 167 34 [some (.ref 27), some (.int x1), some (.int x2), some (.int x3), none] [.long m2, .long (1 : Int64), .long x3.toInt64] g Q := by
        refine m_cI 161 3 rfl rfl rfl (A := [.long x3.toInt64, .long (1 : Int64), .long m2]) rfl rfl (Or.inl rfl) (rest := []) rfl rfl rfl ?_
        refine c_in x3.toInt64 (1 : Int64) m2 g ?_
        refine m_b (c := z_bt ((1 : Int64) ≤ x3.toInt64 ∧ x3.toInt64 ≤ m2) = 0) (pc' := 40) (L' := [some (.ref 27), some (.int x1), some (.int x2), some (.int x3), none]) (S' := []) (pc2 := 42) (L2 := [some (.ref 27), some (.int x1), some (.int x2), some (.int x3), none]) (S2 := []) rfl (fun _ => rfl) (fun hc => ?_) (fun hc => ?_)
        · have hc := z_bt_0.mp hc
          rw [if_neg hc] at H
          refine m_n 1 (pc' := 41) (L' := [some (.ref 27), some (.int x1), some (.int x2), some (.int x3), none]) (S' := [.int (-1 : Int32)]) (fun _ => rfl) ?_
          exact m_r rfl rfl rfl H
        · have hc := Decidable.not_not.mp (fun q => hc (z_bt_0.mpr q))
          rw [if_pos hc] at H
          refine m_n 1 (pc' := 43) (L' := [some (.ref 27), some (.int x1), some (.int x2), some (.int x3), none]) (S' := [.int x2]) (fun _ => rfl) ?_
          obtain ⟨o5, H⟩ := H
          obtain ⟨o6, H⟩ := H
          obtain ⟨m7, em7⟩ : ∃ m : Int32, m = (if x2 = 0 then (g 30 (z_ix x1)) else (g 31 (z_ix x1))) := ⟨_, rfl⟩
          have H := H m7 em7
          have hj8 : MG z_pI 167 61 [some (.ref 27), some (.int x1), some (.int x2), some (.int x3), none] [.int m7] g Q := by
            refine m_n 2 (pc' := 64) (L' := [some (.ref 27), some (.int x1), some (.int x2), some (.int x3), some (.int m7)]) (S' := [.int x2]) (fun _ => rfl) ?_
            refine m_b (c := x2 = 0) (pc' := 67) (L' := [some (.ref 27), some (.int x1), some (.int x2), some (.int x3), some (.int m7)]) (S' := []) (pc2 := 77) (L2 := [some (.ref 27), some (.int x1), some (.int x2), some (.int x3), some (.int m7)]) (S2 := []) rfl (fun _ => rfl) (fun hc => ?_) (fun hc => ?_)
            · have hc := hc
              rw [if_pos hc] at H
              refine m_n 1 (pc' := 68) (L' := [some (.ref 27), some (.int x1), some (.int x2), some (.int x3), some (.int m7)]) (S' := [.ref 27]) (fun _ => rfl) ?_
              refine m_gR (q := 30) rfl (by decide) ?_
              refine m_n 2 (pc' := 73) (L' := [some (.ref 27), some (.int x1), some (.int x2), some (.int x3), some (.int m7)]) (S' := [.int x3, .int x1, .ref 30]) (fun _ => rfl) ?_
              obtain ⟨o9, H⟩ := H
              refine m_is 6 rfl rfl rfl o9 ?_
              refine m_n 2 (pc' := 86) (L' := [some (.ref 27), some (.int x1), some (.int x2), some (.int x3), some (.int m7)]) (S' := [.int m7]) (fun _ => rfl) ?_
              exact m_r rfl rfl rfl H
            · have hc := hc
              rw [if_neg hc] at H
              refine m_n 1 (pc' := 78) (L' := [some (.ref 27), some (.int x1), some (.int x2), some (.int x3), some (.int m7)]) (S' := [.ref 27]) (fun _ => rfl) ?_
              refine m_gR (q := 31) rfl (by decide) ?_
              refine m_n 2 (pc' := 83) (L' := [some (.ref 27), some (.int x1), some (.int x2), some (.int x3), some (.int m7)]) (S' := [.int x3, .int x1, .ref 31]) (fun _ => rfl) ?_
              obtain ⟨o10, H⟩ := H
              refine m_is 6 rfl rfl rfl o10 ?_
              refine m_n 1 (pc' := 86) (L' := [some (.ref 27), some (.int x1), some (.int x2), some (.int x3), some (.int m7)]) (S' := [.int m7]) (fun _ => rfl) ?_
              exact m_r rfl rfl rfl H
          refine m_b (c := x2 = 0) (pc' := 46) (L' := [some (.ref 27), some (.int x1), some (.int x2), some (.int x3), none]) (S' := []) (pc2 := 55) (L2 := [some (.ref 27), some (.int x1), some (.int x2), some (.int x3), none]) (S2 := []) rfl (fun _ => rfl) (fun hc => ?_) (fun hc => ?_)
          · have c4 := hc
            refine m_n 1 (pc' := 47) (L' := [some (.ref 27), some (.int x1), some (.int x2), some (.int x3), none]) (S' := [.ref 27]) (fun _ => rfl) ?_
            refine m_gR (q := 30) rfl (by decide) ?_
            refine m_n 1 (pc' := 51) (L' := [some (.ref 27), some (.int x1), some (.int x2), some (.int x3), none]) (S' := [.int x1, .ref 30]) (fun _ => rfl) ?_
            refine m_ia 6 rfl rfl (o5 c4) ?_
            refine m_n 1 (pc' := 61) (L' := [some (.ref 27), some (.int x1), some (.int x2), some (.int x3), none]) (S' := [.int (g 30 (z_ix x1))]) (fun _ => rfl) ?_
            rw [(em7.trans (by rw [if_pos c4]) : m7 = (g 30 (z_ix x1)))] at hj8
            exact hj8
          · have c4 := hc
            refine m_n 1 (pc' := 56) (L' := [some (.ref 27), some (.int x1), some (.int x2), some (.int x3), none]) (S' := [.ref 27]) (fun _ => rfl) ?_
            refine m_gR (q := 31) rfl (by decide) ?_
            refine m_n 1 (pc' := 60) (L' := [some (.ref 27), some (.int x1), some (.int x2), some (.int x3), none]) (S' := [.int x1, .ref 31]) (fun _ => rfl) ?_
            refine m_ia 6 rfl rfl (o6 c4) ?_
            rw [(em7.trans (by rw [if_neg c4]) : m7 = (g 31 (z_ix x1)))] at hj8
            exact hj8
      refine m_b (c := x2 = 0) (pc' := 25) (L' := [some (.ref 27), some (.int x1), some (.int x2), some (.int x3), none]) (S' := [.long (1 : Int64), .long x3.toInt64]) (pc2 := 31) (L2 := [some (.ref 27), some (.int x1), some (.int x2), some (.int x3), none]) (S2 := [.long (1 : Int64), .long x3.toInt64]) rfl (fun _ => rfl) (fun hc => ?_) (fun hc => ?_)
      · have c1 := hc
        refine m_n 2 (pc' := 34) (L' := [some (.ref 27), some (.int x1), some (.int x2), some (.int x3), none]) (S' := [.long (300 : Int64), .long (1 : Int64), .long x3.toInt64]) (fun _ => rfl) ?_
        rw [(em2.trans (by rw [if_pos c1]) : m2 = (300 : Int64))] at hj3
        exact hj3
      · have c1 := hc
        refine m_n 1 (pc' := 34) (L' := [some (.ref 27), some (.int x1), some (.int x2), some (.int x3), none]) (S' := [.long (99 : Int64), .long (1 : Int64), .long x3.toInt64]) (fun _ => rfl) ?_
        rw [(em2.trans (by rw [if_neg c1]) : m2 = (99 : Int64))] at hj3
        exact hj3
set_option maxRecDepth 20000 in
theorem X_168 (x1 : Int32) (x2 : Int32) (x3 : Int32) (x4 : Int32) (x5 : Int32) (x6 : Int32) (g : zG) {Q : Int32 → zG → Prop} (H : if (0 : Int32) ≤ x1 ∧ x1 ≤ ((g 27 1) - (1 : Int32)) then (if (0 : Int32) ≤ x2 ∧ x2 ≤ (2 : Int32) then (if (1 : Int32) ≤ x3 ∧ x3 ≤ (99 : Int32) then (if (1 : Int32) ≤ x4 ∧ x4 ≤ (9999 : Int32) then (if (1 : Int32) ≤ x5 ∧ x5 ≤ (9999 : Int32) then (if (0 : Int32) ≤ x6 ∧ x6 ≤ (255 : Int32) then (if (g 27 20) = (12 : Int32) then (Q (-3 : Int32) g) else ((0 ≤ (g 27 20).toInt ∧ (g 27 20).toInt < 12) ∧ (∀ g2 : zG, g2 = (z_up2 g 46 (z_ix (g 27 20)) x1) → (0 ≤ (g 27 20).toInt ∧ (g 27 20).toInt < 12) ∧ (∀ g4 : zG, g4 = (z_up2 g2 47 (z_ix (g 27 20)) x2) → (0 ≤ (g 27 20).toInt ∧ (g 27 20).toInt < 12) ∧ (∀ g6 : zG, g6 = (z_up2 g4 48 (z_ix (g 27 20)) x3) → (0 ≤ (g 27 20).toInt ∧ (g 27 20).toInt < 12) ∧ (∀ g8 : zG, g8 = (z_up2 g6 49 (z_ix (g 27 20)) x4) → (0 ≤ (g 27 20).toInt ∧ (g 27 20).toInt < 12) ∧ (∀ g10 : zG, g10 = (z_up2 g8 50 (z_ix (g 27 20)) x5) → (0 ≤ (g 27 20).toInt ∧ (g 27 20).toInt < 12) ∧ (∀ g12 : zG, g12 = (z_up2 g10 51 (z_ix (g 27 20)) x6) → (0 ≤ (g 27 20).toInt ∧ (g 27 20).toInt < 12) ∧ (∀ g14 : zG, g14 = (z_up2 g12 58 (z_ix (g 27 20)) (g12 27 0)) → ∀ g15 : zG, g15 = (z_up2 g14 27 20 ((g14 27 20) + (1 : Int32))) → Q (g 27 20) g15))))))))) else (Q (-1 : Int32) g)) else (Q (-1 : Int32) g)) else (Q (-1 : Int32) g)) else (Q (-1 : Int32) g)) else (Q (-1 : Int32) g)) else (Q (-1 : Int32) g)) : MK z_pI 168 [.ref 27, .int x1, .int x2, .int x3, .int x4, .int x5, .int x6] g Q := by
  refine m_K (L := [some (.ref 27), some (.int x1), some (.int x2), some (.int x3), some (.int x4), some (.int x5), some (.int x6), none]) rfl ?_
  refine m_n 2 (pc' := 2) (L' := [some (.ref 27), some (.int x1), some (.int x2), some (.int x3), some (.int x4), some (.int x5), some (.int x6), none]) (S' := [.int x1, .ref 27]) (fun _ => rfl) ?_
  refine m_cI 163 2 rfl rfl rfl (A := [.ref 27, .int x1]) rfl rfl (Or.inr ⟨rfl, _, rfl⟩) (rest := []) rfl rfl rfl ?_
  refine X_163 x1 g ?_
  refine m_b (c := z_bt ((0 : Int32) ≤ x1 ∧ x1 ≤ ((g 27 1) - (1 : Int32))) = 0) (pc' := 71) (L' := [some (.ref 27), some (.int x1), some (.int x2), some (.int x3), some (.int x4), some (.int x5), some (.int x6), none]) (S' := []) (pc2 := 8) (L2 := [some (.ref 27), some (.int x1), some (.int x2), some (.int x3), some (.int x4), some (.int x5), some (.int x6), none]) (S2 := []) rfl (fun _ => rfl) (fun hc => ?_) (fun hc => ?_)
  · have hc := z_bt_0.mp hc
    rw [if_neg hc] at H
    refine m_n 1 (pc' := 72) (L' := [some (.ref 27), some (.int x1), some (.int x2), some (.int x3), some (.int x4), some (.int x5), some (.int x6), none]) (S' := [.int (-1 : Int32)]) (fun _ => rfl) ?_
    exact m_r rfl rfl rfl H
  · have hc := Decidable.not_not.mp (fun q => hc (z_bt_0.mpr q))
    rw [if_pos hc] at H
    refine m_n 4 (pc' := 14) (L' := [some (.ref 27), some (.int x1), some (.int x2), some (.int x3), some (.int x4), some (.int x5), some (.int x6), none]) (S' := [.long (2 : Int64), .long (0 : Int64), .long x2.toInt64]) (fun _ => rfl) ?_
    refine m_cI 161 3 rfl rfl rfl (A := [.long x2.toInt64, .long (0 : Int64), .long (2 : Int64)]) rfl rfl (Or.inl rfl) (rest := []) rfl rfl rfl ?_
    refine c_inJ x2 (0 : Int32) (2 : Int32) g rfl rfl rfl ?_
    refine m_b (c := z_bt ((0 : Int32) ≤ x2 ∧ x2 ≤ (2 : Int32)) = 0) (pc' := 71) (L' := [some (.ref 27), some (.int x1), some (.int x2), some (.int x3), some (.int x4), some (.int x5), some (.int x6), none]) (S' := []) (pc2 := 20) (L2 := [some (.ref 27), some (.int x1), some (.int x2), some (.int x3), some (.int x4), some (.int x5), some (.int x6), none]) (S2 := []) rfl (fun _ => rfl) (fun hc => ?_) (fun hc => ?_)
    · have hc := z_bt_0.mp hc
      rw [if_neg hc] at H
      refine m_n 1 (pc' := 72) (L' := [some (.ref 27), some (.int x1), some (.int x2), some (.int x3), some (.int x4), some (.int x5), some (.int x6), none]) (S' := [.int (-1 : Int32)]) (fun _ => rfl) ?_
      exact m_r rfl rfl rfl H
    · have hc := Decidable.not_not.mp (fun q => hc (z_bt_0.mpr q))
      rw [if_pos hc] at H
      refine m_n 4 (pc' := 26) (L' := [some (.ref 27), some (.int x1), some (.int x2), some (.int x3), some (.int x4), some (.int x5), some (.int x6), none]) (S' := [.long (99 : Int64), .long (1 : Int64), .long x3.toInt64]) (fun _ => rfl) ?_
      refine m_cI 161 3 rfl rfl rfl (A := [.long x3.toInt64, .long (1 : Int64), .long (99 : Int64)]) rfl rfl (Or.inl rfl) (rest := []) rfl rfl rfl ?_
      refine c_inJ x3 (1 : Int32) (99 : Int32) g rfl rfl rfl ?_
      refine m_b (c := z_bt ((1 : Int32) ≤ x3 ∧ x3 ≤ (99 : Int32)) = 0) (pc' := 71) (L' := [some (.ref 27), some (.int x1), some (.int x2), some (.int x3), some (.int x4), some (.int x5), some (.int x6), none]) (S' := []) (pc2 := 32) (L2 := [some (.ref 27), some (.int x1), some (.int x2), some (.int x3), some (.int x4), some (.int x5), some (.int x6), none]) (S2 := []) rfl (fun _ => rfl) (fun hc => ?_) (fun hc => ?_)
      · have hc := z_bt_0.mp hc
        rw [if_neg hc] at H
        refine m_n 1 (pc' := 72) (L' := [some (.ref 27), some (.int x1), some (.int x2), some (.int x3), some (.int x4), some (.int x5), some (.int x6), none]) (S' := [.int (-1 : Int32)]) (fun _ => rfl) ?_
        exact m_r rfl rfl rfl H
      · have hc := Decidable.not_not.mp (fun q => hc (z_bt_0.mpr q))
        rw [if_pos hc] at H
        refine m_n 4 (pc' := 39) (L' := [some (.ref 27), some (.int x1), some (.int x2), some (.int x3), some (.int x4), some (.int x5), some (.int x6), none]) (S' := [.long (9999 : Int64), .long (1 : Int64), .long x4.toInt64]) (fun _ => rfl) ?_
        refine m_cI 161 3 rfl rfl rfl (A := [.long x4.toInt64, .long (1 : Int64), .long (9999 : Int64)]) rfl rfl (Or.inl rfl) (rest := []) rfl rfl rfl ?_
        refine c_inJ x4 (1 : Int32) (9999 : Int32) g rfl rfl rfl ?_
        refine m_b (c := z_bt ((1 : Int32) ≤ x4 ∧ x4 ≤ (9999 : Int32)) = 0) (pc' := 71) (L' := [some (.ref 27), some (.int x1), some (.int x2), some (.int x3), some (.int x4), some (.int x5), some (.int x6), none]) (S' := []) (pc2 := 45) (L2 := [some (.ref 27), some (.int x1), some (.int x2), some (.int x3), some (.int x4), some (.int x5), some (.int x6), none]) (S2 := []) rfl (fun _ => rfl) (fun hc => ?_) (fun hc => ?_)
        · have hc := z_bt_0.mp hc
          rw [if_neg hc] at H
          refine m_n 1 (pc' := 72) (L' := [some (.ref 27), some (.int x1), some (.int x2), some (.int x3), some (.int x4), some (.int x5), some (.int x6), none]) (S' := [.int (-1 : Int32)]) (fun _ => rfl) ?_
          exact m_r rfl rfl rfl H
        · have hc := Decidable.not_not.mp (fun q => hc (z_bt_0.mpr q))
          rw [if_pos hc] at H
          refine m_n 4 (pc' := 52) (L' := [some (.ref 27), some (.int x1), some (.int x2), some (.int x3), some (.int x4), some (.int x5), some (.int x6), none]) (S' := [.long (9999 : Int64), .long (1 : Int64), .long x5.toInt64]) (fun _ => rfl) ?_
          refine m_cI 161 3 rfl rfl rfl (A := [.long x5.toInt64, .long (1 : Int64), .long (9999 : Int64)]) rfl rfl (Or.inl rfl) (rest := []) rfl rfl rfl ?_
          refine c_inJ x5 (1 : Int32) (9999 : Int32) g rfl rfl rfl ?_
          refine m_b (c := z_bt ((1 : Int32) ≤ x5 ∧ x5 ≤ (9999 : Int32)) = 0) (pc' := 71) (L' := [some (.ref 27), some (.int x1), some (.int x2), some (.int x3), some (.int x4), some (.int x5), some (.int x6), none]) (S' := []) (pc2 := 58) (L2 := [some (.ref 27), some (.int x1), some (.int x2), some (.int x3), some (.int x4), some (.int x5), some (.int x6), none]) (S2 := []) rfl (fun _ => rfl) (fun hc => ?_) (fun hc => ?_)
          · have hc := z_bt_0.mp hc
            rw [if_neg hc] at H
            refine m_n 1 (pc' := 72) (L' := [some (.ref 27), some (.int x1), some (.int x2), some (.int x3), some (.int x4), some (.int x5), some (.int x6), none]) (S' := [.int (-1 : Int32)]) (fun _ => rfl) ?_
            exact m_r rfl rfl rfl H
          · have hc := Decidable.not_not.mp (fun q => hc (z_bt_0.mpr q))
            rw [if_pos hc] at H
            refine m_n 4 (pc' := 65) (L' := [some (.ref 27), some (.int x1), some (.int x2), some (.int x3), some (.int x4), some (.int x5), some (.int x6), none]) (S' := [.long (255 : Int64), .long (0 : Int64), .long x6.toInt64]) (fun _ => rfl) ?_
            refine m_cI 161 3 rfl rfl rfl (A := [.long x6.toInt64, .long (0 : Int64), .long (255 : Int64)]) rfl rfl (Or.inl rfl) (rest := []) rfl rfl rfl ?_
            refine c_inJ x6 (0 : Int32) (255 : Int32) g rfl rfl rfl ?_
            refine m_b (c := z_bt ((0 : Int32) ≤ x6 ∧ x6 ≤ (255 : Int32)) = 0) (pc' := 71) (L' := [some (.ref 27), some (.int x1), some (.int x2), some (.int x3), some (.int x4), some (.int x5), some (.int x6), none]) (S' := []) (pc2 := 73) (L2 := [some (.ref 27), some (.int x1), some (.int x2), some (.int x3), some (.int x4), some (.int x5), some (.int x6), none]) (S2 := []) rfl (fun _ => rfl) (fun hc => ?_) (fun hc => ?_)
            · have hc := z_bt_0.mp hc
              rw [if_neg hc] at H
              refine m_n 1 (pc' := 72) (L' := [some (.ref 27), some (.int x1), some (.int x2), some (.int x3), some (.int x4), some (.int x5), some (.int x6), none]) (S' := [.int (-1 : Int32)]) (fun _ => rfl) ?_
              exact m_r rfl rfl rfl H
            · have hc := Decidable.not_not.mp (fun q => hc (z_bt_0.mpr q))
              rw [if_pos hc] at H
              refine m_n 1 (pc' := 74) (L' := [some (.ref 27), some (.int x1), some (.int x2), some (.int x3), some (.int x4), some (.int x5), some (.int x6), none]) (S' := [.ref 27]) (fun _ => rfl) ?_
              refine m_gI rfl ?_
              refine m_n 1 (pc' := 79) (L' := [some (.ref 27), some (.int x1), some (.int x2), some (.int x3), some (.int x4), some (.int x5), some (.int x6), none]) (S' := [.int (12 : Int32), .int (g 27 20)]) (fun _ => rfl) ?_
              refine m_b (c := (g 27 20) = (12 : Int32)) (pc' := 82) (L' := [some (.ref 27), some (.int x1), some (.int x2), some (.int x3), some (.int x4), some (.int x5), some (.int x6), none]) (S' := []) (pc2 := 85) (L2 := [some (.ref 27), some (.int x1), some (.int x2), some (.int x3), some (.int x4), some (.int x5), some (.int x6), none]) (S2 := []) rfl (fun _ => rfl) (fun hc => ?_) (fun hc => ?_)
              · have hc := hc
                rw [if_pos hc] at H
                refine m_n 1 (pc' := 84) (L' := [some (.ref 27), some (.int x1), some (.int x2), some (.int x3), some (.int x4), some (.int x5), some (.int x6), none]) (S' := [.int (-3 : Int32)]) (fun _ => rfl) ?_
                exact m_r rfl rfl rfl H
              · have hc := hc
                rw [if_neg hc] at H
                refine m_n 1 (pc' := 86) (L' := [some (.ref 27), some (.int x1), some (.int x2), some (.int x3), some (.int x4), some (.int x5), some (.int x6), none]) (S' := [.ref 27]) (fun _ => rfl) ?_
                refine m_gI rfl ?_
                refine m_n 2 (pc' := 92) (L' := [some (.ref 27), some (.int x1), some (.int x2), some (.int x3), some (.int x4), some (.int x5), some (.int x6), some (.int (g 27 20))]) (S' := [.ref 27]) (fun _ => rfl) ?_
                refine m_gR (q := 46) rfl (by decide) ?_
                refine m_n 2 (pc' := 98) (L' := [some (.ref 27), some (.int x1), some (.int x2), some (.int x3), some (.int x4), some (.int x5), some (.int x6), some (.int (g 27 20))]) (S' := [.int x1, .int (g 27 20), .ref 46]) (fun _ => rfl) ?_
                obtain ⟨o1, H⟩ := H
                refine m_is 12 rfl rfl rfl o1 ?_
                obtain ⟨g2, eg2⟩ : ∃ m : zG, m = (z_up2 g 46 (z_ix (g 27 20)) x1) := ⟨_, rfl⟩
                have H := H g2 eg2
                refine z_nmG eg2 ?_
                refine m_n 1 (pc' := 100) (L' := [some (.ref 27), some (.int x1), some (.int x2), some (.int x3), some (.int x4), some (.int x5), some (.int x6), some (.int (g 27 20))]) (S' := [.ref 27]) (fun _ => rfl) ?_
                refine m_gR (q := 47) rfl (by decide) ?_
                refine m_n 2 (pc' := 106) (L' := [some (.ref 27), some (.int x1), some (.int x2), some (.int x3), some (.int x4), some (.int x5), some (.int x6), some (.int (g 27 20))]) (S' := [.int x2, .int (g 27 20), .ref 47]) (fun _ => rfl) ?_
                obtain ⟨o3, H⟩ := H
                refine m_is 12 rfl rfl rfl o3 ?_
                obtain ⟨g4, eg4⟩ : ∃ m : zG, m = (z_up2 g2 47 (z_ix (g 27 20)) x2) := ⟨_, rfl⟩
                have H := H g4 eg4
                refine z_nmG eg4 ?_
                refine m_n 1 (pc' := 108) (L' := [some (.ref 27), some (.int x1), some (.int x2), some (.int x3), some (.int x4), some (.int x5), some (.int x6), some (.int (g 27 20))]) (S' := [.ref 27]) (fun _ => rfl) ?_
                refine m_gR (q := 48) rfl (by decide) ?_
                refine m_n 2 (pc' := 114) (L' := [some (.ref 27), some (.int x1), some (.int x2), some (.int x3), some (.int x4), some (.int x5), some (.int x6), some (.int (g 27 20))]) (S' := [.int x3, .int (g 27 20), .ref 48]) (fun _ => rfl) ?_
                obtain ⟨o5, H⟩ := H
                refine m_is 12 rfl rfl rfl o5 ?_
                obtain ⟨g6, eg6⟩ : ∃ m : zG, m = (z_up2 g4 48 (z_ix (g 27 20)) x3) := ⟨_, rfl⟩
                have H := H g6 eg6
                refine z_nmG eg6 ?_
                refine m_n 1 (pc' := 116) (L' := [some (.ref 27), some (.int x1), some (.int x2), some (.int x3), some (.int x4), some (.int x5), some (.int x6), some (.int (g 27 20))]) (S' := [.ref 27]) (fun _ => rfl) ?_
                refine m_gR (q := 49) rfl (by decide) ?_
                refine m_n 2 (pc' := 123) (L' := [some (.ref 27), some (.int x1), some (.int x2), some (.int x3), some (.int x4), some (.int x5), some (.int x6), some (.int (g 27 20))]) (S' := [.int x4, .int (g 27 20), .ref 49]) (fun _ => rfl) ?_
                obtain ⟨o7, H⟩ := H
                refine m_is 12 rfl rfl rfl o7 ?_
                obtain ⟨g8, eg8⟩ : ∃ m : zG, m = (z_up2 g6 49 (z_ix (g 27 20)) x4) := ⟨_, rfl⟩
                have H := H g8 eg8
                refine z_nmG eg8 ?_
                refine m_n 1 (pc' := 125) (L' := [some (.ref 27), some (.int x1), some (.int x2), some (.int x3), some (.int x4), some (.int x5), some (.int x6), some (.int (g 27 20))]) (S' := [.ref 27]) (fun _ => rfl) ?_
                refine m_gR (q := 50) rfl (by decide) ?_
                refine m_n 2 (pc' := 132) (L' := [some (.ref 27), some (.int x1), some (.int x2), some (.int x3), some (.int x4), some (.int x5), some (.int x6), some (.int (g 27 20))]) (S' := [.int x5, .int (g 27 20), .ref 50]) (fun _ => rfl) ?_
                obtain ⟨o9, H⟩ := H
                refine m_is 12 rfl rfl rfl o9 ?_
                obtain ⟨g10, eg10⟩ : ∃ m : zG, m = (z_up2 g8 50 (z_ix (g 27 20)) x5) := ⟨_, rfl⟩
                have H := H g10 eg10
                refine z_nmG eg10 ?_
                refine m_n 1 (pc' := 134) (L' := [some (.ref 27), some (.int x1), some (.int x2), some (.int x3), some (.int x4), some (.int x5), some (.int x6), some (.int (g 27 20))]) (S' := [.ref 27]) (fun _ => rfl) ?_
                refine m_gR (q := 51) rfl (by decide) ?_
                refine m_n 2 (pc' := 141) (L' := [some (.ref 27), some (.int x1), some (.int x2), some (.int x3), some (.int x4), some (.int x5), some (.int x6), some (.int (g 27 20))]) (S' := [.int x6, .int (g 27 20), .ref 51]) (fun _ => rfl) ?_
                obtain ⟨o11, H⟩ := H
                refine m_is 12 rfl rfl rfl o11 ?_
                obtain ⟨g12, eg12⟩ : ∃ m : zG, m = (z_up2 g10 51 (z_ix (g 27 20)) x6) := ⟨_, rfl⟩
                have H := H g12 eg12
                refine z_nmG eg12 ?_
                refine m_n 1 (pc' := 143) (L' := [some (.ref 27), some (.int x1), some (.int x2), some (.int x3), some (.int x4), some (.int x5), some (.int x6), some (.int (g 27 20))]) (S' := [.ref 27]) (fun _ => rfl) ?_
                refine m_gR (q := 58) rfl (by decide) ?_
                refine m_n 2 (pc' := 149) (L' := [some (.ref 27), some (.int x1), some (.int x2), some (.int x3), some (.int x4), some (.int x5), some (.int x6), some (.int (g 27 20))]) (S' := [.ref 27, .int (g 27 20), .ref 58]) (fun _ => rfl) ?_
                refine m_gI rfl ?_
                obtain ⟨o13, H⟩ := H
                refine m_is 12 rfl rfl rfl o13 ?_
                obtain ⟨g14, eg14⟩ : ∃ m : zG, m = (z_up2 g12 58 (z_ix (g 27 20)) (g12 27 0)) := ⟨_, rfl⟩
                have H := H g14 eg14
                refine z_nmG eg14 ?_
                refine m_n 2 (pc' := 155) (L' := [some (.ref 27), some (.int x1), some (.int x2), some (.int x3), some (.int x4), some (.int x5), some (.int x6), some (.int (g 27 20))]) (S' := [.ref 27, .ref 27]) (fun _ => rfl) ?_
                refine m_gI rfl ?_
                refine m_n 2 (pc' := 160) (L' := [some (.ref 27), some (.int x1), some (.int x2), some (.int x3), some (.int x4), some (.int x5), some (.int x6), some (.int (g 27 20))]) (S' := [.int ((g14 27 20) + (1 : Int32)), .ref 27]) (fun _ => rfl) ?_
                refine m_pI rfl ?_
                obtain ⟨g15, eg15⟩ : ∃ m : zG, m = (z_up2 g14 27 20 ((g14 27 20) + (1 : Int32))) := ⟨_, rfl⟩
                have H := H g15 eg15
                refine z_nmG eg15 ?_
                refine m_n 1 (pc' := 165) (L' := [some (.ref 27), some (.int x1), some (.int x2), some (.int x3), some (.int x4), some (.int x5), some (.int x6), some (.int (g 27 20))]) (S' := [.int (g 27 20)]) (fun _ => rfl) ?_
                exact m_r rfl rfl rfl H
set_option maxRecDepth 20000 in
theorem X_171 (x1 : Int32) (x2 : Int32) (g : zG) {Q : Int32 → zG → Prop} (H : if (0 : Int32) ≤ x1 ∧ x1 ≤ ((g 27 20) - (1 : Int32)) then (if x2 = (0 : Int32) then ((0 ≤ x1.toInt ∧ x1.toInt < 12) ∧ Q (g 46 (z_ix x1)) g) else (if x2 = (1 : Int32) then ((0 ≤ x1.toInt ∧ x1.toInt < 12) ∧ Q (g 47 (z_ix x1)) g) else (if x2 = (2 : Int32) then ((0 ≤ x1.toInt ∧ x1.toInt < 12) ∧ Q (g 48 (z_ix x1)) g) else (if x2 = (3 : Int32) then ((0 ≤ x1.toInt ∧ x1.toInt < 12) ∧ Q (g 49 (z_ix x1)) g) else (if x2 = (4 : Int32) then ((0 ≤ x1.toInt ∧ x1.toInt < 12) ∧ Q (g 50 (z_ix x1)) g) else (if x2 = (5 : Int32) then ((0 ≤ x1.toInt ∧ x1.toInt < 12) ∧ Q (g 51 (z_ix x1)) g) else (if x2 = (6 : Int32) then ((0 ≤ x1.toInt ∧ x1.toInt < 12) ∧ Q (g 52 (z_ix x1)) g) else (if x2 = (7 : Int32) then ((0 ≤ x1.toInt ∧ x1.toInt < 12) ∧ Q (g 53 (z_ix x1)) g) else (if x2 = (8 : Int32) then ((0 ≤ x1.toInt ∧ x1.toInt < 12) ∧ Q (z_bt (¬ ((g 54 (z_ix x1)) = 0))) g) else (if x2 = (9 : Int32) then ((0 ≤ x1.toInt ∧ x1.toInt < 12) ∧ (Cn g) ∧ Q (z_bt (s_no (q_wk g (g 46 (z_ix x1))) = x1)) g) else (if x2 = (10 : Int32) then ((0 ≤ x1.toInt ∧ x1.toInt < 12) ∧ Q (z_bt (¬ ((g 55 (z_ix x1)) = 0))) g) else (if x2 = (11 : Int32) then ((0 ≤ x1.toInt ∧ x1.toInt < 12) ∧ Q (g 56 (z_ix x1)) g) else (if x2 = (12 : Int32) then ((0 ≤ x1.toInt ∧ x1.toInt < 12) ∧ Q (g 57 (z_ix x1)) g) else (Q (-1 : Int32) g)))))))))))))) else (Q (-1 : Int32) g)) : MK z_pI 171 [.ref 27, .int x1, .int x2] g Q := by
  refine m_K (L := [some (.ref 27), some (.int x1), some (.int x2)]) rfl ?_
  refine m_n 2 (pc' := 2) (L' := [some (.ref 27), some (.int x1), some (.int x2)]) (S' := [.int x1, .ref 27]) (fun _ => rfl) ?_
  refine m_cI 164 2 rfl rfl rfl (A := [.ref 27, .int x1]) rfl rfl (Or.inr ⟨rfl, _, rfl⟩) (rest := []) rfl rfl rfl ?_
  refine X_164 x1 g ?_
  refine m_b (c := z_bt ((0 : Int32) ≤ x1 ∧ x1 ≤ ((g 27 20) - (1 : Int32))) = 0) (pc' := 8) (L' := [some (.ref 27), some (.int x1), some (.int x2)]) (S' := []) (pc2 := 10) (L2 := [some (.ref 27), some (.int x1), some (.int x2)]) (S2 := []) rfl (fun _ => rfl) (fun hc => ?_) (fun hc => ?_)
  · have hc := z_bt_0.mp hc
    rw [if_neg hc] at H
    refine m_n 1 (pc' := 9) (L' := [some (.ref 27), some (.int x1), some (.int x2)]) (S' := [.int (-1 : Int32)]) (fun _ => rfl) ?_
    exact m_r rfl rfl rfl H
  · have hc := Decidable.not_not.mp (fun q => hc (z_bt_0.mpr q))
    rw [if_pos hc] at H
    refine m_n 1 (pc' := 11) (L' := [some (.ref 27), some (.int x1), some (.int x2)]) (S' := [.int x2]) (fun _ => rfl) ?_
    by_cases w1 : x2 = (0 : Int32)
    · rw [if_pos w1] at H
      refine m_sw (pc' := 76) rfl (congrArg (z_tgt 11) (z_swT (k := (0 : Int32)) w1 rfl)) ?_
      refine m_n 1 (pc' := 77) (L' := [some (.ref 27), some (.int x1), some (.int x2)]) (S' := [.ref 27]) (fun _ => rfl) ?_
      refine m_gR (q := 46) rfl (by decide) ?_
      refine m_n 1 (pc' := 81) (L' := [some (.ref 27), some (.int x1), some (.int x2)]) (S' := [.int x1, .ref 46]) (fun _ => rfl) ?_
      obtain ⟨o2, H⟩ := H
      refine m_ia 12 rfl rfl o2 ?_
      exact m_r rfl rfl rfl H
    rw [if_neg w1] at H
    by_cases w3 : x2 = (1 : Int32)
    · rw [if_pos w3] at H
      refine m_sw (pc' := 83) rfl (congrArg (z_tgt 11) (z_swN (k := (0 : Int32)) w1 rfl (z_swT (k := (1 : Int32)) w3 rfl))) ?_
      refine m_n 1 (pc' := 84) (L' := [some (.ref 27), some (.int x1), some (.int x2)]) (S' := [.ref 27]) (fun _ => rfl) ?_
      refine m_gR (q := 47) rfl (by decide) ?_
      refine m_n 1 (pc' := 88) (L' := [some (.ref 27), some (.int x1), some (.int x2)]) (S' := [.int x1, .ref 47]) (fun _ => rfl) ?_
      obtain ⟨o4, H⟩ := H
      refine m_ia 12 rfl rfl o4 ?_
      exact m_r rfl rfl rfl H
    rw [if_neg w3] at H
    by_cases w5 : x2 = (2 : Int32)
    · rw [if_pos w5] at H
      refine m_sw (pc' := 90) rfl (congrArg (z_tgt 11) (z_swN (k := (0 : Int32)) w1 rfl (z_swN (k := (1 : Int32)) w3 rfl (z_swT (k := (2 : Int32)) w5 rfl)))) ?_
      refine m_n 1 (pc' := 91) (L' := [some (.ref 27), some (.int x1), some (.int x2)]) (S' := [.ref 27]) (fun _ => rfl) ?_
      refine m_gR (q := 48) rfl (by decide) ?_
      refine m_n 1 (pc' := 95) (L' := [some (.ref 27), some (.int x1), some (.int x2)]) (S' := [.int x1, .ref 48]) (fun _ => rfl) ?_
      obtain ⟨o6, H⟩ := H
      refine m_ia 12 rfl rfl o6 ?_
      exact m_r rfl rfl rfl H
    rw [if_neg w5] at H
    by_cases w7 : x2 = (3 : Int32)
    · rw [if_pos w7] at H
      refine m_sw (pc' := 97) rfl (congrArg (z_tgt 11) (z_swN (k := (0 : Int32)) w1 rfl (z_swN (k := (1 : Int32)) w3 rfl (z_swN (k := (2 : Int32)) w5 rfl (z_swT (k := (3 : Int32)) w7 rfl))))) ?_
      refine m_n 1 (pc' := 98) (L' := [some (.ref 27), some (.int x1), some (.int x2)]) (S' := [.ref 27]) (fun _ => rfl) ?_
      refine m_gR (q := 49) rfl (by decide) ?_
      refine m_n 1 (pc' := 102) (L' := [some (.ref 27), some (.int x1), some (.int x2)]) (S' := [.int x1, .ref 49]) (fun _ => rfl) ?_
      obtain ⟨o8, H⟩ := H
      refine m_ia 12 rfl rfl o8 ?_
      exact m_r rfl rfl rfl H
    rw [if_neg w7] at H
    by_cases w9 : x2 = (4 : Int32)
    · rw [if_pos w9] at H
      refine m_sw (pc' := 104) rfl (congrArg (z_tgt 11) (z_swN (k := (0 : Int32)) w1 rfl (z_swN (k := (1 : Int32)) w3 rfl (z_swN (k := (2 : Int32)) w5 rfl (z_swN (k := (3 : Int32)) w7 rfl (z_swT (k := (4 : Int32)) w9 rfl)))))) ?_
      refine m_n 1 (pc' := 105) (L' := [some (.ref 27), some (.int x1), some (.int x2)]) (S' := [.ref 27]) (fun _ => rfl) ?_
      refine m_gR (q := 50) rfl (by decide) ?_
      refine m_n 1 (pc' := 109) (L' := [some (.ref 27), some (.int x1), some (.int x2)]) (S' := [.int x1, .ref 50]) (fun _ => rfl) ?_
      obtain ⟨o10, H⟩ := H
      refine m_ia 12 rfl rfl o10 ?_
      exact m_r rfl rfl rfl H
    rw [if_neg w9] at H
    by_cases w11 : x2 = (5 : Int32)
    · rw [if_pos w11] at H
      refine m_sw (pc' := 111) rfl (congrArg (z_tgt 11) (z_swN (k := (0 : Int32)) w1 rfl (z_swN (k := (1 : Int32)) w3 rfl (z_swN (k := (2 : Int32)) w5 rfl (z_swN (k := (3 : Int32)) w7 rfl (z_swN (k := (4 : Int32)) w9 rfl (z_swT (k := (5 : Int32)) w11 rfl))))))) ?_
      refine m_n 1 (pc' := 112) (L' := [some (.ref 27), some (.int x1), some (.int x2)]) (S' := [.ref 27]) (fun _ => rfl) ?_
      refine m_gR (q := 51) rfl (by decide) ?_
      refine m_n 1 (pc' := 116) (L' := [some (.ref 27), some (.int x1), some (.int x2)]) (S' := [.int x1, .ref 51]) (fun _ => rfl) ?_
      obtain ⟨o12, H⟩ := H
      refine m_ia 12 rfl rfl o12 ?_
      exact m_r rfl rfl rfl H
    rw [if_neg w11] at H
    by_cases w13 : x2 = (6 : Int32)
    · rw [if_pos w13] at H
      refine m_sw (pc' := 118) rfl (congrArg (z_tgt 11) (z_swN (k := (0 : Int32)) w1 rfl (z_swN (k := (1 : Int32)) w3 rfl (z_swN (k := (2 : Int32)) w5 rfl (z_swN (k := (3 : Int32)) w7 rfl (z_swN (k := (4 : Int32)) w9 rfl (z_swN (k := (5 : Int32)) w11 rfl (z_swT (k := (6 : Int32)) w13 rfl)))))))) ?_
      refine m_n 1 (pc' := 119) (L' := [some (.ref 27), some (.int x1), some (.int x2)]) (S' := [.ref 27]) (fun _ => rfl) ?_
      refine m_gR (q := 52) rfl (by decide) ?_
      refine m_n 1 (pc' := 123) (L' := [some (.ref 27), some (.int x1), some (.int x2)]) (S' := [.int x1, .ref 52]) (fun _ => rfl) ?_
      obtain ⟨o14, H⟩ := H
      refine m_ia 12 rfl rfl o14 ?_
      exact m_r rfl rfl rfl H
    rw [if_neg w13] at H
    by_cases w15 : x2 = (7 : Int32)
    · rw [if_pos w15] at H
      refine m_sw (pc' := 125) rfl (congrArg (z_tgt 11) (z_swN (k := (0 : Int32)) w1 rfl (z_swN (k := (1 : Int32)) w3 rfl (z_swN (k := (2 : Int32)) w5 rfl (z_swN (k := (3 : Int32)) w7 rfl (z_swN (k := (4 : Int32)) w9 rfl (z_swN (k := (5 : Int32)) w11 rfl (z_swN (k := (6 : Int32)) w13 rfl (z_swT (k := (7 : Int32)) w15 rfl))))))))) ?_
      refine m_n 1 (pc' := 126) (L' := [some (.ref 27), some (.int x1), some (.int x2)]) (S' := [.ref 27]) (fun _ => rfl) ?_
      refine m_gR (q := 53) rfl (by decide) ?_
      refine m_n 1 (pc' := 130) (L' := [some (.ref 27), some (.int x1), some (.int x2)]) (S' := [.int x1, .ref 53]) (fun _ => rfl) ?_
      obtain ⟨o16, H⟩ := H
      refine m_ia 12 rfl rfl o16 ?_
      exact m_r rfl rfl rfl H
    rw [if_neg w15] at H
    by_cases w17 : x2 = (8 : Int32)
    · rw [if_pos w17] at H
      refine m_sw (pc' := 132) rfl (congrArg (z_tgt 11) (z_swN (k := (0 : Int32)) w1 rfl (z_swN (k := (1 : Int32)) w3 rfl (z_swN (k := (2 : Int32)) w5 rfl (z_swN (k := (3 : Int32)) w7 rfl (z_swN (k := (4 : Int32)) w9 rfl (z_swN (k := (5 : Int32)) w11 rfl (z_swN (k := (6 : Int32)) w13 rfl (z_swN (k := (7 : Int32)) w15 rfl (z_swT (k := (8 : Int32)) w17 rfl)))))))))) ?_
      refine m_n 1 (pc' := 133) (L' := [some (.ref 27), some (.int x1), some (.int x2)]) (S' := [.ref 27]) (fun _ => rfl) ?_
      refine m_gR (q := 54) rfl (by decide) ?_
      refine m_n 1 (pc' := 137) (L' := [some (.ref 27), some (.int x1), some (.int x2)]) (S' := [.int x1, .ref 54]) (fun _ => rfl) ?_
      obtain ⟨o18, H⟩ := H
      refine m_za 12 rfl rfl o18 ?_
      have hj20 : MG z_pI 171 146 [some (.ref 27), some (.int x1), some (.int x2)] [.int (z_bt (¬ ((g 54 (z_ix x1)) = 0)))] g Q := by
        exact m_r rfl rfl rfl H
      refine m_b (c := (g 54 (z_ix x1)) = 0) (pc' := 145) (L' := [some (.ref 27), some (.int x1), some (.int x2)]) (S' := []) (pc2 := 141) (L2 := [some (.ref 27), some (.int x1), some (.int x2)]) (S2 := []) rfl (fun _ => rfl) (fun hc => ?_) (fun hc => ?_)
      · have c19 := hc
        refine m_n 1 (pc' := 146) (L' := [some (.ref 27), some (.int x1), some (.int x2)]) (S' := [.int (0 : Int32)]) (fun _ => rfl) ?_
        rw [show z_bt (¬ ((g 54 (z_ix x1)) = 0)) = 0 from z_bt_0.mpr ((fun q => q c19))] at hj20
        exact hj20
      · have c19 := hc
        refine m_n 2 (pc' := 146) (L' := [some (.ref 27), some (.int x1), some (.int x2)]) (S' := [.int (1 : Int32)]) (fun _ => rfl) ?_
        rw [show z_bt (¬ ((g 54 (z_ix x1)) = 0)) = 1 from z_bt_1.mpr (c19)] at hj20
        exact hj20
    rw [if_neg w17] at H
    by_cases w21 : x2 = (9 : Int32)
    · rw [if_pos w21] at H
      refine m_sw (pc' := 147) rfl (congrArg (z_tgt 11) (z_swN (k := (0 : Int32)) w1 rfl (z_swN (k := (1 : Int32)) w3 rfl (z_swN (k := (2 : Int32)) w5 rfl (z_swN (k := (3 : Int32)) w7 rfl (z_swN (k := (4 : Int32)) w9 rfl (z_swN (k := (5 : Int32)) w11 rfl (z_swN (k := (6 : Int32)) w13 rfl (z_swN (k := (7 : Int32)) w15 rfl (z_swN (k := (8 : Int32)) w17 rfl (z_swT (k := (9 : Int32)) w21 rfl))))))))))) ?_
      refine m_n 2 (pc' := 149) (L' := [some (.ref 27), some (.int x1), some (.int x2)]) (S' := [.ref 27, .ref 27]) (fun _ => rfl) ?_
      refine m_gR (q := 46) rfl (by decide) ?_
      refine m_n 1 (pc' := 153) (L' := [some (.ref 27), some (.int x1), some (.int x2)]) (S' := [.int x1, .ref 46, .ref 27]) (fun _ => rfl) ?_
      obtain ⟨o22, H⟩ := H
      refine m_ia 12 rfl rfl o22 ?_
      refine m_cI 170 2 rfl rfl rfl (A := [.ref 27, .int (g 46 (z_ix x1))]) rfl rfl (Or.inr ⟨rfl, _, rfl⟩) (rest := []) rfl rfl rfl ?_
      obtain ⟨o23, H⟩ := H
      refine c_working (g 46 (z_ix x1)) g o23 ?_
      refine m_n 1 (pc' := 158) (L' := [some (.ref 27), some (.int x1), some (.int x2)]) (S' := [.int x1, .int (s_no (q_wk g (g 46 (z_ix x1))))]) (fun _ => rfl) ?_
      have hj25 : MG z_pI 171 166 [some (.ref 27), some (.int x1), some (.int x2)] [.int (z_bt (s_no (q_wk g (g 46 (z_ix x1))) = x1))] g Q := by
        exact m_r rfl rfl rfl H
      refine m_b (c := s_no (q_wk g (g 46 (z_ix x1))) = x1) (pc' := 161) (L' := [some (.ref 27), some (.int x1), some (.int x2)]) (S' := []) (pc2 := 165) (L2 := [some (.ref 27), some (.int x1), some (.int x2)]) (S2 := []) rfl (fun _ => rfl) (fun hc => ?_) (fun hc => ?_)
      · have c24 := hc
        refine m_n 2 (pc' := 166) (L' := [some (.ref 27), some (.int x1), some (.int x2)]) (S' := [.int (1 : Int32)]) (fun _ => rfl) ?_
        rw [show z_bt (s_no (q_wk g (g 46 (z_ix x1))) = x1) = 1 from z_bt_1.mpr (c24)] at hj25
        exact hj25
      · have c24 := hc
        refine m_n 1 (pc' := 166) (L' := [some (.ref 27), some (.int x1), some (.int x2)]) (S' := [.int (0 : Int32)]) (fun _ => rfl) ?_
        rw [show z_bt (s_no (q_wk g (g 46 (z_ix x1))) = x1) = 0 from z_bt_0.mpr (c24)] at hj25
        exact hj25
    rw [if_neg w21] at H
    by_cases w26 : x2 = (10 : Int32)
    · rw [if_pos w26] at H
      refine m_sw (pc' := 167) rfl (congrArg (z_tgt 11) (z_swN (k := (0 : Int32)) w1 rfl (z_swN (k := (1 : Int32)) w3 rfl (z_swN (k := (2 : Int32)) w5 rfl (z_swN (k := (3 : Int32)) w7 rfl (z_swN (k := (4 : Int32)) w9 rfl (z_swN (k := (5 : Int32)) w11 rfl (z_swN (k := (6 : Int32)) w13 rfl (z_swN (k := (7 : Int32)) w15 rfl (z_swN (k := (8 : Int32)) w17 rfl (z_swN (k := (9 : Int32)) w21 rfl (z_swT (k := (10 : Int32)) w26 rfl)))))))))))) ?_
      refine m_n 1 (pc' := 168) (L' := [some (.ref 27), some (.int x1), some (.int x2)]) (S' := [.ref 27]) (fun _ => rfl) ?_
      refine m_gR (q := 55) rfl (by decide) ?_
      refine m_n 1 (pc' := 172) (L' := [some (.ref 27), some (.int x1), some (.int x2)]) (S' := [.int x1, .ref 55]) (fun _ => rfl) ?_
      obtain ⟨o27, H⟩ := H
      refine m_za 12 rfl rfl o27 ?_
      have hj29 : MG z_pI 171 181 [some (.ref 27), some (.int x1), some (.int x2)] [.int (z_bt (¬ ((g 55 (z_ix x1)) = 0)))] g Q := by
        exact m_r rfl rfl rfl H
      refine m_b (c := (g 55 (z_ix x1)) = 0) (pc' := 180) (L' := [some (.ref 27), some (.int x1), some (.int x2)]) (S' := []) (pc2 := 176) (L2 := [some (.ref 27), some (.int x1), some (.int x2)]) (S2 := []) rfl (fun _ => rfl) (fun hc => ?_) (fun hc => ?_)
      · have c28 := hc
        refine m_n 1 (pc' := 181) (L' := [some (.ref 27), some (.int x1), some (.int x2)]) (S' := [.int (0 : Int32)]) (fun _ => rfl) ?_
        rw [show z_bt (¬ ((g 55 (z_ix x1)) = 0)) = 0 from z_bt_0.mpr ((fun q => q c28))] at hj29
        exact hj29
      · have c28 := hc
        refine m_n 2 (pc' := 181) (L' := [some (.ref 27), some (.int x1), some (.int x2)]) (S' := [.int (1 : Int32)]) (fun _ => rfl) ?_
        rw [show z_bt (¬ ((g 55 (z_ix x1)) = 0)) = 1 from z_bt_1.mpr (c28)] at hj29
        exact hj29
    rw [if_neg w26] at H
    by_cases w30 : x2 = (11 : Int32)
    · rw [if_pos w30] at H
      refine m_sw (pc' := 182) rfl (congrArg (z_tgt 11) (z_swN (k := (0 : Int32)) w1 rfl (z_swN (k := (1 : Int32)) w3 rfl (z_swN (k := (2 : Int32)) w5 rfl (z_swN (k := (3 : Int32)) w7 rfl (z_swN (k := (4 : Int32)) w9 rfl (z_swN (k := (5 : Int32)) w11 rfl (z_swN (k := (6 : Int32)) w13 rfl (z_swN (k := (7 : Int32)) w15 rfl (z_swN (k := (8 : Int32)) w17 rfl (z_swN (k := (9 : Int32)) w21 rfl (z_swN (k := (10 : Int32)) w26 rfl (z_swT (k := (11 : Int32)) w30 rfl))))))))))))) ?_
      refine m_n 1 (pc' := 183) (L' := [some (.ref 27), some (.int x1), some (.int x2)]) (S' := [.ref 27]) (fun _ => rfl) ?_
      refine m_gR (q := 56) rfl (by decide) ?_
      refine m_n 1 (pc' := 187) (L' := [some (.ref 27), some (.int x1), some (.int x2)]) (S' := [.int x1, .ref 56]) (fun _ => rfl) ?_
      obtain ⟨o31, H⟩ := H
      refine m_ia 12 rfl rfl o31 ?_
      exact m_r rfl rfl rfl H
    rw [if_neg w30] at H
    by_cases w32 : x2 = (12 : Int32)
    · rw [if_pos w32] at H
      refine m_sw (pc' := 189) rfl (congrArg (z_tgt 11) (z_swN (k := (0 : Int32)) w1 rfl (z_swN (k := (1 : Int32)) w3 rfl (z_swN (k := (2 : Int32)) w5 rfl (z_swN (k := (3 : Int32)) w7 rfl (z_swN (k := (4 : Int32)) w9 rfl (z_swN (k := (5 : Int32)) w11 rfl (z_swN (k := (6 : Int32)) w13 rfl (z_swN (k := (7 : Int32)) w15 rfl (z_swN (k := (8 : Int32)) w17 rfl (z_swN (k := (9 : Int32)) w21 rfl (z_swN (k := (10 : Int32)) w26 rfl (z_swN (k := (11 : Int32)) w30 rfl (z_swT (k := (12 : Int32)) w32 rfl)))))))))))))) ?_
      refine m_n 1 (pc' := 190) (L' := [some (.ref 27), some (.int x1), some (.int x2)]) (S' := [.ref 27]) (fun _ => rfl) ?_
      refine m_gR (q := 57) rfl (by decide) ?_
      refine m_n 1 (pc' := 194) (L' := [some (.ref 27), some (.int x1), some (.int x2)]) (S' := [.int x1, .ref 57]) (fun _ => rfl) ?_
      obtain ⟨o33, H⟩ := H
      refine m_ia 12 rfl rfl o33 ?_
      exact m_r rfl rfl rfl H
    rw [if_neg w32] at H
    refine m_sw (pc' := 196) rfl (congrArg (z_tgt 11) (z_swN (k := (0 : Int32)) w1 rfl (z_swN (k := (1 : Int32)) w3 rfl (z_swN (k := (2 : Int32)) w5 rfl (z_swN (k := (3 : Int32)) w7 rfl (z_swN (k := (4 : Int32)) w9 rfl (z_swN (k := (5 : Int32)) w11 rfl (z_swN (k := (6 : Int32)) w13 rfl (z_swN (k := (7 : Int32)) w15 rfl (z_swN (k := (8 : Int32)) w17 rfl (z_swN (k := (9 : Int32)) w21 rfl (z_swN (k := (10 : Int32)) w26 rfl (z_swN (k := (11 : Int32)) w30 rfl (z_swN (k := (12 : Int32)) w32 rfl rfl)))))))))))))) ?_
    refine m_n 1 (pc' := 197) (L' := [some (.ref 27), some (.int x1), some (.int x2)]) (S' := [.int (-1 : Int32)]) (fun _ => rfl) ?_
    exact m_r rfl rfl rfl H
set_option maxRecDepth 20000 in
theorem X_172 (x1 : Int32) (x2 : Int32) (g : zG) {Q : Int32 → zG → Prop} (H : if (0 : Int32) ≤ x1 ∧ x1 ≤ ((g 27 20) - (1 : Int32)) then ((0 ≤ x1.toInt ∧ x1.toInt < 12) ∧ ((0 ≤ x1.toInt ∧ x1.toInt < 12) ∧ (x2 = 0 ∨ x2 = 1)) ∧ Q (z_bt (¬ ((g 54 (z_ix x1)) = 0))) (z_up2 g 54 (z_ix x1) x2)) else (Q (-1 : Int32) g)) : MK z_pI 172 [.ref 27, .int x1, .int x2] g Q := by
  refine m_K (L := [some (.ref 27), some (.int x1), some (.int x2), none]) rfl ?_
  refine m_n 2 (pc' := 2) (L' := [some (.ref 27), some (.int x1), some (.int x2), none]) (S' := [.int x1, .ref 27]) (fun _ => rfl) ?_
  refine m_cI 164 2 rfl rfl rfl (A := [.ref 27, .int x1]) rfl rfl (Or.inr ⟨rfl, _, rfl⟩) (rest := []) rfl rfl rfl ?_
  refine X_164 x1 g ?_
  refine m_b (c := z_bt ((0 : Int32) ≤ x1 ∧ x1 ≤ ((g 27 20) - (1 : Int32))) = 0) (pc' := 8) (L' := [some (.ref 27), some (.int x1), some (.int x2), none]) (S' := []) (pc2 := 10) (L2 := [some (.ref 27), some (.int x1), some (.int x2), none]) (S2 := []) rfl (fun _ => rfl) (fun hc => ?_) (fun hc => ?_)
  · have hc := z_bt_0.mp hc
    rw [if_neg hc] at H
    refine m_n 1 (pc' := 9) (L' := [some (.ref 27), some (.int x1), some (.int x2), none]) (S' := [.int (-1 : Int32)]) (fun _ => rfl) ?_
    exact m_r rfl rfl rfl H
  · have hc := Decidable.not_not.mp (fun q => hc (z_bt_0.mpr q))
    rw [if_pos hc] at H
    refine m_n 1 (pc' := 11) (L' := [some (.ref 27), some (.int x1), some (.int x2), none]) (S' := [.ref 27]) (fun _ => rfl) ?_
    refine m_gR (q := 54) rfl (by decide) ?_
    refine m_n 1 (pc' := 15) (L' := [some (.ref 27), some (.int x1), some (.int x2), none]) (S' := [.int x1, .ref 54]) (fun _ => rfl) ?_
    obtain ⟨o1, H⟩ := H
    refine m_za 12 rfl rfl o1 ?_
    have hj3 : MG z_pI 172 24 [some (.ref 27), some (.int x1), some (.int x2), none] [.int (z_bt (¬ ((g 54 (z_ix x1)) = 0)))] g Q := by
      refine m_n 2 (pc' := 26) (L' := [some (.ref 27), some (.int x1), some (.int x2), some (.int (z_bt (¬ ((g 54 (z_ix x1)) = 0))))]) (S' := [.ref 27]) (fun _ => rfl) ?_
      refine m_gR (q := 54) rfl (by decide) ?_
      refine m_n 2 (pc' := 31) (L' := [some (.ref 27), some (.int x1), some (.int x2), some (.int (z_bt (¬ ((g 54 (z_ix x1)) = 0))))]) (S' := [.int x2, .int x1, .ref 54]) (fun _ => rfl) ?_
      obtain ⟨o4, H⟩ := H
      refine m_zs 12 rfl rfl rfl o4.1 o4.2 ?_
      refine m_n 1 (pc' := 33) (L' := [some (.ref 27), some (.int x1), some (.int x2), some (.int (z_bt (¬ ((g 54 (z_ix x1)) = 0))))]) (S' := [.int (z_bt (¬ ((g 54 (z_ix x1)) = 0)))]) (fun _ => rfl) ?_
      exact m_r rfl rfl rfl H
    refine m_b (c := (g 54 (z_ix x1)) = 0) (pc' := 23) (L' := [some (.ref 27), some (.int x1), some (.int x2), none]) (S' := []) (pc2 := 19) (L2 := [some (.ref 27), some (.int x1), some (.int x2), none]) (S2 := []) rfl (fun _ => rfl) (fun hc => ?_) (fun hc => ?_)
    · have c2 := hc
      refine m_n 1 (pc' := 24) (L' := [some (.ref 27), some (.int x1), some (.int x2), none]) (S' := [.int (0 : Int32)]) (fun _ => rfl) ?_
      rw [show z_bt (¬ ((g 54 (z_ix x1)) = 0)) = 0 from z_bt_0.mpr ((fun q => q c2))] at hj3
      exact hj3
    · have c2 := hc
      refine m_n 2 (pc' := 24) (L' := [some (.ref 27), some (.int x1), some (.int x2), none]) (S' := [.int (1 : Int32)]) (fun _ => rfl) ?_
      rw [show z_bt (¬ ((g 54 (z_ix x1)) = 0)) = 1 from z_bt_1.mpr (c2)] at hj3
      exact hj3
set_option maxRecDepth 20000 in
theorem X_173 (x1 : Int32) (g : zG) {Q : Int32 → zG → Prop} (H : if (0 : Int32) ≤ x1 ∧ x1 ≤ ((g 27 20) - (1 : Int32)) then ((0 ≤ x1.toInt ∧ x1.toInt < 12) ∧ (0 ≤ x1.toInt ∧ x1.toInt < 12) ∧ Q (g 52 (z_ix x1)) (z_up2 g 52 (z_ix x1) (0 : Int32))) else (Q (-1 : Int32) g)) : MK z_pI 173 [.ref 27, .int x1] g Q := by
  refine m_K (L := [some (.ref 27), some (.int x1), none]) rfl ?_
  refine m_n 2 (pc' := 2) (L' := [some (.ref 27), some (.int x1), none]) (S' := [.int x1, .ref 27]) (fun _ => rfl) ?_
  refine m_cI 164 2 rfl rfl rfl (A := [.ref 27, .int x1]) rfl rfl (Or.inr ⟨rfl, _, rfl⟩) (rest := []) rfl rfl rfl ?_
  refine X_164 x1 g ?_
  refine m_b (c := z_bt ((0 : Int32) ≤ x1 ∧ x1 ≤ ((g 27 20) - (1 : Int32))) = 0) (pc' := 8) (L' := [some (.ref 27), some (.int x1), none]) (S' := []) (pc2 := 10) (L2 := [some (.ref 27), some (.int x1), none]) (S2 := []) rfl (fun _ => rfl) (fun hc => ?_) (fun hc => ?_)
  · have hc := z_bt_0.mp hc
    rw [if_neg hc] at H
    refine m_n 1 (pc' := 9) (L' := [some (.ref 27), some (.int x1), none]) (S' := [.int (-1 : Int32)]) (fun _ => rfl) ?_
    exact m_r rfl rfl rfl H
  · have hc := Decidable.not_not.mp (fun q => hc (z_bt_0.mpr q))
    rw [if_pos hc] at H
    refine m_n 1 (pc' := 11) (L' := [some (.ref 27), some (.int x1), none]) (S' := [.ref 27]) (fun _ => rfl) ?_
    refine m_gR (q := 52) rfl (by decide) ?_
    refine m_n 1 (pc' := 15) (L' := [some (.ref 27), some (.int x1), none]) (S' := [.int x1, .ref 52]) (fun _ => rfl) ?_
    obtain ⟨o1, H⟩ := H
    refine m_ia 12 rfl rfl o1 ?_
    refine m_n 2 (pc' := 18) (L' := [some (.ref 27), some (.int x1), some (.int (g 52 (z_ix x1)))]) (S' := [.ref 27]) (fun _ => rfl) ?_
    refine m_gR (q := 52) rfl (by decide) ?_
    refine m_n 2 (pc' := 23) (L' := [some (.ref 27), some (.int x1), some (.int (g 52 (z_ix x1)))]) (S' := [.int (0 : Int32), .int x1, .ref 52]) (fun _ => rfl) ?_
    obtain ⟨o2, H⟩ := H
    refine m_is 12 rfl rfl rfl o2 ?_
    refine m_n 1 (pc' := 25) (L' := [some (.ref 27), some (.int x1), some (.int (g 52 (z_ix x1)))]) (S' := [.int (g 52 (z_ix x1))]) (fun _ => rfl) ?_
    exact m_r rfl rfl rfl H
set_option maxRecDepth 20000 in
theorem X_176 (x1 : Int32) (g : zG) {Q : Unit → zG → Prop} (H : (Cn g) ∧ (0 ≤ (((12 : Int32) * x1) + ((g 27 0) - (g 27 0) / (12 : Int32) * (12 : Int32))).toInt ∧ (((12 : Int32) * x1) + ((g 27 0) - (g 27 0) / (12 : Int32) * (12 : Int32))).toInt < 72) ∧ (0 ≤ (((60 : Int32) * x1) + (g 27 0)).toInt ∧ (((60 : Int32) * x1) + (g 27 0)).toInt < 360) ∧ (∀ g6 : zG, g6 = (z_up2 g 36 (z_ix (((60 : Int32) * x1) + (g 27 0))) (0 : Int32)) → (0 ≤ (((60 : Int32) * x1) + (g 27 0)).toInt ∧ (((60 : Int32) * x1) + (g 27 0)).toInt < 360) ∧ (∀ g8 : zG, g8 = (z_up2 g6 37 (z_ix (((60 : Int32) * x1) + (g 27 0))) (0 : Int32)) → if s_no (q_wk g x1) = (-4 : Int32) then ((0 ≤ (((60 : Int32) * x1) + (g 27 0)).toInt ∧ (((60 : Int32) * x1) + (g 27 0)).toInt < 360) ∧ (∀ g12 : zG, g12 = (z_up2 g8 38 (z_ix (((60 : Int32) * x1) + (g 27 0))) (z_bt (¬ ((g 32 (z_ix (((12 : Int32) * x1) + ((g 27 0) - (g 27 0) / (12 : Int32) * (12 : Int32))))) ≤ 0)))) → (0 ≤ (((60 : Int32) * x1) + (g 27 0)).toInt ∧ (((60 : Int32) * x1) + (g 27 0)).toInt < 360) ∧ (∀ g14 : zG, g14 = (z_up2 g12 39 (z_ix (((60 : Int32) * x1) + (g 27 0))) (s_no (q_wk g x1))) → (0 ≤ x1.toInt ∧ x1.toInt < 6) ∧ (0 ≤ (((60 : Int32) * x1) + (g 27 0)).toInt ∧ (((60 : Int32) * x1) + (g 27 0)).toInt < 360) ∧ (∀ g17 : zG, g17 = (z_up2 g14 40 (z_ix (((60 : Int32) * x1) + (g 27 0))) (g14 30 (z_ix x1))) → (0 ≤ x1.toInt ∧ x1.toInt < 6) ∧ (0 ≤ (((60 : Int32) * x1) + (g 27 0)).toInt ∧ (((60 : Int32) * x1) + (g 27 0)).toInt < 360) ∧ (∀ g20 : zG, g20 = (z_up2 g17 41 (z_ix (((60 : Int32) * x1) + (g 27 0))) (g17 31 (z_ix x1))) → (0 ≤ x1.toInt ∧ x1.toInt < 6) ∧ (0 ≤ (((60 : Int32) * x1) + (g 27 0)).toInt ∧ (((60 : Int32) * x1) + (g 27 0)).toInt < 360) ∧ (0 ≤ x1.toInt ∧ x1.toInt < 6) ∧ (∀ g24 : zG, g24 = (z_up2 g20 33 (z_ix x1) ((g20 33 (z_ix x1)) + (g20 38 (z_ix (((60 : Int32) * x1) + (g 27 0)))))) → Q () g24)))))) else ((0 ≤ (s_no (q_wk g x1)).toInt ∧ (s_no (q_wk g x1)).toInt < 12) ∧ (0 ≤ (((12 : Int32) * x1) + ((g8 27 0) - (g8 27 0) / (12 : Int32) * (12 : Int32))).toInt ∧ (((12 : Int32) * x1) + ((g8 27 0) - (g8 27 0) / (12 : Int32) * (12 : Int32))).toInt < 72) ∧ (0 ≤ x1.toInt ∧ x1.toInt < 6) ∧ (¬ (g8 48 (z_ix (s_no (q_wk g x1)))).toInt64 = 0) ∧ (0 ≤ (s_no (q_wk g x1)).toInt ∧ (s_no (q_wk g x1)).toInt < 12) ∧ (¬ ((((((g8 32 (z_ix (((12 : Int32) * x1) + ((g8 27 0) - (g8 27 0) / (12 : Int32) * (12 : Int32))))).toInt64 * (g8 30 (z_ix x1)).toInt64) + (g8 48 (z_ix (s_no (q_wk g x1)))).toInt64) - (1 : Int64)) / (g8 48 (z_ix (s_no (q_wk g x1)))).toInt64) ≤ (g8 50 (z_ix (s_no (q_wk g x1)))).toInt64) → 0 ≤ (s_no (q_wk g x1)).toInt ∧ (s_no (q_wk g x1)).toInt < 12) ∧ (∀ m32 : Int64, m32 = (if (((((g8 32 (z_ix (((12 : Int32) * x1) + ((g8 27 0) - (g8 27 0) / (12 : Int32) * (12 : Int32))))).toInt64 * (g8 30 (z_ix x1)).toInt64) + (g8 48 (z_ix (s_no (q_wk g x1)))).toInt64) - (1 : Int64)) / (g8 48 (z_ix (s_no (q_wk g x1)))).toInt64) ≤ (g8 50 (z_ix (s_no (q_wk g x1)))).toInt64 then (((((g8 32 (z_ix (((12 : Int32) * x1) + ((g8 27 0) - (g8 27 0) / (12 : Int32) * (12 : Int32))))).toInt64 * (g8 30 (z_ix x1)).toInt64) + (g8 48 (z_ix (s_no (q_wk g x1)))).toInt64) - (1 : Int64)) / (g8 48 (z_ix (s_no (q_wk g x1)))).toInt64) else (g8 50 (z_ix (s_no (q_wk g x1)))).toInt64) → (0 ≤ (s_no (q_wk g x1)).toInt ∧ (s_no (q_wk g x1)).toInt < 12) ∧ (0 ≤ (s_no (q_wk g x1)).toInt ∧ (s_no (q_wk g x1)).toInt < 12) ∧ (0 ≤ (s_no (q_wk g x1)).toInt ∧ (s_no (q_wk g x1)).toInt < 12) ∧ (¬ ((100 : Int32) + (g8 52 (z_ix (s_no (q_wk g x1))))).toInt64 = 0) ∧ (∀ m37 : Int64, m37 = (if (1 : Int64) ≤ (((g8 49 (z_ix (s_no (q_wk g x1)))).toInt64 * (100 : Int64)) / ((100 : Int32) + (g8 52 (z_ix (s_no (q_wk g x1))))).toInt64) then (((g8 49 (z_ix (s_no (q_wk g x1)))).toInt64 * (100 : Int64)) / ((100 : Int32) + (g8 52 (z_ix (s_no (q_wk g x1))))).toInt64) else (1 : Int64)) → (¬ m37 = 0) ∧ (0 ≤ (s_no (q_wk g x1)).toInt ∧ (s_no (q_wk g x1)).toInt < 12) ∧ (0 ≤ (((60 : Int32) * x1) + (g 27 0)).toInt ∧ (((60 : Int32) * x1) + (g 27 0)).toInt < 360) ∧ (∀ g44 : zG, g44 = (z_up2 g8 36 (z_ix (((60 : Int32) * x1) + (g 27 0))) m32.toInt32) → (0 ≤ (((60 : Int32) * x1) + (g 27 0)).toInt ∧ (((60 : Int32) * x1) + (g 27 0)).toInt < 360) ∧ (∀ g46 : zG, g46 = (z_up2 g44 37 (z_ix (((60 : Int32) * x1) + (g 27 0))) (((((m32.toInt32.toInt64 * (g8 48 (z_ix (s_no (q_wk g x1)))).toInt64) + m37) - (1 : Int64)) / m37).toInt32)) → (0 ≤ (s_no (q_wk g x1)).toInt ∧ (s_no (q_wk g x1)).toInt < 12) ∧ (0 ≤ (s_no (q_wk g x1)).toInt ∧ (s_no (q_wk g x1)).toInt < 12) ∧ (∀ g49 : zG, g49 = (z_up2 g46 56 (z_ix (s_no (q_wk g x1))) ((g46 56 (z_ix (s_no (q_wk g x1)))) + m32.toInt32)) → (0 ≤ (s_no (q_wk g x1)).toInt ∧ (s_no (q_wk g x1)).toInt < 12) ∧ (0 ≤ (s_no (q_wk g x1)).toInt ∧ (s_no (q_wk g x1)).toInt < 12) ∧ (∀ g52 : zG, g52 = (z_up2 g49 57 (z_ix (s_no (q_wk g x1))) ((g49 57 (z_ix (s_no (q_wk g x1)))) + ((((m32.toInt32.toInt64 * (g8 48 (z_ix (s_no (q_wk g x1)))).toInt64) + m37) - (1 : Int64)) / m37).toInt32)) → (0 ≤ (s_no (q_wk g x1)).toInt ∧ (s_no (q_wk g x1)).toInt < 12) ∧ (((g52 54 (z_ix (s_no (q_wk g x1)))) = 0) → 0 ≤ (s_no (q_wk g x1)).toInt ∧ (s_no (q_wk g x1)).toInt < 12) ∧ (¬ ((g52 54 (z_ix (s_no (q_wk g x1)))) = 0) → 0 ≤ (s_no (q_wk g x1)).toInt ∧ (s_no (q_wk g x1)).toInt < 12) ∧ (∀ m57 : Int32, m57 = (if (g52 54 (z_ix (s_no (q_wk g x1)))) = 0 then (((g52 53 (z_ix (s_no (q_wk g x1)))) + m32.toInt32) - ((g52 53 (z_ix (s_no (q_wk g x1)))) + m32.toInt32) / (10000 : Int32) * (10000 : Int32)) else (g52 53 (z_ix (s_no (q_wk g x1))))) → (0 ≤ (s_no (q_wk g x1)).toInt ∧ (s_no (q_wk g x1)).toInt < 12) ∧ (∀ g60 : zG, g60 = (z_up2 g52 53 (z_ix (s_no (q_wk g x1))) m57) → (0 ≤ (s_no (q_wk g x1)).toInt ∧ (s_no (q_wk g x1)).toInt < 12) ∧ (0 ≤ (s_no (q_wk g x1)).toInt ∧ (s_no (q_wk g x1)).toInt < 12) ∧ (∀ g63 : zG, g63 = (z_up2 g60 52 (z_ix (s_no (q_wk g x1))) ((g60 52 (z_ix (s_no (q_wk g x1)))) + (1 : Int32))) → (0 ≤ (((60 : Int32) * x1) + (g 27 0)).toInt ∧ (((60 : Int32) * x1) + (g 27 0)).toInt < 360) ∧ (∀ g67 : zG, g67 = (z_up2 g63 38 (z_ix (((60 : Int32) * x1) + (g 27 0))) (z_bt (¬ ((((((g8 32 (z_ix (((12 : Int32) * x1) + ((g8 27 0) - (g8 27 0) / (12 : Int32) * (12 : Int32))))).toInt64 * (g8 30 (z_ix x1)).toInt64) + (g8 48 (z_ix (s_no (q_wk g x1)))).toInt64) - (1 : Int64)) / (g8 48 (z_ix (s_no (q_wk g x1)))).toInt64) ≤ (g8 50 (z_ix (s_no (q_wk g x1)))).toInt64)))) → (0 ≤ (((60 : Int32) * x1) + (g 27 0)).toInt ∧ (((60 : Int32) * x1) + (g 27 0)).toInt < 360) ∧ (∀ g69 : zG, g69 = (z_up2 g67 39 (z_ix (((60 : Int32) * x1) + (g 27 0))) (s_no (q_wk g x1))) → (0 ≤ x1.toInt ∧ x1.toInt < 6) ∧ (0 ≤ (((60 : Int32) * x1) + (g 27 0)).toInt ∧ (((60 : Int32) * x1) + (g 27 0)).toInt < 360) ∧ (∀ g72 : zG, g72 = (z_up2 g69 40 (z_ix (((60 : Int32) * x1) + (g 27 0))) (g69 30 (z_ix x1))) → (0 ≤ x1.toInt ∧ x1.toInt < 6) ∧ (0 ≤ (((60 : Int32) * x1) + (g 27 0)).toInt ∧ (((60 : Int32) * x1) + (g 27 0)).toInt < 360) ∧ (∀ g75 : zG, g75 = (z_up2 g72 41 (z_ix (((60 : Int32) * x1) + (g 27 0))) (g72 31 (z_ix x1))) → (0 ≤ x1.toInt ∧ x1.toInt < 6) ∧ (0 ≤ (((60 : Int32) * x1) + (g 27 0)).toInt ∧ (((60 : Int32) * x1) + (g 27 0)).toInt < 360) ∧ (0 ≤ x1.toInt ∧ x1.toInt < 6) ∧ (∀ g79 : zG, g79 = (z_up2 g75 33 (z_ix x1) ((g75 33 (z_ix x1)) + (g75 38 (z_ix (((60 : Int32) * x1) + (g 27 0)))))) → Q () g79)))))))))))))))))) : MK z_pV 176 [.ref 27, .int x1] g Q := by
  refine m_K (L := [some (.ref 27), some (.int x1), none, none, none, none, none, none, none]) rfl ?_
  refine m_n 2 (pc' := 2) (L' := [some (.ref 27), some (.int x1), none, none, none, none, none, none, none]) (S' := [.int x1, .ref 27]) (fun _ => rfl) ?_
  refine m_cI 170 2 rfl rfl rfl (A := [.ref 27, .int x1]) rfl rfl (Or.inr ⟨rfl, _, rfl⟩) (rest := []) rfl rfl rfl ?_
  obtain ⟨o1, H⟩ := H
  refine c_working x1 g o1 ?_
  refine m_n 5 (pc' := 11) (L' := [some (.ref 27), some (.int x1), some (.int (s_no (q_wk g x1))), none, none, none, none, none, none]) (S' := [.ref 27, .int ((60 : Int32) * x1)]) (fun _ => rfl) ?_
  refine m_gI rfl ?_
  refine m_n 3 (pc' := 17) (L' := [some (.ref 27), some (.int x1), some (.int (s_no (q_wk g x1))), some (.int (((60 : Int32) * x1) + (g 27 0))), none, none, none, none, none]) (S' := [.ref 27]) (fun _ => rfl) ?_
  refine m_gR (q := 32) rfl (by decide) ?_
  refine m_n 4 (pc' := 25) (L' := [some (.ref 27), some (.int x1), some (.int (s_no (q_wk g x1))), some (.int (((60 : Int32) * x1) + (g 27 0))), none, none, none, none, none]) (S' := [.ref 27, .int ((12 : Int32) * x1), .ref 32]) (fun _ => rfl) ?_
  refine m_gI rfl ?_
  refine m_n 1 (pc' := 30) (L' := [some (.ref 27), some (.int x1), some (.int (s_no (q_wk g x1))), some (.int (((60 : Int32) * x1) + (g 27 0))), none, none, none, none, none]) (S' := [.int (12 : Int32), .int (g 27 0), .int ((12 : Int32) * x1), .ref 32]) (fun _ => rfl) ?_
  refine m_d (c := (12 : Int32) = 0) (pc' := 31) (L' := [some (.ref 27), some (.int x1), some (.int (s_no (q_wk g x1))), some (.int (((60 : Int32) * x1) + (g 27 0))), none, none, none, none, none]) (S' := [.int ((g 27 0) - (g 27 0) / (12 : Int32) * (12 : Int32)), .int ((12 : Int32) * x1), .ref 32]) rfl (fun _ => rfl) (by decide) ?_
  refine m_n 1 (pc' := 32) (L' := [some (.ref 27), some (.int x1), some (.int (s_no (q_wk g x1))), some (.int (((60 : Int32) * x1) + (g 27 0))), none, none, none, none, none]) (S' := [.int (((12 : Int32) * x1) + ((g 27 0) - (g 27 0) / (12 : Int32) * (12 : Int32))), .ref 32]) (fun _ => rfl) ?_
  obtain ⟨o2, H⟩ := H
  refine m_ia 72 rfl rfl o2 ?_
  have hj4 : MG z_pV 176 41 [some (.ref 27), some (.int x1), some (.int (s_no (q_wk g x1))), some (.int (((60 : Int32) * x1) + (g 27 0))), none, none, none, none, none] [.int (z_bt (¬ ((g 32 (z_ix (((12 : Int32) * x1) + ((g 27 0) - (g 27 0) / (12 : Int32) * (12 : Int32))))) ≤ 0)))] g Q := by
    refine m_n 2 (pc' := 44) (L' := [some (.ref 27), some (.int x1), some (.int (s_no (q_wk g x1))), some (.int (((60 : Int32) * x1) + (g 27 0))), some (.int (z_bt (¬ ((g 32 (z_ix (((12 : Int32) * x1) + ((g 27 0) - (g 27 0) / (12 : Int32) * (12 : Int32))))) ≤ 0)))), none, none, none, none]) (S' := [.ref 27]) (fun _ => rfl) ?_
    refine m_gR (q := 36) rfl (by decide) ?_
    refine m_n 2 (pc' := 49) (L' := [some (.ref 27), some (.int x1), some (.int (s_no (q_wk g x1))), some (.int (((60 : Int32) * x1) + (g 27 0))), some (.int (z_bt (¬ ((g 32 (z_ix (((12 : Int32) * x1) + ((g 27 0) - (g 27 0) / (12 : Int32) * (12 : Int32))))) ≤ 0)))), none, none, none, none]) (S' := [.int (0 : Int32), .int (((60 : Int32) * x1) + (g 27 0)), .ref 36]) (fun _ => rfl) ?_
    obtain ⟨o5, H⟩ := H
    refine m_is 360 rfl rfl rfl o5 ?_
    obtain ⟨g6, eg6⟩ : ∃ m : zG, m = (z_up2 g 36 (z_ix (((60 : Int32) * x1) + (g 27 0))) (0 : Int32)) := ⟨_, rfl⟩
    have H := H g6 eg6
    refine z_nmG eg6 ?_
    refine m_n 1 (pc' := 51) (L' := [some (.ref 27), some (.int x1), some (.int (s_no (q_wk g x1))), some (.int (((60 : Int32) * x1) + (g 27 0))), some (.int (z_bt (¬ ((g 32 (z_ix (((12 : Int32) * x1) + ((g 27 0) - (g 27 0) / (12 : Int32) * (12 : Int32))))) ≤ 0)))), none, none, none, none]) (S' := [.ref 27]) (fun _ => rfl) ?_
    refine m_gR (q := 37) rfl (by decide) ?_
    refine m_n 2 (pc' := 56) (L' := [some (.ref 27), some (.int x1), some (.int (s_no (q_wk g x1))), some (.int (((60 : Int32) * x1) + (g 27 0))), some (.int (z_bt (¬ ((g 32 (z_ix (((12 : Int32) * x1) + ((g 27 0) - (g 27 0) / (12 : Int32) * (12 : Int32))))) ≤ 0)))), none, none, none, none]) (S' := [.int (0 : Int32), .int (((60 : Int32) * x1) + (g 27 0)), .ref 37]) (fun _ => rfl) ?_
    obtain ⟨o7, H⟩ := H
    refine m_is 360 rfl rfl rfl o7 ?_
    obtain ⟨g8, eg8⟩ : ∃ m : zG, m = (z_up2 g6 37 (z_ix (((60 : Int32) * x1) + (g 27 0))) (0 : Int32)) := ⟨_, rfl⟩
    have H := H g8 eg8
    refine z_nmG eg8 ?_
    refine m_n 2 (pc' := 60) (L' := [some (.ref 27), some (.int x1), some (.int (s_no (q_wk g x1))), some (.int (((60 : Int32) * x1) + (g 27 0))), some (.int (z_bt (¬ ((g 32 (z_ix (((12 : Int32) * x1) + ((g 27 0) - (g 27 0) / (12 : Int32) * (12 : Int32))))) ≤ 0)))), none, none, none, none]) (S' := [.int (-4 : Int32), .int (s_no (q_wk g x1))]) (fun _ => rfl) ?_
    refine m_b (c := s_no (q_wk g x1) = (-4 : Int32)) (pc' := 240) (L' := [some (.ref 27), some (.int x1), some (.int (s_no (q_wk g x1))), some (.int (((60 : Int32) * x1) + (g 27 0))), some (.int (z_bt (¬ ((g 32 (z_ix (((12 : Int32) * x1) + ((g 27 0) - (g 27 0) / (12 : Int32) * (12 : Int32))))) ≤ 0)))), none, none, none, none]) (S' := []) (pc2 := 63) (L2 := [some (.ref 27), some (.int x1), some (.int (s_no (q_wk g x1))), some (.int (((60 : Int32) * x1) + (g 27 0))), some (.int (z_bt (¬ ((g 32 (z_ix (((12 : Int32) * x1) + ((g 27 0) - (g 27 0) / (12 : Int32) * (12 : Int32))))) ≤ 0)))), none, none, none, none]) (S2 := []) rfl (fun _ => rfl) (fun hc => ?_) (fun hc => ?_)
    · have hc := hc
      rw [if_pos hc] at H
      refine m_n 1 (pc' := 241) (L' := [some (.ref 27), some (.int x1), some (.int (s_no (q_wk g x1))), some (.int (((60 : Int32) * x1) + (g 27 0))), some (.int (z_bt (¬ ((g 32 (z_ix (((12 : Int32) * x1) + ((g 27 0) - (g 27 0) / (12 : Int32) * (12 : Int32))))) ≤ 0)))), none, none, none, none]) (S' := [.ref 27]) (fun _ => rfl) ?_
      refine m_gR (q := 38) rfl (by decide) ?_
      refine m_n 2 (pc' := 247) (L' := [some (.ref 27), some (.int x1), some (.int (s_no (q_wk g x1))), some (.int (((60 : Int32) * x1) + (g 27 0))), some (.int (z_bt (¬ ((g 32 (z_ix (((12 : Int32) * x1) + ((g 27 0) - (g 27 0) / (12 : Int32) * (12 : Int32))))) ≤ 0)))), none, none, none, none]) (S' := [.int (z_bt (¬ ((g 32 (z_ix (((12 : Int32) * x1) + ((g 27 0) - (g 27 0) / (12 : Int32) * (12 : Int32))))) ≤ 0))), .int (((60 : Int32) * x1) + (g 27 0)), .ref 38]) (fun _ => rfl) ?_
      have hj10 : MG z_pV 176 255 [some (.ref 27), some (.int x1), some (.int (s_no (q_wk g x1))), some (.int (((60 : Int32) * x1) + (g 27 0))), some (.int (z_bt (¬ ((g 32 (z_ix (((12 : Int32) * x1) + ((g 27 0) - (g 27 0) / (12 : Int32) * (12 : Int32))))) ≤ 0)))), none, none, none, none] [.int (z_bt (¬ ((g 32 (z_ix (((12 : Int32) * x1) + ((g 27 0) - (g 27 0) / (12 : Int32) * (12 : Int32))))) ≤ 0))), .int (((60 : Int32) * x1) + (g 27 0)), .ref 38] g8 Q := by
        obtain ⟨o11, H⟩ := H
        refine m_is 360 rfl rfl rfl o11 ?_
        obtain ⟨g12, eg12⟩ : ∃ m : zG, m = (z_up2 g8 38 (z_ix (((60 : Int32) * x1) + (g 27 0))) (z_bt (¬ ((g 32 (z_ix (((12 : Int32) * x1) + ((g 27 0) - (g 27 0) / (12 : Int32) * (12 : Int32))))) ≤ 0)))) := ⟨_, rfl⟩
        have H := H g12 eg12
        refine z_nmG eg12 ?_
        refine m_n 1 (pc' := 257) (L' := [some (.ref 27), some (.int x1), some (.int (s_no (q_wk g x1))), some (.int (((60 : Int32) * x1) + (g 27 0))), some (.int (z_bt (¬ ((g 32 (z_ix (((12 : Int32) * x1) + ((g 27 0) - (g 27 0) / (12 : Int32) * (12 : Int32))))) ≤ 0)))), none, none, none, none]) (S' := [.ref 27]) (fun _ => rfl) ?_
        refine m_gR (q := 39) rfl (by decide) ?_
        refine m_n 2 (pc' := 262) (L' := [some (.ref 27), some (.int x1), some (.int (s_no (q_wk g x1))), some (.int (((60 : Int32) * x1) + (g 27 0))), some (.int (z_bt (¬ ((g 32 (z_ix (((12 : Int32) * x1) + ((g 27 0) - (g 27 0) / (12 : Int32) * (12 : Int32))))) ≤ 0)))), none, none, none, none]) (S' := [.int (s_no (q_wk g x1)), .int (((60 : Int32) * x1) + (g 27 0)), .ref 39]) (fun _ => rfl) ?_
        obtain ⟨o13, H⟩ := H
        refine m_is 360 rfl rfl rfl o13 ?_
        obtain ⟨g14, eg14⟩ : ∃ m : zG, m = (z_up2 g12 39 (z_ix (((60 : Int32) * x1) + (g 27 0))) (s_no (q_wk g x1))) := ⟨_, rfl⟩
        have H := H g14 eg14
        refine z_nmG eg14 ?_
        refine m_n 1 (pc' := 264) (L' := [some (.ref 27), some (.int x1), some (.int (s_no (q_wk g x1))), some (.int (((60 : Int32) * x1) + (g 27 0))), some (.int (z_bt (¬ ((g 32 (z_ix (((12 : Int32) * x1) + ((g 27 0) - (g 27 0) / (12 : Int32) * (12 : Int32))))) ≤ 0)))), none, none, none, none]) (S' := [.ref 27]) (fun _ => rfl) ?_
        refine m_gR (q := 40) rfl (by decide) ?_
        refine m_n 2 (pc' := 269) (L' := [some (.ref 27), some (.int x1), some (.int (s_no (q_wk g x1))), some (.int (((60 : Int32) * x1) + (g 27 0))), some (.int (z_bt (¬ ((g 32 (z_ix (((12 : Int32) * x1) + ((g 27 0) - (g 27 0) / (12 : Int32) * (12 : Int32))))) ≤ 0)))), none, none, none, none]) (S' := [.ref 27, .int (((60 : Int32) * x1) + (g 27 0)), .ref 40]) (fun _ => rfl) ?_
        refine m_gR (q := 30) rfl (by decide) ?_
        refine m_n 1 (pc' := 273) (L' := [some (.ref 27), some (.int x1), some (.int (s_no (q_wk g x1))), some (.int (((60 : Int32) * x1) + (g 27 0))), some (.int (z_bt (¬ ((g 32 (z_ix (((12 : Int32) * x1) + ((g 27 0) - (g 27 0) / (12 : Int32) * (12 : Int32))))) ≤ 0)))), none, none, none, none]) (S' := [.int x1, .ref 30, .int (((60 : Int32) * x1) + (g 27 0)), .ref 40]) (fun _ => rfl) ?_
        obtain ⟨o15, H⟩ := H
        refine m_ia 6 rfl rfl o15 ?_
        obtain ⟨o16, H⟩ := H
        refine m_is 360 rfl rfl rfl o16 ?_
        obtain ⟨g17, eg17⟩ : ∃ m : zG, m = (z_up2 g14 40 (z_ix (((60 : Int32) * x1) + (g 27 0))) (g14 30 (z_ix x1))) := ⟨_, rfl⟩
        have H := H g17 eg17
        refine z_nmG eg17 ?_
        refine m_n 1 (pc' := 276) (L' := [some (.ref 27), some (.int x1), some (.int (s_no (q_wk g x1))), some (.int (((60 : Int32) * x1) + (g 27 0))), some (.int (z_bt (¬ ((g 32 (z_ix (((12 : Int32) * x1) + ((g 27 0) - (g 27 0) / (12 : Int32) * (12 : Int32))))) ≤ 0)))), none, none, none, none]) (S' := [.ref 27]) (fun _ => rfl) ?_
        refine m_gR (q := 41) rfl (by decide) ?_
        refine m_n 2 (pc' := 281) (L' := [some (.ref 27), some (.int x1), some (.int (s_no (q_wk g x1))), some (.int (((60 : Int32) * x1) + (g 27 0))), some (.int (z_bt (¬ ((g 32 (z_ix (((12 : Int32) * x1) + ((g 27 0) - (g 27 0) / (12 : Int32) * (12 : Int32))))) ≤ 0)))), none, none, none, none]) (S' := [.ref 27, .int (((60 : Int32) * x1) + (g 27 0)), .ref 41]) (fun _ => rfl) ?_
        refine m_gR (q := 31) rfl (by decide) ?_
        refine m_n 1 (pc' := 285) (L' := [some (.ref 27), some (.int x1), some (.int (s_no (q_wk g x1))), some (.int (((60 : Int32) * x1) + (g 27 0))), some (.int (z_bt (¬ ((g 32 (z_ix (((12 : Int32) * x1) + ((g 27 0) - (g 27 0) / (12 : Int32) * (12 : Int32))))) ≤ 0)))), none, none, none, none]) (S' := [.int x1, .ref 31, .int (((60 : Int32) * x1) + (g 27 0)), .ref 41]) (fun _ => rfl) ?_
        obtain ⟨o18, H⟩ := H
        refine m_ia 6 rfl rfl o18 ?_
        obtain ⟨o19, H⟩ := H
        refine m_is 360 rfl rfl rfl o19 ?_
        obtain ⟨g20, eg20⟩ : ∃ m : zG, m = (z_up2 g17 41 (z_ix (((60 : Int32) * x1) + (g 27 0))) (g17 31 (z_ix x1))) := ⟨_, rfl⟩
        have H := H g20 eg20
        refine z_nmG eg20 ?_
        refine m_n 1 (pc' := 288) (L' := [some (.ref 27), some (.int x1), some (.int (s_no (q_wk g x1))), some (.int (((60 : Int32) * x1) + (g 27 0))), some (.int (z_bt (¬ ((g 32 (z_ix (((12 : Int32) * x1) + ((g 27 0) - (g 27 0) / (12 : Int32) * (12 : Int32))))) ≤ 0)))), none, none, none, none]) (S' := [.ref 27]) (fun _ => rfl) ?_
        refine m_gR (q := 33) rfl (by decide) ?_
        refine m_n 2 (pc' := 293) (L' := [some (.ref 27), some (.int x1), some (.int (s_no (q_wk g x1))), some (.int (((60 : Int32) * x1) + (g 27 0))), some (.int (z_bt (¬ ((g 32 (z_ix (((12 : Int32) * x1) + ((g 27 0) - (g 27 0) / (12 : Int32) * (12 : Int32))))) ≤ 0)))), none, none, none, none]) (S' := [.int x1, .ref 33, .int x1, .ref 33]) (fun _ => rfl) ?_
        obtain ⟨o21, H⟩ := H
        refine m_ia 6 rfl rfl o21 ?_
        refine m_n 1 (pc' := 295) (L' := [some (.ref 27), some (.int x1), some (.int (s_no (q_wk g x1))), some (.int (((60 : Int32) * x1) + (g 27 0))), some (.int (z_bt (¬ ((g 32 (z_ix (((12 : Int32) * x1) + ((g 27 0) - (g 27 0) / (12 : Int32) * (12 : Int32))))) ≤ 0)))), none, none, none, none]) (S' := [.ref 27, .int (g20 33 (z_ix x1)), .int x1, .ref 33]) (fun _ => rfl) ?_
        refine m_gR (q := 38) rfl (by decide) ?_
        refine m_n 1 (pc' := 299) (L' := [some (.ref 27), some (.int x1), some (.int (s_no (q_wk g x1))), some (.int (((60 : Int32) * x1) + (g 27 0))), some (.int (z_bt (¬ ((g 32 (z_ix (((12 : Int32) * x1) + ((g 27 0) - (g 27 0) / (12 : Int32) * (12 : Int32))))) ≤ 0)))), none, none, none, none]) (S' := [.int (((60 : Int32) * x1) + (g 27 0)), .ref 38, .int (g20 33 (z_ix x1)), .int x1, .ref 33]) (fun _ => rfl) ?_
        obtain ⟨o22, H⟩ := H
        refine m_ia 360 rfl rfl o22 ?_
        refine m_n 1 (pc' := 301) (L' := [some (.ref 27), some (.int x1), some (.int (s_no (q_wk g x1))), some (.int (((60 : Int32) * x1) + (g 27 0))), some (.int (z_bt (¬ ((g 32 (z_ix (((12 : Int32) * x1) + ((g 27 0) - (g 27 0) / (12 : Int32) * (12 : Int32))))) ≤ 0)))), none, none, none, none]) (S' := [.int ((g20 33 (z_ix x1)) + (g20 38 (z_ix (((60 : Int32) * x1) + (g 27 0))))), .int x1, .ref 33]) (fun _ => rfl) ?_
        obtain ⟨o23, H⟩ := H
        refine m_is 6 rfl rfl rfl o23 ?_
        obtain ⟨g24, eg24⟩ : ∃ m : zG, m = (z_up2 g20 33 (z_ix x1) ((g20 33 (z_ix x1)) + (g20 38 (z_ix (((60 : Int32) * x1) + (g 27 0)))))) := ⟨_, rfl⟩
        have H := H g24 eg24
        refine z_nmG eg24 ?_
        exact m_r rfl rfl rfl H
      refine m_b (c := z_bt (¬ ((g 32 (z_ix (((12 : Int32) * x1) + ((g 27 0) - (g 27 0) / (12 : Int32) * (12 : Int32))))) ≤ 0)) = 0) (pc' := 254) (L' := [some (.ref 27), some (.int x1), some (.int (s_no (q_wk g x1))), some (.int (((60 : Int32) * x1) + (g 27 0))), some (.int (z_bt (¬ ((g 32 (z_ix (((12 : Int32) * x1) + ((g 27 0) - (g 27 0) / (12 : Int32) * (12 : Int32))))) ≤ 0)))), none, none, none, none]) (S' := [.int (((60 : Int32) * x1) + (g 27 0)), .ref 38]) (pc2 := 250) (L2 := [some (.ref 27), some (.int x1), some (.int (s_no (q_wk g x1))), some (.int (((60 : Int32) * x1) + (g 27 0))), some (.int (z_bt (¬ ((g 32 (z_ix (((12 : Int32) * x1) + ((g 27 0) - (g 27 0) / (12 : Int32) * (12 : Int32))))) ≤ 0)))), none, none, none, none]) (S2 := [.int (((60 : Int32) * x1) + (g 27 0)), .ref 38]) rfl (fun _ => rfl) (fun hc => ?_) (fun hc => ?_)
      · have c9 := z_bt_0.mp hc
        refine m_n 1 (pc' := 255) (L' := [some (.ref 27), some (.int x1), some (.int (s_no (q_wk g x1))), some (.int (((60 : Int32) * x1) + (g 27 0))), some (.int (z_bt (¬ ((g 32 (z_ix (((12 : Int32) * x1) + ((g 27 0) - (g 27 0) / (12 : Int32) * (12 : Int32))))) ≤ 0)))), none, none, none, none]) (S' := [.int (0 : Int32), .int (((60 : Int32) * x1) + (g 27 0)), .ref 38]) (fun _ => rfl) ?_
        rw [show z_bt (¬ ((g 32 (z_ix (((12 : Int32) * x1) + ((g 27 0) - (g 27 0) / (12 : Int32) * (12 : Int32))))) ≤ 0)) = 0 from z_bt_0.mpr (c9)] at hj10
        (rw [show z_bt (¬ ((g 32 (z_ix (((12 : Int32) * x1) + ((g 27 0) - (g 27 0) / (12 : Int32) * (12 : Int32))))) ≤ 0)) = 0 from z_bt_0.mpr (c9)]; exact hj10)
      · have c9 := Decidable.not_not.mp (fun q => hc (z_bt_0.mpr q))
        refine m_n 2 (pc' := 255) (L' := [some (.ref 27), some (.int x1), some (.int (s_no (q_wk g x1))), some (.int (((60 : Int32) * x1) + (g 27 0))), some (.int (z_bt (¬ ((g 32 (z_ix (((12 : Int32) * x1) + ((g 27 0) - (g 27 0) / (12 : Int32) * (12 : Int32))))) ≤ 0)))), none, none, none, none]) (S' := [.int (1 : Int32), .int (((60 : Int32) * x1) + (g 27 0)), .ref 38]) (fun _ => rfl) ?_
        rw [show z_bt (¬ ((g 32 (z_ix (((12 : Int32) * x1) + ((g 27 0) - (g 27 0) / (12 : Int32) * (12 : Int32))))) ≤ 0)) = 1 from z_bt_1.mpr (c9)] at hj10
        (rw [show z_bt (¬ ((g 32 (z_ix (((12 : Int32) * x1) + ((g 27 0) - (g 27 0) / (12 : Int32) * (12 : Int32))))) ≤ 0)) = 1 from z_bt_1.mpr (c9)]; exact hj10)
    · have hc := hc
      rw [if_neg hc] at H
      refine m_n 3 (pc' := 66) (L' := [some (.ref 27), some (.int x1), some (.int (s_no (q_wk g x1))), some (.int (((60 : Int32) * x1) + (g 27 0))), some (.int (z_bt (¬ ((g 32 (z_ix (((12 : Int32) * x1) + ((g 27 0) - (g 27 0) / (12 : Int32) * (12 : Int32))))) ≤ 0)))), none, none, none, none]) (S' := [.ref 27, .int x1, .ref 27]) (fun _ => rfl) ?_
      refine m_gI rfl ?_
      refine m_n 1 (pc' := 70) (L' := [some (.ref 27), some (.int x1), some (.int (s_no (q_wk g x1))), some (.int (((60 : Int32) * x1) + (g 27 0))), some (.int (z_bt (¬ ((g 32 (z_ix (((12 : Int32) * x1) + ((g 27 0) - (g 27 0) / (12 : Int32) * (12 : Int32))))) ≤ 0)))), none, none, none, none]) (S' := [.ref 27, .int (g8 27 0), .int x1, .ref 27]) (fun _ => rfl) ?_
      refine m_gR (q := 48) rfl (by decide) ?_
      refine m_n 1 (pc' := 74) (L' := [some (.ref 27), some (.int x1), some (.int (s_no (q_wk g x1))), some (.int (((60 : Int32) * x1) + (g 27 0))), some (.int (z_bt (¬ ((g 32 (z_ix (((12 : Int32) * x1) + ((g 27 0) - (g 27 0) / (12 : Int32) * (12 : Int32))))) ≤ 0)))), none, none, none, none]) (S' := [.int (s_no (q_wk g x1)), .ref 48, .int (g8 27 0), .int x1, .ref 27]) (fun _ => rfl) ?_
      obtain ⟨o25, H⟩ := H
      refine m_ia 12 rfl rfl o25 ?_
      refine m_cL 174 4 rfl rfl rfl (A := [.ref 27, .int x1, .int (g8 27 0), .int (g8 48 (z_ix (s_no (q_wk g x1))))]) rfl rfl (Or.inr ⟨rfl, _, rfl⟩) (rest := []) rfl rfl ?_
      obtain ⟨o26, H⟩ := H
      obtain ⟨o27, H⟩ := H
      obtain ⟨o28, H⟩ := H
      refine X_174 x1 (g8 27 0) (g8 48 (z_ix (s_no (q_wk g x1)))) g8 ⟨o26, ⟨o27, ⟨o28, ?_⟩⟩⟩
      refine m_n 3 (pc' := 83) (L' := [some (.ref 27), some (.int x1), some (.int (s_no (q_wk g x1))), some (.int (((60 : Int32) * x1) + (g 27 0))), some (.int (z_bt (¬ ((g 32 (z_ix (((12 : Int32) * x1) + ((g 27 0) - (g 27 0) / (12 : Int32) * (12 : Int32))))) ≤ 0)))), some (.long (((((g8 32 (z_ix (((12 : Int32) * x1) + ((g8 27 0) - (g8 27 0) / (12 : Int32) * (12 : Int32))))).toInt64 * (g8 30 (z_ix x1)).toInt64) + (g8 48 (z_ix (s_no (q_wk g x1)))).toInt64) - (1 : Int64)) / (g8 48 (z_ix (s_no (q_wk g x1)))).toInt64)), none, none, none]) (S' := [.ref 27, .long (((((g8 32 (z_ix (((12 : Int32) * x1) + ((g8 27 0) - (g8 27 0) / (12 : Int32) * (12 : Int32))))).toInt64 * (g8 30 (z_ix x1)).toInt64) + (g8 48 (z_ix (s_no (q_wk g x1)))).toInt64) - (1 : Int64)) / (g8 48 (z_ix (s_no (q_wk g x1)))).toInt64)]) (fun _ => rfl) ?_
      refine m_gR (q := 50) rfl (by decide) ?_
      refine m_n 1 (pc' := 87) (L' := [some (.ref 27), some (.int x1), some (.int (s_no (q_wk g x1))), some (.int (((60 : Int32) * x1) + (g 27 0))), some (.int (z_bt (¬ ((g 32 (z_ix (((12 : Int32) * x1) + ((g 27 0) - (g 27 0) / (12 : Int32) * (12 : Int32))))) ≤ 0)))), some (.long (((((g8 32 (z_ix (((12 : Int32) * x1) + ((g8 27 0) - (g8 27 0) / (12 : Int32) * (12 : Int32))))).toInt64 * (g8 30 (z_ix x1)).toInt64) + (g8 48 (z_ix (s_no (q_wk g x1)))).toInt64) - (1 : Int64)) / (g8 48 (z_ix (s_no (q_wk g x1)))).toInt64)), none, none, none]) (S' := [.int (s_no (q_wk g x1)), .ref 50, .long (((((g8 32 (z_ix (((12 : Int32) * x1) + ((g8 27 0) - (g8 27 0) / (12 : Int32) * (12 : Int32))))).toInt64 * (g8 30 (z_ix x1)).toInt64) + (g8 48 (z_ix (s_no (q_wk g x1)))).toInt64) - (1 : Int64)) / (g8 48 (z_ix (s_no (q_wk g x1)))).toInt64)]) (fun _ => rfl) ?_
      obtain ⟨o29, H⟩ := H
      refine m_ia 12 rfl rfl o29 ?_
      refine m_n 2 (pc' := 90) (L' := [some (.ref 27), some (.int x1), some (.int (s_no (q_wk g x1))), some (.int (((60 : Int32) * x1) + (g 27 0))), some (.int (z_bt (¬ ((g 32 (z_ix (((12 : Int32) * x1) + ((g 27 0) - (g 27 0) / (12 : Int32) * (12 : Int32))))) ≤ 0)))), some (.long (((((g8 32 (z_ix (((12 : Int32) * x1) + ((g8 27 0) - (g8 27 0) / (12 : Int32) * (12 : Int32))))).toInt64 * (g8 30 (z_ix x1)).toInt64) + (g8 48 (z_ix (s_no (q_wk g x1)))).toInt64) - (1 : Int64)) / (g8 48 (z_ix (s_no (q_wk g x1)))).toInt64)), none, none, none]) (S' := [.int (z_cmp (((((g8 32 (z_ix (((12 : Int32) * x1) + ((g8 27 0) - (g8 27 0) / (12 : Int32) * (12 : Int32))))).toInt64 * (g8 30 (z_ix x1)).toInt64) + (g8 48 (z_ix (s_no (q_wk g x1)))).toInt64) - (1 : Int64)) / (g8 48 (z_ix (s_no (q_wk g x1)))).toInt64) ((g8 50 (z_ix (s_no (q_wk g x1)))).toInt64))]) (fun _ => rfl) ?_
      obtain ⟨o31, H⟩ := H
      obtain ⟨m32, em32⟩ : ∃ m : Int64, m = (if (((((g8 32 (z_ix (((12 : Int32) * x1) + ((g8 27 0) - (g8 27 0) / (12 : Int32) * (12 : Int32))))).toInt64 * (g8 30 (z_ix x1)).toInt64) + (g8 48 (z_ix (s_no (q_wk g x1)))).toInt64) - (1 : Int64)) / (g8 48 (z_ix (s_no (q_wk g x1)))).toInt64) ≤ (g8 50 (z_ix (s_no (q_wk g x1)))).toInt64 then (((((g8 32 (z_ix (((12 : Int32) * x1) + ((g8 27 0) - (g8 27 0) / (12 : Int32) * (12 : Int32))))).toInt64 * (g8 30 (z_ix x1)).toInt64) + (g8 48 (z_ix (s_no (q_wk g x1)))).toInt64) - (1 : Int64)) / (g8 48 (z_ix (s_no (q_wk g x1)))).toInt64) else (g8 50 (z_ix (s_no (q_wk g x1)))).toInt64) := ⟨_, rfl⟩
      have H := H m32 em32
      have hj33 : MG z_pV 176 105 [some (.ref 27), some (.int x1), some (.int (s_no (q_wk g x1))), some (.int (((60 : Int32) * x1) + (g 27 0))), some (.int (z_bt (¬ ((g 32 (z_ix (((12 : Int32) * x1) + ((g 27 0) - (g 27 0) / (12 : Int32) * (12 : Int32))))) ≤ 0)))), some (.long (((((g8 32 (z_ix (((12 : Int32) * x1) + ((g8 27 0) - (g8 27 0) / (12 : Int32) * (12 : Int32))))).toInt64 * (g8 30 (z_ix x1)).toInt64) + (g8 48 (z_ix (s_no (q_wk g x1)))).toInt64) - (1 : Int64)) / (g8 48 (z_ix (s_no (q_wk g x1)))).toInt64)), none, none, none] [.long m32] g8 Q := by
        refine m_n 5 (pc' := 112) (L' := [some (.ref 27), some (.int x1), some (.int (s_no (q_wk g x1))), some (.int (((60 : Int32) * x1) + (g 27 0))), some (.int (z_bt (¬ ((g 32 (z_ix (((12 : Int32) * x1) + ((g 27 0) - (g 27 0) / (12 : Int32) * (12 : Int32))))) ≤ 0)))), some (.long (((((g8 32 (z_ix (((12 : Int32) * x1) + ((g8 27 0) - (g8 27 0) / (12 : Int32) * (12 : Int32))))).toInt64 * (g8 30 (z_ix x1)).toInt64) + (g8 48 (z_ix (s_no (q_wk g x1)))).toInt64) - (1 : Int64)) / (g8 48 (z_ix (s_no (q_wk g x1)))).toInt64)), none, some (.int m32.toInt32), none]) (S' := [.ref 27, .long m32.toInt32.toInt64]) (fun _ => rfl) ?_
        refine m_gR (q := 48) rfl (by decide) ?_
        refine m_n 1 (pc' := 116) (L' := [some (.ref 27), some (.int x1), some (.int (s_no (q_wk g x1))), some (.int (((60 : Int32) * x1) + (g 27 0))), some (.int (z_bt (¬ ((g 32 (z_ix (((12 : Int32) * x1) + ((g 27 0) - (g 27 0) / (12 : Int32) * (12 : Int32))))) ≤ 0)))), some (.long (((((g8 32 (z_ix (((12 : Int32) * x1) + ((g8 27 0) - (g8 27 0) / (12 : Int32) * (12 : Int32))))).toInt64 * (g8 30 (z_ix x1)).toInt64) + (g8 48 (z_ix (s_no (q_wk g x1)))).toInt64) - (1 : Int64)) / (g8 48 (z_ix (s_no (q_wk g x1)))).toInt64)), none, some (.int m32.toInt32), none]) (S' := [.int (s_no (q_wk g x1)), .ref 48, .long m32.toInt32.toInt64]) (fun _ => rfl) ?_
        obtain ⟨o34, H⟩ := H
        refine m_ia 12 rfl rfl o34 ?_
        refine m_n 1 (pc' := 118) (L' := [some (.ref 27), some (.int x1), some (.int (s_no (q_wk g x1))), some (.int (((60 : Int32) * x1) + (g 27 0))), some (.int (z_bt (¬ ((g 32 (z_ix (((12 : Int32) * x1) + ((g 27 0) - (g 27 0) / (12 : Int32) * (12 : Int32))))) ≤ 0)))), some (.long (((((g8 32 (z_ix (((12 : Int32) * x1) + ((g8 27 0) - (g8 27 0) / (12 : Int32) * (12 : Int32))))).toInt64 * (g8 30 (z_ix x1)).toInt64) + (g8 48 (z_ix (s_no (q_wk g x1)))).toInt64) - (1 : Int64)) / (g8 48 (z_ix (s_no (q_wk g x1)))).toInt64)), none, some (.int m32.toInt32), none]) (S' := [.ref 27, .int (g8 48 (z_ix (s_no (q_wk g x1)))), .long m32.toInt32.toInt64]) (fun _ => rfl) ?_
        refine m_gR (q := 49) rfl (by decide) ?_
        refine m_n 1 (pc' := 122) (L' := [some (.ref 27), some (.int x1), some (.int (s_no (q_wk g x1))), some (.int (((60 : Int32) * x1) + (g 27 0))), some (.int (z_bt (¬ ((g 32 (z_ix (((12 : Int32) * x1) + ((g 27 0) - (g 27 0) / (12 : Int32) * (12 : Int32))))) ≤ 0)))), some (.long (((((g8 32 (z_ix (((12 : Int32) * x1) + ((g8 27 0) - (g8 27 0) / (12 : Int32) * (12 : Int32))))).toInt64 * (g8 30 (z_ix x1)).toInt64) + (g8 48 (z_ix (s_no (q_wk g x1)))).toInt64) - (1 : Int64)) / (g8 48 (z_ix (s_no (q_wk g x1)))).toInt64)), none, some (.int m32.toInt32), none]) (S' := [.int (s_no (q_wk g x1)), .ref 49, .int (g8 48 (z_ix (s_no (q_wk g x1)))), .long m32.toInt32.toInt64]) (fun _ => rfl) ?_
        obtain ⟨o35, H⟩ := H
        refine m_ia 12 rfl rfl o35 ?_
        refine m_n 1 (pc' := 124) (L' := [some (.ref 27), some (.int x1), some (.int (s_no (q_wk g x1))), some (.int (((60 : Int32) * x1) + (g 27 0))), some (.int (z_bt (¬ ((g 32 (z_ix (((12 : Int32) * x1) + ((g 27 0) - (g 27 0) / (12 : Int32) * (12 : Int32))))) ≤ 0)))), some (.long (((((g8 32 (z_ix (((12 : Int32) * x1) + ((g8 27 0) - (g8 27 0) / (12 : Int32) * (12 : Int32))))).toInt64 * (g8 30 (z_ix x1)).toInt64) + (g8 48 (z_ix (s_no (q_wk g x1)))).toInt64) - (1 : Int64)) / (g8 48 (z_ix (s_no (q_wk g x1)))).toInt64)), none, some (.int m32.toInt32), none]) (S' := [.ref 27, .int (g8 49 (z_ix (s_no (q_wk g x1)))), .int (g8 48 (z_ix (s_no (q_wk g x1)))), .long m32.toInt32.toInt64]) (fun _ => rfl) ?_
        refine m_gR (q := 52) rfl (by decide) ?_
        refine m_n 1 (pc' := 128) (L' := [some (.ref 27), some (.int x1), some (.int (s_no (q_wk g x1))), some (.int (((60 : Int32) * x1) + (g 27 0))), some (.int (z_bt (¬ ((g 32 (z_ix (((12 : Int32) * x1) + ((g 27 0) - (g 27 0) / (12 : Int32) * (12 : Int32))))) ≤ 0)))), some (.long (((((g8 32 (z_ix (((12 : Int32) * x1) + ((g8 27 0) - (g8 27 0) / (12 : Int32) * (12 : Int32))))).toInt64 * (g8 30 (z_ix x1)).toInt64) + (g8 48 (z_ix (s_no (q_wk g x1)))).toInt64) - (1 : Int64)) / (g8 48 (z_ix (s_no (q_wk g x1)))).toInt64)), none, some (.int m32.toInt32), none]) (S' := [.int (s_no (q_wk g x1)), .ref 52, .int (g8 49 (z_ix (s_no (q_wk g x1)))), .int (g8 48 (z_ix (s_no (q_wk g x1)))), .long m32.toInt32.toInt64]) (fun _ => rfl) ?_
        obtain ⟨o36, H⟩ := H
        refine m_ia 12 rfl rfl o36 ?_
        refine m_cL 175 4 rfl rfl rfl (A := [.long m32.toInt32.toInt64, .int (g8 48 (z_ix (s_no (q_wk g x1)))), .int (g8 49 (z_ix (s_no (q_wk g x1)))), .int (g8 52 (z_ix (s_no (q_wk g x1))))]) rfl rfl (Or.inl rfl) (rest := []) rfl rfl ?_
        obtain ⟨o38, H⟩ := H
        obtain ⟨m37, em37⟩ : ∃ m : Int64, m = (if (1 : Int64) ≤ (((g8 49 (z_ix (s_no (q_wk g x1)))).toInt64 * (100 : Int64)) / ((100 : Int32) + (g8 52 (z_ix (s_no (q_wk g x1))))).toInt64) then (((g8 49 (z_ix (s_no (q_wk g x1)))).toInt64 * (100 : Int64)) / ((100 : Int32) + (g8 52 (z_ix (s_no (q_wk g x1))))).toInt64) else (1 : Int64)) := ⟨_, rfl⟩
        have H := H m37 em37
        obtain ⟨o39, H⟩ := H
        refine X_175 m32.toInt32.toInt64 (g8 48 (z_ix (s_no (q_wk g x1)))) (g8 49 (z_ix (s_no (q_wk g x1)))) (g8 52 (z_ix (s_no (q_wk g x1)))) g8 ⟨o38, (z_all em37 ⟨o39, ?_⟩)⟩
        refine m_n 4 (pc' := 138) (L' := [some (.ref 27), some (.int x1), some (.int (s_no (q_wk g x1))), some (.int (((60 : Int32) * x1) + (g 27 0))), some (.int (z_bt (¬ ((g 32 (z_ix (((12 : Int32) * x1) + ((g 27 0) - (g 27 0) / (12 : Int32) * (12 : Int32))))) ≤ 0)))), some (.long (((((g8 32 (z_ix (((12 : Int32) * x1) + ((g8 27 0) - (g8 27 0) / (12 : Int32) * (12 : Int32))))).toInt64 * (g8 30 (z_ix x1)).toInt64) + (g8 48 (z_ix (s_no (q_wk g x1)))).toInt64) - (1 : Int64)) / (g8 48 (z_ix (s_no (q_wk g x1)))).toInt64)), none, some (.int m32.toInt32), some (.int (((((m32.toInt32.toInt64 * (g8 48 (z_ix (s_no (q_wk g x1)))).toInt64) + m37) - (1 : Int64)) / m37).toInt32))]) (S' := [.ref 27, .long (((((g8 32 (z_ix (((12 : Int32) * x1) + ((g8 27 0) - (g8 27 0) / (12 : Int32) * (12 : Int32))))).toInt64 * (g8 30 (z_ix x1)).toInt64) + (g8 48 (z_ix (s_no (q_wk g x1)))).toInt64) - (1 : Int64)) / (g8 48 (z_ix (s_no (q_wk g x1)))).toInt64)]) (fun _ => rfl) ?_
        refine m_gR (q := 50) rfl (by decide) ?_
        refine m_n 1 (pc' := 142) (L' := [some (.ref 27), some (.int x1), some (.int (s_no (q_wk g x1))), some (.int (((60 : Int32) * x1) + (g 27 0))), some (.int (z_bt (¬ ((g 32 (z_ix (((12 : Int32) * x1) + ((g 27 0) - (g 27 0) / (12 : Int32) * (12 : Int32))))) ≤ 0)))), some (.long (((((g8 32 (z_ix (((12 : Int32) * x1) + ((g8 27 0) - (g8 27 0) / (12 : Int32) * (12 : Int32))))).toInt64 * (g8 30 (z_ix x1)).toInt64) + (g8 48 (z_ix (s_no (q_wk g x1)))).toInt64) - (1 : Int64)) / (g8 48 (z_ix (s_no (q_wk g x1)))).toInt64)), none, some (.int m32.toInt32), some (.int (((((m32.toInt32.toInt64 * (g8 48 (z_ix (s_no (q_wk g x1)))).toInt64) + m37) - (1 : Int64)) / m37).toInt32))]) (S' := [.int (s_no (q_wk g x1)), .ref 50, .long (((((g8 32 (z_ix (((12 : Int32) * x1) + ((g8 27 0) - (g8 27 0) / (12 : Int32) * (12 : Int32))))).toInt64 * (g8 30 (z_ix x1)).toInt64) + (g8 48 (z_ix (s_no (q_wk g x1)))).toInt64) - (1 : Int64)) / (g8 48 (z_ix (s_no (q_wk g x1)))).toInt64)]) (fun _ => rfl) ?_
        obtain ⟨o40, H⟩ := H
        refine m_ia 12 rfl rfl o40 ?_
        refine m_n 2 (pc' := 145) (L' := [some (.ref 27), some (.int x1), some (.int (s_no (q_wk g x1))), some (.int (((60 : Int32) * x1) + (g 27 0))), some (.int (z_bt (¬ ((g 32 (z_ix (((12 : Int32) * x1) + ((g 27 0) - (g 27 0) / (12 : Int32) * (12 : Int32))))) ≤ 0)))), some (.long (((((g8 32 (z_ix (((12 : Int32) * x1) + ((g8 27 0) - (g8 27 0) / (12 : Int32) * (12 : Int32))))).toInt64 * (g8 30 (z_ix x1)).toInt64) + (g8 48 (z_ix (s_no (q_wk g x1)))).toInt64) - (1 : Int64)) / (g8 48 (z_ix (s_no (q_wk g x1)))).toInt64)), none, some (.int m32.toInt32), some (.int (((((m32.toInt32.toInt64 * (g8 48 (z_ix (s_no (q_wk g x1)))).toInt64) + m37) - (1 : Int64)) / m37).toInt32))]) (S' := [.int (z_cmp (((((g8 32 (z_ix (((12 : Int32) * x1) + ((g8 27 0) - (g8 27 0) / (12 : Int32) * (12 : Int32))))).toInt64 * (g8 30 (z_ix x1)).toInt64) + (g8 48 (z_ix (s_no (q_wk g x1)))).toInt64) - (1 : Int64)) / (g8 48 (z_ix (s_no (q_wk g x1)))).toInt64) ((g8 50 (z_ix (s_no (q_wk g x1)))).toInt64))]) (fun _ => rfl) ?_
        have hj42 : MG z_pV 176 153 [some (.ref 27), some (.int x1), some (.int (s_no (q_wk g x1))), some (.int (((60 : Int32) * x1) + (g 27 0))), some (.int (z_bt (¬ ((g 32 (z_ix (((12 : Int32) * x1) + ((g 27 0) - (g 27 0) / (12 : Int32) * (12 : Int32))))) ≤ 0)))), some (.long (((((g8 32 (z_ix (((12 : Int32) * x1) + ((g8 27 0) - (g8 27 0) / (12 : Int32) * (12 : Int32))))).toInt64 * (g8 30 (z_ix x1)).toInt64) + (g8 48 (z_ix (s_no (q_wk g x1)))).toInt64) - (1 : Int64)) / (g8 48 (z_ix (s_no (q_wk g x1)))).toInt64)), none, some (.int m32.toInt32), some (.int (((((m32.toInt32.toInt64 * (g8 48 (z_ix (s_no (q_wk g x1)))).toInt64) + m37) - (1 : Int64)) / m37).toInt32))] [.int (z_bt (¬ ((((((g8 32 (z_ix (((12 : Int32) * x1) + ((g8 27 0) - (g8 27 0) / (12 : Int32) * (12 : Int32))))).toInt64 * (g8 30 (z_ix x1)).toInt64) + (g8 48 (z_ix (s_no (q_wk g x1)))).toInt64) - (1 : Int64)) / (g8 48 (z_ix (s_no (q_wk g x1)))).toInt64) ≤ (g8 50 (z_ix (s_no (q_wk g x1)))).toInt64)))] g8 Q := by
          refine m_n 2 (pc' := 156) (L' := [some (.ref 27), some (.int x1), some (.int (s_no (q_wk g x1))), some (.int (((60 : Int32) * x1) + (g 27 0))), some (.int (z_bt (¬ ((((((g8 32 (z_ix (((12 : Int32) * x1) + ((g8 27 0) - (g8 27 0) / (12 : Int32) * (12 : Int32))))).toInt64 * (g8 30 (z_ix x1)).toInt64) + (g8 48 (z_ix (s_no (q_wk g x1)))).toInt64) - (1 : Int64)) / (g8 48 (z_ix (s_no (q_wk g x1)))).toInt64) ≤ (g8 50 (z_ix (s_no (q_wk g x1)))).toInt64)))), some (.long (((((g8 32 (z_ix (((12 : Int32) * x1) + ((g8 27 0) - (g8 27 0) / (12 : Int32) * (12 : Int32))))).toInt64 * (g8 30 (z_ix x1)).toInt64) + (g8 48 (z_ix (s_no (q_wk g x1)))).toInt64) - (1 : Int64)) / (g8 48 (z_ix (s_no (q_wk g x1)))).toInt64)), none, some (.int m32.toInt32), some (.int (((((m32.toInt32.toInt64 * (g8 48 (z_ix (s_no (q_wk g x1)))).toInt64) + m37) - (1 : Int64)) / m37).toInt32))]) (S' := [.ref 27]) (fun _ => rfl) ?_
          refine m_gR (q := 36) rfl (by decide) ?_
          refine m_n 2 (pc' := 162) (L' := [some (.ref 27), some (.int x1), some (.int (s_no (q_wk g x1))), some (.int (((60 : Int32) * x1) + (g 27 0))), some (.int (z_bt (¬ ((((((g8 32 (z_ix (((12 : Int32) * x1) + ((g8 27 0) - (g8 27 0) / (12 : Int32) * (12 : Int32))))).toInt64 * (g8 30 (z_ix x1)).toInt64) + (g8 48 (z_ix (s_no (q_wk g x1)))).toInt64) - (1 : Int64)) / (g8 48 (z_ix (s_no (q_wk g x1)))).toInt64) ≤ (g8 50 (z_ix (s_no (q_wk g x1)))).toInt64)))), some (.long (((((g8 32 (z_ix (((12 : Int32) * x1) + ((g8 27 0) - (g8 27 0) / (12 : Int32) * (12 : Int32))))).toInt64 * (g8 30 (z_ix x1)).toInt64) + (g8 48 (z_ix (s_no (q_wk g x1)))).toInt64) - (1 : Int64)) / (g8 48 (z_ix (s_no (q_wk g x1)))).toInt64)), none, some (.int m32.toInt32), some (.int (((((m32.toInt32.toInt64 * (g8 48 (z_ix (s_no (q_wk g x1)))).toInt64) + m37) - (1 : Int64)) / m37).toInt32))]) (S' := [.int m32.toInt32, .int (((60 : Int32) * x1) + (g 27 0)), .ref 36]) (fun _ => rfl) ?_
          obtain ⟨o43, H⟩ := H
          refine m_is 360 rfl rfl rfl o43 ?_
          obtain ⟨g44, eg44⟩ : ∃ m : zG, m = (z_up2 g8 36 (z_ix (((60 : Int32) * x1) + (g 27 0))) m32.toInt32) := ⟨_, rfl⟩
          have H := H g44 eg44
          refine z_nmG eg44 ?_
          refine m_n 1 (pc' := 164) (L' := [some (.ref 27), some (.int x1), some (.int (s_no (q_wk g x1))), some (.int (((60 : Int32) * x1) + (g 27 0))), some (.int (z_bt (¬ ((((((g8 32 (z_ix (((12 : Int32) * x1) + ((g8 27 0) - (g8 27 0) / (12 : Int32) * (12 : Int32))))).toInt64 * (g8 30 (z_ix x1)).toInt64) + (g8 48 (z_ix (s_no (q_wk g x1)))).toInt64) - (1 : Int64)) / (g8 48 (z_ix (s_no (q_wk g x1)))).toInt64) ≤ (g8 50 (z_ix (s_no (q_wk g x1)))).toInt64)))), some (.long (((((g8 32 (z_ix (((12 : Int32) * x1) + ((g8 27 0) - (g8 27 0) / (12 : Int32) * (12 : Int32))))).toInt64 * (g8 30 (z_ix x1)).toInt64) + (g8 48 (z_ix (s_no (q_wk g x1)))).toInt64) - (1 : Int64)) / (g8 48 (z_ix (s_no (q_wk g x1)))).toInt64)), none, some (.int m32.toInt32), some (.int (((((m32.toInt32.toInt64 * (g8 48 (z_ix (s_no (q_wk g x1)))).toInt64) + m37) - (1 : Int64)) / m37).toInt32))]) (S' := [.ref 27]) (fun _ => rfl) ?_
          refine m_gR (q := 37) rfl (by decide) ?_
          refine m_n 2 (pc' := 170) (L' := [some (.ref 27), some (.int x1), some (.int (s_no (q_wk g x1))), some (.int (((60 : Int32) * x1) + (g 27 0))), some (.int (z_bt (¬ ((((((g8 32 (z_ix (((12 : Int32) * x1) + ((g8 27 0) - (g8 27 0) / (12 : Int32) * (12 : Int32))))).toInt64 * (g8 30 (z_ix x1)).toInt64) + (g8 48 (z_ix (s_no (q_wk g x1)))).toInt64) - (1 : Int64)) / (g8 48 (z_ix (s_no (q_wk g x1)))).toInt64) ≤ (g8 50 (z_ix (s_no (q_wk g x1)))).toInt64)))), some (.long (((((g8 32 (z_ix (((12 : Int32) * x1) + ((g8 27 0) - (g8 27 0) / (12 : Int32) * (12 : Int32))))).toInt64 * (g8 30 (z_ix x1)).toInt64) + (g8 48 (z_ix (s_no (q_wk g x1)))).toInt64) - (1 : Int64)) / (g8 48 (z_ix (s_no (q_wk g x1)))).toInt64)), none, some (.int m32.toInt32), some (.int (((((m32.toInt32.toInt64 * (g8 48 (z_ix (s_no (q_wk g x1)))).toInt64) + m37) - (1 : Int64)) / m37).toInt32))]) (S' := [.int (((((m32.toInt32.toInt64 * (g8 48 (z_ix (s_no (q_wk g x1)))).toInt64) + m37) - (1 : Int64)) / m37).toInt32), .int (((60 : Int32) * x1) + (g 27 0)), .ref 37]) (fun _ => rfl) ?_
          obtain ⟨o45, H⟩ := H
          refine m_is 360 rfl rfl rfl o45 ?_
          obtain ⟨g46, eg46⟩ : ∃ m : zG, m = (z_up2 g44 37 (z_ix (((60 : Int32) * x1) + (g 27 0))) (((((m32.toInt32.toInt64 * (g8 48 (z_ix (s_no (q_wk g x1)))).toInt64) + m37) - (1 : Int64)) / m37).toInt32)) := ⟨_, rfl⟩
          have H := H g46 eg46
          refine z_nmG eg46 ?_
          refine m_n 1 (pc' := 172) (L' := [some (.ref 27), some (.int x1), some (.int (s_no (q_wk g x1))), some (.int (((60 : Int32) * x1) + (g 27 0))), some (.int (z_bt (¬ ((((((g8 32 (z_ix (((12 : Int32) * x1) + ((g8 27 0) - (g8 27 0) / (12 : Int32) * (12 : Int32))))).toInt64 * (g8 30 (z_ix x1)).toInt64) + (g8 48 (z_ix (s_no (q_wk g x1)))).toInt64) - (1 : Int64)) / (g8 48 (z_ix (s_no (q_wk g x1)))).toInt64) ≤ (g8 50 (z_ix (s_no (q_wk g x1)))).toInt64)))), some (.long (((((g8 32 (z_ix (((12 : Int32) * x1) + ((g8 27 0) - (g8 27 0) / (12 : Int32) * (12 : Int32))))).toInt64 * (g8 30 (z_ix x1)).toInt64) + (g8 48 (z_ix (s_no (q_wk g x1)))).toInt64) - (1 : Int64)) / (g8 48 (z_ix (s_no (q_wk g x1)))).toInt64)), none, some (.int m32.toInt32), some (.int (((((m32.toInt32.toInt64 * (g8 48 (z_ix (s_no (q_wk g x1)))).toInt64) + m37) - (1 : Int64)) / m37).toInt32))]) (S' := [.ref 27]) (fun _ => rfl) ?_
          refine m_gR (q := 56) rfl (by decide) ?_
          refine m_n 2 (pc' := 177) (L' := [some (.ref 27), some (.int x1), some (.int (s_no (q_wk g x1))), some (.int (((60 : Int32) * x1) + (g 27 0))), some (.int (z_bt (¬ ((((((g8 32 (z_ix (((12 : Int32) * x1) + ((g8 27 0) - (g8 27 0) / (12 : Int32) * (12 : Int32))))).toInt64 * (g8 30 (z_ix x1)).toInt64) + (g8 48 (z_ix (s_no (q_wk g x1)))).toInt64) - (1 : Int64)) / (g8 48 (z_ix (s_no (q_wk g x1)))).toInt64) ≤ (g8 50 (z_ix (s_no (q_wk g x1)))).toInt64)))), some (.long (((((g8 32 (z_ix (((12 : Int32) * x1) + ((g8 27 0) - (g8 27 0) / (12 : Int32) * (12 : Int32))))).toInt64 * (g8 30 (z_ix x1)).toInt64) + (g8 48 (z_ix (s_no (q_wk g x1)))).toInt64) - (1 : Int64)) / (g8 48 (z_ix (s_no (q_wk g x1)))).toInt64)), none, some (.int m32.toInt32), some (.int (((((m32.toInt32.toInt64 * (g8 48 (z_ix (s_no (q_wk g x1)))).toInt64) + m37) - (1 : Int64)) / m37).toInt32))]) (S' := [.int (s_no (q_wk g x1)), .ref 56, .int (s_no (q_wk g x1)), .ref 56]) (fun _ => rfl) ?_
          obtain ⟨o47, H⟩ := H
          refine m_ia 12 rfl rfl o47 ?_
          refine m_n 2 (pc' := 181) (L' := [some (.ref 27), some (.int x1), some (.int (s_no (q_wk g x1))), some (.int (((60 : Int32) * x1) + (g 27 0))), some (.int (z_bt (¬ ((((((g8 32 (z_ix (((12 : Int32) * x1) + ((g8 27 0) - (g8 27 0) / (12 : Int32) * (12 : Int32))))).toInt64 * (g8 30 (z_ix x1)).toInt64) + (g8 48 (z_ix (s_no (q_wk g x1)))).toInt64) - (1 : Int64)) / (g8 48 (z_ix (s_no (q_wk g x1)))).toInt64) ≤ (g8 50 (z_ix (s_no (q_wk g x1)))).toInt64)))), some (.long (((((g8 32 (z_ix (((12 : Int32) * x1) + ((g8 27 0) - (g8 27 0) / (12 : Int32) * (12 : Int32))))).toInt64 * (g8 30 (z_ix x1)).toInt64) + (g8 48 (z_ix (s_no (q_wk g x1)))).toInt64) - (1 : Int64)) / (g8 48 (z_ix (s_no (q_wk g x1)))).toInt64)), none, some (.int m32.toInt32), some (.int (((((m32.toInt32.toInt64 * (g8 48 (z_ix (s_no (q_wk g x1)))).toInt64) + m37) - (1 : Int64)) / m37).toInt32))]) (S' := [.int ((g46 56 (z_ix (s_no (q_wk g x1)))) + m32.toInt32), .int (s_no (q_wk g x1)), .ref 56]) (fun _ => rfl) ?_
          obtain ⟨o48, H⟩ := H
          refine m_is 12 rfl rfl rfl o48 ?_
          obtain ⟨g49, eg49⟩ : ∃ m : zG, m = (z_up2 g46 56 (z_ix (s_no (q_wk g x1))) ((g46 56 (z_ix (s_no (q_wk g x1)))) + m32.toInt32)) := ⟨_, rfl⟩
          have H := H g49 eg49
          refine z_nmG eg49 ?_
          refine m_n 1 (pc' := 183) (L' := [some (.ref 27), some (.int x1), some (.int (s_no (q_wk g x1))), some (.int (((60 : Int32) * x1) + (g 27 0))), some (.int (z_bt (¬ ((((((g8 32 (z_ix (((12 : Int32) * x1) + ((g8 27 0) - (g8 27 0) / (12 : Int32) * (12 : Int32))))).toInt64 * (g8 30 (z_ix x1)).toInt64) + (g8 48 (z_ix (s_no (q_wk g x1)))).toInt64) - (1 : Int64)) / (g8 48 (z_ix (s_no (q_wk g x1)))).toInt64) ≤ (g8 50 (z_ix (s_no (q_wk g x1)))).toInt64)))), some (.long (((((g8 32 (z_ix (((12 : Int32) * x1) + ((g8 27 0) - (g8 27 0) / (12 : Int32) * (12 : Int32))))).toInt64 * (g8 30 (z_ix x1)).toInt64) + (g8 48 (z_ix (s_no (q_wk g x1)))).toInt64) - (1 : Int64)) / (g8 48 (z_ix (s_no (q_wk g x1)))).toInt64)), none, some (.int m32.toInt32), some (.int (((((m32.toInt32.toInt64 * (g8 48 (z_ix (s_no (q_wk g x1)))).toInt64) + m37) - (1 : Int64)) / m37).toInt32))]) (S' := [.ref 27]) (fun _ => rfl) ?_
          refine m_gR (q := 57) rfl (by decide) ?_
          refine m_n 2 (pc' := 188) (L' := [some (.ref 27), some (.int x1), some (.int (s_no (q_wk g x1))), some (.int (((60 : Int32) * x1) + (g 27 0))), some (.int (z_bt (¬ ((((((g8 32 (z_ix (((12 : Int32) * x1) + ((g8 27 0) - (g8 27 0) / (12 : Int32) * (12 : Int32))))).toInt64 * (g8 30 (z_ix x1)).toInt64) + (g8 48 (z_ix (s_no (q_wk g x1)))).toInt64) - (1 : Int64)) / (g8 48 (z_ix (s_no (q_wk g x1)))).toInt64) ≤ (g8 50 (z_ix (s_no (q_wk g x1)))).toInt64)))), some (.long (((((g8 32 (z_ix (((12 : Int32) * x1) + ((g8 27 0) - (g8 27 0) / (12 : Int32) * (12 : Int32))))).toInt64 * (g8 30 (z_ix x1)).toInt64) + (g8 48 (z_ix (s_no (q_wk g x1)))).toInt64) - (1 : Int64)) / (g8 48 (z_ix (s_no (q_wk g x1)))).toInt64)), none, some (.int m32.toInt32), some (.int (((((m32.toInt32.toInt64 * (g8 48 (z_ix (s_no (q_wk g x1)))).toInt64) + m37) - (1 : Int64)) / m37).toInt32))]) (S' := [.int (s_no (q_wk g x1)), .ref 57, .int (s_no (q_wk g x1)), .ref 57]) (fun _ => rfl) ?_
          obtain ⟨o50, H⟩ := H
          refine m_ia 12 rfl rfl o50 ?_
          refine m_n 2 (pc' := 192) (L' := [some (.ref 27), some (.int x1), some (.int (s_no (q_wk g x1))), some (.int (((60 : Int32) * x1) + (g 27 0))), some (.int (z_bt (¬ ((((((g8 32 (z_ix (((12 : Int32) * x1) + ((g8 27 0) - (g8 27 0) / (12 : Int32) * (12 : Int32))))).toInt64 * (g8 30 (z_ix x1)).toInt64) + (g8 48 (z_ix (s_no (q_wk g x1)))).toInt64) - (1 : Int64)) / (g8 48 (z_ix (s_no (q_wk g x1)))).toInt64) ≤ (g8 50 (z_ix (s_no (q_wk g x1)))).toInt64)))), some (.long (((((g8 32 (z_ix (((12 : Int32) * x1) + ((g8 27 0) - (g8 27 0) / (12 : Int32) * (12 : Int32))))).toInt64 * (g8 30 (z_ix x1)).toInt64) + (g8 48 (z_ix (s_no (q_wk g x1)))).toInt64) - (1 : Int64)) / (g8 48 (z_ix (s_no (q_wk g x1)))).toInt64)), none, some (.int m32.toInt32), some (.int (((((m32.toInt32.toInt64 * (g8 48 (z_ix (s_no (q_wk g x1)))).toInt64) + m37) - (1 : Int64)) / m37).toInt32))]) (S' := [.int ((g49 57 (z_ix (s_no (q_wk g x1)))) + ((((m32.toInt32.toInt64 * (g8 48 (z_ix (s_no (q_wk g x1)))).toInt64) + m37) - (1 : Int64)) / m37).toInt32), .int (s_no (q_wk g x1)), .ref 57]) (fun _ => rfl) ?_
          obtain ⟨o51, H⟩ := H
          refine m_is 12 rfl rfl rfl o51 ?_
          obtain ⟨g52, eg52⟩ : ∃ m : zG, m = (z_up2 g49 57 (z_ix (s_no (q_wk g x1))) ((g49 57 (z_ix (s_no (q_wk g x1)))) + ((((m32.toInt32.toInt64 * (g8 48 (z_ix (s_no (q_wk g x1)))).toInt64) + m37) - (1 : Int64)) / m37).toInt32)) := ⟨_, rfl⟩
          have H := H g52 eg52
          refine z_nmG eg52 ?_
          refine m_n 1 (pc' := 194) (L' := [some (.ref 27), some (.int x1), some (.int (s_no (q_wk g x1))), some (.int (((60 : Int32) * x1) + (g 27 0))), some (.int (z_bt (¬ ((((((g8 32 (z_ix (((12 : Int32) * x1) + ((g8 27 0) - (g8 27 0) / (12 : Int32) * (12 : Int32))))).toInt64 * (g8 30 (z_ix x1)).toInt64) + (g8 48 (z_ix (s_no (q_wk g x1)))).toInt64) - (1 : Int64)) / (g8 48 (z_ix (s_no (q_wk g x1)))).toInt64) ≤ (g8 50 (z_ix (s_no (q_wk g x1)))).toInt64)))), some (.long (((((g8 32 (z_ix (((12 : Int32) * x1) + ((g8 27 0) - (g8 27 0) / (12 : Int32) * (12 : Int32))))).toInt64 * (g8 30 (z_ix x1)).toInt64) + (g8 48 (z_ix (s_no (q_wk g x1)))).toInt64) - (1 : Int64)) / (g8 48 (z_ix (s_no (q_wk g x1)))).toInt64)), none, some (.int m32.toInt32), some (.int (((((m32.toInt32.toInt64 * (g8 48 (z_ix (s_no (q_wk g x1)))).toInt64) + m37) - (1 : Int64)) / m37).toInt32))]) (S' := [.ref 27]) (fun _ => rfl) ?_
          refine m_gR (q := 53) rfl (by decide) ?_
          refine m_n 2 (pc' := 199) (L' := [some (.ref 27), some (.int x1), some (.int (s_no (q_wk g x1))), some (.int (((60 : Int32) * x1) + (g 27 0))), some (.int (z_bt (¬ ((((((g8 32 (z_ix (((12 : Int32) * x1) + ((g8 27 0) - (g8 27 0) / (12 : Int32) * (12 : Int32))))).toInt64 * (g8 30 (z_ix x1)).toInt64) + (g8 48 (z_ix (s_no (q_wk g x1)))).toInt64) - (1 : Int64)) / (g8 48 (z_ix (s_no (q_wk g x1)))).toInt64) ≤ (g8 50 (z_ix (s_no (q_wk g x1)))).toInt64)))), some (.long (((((g8 32 (z_ix (((12 : Int32) * x1) + ((g8 27 0) - (g8 27 0) / (12 : Int32) * (12 : Int32))))).toInt64 * (g8 30 (z_ix x1)).toInt64) + (g8 48 (z_ix (s_no (q_wk g x1)))).toInt64) - (1 : Int64)) / (g8 48 (z_ix (s_no (q_wk g x1)))).toInt64)), none, some (.int m32.toInt32), some (.int (((((m32.toInt32.toInt64 * (g8 48 (z_ix (s_no (q_wk g x1)))).toInt64) + m37) - (1 : Int64)) / m37).toInt32))]) (S' := [.ref 27, .int (s_no (q_wk g x1)), .ref 53]) (fun _ => rfl) ?_
          refine m_gR (q := 54) rfl (by decide) ?_
          refine m_n 1 (pc' := 203) (L' := [some (.ref 27), some (.int x1), some (.int (s_no (q_wk g x1))), some (.int (((60 : Int32) * x1) + (g 27 0))), some (.int (z_bt (¬ ((((((g8 32 (z_ix (((12 : Int32) * x1) + ((g8 27 0) - (g8 27 0) / (12 : Int32) * (12 : Int32))))).toInt64 * (g8 30 (z_ix x1)).toInt64) + (g8 48 (z_ix (s_no (q_wk g x1)))).toInt64) - (1 : Int64)) / (g8 48 (z_ix (s_no (q_wk g x1)))).toInt64) ≤ (g8 50 (z_ix (s_no (q_wk g x1)))).toInt64)))), some (.long (((((g8 32 (z_ix (((12 : Int32) * x1) + ((g8 27 0) - (g8 27 0) / (12 : Int32) * (12 : Int32))))).toInt64 * (g8 30 (z_ix x1)).toInt64) + (g8 48 (z_ix (s_no (q_wk g x1)))).toInt64) - (1 : Int64)) / (g8 48 (z_ix (s_no (q_wk g x1)))).toInt64)), none, some (.int m32.toInt32), some (.int (((((m32.toInt32.toInt64 * (g8 48 (z_ix (s_no (q_wk g x1)))).toInt64) + m37) - (1 : Int64)) / m37).toInt32))]) (S' := [.int (s_no (q_wk g x1)), .ref 54, .int (s_no (q_wk g x1)), .ref 53]) (fun _ => rfl) ?_
          obtain ⟨o53, H⟩ := H
          refine m_za 12 rfl rfl o53 ?_
          obtain ⟨o55, H⟩ := H
          obtain ⟨o56, H⟩ := H
          obtain ⟨m57, em57⟩ : ∃ m : Int32, m = (if (g52 54 (z_ix (s_no (q_wk g x1)))) = 0 then (((g52 53 (z_ix (s_no (q_wk g x1)))) + m32.toInt32) - ((g52 53 (z_ix (s_no (q_wk g x1)))) + m32.toInt32) / (10000 : Int32) * (10000 : Int32)) else (g52 53 (z_ix (s_no (q_wk g x1))))) := ⟨_, rfl⟩
          have H := H m57 em57
          have hj58 : MG z_pV 176 229 [some (.ref 27), some (.int x1), some (.int (s_no (q_wk g x1))), some (.int (((60 : Int32) * x1) + (g 27 0))), some (.int (z_bt (¬ ((((((g8 32 (z_ix (((12 : Int32) * x1) + ((g8 27 0) - (g8 27 0) / (12 : Int32) * (12 : Int32))))).toInt64 * (g8 30 (z_ix x1)).toInt64) + (g8 48 (z_ix (s_no (q_wk g x1)))).toInt64) - (1 : Int64)) / (g8 48 (z_ix (s_no (q_wk g x1)))).toInt64) ≤ (g8 50 (z_ix (s_no (q_wk g x1)))).toInt64)))), some (.long (((((g8 32 (z_ix (((12 : Int32) * x1) + ((g8 27 0) - (g8 27 0) / (12 : Int32) * (12 : Int32))))).toInt64 * (g8 30 (z_ix x1)).toInt64) + (g8 48 (z_ix (s_no (q_wk g x1)))).toInt64) - (1 : Int64)) / (g8 48 (z_ix (s_no (q_wk g x1)))).toInt64)), none, some (.int m32.toInt32), some (.int (((((m32.toInt32.toInt64 * (g8 48 (z_ix (s_no (q_wk g x1)))).toInt64) + m37) - (1 : Int64)) / m37).toInt32))] [.int m57, .int (s_no (q_wk g x1)), .ref 53] g52 Q := by
            obtain ⟨o59, H⟩ := H
            refine m_is 12 rfl rfl rfl o59 ?_
            obtain ⟨g60, eg60⟩ : ∃ m : zG, m = (z_up2 g52 53 (z_ix (s_no (q_wk g x1))) m57) := ⟨_, rfl⟩
            have H := H g60 eg60
            refine z_nmG eg60 ?_
            refine m_n 1 (pc' := 231) (L' := [some (.ref 27), some (.int x1), some (.int (s_no (q_wk g x1))), some (.int (((60 : Int32) * x1) + (g 27 0))), some (.int (z_bt (¬ ((((((g8 32 (z_ix (((12 : Int32) * x1) + ((g8 27 0) - (g8 27 0) / (12 : Int32) * (12 : Int32))))).toInt64 * (g8 30 (z_ix x1)).toInt64) + (g8 48 (z_ix (s_no (q_wk g x1)))).toInt64) - (1 : Int64)) / (g8 48 (z_ix (s_no (q_wk g x1)))).toInt64) ≤ (g8 50 (z_ix (s_no (q_wk g x1)))).toInt64)))), some (.long (((((g8 32 (z_ix (((12 : Int32) * x1) + ((g8 27 0) - (g8 27 0) / (12 : Int32) * (12 : Int32))))).toInt64 * (g8 30 (z_ix x1)).toInt64) + (g8 48 (z_ix (s_no (q_wk g x1)))).toInt64) - (1 : Int64)) / (g8 48 (z_ix (s_no (q_wk g x1)))).toInt64)), none, some (.int m32.toInt32), some (.int (((((m32.toInt32.toInt64 * (g8 48 (z_ix (s_no (q_wk g x1)))).toInt64) + m37) - (1 : Int64)) / m37).toInt32))]) (S' := [.ref 27]) (fun _ => rfl) ?_
            refine m_gR (q := 52) rfl (by decide) ?_
            refine m_n 2 (pc' := 236) (L' := [some (.ref 27), some (.int x1), some (.int (s_no (q_wk g x1))), some (.int (((60 : Int32) * x1) + (g 27 0))), some (.int (z_bt (¬ ((((((g8 32 (z_ix (((12 : Int32) * x1) + ((g8 27 0) - (g8 27 0) / (12 : Int32) * (12 : Int32))))).toInt64 * (g8 30 (z_ix x1)).toInt64) + (g8 48 (z_ix (s_no (q_wk g x1)))).toInt64) - (1 : Int64)) / (g8 48 (z_ix (s_no (q_wk g x1)))).toInt64) ≤ (g8 50 (z_ix (s_no (q_wk g x1)))).toInt64)))), some (.long (((((g8 32 (z_ix (((12 : Int32) * x1) + ((g8 27 0) - (g8 27 0) / (12 : Int32) * (12 : Int32))))).toInt64 * (g8 30 (z_ix x1)).toInt64) + (g8 48 (z_ix (s_no (q_wk g x1)))).toInt64) - (1 : Int64)) / (g8 48 (z_ix (s_no (q_wk g x1)))).toInt64)), none, some (.int m32.toInt32), some (.int (((((m32.toInt32.toInt64 * (g8 48 (z_ix (s_no (q_wk g x1)))).toInt64) + m37) - (1 : Int64)) / m37).toInt32))]) (S' := [.int (s_no (q_wk g x1)), .ref 52, .int (s_no (q_wk g x1)), .ref 52]) (fun _ => rfl) ?_
            obtain ⟨o61, H⟩ := H
            refine m_ia 12 rfl rfl o61 ?_
            refine m_n 2 (pc' := 239) (L' := [some (.ref 27), some (.int x1), some (.int (s_no (q_wk g x1))), some (.int (((60 : Int32) * x1) + (g 27 0))), some (.int (z_bt (¬ ((((((g8 32 (z_ix (((12 : Int32) * x1) + ((g8 27 0) - (g8 27 0) / (12 : Int32) * (12 : Int32))))).toInt64 * (g8 30 (z_ix x1)).toInt64) + (g8 48 (z_ix (s_no (q_wk g x1)))).toInt64) - (1 : Int64)) / (g8 48 (z_ix (s_no (q_wk g x1)))).toInt64) ≤ (g8 50 (z_ix (s_no (q_wk g x1)))).toInt64)))), some (.long (((((g8 32 (z_ix (((12 : Int32) * x1) + ((g8 27 0) - (g8 27 0) / (12 : Int32) * (12 : Int32))))).toInt64 * (g8 30 (z_ix x1)).toInt64) + (g8 48 (z_ix (s_no (q_wk g x1)))).toInt64) - (1 : Int64)) / (g8 48 (z_ix (s_no (q_wk g x1)))).toInt64)), none, some (.int m32.toInt32), some (.int (((((m32.toInt32.toInt64 * (g8 48 (z_ix (s_no (q_wk g x1)))).toInt64) + m37) - (1 : Int64)) / m37).toInt32))]) (S' := [.int ((g60 52 (z_ix (s_no (q_wk g x1)))) + (1 : Int32)), .int (s_no (q_wk g x1)), .ref 52]) (fun _ => rfl) ?_
            obtain ⟨o62, H⟩ := H
            refine m_is 12 rfl rfl rfl o62 ?_
            obtain ⟨g63, eg63⟩ : ∃ m : zG, m = (z_up2 g60 52 (z_ix (s_no (q_wk g x1))) ((g60 52 (z_ix (s_no (q_wk g x1)))) + (1 : Int32))) := ⟨_, rfl⟩
            have H := H g63 eg63
            refine z_nmG eg63 ?_
            refine m_n 1 (pc' := 241) (L' := [some (.ref 27), some (.int x1), some (.int (s_no (q_wk g x1))), some (.int (((60 : Int32) * x1) + (g 27 0))), some (.int (z_bt (¬ ((((((g8 32 (z_ix (((12 : Int32) * x1) + ((g8 27 0) - (g8 27 0) / (12 : Int32) * (12 : Int32))))).toInt64 * (g8 30 (z_ix x1)).toInt64) + (g8 48 (z_ix (s_no (q_wk g x1)))).toInt64) - (1 : Int64)) / (g8 48 (z_ix (s_no (q_wk g x1)))).toInt64) ≤ (g8 50 (z_ix (s_no (q_wk g x1)))).toInt64)))), some (.long (((((g8 32 (z_ix (((12 : Int32) * x1) + ((g8 27 0) - (g8 27 0) / (12 : Int32) * (12 : Int32))))).toInt64 * (g8 30 (z_ix x1)).toInt64) + (g8 48 (z_ix (s_no (q_wk g x1)))).toInt64) - (1 : Int64)) / (g8 48 (z_ix (s_no (q_wk g x1)))).toInt64)), none, some (.int m32.toInt32), some (.int (((((m32.toInt32.toInt64 * (g8 48 (z_ix (s_no (q_wk g x1)))).toInt64) + m37) - (1 : Int64)) / m37).toInt32))]) (S' := [.ref 27]) (fun _ => rfl) ?_
            refine m_gR (q := 38) rfl (by decide) ?_
            refine m_n 2 (pc' := 247) (L' := [some (.ref 27), some (.int x1), some (.int (s_no (q_wk g x1))), some (.int (((60 : Int32) * x1) + (g 27 0))), some (.int (z_bt (¬ ((((((g8 32 (z_ix (((12 : Int32) * x1) + ((g8 27 0) - (g8 27 0) / (12 : Int32) * (12 : Int32))))).toInt64 * (g8 30 (z_ix x1)).toInt64) + (g8 48 (z_ix (s_no (q_wk g x1)))).toInt64) - (1 : Int64)) / (g8 48 (z_ix (s_no (q_wk g x1)))).toInt64) ≤ (g8 50 (z_ix (s_no (q_wk g x1)))).toInt64)))), some (.long (((((g8 32 (z_ix (((12 : Int32) * x1) + ((g8 27 0) - (g8 27 0) / (12 : Int32) * (12 : Int32))))).toInt64 * (g8 30 (z_ix x1)).toInt64) + (g8 48 (z_ix (s_no (q_wk g x1)))).toInt64) - (1 : Int64)) / (g8 48 (z_ix (s_no (q_wk g x1)))).toInt64)), none, some (.int m32.toInt32), some (.int (((((m32.toInt32.toInt64 * (g8 48 (z_ix (s_no (q_wk g x1)))).toInt64) + m37) - (1 : Int64)) / m37).toInt32))]) (S' := [.int (z_bt (¬ ((((((g8 32 (z_ix (((12 : Int32) * x1) + ((g8 27 0) - (g8 27 0) / (12 : Int32) * (12 : Int32))))).toInt64 * (g8 30 (z_ix x1)).toInt64) + (g8 48 (z_ix (s_no (q_wk g x1)))).toInt64) - (1 : Int64)) / (g8 48 (z_ix (s_no (q_wk g x1)))).toInt64) ≤ (g8 50 (z_ix (s_no (q_wk g x1)))).toInt64))), .int (((60 : Int32) * x1) + (g 27 0)), .ref 38]) (fun _ => rfl) ?_
            have hj65 : MG z_pV 176 255 [some (.ref 27), some (.int x1), some (.int (s_no (q_wk g x1))), some (.int (((60 : Int32) * x1) + (g 27 0))), some (.int (z_bt (¬ ((((((g8 32 (z_ix (((12 : Int32) * x1) + ((g8 27 0) - (g8 27 0) / (12 : Int32) * (12 : Int32))))).toInt64 * (g8 30 (z_ix x1)).toInt64) + (g8 48 (z_ix (s_no (q_wk g x1)))).toInt64) - (1 : Int64)) / (g8 48 (z_ix (s_no (q_wk g x1)))).toInt64) ≤ (g8 50 (z_ix (s_no (q_wk g x1)))).toInt64)))), some (.long (((((g8 32 (z_ix (((12 : Int32) * x1) + ((g8 27 0) - (g8 27 0) / (12 : Int32) * (12 : Int32))))).toInt64 * (g8 30 (z_ix x1)).toInt64) + (g8 48 (z_ix (s_no (q_wk g x1)))).toInt64) - (1 : Int64)) / (g8 48 (z_ix (s_no (q_wk g x1)))).toInt64)), none, some (.int m32.toInt32), some (.int (((((m32.toInt32.toInt64 * (g8 48 (z_ix (s_no (q_wk g x1)))).toInt64) + m37) - (1 : Int64)) / m37).toInt32))] [.int (z_bt (¬ ((((((g8 32 (z_ix (((12 : Int32) * x1) + ((g8 27 0) - (g8 27 0) / (12 : Int32) * (12 : Int32))))).toInt64 * (g8 30 (z_ix x1)).toInt64) + (g8 48 (z_ix (s_no (q_wk g x1)))).toInt64) - (1 : Int64)) / (g8 48 (z_ix (s_no (q_wk g x1)))).toInt64) ≤ (g8 50 (z_ix (s_no (q_wk g x1)))).toInt64))), .int (((60 : Int32) * x1) + (g 27 0)), .ref 38] g63 Q := by
              obtain ⟨o66, H⟩ := H
              refine m_is 360 rfl rfl rfl o66 ?_
              obtain ⟨g67, eg67⟩ : ∃ m : zG, m = (z_up2 g63 38 (z_ix (((60 : Int32) * x1) + (g 27 0))) (z_bt (¬ ((((((g8 32 (z_ix (((12 : Int32) * x1) + ((g8 27 0) - (g8 27 0) / (12 : Int32) * (12 : Int32))))).toInt64 * (g8 30 (z_ix x1)).toInt64) + (g8 48 (z_ix (s_no (q_wk g x1)))).toInt64) - (1 : Int64)) / (g8 48 (z_ix (s_no (q_wk g x1)))).toInt64) ≤ (g8 50 (z_ix (s_no (q_wk g x1)))).toInt64)))) := ⟨_, rfl⟩
              have H := H g67 eg67
              refine z_nmG eg67 ?_
              refine m_n 1 (pc' := 257) (L' := [some (.ref 27), some (.int x1), some (.int (s_no (q_wk g x1))), some (.int (((60 : Int32) * x1) + (g 27 0))), some (.int (z_bt (¬ ((((((g8 32 (z_ix (((12 : Int32) * x1) + ((g8 27 0) - (g8 27 0) / (12 : Int32) * (12 : Int32))))).toInt64 * (g8 30 (z_ix x1)).toInt64) + (g8 48 (z_ix (s_no (q_wk g x1)))).toInt64) - (1 : Int64)) / (g8 48 (z_ix (s_no (q_wk g x1)))).toInt64) ≤ (g8 50 (z_ix (s_no (q_wk g x1)))).toInt64)))), some (.long (((((g8 32 (z_ix (((12 : Int32) * x1) + ((g8 27 0) - (g8 27 0) / (12 : Int32) * (12 : Int32))))).toInt64 * (g8 30 (z_ix x1)).toInt64) + (g8 48 (z_ix (s_no (q_wk g x1)))).toInt64) - (1 : Int64)) / (g8 48 (z_ix (s_no (q_wk g x1)))).toInt64)), none, some (.int m32.toInt32), some (.int (((((m32.toInt32.toInt64 * (g8 48 (z_ix (s_no (q_wk g x1)))).toInt64) + m37) - (1 : Int64)) / m37).toInt32))]) (S' := [.ref 27]) (fun _ => rfl) ?_
              refine m_gR (q := 39) rfl (by decide) ?_
              refine m_n 2 (pc' := 262) (L' := [some (.ref 27), some (.int x1), some (.int (s_no (q_wk g x1))), some (.int (((60 : Int32) * x1) + (g 27 0))), some (.int (z_bt (¬ ((((((g8 32 (z_ix (((12 : Int32) * x1) + ((g8 27 0) - (g8 27 0) / (12 : Int32) * (12 : Int32))))).toInt64 * (g8 30 (z_ix x1)).toInt64) + (g8 48 (z_ix (s_no (q_wk g x1)))).toInt64) - (1 : Int64)) / (g8 48 (z_ix (s_no (q_wk g x1)))).toInt64) ≤ (g8 50 (z_ix (s_no (q_wk g x1)))).toInt64)))), some (.long (((((g8 32 (z_ix (((12 : Int32) * x1) + ((g8 27 0) - (g8 27 0) / (12 : Int32) * (12 : Int32))))).toInt64 * (g8 30 (z_ix x1)).toInt64) + (g8 48 (z_ix (s_no (q_wk g x1)))).toInt64) - (1 : Int64)) / (g8 48 (z_ix (s_no (q_wk g x1)))).toInt64)), none, some (.int m32.toInt32), some (.int (((((m32.toInt32.toInt64 * (g8 48 (z_ix (s_no (q_wk g x1)))).toInt64) + m37) - (1 : Int64)) / m37).toInt32))]) (S' := [.int (s_no (q_wk g x1)), .int (((60 : Int32) * x1) + (g 27 0)), .ref 39]) (fun _ => rfl) ?_
              obtain ⟨o68, H⟩ := H
              refine m_is 360 rfl rfl rfl o68 ?_
              obtain ⟨g69, eg69⟩ : ∃ m : zG, m = (z_up2 g67 39 (z_ix (((60 : Int32) * x1) + (g 27 0))) (s_no (q_wk g x1))) := ⟨_, rfl⟩
              have H := H g69 eg69
              refine z_nmG eg69 ?_
              refine m_n 1 (pc' := 264) (L' := [some (.ref 27), some (.int x1), some (.int (s_no (q_wk g x1))), some (.int (((60 : Int32) * x1) + (g 27 0))), some (.int (z_bt (¬ ((((((g8 32 (z_ix (((12 : Int32) * x1) + ((g8 27 0) - (g8 27 0) / (12 : Int32) * (12 : Int32))))).toInt64 * (g8 30 (z_ix x1)).toInt64) + (g8 48 (z_ix (s_no (q_wk g x1)))).toInt64) - (1 : Int64)) / (g8 48 (z_ix (s_no (q_wk g x1)))).toInt64) ≤ (g8 50 (z_ix (s_no (q_wk g x1)))).toInt64)))), some (.long (((((g8 32 (z_ix (((12 : Int32) * x1) + ((g8 27 0) - (g8 27 0) / (12 : Int32) * (12 : Int32))))).toInt64 * (g8 30 (z_ix x1)).toInt64) + (g8 48 (z_ix (s_no (q_wk g x1)))).toInt64) - (1 : Int64)) / (g8 48 (z_ix (s_no (q_wk g x1)))).toInt64)), none, some (.int m32.toInt32), some (.int (((((m32.toInt32.toInt64 * (g8 48 (z_ix (s_no (q_wk g x1)))).toInt64) + m37) - (1 : Int64)) / m37).toInt32))]) (S' := [.ref 27]) (fun _ => rfl) ?_
              refine m_gR (q := 40) rfl (by decide) ?_
              refine m_n 2 (pc' := 269) (L' := [some (.ref 27), some (.int x1), some (.int (s_no (q_wk g x1))), some (.int (((60 : Int32) * x1) + (g 27 0))), some (.int (z_bt (¬ ((((((g8 32 (z_ix (((12 : Int32) * x1) + ((g8 27 0) - (g8 27 0) / (12 : Int32) * (12 : Int32))))).toInt64 * (g8 30 (z_ix x1)).toInt64) + (g8 48 (z_ix (s_no (q_wk g x1)))).toInt64) - (1 : Int64)) / (g8 48 (z_ix (s_no (q_wk g x1)))).toInt64) ≤ (g8 50 (z_ix (s_no (q_wk g x1)))).toInt64)))), some (.long (((((g8 32 (z_ix (((12 : Int32) * x1) + ((g8 27 0) - (g8 27 0) / (12 : Int32) * (12 : Int32))))).toInt64 * (g8 30 (z_ix x1)).toInt64) + (g8 48 (z_ix (s_no (q_wk g x1)))).toInt64) - (1 : Int64)) / (g8 48 (z_ix (s_no (q_wk g x1)))).toInt64)), none, some (.int m32.toInt32), some (.int (((((m32.toInt32.toInt64 * (g8 48 (z_ix (s_no (q_wk g x1)))).toInt64) + m37) - (1 : Int64)) / m37).toInt32))]) (S' := [.ref 27, .int (((60 : Int32) * x1) + (g 27 0)), .ref 40]) (fun _ => rfl) ?_
              refine m_gR (q := 30) rfl (by decide) ?_
              refine m_n 1 (pc' := 273) (L' := [some (.ref 27), some (.int x1), some (.int (s_no (q_wk g x1))), some (.int (((60 : Int32) * x1) + (g 27 0))), some (.int (z_bt (¬ ((((((g8 32 (z_ix (((12 : Int32) * x1) + ((g8 27 0) - (g8 27 0) / (12 : Int32) * (12 : Int32))))).toInt64 * (g8 30 (z_ix x1)).toInt64) + (g8 48 (z_ix (s_no (q_wk g x1)))).toInt64) - (1 : Int64)) / (g8 48 (z_ix (s_no (q_wk g x1)))).toInt64) ≤ (g8 50 (z_ix (s_no (q_wk g x1)))).toInt64)))), some (.long (((((g8 32 (z_ix (((12 : Int32) * x1) + ((g8 27 0) - (g8 27 0) / (12 : Int32) * (12 : Int32))))).toInt64 * (g8 30 (z_ix x1)).toInt64) + (g8 48 (z_ix (s_no (q_wk g x1)))).toInt64) - (1 : Int64)) / (g8 48 (z_ix (s_no (q_wk g x1)))).toInt64)), none, some (.int m32.toInt32), some (.int (((((m32.toInt32.toInt64 * (g8 48 (z_ix (s_no (q_wk g x1)))).toInt64) + m37) - (1 : Int64)) / m37).toInt32))]) (S' := [.int x1, .ref 30, .int (((60 : Int32) * x1) + (g 27 0)), .ref 40]) (fun _ => rfl) ?_
              obtain ⟨o70, H⟩ := H
              refine m_ia 6 rfl rfl o70 ?_
              obtain ⟨o71, H⟩ := H
              refine m_is 360 rfl rfl rfl o71 ?_
              obtain ⟨g72, eg72⟩ : ∃ m : zG, m = (z_up2 g69 40 (z_ix (((60 : Int32) * x1) + (g 27 0))) (g69 30 (z_ix x1))) := ⟨_, rfl⟩
              have H := H g72 eg72
              refine z_nmG eg72 ?_
              refine m_n 1 (pc' := 276) (L' := [some (.ref 27), some (.int x1), some (.int (s_no (q_wk g x1))), some (.int (((60 : Int32) * x1) + (g 27 0))), some (.int (z_bt (¬ ((((((g8 32 (z_ix (((12 : Int32) * x1) + ((g8 27 0) - (g8 27 0) / (12 : Int32) * (12 : Int32))))).toInt64 * (g8 30 (z_ix x1)).toInt64) + (g8 48 (z_ix (s_no (q_wk g x1)))).toInt64) - (1 : Int64)) / (g8 48 (z_ix (s_no (q_wk g x1)))).toInt64) ≤ (g8 50 (z_ix (s_no (q_wk g x1)))).toInt64)))), some (.long (((((g8 32 (z_ix (((12 : Int32) * x1) + ((g8 27 0) - (g8 27 0) / (12 : Int32) * (12 : Int32))))).toInt64 * (g8 30 (z_ix x1)).toInt64) + (g8 48 (z_ix (s_no (q_wk g x1)))).toInt64) - (1 : Int64)) / (g8 48 (z_ix (s_no (q_wk g x1)))).toInt64)), none, some (.int m32.toInt32), some (.int (((((m32.toInt32.toInt64 * (g8 48 (z_ix (s_no (q_wk g x1)))).toInt64) + m37) - (1 : Int64)) / m37).toInt32))]) (S' := [.ref 27]) (fun _ => rfl) ?_
              refine m_gR (q := 41) rfl (by decide) ?_
              refine m_n 2 (pc' := 281) (L' := [some (.ref 27), some (.int x1), some (.int (s_no (q_wk g x1))), some (.int (((60 : Int32) * x1) + (g 27 0))), some (.int (z_bt (¬ ((((((g8 32 (z_ix (((12 : Int32) * x1) + ((g8 27 0) - (g8 27 0) / (12 : Int32) * (12 : Int32))))).toInt64 * (g8 30 (z_ix x1)).toInt64) + (g8 48 (z_ix (s_no (q_wk g x1)))).toInt64) - (1 : Int64)) / (g8 48 (z_ix (s_no (q_wk g x1)))).toInt64) ≤ (g8 50 (z_ix (s_no (q_wk g x1)))).toInt64)))), some (.long (((((g8 32 (z_ix (((12 : Int32) * x1) + ((g8 27 0) - (g8 27 0) / (12 : Int32) * (12 : Int32))))).toInt64 * (g8 30 (z_ix x1)).toInt64) + (g8 48 (z_ix (s_no (q_wk g x1)))).toInt64) - (1 : Int64)) / (g8 48 (z_ix (s_no (q_wk g x1)))).toInt64)), none, some (.int m32.toInt32), some (.int (((((m32.toInt32.toInt64 * (g8 48 (z_ix (s_no (q_wk g x1)))).toInt64) + m37) - (1 : Int64)) / m37).toInt32))]) (S' := [.ref 27, .int (((60 : Int32) * x1) + (g 27 0)), .ref 41]) (fun _ => rfl) ?_
              refine m_gR (q := 31) rfl (by decide) ?_
              refine m_n 1 (pc' := 285) (L' := [some (.ref 27), some (.int x1), some (.int (s_no (q_wk g x1))), some (.int (((60 : Int32) * x1) + (g 27 0))), some (.int (z_bt (¬ ((((((g8 32 (z_ix (((12 : Int32) * x1) + ((g8 27 0) - (g8 27 0) / (12 : Int32) * (12 : Int32))))).toInt64 * (g8 30 (z_ix x1)).toInt64) + (g8 48 (z_ix (s_no (q_wk g x1)))).toInt64) - (1 : Int64)) / (g8 48 (z_ix (s_no (q_wk g x1)))).toInt64) ≤ (g8 50 (z_ix (s_no (q_wk g x1)))).toInt64)))), some (.long (((((g8 32 (z_ix (((12 : Int32) * x1) + ((g8 27 0) - (g8 27 0) / (12 : Int32) * (12 : Int32))))).toInt64 * (g8 30 (z_ix x1)).toInt64) + (g8 48 (z_ix (s_no (q_wk g x1)))).toInt64) - (1 : Int64)) / (g8 48 (z_ix (s_no (q_wk g x1)))).toInt64)), none, some (.int m32.toInt32), some (.int (((((m32.toInt32.toInt64 * (g8 48 (z_ix (s_no (q_wk g x1)))).toInt64) + m37) - (1 : Int64)) / m37).toInt32))]) (S' := [.int x1, .ref 31, .int (((60 : Int32) * x1) + (g 27 0)), .ref 41]) (fun _ => rfl) ?_
              obtain ⟨o73, H⟩ := H
              refine m_ia 6 rfl rfl o73 ?_
              obtain ⟨o74, H⟩ := H
              refine m_is 360 rfl rfl rfl o74 ?_
              obtain ⟨g75, eg75⟩ : ∃ m : zG, m = (z_up2 g72 41 (z_ix (((60 : Int32) * x1) + (g 27 0))) (g72 31 (z_ix x1))) := ⟨_, rfl⟩
              have H := H g75 eg75
              refine z_nmG eg75 ?_
              refine m_n 1 (pc' := 288) (L' := [some (.ref 27), some (.int x1), some (.int (s_no (q_wk g x1))), some (.int (((60 : Int32) * x1) + (g 27 0))), some (.int (z_bt (¬ ((((((g8 32 (z_ix (((12 : Int32) * x1) + ((g8 27 0) - (g8 27 0) / (12 : Int32) * (12 : Int32))))).toInt64 * (g8 30 (z_ix x1)).toInt64) + (g8 48 (z_ix (s_no (q_wk g x1)))).toInt64) - (1 : Int64)) / (g8 48 (z_ix (s_no (q_wk g x1)))).toInt64) ≤ (g8 50 (z_ix (s_no (q_wk g x1)))).toInt64)))), some (.long (((((g8 32 (z_ix (((12 : Int32) * x1) + ((g8 27 0) - (g8 27 0) / (12 : Int32) * (12 : Int32))))).toInt64 * (g8 30 (z_ix x1)).toInt64) + (g8 48 (z_ix (s_no (q_wk g x1)))).toInt64) - (1 : Int64)) / (g8 48 (z_ix (s_no (q_wk g x1)))).toInt64)), none, some (.int m32.toInt32), some (.int (((((m32.toInt32.toInt64 * (g8 48 (z_ix (s_no (q_wk g x1)))).toInt64) + m37) - (1 : Int64)) / m37).toInt32))]) (S' := [.ref 27]) (fun _ => rfl) ?_
              refine m_gR (q := 33) rfl (by decide) ?_
              refine m_n 2 (pc' := 293) (L' := [some (.ref 27), some (.int x1), some (.int (s_no (q_wk g x1))), some (.int (((60 : Int32) * x1) + (g 27 0))), some (.int (z_bt (¬ ((((((g8 32 (z_ix (((12 : Int32) * x1) + ((g8 27 0) - (g8 27 0) / (12 : Int32) * (12 : Int32))))).toInt64 * (g8 30 (z_ix x1)).toInt64) + (g8 48 (z_ix (s_no (q_wk g x1)))).toInt64) - (1 : Int64)) / (g8 48 (z_ix (s_no (q_wk g x1)))).toInt64) ≤ (g8 50 (z_ix (s_no (q_wk g x1)))).toInt64)))), some (.long (((((g8 32 (z_ix (((12 : Int32) * x1) + ((g8 27 0) - (g8 27 0) / (12 : Int32) * (12 : Int32))))).toInt64 * (g8 30 (z_ix x1)).toInt64) + (g8 48 (z_ix (s_no (q_wk g x1)))).toInt64) - (1 : Int64)) / (g8 48 (z_ix (s_no (q_wk g x1)))).toInt64)), none, some (.int m32.toInt32), some (.int (((((m32.toInt32.toInt64 * (g8 48 (z_ix (s_no (q_wk g x1)))).toInt64) + m37) - (1 : Int64)) / m37).toInt32))]) (S' := [.int x1, .ref 33, .int x1, .ref 33]) (fun _ => rfl) ?_
              obtain ⟨o76, H⟩ := H
              refine m_ia 6 rfl rfl o76 ?_
              refine m_n 1 (pc' := 295) (L' := [some (.ref 27), some (.int x1), some (.int (s_no (q_wk g x1))), some (.int (((60 : Int32) * x1) + (g 27 0))), some (.int (z_bt (¬ ((((((g8 32 (z_ix (((12 : Int32) * x1) + ((g8 27 0) - (g8 27 0) / (12 : Int32) * (12 : Int32))))).toInt64 * (g8 30 (z_ix x1)).toInt64) + (g8 48 (z_ix (s_no (q_wk g x1)))).toInt64) - (1 : Int64)) / (g8 48 (z_ix (s_no (q_wk g x1)))).toInt64) ≤ (g8 50 (z_ix (s_no (q_wk g x1)))).toInt64)))), some (.long (((((g8 32 (z_ix (((12 : Int32) * x1) + ((g8 27 0) - (g8 27 0) / (12 : Int32) * (12 : Int32))))).toInt64 * (g8 30 (z_ix x1)).toInt64) + (g8 48 (z_ix (s_no (q_wk g x1)))).toInt64) - (1 : Int64)) / (g8 48 (z_ix (s_no (q_wk g x1)))).toInt64)), none, some (.int m32.toInt32), some (.int (((((m32.toInt32.toInt64 * (g8 48 (z_ix (s_no (q_wk g x1)))).toInt64) + m37) - (1 : Int64)) / m37).toInt32))]) (S' := [.ref 27, .int (g75 33 (z_ix x1)), .int x1, .ref 33]) (fun _ => rfl) ?_
              refine m_gR (q := 38) rfl (by decide) ?_
              refine m_n 1 (pc' := 299) (L' := [some (.ref 27), some (.int x1), some (.int (s_no (q_wk g x1))), some (.int (((60 : Int32) * x1) + (g 27 0))), some (.int (z_bt (¬ ((((((g8 32 (z_ix (((12 : Int32) * x1) + ((g8 27 0) - (g8 27 0) / (12 : Int32) * (12 : Int32))))).toInt64 * (g8 30 (z_ix x1)).toInt64) + (g8 48 (z_ix (s_no (q_wk g x1)))).toInt64) - (1 : Int64)) / (g8 48 (z_ix (s_no (q_wk g x1)))).toInt64) ≤ (g8 50 (z_ix (s_no (q_wk g x1)))).toInt64)))), some (.long (((((g8 32 (z_ix (((12 : Int32) * x1) + ((g8 27 0) - (g8 27 0) / (12 : Int32) * (12 : Int32))))).toInt64 * (g8 30 (z_ix x1)).toInt64) + (g8 48 (z_ix (s_no (q_wk g x1)))).toInt64) - (1 : Int64)) / (g8 48 (z_ix (s_no (q_wk g x1)))).toInt64)), none, some (.int m32.toInt32), some (.int (((((m32.toInt32.toInt64 * (g8 48 (z_ix (s_no (q_wk g x1)))).toInt64) + m37) - (1 : Int64)) / m37).toInt32))]) (S' := [.int (((60 : Int32) * x1) + (g 27 0)), .ref 38, .int (g75 33 (z_ix x1)), .int x1, .ref 33]) (fun _ => rfl) ?_
              obtain ⟨o77, H⟩ := H
              refine m_ia 360 rfl rfl o77 ?_
              refine m_n 1 (pc' := 301) (L' := [some (.ref 27), some (.int x1), some (.int (s_no (q_wk g x1))), some (.int (((60 : Int32) * x1) + (g 27 0))), some (.int (z_bt (¬ ((((((g8 32 (z_ix (((12 : Int32) * x1) + ((g8 27 0) - (g8 27 0) / (12 : Int32) * (12 : Int32))))).toInt64 * (g8 30 (z_ix x1)).toInt64) + (g8 48 (z_ix (s_no (q_wk g x1)))).toInt64) - (1 : Int64)) / (g8 48 (z_ix (s_no (q_wk g x1)))).toInt64) ≤ (g8 50 (z_ix (s_no (q_wk g x1)))).toInt64)))), some (.long (((((g8 32 (z_ix (((12 : Int32) * x1) + ((g8 27 0) - (g8 27 0) / (12 : Int32) * (12 : Int32))))).toInt64 * (g8 30 (z_ix x1)).toInt64) + (g8 48 (z_ix (s_no (q_wk g x1)))).toInt64) - (1 : Int64)) / (g8 48 (z_ix (s_no (q_wk g x1)))).toInt64)), none, some (.int m32.toInt32), some (.int (((((m32.toInt32.toInt64 * (g8 48 (z_ix (s_no (q_wk g x1)))).toInt64) + m37) - (1 : Int64)) / m37).toInt32))]) (S' := [.int ((g75 33 (z_ix x1)) + (g75 38 (z_ix (((60 : Int32) * x1) + (g 27 0))))), .int x1, .ref 33]) (fun _ => rfl) ?_
              obtain ⟨o78, H⟩ := H
              refine m_is 6 rfl rfl rfl o78 ?_
              obtain ⟨g79, eg79⟩ : ∃ m : zG, m = (z_up2 g75 33 (z_ix x1) ((g75 33 (z_ix x1)) + (g75 38 (z_ix (((60 : Int32) * x1) + (g 27 0)))))) := ⟨_, rfl⟩
              have H := H g79 eg79
              refine z_nmG eg79 ?_
              exact m_r rfl rfl rfl H
            refine m_b (c := z_bt (¬ ((((((g8 32 (z_ix (((12 : Int32) * x1) + ((g8 27 0) - (g8 27 0) / (12 : Int32) * (12 : Int32))))).toInt64 * (g8 30 (z_ix x1)).toInt64) + (g8 48 (z_ix (s_no (q_wk g x1)))).toInt64) - (1 : Int64)) / (g8 48 (z_ix (s_no (q_wk g x1)))).toInt64) ≤ (g8 50 (z_ix (s_no (q_wk g x1)))).toInt64)) = 0) (pc' := 254) (L' := [some (.ref 27), some (.int x1), some (.int (s_no (q_wk g x1))), some (.int (((60 : Int32) * x1) + (g 27 0))), some (.int (z_bt (¬ ((((((g8 32 (z_ix (((12 : Int32) * x1) + ((g8 27 0) - (g8 27 0) / (12 : Int32) * (12 : Int32))))).toInt64 * (g8 30 (z_ix x1)).toInt64) + (g8 48 (z_ix (s_no (q_wk g x1)))).toInt64) - (1 : Int64)) / (g8 48 (z_ix (s_no (q_wk g x1)))).toInt64) ≤ (g8 50 (z_ix (s_no (q_wk g x1)))).toInt64)))), some (.long (((((g8 32 (z_ix (((12 : Int32) * x1) + ((g8 27 0) - (g8 27 0) / (12 : Int32) * (12 : Int32))))).toInt64 * (g8 30 (z_ix x1)).toInt64) + (g8 48 (z_ix (s_no (q_wk g x1)))).toInt64) - (1 : Int64)) / (g8 48 (z_ix (s_no (q_wk g x1)))).toInt64)), none, some (.int m32.toInt32), some (.int (((((m32.toInt32.toInt64 * (g8 48 (z_ix (s_no (q_wk g x1)))).toInt64) + m37) - (1 : Int64)) / m37).toInt32))]) (S' := [.int (((60 : Int32) * x1) + (g 27 0)), .ref 38]) (pc2 := 250) (L2 := [some (.ref 27), some (.int x1), some (.int (s_no (q_wk g x1))), some (.int (((60 : Int32) * x1) + (g 27 0))), some (.int (z_bt (¬ ((((((g8 32 (z_ix (((12 : Int32) * x1) + ((g8 27 0) - (g8 27 0) / (12 : Int32) * (12 : Int32))))).toInt64 * (g8 30 (z_ix x1)).toInt64) + (g8 48 (z_ix (s_no (q_wk g x1)))).toInt64) - (1 : Int64)) / (g8 48 (z_ix (s_no (q_wk g x1)))).toInt64) ≤ (g8 50 (z_ix (s_no (q_wk g x1)))).toInt64)))), some (.long (((((g8 32 (z_ix (((12 : Int32) * x1) + ((g8 27 0) - (g8 27 0) / (12 : Int32) * (12 : Int32))))).toInt64 * (g8 30 (z_ix x1)).toInt64) + (g8 48 (z_ix (s_no (q_wk g x1)))).toInt64) - (1 : Int64)) / (g8 48 (z_ix (s_no (q_wk g x1)))).toInt64)), none, some (.int m32.toInt32), some (.int (((((m32.toInt32.toInt64 * (g8 48 (z_ix (s_no (q_wk g x1)))).toInt64) + m37) - (1 : Int64)) / m37).toInt32))]) (S2 := [.int (((60 : Int32) * x1) + (g 27 0)), .ref 38]) rfl (fun _ => rfl) (fun hc => ?_) (fun hc => ?_)
            · have c64 := z_bt_0.mp hc
              refine m_n 1 (pc' := 255) (L' := [some (.ref 27), some (.int x1), some (.int (s_no (q_wk g x1))), some (.int (((60 : Int32) * x1) + (g 27 0))), some (.int (z_bt (¬ ((((((g8 32 (z_ix (((12 : Int32) * x1) + ((g8 27 0) - (g8 27 0) / (12 : Int32) * (12 : Int32))))).toInt64 * (g8 30 (z_ix x1)).toInt64) + (g8 48 (z_ix (s_no (q_wk g x1)))).toInt64) - (1 : Int64)) / (g8 48 (z_ix (s_no (q_wk g x1)))).toInt64) ≤ (g8 50 (z_ix (s_no (q_wk g x1)))).toInt64)))), some (.long (((((g8 32 (z_ix (((12 : Int32) * x1) + ((g8 27 0) - (g8 27 0) / (12 : Int32) * (12 : Int32))))).toInt64 * (g8 30 (z_ix x1)).toInt64) + (g8 48 (z_ix (s_no (q_wk g x1)))).toInt64) - (1 : Int64)) / (g8 48 (z_ix (s_no (q_wk g x1)))).toInt64)), none, some (.int m32.toInt32), some (.int (((((m32.toInt32.toInt64 * (g8 48 (z_ix (s_no (q_wk g x1)))).toInt64) + m37) - (1 : Int64)) / m37).toInt32))]) (S' := [.int (0 : Int32), .int (((60 : Int32) * x1) + (g 27 0)), .ref 38]) (fun _ => rfl) ?_
              rw [show z_bt (¬ ((((((g8 32 (z_ix (((12 : Int32) * x1) + ((g8 27 0) - (g8 27 0) / (12 : Int32) * (12 : Int32))))).toInt64 * (g8 30 (z_ix x1)).toInt64) + (g8 48 (z_ix (s_no (q_wk g x1)))).toInt64) - (1 : Int64)) / (g8 48 (z_ix (s_no (q_wk g x1)))).toInt64) ≤ (g8 50 (z_ix (s_no (q_wk g x1)))).toInt64)) = 0 from z_bt_0.mpr (c64)] at hj65
              (rw [show z_bt (¬ ((((((g8 32 (z_ix (((12 : Int32) * x1) + ((g8 27 0) - (g8 27 0) / (12 : Int32) * (12 : Int32))))).toInt64 * (g8 30 (z_ix x1)).toInt64) + (g8 48 (z_ix (s_no (q_wk g x1)))).toInt64) - (1 : Int64)) / (g8 48 (z_ix (s_no (q_wk g x1)))).toInt64) ≤ (g8 50 (z_ix (s_no (q_wk g x1)))).toInt64)) = 0 from z_bt_0.mpr (c64)]; exact hj65)
            · have c64 := Decidable.not_not.mp (fun q => hc (z_bt_0.mpr q))
              refine m_n 2 (pc' := 255) (L' := [some (.ref 27), some (.int x1), some (.int (s_no (q_wk g x1))), some (.int (((60 : Int32) * x1) + (g 27 0))), some (.int (z_bt (¬ ((((((g8 32 (z_ix (((12 : Int32) * x1) + ((g8 27 0) - (g8 27 0) / (12 : Int32) * (12 : Int32))))).toInt64 * (g8 30 (z_ix x1)).toInt64) + (g8 48 (z_ix (s_no (q_wk g x1)))).toInt64) - (1 : Int64)) / (g8 48 (z_ix (s_no (q_wk g x1)))).toInt64) ≤ (g8 50 (z_ix (s_no (q_wk g x1)))).toInt64)))), some (.long (((((g8 32 (z_ix (((12 : Int32) * x1) + ((g8 27 0) - (g8 27 0) / (12 : Int32) * (12 : Int32))))).toInt64 * (g8 30 (z_ix x1)).toInt64) + (g8 48 (z_ix (s_no (q_wk g x1)))).toInt64) - (1 : Int64)) / (g8 48 (z_ix (s_no (q_wk g x1)))).toInt64)), none, some (.int m32.toInt32), some (.int (((((m32.toInt32.toInt64 * (g8 48 (z_ix (s_no (q_wk g x1)))).toInt64) + m37) - (1 : Int64)) / m37).toInt32))]) (S' := [.int (1 : Int32), .int (((60 : Int32) * x1) + (g 27 0)), .ref 38]) (fun _ => rfl) ?_
              rw [show z_bt (¬ ((((((g8 32 (z_ix (((12 : Int32) * x1) + ((g8 27 0) - (g8 27 0) / (12 : Int32) * (12 : Int32))))).toInt64 * (g8 30 (z_ix x1)).toInt64) + (g8 48 (z_ix (s_no (q_wk g x1)))).toInt64) - (1 : Int64)) / (g8 48 (z_ix (s_no (q_wk g x1)))).toInt64) ≤ (g8 50 (z_ix (s_no (q_wk g x1)))).toInt64)) = 1 from z_bt_1.mpr (c64)] at hj65
              (rw [show z_bt (¬ ((((((g8 32 (z_ix (((12 : Int32) * x1) + ((g8 27 0) - (g8 27 0) / (12 : Int32) * (12 : Int32))))).toInt64 * (g8 30 (z_ix x1)).toInt64) + (g8 48 (z_ix (s_no (q_wk g x1)))).toInt64) - (1 : Int64)) / (g8 48 (z_ix (s_no (q_wk g x1)))).toInt64) ≤ (g8 50 (z_ix (s_no (q_wk g x1)))).toInt64)) = 1 from z_bt_1.mpr (c64)]; exact hj65)
          refine m_b (c := (g52 54 (z_ix (s_no (q_wk g x1)))) = 0) (pc' := 216) (L' := [some (.ref 27), some (.int x1), some (.int (s_no (q_wk g x1))), some (.int (((60 : Int32) * x1) + (g 27 0))), some (.int (z_bt (¬ ((((((g8 32 (z_ix (((12 : Int32) * x1) + ((g8 27 0) - (g8 27 0) / (12 : Int32) * (12 : Int32))))).toInt64 * (g8 30 (z_ix x1)).toInt64) + (g8 48 (z_ix (s_no (q_wk g x1)))).toInt64) - (1 : Int64)) / (g8 48 (z_ix (s_no (q_wk g x1)))).toInt64) ≤ (g8 50 (z_ix (s_no (q_wk g x1)))).toInt64)))), some (.long (((((g8 32 (z_ix (((12 : Int32) * x1) + ((g8 27 0) - (g8 27 0) / (12 : Int32) * (12 : Int32))))).toInt64 * (g8 30 (z_ix x1)).toInt64) + (g8 48 (z_ix (s_no (q_wk g x1)))).toInt64) - (1 : Int64)) / (g8 48 (z_ix (s_no (q_wk g x1)))).toInt64)), none, some (.int m32.toInt32), some (.int (((((m32.toInt32.toInt64 * (g8 48 (z_ix (s_no (q_wk g x1)))).toInt64) + m37) - (1 : Int64)) / m37).toInt32))]) (S' := [.int (s_no (q_wk g x1)), .ref 53]) (pc2 := 207) (L2 := [some (.ref 27), some (.int x1), some (.int (s_no (q_wk g x1))), some (.int (((60 : Int32) * x1) + (g 27 0))), some (.int (z_bt (¬ ((((((g8 32 (z_ix (((12 : Int32) * x1) + ((g8 27 0) - (g8 27 0) / (12 : Int32) * (12 : Int32))))).toInt64 * (g8 30 (z_ix x1)).toInt64) + (g8 48 (z_ix (s_no (q_wk g x1)))).toInt64) - (1 : Int64)) / (g8 48 (z_ix (s_no (q_wk g x1)))).toInt64) ≤ (g8 50 (z_ix (s_no (q_wk g x1)))).toInt64)))), some (.long (((((g8 32 (z_ix (((12 : Int32) * x1) + ((g8 27 0) - (g8 27 0) / (12 : Int32) * (12 : Int32))))).toInt64 * (g8 30 (z_ix x1)).toInt64) + (g8 48 (z_ix (s_no (q_wk g x1)))).toInt64) - (1 : Int64)) / (g8 48 (z_ix (s_no (q_wk g x1)))).toInt64)), none, some (.int m32.toInt32), some (.int (((((m32.toInt32.toInt64 * (g8 48 (z_ix (s_no (q_wk g x1)))).toInt64) + m37) - (1 : Int64)) / m37).toInt32))]) (S2 := [.int (s_no (q_wk g x1)), .ref 53]) rfl (fun _ => rfl) (fun hc => ?_) (fun hc => ?_)
          · have c54 := hc
            refine m_n 1 (pc' := 217) (L' := [some (.ref 27), some (.int x1), some (.int (s_no (q_wk g x1))), some (.int (((60 : Int32) * x1) + (g 27 0))), some (.int (z_bt (¬ ((((((g8 32 (z_ix (((12 : Int32) * x1) + ((g8 27 0) - (g8 27 0) / (12 : Int32) * (12 : Int32))))).toInt64 * (g8 30 (z_ix x1)).toInt64) + (g8 48 (z_ix (s_no (q_wk g x1)))).toInt64) - (1 : Int64)) / (g8 48 (z_ix (s_no (q_wk g x1)))).toInt64) ≤ (g8 50 (z_ix (s_no (q_wk g x1)))).toInt64)))), some (.long (((((g8 32 (z_ix (((12 : Int32) * x1) + ((g8 27 0) - (g8 27 0) / (12 : Int32) * (12 : Int32))))).toInt64 * (g8 30 (z_ix x1)).toInt64) + (g8 48 (z_ix (s_no (q_wk g x1)))).toInt64) - (1 : Int64)) / (g8 48 (z_ix (s_no (q_wk g x1)))).toInt64)), none, some (.int m32.toInt32), some (.int (((((m32.toInt32.toInt64 * (g8 48 (z_ix (s_no (q_wk g x1)))).toInt64) + m37) - (1 : Int64)) / m37).toInt32))]) (S' := [.ref 27, .int (s_no (q_wk g x1)), .ref 53]) (fun _ => rfl) ?_
            refine m_gR (q := 53) rfl (by decide) ?_
            refine m_n 1 (pc' := 221) (L' := [some (.ref 27), some (.int x1), some (.int (s_no (q_wk g x1))), some (.int (((60 : Int32) * x1) + (g 27 0))), some (.int (z_bt (¬ ((((((g8 32 (z_ix (((12 : Int32) * x1) + ((g8 27 0) - (g8 27 0) / (12 : Int32) * (12 : Int32))))).toInt64 * (g8 30 (z_ix x1)).toInt64) + (g8 48 (z_ix (s_no (q_wk g x1)))).toInt64) - (1 : Int64)) / (g8 48 (z_ix (s_no (q_wk g x1)))).toInt64) ≤ (g8 50 (z_ix (s_no (q_wk g x1)))).toInt64)))), some (.long (((((g8 32 (z_ix (((12 : Int32) * x1) + ((g8 27 0) - (g8 27 0) / (12 : Int32) * (12 : Int32))))).toInt64 * (g8 30 (z_ix x1)).toInt64) + (g8 48 (z_ix (s_no (q_wk g x1)))).toInt64) - (1 : Int64)) / (g8 48 (z_ix (s_no (q_wk g x1)))).toInt64)), none, some (.int m32.toInt32), some (.int (((((m32.toInt32.toInt64 * (g8 48 (z_ix (s_no (q_wk g x1)))).toInt64) + m37) - (1 : Int64)) / m37).toInt32))]) (S' := [.int (s_no (q_wk g x1)), .ref 53, .int (s_no (q_wk g x1)), .ref 53]) (fun _ => rfl) ?_
            refine m_ia 12 rfl rfl (o55 c54) ?_
            refine m_n 3 (pc' := 228) (L' := [some (.ref 27), some (.int x1), some (.int (s_no (q_wk g x1))), some (.int (((60 : Int32) * x1) + (g 27 0))), some (.int (z_bt (¬ ((((((g8 32 (z_ix (((12 : Int32) * x1) + ((g8 27 0) - (g8 27 0) / (12 : Int32) * (12 : Int32))))).toInt64 * (g8 30 (z_ix x1)).toInt64) + (g8 48 (z_ix (s_no (q_wk g x1)))).toInt64) - (1 : Int64)) / (g8 48 (z_ix (s_no (q_wk g x1)))).toInt64) ≤ (g8 50 (z_ix (s_no (q_wk g x1)))).toInt64)))), some (.long (((((g8 32 (z_ix (((12 : Int32) * x1) + ((g8 27 0) - (g8 27 0) / (12 : Int32) * (12 : Int32))))).toInt64 * (g8 30 (z_ix x1)).toInt64) + (g8 48 (z_ix (s_no (q_wk g x1)))).toInt64) - (1 : Int64)) / (g8 48 (z_ix (s_no (q_wk g x1)))).toInt64)), none, some (.int m32.toInt32), some (.int (((((m32.toInt32.toInt64 * (g8 48 (z_ix (s_no (q_wk g x1)))).toInt64) + m37) - (1 : Int64)) / m37).toInt32))]) (S' := [.int (10000 : Int32), .int ((g52 53 (z_ix (s_no (q_wk g x1)))) + m32.toInt32), .int (s_no (q_wk g x1)), .ref 53]) (fun _ => rfl) ?_
            refine m_d (c := (10000 : Int32) = 0) (pc' := 229) (L' := [some (.ref 27), some (.int x1), some (.int (s_no (q_wk g x1))), some (.int (((60 : Int32) * x1) + (g 27 0))), some (.int (z_bt (¬ ((((((g8 32 (z_ix (((12 : Int32) * x1) + ((g8 27 0) - (g8 27 0) / (12 : Int32) * (12 : Int32))))).toInt64 * (g8 30 (z_ix x1)).toInt64) + (g8 48 (z_ix (s_no (q_wk g x1)))).toInt64) - (1 : Int64)) / (g8 48 (z_ix (s_no (q_wk g x1)))).toInt64) ≤ (g8 50 (z_ix (s_no (q_wk g x1)))).toInt64)))), some (.long (((((g8 32 (z_ix (((12 : Int32) * x1) + ((g8 27 0) - (g8 27 0) / (12 : Int32) * (12 : Int32))))).toInt64 * (g8 30 (z_ix x1)).toInt64) + (g8 48 (z_ix (s_no (q_wk g x1)))).toInt64) - (1 : Int64)) / (g8 48 (z_ix (s_no (q_wk g x1)))).toInt64)), none, some (.int m32.toInt32), some (.int (((((m32.toInt32.toInt64 * (g8 48 (z_ix (s_no (q_wk g x1)))).toInt64) + m37) - (1 : Int64)) / m37).toInt32))]) (S' := [.int (((g52 53 (z_ix (s_no (q_wk g x1)))) + m32.toInt32) - ((g52 53 (z_ix (s_no (q_wk g x1)))) + m32.toInt32) / (10000 : Int32) * (10000 : Int32)), .int (s_no (q_wk g x1)), .ref 53]) rfl (fun _ => rfl) (by decide) ?_
            rw [(em57.trans (by rw [if_pos c54]) : m57 = (((g52 53 (z_ix (s_no (q_wk g x1)))) + m32.toInt32) - ((g52 53 (z_ix (s_no (q_wk g x1)))) + m32.toInt32) / (10000 : Int32) * (10000 : Int32)))] at hj58
            exact hj58
          · have c54 := hc
            refine m_n 1 (pc' := 208) (L' := [some (.ref 27), some (.int x1), some (.int (s_no (q_wk g x1))), some (.int (((60 : Int32) * x1) + (g 27 0))), some (.int (z_bt (¬ ((((((g8 32 (z_ix (((12 : Int32) * x1) + ((g8 27 0) - (g8 27 0) / (12 : Int32) * (12 : Int32))))).toInt64 * (g8 30 (z_ix x1)).toInt64) + (g8 48 (z_ix (s_no (q_wk g x1)))).toInt64) - (1 : Int64)) / (g8 48 (z_ix (s_no (q_wk g x1)))).toInt64) ≤ (g8 50 (z_ix (s_no (q_wk g x1)))).toInt64)))), some (.long (((((g8 32 (z_ix (((12 : Int32) * x1) + ((g8 27 0) - (g8 27 0) / (12 : Int32) * (12 : Int32))))).toInt64 * (g8 30 (z_ix x1)).toInt64) + (g8 48 (z_ix (s_no (q_wk g x1)))).toInt64) - (1 : Int64)) / (g8 48 (z_ix (s_no (q_wk g x1)))).toInt64)), none, some (.int m32.toInt32), some (.int (((((m32.toInt32.toInt64 * (g8 48 (z_ix (s_no (q_wk g x1)))).toInt64) + m37) - (1 : Int64)) / m37).toInt32))]) (S' := [.ref 27, .int (s_no (q_wk g x1)), .ref 53]) (fun _ => rfl) ?_
            refine m_gR (q := 53) rfl (by decide) ?_
            refine m_n 1 (pc' := 212) (L' := [some (.ref 27), some (.int x1), some (.int (s_no (q_wk g x1))), some (.int (((60 : Int32) * x1) + (g 27 0))), some (.int (z_bt (¬ ((((((g8 32 (z_ix (((12 : Int32) * x1) + ((g8 27 0) - (g8 27 0) / (12 : Int32) * (12 : Int32))))).toInt64 * (g8 30 (z_ix x1)).toInt64) + (g8 48 (z_ix (s_no (q_wk g x1)))).toInt64) - (1 : Int64)) / (g8 48 (z_ix (s_no (q_wk g x1)))).toInt64) ≤ (g8 50 (z_ix (s_no (q_wk g x1)))).toInt64)))), some (.long (((((g8 32 (z_ix (((12 : Int32) * x1) + ((g8 27 0) - (g8 27 0) / (12 : Int32) * (12 : Int32))))).toInt64 * (g8 30 (z_ix x1)).toInt64) + (g8 48 (z_ix (s_no (q_wk g x1)))).toInt64) - (1 : Int64)) / (g8 48 (z_ix (s_no (q_wk g x1)))).toInt64)), none, some (.int m32.toInt32), some (.int (((((m32.toInt32.toInt64 * (g8 48 (z_ix (s_no (q_wk g x1)))).toInt64) + m37) - (1 : Int64)) / m37).toInt32))]) (S' := [.int (s_no (q_wk g x1)), .ref 53, .int (s_no (q_wk g x1)), .ref 53]) (fun _ => rfl) ?_
            refine m_ia 12 rfl rfl (o56 c54) ?_
            refine m_n 1 (pc' := 229) (L' := [some (.ref 27), some (.int x1), some (.int (s_no (q_wk g x1))), some (.int (((60 : Int32) * x1) + (g 27 0))), some (.int (z_bt (¬ ((((((g8 32 (z_ix (((12 : Int32) * x1) + ((g8 27 0) - (g8 27 0) / (12 : Int32) * (12 : Int32))))).toInt64 * (g8 30 (z_ix x1)).toInt64) + (g8 48 (z_ix (s_no (q_wk g x1)))).toInt64) - (1 : Int64)) / (g8 48 (z_ix (s_no (q_wk g x1)))).toInt64) ≤ (g8 50 (z_ix (s_no (q_wk g x1)))).toInt64)))), some (.long (((((g8 32 (z_ix (((12 : Int32) * x1) + ((g8 27 0) - (g8 27 0) / (12 : Int32) * (12 : Int32))))).toInt64 * (g8 30 (z_ix x1)).toInt64) + (g8 48 (z_ix (s_no (q_wk g x1)))).toInt64) - (1 : Int64)) / (g8 48 (z_ix (s_no (q_wk g x1)))).toInt64)), none, some (.int m32.toInt32), some (.int (((((m32.toInt32.toInt64 * (g8 48 (z_ix (s_no (q_wk g x1)))).toInt64) + m37) - (1 : Int64)) / m37).toInt32))]) (S' := [.int (g52 53 (z_ix (s_no (q_wk g x1)))), .int (s_no (q_wk g x1)), .ref 53]) (fun _ => rfl) ?_
            rw [(em57.trans (by rw [if_neg c54]) : m57 = (g52 53 (z_ix (s_no (q_wk g x1)))))] at hj58
            exact hj58
        refine m_b (c := z_cmp (((((g8 32 (z_ix (((12 : Int32) * x1) + ((g8 27 0) - (g8 27 0) / (12 : Int32) * (12 : Int32))))).toInt64 * (g8 30 (z_ix x1)).toInt64) + (g8 48 (z_ix (s_no (q_wk g x1)))).toInt64) - (1 : Int64)) / (g8 48 (z_ix (s_no (q_wk g x1)))).toInt64) ((g8 50 (z_ix (s_no (q_wk g x1)))).toInt64) ≤ 0) (pc' := 152) (L' := [some (.ref 27), some (.int x1), some (.int (s_no (q_wk g x1))), some (.int (((60 : Int32) * x1) + (g 27 0))), some (.int (z_bt (¬ ((g 32 (z_ix (((12 : Int32) * x1) + ((g 27 0) - (g 27 0) / (12 : Int32) * (12 : Int32))))) ≤ 0)))), some (.long (((((g8 32 (z_ix (((12 : Int32) * x1) + ((g8 27 0) - (g8 27 0) / (12 : Int32) * (12 : Int32))))).toInt64 * (g8 30 (z_ix x1)).toInt64) + (g8 48 (z_ix (s_no (q_wk g x1)))).toInt64) - (1 : Int64)) / (g8 48 (z_ix (s_no (q_wk g x1)))).toInt64)), none, some (.int m32.toInt32), some (.int (((((m32.toInt32.toInt64 * (g8 48 (z_ix (s_no (q_wk g x1)))).toInt64) + m37) - (1 : Int64)) / m37).toInt32))]) (S' := []) (pc2 := 148) (L2 := [some (.ref 27), some (.int x1), some (.int (s_no (q_wk g x1))), some (.int (((60 : Int32) * x1) + (g 27 0))), some (.int (z_bt (¬ ((g 32 (z_ix (((12 : Int32) * x1) + ((g 27 0) - (g 27 0) / (12 : Int32) * (12 : Int32))))) ≤ 0)))), some (.long (((((g8 32 (z_ix (((12 : Int32) * x1) + ((g8 27 0) - (g8 27 0) / (12 : Int32) * (12 : Int32))))).toInt64 * (g8 30 (z_ix x1)).toInt64) + (g8 48 (z_ix (s_no (q_wk g x1)))).toInt64) - (1 : Int64)) / (g8 48 (z_ix (s_no (q_wk g x1)))).toInt64)), none, some (.int m32.toInt32), some (.int (((((m32.toInt32.toInt64 * (g8 48 (z_ix (s_no (q_wk g x1)))).toInt64) + m37) - (1 : Int64)) / m37).toInt32))]) (S2 := []) rfl (fun _ => rfl) (fun hc => ?_) (fun hc => ?_)
        · have c41 := z_cmp_le.mp hc
          refine m_n 1 (pc' := 153) (L' := [some (.ref 27), some (.int x1), some (.int (s_no (q_wk g x1))), some (.int (((60 : Int32) * x1) + (g 27 0))), some (.int (z_bt (¬ ((g 32 (z_ix (((12 : Int32) * x1) + ((g 27 0) - (g 27 0) / (12 : Int32) * (12 : Int32))))) ≤ 0)))), some (.long (((((g8 32 (z_ix (((12 : Int32) * x1) + ((g8 27 0) - (g8 27 0) / (12 : Int32) * (12 : Int32))))).toInt64 * (g8 30 (z_ix x1)).toInt64) + (g8 48 (z_ix (s_no (q_wk g x1)))).toInt64) - (1 : Int64)) / (g8 48 (z_ix (s_no (q_wk g x1)))).toInt64)), none, some (.int m32.toInt32), some (.int (((((m32.toInt32.toInt64 * (g8 48 (z_ix (s_no (q_wk g x1)))).toInt64) + m37) - (1 : Int64)) / m37).toInt32))]) (S' := [.int (0 : Int32)]) (fun _ => rfl) ?_
          rw [show z_bt (¬ ((((((g8 32 (z_ix (((12 : Int32) * x1) + ((g8 27 0) - (g8 27 0) / (12 : Int32) * (12 : Int32))))).toInt64 * (g8 30 (z_ix x1)).toInt64) + (g8 48 (z_ix (s_no (q_wk g x1)))).toInt64) - (1 : Int64)) / (g8 48 (z_ix (s_no (q_wk g x1)))).toInt64) ≤ (g8 50 (z_ix (s_no (q_wk g x1)))).toInt64)) = 0 from z_bt_0.mpr ((fun q => q c41))] at hj42
          exact hj42
        · have c41 := (fun q => hc (z_cmp_le.mpr q))
          refine m_n 2 (pc' := 153) (L' := [some (.ref 27), some (.int x1), some (.int (s_no (q_wk g x1))), some (.int (((60 : Int32) * x1) + (g 27 0))), some (.int (z_bt (¬ ((g 32 (z_ix (((12 : Int32) * x1) + ((g 27 0) - (g 27 0) / (12 : Int32) * (12 : Int32))))) ≤ 0)))), some (.long (((((g8 32 (z_ix (((12 : Int32) * x1) + ((g8 27 0) - (g8 27 0) / (12 : Int32) * (12 : Int32))))).toInt64 * (g8 30 (z_ix x1)).toInt64) + (g8 48 (z_ix (s_no (q_wk g x1)))).toInt64) - (1 : Int64)) / (g8 48 (z_ix (s_no (q_wk g x1)))).toInt64)), none, some (.int m32.toInt32), some (.int (((((m32.toInt32.toInt64 * (g8 48 (z_ix (s_no (q_wk g x1)))).toInt64) + m37) - (1 : Int64)) / m37).toInt32))]) (S' := [.int (1 : Int32)]) (fun _ => rfl) ?_
          rw [show z_bt (¬ ((((((g8 32 (z_ix (((12 : Int32) * x1) + ((g8 27 0) - (g8 27 0) / (12 : Int32) * (12 : Int32))))).toInt64 * (g8 30 (z_ix x1)).toInt64) + (g8 48 (z_ix (s_no (q_wk g x1)))).toInt64) - (1 : Int64)) / (g8 48 (z_ix (s_no (q_wk g x1)))).toInt64) ≤ (g8 50 (z_ix (s_no (q_wk g x1)))).toInt64)) = 1 from z_bt_1.mpr (c41)] at hj42
          exact hj42
      refine m_b (c := z_cmp (((((g8 32 (z_ix (((12 : Int32) * x1) + ((g8 27 0) - (g8 27 0) / (12 : Int32) * (12 : Int32))))).toInt64 * (g8 30 (z_ix x1)).toInt64) + (g8 48 (z_ix (s_no (q_wk g x1)))).toInt64) - (1 : Int64)) / (g8 48 (z_ix (s_no (q_wk g x1)))).toInt64) ((g8 50 (z_ix (s_no (q_wk g x1)))).toInt64) ≤ 0) (pc' := 103) (L' := [some (.ref 27), some (.int x1), some (.int (s_no (q_wk g x1))), some (.int (((60 : Int32) * x1) + (g 27 0))), some (.int (z_bt (¬ ((g 32 (z_ix (((12 : Int32) * x1) + ((g 27 0) - (g 27 0) / (12 : Int32) * (12 : Int32))))) ≤ 0)))), some (.long (((((g8 32 (z_ix (((12 : Int32) * x1) + ((g8 27 0) - (g8 27 0) / (12 : Int32) * (12 : Int32))))).toInt64 * (g8 30 (z_ix x1)).toInt64) + (g8 48 (z_ix (s_no (q_wk g x1)))).toInt64) - (1 : Int64)) / (g8 48 (z_ix (s_no (q_wk g x1)))).toInt64)), none, none, none]) (S' := []) (pc2 := 93) (L2 := [some (.ref 27), some (.int x1), some (.int (s_no (q_wk g x1))), some (.int (((60 : Int32) * x1) + (g 27 0))), some (.int (z_bt (¬ ((g 32 (z_ix (((12 : Int32) * x1) + ((g 27 0) - (g 27 0) / (12 : Int32) * (12 : Int32))))) ≤ 0)))), some (.long (((((g8 32 (z_ix (((12 : Int32) * x1) + ((g8 27 0) - (g8 27 0) / (12 : Int32) * (12 : Int32))))).toInt64 * (g8 30 (z_ix x1)).toInt64) + (g8 48 (z_ix (s_no (q_wk g x1)))).toInt64) - (1 : Int64)) / (g8 48 (z_ix (s_no (q_wk g x1)))).toInt64)), none, none, none]) (S2 := []) rfl (fun _ => rfl) (fun hc => ?_) (fun hc => ?_)
      · have c30 := z_cmp_le.mp hc
        refine m_n 1 (pc' := 105) (L' := [some (.ref 27), some (.int x1), some (.int (s_no (q_wk g x1))), some (.int (((60 : Int32) * x1) + (g 27 0))), some (.int (z_bt (¬ ((g 32 (z_ix (((12 : Int32) * x1) + ((g 27 0) - (g 27 0) / (12 : Int32) * (12 : Int32))))) ≤ 0)))), some (.long (((((g8 32 (z_ix (((12 : Int32) * x1) + ((g8 27 0) - (g8 27 0) / (12 : Int32) * (12 : Int32))))).toInt64 * (g8 30 (z_ix x1)).toInt64) + (g8 48 (z_ix (s_no (q_wk g x1)))).toInt64) - (1 : Int64)) / (g8 48 (z_ix (s_no (q_wk g x1)))).toInt64)), none, none, none]) (S' := [.long (((((g8 32 (z_ix (((12 : Int32) * x1) + ((g8 27 0) - (g8 27 0) / (12 : Int32) * (12 : Int32))))).toInt64 * (g8 30 (z_ix x1)).toInt64) + (g8 48 (z_ix (s_no (q_wk g x1)))).toInt64) - (1 : Int64)) / (g8 48 (z_ix (s_no (q_wk g x1)))).toInt64)]) (fun _ => rfl) ?_
        rw [(em32.trans (by rw [if_pos c30]) : m32 = (((((g8 32 (z_ix (((12 : Int32) * x1) + ((g8 27 0) - (g8 27 0) / (12 : Int32) * (12 : Int32))))).toInt64 * (g8 30 (z_ix x1)).toInt64) + (g8 48 (z_ix (s_no (q_wk g x1)))).toInt64) - (1 : Int64)) / (g8 48 (z_ix (s_no (q_wk g x1)))).toInt64))] at hj33
        exact hj33
      · have c30 := (fun q => hc (z_cmp_le.mpr q))
        refine m_n 1 (pc' := 94) (L' := [some (.ref 27), some (.int x1), some (.int (s_no (q_wk g x1))), some (.int (((60 : Int32) * x1) + (g 27 0))), some (.int (z_bt (¬ ((g 32 (z_ix (((12 : Int32) * x1) + ((g 27 0) - (g 27 0) / (12 : Int32) * (12 : Int32))))) ≤ 0)))), some (.long (((((g8 32 (z_ix (((12 : Int32) * x1) + ((g8 27 0) - (g8 27 0) / (12 : Int32) * (12 : Int32))))).toInt64 * (g8 30 (z_ix x1)).toInt64) + (g8 48 (z_ix (s_no (q_wk g x1)))).toInt64) - (1 : Int64)) / (g8 48 (z_ix (s_no (q_wk g x1)))).toInt64)), none, none, none]) (S' := [.ref 27]) (fun _ => rfl) ?_
        refine m_gR (q := 50) rfl (by decide) ?_
        refine m_n 1 (pc' := 98) (L' := [some (.ref 27), some (.int x1), some (.int (s_no (q_wk g x1))), some (.int (((60 : Int32) * x1) + (g 27 0))), some (.int (z_bt (¬ ((g 32 (z_ix (((12 : Int32) * x1) + ((g 27 0) - (g 27 0) / (12 : Int32) * (12 : Int32))))) ≤ 0)))), some (.long (((((g8 32 (z_ix (((12 : Int32) * x1) + ((g8 27 0) - (g8 27 0) / (12 : Int32) * (12 : Int32))))).toInt64 * (g8 30 (z_ix x1)).toInt64) + (g8 48 (z_ix (s_no (q_wk g x1)))).toInt64) - (1 : Int64)) / (g8 48 (z_ix (s_no (q_wk g x1)))).toInt64)), none, none, none]) (S' := [.int (s_no (q_wk g x1)), .ref 50]) (fun _ => rfl) ?_
        refine m_ia 12 rfl rfl (o31 c30) ?_
        refine m_n 2 (pc' := 105) (L' := [some (.ref 27), some (.int x1), some (.int (s_no (q_wk g x1))), some (.int (((60 : Int32) * x1) + (g 27 0))), some (.int (z_bt (¬ ((g 32 (z_ix (((12 : Int32) * x1) + ((g 27 0) - (g 27 0) / (12 : Int32) * (12 : Int32))))) ≤ 0)))), some (.long (((((g8 32 (z_ix (((12 : Int32) * x1) + ((g8 27 0) - (g8 27 0) / (12 : Int32) * (12 : Int32))))).toInt64 * (g8 30 (z_ix x1)).toInt64) + (g8 48 (z_ix (s_no (q_wk g x1)))).toInt64) - (1 : Int64)) / (g8 48 (z_ix (s_no (q_wk g x1)))).toInt64)), none, none, none]) (S' := [.long ((g8 50 (z_ix (s_no (q_wk g x1)))).toInt64)]) (fun _ => rfl) ?_
        rw [(em32.trans (by rw [if_neg c30]) : m32 = (g8 50 (z_ix (s_no (q_wk g x1)))).toInt64)] at hj33
        exact hj33
  refine m_b (c := (g 32 (z_ix (((12 : Int32) * x1) + ((g 27 0) - (g 27 0) / (12 : Int32) * (12 : Int32))))) ≤ 0) (pc' := 40) (L' := [some (.ref 27), some (.int x1), some (.int (s_no (q_wk g x1))), some (.int (((60 : Int32) * x1) + (g 27 0))), none, none, none, none, none]) (S' := []) (pc2 := 36) (L2 := [some (.ref 27), some (.int x1), some (.int (s_no (q_wk g x1))), some (.int (((60 : Int32) * x1) + (g 27 0))), none, none, none, none, none]) (S2 := []) rfl (fun _ => rfl) (fun hc => ?_) (fun hc => ?_)
  · have c3 := hc
    refine m_n 1 (pc' := 41) (L' := [some (.ref 27), some (.int x1), some (.int (s_no (q_wk g x1))), some (.int (((60 : Int32) * x1) + (g 27 0))), none, none, none, none, none]) (S' := [.int (0 : Int32)]) (fun _ => rfl) ?_
    rw [show z_bt (¬ ((g 32 (z_ix (((12 : Int32) * x1) + ((g 27 0) - (g 27 0) / (12 : Int32) * (12 : Int32))))) ≤ 0)) = 0 from z_bt_0.mpr ((fun q => q c3))] at hj4
    exact hj4
  · have c3 := hc
    refine m_n 2 (pc' := 41) (L' := [some (.ref 27), some (.int x1), some (.int (s_no (q_wk g x1))), some (.int (((60 : Int32) * x1) + (g 27 0))), none, none, none, none, none]) (S' := [.int (1 : Int32)]) (fun _ => rfl) ?_
    rw [show z_bt (¬ ((g 32 (z_ix (((12 : Int32) * x1) + ((g 27 0) - (g 27 0) / (12 : Int32) * (12 : Int32))))) ≤ 0)) = 1 from z_bt_1.mpr (c3)] at hj4
    exact hj4
set_option maxRecDepth 20000 in
theorem X_177  (g : zG) {Q : Int32 → zG → Prop} (H : if (g 27 0) = (60 : Int32) then (Q (-3 : Int32) g) else (MG z_pI 177 16 [some (.ref 27), some (.int (0 : Int32)), some (.int (0 : Int32))] [] g Q)) : MK z_pI 177 [.ref 27] g Q := by
  refine m_K (L := [some (.ref 27), none, none]) rfl ?_
  refine m_n 1 (pc' := 1) (L' := [some (.ref 27), none, none]) (S' := [.ref 27]) (fun _ => rfl) ?_
  refine m_gI rfl ?_
  refine m_n 1 (pc' := 6) (L' := [some (.ref 27), none, none]) (S' := [.int (60 : Int32), .int (g 27 0)]) (fun _ => rfl) ?_
  refine m_b (c := (g 27 0) = (60 : Int32)) (pc' := 9) (L' := [some (.ref 27), none, none]) (S' := []) (pc2 := 12) (L2 := [some (.ref 27), none, none]) (S2 := []) rfl (fun _ => rfl) (fun hc => ?_) (fun hc => ?_)
  · have hc := hc
    rw [if_pos hc] at H
    refine m_n 1 (pc' := 11) (L' := [some (.ref 27), none, none]) (S' := [.int (-3 : Int32)]) (fun _ => rfl) ?_
    exact m_r rfl rfl rfl H
  · have hc := hc
    rw [if_neg hc] at H
    refine m_n 4 (pc' := 16) (L' := [some (.ref 27), some (.int (0 : Int32)), some (.int (0 : Int32))]) (S' := []) (fun _ => rfl) ?_
    exact H
set_option maxRecDepth 20000 in
theorem X_177_16 (y1 : Int32) (y2 : Int32) (g : zG) {Q : Int32 → zG → Prop} (H : if (g 27 1) ≤ y2 then (Q y1 (z_up2 g 27 0 ((g 27 0) + (1 : Int32)))) else (MK z_pV 176 [.ref 27, .int y2] g (fun r1 g2 => (0 ≤ (((60 : Int32) * y2) + (g2 27 0)).toInt ∧ (((60 : Int32) * y2) + (g2 27 0)).toInt < 360) ∧ MG z_pI 177 16 [some (.ref 27), some (.int (y1 + (g2 38 (z_ix (((60 : Int32) * y2) + (g2 27 0)))))), some (.int (y2 + (1 : Int32)))] [] g2 Q))) : MG z_pI 177 16 [some (.ref 27), some (.int y1), some (.int y2)] [] g Q := by
  refine m_n 2 (pc' := 18) (L' := [some (.ref 27), some (.int y1), some (.int y2)]) (S' := [.ref 27, .int y2]) (fun _ => rfl) ?_
  refine m_gI rfl ?_
  refine m_b (c := (g 27 1) ≤ y2) (pc' := 52) (L' := [some (.ref 27), some (.int y1), some (.int y2)]) (S' := []) (pc2 := 24) (L2 := [some (.ref 27), some (.int y1), some (.int y2)]) (S2 := []) rfl (fun _ => rfl) (fun hc => ?_) (fun hc => ?_)
  · have hc := hc
    rw [if_pos hc] at H
    refine m_n 2 (pc' := 54) (L' := [some (.ref 27), some (.int y1), some (.int y2)]) (S' := [.ref 27, .ref 27]) (fun _ => rfl) ?_
    refine m_gI rfl ?_
    refine m_n 2 (pc' := 59) (L' := [some (.ref 27), some (.int y1), some (.int y2)]) (S' := [.int ((g 27 0) + (1 : Int32)), .ref 27]) (fun _ => rfl) ?_
    refine m_pI rfl ?_
    refine m_n 1 (pc' := 63) (L' := [some (.ref 27), some (.int y1), some (.int y2)]) (S' := [.int y1]) (fun _ => rfl) ?_
    exact m_r rfl rfl rfl H
  · have hc := hc
    rw [if_neg hc] at H
    refine m_n 2 (pc' := 26) (L' := [some (.ref 27), some (.int y1), some (.int y2)]) (S' := [.int y2, .ref 27]) (fun _ => rfl) ?_
    refine m_cV 176 2 rfl rfl rfl (A := [.ref 27, .int y2]) rfl rfl (Or.inr ⟨rfl, _, rfl⟩) (rest := []) rfl rfl ?_
    refine H.mono (fun r1 g2 H => ?_)
    refine m_n 2 (pc' := 31) (L' := [some (.ref 27), some (.int y1), some (.int y2)]) (S' := [.ref 27, .int y1]) (fun _ => rfl) ?_
    refine m_gR (q := 38) rfl (by decide) ?_
    refine m_n 4 (pc' := 39) (L' := [some (.ref 27), some (.int y1), some (.int y2)]) (S' := [.ref 27, .int ((60 : Int32) * y2), .ref 38, .int y1]) (fun _ => rfl) ?_
    refine m_gI rfl ?_
    refine m_n 1 (pc' := 43) (L' := [some (.ref 27), some (.int y1), some (.int y2)]) (S' := [.int (((60 : Int32) * y2) + (g2 27 0)), .ref 38, .int y1]) (fun _ => rfl) ?_
    obtain ⟨o3, H⟩ := H
    refine m_ia 360 rfl rfl o3 ?_
    refine m_n 4 (pc' := 16) (L' := [some (.ref 27), some (.int (y1 + (g2 38 (z_ix (((60 : Int32) * y2) + (g2 27 0)))))), some (.int (y2 + (1 : Int32)))]) (S' := []) (fun _ => rfl) ?_
    exact H
set_option maxRecDepth 20000 in
theorem X_178 (x1 : Int32) (x2 : Int32) (x3 : Int32) (g : zG) {Q : Int32 → zG → Prop} (H : if (0 : Int32) ≤ x1 ∧ x1 ≤ ((g 27 1) - (1 : Int32)) then (if (0 : Int32) ≤ x2 ∧ x2 ≤ ((g 27 0) - (1 : Int32)) then (if (0 : Int32) ≤ x3 ∧ x3 ≤ (5 : Int32) then (((x3 = 0) → 0 ≤ (((60 : Int32) * x1) + x2).toInt ∧ (((60 : Int32) * x1) + x2).toInt < 360) ∧ (¬ (x3 = 0) → (x3 = (1 : Int32)) → 0 ≤ (((60 : Int32) * x1) + x2).toInt ∧ (((60 : Int32) * x1) + x2).toInt < 360) ∧ (¬ (x3 = 0) → ¬ (x3 = (1 : Int32)) → (x3 = (2 : Int32)) → 0 ≤ (((60 : Int32) * x1) + x2).toInt ∧ (((60 : Int32) * x1) + x2).toInt < 360) ∧ (¬ (x3 = 0) → ¬ (x3 = (1 : Int32)) → ¬ (x3 = (2 : Int32)) → (x3 = (3 : Int32)) → 0 ≤ (((60 : Int32) * x1) + x2).toInt ∧ (((60 : Int32) * x1) + x2).toInt < 360) ∧ (¬ (x3 = 0) → ¬ (x3 = (1 : Int32)) → ¬ (x3 = (2 : Int32)) → ¬ (x3 = (3 : Int32)) → (x3 = (4 : Int32)) → 0 ≤ (((60 : Int32) * x1) + x2).toInt ∧ (((60 : Int32) * x1) + x2).toInt < 360) ∧ (¬ (x3 = 0) → ¬ (x3 = (1 : Int32)) → ¬ (x3 = (2 : Int32)) → ¬ (x3 = (3 : Int32)) → ¬ (x3 = (4 : Int32)) → 0 ≤ (((60 : Int32) * x1) + x2).toInt ∧ (((60 : Int32) * x1) + x2).toInt < 360) ∧ (∀ m12 : Int32, m12 = (if x3 = 0 then (g 36 (z_ix (((60 : Int32) * x1) + x2))) else (if x3 = (1 : Int32) then (g 37 (z_ix (((60 : Int32) * x1) + x2))) else (if x3 = (2 : Int32) then (g 38 (z_ix (((60 : Int32) * x1) + x2))) else (if x3 = (3 : Int32) then (g 39 (z_ix (((60 : Int32) * x1) + x2))) else (if x3 = (4 : Int32) then (g 40 (z_ix (((60 : Int32) * x1) + x2))) else (g 41 (z_ix (((60 : Int32) * x1) + x2)))))))) → Q m12 g)) else (Q (-1 : Int32) g)) else (Q (-1 : Int32) g)) else (Q (-1 : Int32) g)) : MK z_pI 178 [.ref 27, .int x1, .int x2, .int x3] g Q := by
  refine m_K (L := [some (.ref 27), some (.int x1), some (.int x2), some (.int x3), none]) rfl ?_
  refine m_n 2 (pc' := 2) (L' := [some (.ref 27), some (.int x1), some (.int x2), some (.int x3), none]) (S' := [.int x1, .ref 27]) (fun _ => rfl) ?_
  refine m_cI 163 2 rfl rfl rfl (A := [.ref 27, .int x1]) rfl rfl (Or.inr ⟨rfl, _, rfl⟩) (rest := []) rfl rfl rfl ?_
  refine X_163 x1 g ?_
  refine m_b (c := z_bt ((0 : Int32) ≤ x1 ∧ x1 ≤ ((g 27 1) - (1 : Int32))) = 0) (pc' := 36) (L' := [some (.ref 27), some (.int x1), some (.int x2), some (.int x3), none]) (S' := []) (pc2 := 8) (L2 := [some (.ref 27), some (.int x1), some (.int x2), some (.int x3), none]) (S2 := []) rfl (fun _ => rfl) (fun hc => ?_) (fun hc => ?_)
  · have hc := z_bt_0.mp hc
    rw [if_neg hc] at H
    refine m_n 1 (pc' := 37) (L' := [some (.ref 27), some (.int x1), some (.int x2), some (.int x3), none]) (S' := [.int (-1 : Int32)]) (fun _ => rfl) ?_
    exact m_r rfl rfl rfl H
  · have hc := Decidable.not_not.mp (fun q => hc (z_bt_0.mpr q))
    rw [if_pos hc] at H
    refine m_n 4 (pc' := 12) (L' := [some (.ref 27), some (.int x1), some (.int x2), some (.int x3), none]) (S' := [.ref 27, .long (0 : Int64), .long x2.toInt64]) (fun _ => rfl) ?_
    refine m_gI rfl ?_
    refine m_n 3 (pc' := 18) (L' := [some (.ref 27), some (.int x1), some (.int x2), some (.int x3), none]) (S' := [.long (((g 27 0) - (1 : Int32)).toInt64), .long (0 : Int64), .long x2.toInt64]) (fun _ => rfl) ?_
    refine m_cI 161 3 rfl rfl rfl (A := [.long x2.toInt64, .long (0 : Int64), .long (((g 27 0) - (1 : Int32)).toInt64)]) rfl rfl (Or.inl rfl) (rest := []) rfl rfl rfl ?_
    refine c_inJ x2 (0 : Int32) ((g 27 0) - (1 : Int32)) g rfl rfl rfl ?_
    refine m_b (c := z_bt ((0 : Int32) ≤ x2 ∧ x2 ≤ ((g 27 0) - (1 : Int32))) = 0) (pc' := 36) (L' := [some (.ref 27), some (.int x1), some (.int x2), some (.int x3), none]) (S' := []) (pc2 := 24) (L2 := [some (.ref 27), some (.int x1), some (.int x2), some (.int x3), none]) (S2 := []) rfl (fun _ => rfl) (fun hc => ?_) (fun hc => ?_)
    · have hc := z_bt_0.mp hc
      rw [if_neg hc] at H
      refine m_n 1 (pc' := 37) (L' := [some (.ref 27), some (.int x1), some (.int x2), some (.int x3), none]) (S' := [.int (-1 : Int32)]) (fun _ => rfl) ?_
      exact m_r rfl rfl rfl H
    · have hc := Decidable.not_not.mp (fun q => hc (z_bt_0.mpr q))
      rw [if_pos hc] at H
      refine m_n 4 (pc' := 30) (L' := [some (.ref 27), some (.int x1), some (.int x2), some (.int x3), none]) (S' := [.long (5 : Int64), .long (0 : Int64), .long x3.toInt64]) (fun _ => rfl) ?_
      refine m_cI 161 3 rfl rfl rfl (A := [.long x3.toInt64, .long (0 : Int64), .long (5 : Int64)]) rfl rfl (Or.inl rfl) (rest := []) rfl rfl rfl ?_
      refine c_inJ x3 (0 : Int32) (5 : Int32) g rfl rfl rfl ?_
      refine m_b (c := z_bt ((0 : Int32) ≤ x3 ∧ x3 ≤ (5 : Int32)) = 0) (pc' := 36) (L' := [some (.ref 27), some (.int x1), some (.int x2), some (.int x3), none]) (S' := []) (pc2 := 38) (L2 := [some (.ref 27), some (.int x1), some (.int x2), some (.int x3), none]) (S2 := []) rfl (fun _ => rfl) (fun hc => ?_) (fun hc => ?_)
      · have hc := z_bt_0.mp hc
        rw [if_neg hc] at H
        refine m_n 1 (pc' := 37) (L' := [some (.ref 27), some (.int x1), some (.int x2), some (.int x3), none]) (S' := [.int (-1 : Int32)]) (fun _ => rfl) ?_
        exact m_r rfl rfl rfl H
      · have hc := Decidable.not_not.mp (fun q => hc (z_bt_0.mpr q))
        rw [if_pos hc] at H
        refine m_n 7 (pc' := 47) (L' := [some (.ref 27), some (.int x1), some (.int x2), some (.int x3), some (.int (((60 : Int32) * x1) + x2))]) (S' := [.int x3]) (fun _ => rfl) ?_
        obtain ⟨o2, H⟩ := H
        obtain ⟨o4, H⟩ := H
        obtain ⟨o6, H⟩ := H
        obtain ⟨o8, H⟩ := H
        obtain ⟨o10, H⟩ := H
        obtain ⟨o11, H⟩ := H
        obtain ⟨m12, em12⟩ : ∃ m : Int32, m = (if x3 = 0 then (g 36 (z_ix (((60 : Int32) * x1) + x2))) else (if x3 = (1 : Int32) then (g 37 (z_ix (((60 : Int32) * x1) + x2))) else (if x3 = (2 : Int32) then (g 38 (z_ix (((60 : Int32) * x1) + x2))) else (if x3 = (3 : Int32) then (g 39 (z_ix (((60 : Int32) * x1) + x2))) else (if x3 = (4 : Int32) then (g 40 (z_ix (((60 : Int32) * x1) + x2))) else (g 41 (z_ix (((60 : Int32) * x1) + x2)))))))) := ⟨_, rfl⟩
        have H := H m12 em12
        have hj13 : MG z_pI 178 127 [some (.ref 27), some (.int x1), some (.int x2), some (.int x3), some (.int (((60 : Int32) * x1) + x2))] [.int m12] g Q := by
          exact m_r rfl rfl rfl H
        refine m_b (c := x3 = 0) (pc' := 50) (L' := [some (.ref 27), some (.int x1), some (.int x2), some (.int x3), some (.int (((60 : Int32) * x1) + x2))]) (S' := []) (pc2 := 60) (L2 := [some (.ref 27), some (.int x1), some (.int x2), some (.int x3), some (.int (((60 : Int32) * x1) + x2))]) (S2 := []) rfl (fun _ => rfl) (fun hc => ?_) (fun hc => ?_)
        · have c1 := hc
          refine m_n 1 (pc' := 51) (L' := [some (.ref 27), some (.int x1), some (.int x2), some (.int x3), some (.int (((60 : Int32) * x1) + x2))]) (S' := [.ref 27]) (fun _ => rfl) ?_
          refine m_gR (q := 36) rfl (by decide) ?_
          refine m_n 1 (pc' := 56) (L' := [some (.ref 27), some (.int x1), some (.int x2), some (.int x3), some (.int (((60 : Int32) * x1) + x2))]) (S' := [.int (((60 : Int32) * x1) + x2), .ref 36]) (fun _ => rfl) ?_
          refine m_ia 360 rfl rfl (o2 c1) ?_
          refine m_n 1 (pc' := 127) (L' := [some (.ref 27), some (.int x1), some (.int x2), some (.int x3), some (.int (((60 : Int32) * x1) + x2))]) (S' := [.int (g 36 (z_ix (((60 : Int32) * x1) + x2)))]) (fun _ => rfl) ?_
          rw [(em12.trans (by rw [if_pos c1]) : m12 = (g 36 (z_ix (((60 : Int32) * x1) + x2))))] at hj13
          exact hj13
        · have c1 := hc
          refine m_n 2 (pc' := 62) (L' := [some (.ref 27), some (.int x1), some (.int x2), some (.int x3), some (.int (((60 : Int32) * x1) + x2))]) (S' := [.int (1 : Int32), .int x3]) (fun _ => rfl) ?_
          refine m_b (c := x3 = (1 : Int32)) (pc' := 65) (L' := [some (.ref 27), some (.int x1), some (.int x2), some (.int x3), some (.int (((60 : Int32) * x1) + x2))]) (S' := []) (pc2 := 75) (L2 := [some (.ref 27), some (.int x1), some (.int x2), some (.int x3), some (.int (((60 : Int32) * x1) + x2))]) (S2 := []) rfl (fun _ => rfl) (fun hc => ?_) (fun hc => ?_)
          · have c3 := hc
            refine m_n 1 (pc' := 66) (L' := [some (.ref 27), some (.int x1), some (.int x2), some (.int x3), some (.int (((60 : Int32) * x1) + x2))]) (S' := [.ref 27]) (fun _ => rfl) ?_
            refine m_gR (q := 37) rfl (by decide) ?_
            refine m_n 1 (pc' := 71) (L' := [some (.ref 27), some (.int x1), some (.int x2), some (.int x3), some (.int (((60 : Int32) * x1) + x2))]) (S' := [.int (((60 : Int32) * x1) + x2), .ref 37]) (fun _ => rfl) ?_
            refine m_ia 360 rfl rfl (o4 c1 c3) ?_
            refine m_n 1 (pc' := 127) (L' := [some (.ref 27), some (.int x1), some (.int x2), some (.int x3), some (.int (((60 : Int32) * x1) + x2))]) (S' := [.int (g 37 (z_ix (((60 : Int32) * x1) + x2)))]) (fun _ => rfl) ?_
            rw [(em12.trans (by rw [if_neg c1, if_pos c3]) : m12 = (g 37 (z_ix (((60 : Int32) * x1) + x2))))] at hj13
            exact hj13
          · have c3 := hc
            refine m_n 2 (pc' := 77) (L' := [some (.ref 27), some (.int x1), some (.int x2), some (.int x3), some (.int (((60 : Int32) * x1) + x2))]) (S' := [.int (2 : Int32), .int x3]) (fun _ => rfl) ?_
            refine m_b (c := x3 = (2 : Int32)) (pc' := 80) (L' := [some (.ref 27), some (.int x1), some (.int x2), some (.int x3), some (.int (((60 : Int32) * x1) + x2))]) (S' := []) (pc2 := 90) (L2 := [some (.ref 27), some (.int x1), some (.int x2), some (.int x3), some (.int (((60 : Int32) * x1) + x2))]) (S2 := []) rfl (fun _ => rfl) (fun hc => ?_) (fun hc => ?_)
            · have c5 := hc
              refine m_n 1 (pc' := 81) (L' := [some (.ref 27), some (.int x1), some (.int x2), some (.int x3), some (.int (((60 : Int32) * x1) + x2))]) (S' := [.ref 27]) (fun _ => rfl) ?_
              refine m_gR (q := 38) rfl (by decide) ?_
              refine m_n 1 (pc' := 86) (L' := [some (.ref 27), some (.int x1), some (.int x2), some (.int x3), some (.int (((60 : Int32) * x1) + x2))]) (S' := [.int (((60 : Int32) * x1) + x2), .ref 38]) (fun _ => rfl) ?_
              refine m_ia 360 rfl rfl (o6 c1 c3 c5) ?_
              refine m_n 1 (pc' := 127) (L' := [some (.ref 27), some (.int x1), some (.int x2), some (.int x3), some (.int (((60 : Int32) * x1) + x2))]) (S' := [.int (g 38 (z_ix (((60 : Int32) * x1) + x2)))]) (fun _ => rfl) ?_
              rw [(em12.trans (by rw [if_neg c1, if_neg c3, if_pos c5]) : m12 = (g 38 (z_ix (((60 : Int32) * x1) + x2))))] at hj13
              exact hj13
            · have c5 := hc
              refine m_n 2 (pc' := 92) (L' := [some (.ref 27), some (.int x1), some (.int x2), some (.int x3), some (.int (((60 : Int32) * x1) + x2))]) (S' := [.int (3 : Int32), .int x3]) (fun _ => rfl) ?_
              refine m_b (c := x3 = (3 : Int32)) (pc' := 95) (L' := [some (.ref 27), some (.int x1), some (.int x2), some (.int x3), some (.int (((60 : Int32) * x1) + x2))]) (S' := []) (pc2 := 105) (L2 := [some (.ref 27), some (.int x1), some (.int x2), some (.int x3), some (.int (((60 : Int32) * x1) + x2))]) (S2 := []) rfl (fun _ => rfl) (fun hc => ?_) (fun hc => ?_)
              · have c7 := hc
                refine m_n 1 (pc' := 96) (L' := [some (.ref 27), some (.int x1), some (.int x2), some (.int x3), some (.int (((60 : Int32) * x1) + x2))]) (S' := [.ref 27]) (fun _ => rfl) ?_
                refine m_gR (q := 39) rfl (by decide) ?_
                refine m_n 1 (pc' := 101) (L' := [some (.ref 27), some (.int x1), some (.int x2), some (.int x3), some (.int (((60 : Int32) * x1) + x2))]) (S' := [.int (((60 : Int32) * x1) + x2), .ref 39]) (fun _ => rfl) ?_
                refine m_ia 360 rfl rfl (o8 c1 c3 c5 c7) ?_
                refine m_n 1 (pc' := 127) (L' := [some (.ref 27), some (.int x1), some (.int x2), some (.int x3), some (.int (((60 : Int32) * x1) + x2))]) (S' := [.int (g 39 (z_ix (((60 : Int32) * x1) + x2)))]) (fun _ => rfl) ?_
                rw [(em12.trans (by rw [if_neg c1, if_neg c3, if_neg c5, if_pos c7]) : m12 = (g 39 (z_ix (((60 : Int32) * x1) + x2))))] at hj13
                exact hj13
              · have c7 := hc
                refine m_n 2 (pc' := 107) (L' := [some (.ref 27), some (.int x1), some (.int x2), some (.int x3), some (.int (((60 : Int32) * x1) + x2))]) (S' := [.int (4 : Int32), .int x3]) (fun _ => rfl) ?_
                refine m_b (c := x3 = (4 : Int32)) (pc' := 110) (L' := [some (.ref 27), some (.int x1), some (.int x2), some (.int x3), some (.int (((60 : Int32) * x1) + x2))]) (S' := []) (pc2 := 120) (L2 := [some (.ref 27), some (.int x1), some (.int x2), some (.int x3), some (.int (((60 : Int32) * x1) + x2))]) (S2 := []) rfl (fun _ => rfl) (fun hc => ?_) (fun hc => ?_)
                · have c9 := hc
                  refine m_n 1 (pc' := 111) (L' := [some (.ref 27), some (.int x1), some (.int x2), some (.int x3), some (.int (((60 : Int32) * x1) + x2))]) (S' := [.ref 27]) (fun _ => rfl) ?_
                  refine m_gR (q := 40) rfl (by decide) ?_
                  refine m_n 1 (pc' := 116) (L' := [some (.ref 27), some (.int x1), some (.int x2), some (.int x3), some (.int (((60 : Int32) * x1) + x2))]) (S' := [.int (((60 : Int32) * x1) + x2), .ref 40]) (fun _ => rfl) ?_
                  refine m_ia 360 rfl rfl (o10 c1 c3 c5 c7 c9) ?_
                  refine m_n 1 (pc' := 127) (L' := [some (.ref 27), some (.int x1), some (.int x2), some (.int x3), some (.int (((60 : Int32) * x1) + x2))]) (S' := [.int (g 40 (z_ix (((60 : Int32) * x1) + x2)))]) (fun _ => rfl) ?_
                  rw [(em12.trans (by rw [if_neg c1, if_neg c3, if_neg c5, if_neg c7, if_pos c9]) : m12 = (g 40 (z_ix (((60 : Int32) * x1) + x2))))] at hj13
                  exact hj13
                · have c9 := hc
                  refine m_n 1 (pc' := 121) (L' := [some (.ref 27), some (.int x1), some (.int x2), some (.int x3), some (.int (((60 : Int32) * x1) + x2))]) (S' := [.ref 27]) (fun _ => rfl) ?_
                  refine m_gR (q := 41) rfl (by decide) ?_
                  refine m_n 1 (pc' := 126) (L' := [some (.ref 27), some (.int x1), some (.int x2), some (.int x3), some (.int (((60 : Int32) * x1) + x2))]) (S' := [.int (((60 : Int32) * x1) + x2), .ref 41]) (fun _ => rfl) ?_
                  refine m_ia 360 rfl rfl (o11 c1 c3 c5 c7 c9) ?_
                  rw [(em12.trans (by rw [if_neg c1, if_neg c3, if_neg c5, if_neg c7, if_neg c9]) : m12 = (g 41 (z_ix (((60 : Int32) * x1) + x2))))] at hj13
                  exact hj13
set_option maxRecDepth 20000 in
theorem X_180 (x1 : Int32) (x2 : Int32) (g : zG) {Q : Int32 → zG → Prop} (H : if (0 : Int32) ≤ x1 ∧ x1 ≤ ((g 27 1) - (1 : Int32)) then ((Cn g) ∧ (if x2 = (0 : Int32) then ((0 ≤ x1.toInt ∧ x1.toInt < 6) ∧ Q (g 30 (z_ix x1)) g) else (if x2 = (1 : Int32) then ((0 ≤ x1.toInt ∧ x1.toInt < 6) ∧ Q (g 31 (z_ix x1)) g) else (if x2 = (2 : Int32) then (Q (s_no (q_wk g x1)) g) else (if x2 = (3 : Int32) then (if s_no (q_wk g x1) = (-4 : Int32) then (Q (-4 : Int32) g) else ((0 ≤ (s_no (q_wk g x1)).toInt ∧ (s_no (q_wk g x1)).toInt < 12) ∧ (0 ≤ (((12 : Int32) * x1) + ((g 27 0) - (g 27 0) / (12 : Int32) * (12 : Int32))).toInt ∧ (((12 : Int32) * x1) + ((g 27 0) - (g 27 0) / (12 : Int32) * (12 : Int32))).toInt < 72) ∧ (0 ≤ x1.toInt ∧ x1.toInt < 6) ∧ (¬ (g 48 (z_ix (s_no (q_wk g x1)))).toInt64 = 0) ∧ Q ((((((g 32 (z_ix (((12 : Int32) * x1) + ((g 27 0) - (g 27 0) / (12 : Int32) * (12 : Int32))))).toInt64 * (g 30 (z_ix x1)).toInt64) + (g 48 (z_ix (s_no (q_wk g x1)))).toInt64) - (1 : Int64)) / (g 48 (z_ix (s_no (q_wk g x1)))).toInt64).toInt32) g)) else (if x2 = (4 : Int32) then ((0 ≤ x1.toInt ∧ x1.toInt < 6) ∧ Q (g 33 (z_ix x1)) g) else (if x2 = (5 : Int32) then ((Cn g) ∧ Q (q_un g x1) g) else (Q (-1 : Int32) g)))))))) else (Q (-1 : Int32) g)) : MK z_pI 180 [.ref 27, .int x1, .int x2] g Q := by
  refine m_K (L := [some (.ref 27), some (.int x1), some (.int x2), none]) rfl ?_
  refine m_n 2 (pc' := 2) (L' := [some (.ref 27), some (.int x1), some (.int x2), none]) (S' := [.int x1, .ref 27]) (fun _ => rfl) ?_
  refine m_cI 163 2 rfl rfl rfl (A := [.ref 27, .int x1]) rfl rfl (Or.inr ⟨rfl, _, rfl⟩) (rest := []) rfl rfl rfl ?_
  refine X_163 x1 g ?_
  refine m_b (c := z_bt ((0 : Int32) ≤ x1 ∧ x1 ≤ ((g 27 1) - (1 : Int32))) = 0) (pc' := 8) (L' := [some (.ref 27), some (.int x1), some (.int x2), none]) (S' := []) (pc2 := 10) (L2 := [some (.ref 27), some (.int x1), some (.int x2), none]) (S2 := []) rfl (fun _ => rfl) (fun hc => ?_) (fun hc => ?_)
  · have hc := z_bt_0.mp hc
    rw [if_neg hc] at H
    refine m_n 1 (pc' := 9) (L' := [some (.ref 27), some (.int x1), some (.int x2), none]) (S' := [.int (-1 : Int32)]) (fun _ => rfl) ?_
    exact m_r rfl rfl rfl H
  · have hc := Decidable.not_not.mp (fun q => hc (z_bt_0.mpr q))
    rw [if_pos hc] at H
    refine m_n 2 (pc' := 12) (L' := [some (.ref 27), some (.int x1), some (.int x2), none]) (S' := [.int x1, .ref 27]) (fun _ => rfl) ?_
    refine m_cI 170 2 rfl rfl rfl (A := [.ref 27, .int x1]) rfl rfl (Or.inr ⟨rfl, _, rfl⟩) (rest := []) rfl rfl rfl ?_
    obtain ⟨o1, H⟩ := H
    refine c_working x1 g o1 ?_
    refine m_n 2 (pc' := 17) (L' := [some (.ref 27), some (.int x1), some (.int x2), some (.int (s_no (q_wk g x1)))]) (S' := [.int x2]) (fun _ => rfl) ?_
    by_cases w2 : x2 = (0 : Int32)
    · rw [if_pos w2] at H
      refine m_sw (pc' := 56) rfl (congrArg (z_tgt 17) (z_swT (k := (0 : Int32)) w2 rfl)) ?_
      refine m_n 1 (pc' := 57) (L' := [some (.ref 27), some (.int x1), some (.int x2), some (.int (s_no (q_wk g x1)))]) (S' := [.ref 27]) (fun _ => rfl) ?_
      refine m_gR (q := 30) rfl (by decide) ?_
      refine m_n 1 (pc' := 61) (L' := [some (.ref 27), some (.int x1), some (.int x2), some (.int (s_no (q_wk g x1)))]) (S' := [.int x1, .ref 30]) (fun _ => rfl) ?_
      obtain ⟨o3, H⟩ := H
      refine m_ia 6 rfl rfl o3 ?_
      exact m_r rfl rfl rfl H
    rw [if_neg w2] at H
    by_cases w4 : x2 = (1 : Int32)
    · rw [if_pos w4] at H
      refine m_sw (pc' := 63) rfl (congrArg (z_tgt 17) (z_swN (k := (0 : Int32)) w2 rfl (z_swT (k := (1 : Int32)) w4 rfl))) ?_
      refine m_n 1 (pc' := 64) (L' := [some (.ref 27), some (.int x1), some (.int x2), some (.int (s_no (q_wk g x1)))]) (S' := [.ref 27]) (fun _ => rfl) ?_
      refine m_gR (q := 31) rfl (by decide) ?_
      refine m_n 1 (pc' := 68) (L' := [some (.ref 27), some (.int x1), some (.int x2), some (.int (s_no (q_wk g x1)))]) (S' := [.int x1, .ref 31]) (fun _ => rfl) ?_
      obtain ⟨o5, H⟩ := H
      refine m_ia 6 rfl rfl o5 ?_
      exact m_r rfl rfl rfl H
    rw [if_neg w4] at H
    by_cases w6 : x2 = (2 : Int32)
    · rw [if_pos w6] at H
      refine m_sw (pc' := 70) rfl (congrArg (z_tgt 17) (z_swN (k := (0 : Int32)) w2 rfl (z_swN (k := (1 : Int32)) w4 rfl (z_swT (k := (2 : Int32)) w6 rfl)))) ?_
      refine m_n 1 (pc' := 71) (L' := [some (.ref 27), some (.int x1), some (.int x2), some (.int (s_no (q_wk g x1)))]) (S' := [.int (s_no (q_wk g x1))]) (fun _ => rfl) ?_
      exact m_r rfl rfl rfl H
    rw [if_neg w6] at H
    by_cases w7 : x2 = (3 : Int32)
    · rw [if_pos w7] at H
      refine m_sw (pc' := 72) rfl (congrArg (z_tgt 17) (z_swN (k := (0 : Int32)) w2 rfl (z_swN (k := (1 : Int32)) w4 rfl (z_swN (k := (2 : Int32)) w6 rfl (z_swT (k := (3 : Int32)) w7 rfl))))) ?_
      refine m_n 2 (pc' := 75) (L' := [some (.ref 27), some (.int x1), some (.int x2), some (.int (s_no (q_wk g x1)))]) (S' := [.int (-4 : Int32), .int (s_no (q_wk g x1))]) (fun _ => rfl) ?_
      refine m_b (c := s_no (q_wk g x1) = (-4 : Int32)) (pc' := 78) (L' := [some (.ref 27), some (.int x1), some (.int x2), some (.int (s_no (q_wk g x1)))]) (S' := []) (pc2 := 83) (L2 := [some (.ref 27), some (.int x1), some (.int x2), some (.int (s_no (q_wk g x1)))]) (S2 := []) rfl (fun _ => rfl) (fun hc => ?_) (fun hc => ?_)
      · have hc := hc
        rw [if_pos hc] at H
        refine m_n 2 (pc' := 99) (L' := [some (.ref 27), some (.int x1), some (.int x2), some (.int (s_no (q_wk g x1)))]) (S' := [.int (-4 : Int32)]) (fun _ => rfl) ?_
        exact m_r rfl rfl rfl H
      · have hc := hc
        rw [if_neg hc] at H
        refine m_n 3 (pc' := 86) (L' := [some (.ref 27), some (.int x1), some (.int x2), some (.int (s_no (q_wk g x1)))]) (S' := [.ref 27, .int x1, .ref 27]) (fun _ => rfl) ?_
        refine m_gI rfl ?_
        refine m_n 1 (pc' := 90) (L' := [some (.ref 27), some (.int x1), some (.int x2), some (.int (s_no (q_wk g x1)))]) (S' := [.ref 27, .int (g 27 0), .int x1, .ref 27]) (fun _ => rfl) ?_
        refine m_gR (q := 48) rfl (by decide) ?_
        refine m_n 1 (pc' := 94) (L' := [some (.ref 27), some (.int x1), some (.int x2), some (.int (s_no (q_wk g x1)))]) (S' := [.int (s_no (q_wk g x1)), .ref 48, .int (g 27 0), .int x1, .ref 27]) (fun _ => rfl) ?_
        obtain ⟨o8, H⟩ := H
        refine m_ia 12 rfl rfl o8 ?_
        refine m_cL 174 4 rfl rfl rfl (A := [.ref 27, .int x1, .int (g 27 0), .int (g 48 (z_ix (s_no (q_wk g x1))))]) rfl rfl (Or.inr ⟨rfl, _, rfl⟩) (rest := []) rfl rfl ?_
        obtain ⟨o9, H⟩ := H
        obtain ⟨o10, H⟩ := H
        obtain ⟨o11, H⟩ := H
        refine X_174 x1 (g 27 0) (g 48 (z_ix (s_no (q_wk g x1)))) g ⟨o9, ⟨o10, ⟨o11, ?_⟩⟩⟩
        refine m_n 1 (pc' := 99) (L' := [some (.ref 27), some (.int x1), some (.int x2), some (.int (s_no (q_wk g x1)))]) (S' := [.int ((((((g 32 (z_ix (((12 : Int32) * x1) + ((g 27 0) - (g 27 0) / (12 : Int32) * (12 : Int32))))).toInt64 * (g 30 (z_ix x1)).toInt64) + (g 48 (z_ix (s_no (q_wk g x1)))).toInt64) - (1 : Int64)) / (g 48 (z_ix (s_no (q_wk g x1)))).toInt64).toInt32)]) (fun _ => rfl) ?_
        exact m_r rfl rfl rfl H
    rw [if_neg w7] at H
    by_cases w12 : x2 = (4 : Int32)
    · rw [if_pos w12] at H
      refine m_sw (pc' := 100) rfl (congrArg (z_tgt 17) (z_swN (k := (0 : Int32)) w2 rfl (z_swN (k := (1 : Int32)) w4 rfl (z_swN (k := (2 : Int32)) w6 rfl (z_swN (k := (3 : Int32)) w7 rfl (z_swT (k := (4 : Int32)) w12 rfl)))))) ?_
      refine m_n 1 (pc' := 101) (L' := [some (.ref 27), some (.int x1), some (.int x2), some (.int (s_no (q_wk g x1)))]) (S' := [.ref 27]) (fun _ => rfl) ?_
      refine m_gR (q := 33) rfl (by decide) ?_
      refine m_n 1 (pc' := 105) (L' := [some (.ref 27), some (.int x1), some (.int x2), some (.int (s_no (q_wk g x1)))]) (S' := [.int x1, .ref 33]) (fun _ => rfl) ?_
      obtain ⟨o13, H⟩ := H
      refine m_ia 6 rfl rfl o13 ?_
      exact m_r rfl rfl rfl H
    rw [if_neg w12] at H
    by_cases w14 : x2 = (5 : Int32)
    · rw [if_pos w14] at H
      refine m_sw (pc' := 107) rfl (congrArg (z_tgt 17) (z_swN (k := (0 : Int32)) w2 rfl (z_swN (k := (1 : Int32)) w4 rfl (z_swN (k := (2 : Int32)) w6 rfl (z_swN (k := (3 : Int32)) w7 rfl (z_swN (k := (4 : Int32)) w12 rfl (z_swT (k := (5 : Int32)) w14 rfl))))))) ?_
      refine m_n 2 (pc' := 109) (L' := [some (.ref 27), some (.int x1), some (.int x2), some (.int (s_no (q_wk g x1)))]) (S' := [.int x1, .ref 27]) (fun _ => rfl) ?_
      refine m_cI 179 2 rfl rfl rfl (A := [.ref 27, .int x1]) rfl rfl (Or.inr ⟨rfl, _, rfl⟩) (rest := []) rfl rfl rfl ?_
      obtain ⟨o15, H⟩ := H
      refine c_unread x1 g o15 ?_
      exact m_r rfl rfl rfl H
    rw [if_neg w14] at H
    refine m_sw (pc' := 113) rfl (congrArg (z_tgt 17) (z_swN (k := (0 : Int32)) w2 rfl (z_swN (k := (1 : Int32)) w4 rfl (z_swN (k := (2 : Int32)) w6 rfl (z_swN (k := (3 : Int32)) w7 rfl (z_swN (k := (4 : Int32)) w12 rfl (z_swN (k := (5 : Int32)) w14 rfl rfl))))))) ?_
    refine m_n 1 (pc' := 114) (L' := [some (.ref 27), some (.int x1), some (.int x2), some (.int (s_no (q_wk g x1)))]) (S' := [.int (-1 : Int32)]) (fun _ => rfl) ?_
    exact m_r rfl rfl rfl H
set_option maxRecDepth 20000 in
theorem X_182 (x1 : Int32) (x2 : Int32) (x3 : Int32) (x4 : Int32) (g : zG) {Q : Int32 → zG → Prop} (H : if (0 : Int32) ≤ x1 ∧ x1 ≤ ((g 27 1) - (1 : Int32)) then (if (1 : Int32) ≤ x2 ∧ x2 ≤ (9999 : Int32) then (if (1 : Int32) ≤ x3 ∧ x3 ≤ (99 : Int32) then (if (1 : Int32) ≤ x4 ∧ x4 ≤ (9999 : Int32) then ((0 ≤ x1.toInt ∧ x1.toInt < 6) ∧ (0 ≤ x1.toInt ∧ x1.toInt < 6) ∧ (0 ≤ x1.toInt ∧ x1.toInt < 6) ∧ (0 ≤ x1.toInt ∧ x1.toInt < 6) ∧ (0 ≤ x1.toInt ∧ x1.toInt < 6) ∧ (¬ (x2.toInt64 * x3.toInt64) = 0) ∧ (∀ m6 : Int64, m6 = (if ((((1000 : Int64) * x3.toInt64) * x4.toInt64) / (x2.toInt64 * x3.toInt64)) ≤ (100000 : Int64) then ((((1000 : Int64) * x3.toInt64) * x4.toInt64) / (x2.toInt64 * x3.toInt64)) else (100000 : Int64)) → Q m6.toInt32 (z_up2 (z_up2 (z_up2 (z_up2 g 42 (z_ix x1) x2) 43 (z_ix x1) x3) 44 (z_ix x1) x4) 45 (z_ix x1) ((z_up2 (z_up2 (z_up2 g 42 (z_ix x1) x2) 43 (z_ix x1) x3) 44 (z_ix x1) x4) 30 (z_ix x1))))) else (Q (-1 : Int32) g)) else (Q (-1 : Int32) g)) else (Q (-1 : Int32) g)) else (Q (-1 : Int32) g)) : MK z_pI 182 [.ref 27, .int x1, .int x2, .int x3, .int x4] g Q := by
  refine m_K (L := [some (.ref 27), some (.int x1), some (.int x2), some (.int x3), some (.int x4)]) rfl ?_
  refine m_n 2 (pc' := 2) (L' := [some (.ref 27), some (.int x1), some (.int x2), some (.int x3), some (.int x4)]) (S' := [.int x1, .ref 27]) (fun _ => rfl) ?_
  refine m_cI 163 2 rfl rfl rfl (A := [.ref 27, .int x1]) rfl rfl (Or.inr ⟨rfl, _, rfl⟩) (rest := []) rfl rfl rfl ?_
  refine X_163 x1 g ?_
  refine m_b (c := z_bt ((0 : Int32) ≤ x1 ∧ x1 ≤ ((g 27 1) - (1 : Int32))) = 0) (pc' := 45) (L' := [some (.ref 27), some (.int x1), some (.int x2), some (.int x3), some (.int x4)]) (S' := []) (pc2 := 8) (L2 := [some (.ref 27), some (.int x1), some (.int x2), some (.int x3), some (.int x4)]) (S2 := []) rfl (fun _ => rfl) (fun hc => ?_) (fun hc => ?_)
  · have hc := z_bt_0.mp hc
    rw [if_neg hc] at H
    refine m_n 1 (pc' := 46) (L' := [some (.ref 27), some (.int x1), some (.int x2), some (.int x3), some (.int x4)]) (S' := [.int (-1 : Int32)]) (fun _ => rfl) ?_
    exact m_r rfl rfl rfl H
  · have hc := Decidable.not_not.mp (fun q => hc (z_bt_0.mpr q))
    rw [if_pos hc] at H
    refine m_n 4 (pc' := 14) (L' := [some (.ref 27), some (.int x1), some (.int x2), some (.int x3), some (.int x4)]) (S' := [.long (9999 : Int64), .long (1 : Int64), .long x2.toInt64]) (fun _ => rfl) ?_
    refine m_cI 161 3 rfl rfl rfl (A := [.long x2.toInt64, .long (1 : Int64), .long (9999 : Int64)]) rfl rfl (Or.inl rfl) (rest := []) rfl rfl rfl ?_
    refine c_inJ x2 (1 : Int32) (9999 : Int32) g rfl rfl rfl ?_
    refine m_b (c := z_bt ((1 : Int32) ≤ x2 ∧ x2 ≤ (9999 : Int32)) = 0) (pc' := 45) (L' := [some (.ref 27), some (.int x1), some (.int x2), some (.int x3), some (.int x4)]) (S' := []) (pc2 := 20) (L2 := [some (.ref 27), some (.int x1), some (.int x2), some (.int x3), some (.int x4)]) (S2 := []) rfl (fun _ => rfl) (fun hc => ?_) (fun hc => ?_)
    · have hc := z_bt_0.mp hc
      rw [if_neg hc] at H
      refine m_n 1 (pc' := 46) (L' := [some (.ref 27), some (.int x1), some (.int x2), some (.int x3), some (.int x4)]) (S' := [.int (-1 : Int32)]) (fun _ => rfl) ?_
      exact m_r rfl rfl rfl H
    · have hc := Decidable.not_not.mp (fun q => hc (z_bt_0.mpr q))
      rw [if_pos hc] at H
      refine m_n 4 (pc' := 26) (L' := [some (.ref 27), some (.int x1), some (.int x2), some (.int x3), some (.int x4)]) (S' := [.long (99 : Int64), .long (1 : Int64), .long x3.toInt64]) (fun _ => rfl) ?_
      refine m_cI 161 3 rfl rfl rfl (A := [.long x3.toInt64, .long (1 : Int64), .long (99 : Int64)]) rfl rfl (Or.inl rfl) (rest := []) rfl rfl rfl ?_
      refine c_inJ x3 (1 : Int32) (99 : Int32) g rfl rfl rfl ?_
      refine m_b (c := z_bt ((1 : Int32) ≤ x3 ∧ x3 ≤ (99 : Int32)) = 0) (pc' := 45) (L' := [some (.ref 27), some (.int x1), some (.int x2), some (.int x3), some (.int x4)]) (S' := []) (pc2 := 32) (L2 := [some (.ref 27), some (.int x1), some (.int x2), some (.int x3), some (.int x4)]) (S2 := []) rfl (fun _ => rfl) (fun hc => ?_) (fun hc => ?_)
      · have hc := z_bt_0.mp hc
        rw [if_neg hc] at H
        refine m_n 1 (pc' := 46) (L' := [some (.ref 27), some (.int x1), some (.int x2), some (.int x3), some (.int x4)]) (S' := [.int (-1 : Int32)]) (fun _ => rfl) ?_
        exact m_r rfl rfl rfl H
      · have hc := Decidable.not_not.mp (fun q => hc (z_bt_0.mpr q))
        rw [if_pos hc] at H
        refine m_n 4 (pc' := 39) (L' := [some (.ref 27), some (.int x1), some (.int x2), some (.int x3), some (.int x4)]) (S' := [.long (9999 : Int64), .long (1 : Int64), .long x4.toInt64]) (fun _ => rfl) ?_
        refine m_cI 161 3 rfl rfl rfl (A := [.long x4.toInt64, .long (1 : Int64), .long (9999 : Int64)]) rfl rfl (Or.inl rfl) (rest := []) rfl rfl rfl ?_
        refine c_inJ x4 (1 : Int32) (9999 : Int32) g rfl rfl rfl ?_
        refine m_b (c := z_bt ((1 : Int32) ≤ x4 ∧ x4 ≤ (9999 : Int32)) = 0) (pc' := 45) (L' := [some (.ref 27), some (.int x1), some (.int x2), some (.int x3), some (.int x4)]) (S' := []) (pc2 := 47) (L2 := [some (.ref 27), some (.int x1), some (.int x2), some (.int x3), some (.int x4)]) (S2 := []) rfl (fun _ => rfl) (fun hc => ?_) (fun hc => ?_)
        · have hc := z_bt_0.mp hc
          rw [if_neg hc] at H
          refine m_n 1 (pc' := 46) (L' := [some (.ref 27), some (.int x1), some (.int x2), some (.int x3), some (.int x4)]) (S' := [.int (-1 : Int32)]) (fun _ => rfl) ?_
          exact m_r rfl rfl rfl H
        · have hc := Decidable.not_not.mp (fun q => hc (z_bt_0.mpr q))
          rw [if_pos hc] at H
          refine m_n 1 (pc' := 48) (L' := [some (.ref 27), some (.int x1), some (.int x2), some (.int x3), some (.int x4)]) (S' := [.ref 27]) (fun _ => rfl) ?_
          refine m_gR (q := 42) rfl (by decide) ?_
          refine m_n 2 (pc' := 53) (L' := [some (.ref 27), some (.int x1), some (.int x2), some (.int x3), some (.int x4)]) (S' := [.int x2, .int x1, .ref 42]) (fun _ => rfl) ?_
          obtain ⟨o1, H⟩ := H
          refine m_is 6 rfl rfl rfl o1 ?_
          refine m_n 1 (pc' := 55) (L' := [some (.ref 27), some (.int x1), some (.int x2), some (.int x3), some (.int x4)]) (S' := [.ref 27]) (fun _ => rfl) ?_
          refine m_gR (q := 43) rfl (by decide) ?_
          refine m_n 2 (pc' := 60) (L' := [some (.ref 27), some (.int x1), some (.int x2), some (.int x3), some (.int x4)]) (S' := [.int x3, .int x1, .ref 43]) (fun _ => rfl) ?_
          obtain ⟨o2, H⟩ := H
          refine m_is 6 rfl rfl rfl o2 ?_
          refine m_n 1 (pc' := 62) (L' := [some (.ref 27), some (.int x1), some (.int x2), some (.int x3), some (.int x4)]) (S' := [.ref 27]) (fun _ => rfl) ?_
          refine m_gR (q := 44) rfl (by decide) ?_
          refine m_n 2 (pc' := 68) (L' := [some (.ref 27), some (.int x1), some (.int x2), some (.int x3), some (.int x4)]) (S' := [.int x4, .int x1, .ref 44]) (fun _ => rfl) ?_
          obtain ⟨o3, H⟩ := H
          refine m_is 6 rfl rfl rfl o3 ?_
          refine m_n 1 (pc' := 70) (L' := [some (.ref 27), some (.int x1), some (.int x2), some (.int x3), some (.int x4)]) (S' := [.ref 27]) (fun _ => rfl) ?_
          refine m_gR (q := 45) rfl (by decide) ?_
          refine m_n 2 (pc' := 75) (L' := [some (.ref 27), some (.int x1), some (.int x2), some (.int x3), some (.int x4)]) (S' := [.ref 27, .int x1, .ref 45]) (fun _ => rfl) ?_
          refine m_gR (q := 30) rfl (by decide) ?_
          refine m_n 1 (pc' := 79) (L' := [some (.ref 27), some (.int x1), some (.int x2), some (.int x3), some (.int x4)]) (S' := [.int x1, .ref 30, .int x1, .ref 45]) (fun _ => rfl) ?_
          obtain ⟨o4, H⟩ := H
          refine m_ia 6 rfl rfl o4 ?_
          obtain ⟨o5, H⟩ := H
          refine m_is 6 rfl rfl rfl o5 ?_
          refine m_n 5 (pc' := 89) (L' := [some (.ref 27), some (.int x1), some (.int x2), some (.int x3), some (.int x4)]) (S' := [.int x4, .int x3, .int x2, .int x3, .long (1000 : Int64)]) (fun _ => rfl) ?_
          refine m_cL 181 5 rfl rfl rfl (A := [.long (1000 : Int64), .int x3, .int x2, .int x3, .int x4]) rfl rfl (Or.inl rfl) (rest := []) rfl rfl ?_
          obtain ⟨o7, H⟩ := H
          obtain ⟨m6, em6⟩ : ∃ m : Int64, m = (if ((((1000 : Int64) * x3.toInt64) * x4.toInt64) / (x2.toInt64 * x3.toInt64)) ≤ (100000 : Int64) then ((((1000 : Int64) * x3.toInt64) * x4.toInt64) / (x2.toInt64 * x3.toInt64)) else (100000 : Int64)) := ⟨_, rfl⟩
          have H := H m6 em6
          refine X_181 (1000 : Int64) x3 x2 x3 x4 (z_up2 (z_up2 (z_up2 (z_up2 g 42 (z_ix x1) x2) 43 (z_ix x1) x3) 44 (z_ix x1) x4) 45 (z_ix x1) ((z_up2 (z_up2 (z_up2 g 42 (z_ix x1) x2) 43 (z_ix x1) x3) 44 (z_ix x1) x4) 30 (z_ix x1))) ⟨o7, (z_all em6 ?_)⟩
          refine m_n 1 (pc' := 93) (L' := [some (.ref 27), some (.int x1), some (.int x2), some (.int x3), some (.int x4)]) (S' := [.int m6.toInt32]) (fun _ => rfl) ?_
          exact m_r rfl rfl rfl H
set_option maxRecDepth 20000 in
theorem X_200 (x1 : Int32) (x2 : Int32) (x3 : Int32) (g : zG) {Q : Int32 → zG → Prop} (H : if (0 : Int32) ≤ x1 ∧ x1 ≤ (5 : Int32) then (if (0 : Int32) ≤ x2 ∧ x2 ≤ (60 : Int32) then (if (10 : Int32) ≤ x3 ∧ x3 ≤ (17 : Int32) then ((Cn g) ∧ Q (q_hd g (4 : Int32) (x3 - (10 : Int32)) x2 (0 : Int32)) g) else (if x3 = (0 : Int32) then ((Cn g) ∧ Q (q_hd g (0 : Int32) x1 x2 (-4 : Int32)) g) else (if x3 = (1 : Int32) then ((Cn g) ∧ Q (q_hd g (1 : Int32) x1 x2 (-4 : Int32)) g) else (if x3 = (2 : Int32) then ((Cn g) ∧ Q (q_hd g (2 : Int32) x1 x2 (3 : Int32)) g) else (if x3 = (3 : Int32) then ((Cn g) ∧ Q (q_hd g (3 : Int32) x1 x2 (99 : Int32)) g) else (if x3 = (4 : Int32) then ((Cn g) ∧ Q (z_bt (¬ (q_wi g x2 = 0))) g) else (Q (-1 : Int32) g))))))) else (Q (-1 : Int32) g)) else (Q (-1 : Int32) g)) : MK z_pI 200 [.ref 27, .int x1, .int x2, .int x3] g Q := by
  refine m_K (L := [some (.ref 27), some (.int x1), some (.int x2), some (.int x3)]) rfl ?_
  refine m_n 4 (pc' := 6) (L' := [some (.ref 27), some (.int x1), some (.int x2), some (.int x3)]) (S' := [.long (5 : Int64), .long (0 : Int64), .long x1.toInt64]) (fun _ => rfl) ?_
  refine m_cI 161 3 rfl rfl rfl (A := [.long x1.toInt64, .long (0 : Int64), .long (5 : Int64)]) rfl rfl (Or.inl rfl) (rest := []) rfl rfl rfl ?_
  refine c_inJ x1 (0 : Int32) (5 : Int32) g rfl rfl rfl ?_
  refine m_b (c := z_bt ((0 : Int32) ≤ x1 ∧ x1 ≤ (5 : Int32)) = 0) (pc' := 24) (L' := [some (.ref 27), some (.int x1), some (.int x2), some (.int x3)]) (S' := []) (pc2 := 12) (L2 := [some (.ref 27), some (.int x1), some (.int x2), some (.int x3)]) (S2 := []) rfl (fun _ => rfl) (fun hc => ?_) (fun hc => ?_)
  · have hc := z_bt_0.mp hc
    rw [if_neg hc] at H
    refine m_n 1 (pc' := 25) (L' := [some (.ref 27), some (.int x1), some (.int x2), some (.int x3)]) (S' := [.int (-1 : Int32)]) (fun _ => rfl) ?_
    exact m_r rfl rfl rfl H
  · have hc := Decidable.not_not.mp (fun q => hc (z_bt_0.mpr q))
    rw [if_pos hc] at H
    refine m_n 4 (pc' := 18) (L' := [some (.ref 27), some (.int x1), some (.int x2), some (.int x3)]) (S' := [.long (60 : Int64), .long (0 : Int64), .long x2.toInt64]) (fun _ => rfl) ?_
    refine m_cI 161 3 rfl rfl rfl (A := [.long x2.toInt64, .long (0 : Int64), .long (60 : Int64)]) rfl rfl (Or.inl rfl) (rest := []) rfl rfl rfl ?_
    refine c_inJ x2 (0 : Int32) (60 : Int32) g rfl rfl rfl ?_
    refine m_b (c := z_bt ((0 : Int32) ≤ x2 ∧ x2 ≤ (60 : Int32)) = 0) (pc' := 24) (L' := [some (.ref 27), some (.int x1), some (.int x2), some (.int x3)]) (S' := []) (pc2 := 26) (L2 := [some (.ref 27), some (.int x1), some (.int x2), some (.int x3)]) (S2 := []) rfl (fun _ => rfl) (fun hc => ?_) (fun hc => ?_)
    · have hc := z_bt_0.mp hc
      rw [if_neg hc] at H
      refine m_n 1 (pc' := 25) (L' := [some (.ref 27), some (.int x1), some (.int x2), some (.int x3)]) (S' := [.int (-1 : Int32)]) (fun _ => rfl) ?_
      exact m_r rfl rfl rfl H
    · have hc := Decidable.not_not.mp (fun q => hc (z_bt_0.mpr q))
      rw [if_pos hc] at H
      refine m_n 4 (pc' := 34) (L' := [some (.ref 27), some (.int x1), some (.int x2), some (.int x3)]) (S' := [.long (17 : Int64), .long (10 : Int64), .long x3.toInt64]) (fun _ => rfl) ?_
      refine m_cI 161 3 rfl rfl rfl (A := [.long x3.toInt64, .long (10 : Int64), .long (17 : Int64)]) rfl rfl (Or.inl rfl) (rest := []) rfl rfl rfl ?_
      refine c_inJ x3 (10 : Int32) (17 : Int32) g rfl rfl rfl ?_
      refine m_b (c := z_bt ((10 : Int32) ≤ x3 ∧ x3 ≤ (17 : Int32)) = 0) (pc' := 52) (L' := [some (.ref 27), some (.int x1), some (.int x2), some (.int x3)]) (S' := []) (pc2 := 40) (L2 := [some (.ref 27), some (.int x1), some (.int x2), some (.int x3)]) (S2 := []) rfl (fun _ => rfl) (fun hc => ?_) (fun hc => ?_)
      · have hc := z_bt_0.mp hc
        rw [if_neg hc] at H
        refine m_n 1 (pc' := 53) (L' := [some (.ref 27), some (.int x1), some (.int x2), some (.int x3)]) (S' := [.int x3]) (fun _ => rfl) ?_
        by_cases w1 : x3 = (0 : Int32)
        · rw [if_pos w1] at H
          refine m_sw (pc' := 88) rfl (congrArg (z_tgt 53) (z_swT (k := (0 : Int32)) w1 rfl)) ?_
          refine m_n 5 (pc' := 94) (L' := [some (.ref 27), some (.int x1), some (.int x2), some (.int x3)]) (S' := [.int (-4 : Int32), .int x2, .int x1, .int (0 : Int32), .ref 27]) (fun _ => rfl) ?_
          refine m_cI 198 5 rfl rfl rfl (A := [.ref 27, .int (0 : Int32), .int x1, .int x2, .int (-4 : Int32)]) rfl rfl (Or.inr ⟨rfl, _, rfl⟩) (rest := []) rfl rfl rfl ?_
          obtain ⟨o2, H⟩ := H
          refine c_holds (0 : Int32) x1 x2 (-4 : Int32) g o2 ?_
          exact m_r rfl rfl rfl H
        rw [if_neg w1] at H
        by_cases w3 : x3 = (1 : Int32)
        · rw [if_pos w3] at H
          refine m_sw (pc' := 98) rfl (congrArg (z_tgt 53) (z_swN (k := (0 : Int32)) w1 rfl (z_swT (k := (1 : Int32)) w3 rfl))) ?_
          refine m_n 5 (pc' := 104) (L' := [some (.ref 27), some (.int x1), some (.int x2), some (.int x3)]) (S' := [.int (-4 : Int32), .int x2, .int x1, .int (1 : Int32), .ref 27]) (fun _ => rfl) ?_
          refine m_cI 198 5 rfl rfl rfl (A := [.ref 27, .int (1 : Int32), .int x1, .int x2, .int (-4 : Int32)]) rfl rfl (Or.inr ⟨rfl, _, rfl⟩) (rest := []) rfl rfl rfl ?_
          obtain ⟨o4, H⟩ := H
          refine c_holds (1 : Int32) x1 x2 (-4 : Int32) g o4 ?_
          exact m_r rfl rfl rfl H
        rw [if_neg w3] at H
        by_cases w5 : x3 = (2 : Int32)
        · rw [if_pos w5] at H
          refine m_sw (pc' := 108) rfl (congrArg (z_tgt 53) (z_swN (k := (0 : Int32)) w1 rfl (z_swN (k := (1 : Int32)) w3 rfl (z_swT (k := (2 : Int32)) w5 rfl)))) ?_
          refine m_n 5 (pc' := 113) (L' := [some (.ref 27), some (.int x1), some (.int x2), some (.int x3)]) (S' := [.int (3 : Int32), .int x2, .int x1, .int (2 : Int32), .ref 27]) (fun _ => rfl) ?_
          refine m_cI 198 5 rfl rfl rfl (A := [.ref 27, .int (2 : Int32), .int x1, .int x2, .int (3 : Int32)]) rfl rfl (Or.inr ⟨rfl, _, rfl⟩) (rest := []) rfl rfl rfl ?_
          obtain ⟨o6, H⟩ := H
          refine c_holds (2 : Int32) x1 x2 (3 : Int32) g o6 ?_
          exact m_r rfl rfl rfl H
        rw [if_neg w5] at H
        by_cases w7 : x3 = (3 : Int32)
        · rw [if_pos w7] at H
          refine m_sw (pc' := 117) rfl (congrArg (z_tgt 53) (z_swN (k := (0 : Int32)) w1 rfl (z_swN (k := (1 : Int32)) w3 rfl (z_swN (k := (2 : Int32)) w5 rfl (z_swT (k := (3 : Int32)) w7 rfl))))) ?_
          refine m_n 5 (pc' := 123) (L' := [some (.ref 27), some (.int x1), some (.int x2), some (.int x3)]) (S' := [.int (99 : Int32), .int x2, .int x1, .int (3 : Int32), .ref 27]) (fun _ => rfl) ?_
          refine m_cI 198 5 rfl rfl rfl (A := [.ref 27, .int (3 : Int32), .int x1, .int x2, .int (99 : Int32)]) rfl rfl (Or.inr ⟨rfl, _, rfl⟩) (rest := []) rfl rfl rfl ?_
          obtain ⟨o8, H⟩ := H
          refine c_holds (3 : Int32) x1 x2 (99 : Int32) g o8 ?_
          exact m_r rfl rfl rfl H
        rw [if_neg w7] at H
        by_cases w9 : x3 = (4 : Int32)
        · rw [if_pos w9] at H
          refine m_sw (pc' := 127) rfl (congrArg (z_tgt 53) (z_swN (k := (0 : Int32)) w1 rfl (z_swN (k := (1 : Int32)) w3 rfl (z_swN (k := (2 : Int32)) w5 rfl (z_swN (k := (3 : Int32)) w7 rfl (z_swT (k := (4 : Int32)) w9 rfl)))))) ?_
          refine m_n 2 (pc' := 129) (L' := [some (.ref 27), some (.int x1), some (.int x2), some (.int x3)]) (S' := [.int x2, .ref 27]) (fun _ => rfl) ?_
          refine m_cI 199 2 rfl rfl rfl (A := [.ref 27, .int x2]) rfl rfl (Or.inr ⟨rfl, _, rfl⟩) (rest := []) rfl rfl rfl ?_
          obtain ⟨o10, H⟩ := H
          refine c_isWide x2 g o10 ?_
          have hj12 : MG z_pI 200 140 [some (.ref 27), some (.int x1), some (.int x2), some (.int x3)] [.int (z_bt (¬ (q_wi g x2 = 0)))] g Q := by
            exact m_r rfl rfl rfl H
          refine m_b (c := q_wi g x2 = 0) (pc' := 139) (L' := [some (.ref 27), some (.int x1), some (.int x2), some (.int x3)]) (S' := []) (pc2 := 135) (L2 := [some (.ref 27), some (.int x1), some (.int x2), some (.int x3)]) (S2 := []) rfl (fun _ => rfl) (fun hc => ?_) (fun hc => ?_)
          · have c11 := hc
            refine m_n 1 (pc' := 140) (L' := [some (.ref 27), some (.int x1), some (.int x2), some (.int x3)]) (S' := [.int (0 : Int32)]) (fun _ => rfl) ?_
            rw [show z_bt (¬ (q_wi g x2 = 0)) = 0 from z_bt_0.mpr ((fun q => q c11))] at hj12
            exact hj12
          · have c11 := hc
            refine m_n 2 (pc' := 140) (L' := [some (.ref 27), some (.int x1), some (.int x2), some (.int x3)]) (S' := [.int (1 : Int32)]) (fun _ => rfl) ?_
            rw [show z_bt (¬ (q_wi g x2 = 0)) = 1 from z_bt_1.mpr (c11)] at hj12
            exact hj12
        rw [if_neg w9] at H
        refine m_sw (pc' := 141) rfl (congrArg (z_tgt 53) (z_swN (k := (0 : Int32)) w1 rfl (z_swN (k := (1 : Int32)) w3 rfl (z_swN (k := (2 : Int32)) w5 rfl (z_swN (k := (3 : Int32)) w7 rfl (z_swN (k := (4 : Int32)) w9 rfl rfl)))))) ?_
        refine m_n 1 (pc' := 142) (L' := [some (.ref 27), some (.int x1), some (.int x2), some (.int x3)]) (S' := [.int (-1 : Int32)]) (fun _ => rfl) ?_
        exact m_r rfl rfl rfl H
      · have hc := Decidable.not_not.mp (fun q => hc (z_bt_0.mpr q))
        rw [if_pos hc] at H
        refine m_n 7 (pc' := 48) (L' := [some (.ref 27), some (.int x1), some (.int x2), some (.int x3)]) (S' := [.int (0 : Int32), .int x2, .int (x3 - (10 : Int32)), .int (4 : Int32), .ref 27]) (fun _ => rfl) ?_
        refine m_cI 198 5 rfl rfl rfl (A := [.ref 27, .int (4 : Int32), .int (x3 - (10 : Int32)), .int x2, .int (0 : Int32)]) rfl rfl (Or.inr ⟨rfl, _, rfl⟩) (rest := []) rfl rfl rfl ?_
        obtain ⟨o13, H⟩ := H
        refine c_holds (4 : Int32) (x3 - (10 : Int32)) x2 (0 : Int32) g o13 ?_
        exact m_r rfl rfl rfl H
set_option maxRecDepth 20000 in
theorem X_201 (x1 : Int32) (g : zG) {Q : Int32 → zG → Prop} (H : if (0 : Int32) ≤ x1 ∧ x1 ≤ ((g 27 1) - (1 : Int32)) then ((Cn g) ∧ (if s_no (q_wk g x1) = (-4 : Int32) then (Q (-2 : Int32) g) else (if (g 27 55) = (60 : Int32) then (Q (-3 : Int32) g) else ((0 ≤ (s_no (q_wk g x1)).toInt ∧ (s_no (q_wk g x1)).toInt < 12) ∧ MG z_pI 201 50 [some (.ref 27), some (.int x1), some (.int (s_no (q_wk g x1))), some (.int (g 58 (z_ix (s_no (q_wk g x1))))), some (.int (0 : Int32)), some (.int (0 : Int32)), none, none, none] [] g Q)))) else (Q (-1 : Int32) g)) : MK z_pI 201 [.ref 27, .int x1] g Q := by
  refine m_K (L := [some (.ref 27), some (.int x1), none, none, none, none, none, none, none]) rfl ?_
  refine m_n 2 (pc' := 2) (L' := [some (.ref 27), some (.int x1), none, none, none, none, none, none, none]) (S' := [.int x1, .ref 27]) (fun _ => rfl) ?_
  refine m_cI 163 2 rfl rfl rfl (A := [.ref 27, .int x1]) rfl rfl (Or.inr ⟨rfl, _, rfl⟩) (rest := []) rfl rfl rfl ?_
  refine X_163 x1 g ?_
  refine m_b (c := z_bt ((0 : Int32) ≤ x1 ∧ x1 ≤ ((g 27 1) - (1 : Int32))) = 0) (pc' := 8) (L' := [some (.ref 27), some (.int x1), none, none, none, none, none, none, none]) (S' := []) (pc2 := 10) (L2 := [some (.ref 27), some (.int x1), none, none, none, none, none, none, none]) (S2 := []) rfl (fun _ => rfl) (fun hc => ?_) (fun hc => ?_)
  · have hc := z_bt_0.mp hc
    rw [if_neg hc] at H
    refine m_n 1 (pc' := 9) (L' := [some (.ref 27), some (.int x1), none, none, none, none, none, none, none]) (S' := [.int (-1 : Int32)]) (fun _ => rfl) ?_
    exact m_r rfl rfl rfl H
  · have hc := Decidable.not_not.mp (fun q => hc (z_bt_0.mpr q))
    rw [if_pos hc] at H
    refine m_n 2 (pc' := 12) (L' := [some (.ref 27), some (.int x1), none, none, none, none, none, none, none]) (S' := [.int x1, .ref 27]) (fun _ => rfl) ?_
    refine m_cI 170 2 rfl rfl rfl (A := [.ref 27, .int x1]) rfl rfl (Or.inr ⟨rfl, _, rfl⟩) (rest := []) rfl rfl rfl ?_
    obtain ⟨o1, H⟩ := H
    refine c_working x1 g o1 ?_
    refine m_n 3 (pc' := 19) (L' := [some (.ref 27), some (.int x1), some (.int (s_no (q_wk g x1))), none, none, none, none, none, none]) (S' := [.int (-4 : Int32), .int (s_no (q_wk g x1))]) (fun _ => rfl) ?_
    refine m_b (c := s_no (q_wk g x1) = (-4 : Int32)) (pc' := 22) (L' := [some (.ref 27), some (.int x1), some (.int (s_no (q_wk g x1))), none, none, none, none, none, none]) (S' := []) (pc2 := 25) (L2 := [some (.ref 27), some (.int x1), some (.int (s_no (q_wk g x1))), none, none, none, none, none, none]) (S2 := []) rfl (fun _ => rfl) (fun hc => ?_) (fun hc => ?_)
    · have hc := hc
      rw [if_pos hc] at H
      refine m_n 1 (pc' := 24) (L' := [some (.ref 27), some (.int x1), some (.int (s_no (q_wk g x1))), none, none, none, none, none, none]) (S' := [.int (-2 : Int32)]) (fun _ => rfl) ?_
      exact m_r rfl rfl rfl H
    · have hc := hc
      rw [if_neg hc] at H
      refine m_n 1 (pc' := 26) (L' := [some (.ref 27), some (.int x1), some (.int (s_no (q_wk g x1))), none, none, none, none, none, none]) (S' := [.ref 27]) (fun _ => rfl) ?_
      refine m_gI rfl ?_
      refine m_n 1 (pc' := 31) (L' := [some (.ref 27), some (.int x1), some (.int (s_no (q_wk g x1))), none, none, none, none, none, none]) (S' := [.int (60 : Int32), .int (g 27 55)]) (fun _ => rfl) ?_
      refine m_b (c := (g 27 55) = (60 : Int32)) (pc' := 34) (L' := [some (.ref 27), some (.int x1), some (.int (s_no (q_wk g x1))), none, none, none, none, none, none]) (S' := []) (pc2 := 37) (L2 := [some (.ref 27), some (.int x1), some (.int (s_no (q_wk g x1))), none, none, none, none, none, none]) (S2 := []) rfl (fun _ => rfl) (fun hc => ?_) (fun hc => ?_)
      · have hc := hc
        rw [if_pos hc] at H
        refine m_n 1 (pc' := 36) (L' := [some (.ref 27), some (.int x1), some (.int (s_no (q_wk g x1))), none, none, none, none, none, none]) (S' := [.int (-3 : Int32)]) (fun _ => rfl) ?_
        exact m_r rfl rfl rfl H
      · have hc := hc
        rw [if_neg hc] at H
        refine m_n 1 (pc' := 38) (L' := [some (.ref 27), some (.int x1), some (.int (s_no (q_wk g x1))), none, none, none, none, none, none]) (S' := [.ref 27]) (fun _ => rfl) ?_
        refine m_gR (q := 58) rfl (by decide) ?_
        refine m_n 1 (pc' := 42) (L' := [some (.ref 27), some (.int x1), some (.int (s_no (q_wk g x1))), none, none, none, none, none, none]) (S' := [.int (s_no (q_wk g x1)), .ref 58]) (fun _ => rfl) ?_
        obtain ⟨o2, H⟩ := H
        refine m_ia 12 rfl rfl o2 ?_
        refine m_n 5 (pc' := 50) (L' := [some (.ref 27), some (.int x1), some (.int (s_no (q_wk g x1))), some (.int (g 58 (z_ix (s_no (q_wk g x1))))), some (.int (0 : Int32)), some (.int (0 : Int32)), none, none, none]) (S' := []) (fun _ => rfl) ?_
        exact H
set_option maxRecDepth 20000 in
theorem X_201_50 (y1 : Int32) (y2 : Int32) (y3 : Int32) (y4 : Int32) (y5 : Int32) (u6 : Option Value) (u7 : Option Value) (u8 : Option Value) (g : zG) {Q : Int32 → zG → Prop} (H : if (g 27 55) ≤ y5 then ((0 ≤ y2.toInt ∧ y2.toInt < 12) ∧ (0 ≤ y2.toInt ∧ y2.toInt < 12) ∧ (0 ≤ (g 27 55).toInt ∧ (g 27 55).toInt < 60) ∧ (∀ g6 : zG, g6 = (z_up2 g 70 (z_ix (g 27 55)) y1) → (0 ≤ (g 27 55).toInt ∧ (g 27 55).toInt < 60) ∧ (∀ g8 : zG, g8 = (z_up2 g6 71 (z_ix (g 27 55)) y2) → (0 ≤ (g 27 55).toInt ∧ (g 27 55).toInt < 60) ∧ (∀ g10 : zG, g10 = (z_up2 g8 72 (z_ix (g 27 55)) (g8 27 0)) → (0 ≤ y2.toInt ∧ y2.toInt < 12) ∧ (0 ≤ (g 27 55).toInt ∧ (g 27 55).toInt < 60) ∧ (∀ g13 : zG, g13 = (z_up2 g10 73 (z_ix (g 27 55)) (g10 53 (z_ix y2))) → (0 ≤ (g 27 55).toInt ∧ (g 27 55).toInt < 60) ∧ (∀ g15 : zG, g15 = (z_up2 g13 74 (z_ix (g 27 55)) ((g13 27 0) - y3)) → (0 ≤ (g 27 55).toInt ∧ (g 27 55).toInt < 60) ∧ (∀ g17 : zG, g17 = (z_up2 g15 75 (z_ix (g 27 55)) ((((g 53 (z_ix y2)) - y4) + (10000 : Int32)) - (((g 53 (z_ix y2)) - y4) + (10000 : Int32)) / (10000 : Int32) * (10000 : Int32))) → ∀ m19 : Int32, m19 = (if ((((g 53 (z_ix y2)) - y4) + (10000 : Int32)) - (((g 53 (z_ix y2)) - y4) + (10000 : Int32)) / (10000 : Int32) * (10000 : Int32)) ≤ ((g 50 (z_ix y2)) * ((g 27 0) - y3)) then (((((g 53 (z_ix y2)) - y4) + (10000 : Int32)) - (((g 53 (z_ix y2)) - y4) + (10000 : Int32)) / (10000 : Int32) * (10000 : Int32)) + (((((g 50 (z_ix y2)) * ((g 27 0) - y3)) - ((((g 53 (z_ix y2)) - y4) + (10000 : Int32)) - (((g 53 (z_ix y2)) - y4) + (10000 : Int32)) / (10000 : Int32) * (10000 : Int32))) / (10000 : Int32)) * (10000 : Int32))) else ((((g 53 (z_ix y2)) - y4) + (10000 : Int32)) - (((g 53 (z_ix y2)) - y4) + (10000 : Int32)) / (10000 : Int32) * (10000 : Int32))) → (0 ≤ (g 27 55).toInt ∧ (g 27 55).toInt < 60) ∧ (∀ g22 : zG, g22 = (z_up2 g17 76 (z_ix (g 27 55)) m19) → (0 ≤ (g 27 55).toInt ∧ (g 27 55).toInt < 60) ∧ (∀ g24 : zG, g24 = (z_up2 g22 77 (z_ix (g 27 55)) (0 : Int32)) → MG z_pI 201 241 [some (.ref 27), some (.int y1), some (.int y2), some (.int y3), some (.int y4), some (.int (g 27 55)), some (.int ((((g 53 (z_ix y2)) - y4) + (10000 : Int32)) - (((g 53 (z_ix y2)) - y4) + (10000 : Int32)) / (10000 : Int32) * (10000 : Int32))), some (.int ((g 50 (z_ix y2)) * ((g 27 0) - y3))), some (.int y3)] [] g24 Q))))))))) else ((0 ≤ y5.toInt ∧ y5.toInt < 60) ∧ (((g 71 (z_ix y5)) = y2) → 0 ≤ y5.toInt ∧ y5.toInt < 60) ∧ (((g 71 (z_ix y5)) = y2) → 0 ≤ y5.toInt ∧ y5.toInt < 60) ∧ (∀ m29 : Int32, m29 = (if (g 71 (z_ix y5)) = y2 then (g 72 (z_ix y5)) else y3) → ∀ m30 : Int32, m30 = (if (g 71 (z_ix y5)) = y2 then (g 73 (z_ix y5)) else y4) → MG z_pI 201 50 [some (.ref 27), some (.int y1), some (.int y2), some (.int m29), some (.int m30), some (.int (y5 + (1 : Int32))), u6, u7, u8] [] g Q))) : MG z_pI 201 50 [some (.ref 27), some (.int y1), some (.int y2), some (.int y3), some (.int y4), some (.int y5), u6, u7, u8] [] g Q := by
  refine m_n 2 (pc' := 53) (L' := [some (.ref 27), some (.int y1), some (.int y2), some (.int y3), some (.int y4), some (.int y5), u6, u7, u8]) (S' := [.ref 27, .int y5]) (fun _ => rfl) ?_
  refine m_gI rfl ?_
  refine m_b (c := (g 27 55) ≤ y5) (pc' := 93) (L' := [some (.ref 27), some (.int y1), some (.int y2), some (.int y3), some (.int y4), some (.int y5), u6, u7, u8]) (S' := []) (pc2 := 59) (L2 := [some (.ref 27), some (.int y1), some (.int y2), some (.int y3), some (.int y4), some (.int y5), u6, u7, u8]) (S2 := []) rfl (fun _ => rfl) (fun hc => ?_) (fun hc => ?_)
  · have hc := hc
    rw [if_pos hc] at H
    refine m_n 1 (pc' := 94) (L' := [some (.ref 27), some (.int y1), some (.int y2), some (.int y3), some (.int y4), some (.int y5), u6, u7, u8]) (S' := [.ref 27]) (fun _ => rfl) ?_
    refine m_gI rfl ?_
    refine m_n 2 (pc' := 100) (L' := [some (.ref 27), some (.int y1), some (.int y2), some (.int y3), some (.int y4), some (.int (g 27 55)), u6, u7, u8]) (S' := [.ref 27]) (fun _ => rfl) ?_
    refine m_gR (q := 53) rfl (by decide) ?_
    refine m_n 1 (pc' := 104) (L' := [some (.ref 27), some (.int y1), some (.int y2), some (.int y3), some (.int y4), some (.int (g 27 55)), u6, u7, u8]) (S' := [.int y2, .ref 53]) (fun _ => rfl) ?_
    obtain ⟨o3, H⟩ := H
    refine m_ia 12 rfl rfl o3 ?_
    refine m_n 5 (pc' := 115) (L' := [some (.ref 27), some (.int y1), some (.int y2), some (.int y3), some (.int y4), some (.int (g 27 55)), u6, u7, u8]) (S' := [.int (10000 : Int32), .int (((g 53 (z_ix y2)) - y4) + (10000 : Int32))]) (fun _ => rfl) ?_
    refine m_d (c := (10000 : Int32) = 0) (pc' := 116) (L' := [some (.ref 27), some (.int y1), some (.int y2), some (.int y3), some (.int y4), some (.int (g 27 55)), u6, u7, u8]) (S' := [.int ((((g 53 (z_ix y2)) - y4) + (10000 : Int32)) - (((g 53 (z_ix y2)) - y4) + (10000 : Int32)) / (10000 : Int32) * (10000 : Int32))]) rfl (fun _ => rfl) (by decide) ?_
    refine m_n 2 (pc' := 119) (L' := [some (.ref 27), some (.int y1), some (.int y2), some (.int y3), some (.int y4), some (.int (g 27 55)), some (.int ((((g 53 (z_ix y2)) - y4) + (10000 : Int32)) - (((g 53 (z_ix y2)) - y4) + (10000 : Int32)) / (10000 : Int32) * (10000 : Int32))), u7, u8]) (S' := [.ref 27]) (fun _ => rfl) ?_
    refine m_gR (q := 50) rfl (by decide) ?_
    refine m_n 1 (pc' := 123) (L' := [some (.ref 27), some (.int y1), some (.int y2), some (.int y3), some (.int y4), some (.int (g 27 55)), some (.int ((((g 53 (z_ix y2)) - y4) + (10000 : Int32)) - (((g 53 (z_ix y2)) - y4) + (10000 : Int32)) / (10000 : Int32) * (10000 : Int32))), u7, u8]) (S' := [.int y2, .ref 50]) (fun _ => rfl) ?_
    obtain ⟨o4, H⟩ := H
    refine m_ia 12 rfl rfl o4 ?_
    refine m_n 1 (pc' := 125) (L' := [some (.ref 27), some (.int y1), some (.int y2), some (.int y3), some (.int y4), some (.int (g 27 55)), some (.int ((((g 53 (z_ix y2)) - y4) + (10000 : Int32)) - (((g 53 (z_ix y2)) - y4) + (10000 : Int32)) / (10000 : Int32) * (10000 : Int32))), u7, u8]) (S' := [.ref 27, .int (g 50 (z_ix y2))]) (fun _ => rfl) ?_
    refine m_gI rfl ?_
    refine m_n 5 (pc' := 134) (L' := [some (.ref 27), some (.int y1), some (.int y2), some (.int y3), some (.int y4), some (.int (g 27 55)), some (.int ((((g 53 (z_ix y2)) - y4) + (10000 : Int32)) - (((g 53 (z_ix y2)) - y4) + (10000 : Int32)) / (10000 : Int32) * (10000 : Int32))), some (.int ((g 50 (z_ix y2)) * ((g 27 0) - y3))), u8]) (S' := [.ref 27]) (fun _ => rfl) ?_
    refine m_gR (q := 70) rfl (by decide) ?_
    refine m_n 2 (pc' := 140) (L' := [some (.ref 27), some (.int y1), some (.int y2), some (.int y3), some (.int y4), some (.int (g 27 55)), some (.int ((((g 53 (z_ix y2)) - y4) + (10000 : Int32)) - (((g 53 (z_ix y2)) - y4) + (10000 : Int32)) / (10000 : Int32) * (10000 : Int32))), some (.int ((g 50 (z_ix y2)) * ((g 27 0) - y3))), u8]) (S' := [.int y1, .int (g 27 55), .ref 70]) (fun _ => rfl) ?_
    obtain ⟨o5, H⟩ := H
    refine m_is 60 rfl rfl rfl o5 ?_
    obtain ⟨g6, eg6⟩ : ∃ m : zG, m = (z_up2 g 70 (z_ix (g 27 55)) y1) := ⟨_, rfl⟩
    have H := H g6 eg6
    refine z_nmG eg6 ?_
    refine m_n 1 (pc' := 142) (L' := [some (.ref 27), some (.int y1), some (.int y2), some (.int y3), some (.int y4), some (.int (g 27 55)), some (.int ((((g 53 (z_ix y2)) - y4) + (10000 : Int32)) - (((g 53 (z_ix y2)) - y4) + (10000 : Int32)) / (10000 : Int32) * (10000 : Int32))), some (.int ((g 50 (z_ix y2)) * ((g 27 0) - y3))), u8]) (S' := [.ref 27]) (fun _ => rfl) ?_
    refine m_gR (q := 71) rfl (by decide) ?_
    refine m_n 2 (pc' := 148) (L' := [some (.ref 27), some (.int y1), some (.int y2), some (.int y3), some (.int y4), some (.int (g 27 55)), some (.int ((((g 53 (z_ix y2)) - y4) + (10000 : Int32)) - (((g 53 (z_ix y2)) - y4) + (10000 : Int32)) / (10000 : Int32) * (10000 : Int32))), some (.int ((g 50 (z_ix y2)) * ((g 27 0) - y3))), u8]) (S' := [.int y2, .int (g 27 55), .ref 71]) (fun _ => rfl) ?_
    obtain ⟨o7, H⟩ := H
    refine m_is 60 rfl rfl rfl o7 ?_
    obtain ⟨g8, eg8⟩ : ∃ m : zG, m = (z_up2 g6 71 (z_ix (g 27 55)) y2) := ⟨_, rfl⟩
    have H := H g8 eg8
    refine z_nmG eg8 ?_
    refine m_n 1 (pc' := 150) (L' := [some (.ref 27), some (.int y1), some (.int y2), some (.int y3), some (.int y4), some (.int (g 27 55)), some (.int ((((g 53 (z_ix y2)) - y4) + (10000 : Int32)) - (((g 53 (z_ix y2)) - y4) + (10000 : Int32)) / (10000 : Int32) * (10000 : Int32))), some (.int ((g 50 (z_ix y2)) * ((g 27 0) - y3))), u8]) (S' := [.ref 27]) (fun _ => rfl) ?_
    refine m_gR (q := 72) rfl (by decide) ?_
    refine m_n 2 (pc' := 156) (L' := [some (.ref 27), some (.int y1), some (.int y2), some (.int y3), some (.int y4), some (.int (g 27 55)), some (.int ((((g 53 (z_ix y2)) - y4) + (10000 : Int32)) - (((g 53 (z_ix y2)) - y4) + (10000 : Int32)) / (10000 : Int32) * (10000 : Int32))), some (.int ((g 50 (z_ix y2)) * ((g 27 0) - y3))), u8]) (S' := [.ref 27, .int (g 27 55), .ref 72]) (fun _ => rfl) ?_
    refine m_gI rfl ?_
    obtain ⟨o9, H⟩ := H
    refine m_is 60 rfl rfl rfl o9 ?_
    obtain ⟨g10, eg10⟩ : ∃ m : zG, m = (z_up2 g8 72 (z_ix (g 27 55)) (g8 27 0)) := ⟨_, rfl⟩
    have H := H g10 eg10
    refine z_nmG eg10 ?_
    refine m_n 1 (pc' := 161) (L' := [some (.ref 27), some (.int y1), some (.int y2), some (.int y3), some (.int y4), some (.int (g 27 55)), some (.int ((((g 53 (z_ix y2)) - y4) + (10000 : Int32)) - (((g 53 (z_ix y2)) - y4) + (10000 : Int32)) / (10000 : Int32) * (10000 : Int32))), some (.int ((g 50 (z_ix y2)) * ((g 27 0) - y3))), u8]) (S' := [.ref 27]) (fun _ => rfl) ?_
    refine m_gR (q := 73) rfl (by decide) ?_
    refine m_n 2 (pc' := 167) (L' := [some (.ref 27), some (.int y1), some (.int y2), some (.int y3), some (.int y4), some (.int (g 27 55)), some (.int ((((g 53 (z_ix y2)) - y4) + (10000 : Int32)) - (((g 53 (z_ix y2)) - y4) + (10000 : Int32)) / (10000 : Int32) * (10000 : Int32))), some (.int ((g 50 (z_ix y2)) * ((g 27 0) - y3))), u8]) (S' := [.ref 27, .int (g 27 55), .ref 73]) (fun _ => rfl) ?_
    refine m_gR (q := 53) rfl (by decide) ?_
    refine m_n 1 (pc' := 171) (L' := [some (.ref 27), some (.int y1), some (.int y2), some (.int y3), some (.int y4), some (.int (g 27 55)), some (.int ((((g 53 (z_ix y2)) - y4) + (10000 : Int32)) - (((g 53 (z_ix y2)) - y4) + (10000 : Int32)) / (10000 : Int32) * (10000 : Int32))), some (.int ((g 50 (z_ix y2)) * ((g 27 0) - y3))), u8]) (S' := [.int y2, .ref 53, .int (g 27 55), .ref 73]) (fun _ => rfl) ?_
    obtain ⟨o11, H⟩ := H
    refine m_ia 12 rfl rfl o11 ?_
    obtain ⟨o12, H⟩ := H
    refine m_is 60 rfl rfl rfl o12 ?_
    obtain ⟨g13, eg13⟩ : ∃ m : zG, m = (z_up2 g10 73 (z_ix (g 27 55)) (g10 53 (z_ix y2))) := ⟨_, rfl⟩
    have H := H g13 eg13
    refine z_nmG eg13 ?_
    refine m_n 1 (pc' := 174) (L' := [some (.ref 27), some (.int y1), some (.int y2), some (.int y3), some (.int y4), some (.int (g 27 55)), some (.int ((((g 53 (z_ix y2)) - y4) + (10000 : Int32)) - (((g 53 (z_ix y2)) - y4) + (10000 : Int32)) / (10000 : Int32) * (10000 : Int32))), some (.int ((g 50 (z_ix y2)) * ((g 27 0) - y3))), u8]) (S' := [.ref 27]) (fun _ => rfl) ?_
    refine m_gR (q := 74) rfl (by decide) ?_
    refine m_n 2 (pc' := 180) (L' := [some (.ref 27), some (.int y1), some (.int y2), some (.int y3), some (.int y4), some (.int (g 27 55)), some (.int ((((g 53 (z_ix y2)) - y4) + (10000 : Int32)) - (((g 53 (z_ix y2)) - y4) + (10000 : Int32)) / (10000 : Int32) * (10000 : Int32))), some (.int ((g 50 (z_ix y2)) * ((g 27 0) - y3))), u8]) (S' := [.ref 27, .int (g 27 55), .ref 74]) (fun _ => rfl) ?_
    refine m_gI rfl ?_
    refine m_n 2 (pc' := 185) (L' := [some (.ref 27), some (.int y1), some (.int y2), some (.int y3), some (.int y4), some (.int (g 27 55)), some (.int ((((g 53 (z_ix y2)) - y4) + (10000 : Int32)) - (((g 53 (z_ix y2)) - y4) + (10000 : Int32)) / (10000 : Int32) * (10000 : Int32))), some (.int ((g 50 (z_ix y2)) * ((g 27 0) - y3))), u8]) (S' := [.int ((g13 27 0) - y3), .int (g 27 55), .ref 74]) (fun _ => rfl) ?_
    obtain ⟨o14, H⟩ := H
    refine m_is 60 rfl rfl rfl o14 ?_
    obtain ⟨g15, eg15⟩ : ∃ m : zG, m = (z_up2 g13 74 (z_ix (g 27 55)) ((g13 27 0) - y3)) := ⟨_, rfl⟩
    have H := H g15 eg15
    refine z_nmG eg15 ?_
    refine m_n 1 (pc' := 187) (L' := [some (.ref 27), some (.int y1), some (.int y2), some (.int y3), some (.int y4), some (.int (g 27 55)), some (.int ((((g 53 (z_ix y2)) - y4) + (10000 : Int32)) - (((g 53 (z_ix y2)) - y4) + (10000 : Int32)) / (10000 : Int32) * (10000 : Int32))), some (.int ((g 50 (z_ix y2)) * ((g 27 0) - y3))), u8]) (S' := [.ref 27]) (fun _ => rfl) ?_
    refine m_gR (q := 75) rfl (by decide) ?_
    refine m_n 2 (pc' := 194) (L' := [some (.ref 27), some (.int y1), some (.int y2), some (.int y3), some (.int y4), some (.int (g 27 55)), some (.int ((((g 53 (z_ix y2)) - y4) + (10000 : Int32)) - (((g 53 (z_ix y2)) - y4) + (10000 : Int32)) / (10000 : Int32) * (10000 : Int32))), some (.int ((g 50 (z_ix y2)) * ((g 27 0) - y3))), u8]) (S' := [.int ((((g 53 (z_ix y2)) - y4) + (10000 : Int32)) - (((g 53 (z_ix y2)) - y4) + (10000 : Int32)) / (10000 : Int32) * (10000 : Int32)), .int (g 27 55), .ref 75]) (fun _ => rfl) ?_
    obtain ⟨o16, H⟩ := H
    refine m_is 60 rfl rfl rfl o16 ?_
    obtain ⟨g17, eg17⟩ : ∃ m : zG, m = (z_up2 g15 75 (z_ix (g 27 55)) ((((g 53 (z_ix y2)) - y4) + (10000 : Int32)) - (((g 53 (z_ix y2)) - y4) + (10000 : Int32)) / (10000 : Int32) * (10000 : Int32))) := ⟨_, rfl⟩
    have H := H g17 eg17
    refine z_nmG eg17 ?_
    refine m_n 1 (pc' := 196) (L' := [some (.ref 27), some (.int y1), some (.int y2), some (.int y3), some (.int y4), some (.int (g 27 55)), some (.int ((((g 53 (z_ix y2)) - y4) + (10000 : Int32)) - (((g 53 (z_ix y2)) - y4) + (10000 : Int32)) / (10000 : Int32) * (10000 : Int32))), some (.int ((g 50 (z_ix y2)) * ((g 27 0) - y3))), u8]) (S' := [.ref 27]) (fun _ => rfl) ?_
    refine m_gR (q := 76) rfl (by decide) ?_
    refine m_n 3 (pc' := 205) (L' := [some (.ref 27), some (.int y1), some (.int y2), some (.int y3), some (.int y4), some (.int (g 27 55)), some (.int ((((g 53 (z_ix y2)) - y4) + (10000 : Int32)) - (((g 53 (z_ix y2)) - y4) + (10000 : Int32)) / (10000 : Int32) * (10000 : Int32))), some (.int ((g 50 (z_ix y2)) * ((g 27 0) - y3))), u8]) (S' := [.int ((((g 53 (z_ix y2)) - y4) + (10000 : Int32)) - (((g 53 (z_ix y2)) - y4) + (10000 : Int32)) / (10000 : Int32) * (10000 : Int32)), .int ((g 50 (z_ix y2)) * ((g 27 0) - y3)), .int (g 27 55), .ref 76]) (fun _ => rfl) ?_
    obtain ⟨m19, em19⟩ : ∃ m : Int32, m = (if ((((g 53 (z_ix y2)) - y4) + (10000 : Int32)) - (((g 53 (z_ix y2)) - y4) + (10000 : Int32)) / (10000 : Int32) * (10000 : Int32)) ≤ ((g 50 (z_ix y2)) * ((g 27 0) - y3)) then (((((g 53 (z_ix y2)) - y4) + (10000 : Int32)) - (((g 53 (z_ix y2)) - y4) + (10000 : Int32)) / (10000 : Int32) * (10000 : Int32)) + (((((g 50 (z_ix y2)) * ((g 27 0) - y3)) - ((((g 53 (z_ix y2)) - y4) + (10000 : Int32)) - (((g 53 (z_ix y2)) - y4) + (10000 : Int32)) / (10000 : Int32) * (10000 : Int32))) / (10000 : Int32)) * (10000 : Int32))) else ((((g 53 (z_ix y2)) - y4) + (10000 : Int32)) - (((g 53 (z_ix y2)) - y4) + (10000 : Int32)) / (10000 : Int32) * (10000 : Int32))) := ⟨_, rfl⟩
    have H := H m19 em19
    have hj20 : MG z_pI 201 229 [some (.ref 27), some (.int y1), some (.int y2), some (.int y3), some (.int y4), some (.int (g 27 55)), some (.int ((((g 53 (z_ix y2)) - y4) + (10000 : Int32)) - (((g 53 (z_ix y2)) - y4) + (10000 : Int32)) / (10000 : Int32) * (10000 : Int32))), some (.int ((g 50 (z_ix y2)) * ((g 27 0) - y3))), u8] [.int m19, .int (g 27 55), .ref 76] g17 Q := by
      obtain ⟨o21, H⟩ := H
      refine m_is 60 rfl rfl rfl o21 ?_
      obtain ⟨g22, eg22⟩ : ∃ m : zG, m = (z_up2 g17 76 (z_ix (g 27 55)) m19) := ⟨_, rfl⟩
      have H := H g22 eg22
      refine z_nmG eg22 ?_
      refine m_n 1 (pc' := 231) (L' := [some (.ref 27), some (.int y1), some (.int y2), some (.int y3), some (.int y4), some (.int (g 27 55)), some (.int ((((g 53 (z_ix y2)) - y4) + (10000 : Int32)) - (((g 53 (z_ix y2)) - y4) + (10000 : Int32)) / (10000 : Int32) * (10000 : Int32))), some (.int ((g 50 (z_ix y2)) * ((g 27 0) - y3))), u8]) (S' := [.ref 27]) (fun _ => rfl) ?_
      refine m_gR (q := 77) rfl (by decide) ?_
      refine m_n 2 (pc' := 237) (L' := [some (.ref 27), some (.int y1), some (.int y2), some (.int y3), some (.int y4), some (.int (g 27 55)), some (.int ((((g 53 (z_ix y2)) - y4) + (10000 : Int32)) - (((g 53 (z_ix y2)) - y4) + (10000 : Int32)) / (10000 : Int32) * (10000 : Int32))), some (.int ((g 50 (z_ix y2)) * ((g 27 0) - y3))), u8]) (S' := [.int (0 : Int32), .int (g 27 55), .ref 77]) (fun _ => rfl) ?_
      obtain ⟨o23, H⟩ := H
      refine m_is 60 rfl rfl rfl o23 ?_
      obtain ⟨g24, eg24⟩ : ∃ m : zG, m = (z_up2 g22 77 (z_ix (g 27 55)) (0 : Int32)) := ⟨_, rfl⟩
      have H := H g24 eg24
      refine z_nmG eg24 ?_
      refine m_n 2 (pc' := 241) (L' := [some (.ref 27), some (.int y1), some (.int y2), some (.int y3), some (.int y4), some (.int (g 27 55)), some (.int ((((g 53 (z_ix y2)) - y4) + (10000 : Int32)) - (((g 53 (z_ix y2)) - y4) + (10000 : Int32)) / (10000 : Int32) * (10000 : Int32))), some (.int ((g 50 (z_ix y2)) * ((g 27 0) - y3))), some (.int y3)]) (S' := []) (fun _ => rfl) ?_
      exact H
    refine m_b (c := ((((g 53 (z_ix y2)) - y4) + (10000 : Int32)) - (((g 53 (z_ix y2)) - y4) + (10000 : Int32)) / (10000 : Int32) * (10000 : Int32)) ≤ ((g 50 (z_ix y2)) * ((g 27 0) - y3))) (pc' := 213) (L' := [some (.ref 27), some (.int y1), some (.int y2), some (.int y3), some (.int y4), some (.int (g 27 55)), some (.int ((((g 53 (z_ix y2)) - y4) + (10000 : Int32)) - (((g 53 (z_ix y2)) - y4) + (10000 : Int32)) / (10000 : Int32) * (10000 : Int32))), some (.int ((g 50 (z_ix y2)) * ((g 27 0) - y3))), u8]) (S' := [.int (g 27 55), .ref 76]) (pc2 := 208) (L2 := [some (.ref 27), some (.int y1), some (.int y2), some (.int y3), some (.int y4), some (.int (g 27 55)), some (.int ((((g 53 (z_ix y2)) - y4) + (10000 : Int32)) - (((g 53 (z_ix y2)) - y4) + (10000 : Int32)) / (10000 : Int32) * (10000 : Int32))), some (.int ((g 50 (z_ix y2)) * ((g 27 0) - y3))), u8]) (S2 := [.int (g 27 55), .ref 76]) rfl (fun _ => rfl) (fun hc => ?_) (fun hc => ?_)
    · have c18 := hc
      refine m_n 5 (pc' := 223) (L' := [some (.ref 27), some (.int y1), some (.int y2), some (.int y3), some (.int y4), some (.int (g 27 55)), some (.int ((((g 53 (z_ix y2)) - y4) + (10000 : Int32)) - (((g 53 (z_ix y2)) - y4) + (10000 : Int32)) / (10000 : Int32) * (10000 : Int32))), some (.int ((g 50 (z_ix y2)) * ((g 27 0) - y3))), u8]) (S' := [.int (10000 : Int32), .int (((g 50 (z_ix y2)) * ((g 27 0) - y3)) - ((((g 53 (z_ix y2)) - y4) + (10000 : Int32)) - (((g 53 (z_ix y2)) - y4) + (10000 : Int32)) / (10000 : Int32) * (10000 : Int32))), .int ((((g 53 (z_ix y2)) - y4) + (10000 : Int32)) - (((g 53 (z_ix y2)) - y4) + (10000 : Int32)) / (10000 : Int32) * (10000 : Int32)), .int (g 27 55), .ref 76]) (fun _ => rfl) ?_
      refine m_d (c := (10000 : Int32) = 0) (pc' := 224) (L' := [some (.ref 27), some (.int y1), some (.int y2), some (.int y3), some (.int y4), some (.int (g 27 55)), some (.int ((((g 53 (z_ix y2)) - y4) + (10000 : Int32)) - (((g 53 (z_ix y2)) - y4) + (10000 : Int32)) / (10000 : Int32) * (10000 : Int32))), some (.int ((g 50 (z_ix y2)) * ((g 27 0) - y3))), u8]) (S' := [.int ((((g 50 (z_ix y2)) * ((g 27 0) - y3)) - ((((g 53 (z_ix y2)) - y4) + (10000 : Int32)) - (((g 53 (z_ix y2)) - y4) + (10000 : Int32)) / (10000 : Int32) * (10000 : Int32))) / (10000 : Int32)), .int ((((g 53 (z_ix y2)) - y4) + (10000 : Int32)) - (((g 53 (z_ix y2)) - y4) + (10000 : Int32)) / (10000 : Int32) * (10000 : Int32)), .int (g 27 55), .ref 76]) rfl (fun _ => rfl) (by decide) ?_
      refine m_n 3 (pc' := 229) (L' := [some (.ref 27), some (.int y1), some (.int y2), some (.int y3), some (.int y4), some (.int (g 27 55)), some (.int ((((g 53 (z_ix y2)) - y4) + (10000 : Int32)) - (((g 53 (z_ix y2)) - y4) + (10000 : Int32)) / (10000 : Int32) * (10000 : Int32))), some (.int ((g 50 (z_ix y2)) * ((g 27 0) - y3))), u8]) (S' := [.int (((((g 53 (z_ix y2)) - y4) + (10000 : Int32)) - (((g 53 (z_ix y2)) - y4) + (10000 : Int32)) / (10000 : Int32) * (10000 : Int32)) + (((((g 50 (z_ix y2)) * ((g 27 0) - y3)) - ((((g 53 (z_ix y2)) - y4) + (10000 : Int32)) - (((g 53 (z_ix y2)) - y4) + (10000 : Int32)) / (10000 : Int32) * (10000 : Int32))) / (10000 : Int32)) * (10000 : Int32))), .int (g 27 55), .ref 76]) (fun _ => rfl) ?_
      rw [(em19.trans (by rw [if_pos c18]) : m19 = (((((g 53 (z_ix y2)) - y4) + (10000 : Int32)) - (((g 53 (z_ix y2)) - y4) + (10000 : Int32)) / (10000 : Int32) * (10000 : Int32)) + (((((g 50 (z_ix y2)) * ((g 27 0) - y3)) - ((((g 53 (z_ix y2)) - y4) + (10000 : Int32)) - (((g 53 (z_ix y2)) - y4) + (10000 : Int32)) / (10000 : Int32) * (10000 : Int32))) / (10000 : Int32)) * (10000 : Int32))))] at hj20
      exact hj20
    · have c18 := hc
      refine m_n 2 (pc' := 229) (L' := [some (.ref 27), some (.int y1), some (.int y2), some (.int y3), some (.int y4), some (.int (g 27 55)), some (.int ((((g 53 (z_ix y2)) - y4) + (10000 : Int32)) - (((g 53 (z_ix y2)) - y4) + (10000 : Int32)) / (10000 : Int32) * (10000 : Int32))), some (.int ((g 50 (z_ix y2)) * ((g 27 0) - y3))), u8]) (S' := [.int ((((g 53 (z_ix y2)) - y4) + (10000 : Int32)) - (((g 53 (z_ix y2)) - y4) + (10000 : Int32)) / (10000 : Int32) * (10000 : Int32)), .int (g 27 55), .ref 76]) (fun _ => rfl) ?_
      rw [(em19.trans (by rw [if_neg c18]) : m19 = ((((g 53 (z_ix y2)) - y4) + (10000 : Int32)) - (((g 53 (z_ix y2)) - y4) + (10000 : Int32)) / (10000 : Int32) * (10000 : Int32)))] at hj20
      exact hj20
  · have hc := hc
    rw [if_neg hc] at H
    refine m_n 1 (pc' := 60) (L' := [some (.ref 27), some (.int y1), some (.int y2), some (.int y3), some (.int y4), some (.int y5), u6, u7, u8]) (S' := [.ref 27]) (fun _ => rfl) ?_
    refine m_gR (q := 71) rfl (by decide) ?_
    refine m_n 1 (pc' := 65) (L' := [some (.ref 27), some (.int y1), some (.int y2), some (.int y3), some (.int y4), some (.int y5), u6, u7, u8]) (S' := [.int y5, .ref 71]) (fun _ => rfl) ?_
    obtain ⟨o25, H⟩ := H
    refine m_ia 60 rfl rfl o25 ?_
    refine m_n 1 (pc' := 67) (L' := [some (.ref 27), some (.int y1), some (.int y2), some (.int y3), some (.int y4), some (.int y5), u6, u7, u8]) (S' := [.int y2, .int (g 71 (z_ix y5))]) (fun _ => rfl) ?_
    obtain ⟨o27, H⟩ := H
    obtain ⟨o28, H⟩ := H
    obtain ⟨m29, em29⟩ : ∃ m : Int32, m = (if (g 71 (z_ix y5)) = y2 then (g 72 (z_ix y5)) else y3) := ⟨_, rfl⟩
    have H := H m29 em29
    obtain ⟨m30, em30⟩ : ∃ m : Int32, m = (if (g 71 (z_ix y5)) = y2 then (g 73 (z_ix y5)) else y4) := ⟨_, rfl⟩
    have H := H m30 em30
    have hj31 : MG z_pI 201 87 [some (.ref 27), some (.int y1), some (.int y2), some (.int m29), some (.int m30), some (.int y5), u6, u7, u8] [] g Q := by
      refine m_n 2 (pc' := 50) (L' := [some (.ref 27), some (.int y1), some (.int y2), some (.int m29), some (.int m30), some (.int (y5 + (1 : Int32))), u6, u7, u8]) (S' := []) (fun _ => rfl) ?_
      exact H
    refine m_b (c := (g 71 (z_ix y5)) = y2) (pc' := 70) (L' := [some (.ref 27), some (.int y1), some (.int y2), some (.int y3), some (.int y4), some (.int y5), u6, u7, u8]) (S' := []) (pc2 := 87) (L2 := [some (.ref 27), some (.int y1), some (.int y2), some (.int y3), some (.int y4), some (.int y5), u6, u7, u8]) (S2 := []) rfl (fun _ => rfl) (fun hc => ?_) (fun hc => ?_)
    · have c26 := hc
      refine m_n 1 (pc' := 71) (L' := [some (.ref 27), some (.int y1), some (.int y2), some (.int y3), some (.int y4), some (.int y5), u6, u7, u8]) (S' := [.ref 27]) (fun _ => rfl) ?_
      refine m_gR (q := 72) rfl (by decide) ?_
      refine m_n 1 (pc' := 76) (L' := [some (.ref 27), some (.int y1), some (.int y2), some (.int y3), some (.int y4), some (.int y5), u6, u7, u8]) (S' := [.int y5, .ref 72]) (fun _ => rfl) ?_
      refine m_ia 60 rfl rfl (o27 c26) ?_
      refine m_n 2 (pc' := 79) (L' := [some (.ref 27), some (.int y1), some (.int y2), some (.int (g 72 (z_ix y5))), some (.int y4), some (.int y5), u6, u7, u8]) (S' := [.ref 27]) (fun _ => rfl) ?_
      refine m_gR (q := 73) rfl (by decide) ?_
      refine m_n 1 (pc' := 84) (L' := [some (.ref 27), some (.int y1), some (.int y2), some (.int (g 72 (z_ix y5))), some (.int y4), some (.int y5), u6, u7, u8]) (S' := [.int y5, .ref 73]) (fun _ => rfl) ?_
      refine m_ia 60 rfl rfl (o28 c26) ?_
      refine m_n 1 (pc' := 87) (L' := [some (.ref 27), some (.int y1), some (.int y2), some (.int (g 72 (z_ix y5))), some (.int (g 73 (z_ix y5))), some (.int y5), u6, u7, u8]) (S' := []) (fun _ => rfl) ?_
      rw [(em29.trans (by rw [if_pos c26]) : m29 = (g 72 (z_ix y5)))] at hj31
      rw [(em30.trans (by rw [if_pos c26]) : m30 = (g 73 (z_ix y5)))] at hj31
      exact hj31
    · have c26 := hc
      rw [(em29.trans (by rw [if_neg c26]) : m29 = y3)] at hj31
      rw [(em30.trans (by rw [if_neg c26]) : m30 = y4)] at hj31
      exact hj31
set_option maxRecDepth 20000 in
theorem X_201_241 (y1 : Int32) (y2 : Int32) (y3 : Int32) (y4 : Int32) (y5 : Int32) (y6 : Int32) (y7 : Int32) (y8 : Int32) (g : zG) {Q : Int32 → zG → Prop} (H : if (g 27 0) ≤ y8 then ((¬ ((g 27 0) ≤ y3) → 0 ≤ ((((60 : Int32) * y1) + (g 27 0)) - (1 : Int32)).toInt ∧ ((((60 : Int32) * y1) + (g 27 0)) - (1 : Int32)).toInt < 360) ∧ (∀ m34 : Int32, m34 = (if (g 27 0) ≤ y3 then (0 : Int32) else (g 41 (z_ix ((((60 : Int32) * y1) + (g 27 0)) - (1 : Int32))))) → (0 ≤ y5.toInt ∧ y5.toInt < 60) ∧ (∀ g37 : zG, g37 = (z_up2 g 78 (z_ix y5) m34) → (0 ≤ y1.toInt ∧ y1.toInt < 6) ∧ (0 ≤ y5.toInt ∧ y5.toInt < 60) ∧ (∀ g40 : zG, g40 = (z_up2 g37 79 (z_ix y5) (g37 30 (z_ix y1))) → (0 ≤ y1.toInt ∧ y1.toInt < 6) ∧ (0 ≤ y5.toInt ∧ y5.toInt < 60) ∧ (∀ g43 : zG, g43 = (z_up2 g40 80 (z_ix y5) (g40 42 (z_ix y1))) → (0 ≤ y1.toInt ∧ y1.toInt < 6) ∧ (0 ≤ y5.toInt ∧ y5.toInt < 60) ∧ (∀ g46 : zG, g46 = (z_up2 g43 81 (z_ix y5) (g43 43 (z_ix y1))) → (0 ≤ y1.toInt ∧ y1.toInt < 6) ∧ (0 ≤ y5.toInt ∧ y5.toInt < 60) ∧ (∀ g49 : zG, g49 = (z_up2 g46 82 (z_ix y5) (g46 44 (z_ix y1))) → (0 ≤ y1.toInt ∧ y1.toInt < 6) ∧ (0 ≤ y5.toInt ∧ y5.toInt < 60) ∧ (∀ g52 : zG, g52 = (z_up2 g49 83 (z_ix y5) (g49 45 (z_ix y1))) → ∀ g53 : zG, g53 = (z_up2 g52 27 55 ((g52 27 55) + (1 : Int32))) → Q y5 g53)))))))) else ((0 ≤ y5.toInt ∧ y5.toInt < 60) ∧ (0 ≤ (((60 : Int32) * y1) + y8).toInt ∧ (((60 : Int32) * y1) + y8).toInt < 360) ∧ (((g 39 (z_ix (((60 : Int32) * y1) + y8))) = y2) → 0 ≤ (((60 : Int32) * y1) + y8).toInt ∧ (((60 : Int32) * y1) + y8).toInt < 360) ∧ (∀ m58 : Int32, m58 = (if (g 39 (z_ix (((60 : Int32) * y1) + y8))) = y2 then (g 37 (z_ix (((60 : Int32) * y1) + y8))) else (0 : Int32)) → (0 ≤ y5.toInt ∧ y5.toInt < 60) ∧ (∀ g61 : zG, g61 = (z_up2 g 77 (z_ix y5) ((g 77 (z_ix y5)) + m58)) → MG z_pI 201 241 [some (.ref 27), some (.int y1), some (.int y2), some (.int y3), some (.int y4), some (.int y5), some (.int y6), some (.int y7), some (.int (y8 + (1 : Int32)))] [] g61 Q)))) : MG z_pI 201 241 [some (.ref 27), some (.int y1), some (.int y2), some (.int y3), some (.int y4), some (.int y5), some (.int y6), some (.int y7), some (.int y8)] [] g Q := by
  refine m_n 2 (pc' := 244) (L' := [some (.ref 27), some (.int y1), some (.int y2), some (.int y3), some (.int y4), some (.int y5), some (.int y6), some (.int y7), some (.int y8)]) (S' := [.ref 27, .int y8]) (fun _ => rfl) ?_
  refine m_gI rfl ?_
  refine m_b (c := (g 27 0) ≤ y8) (pc' := 298) (L' := [some (.ref 27), some (.int y1), some (.int y2), some (.int y3), some (.int y4), some (.int y5), some (.int y6), some (.int y7), some (.int y8)]) (S' := []) (pc2 := 250) (L2 := [some (.ref 27), some (.int y1), some (.int y2), some (.int y3), some (.int y4), some (.int y5), some (.int y6), some (.int y7), some (.int y8)]) (S2 := []) rfl (fun _ => rfl) (fun hc => ?_) (fun hc => ?_)
  · have hc := hc
    rw [if_pos hc] at H
    refine m_n 1 (pc' := 299) (L' := [some (.ref 27), some (.int y1), some (.int y2), some (.int y3), some (.int y4), some (.int y5), some (.int y6), some (.int y7), some (.int y8)]) (S' := [.ref 27]) (fun _ => rfl) ?_
    refine m_gR (q := 78) rfl (by decide) ?_
    refine m_n 2 (pc' := 305) (L' := [some (.ref 27), some (.int y1), some (.int y2), some (.int y3), some (.int y4), some (.int y5), some (.int y6), some (.int y7), some (.int y8)]) (S' := [.ref 27, .int y5, .ref 78]) (fun _ => rfl) ?_
    refine m_gI rfl ?_
    refine m_n 1 (pc' := 309) (L' := [some (.ref 27), some (.int y1), some (.int y2), some (.int y3), some (.int y4), some (.int y5), some (.int y6), some (.int y7), some (.int y8)]) (S' := [.int y3, .int (g 27 0), .int y5, .ref 78]) (fun _ => rfl) ?_
    obtain ⟨o33, H⟩ := H
    obtain ⟨m34, em34⟩ : ∃ m : Int32, m = (if (g 27 0) ≤ y3 then (0 : Int32) else (g 41 (z_ix ((((60 : Int32) * y1) + (g 27 0)) - (1 : Int32))))) := ⟨_, rfl⟩
    have H := H m34 em34
    have hj35 : MG z_pI 201 332 [some (.ref 27), some (.int y1), some (.int y2), some (.int y3), some (.int y4), some (.int y5), some (.int y6), some (.int y7), some (.int y8)] [.int m34, .int y5, .ref 78] g Q := by
      obtain ⟨o36, H⟩ := H
      refine m_is 60 rfl rfl rfl o36 ?_
      obtain ⟨g37, eg37⟩ : ∃ m : zG, m = (z_up2 g 78 (z_ix y5) m34) := ⟨_, rfl⟩
      have H := H g37 eg37
      refine z_nmG eg37 ?_
      refine m_n 1 (pc' := 334) (L' := [some (.ref 27), some (.int y1), some (.int y2), some (.int y3), some (.int y4), some (.int y5), some (.int y6), some (.int y7), some (.int y8)]) (S' := [.ref 27]) (fun _ => rfl) ?_
      refine m_gR (q := 79) rfl (by decide) ?_
      refine m_n 2 (pc' := 340) (L' := [some (.ref 27), some (.int y1), some (.int y2), some (.int y3), some (.int y4), some (.int y5), some (.int y6), some (.int y7), some (.int y8)]) (S' := [.ref 27, .int y5, .ref 79]) (fun _ => rfl) ?_
      refine m_gR (q := 30) rfl (by decide) ?_
      refine m_n 1 (pc' := 344) (L' := [some (.ref 27), some (.int y1), some (.int y2), some (.int y3), some (.int y4), some (.int y5), some (.int y6), some (.int y7), some (.int y8)]) (S' := [.int y1, .ref 30, .int y5, .ref 79]) (fun _ => rfl) ?_
      obtain ⟨o38, H⟩ := H
      refine m_ia 6 rfl rfl o38 ?_
      obtain ⟨o39, H⟩ := H
      refine m_is 60 rfl rfl rfl o39 ?_
      obtain ⟨g40, eg40⟩ : ∃ m : zG, m = (z_up2 g37 79 (z_ix y5) (g37 30 (z_ix y1))) := ⟨_, rfl⟩
      have H := H g40 eg40
      refine z_nmG eg40 ?_
      refine m_n 1 (pc' := 347) (L' := [some (.ref 27), some (.int y1), some (.int y2), some (.int y3), some (.int y4), some (.int y5), some (.int y6), some (.int y7), some (.int y8)]) (S' := [.ref 27]) (fun _ => rfl) ?_
      refine m_gR (q := 80) rfl (by decide) ?_
      refine m_n 2 (pc' := 353) (L' := [some (.ref 27), some (.int y1), some (.int y2), some (.int y3), some (.int y4), some (.int y5), some (.int y6), some (.int y7), some (.int y8)]) (S' := [.ref 27, .int y5, .ref 80]) (fun _ => rfl) ?_
      refine m_gR (q := 42) rfl (by decide) ?_
      refine m_n 1 (pc' := 357) (L' := [some (.ref 27), some (.int y1), some (.int y2), some (.int y3), some (.int y4), some (.int y5), some (.int y6), some (.int y7), some (.int y8)]) (S' := [.int y1, .ref 42, .int y5, .ref 80]) (fun _ => rfl) ?_
      obtain ⟨o41, H⟩ := H
      refine m_ia 6 rfl rfl o41 ?_
      obtain ⟨o42, H⟩ := H
      refine m_is 60 rfl rfl rfl o42 ?_
      obtain ⟨g43, eg43⟩ : ∃ m : zG, m = (z_up2 g40 80 (z_ix y5) (g40 42 (z_ix y1))) := ⟨_, rfl⟩
      have H := H g43 eg43
      refine z_nmG eg43 ?_
      refine m_n 1 (pc' := 360) (L' := [some (.ref 27), some (.int y1), some (.int y2), some (.int y3), some (.int y4), some (.int y5), some (.int y6), some (.int y7), some (.int y8)]) (S' := [.ref 27]) (fun _ => rfl) ?_
      refine m_gR (q := 81) rfl (by decide) ?_
      refine m_n 2 (pc' := 366) (L' := [some (.ref 27), some (.int y1), some (.int y2), some (.int y3), some (.int y4), some (.int y5), some (.int y6), some (.int y7), some (.int y8)]) (S' := [.ref 27, .int y5, .ref 81]) (fun _ => rfl) ?_
      refine m_gR (q := 43) rfl (by decide) ?_
      refine m_n 1 (pc' := 370) (L' := [some (.ref 27), some (.int y1), some (.int y2), some (.int y3), some (.int y4), some (.int y5), some (.int y6), some (.int y7), some (.int y8)]) (S' := [.int y1, .ref 43, .int y5, .ref 81]) (fun _ => rfl) ?_
      obtain ⟨o44, H⟩ := H
      refine m_ia 6 rfl rfl o44 ?_
      obtain ⟨o45, H⟩ := H
      refine m_is 60 rfl rfl rfl o45 ?_
      obtain ⟨g46, eg46⟩ : ∃ m : zG, m = (z_up2 g43 81 (z_ix y5) (g43 43 (z_ix y1))) := ⟨_, rfl⟩
      have H := H g46 eg46
      refine z_nmG eg46 ?_
      refine m_n 1 (pc' := 373) (L' := [some (.ref 27), some (.int y1), some (.int y2), some (.int y3), some (.int y4), some (.int y5), some (.int y6), some (.int y7), some (.int y8)]) (S' := [.ref 27]) (fun _ => rfl) ?_
      refine m_gR (q := 82) rfl (by decide) ?_
      refine m_n 2 (pc' := 379) (L' := [some (.ref 27), some (.int y1), some (.int y2), some (.int y3), some (.int y4), some (.int y5), some (.int y6), some (.int y7), some (.int y8)]) (S' := [.ref 27, .int y5, .ref 82]) (fun _ => rfl) ?_
      refine m_gR (q := 44) rfl (by decide) ?_
      refine m_n 1 (pc' := 383) (L' := [some (.ref 27), some (.int y1), some (.int y2), some (.int y3), some (.int y4), some (.int y5), some (.int y6), some (.int y7), some (.int y8)]) (S' := [.int y1, .ref 44, .int y5, .ref 82]) (fun _ => rfl) ?_
      obtain ⟨o47, H⟩ := H
      refine m_ia 6 rfl rfl o47 ?_
      obtain ⟨o48, H⟩ := H
      refine m_is 60 rfl rfl rfl o48 ?_
      obtain ⟨g49, eg49⟩ : ∃ m : zG, m = (z_up2 g46 82 (z_ix y5) (g46 44 (z_ix y1))) := ⟨_, rfl⟩
      have H := H g49 eg49
      refine z_nmG eg49 ?_
      refine m_n 1 (pc' := 386) (L' := [some (.ref 27), some (.int y1), some (.int y2), some (.int y3), some (.int y4), some (.int y5), some (.int y6), some (.int y7), some (.int y8)]) (S' := [.ref 27]) (fun _ => rfl) ?_
      refine m_gR (q := 83) rfl (by decide) ?_
      refine m_n 2 (pc' := 392) (L' := [some (.ref 27), some (.int y1), some (.int y2), some (.int y3), some (.int y4), some (.int y5), some (.int y6), some (.int y7), some (.int y8)]) (S' := [.ref 27, .int y5, .ref 83]) (fun _ => rfl) ?_
      refine m_gR (q := 45) rfl (by decide) ?_
      refine m_n 1 (pc' := 396) (L' := [some (.ref 27), some (.int y1), some (.int y2), some (.int y3), some (.int y4), some (.int y5), some (.int y6), some (.int y7), some (.int y8)]) (S' := [.int y1, .ref 45, .int y5, .ref 83]) (fun _ => rfl) ?_
      obtain ⟨o50, H⟩ := H
      refine m_ia 6 rfl rfl o50 ?_
      obtain ⟨o51, H⟩ := H
      refine m_is 60 rfl rfl rfl o51 ?_
      obtain ⟨g52, eg52⟩ : ∃ m : zG, m = (z_up2 g49 83 (z_ix y5) (g49 45 (z_ix y1))) := ⟨_, rfl⟩
      have H := H g52 eg52
      refine z_nmG eg52 ?_
      refine m_n 2 (pc' := 400) (L' := [some (.ref 27), some (.int y1), some (.int y2), some (.int y3), some (.int y4), some (.int y5), some (.int y6), some (.int y7), some (.int y8)]) (S' := [.ref 27, .ref 27]) (fun _ => rfl) ?_
      refine m_gI rfl ?_
      refine m_n 2 (pc' := 405) (L' := [some (.ref 27), some (.int y1), some (.int y2), some (.int y3), some (.int y4), some (.int y5), some (.int y6), some (.int y7), some (.int y8)]) (S' := [.int ((g52 27 55) + (1 : Int32)), .ref 27]) (fun _ => rfl) ?_
      refine m_pI rfl ?_
      obtain ⟨g53, eg53⟩ : ∃ m : zG, m = (z_up2 g52 27 55 ((g52 27 55) + (1 : Int32))) := ⟨_, rfl⟩
      have H := H g53 eg53
      refine z_nmG eg53 ?_
      refine m_n 1 (pc' := 410) (L' := [some (.ref 27), some (.int y1), some (.int y2), some (.int y3), some (.int y4), some (.int y5), some (.int y6), some (.int y7), some (.int y8)]) (S' := [.int y5]) (fun _ => rfl) ?_
      exact m_r rfl rfl rfl H
    refine m_b (c := (g 27 0) ≤ y3) (pc' := 331) (L' := [some (.ref 27), some (.int y1), some (.int y2), some (.int y3), some (.int y4), some (.int y5), some (.int y6), some (.int y7), some (.int y8)]) (S' := [.int y5, .ref 78]) (pc2 := 312) (L2 := [some (.ref 27), some (.int y1), some (.int y2), some (.int y3), some (.int y4), some (.int y5), some (.int y6), some (.int y7), some (.int y8)]) (S2 := [.int y5, .ref 78]) rfl (fun _ => rfl) (fun hc => ?_) (fun hc => ?_)
    · have c32 := hc
      refine m_n 1 (pc' := 332) (L' := [some (.ref 27), some (.int y1), some (.int y2), some (.int y3), some (.int y4), some (.int y5), some (.int y6), some (.int y7), some (.int y8)]) (S' := [.int (0 : Int32), .int y5, .ref 78]) (fun _ => rfl) ?_
      rw [(em34.trans (by rw [if_pos c32]) : m34 = (0 : Int32))] at hj35
      exact hj35
    · have c32 := hc
      refine m_n 1 (pc' := 313) (L' := [some (.ref 27), some (.int y1), some (.int y2), some (.int y3), some (.int y4), some (.int y5), some (.int y6), some (.int y7), some (.int y8)]) (S' := [.ref 27, .int y5, .ref 78]) (fun _ => rfl) ?_
      refine m_gR (q := 41) rfl (by decide) ?_
      refine m_n 4 (pc' := 321) (L' := [some (.ref 27), some (.int y1), some (.int y2), some (.int y3), some (.int y4), some (.int y5), some (.int y6), some (.int y7), some (.int y8)]) (S' := [.ref 27, .int ((60 : Int32) * y1), .ref 41, .int y5, .ref 78]) (fun _ => rfl) ?_
      refine m_gI rfl ?_
      refine m_n 3 (pc' := 327) (L' := [some (.ref 27), some (.int y1), some (.int y2), some (.int y3), some (.int y4), some (.int y5), some (.int y6), some (.int y7), some (.int y8)]) (S' := [.int ((((60 : Int32) * y1) + (g 27 0)) - (1 : Int32)), .ref 41, .int y5, .ref 78]) (fun _ => rfl) ?_
      refine m_ia 360 rfl rfl (o33 c32) ?_
      refine m_n 1 (pc' := 332) (L' := [some (.ref 27), some (.int y1), some (.int y2), some (.int y3), some (.int y4), some (.int y5), some (.int y6), some (.int y7), some (.int y8)]) (S' := [.int (g 41 (z_ix ((((60 : Int32) * y1) + (g 27 0)) - (1 : Int32)))), .int y5, .ref 78]) (fun _ => rfl) ?_
      rw [(em34.trans (by rw [if_neg c32]) : m34 = (g 41 (z_ix ((((60 : Int32) * y1) + (g 27 0)) - (1 : Int32)))))] at hj35
      exact hj35
  · have hc := hc
    rw [if_neg hc] at H
    refine m_n 1 (pc' := 251) (L' := [some (.ref 27), some (.int y1), some (.int y2), some (.int y3), some (.int y4), some (.int y5), some (.int y6), some (.int y7), some (.int y8)]) (S' := [.ref 27]) (fun _ => rfl) ?_
    refine m_gR (q := 77) rfl (by decide) ?_
    refine m_n 2 (pc' := 257) (L' := [some (.ref 27), some (.int y1), some (.int y2), some (.int y3), some (.int y4), some (.int y5), some (.int y6), some (.int y7), some (.int y8)]) (S' := [.int y5, .ref 77, .int y5, .ref 77]) (fun _ => rfl) ?_
    obtain ⟨o54, H⟩ := H
    refine m_ia 60 rfl rfl o54 ?_
    refine m_n 1 (pc' := 259) (L' := [some (.ref 27), some (.int y1), some (.int y2), some (.int y3), some (.int y4), some (.int y5), some (.int y6), some (.int y7), some (.int y8)]) (S' := [.ref 27, .int (g 77 (z_ix y5)), .int y5, .ref 77]) (fun _ => rfl) ?_
    refine m_gR (q := 39) rfl (by decide) ?_
    refine m_n 5 (pc' := 269) (L' := [some (.ref 27), some (.int y1), some (.int y2), some (.int y3), some (.int y4), some (.int y5), some (.int y6), some (.int y7), some (.int y8)]) (S' := [.int (((60 : Int32) * y1) + y8), .ref 39, .int (g 77 (z_ix y5)), .int y5, .ref 77]) (fun _ => rfl) ?_
    obtain ⟨o55, H⟩ := H
    refine m_ia 360 rfl rfl o55 ?_
    refine m_n 1 (pc' := 271) (L' := [some (.ref 27), some (.int y1), some (.int y2), some (.int y3), some (.int y4), some (.int y5), some (.int y6), some (.int y7), some (.int y8)]) (S' := [.int y2, .int (g 39 (z_ix (((60 : Int32) * y1) + y8))), .int (g 77 (z_ix y5)), .int y5, .ref 77]) (fun _ => rfl) ?_
    obtain ⟨o57, H⟩ := H
    obtain ⟨m58, em58⟩ : ∃ m : Int32, m = (if (g 39 (z_ix (((60 : Int32) * y1) + y8))) = y2 then (g 37 (z_ix (((60 : Int32) * y1) + y8))) else (0 : Int32)) := ⟨_, rfl⟩
    have H := H m58 em58
    have hj59 : MG z_pI 201 290 [some (.ref 27), some (.int y1), some (.int y2), some (.int y3), some (.int y4), some (.int y5), some (.int y6), some (.int y7), some (.int y8)] [.int m58, .int (g 77 (z_ix y5)), .int y5, .ref 77] g Q := by
      refine m_n 1 (pc' := 291) (L' := [some (.ref 27), some (.int y1), some (.int y2), some (.int y3), some (.int y4), some (.int y5), some (.int y6), some (.int y7), some (.int y8)]) (S' := [.int ((g 77 (z_ix y5)) + m58), .int y5, .ref 77]) (fun _ => rfl) ?_
      obtain ⟨o60, H⟩ := H
      refine m_is 60 rfl rfl rfl o60 ?_
      obtain ⟨g61, eg61⟩ : ∃ m : zG, m = (z_up2 g 77 (z_ix y5) ((g 77 (z_ix y5)) + m58)) := ⟨_, rfl⟩
      have H := H g61 eg61
      refine z_nmG eg61 ?_
      refine m_n 2 (pc' := 241) (L' := [some (.ref 27), some (.int y1), some (.int y2), some (.int y3), some (.int y4), some (.int y5), some (.int y6), some (.int y7), some (.int (y8 + (1 : Int32)))]) (S' := []) (fun _ => rfl) ?_
      exact H
    refine m_b (c := (g 39 (z_ix (((60 : Int32) * y1) + y8))) = y2) (pc' := 274) (L' := [some (.ref 27), some (.int y1), some (.int y2), some (.int y3), some (.int y4), some (.int y5), some (.int y6), some (.int y7), some (.int y8)]) (S' := [.int (g 77 (z_ix y5)), .int y5, .ref 77]) (pc2 := 289) (L2 := [some (.ref 27), some (.int y1), some (.int y2), some (.int y3), some (.int y4), some (.int y5), some (.int y6), some (.int y7), some (.int y8)]) (S2 := [.int (g 77 (z_ix y5)), .int y5, .ref 77]) rfl (fun _ => rfl) (fun hc => ?_) (fun hc => ?_)
    · have c56 := hc
      refine m_n 1 (pc' := 275) (L' := [some (.ref 27), some (.int y1), some (.int y2), some (.int y3), some (.int y4), some (.int y5), some (.int y6), some (.int y7), some (.int y8)]) (S' := [.ref 27, .int (g 77 (z_ix y5)), .int y5, .ref 77]) (fun _ => rfl) ?_
      refine m_gR (q := 37) rfl (by decide) ?_
      refine m_n 5 (pc' := 285) (L' := [some (.ref 27), some (.int y1), some (.int y2), some (.int y3), some (.int y4), some (.int y5), some (.int y6), some (.int y7), some (.int y8)]) (S' := [.int (((60 : Int32) * y1) + y8), .ref 37, .int (g 77 (z_ix y5)), .int y5, .ref 77]) (fun _ => rfl) ?_
      refine m_ia 360 rfl rfl (o57 c56) ?_
      refine m_n 1 (pc' := 290) (L' := [some (.ref 27), some (.int y1), some (.int y2), some (.int y3), some (.int y4), some (.int y5), some (.int y6), some (.int y7), some (.int y8)]) (S' := [.int (g 37 (z_ix (((60 : Int32) * y1) + y8))), .int (g 77 (z_ix y5)), .int y5, .ref 77]) (fun _ => rfl) ?_
      rw [(em58.trans (by rw [if_pos c56]) : m58 = (g 37 (z_ix (((60 : Int32) * y1) + y8))))] at hj59
      exact hj59
    · have c56 := hc
      refine m_n 1 (pc' := 290) (L' := [some (.ref 27), some (.int y1), some (.int y2), some (.int y3), some (.int y4), some (.int y5), some (.int y6), some (.int y7), some (.int y8)]) (S' := [.int (0 : Int32), .int (g 77 (z_ix y5)), .int y5, .ref 77]) (fun _ => rfl) ?_
      rw [(em58.trans (by rw [if_neg c56]) : m58 = (0 : Int32))] at hj59
      exact hj59
set_option maxRecDepth 20000 in
theorem X_203 (x1 : Int32) (x2 : Int32) (g : zG) {Q : Int32 → zG → Prop} (H : if (0 : Int32) ≤ x1 ∧ x1 ≤ ((g 27 55) - (1 : Int32)) then ((0 ≤ x1.toInt ∧ x1.toInt < 60) ∧ (0 ≤ x1.toInt ∧ x1.toInt < 60) ∧ (if x2 = (0 : Int32) then ((0 ≤ x1.toInt ∧ x1.toInt < 60) ∧ Q (g 71 (z_ix x1)) g) else (if x2 = (1 : Int32) then ((0 ≤ x1.toInt ∧ x1.toInt < 60) ∧ Q (g 72 (z_ix x1)) g) else (if x2 = (2 : Int32) then ((0 ≤ x1.toInt ∧ x1.toInt < 60) ∧ Q (g 73 (z_ix x1)) g) else (if x2 = (3 : Int32) then ((0 ≤ x1.toInt ∧ x1.toInt < 60) ∧ Q (g 74 (z_ix x1)) g) else (if x2 = (4 : Int32) then ((0 ≤ x1.toInt ∧ x1.toInt < 60) ∧ Q (g 75 (z_ix x1)) g) else (if x2 = (5 : Int32) then ((0 ≤ x1.toInt ∧ x1.toInt < 60) ∧ Q (g 76 (z_ix x1)) g) else (if x2 = (6 : Int32) then ((0 ≤ x1.toInt ∧ x1.toInt < 60) ∧ Q (g 77 (z_ix x1)) g) else (if x2 = (7 : Int32) then ((0 ≤ x1.toInt ∧ x1.toInt < 60) ∧ (O_202 x1 (g 75 (z_ix x1)) g) ∧ Q (v_202 x1 (g 75 (z_ix x1)) g) g) else (if x2 = (8 : Int32) then ((0 ≤ x1.toInt ∧ x1.toInt < 60) ∧ (O_202 x1 (g 76 (z_ix x1)) g) ∧ Q (v_202 x1 (g 76 (z_ix x1)) g) g) else (if x2 = (9 : Int32) then ((0 ≤ x1.toInt ∧ x1.toInt < 60) ∧ (if (g 80 (z_ix x1)) ≤ 0 then (Q (0 : Int32) g) else (∀ m26 : Int32, m26 = (if 0 ≤ ((g 79 (z_ix x1)) - (g 83 (z_ix x1))) then ((g 79 (z_ix x1)) - (g 83 (z_ix x1))) else (-((g 79 (z_ix x1)) - (g 83 (z_ix x1))))) → (0 ≤ x1.toInt ∧ x1.toInt < 60) ∧ (0 ≤ x1.toInt ∧ x1.toInt < 60) ∧ (Cn g) ∧ Q (z_bt (¬ (m26 < q_hd g (3 : Int32) (g 70 (z_ix x1)) (g 72 (z_ix x1)) (99 : Int32)))) g))) else (Q (-1 : Int32) g)))))))))))) else (Q (-1 : Int32) g)) : MK z_pI 203 [.ref 27, .int x1, .int x2] g Q := by
  refine m_K (L := [some (.ref 27), some (.int x1), some (.int x2), none]) rfl ?_
  refine m_n 4 (pc' := 4) (L' := [some (.ref 27), some (.int x1), some (.int x2), none]) (S' := [.ref 27, .long (0 : Int64), .long x1.toInt64]) (fun _ => rfl) ?_
  refine m_gI rfl ?_
  refine m_n 3 (pc' := 10) (L' := [some (.ref 27), some (.int x1), some (.int x2), none]) (S' := [.long (((g 27 55) - (1 : Int32)).toInt64), .long (0 : Int64), .long x1.toInt64]) (fun _ => rfl) ?_
  refine m_cI 161 3 rfl rfl rfl (A := [.long x1.toInt64, .long (0 : Int64), .long (((g 27 55) - (1 : Int32)).toInt64)]) rfl rfl (Or.inl rfl) (rest := []) rfl rfl rfl ?_
  refine c_inJ x1 (0 : Int32) ((g 27 55) - (1 : Int32)) g rfl rfl rfl ?_
  refine m_b (c := z_bt ((0 : Int32) ≤ x1 ∧ x1 ≤ ((g 27 55) - (1 : Int32))) = 0) (pc' := 16) (L' := [some (.ref 27), some (.int x1), some (.int x2), none]) (S' := []) (pc2 := 18) (L2 := [some (.ref 27), some (.int x1), some (.int x2), none]) (S2 := []) rfl (fun _ => rfl) (fun hc => ?_) (fun hc => ?_)
  · have hc := z_bt_0.mp hc
    rw [if_neg hc] at H
    refine m_n 1 (pc' := 17) (L' := [some (.ref 27), some (.int x1), some (.int x2), none]) (S' := [.int (-1 : Int32)]) (fun _ => rfl) ?_
    exact m_r rfl rfl rfl H
  · have hc := Decidable.not_not.mp (fun q => hc (z_bt_0.mpr q))
    rw [if_pos hc] at H
    refine m_n 1 (pc' := 19) (L' := [some (.ref 27), some (.int x1), some (.int x2), none]) (S' := [.ref 27]) (fun _ => rfl) ?_
    refine m_gR (q := 79) rfl (by decide) ?_
    refine m_n 1 (pc' := 23) (L' := [some (.ref 27), some (.int x1), some (.int x2), none]) (S' := [.int x1, .ref 79]) (fun _ => rfl) ?_
    obtain ⟨o1, H⟩ := H
    refine m_ia 60 rfl rfl o1 ?_
    refine m_n 1 (pc' := 25) (L' := [some (.ref 27), some (.int x1), some (.int x2), none]) (S' := [.ref 27, .int (g 79 (z_ix x1))]) (fun _ => rfl) ?_
    refine m_gR (q := 83) rfl (by decide) ?_
    refine m_n 1 (pc' := 29) (L' := [some (.ref 27), some (.int x1), some (.int x2), none]) (S' := [.int x1, .ref 83, .int (g 79 (z_ix x1))]) (fun _ => rfl) ?_
    obtain ⟨o2, H⟩ := H
    refine m_ia 60 rfl rfl o2 ?_
    refine m_n 3 (pc' := 33) (L' := [some (.ref 27), some (.int x1), some (.int x2), some (.int ((g 79 (z_ix x1)) - (g 83 (z_ix x1))))]) (S' := [.int x2]) (fun _ => rfl) ?_
    by_cases w3 : x2 = (0 : Int32)
    · rw [if_pos w3] at H
      refine m_sw (pc' := 88) rfl (congrArg (z_tgt 33) (z_swT (k := (0 : Int32)) w3 rfl)) ?_
      refine m_n 1 (pc' := 89) (L' := [some (.ref 27), some (.int x1), some (.int x2), some (.int ((g 79 (z_ix x1)) - (g 83 (z_ix x1))))]) (S' := [.ref 27]) (fun _ => rfl) ?_
      refine m_gR (q := 71) rfl (by decide) ?_
      refine m_n 1 (pc' := 93) (L' := [some (.ref 27), some (.int x1), some (.int x2), some (.int ((g 79 (z_ix x1)) - (g 83 (z_ix x1))))]) (S' := [.int x1, .ref 71]) (fun _ => rfl) ?_
      obtain ⟨o4, H⟩ := H
      refine m_ia 60 rfl rfl o4 ?_
      exact m_r rfl rfl rfl H
    rw [if_neg w3] at H
    by_cases w5 : x2 = (1 : Int32)
    · rw [if_pos w5] at H
      refine m_sw (pc' := 95) rfl (congrArg (z_tgt 33) (z_swN (k := (0 : Int32)) w3 rfl (z_swT (k := (1 : Int32)) w5 rfl))) ?_
      refine m_n 1 (pc' := 96) (L' := [some (.ref 27), some (.int x1), some (.int x2), some (.int ((g 79 (z_ix x1)) - (g 83 (z_ix x1))))]) (S' := [.ref 27]) (fun _ => rfl) ?_
      refine m_gR (q := 72) rfl (by decide) ?_
      refine m_n 1 (pc' := 100) (L' := [some (.ref 27), some (.int x1), some (.int x2), some (.int ((g 79 (z_ix x1)) - (g 83 (z_ix x1))))]) (S' := [.int x1, .ref 72]) (fun _ => rfl) ?_
      obtain ⟨o6, H⟩ := H
      refine m_ia 60 rfl rfl o6 ?_
      exact m_r rfl rfl rfl H
    rw [if_neg w5] at H
    by_cases w7 : x2 = (2 : Int32)
    · rw [if_pos w7] at H
      refine m_sw (pc' := 102) rfl (congrArg (z_tgt 33) (z_swN (k := (0 : Int32)) w3 rfl (z_swN (k := (1 : Int32)) w5 rfl (z_swT (k := (2 : Int32)) w7 rfl)))) ?_
      refine m_n 1 (pc' := 103) (L' := [some (.ref 27), some (.int x1), some (.int x2), some (.int ((g 79 (z_ix x1)) - (g 83 (z_ix x1))))]) (S' := [.ref 27]) (fun _ => rfl) ?_
      refine m_gR (q := 73) rfl (by decide) ?_
      refine m_n 1 (pc' := 107) (L' := [some (.ref 27), some (.int x1), some (.int x2), some (.int ((g 79 (z_ix x1)) - (g 83 (z_ix x1))))]) (S' := [.int x1, .ref 73]) (fun _ => rfl) ?_
      obtain ⟨o8, H⟩ := H
      refine m_ia 60 rfl rfl o8 ?_
      exact m_r rfl rfl rfl H
    rw [if_neg w7] at H
    by_cases w9 : x2 = (3 : Int32)
    · rw [if_pos w9] at H
      refine m_sw (pc' := 109) rfl (congrArg (z_tgt 33) (z_swN (k := (0 : Int32)) w3 rfl (z_swN (k := (1 : Int32)) w5 rfl (z_swN (k := (2 : Int32)) w7 rfl (z_swT (k := (3 : Int32)) w9 rfl))))) ?_
      refine m_n 1 (pc' := 110) (L' := [some (.ref 27), some (.int x1), some (.int x2), some (.int ((g 79 (z_ix x1)) - (g 83 (z_ix x1))))]) (S' := [.ref 27]) (fun _ => rfl) ?_
      refine m_gR (q := 74) rfl (by decide) ?_
      refine m_n 1 (pc' := 114) (L' := [some (.ref 27), some (.int x1), some (.int x2), some (.int ((g 79 (z_ix x1)) - (g 83 (z_ix x1))))]) (S' := [.int x1, .ref 74]) (fun _ => rfl) ?_
      obtain ⟨o10, H⟩ := H
      refine m_ia 60 rfl rfl o10 ?_
      exact m_r rfl rfl rfl H
    rw [if_neg w9] at H
    by_cases w11 : x2 = (4 : Int32)
    · rw [if_pos w11] at H
      refine m_sw (pc' := 116) rfl (congrArg (z_tgt 33) (z_swN (k := (0 : Int32)) w3 rfl (z_swN (k := (1 : Int32)) w5 rfl (z_swN (k := (2 : Int32)) w7 rfl (z_swN (k := (3 : Int32)) w9 rfl (z_swT (k := (4 : Int32)) w11 rfl)))))) ?_
      refine m_n 1 (pc' := 117) (L' := [some (.ref 27), some (.int x1), some (.int x2), some (.int ((g 79 (z_ix x1)) - (g 83 (z_ix x1))))]) (S' := [.ref 27]) (fun _ => rfl) ?_
      refine m_gR (q := 75) rfl (by decide) ?_
      refine m_n 1 (pc' := 121) (L' := [some (.ref 27), some (.int x1), some (.int x2), some (.int ((g 79 (z_ix x1)) - (g 83 (z_ix x1))))]) (S' := [.int x1, .ref 75]) (fun _ => rfl) ?_
      obtain ⟨o12, H⟩ := H
      refine m_ia 60 rfl rfl o12 ?_
      exact m_r rfl rfl rfl H
    rw [if_neg w11] at H
    by_cases w13 : x2 = (5 : Int32)
    · rw [if_pos w13] at H
      refine m_sw (pc' := 123) rfl (congrArg (z_tgt 33) (z_swN (k := (0 : Int32)) w3 rfl (z_swN (k := (1 : Int32)) w5 rfl (z_swN (k := (2 : Int32)) w7 rfl (z_swN (k := (3 : Int32)) w9 rfl (z_swN (k := (4 : Int32)) w11 rfl (z_swT (k := (5 : Int32)) w13 rfl))))))) ?_
      refine m_n 1 (pc' := 124) (L' := [some (.ref 27), some (.int x1), some (.int x2), some (.int ((g 79 (z_ix x1)) - (g 83 (z_ix x1))))]) (S' := [.ref 27]) (fun _ => rfl) ?_
      refine m_gR (q := 76) rfl (by decide) ?_
      refine m_n 1 (pc' := 128) (L' := [some (.ref 27), some (.int x1), some (.int x2), some (.int ((g 79 (z_ix x1)) - (g 83 (z_ix x1))))]) (S' := [.int x1, .ref 76]) (fun _ => rfl) ?_
      obtain ⟨o14, H⟩ := H
      refine m_ia 60 rfl rfl o14 ?_
      exact m_r rfl rfl rfl H
    rw [if_neg w13] at H
    by_cases w15 : x2 = (6 : Int32)
    · rw [if_pos w15] at H
      refine m_sw (pc' := 130) rfl (congrArg (z_tgt 33) (z_swN (k := (0 : Int32)) w3 rfl (z_swN (k := (1 : Int32)) w5 rfl (z_swN (k := (2 : Int32)) w7 rfl (z_swN (k := (3 : Int32)) w9 rfl (z_swN (k := (4 : Int32)) w11 rfl (z_swN (k := (5 : Int32)) w13 rfl (z_swT (k := (6 : Int32)) w15 rfl)))))))) ?_
      refine m_n 1 (pc' := 131) (L' := [some (.ref 27), some (.int x1), some (.int x2), some (.int ((g 79 (z_ix x1)) - (g 83 (z_ix x1))))]) (S' := [.ref 27]) (fun _ => rfl) ?_
      refine m_gR (q := 77) rfl (by decide) ?_
      refine m_n 1 (pc' := 135) (L' := [some (.ref 27), some (.int x1), some (.int x2), some (.int ((g 79 (z_ix x1)) - (g 83 (z_ix x1))))]) (S' := [.int x1, .ref 77]) (fun _ => rfl) ?_
      obtain ⟨o16, H⟩ := H
      refine m_ia 60 rfl rfl o16 ?_
      exact m_r rfl rfl rfl H
    rw [if_neg w15] at H
    by_cases w17 : x2 = (7 : Int32)
    · rw [if_pos w17] at H
      refine m_sw (pc' := 137) rfl (congrArg (z_tgt 33) (z_swN (k := (0 : Int32)) w3 rfl (z_swN (k := (1 : Int32)) w5 rfl (z_swN (k := (2 : Int32)) w7 rfl (z_swN (k := (3 : Int32)) w9 rfl (z_swN (k := (4 : Int32)) w11 rfl (z_swN (k := (5 : Int32)) w13 rfl (z_swN (k := (6 : Int32)) w15 rfl (z_swT (k := (7 : Int32)) w17 rfl))))))))) ?_
      refine m_n 3 (pc' := 140) (L' := [some (.ref 27), some (.int x1), some (.int x2), some (.int ((g 79 (z_ix x1)) - (g 83 (z_ix x1))))]) (S' := [.ref 27, .int x1, .ref 27]) (fun _ => rfl) ?_
      refine m_gR (q := 75) rfl (by decide) ?_
      refine m_n 1 (pc' := 144) (L' := [some (.ref 27), some (.int x1), some (.int x2), some (.int ((g 79 (z_ix x1)) - (g 83 (z_ix x1))))]) (S' := [.int x1, .ref 75, .int x1, .ref 27]) (fun _ => rfl) ?_
      obtain ⟨o18, H⟩ := H
      refine m_ia 60 rfl rfl o18 ?_
      refine m_cI 202 3 rfl rfl rfl (A := [.ref 27, .int x1, .int (g 75 (z_ix x1))]) rfl rfl (Or.inr ⟨rfl, _, rfl⟩) (rest := []) rfl rfl rfl ?_
      obtain ⟨o19, H⟩ := H
      refine C_202 x1 (g 75 (z_ix x1)) g o19 ?_
      exact m_r rfl rfl rfl H
    rw [if_neg w17] at H
    by_cases w20 : x2 = (8 : Int32)
    · rw [if_pos w20] at H
      refine m_sw (pc' := 149) rfl (congrArg (z_tgt 33) (z_swN (k := (0 : Int32)) w3 rfl (z_swN (k := (1 : Int32)) w5 rfl (z_swN (k := (2 : Int32)) w7 rfl (z_swN (k := (3 : Int32)) w9 rfl (z_swN (k := (4 : Int32)) w11 rfl (z_swN (k := (5 : Int32)) w13 rfl (z_swN (k := (6 : Int32)) w15 rfl (z_swN (k := (7 : Int32)) w17 rfl (z_swT (k := (8 : Int32)) w20 rfl)))))))))) ?_
      refine m_n 3 (pc' := 152) (L' := [some (.ref 27), some (.int x1), some (.int x2), some (.int ((g 79 (z_ix x1)) - (g 83 (z_ix x1))))]) (S' := [.ref 27, .int x1, .ref 27]) (fun _ => rfl) ?_
      refine m_gR (q := 76) rfl (by decide) ?_
      refine m_n 1 (pc' := 156) (L' := [some (.ref 27), some (.int x1), some (.int x2), some (.int ((g 79 (z_ix x1)) - (g 83 (z_ix x1))))]) (S' := [.int x1, .ref 76, .int x1, .ref 27]) (fun _ => rfl) ?_
      obtain ⟨o21, H⟩ := H
      refine m_ia 60 rfl rfl o21 ?_
      refine m_cI 202 3 rfl rfl rfl (A := [.ref 27, .int x1, .int (g 76 (z_ix x1))]) rfl rfl (Or.inr ⟨rfl, _, rfl⟩) (rest := []) rfl rfl rfl ?_
      obtain ⟨o22, H⟩ := H
      refine C_202 x1 (g 76 (z_ix x1)) g o22 ?_
      exact m_r rfl rfl rfl H
    rw [if_neg w20] at H
    by_cases w23 : x2 = (9 : Int32)
    · rw [if_pos w23] at H
      refine m_sw (pc' := 161) rfl (congrArg (z_tgt 33) (z_swN (k := (0 : Int32)) w3 rfl (z_swN (k := (1 : Int32)) w5 rfl (z_swN (k := (2 : Int32)) w7 rfl (z_swN (k := (3 : Int32)) w9 rfl (z_swN (k := (4 : Int32)) w11 rfl (z_swN (k := (5 : Int32)) w13 rfl (z_swN (k := (6 : Int32)) w15 rfl (z_swN (k := (7 : Int32)) w17 rfl (z_swN (k := (8 : Int32)) w20 rfl (z_swT (k := (9 : Int32)) w23 rfl))))))))))) ?_
      refine m_n 1 (pc' := 162) (L' := [some (.ref 27), some (.int x1), some (.int x2), some (.int ((g 79 (z_ix x1)) - (g 83 (z_ix x1))))]) (S' := [.ref 27]) (fun _ => rfl) ?_
      refine m_gR (q := 80) rfl (by decide) ?_
      refine m_n 1 (pc' := 166) (L' := [some (.ref 27), some (.int x1), some (.int x2), some (.int ((g 79 (z_ix x1)) - (g 83 (z_ix x1))))]) (S' := [.int x1, .ref 80]) (fun _ => rfl) ?_
      obtain ⟨o24, H⟩ := H
      refine m_ia 60 rfl rfl o24 ?_
      refine m_b (c := (g 80 (z_ix x1)) ≤ 0) (pc' := 206) (L' := [some (.ref 27), some (.int x1), some (.int x2), some (.int ((g 79 (z_ix x1)) - (g 83 (z_ix x1))))]) (S' := []) (pc2 := 170) (L2 := [some (.ref 27), some (.int x1), some (.int x2), some (.int ((g 79 (z_ix x1)) - (g 83 (z_ix x1))))]) (S2 := []) rfl (fun _ => rfl) (fun hc => ?_) (fun hc => ?_)
      · have hc := hc
        rw [if_pos hc] at H
        refine m_n 1 (pc' := 207) (L' := [some (.ref 27), some (.int x1), some (.int x2), some (.int ((g 79 (z_ix x1)) - (g 83 (z_ix x1))))]) (S' := [.int (0 : Int32)]) (fun _ => rfl) ?_
        exact m_r rfl rfl rfl H
      · have hc := hc
        rw [if_neg hc] at H
        refine m_n 1 (pc' := 171) (L' := [some (.ref 27), some (.int x1), some (.int x2), some (.int ((g 79 (z_ix x1)) - (g 83 (z_ix x1))))]) (S' := [.int ((g 79 (z_ix x1)) - (g 83 (z_ix x1)))]) (fun _ => rfl) ?_
        obtain ⟨m26, em26⟩ : ∃ m : Int32, m = (if 0 ≤ ((g 79 (z_ix x1)) - (g 83 (z_ix x1))) then ((g 79 (z_ix x1)) - (g 83 (z_ix x1))) else (-((g 79 (z_ix x1)) - (g 83 (z_ix x1))))) := ⟨_, rfl⟩
        have H := H m26 em26
        have hj27 : MG z_pI 203 180 [some (.ref 27), some (.int x1), some (.int x2), some (.int ((g 79 (z_ix x1)) - (g 83 (z_ix x1))))] [.int m26] g Q := by
          refine m_n 3 (pc' := 183) (L' := [some (.ref 27), some (.int x1), some (.int x2), some (.int ((g 79 (z_ix x1)) - (g 83 (z_ix x1))))]) (S' := [.ref 27, .int (3 : Int32), .ref 27, .int m26]) (fun _ => rfl) ?_
          refine m_gR (q := 70) rfl (by decide) ?_
          refine m_n 1 (pc' := 187) (L' := [some (.ref 27), some (.int x1), some (.int x2), some (.int ((g 79 (z_ix x1)) - (g 83 (z_ix x1))))]) (S' := [.int x1, .ref 70, .int (3 : Int32), .ref 27, .int m26]) (fun _ => rfl) ?_
          obtain ⟨o28, H⟩ := H
          refine m_ia 60 rfl rfl o28 ?_
          refine m_n 1 (pc' := 189) (L' := [some (.ref 27), some (.int x1), some (.int x2), some (.int ((g 79 (z_ix x1)) - (g 83 (z_ix x1))))]) (S' := [.ref 27, .int (g 70 (z_ix x1)), .int (3 : Int32), .ref 27, .int m26]) (fun _ => rfl) ?_
          refine m_gR (q := 72) rfl (by decide) ?_
          refine m_n 1 (pc' := 193) (L' := [some (.ref 27), some (.int x1), some (.int x2), some (.int ((g 79 (z_ix x1)) - (g 83 (z_ix x1))))]) (S' := [.int x1, .ref 72, .int (g 70 (z_ix x1)), .int (3 : Int32), .ref 27, .int m26]) (fun _ => rfl) ?_
          obtain ⟨o29, H⟩ := H
          refine m_ia 60 rfl rfl o29 ?_
          refine m_n 1 (pc' := 196) (L' := [some (.ref 27), some (.int x1), some (.int x2), some (.int ((g 79 (z_ix x1)) - (g 83 (z_ix x1))))]) (S' := [.int (99 : Int32), .int (g 72 (z_ix x1)), .int (g 70 (z_ix x1)), .int (3 : Int32), .ref 27, .int m26]) (fun _ => rfl) ?_
          refine m_cI 198 5 rfl rfl rfl (A := [.ref 27, .int (3 : Int32), .int (g 70 (z_ix x1)), .int (g 72 (z_ix x1)), .int (99 : Int32)]) rfl rfl (Or.inr ⟨rfl, _, rfl⟩) (rest := [.int m26]) rfl rfl rfl ?_
          obtain ⟨o30, H⟩ := H
          refine c_holds (3 : Int32) (g 70 (z_ix x1)) (g 72 (z_ix x1)) (99 : Int32) g o30 ?_
          have hj32 : MG z_pI 203 207 [some (.ref 27), some (.int x1), some (.int x2), some (.int ((g 79 (z_ix x1)) - (g 83 (z_ix x1))))] [.int (z_bt (¬ (m26 < q_hd g (3 : Int32) (g 70 (z_ix x1)) (g 72 (z_ix x1)) (99 : Int32))))] g Q := by
            exact m_r rfl rfl rfl H
          refine m_b (c := m26 < q_hd g (3 : Int32) (g 70 (z_ix x1)) (g 72 (z_ix x1)) (99 : Int32)) (pc' := 206) (L' := [some (.ref 27), some (.int x1), some (.int x2), some (.int ((g 79 (z_ix x1)) - (g 83 (z_ix x1))))]) (S' := []) (pc2 := 202) (L2 := [some (.ref 27), some (.int x1), some (.int x2), some (.int ((g 79 (z_ix x1)) - (g 83 (z_ix x1))))]) (S2 := []) rfl (fun _ => rfl) (fun hc => ?_) (fun hc => ?_)
          · have c31 := hc
            refine m_n 1 (pc' := 207) (L' := [some (.ref 27), some (.int x1), some (.int x2), some (.int ((g 79 (z_ix x1)) - (g 83 (z_ix x1))))]) (S' := [.int (0 : Int32)]) (fun _ => rfl) ?_
            rw [show z_bt (¬ (m26 < q_hd g (3 : Int32) (g 70 (z_ix x1)) (g 72 (z_ix x1)) (99 : Int32))) = 0 from z_bt_0.mpr ((fun q => q c31))] at hj32
            exact hj32
          · have c31 := hc
            refine m_n 2 (pc' := 207) (L' := [some (.ref 27), some (.int x1), some (.int x2), some (.int ((g 79 (z_ix x1)) - (g 83 (z_ix x1))))]) (S' := [.int (1 : Int32)]) (fun _ => rfl) ?_
            rw [show z_bt (¬ (m26 < q_hd g (3 : Int32) (g 70 (z_ix x1)) (g 72 (z_ix x1)) (99 : Int32))) = 1 from z_bt_1.mpr (c31)] at hj32
            exact hj32
        refine m_b (c := 0 ≤ ((g 79 (z_ix x1)) - (g 83 (z_ix x1)))) (pc' := 179) (L' := [some (.ref 27), some (.int x1), some (.int x2), some (.int ((g 79 (z_ix x1)) - (g 83 (z_ix x1))))]) (S' := []) (pc2 := 174) (L2 := [some (.ref 27), some (.int x1), some (.int x2), some (.int ((g 79 (z_ix x1)) - (g 83 (z_ix x1))))]) (S2 := []) rfl (fun _ => rfl) (fun hc => ?_) (fun hc => ?_)
        · have c25 := hc
          refine m_n 1 (pc' := 180) (L' := [some (.ref 27), some (.int x1), some (.int x2), some (.int ((g 79 (z_ix x1)) - (g 83 (z_ix x1))))]) (S' := [.int ((g 79 (z_ix x1)) - (g 83 (z_ix x1)))]) (fun _ => rfl) ?_
          rw [(em26.trans (by rw [if_pos c25]) : m26 = ((g 79 (z_ix x1)) - (g 83 (z_ix x1))))] at hj27
          exact hj27
        · have c25 := hc
          refine m_n 3 (pc' := 180) (L' := [some (.ref 27), some (.int x1), some (.int x2), some (.int ((g 79 (z_ix x1)) - (g 83 (z_ix x1))))]) (S' := [.int (-((g 79 (z_ix x1)) - (g 83 (z_ix x1))))]) (fun _ => rfl) ?_
          rw [(em26.trans (by rw [if_neg c25]) : m26 = (-((g 79 (z_ix x1)) - (g 83 (z_ix x1)))))] at hj27
          exact hj27
    rw [if_neg w23] at H
    refine m_sw (pc' := 208) rfl (congrArg (z_tgt 33) (z_swN (k := (0 : Int32)) w3 rfl (z_swN (k := (1 : Int32)) w5 rfl (z_swN (k := (2 : Int32)) w7 rfl (z_swN (k := (3 : Int32)) w9 rfl (z_swN (k := (4 : Int32)) w11 rfl (z_swN (k := (5 : Int32)) w13 rfl (z_swN (k := (6 : Int32)) w15 rfl (z_swN (k := (7 : Int32)) w17 rfl (z_swN (k := (8 : Int32)) w20 rfl (z_swN (k := (9 : Int32)) w23 rfl rfl))))))))))) ?_
    refine m_n 1 (pc' := 209) (L' := [some (.ref 27), some (.int x1), some (.int x2), some (.int ((g 79 (z_ix x1)) - (g 83 (z_ix x1))))]) (S' := [.int (-1 : Int32)]) (fun _ => rfl) ?_
    exact m_r rfl rfl rfl H
set_option maxRecDepth 20000 in
theorem X_213 (x1 : Int32) (x2 : Int32) (x3 : Int32) (g : zG) {Q : Int32 → zG → Prop} (H : if (0 : Int32) ≤ x1 ∧ x1 ≤ ((g 27 1) - (1 : Int32)) then (if (0 : Int32) ≤ x2 ∧ x2 ≤ (7 : Int32) then (if (0 : Int32) ≤ x3 ∧ x3 ≤ (99 : Int32) then ((0 ≤ (((8 : Int32) * x1) + x2).toInt ∧ (((8 : Int32) * x1) + x2).toInt < 48) ∧ (0 ≤ (((8 : Int32) * x1) + x2).toInt ∧ (((8 : Int32) * x1) + x2).toInt < 48) ∧ Q (g 35 (z_ix (((8 : Int32) * x1) + x2))) (z_up2 g 35 (z_ix (((8 : Int32) * x1) + x2)) x3)) else (Q (-1 : Int32) g)) else (Q (-1 : Int32) g)) else (Q (-1 : Int32) g)) : MK z_pI 213 [.ref 27, .int x1, .int x2, .int x3] g Q := by
  refine m_K (L := [some (.ref 27), some (.int x1), some (.int x2), some (.int x3), none]) rfl ?_
  refine m_n 2 (pc' := 2) (L' := [some (.ref 27), some (.int x1), some (.int x2), some (.int x3), none]) (S' := [.int x1, .ref 27]) (fun _ => rfl) ?_
  refine m_cI 163 2 rfl rfl rfl (A := [.ref 27, .int x1]) rfl rfl (Or.inr ⟨rfl, _, rfl⟩) (rest := []) rfl rfl rfl ?_
  refine X_163 x1 g ?_
  refine m_b (c := z_bt ((0 : Int32) ≤ x1 ∧ x1 ≤ ((g 27 1) - (1 : Int32))) = 0) (pc' := 32) (L' := [some (.ref 27), some (.int x1), some (.int x2), some (.int x3), none]) (S' := []) (pc2 := 8) (L2 := [some (.ref 27), some (.int x1), some (.int x2), some (.int x3), none]) (S2 := []) rfl (fun _ => rfl) (fun hc => ?_) (fun hc => ?_)
  · have hc := z_bt_0.mp hc
    rw [if_neg hc] at H
    refine m_n 1 (pc' := 33) (L' := [some (.ref 27), some (.int x1), some (.int x2), some (.int x3), none]) (S' := [.int (-1 : Int32)]) (fun _ => rfl) ?_
    exact m_r rfl rfl rfl H
  · have hc := Decidable.not_not.mp (fun q => hc (z_bt_0.mpr q))
    rw [if_pos hc] at H
    refine m_n 4 (pc' := 14) (L' := [some (.ref 27), some (.int x1), some (.int x2), some (.int x3), none]) (S' := [.long (7 : Int64), .long (0 : Int64), .long x2.toInt64]) (fun _ => rfl) ?_
    refine m_cI 161 3 rfl rfl rfl (A := [.long x2.toInt64, .long (0 : Int64), .long (7 : Int64)]) rfl rfl (Or.inl rfl) (rest := []) rfl rfl rfl ?_
    refine c_inJ x2 (0 : Int32) (7 : Int32) g rfl rfl rfl ?_
    refine m_b (c := z_bt ((0 : Int32) ≤ x2 ∧ x2 ≤ (7 : Int32)) = 0) (pc' := 32) (L' := [some (.ref 27), some (.int x1), some (.int x2), some (.int x3), none]) (S' := []) (pc2 := 20) (L2 := [some (.ref 27), some (.int x1), some (.int x2), some (.int x3), none]) (S2 := []) rfl (fun _ => rfl) (fun hc => ?_) (fun hc => ?_)
    · have hc := z_bt_0.mp hc
      rw [if_neg hc] at H
      refine m_n 1 (pc' := 33) (L' := [some (.ref 27), some (.int x1), some (.int x2), some (.int x3), none]) (S' := [.int (-1 : Int32)]) (fun _ => rfl) ?_
      exact m_r rfl rfl rfl H
    · have hc := Decidable.not_not.mp (fun q => hc (z_bt_0.mpr q))
      rw [if_pos hc] at H
      refine m_n 4 (pc' := 26) (L' := [some (.ref 27), some (.int x1), some (.int x2), some (.int x3), none]) (S' := [.long (99 : Int64), .long (0 : Int64), .long x3.toInt64]) (fun _ => rfl) ?_
      refine m_cI 161 3 rfl rfl rfl (A := [.long x3.toInt64, .long (0 : Int64), .long (99 : Int64)]) rfl rfl (Or.inl rfl) (rest := []) rfl rfl rfl ?_
      refine c_inJ x3 (0 : Int32) (99 : Int32) g rfl rfl rfl ?_
      refine m_b (c := z_bt ((0 : Int32) ≤ x3 ∧ x3 ≤ (99 : Int32)) = 0) (pc' := 32) (L' := [some (.ref 27), some (.int x1), some (.int x2), some (.int x3), none]) (S' := []) (pc2 := 34) (L2 := [some (.ref 27), some (.int x1), some (.int x2), some (.int x3), none]) (S2 := []) rfl (fun _ => rfl) (fun hc => ?_) (fun hc => ?_)
      · have hc := z_bt_0.mp hc
        rw [if_neg hc] at H
        refine m_n 1 (pc' := 33) (L' := [some (.ref 27), some (.int x1), some (.int x2), some (.int x3), none]) (S' := [.int (-1 : Int32)]) (fun _ => rfl) ?_
        exact m_r rfl rfl rfl H
      · have hc := Decidable.not_not.mp (fun q => hc (z_bt_0.mpr q))
        rw [if_pos hc] at H
        refine m_n 1 (pc' := 35) (L' := [some (.ref 27), some (.int x1), some (.int x2), some (.int x3), none]) (S' := [.ref 27]) (fun _ => rfl) ?_
        refine m_gR (q := 35) rfl (by decide) ?_
        refine m_n 5 (pc' := 44) (L' := [some (.ref 27), some (.int x1), some (.int x2), some (.int x3), none]) (S' := [.int (((8 : Int32) * x1) + x2), .ref 35]) (fun _ => rfl) ?_
        obtain ⟨o1, H⟩ := H
        refine m_ia 48 rfl rfl o1 ?_
        refine m_n 2 (pc' := 48) (L' := [some (.ref 27), some (.int x1), some (.int x2), some (.int x3), some (.int (g 35 (z_ix (((8 : Int32) * x1) + x2))))]) (S' := [.ref 27]) (fun _ => rfl) ?_
        refine m_gR (q := 35) rfl (by decide) ?_
        refine m_n 6 (pc' := 58) (L' := [some (.ref 27), some (.int x1), some (.int x2), some (.int x3), some (.int (g 35 (z_ix (((8 : Int32) * x1) + x2))))]) (S' := [.int x3, .int (((8 : Int32) * x1) + x2), .ref 35]) (fun _ => rfl) ?_
        obtain ⟨o2, H⟩ := H
        refine m_is 48 rfl rfl rfl o2 ?_
        refine m_n 1 (pc' := 61) (L' := [some (.ref 27), some (.int x1), some (.int x2), some (.int x3), some (.int (g 35 (z_ix (((8 : Int32) * x1) + x2))))]) (S' := [.int (g 35 (z_ix (((8 : Int32) * x1) + x2)))]) (fun _ => rfl) ?_
        exact m_r rfl rfl rfl H
set_option maxRecDepth 20000 in
theorem X_214 (x1 : Int32) (x2 : Int32) (x3 : Int32) (g : zG) {Q : Int32 → zG → Prop} (H : if (0 : Int32) ≤ x1 ∧ x1 ≤ ((g 27 1) - (1 : Int32)) then (if (0 : Int32) ≤ x2 ∧ x2 ≤ (999999 : Int32) then (if (0 : Int32) ≤ x3 ∧ x3 ≤ (7 : Int32) then (MG z_pI 214 40 [some (.ref 27), some (.int x1), some (.int x2), some (.int x3), some (.int (0 : Int32)), some (.int (0 : Int32)), none, none] [] g Q) else (Q (-1 : Int32) g)) else (Q (-1 : Int32) g)) else (Q (-1 : Int32) g)) : MK z_pI 214 [.ref 27, .int x1, .int x2, .int x3] g Q := by
  refine m_K (L := [some (.ref 27), some (.int x1), some (.int x2), some (.int x3), none, none, none, none]) rfl ?_
  refine m_n 2 (pc' := 2) (L' := [some (.ref 27), some (.int x1), some (.int x2), some (.int x3), none, none, none, none]) (S' := [.int x1, .ref 27]) (fun _ => rfl) ?_
  refine m_cI 163 2 rfl rfl rfl (A := [.ref 27, .int x1]) rfl rfl (Or.inr ⟨rfl, _, rfl⟩) (rest := []) rfl rfl rfl ?_
  refine X_163 x1 g ?_
  refine m_b (c := z_bt ((0 : Int32) ≤ x1 ∧ x1 ≤ ((g 27 1) - (1 : Int32))) = 0) (pc' := 32) (L' := [some (.ref 27), some (.int x1), some (.int x2), some (.int x3), none, none, none, none]) (S' := []) (pc2 := 8) (L2 := [some (.ref 27), some (.int x1), some (.int x2), some (.int x3), none, none, none, none]) (S2 := []) rfl (fun _ => rfl) (fun hc => ?_) (fun hc => ?_)
  · have hc := z_bt_0.mp hc
    rw [if_neg hc] at H
    refine m_n 1 (pc' := 33) (L' := [some (.ref 27), some (.int x1), some (.int x2), some (.int x3), none, none, none, none]) (S' := [.int (-1 : Int32)]) (fun _ => rfl) ?_
    exact m_r rfl rfl rfl H
  · have hc := Decidable.not_not.mp (fun q => hc (z_bt_0.mpr q))
    rw [if_pos hc] at H
    refine m_n 4 (pc' := 14) (L' := [some (.ref 27), some (.int x1), some (.int x2), some (.int x3), none, none, none, none]) (S' := [.long (999999 : Int64), .long (0 : Int64), .long x2.toInt64]) (fun _ => rfl) ?_
    refine m_cI 161 3 rfl rfl rfl (A := [.long x2.toInt64, .long (0 : Int64), .long (999999 : Int64)]) rfl rfl (Or.inl rfl) (rest := []) rfl rfl rfl ?_
    refine c_inJ x2 (0 : Int32) (999999 : Int32) g rfl rfl rfl ?_
    refine m_b (c := z_bt ((0 : Int32) ≤ x2 ∧ x2 ≤ (999999 : Int32)) = 0) (pc' := 32) (L' := [some (.ref 27), some (.int x1), some (.int x2), some (.int x3), none, none, none, none]) (S' := []) (pc2 := 20) (L2 := [some (.ref 27), some (.int x1), some (.int x2), some (.int x3), none, none, none, none]) (S2 := []) rfl (fun _ => rfl) (fun hc => ?_) (fun hc => ?_)
    · have hc := z_bt_0.mp hc
      rw [if_neg hc] at H
      refine m_n 1 (pc' := 33) (L' := [some (.ref 27), some (.int x1), some (.int x2), some (.int x3), none, none, none, none]) (S' := [.int (-1 : Int32)]) (fun _ => rfl) ?_
      exact m_r rfl rfl rfl H
    · have hc := Decidable.not_not.mp (fun q => hc (z_bt_0.mpr q))
      rw [if_pos hc] at H
      refine m_n 4 (pc' := 26) (L' := [some (.ref 27), some (.int x1), some (.int x2), some (.int x3), none, none, none, none]) (S' := [.long (7 : Int64), .long (0 : Int64), .long x3.toInt64]) (fun _ => rfl) ?_
      refine m_cI 161 3 rfl rfl rfl (A := [.long x3.toInt64, .long (0 : Int64), .long (7 : Int64)]) rfl rfl (Or.inl rfl) (rest := []) rfl rfl rfl ?_
      refine c_inJ x3 (0 : Int32) (7 : Int32) g rfl rfl rfl ?_
      refine m_b (c := z_bt ((0 : Int32) ≤ x3 ∧ x3 ≤ (7 : Int32)) = 0) (pc' := 32) (L' := [some (.ref 27), some (.int x1), some (.int x2), some (.int x3), none, none, none, none]) (S' := []) (pc2 := 34) (L2 := [some (.ref 27), some (.int x1), some (.int x2), some (.int x3), none, none, none, none]) (S2 := []) rfl (fun _ => rfl) (fun hc => ?_) (fun hc => ?_)
      · have hc := z_bt_0.mp hc
        rw [if_neg hc] at H
        refine m_n 1 (pc' := 33) (L' := [some (.ref 27), some (.int x1), some (.int x2), some (.int x3), none, none, none, none]) (S' := [.int (-1 : Int32)]) (fun _ => rfl) ?_
        exact m_r rfl rfl rfl H
      · have hc := Decidable.not_not.mp (fun q => hc (z_bt_0.mpr q))
        rw [if_pos hc] at H
        refine m_n 4 (pc' := 40) (L' := [some (.ref 27), some (.int x1), some (.int x2), some (.int x3), some (.int (0 : Int32)), some (.int (0 : Int32)), none, none]) (S' := []) (fun _ => rfl) ?_
        exact H
set_option maxRecDepth 20000 in
theorem X_214_40 (y1 : Int32) (y2 : Int32) (y3 : Int32) (y4 : Int32) (y5 : Int32) (u6 : Option Value) (u7 : Option Value) (g : zG) {Q : Int32 → zG → Prop} (H : if (8 : Int32) ≤ y5 then (if y4 = 0 then (Q (-4 : Int32) g) else (MG z_pI 214 87 [some (.ref 27), some (.int y1), some (.int y2), some (.int y3), some (.int y4), some (.int (0 : Int32)), some (.int (0 : Int32)), some (.int (0 : Int32))] [] g Q)) else ((0 ≤ (((8 : Int32) * y1) + y5).toInt ∧ (((8 : Int32) * y1) + y5).toInt < 48) ∧ MG z_pI 214 40 [some (.ref 27), some (.int y1), some (.int y2), some (.int y3), some (.int (y4 + (g 35 (z_ix (((8 : Int32) * y1) + y5))))), some (.int (y5 + (1 : Int32))), u6, u7] [] g Q)) : MG z_pI 214 40 [some (.ref 27), some (.int y1), some (.int y2), some (.int y3), some (.int y4), some (.int y5), u6, u7] [] g Q := by
  refine m_n 2 (pc' := 44) (L' := [some (.ref 27), some (.int y1), some (.int y2), some (.int y3), some (.int y4), some (.int y5), u6, u7]) (S' := [.int (8 : Int32), .int y5]) (fun _ => rfl) ?_
  refine m_b (c := (8 : Int32) ≤ y5) (pc' := 70) (L' := [some (.ref 27), some (.int y1), some (.int y2), some (.int y3), some (.int y4), some (.int y5), u6, u7]) (S' := []) (pc2 := 47) (L2 := [some (.ref 27), some (.int y1), some (.int y2), some (.int y3), some (.int y4), some (.int y5), u6, u7]) (S2 := []) rfl (fun _ => rfl) (fun hc => ?_) (fun hc => ?_)
  · have hc := hc
    rw [if_pos hc] at H
    refine m_n 1 (pc' := 72) (L' := [some (.ref 27), some (.int y1), some (.int y2), some (.int y3), some (.int y4), some (.int y5), u6, u7]) (S' := [.int y4]) (fun _ => rfl) ?_
    refine m_b (c := y4 = 0) (pc' := 75) (L' := [some (.ref 27), some (.int y1), some (.int y2), some (.int y3), some (.int y4), some (.int y5), u6, u7]) (S' := []) (pc2 := 78) (L2 := [some (.ref 27), some (.int y1), some (.int y2), some (.int y3), some (.int y4), some (.int y5), u6, u7]) (S2 := []) rfl (fun _ => rfl) (fun hc => ?_) (fun hc => ?_)
    · have hc := hc
      rw [if_pos hc] at H
      refine m_n 1 (pc' := 77) (L' := [some (.ref 27), some (.int y1), some (.int y2), some (.int y3), some (.int y4), some (.int y5), u6, u7]) (S' := [.int (-4 : Int32)]) (fun _ => rfl) ?_
      exact m_r rfl rfl rfl H
    · have hc := hc
      rw [if_neg hc] at H
      refine m_n 6 (pc' := 87) (L' := [some (.ref 27), some (.int y1), some (.int y2), some (.int y3), some (.int y4), some (.int (0 : Int32)), some (.int (0 : Int32)), some (.int (0 : Int32))]) (S' := []) (fun _ => rfl) ?_
      exact H
  · have hc := hc
    rw [if_neg hc] at H
    refine m_n 2 (pc' := 50) (L' := [some (.ref 27), some (.int y1), some (.int y2), some (.int y3), some (.int y4), some (.int y5), u6, u7]) (S' := [.ref 27, .int y4]) (fun _ => rfl) ?_
    refine m_gR (q := 35) rfl (by decide) ?_
    refine m_n 5 (pc' := 60) (L' := [some (.ref 27), some (.int y1), some (.int y2), some (.int y3), some (.int y4), some (.int y5), u6, u7]) (S' := [.int (((8 : Int32) * y1) + y5), .ref 35, .int y4]) (fun _ => rfl) ?_
    obtain ⟨o1, H⟩ := H
    refine m_ia 48 rfl rfl o1 ?_
    refine m_n 4 (pc' := 40) (L' := [some (.ref 27), some (.int y1), some (.int y2), some (.int y3), some (.int (y4 + (g 35 (z_ix (((8 : Int32) * y1) + y5))))), some (.int (y5 + (1 : Int32))), u6, u7]) (S' := []) (fun _ => rfl) ?_
    exact H
set_option maxRecDepth 20000 in
theorem X_214_87 (y1 : Int32) (y2 : Int32) (y3 : Int32) (y4 : Int32) (y5 : Int32) (y6 : Int32) (y7 : Int32) (g : zG) {Q : Int32 → zG → Prop} (H : if (8 : Int32) ≤ y7 then ((0 ≤ (((8 : Int32) * y1) + y3).toInt ∧ (((8 : Int32) * y1) + y3).toInt < 48) ∧ (¬ y4 = 0) ∧ Q (((y2 * (g 35 (z_ix (((8 : Int32) * y1) + y3)))) / y4) + z_bt (¬ ((g 35 (z_ix (((8 : Int32) * y1) + y3))) ≤ 0) ∧ (¬ ((y2 - y5) ≤ y6)))) g) else ((0 ≤ (((8 : Int32) * y1) + y7).toInt ∧ (((8 : Int32) * y1) + y7).toInt < 48) ∧ (¬ y4 = 0) ∧ (¬ (y3 ≤ y7) → 0 ≤ (((8 : Int32) * y1) + y7).toInt ∧ (((8 : Int32) * y1) + y7).toInt < 48) ∧ MG z_pI 214 87 [some (.ref 27), some (.int y1), some (.int y2), some (.int y3), some (.int y4), some (.int (y5 + ((y2 * (g 35 (z_ix (((8 : Int32) * y1) + y7)))) / y4))), some (.int (y6 + z_bt (¬ (y3 ≤ y7) ∧ (¬ ((g 35 (z_ix (((8 : Int32) * y1) + y7))) ≤ 0))))), some (.int (y7 + (1 : Int32)))] [] g Q)) : MG z_pI 214 87 [some (.ref 27), some (.int y1), some (.int y2), some (.int y3), some (.int y4), some (.int y5), some (.int y6), some (.int y7)] [] g Q := by
  refine m_n 2 (pc' := 91) (L' := [some (.ref 27), some (.int y1), some (.int y2), some (.int y3), some (.int y4), some (.int y5), some (.int y6), some (.int y7)]) (S' := [.int (8 : Int32), .int y7]) (fun _ => rfl) ?_
  refine m_b (c := (8 : Int32) ≤ y7) (pc' := 153) (L' := [some (.ref 27), some (.int y1), some (.int y2), some (.int y3), some (.int y4), some (.int y5), some (.int y6), some (.int y7)]) (S' := []) (pc2 := 94) (L2 := [some (.ref 27), some (.int y1), some (.int y2), some (.int y3), some (.int y4), some (.int y5), some (.int y6), some (.int y7)]) (S2 := []) rfl (fun _ => rfl) (fun hc => ?_) (fun hc => ?_)
  · have hc := hc
    rw [if_pos hc] at H
    refine m_n 1 (pc' := 154) (L' := [some (.ref 27), some (.int y1), some (.int y2), some (.int y3), some (.int y4), some (.int y5), some (.int y6), some (.int y7)]) (S' := [.ref 27]) (fun _ => rfl) ?_
    refine m_gR (q := 35) rfl (by decide) ?_
    refine m_n 5 (pc' := 163) (L' := [some (.ref 27), some (.int y1), some (.int y2), some (.int y3), some (.int y4), some (.int y5), some (.int y6), some (.int y7)]) (S' := [.int (((8 : Int32) * y1) + y3), .ref 35]) (fun _ => rfl) ?_
    obtain ⟨o2, H⟩ := H
    refine m_ia 48 rfl rfl o2 ?_
    refine m_n 5 (pc' := 172) (L' := [some (.ref 27), some (.int y1), some (.int y2), some (.int y3), some (.int y4), some (.int y5), some (.int y6), some (.int (g 35 (z_ix (((8 : Int32) * y1) + y3))))]) (S' := [.int y4, .int (y2 * (g 35 (z_ix (((8 : Int32) * y1) + y3))))]) (fun _ => rfl) ?_
    obtain ⟨o3, H⟩ := H
    refine m_d (c := y4 = 0) (pc' := 173) (L' := [some (.ref 27), some (.int y1), some (.int y2), some (.int y3), some (.int y4), some (.int y5), some (.int y6), some (.int (g 35 (z_ix (((8 : Int32) * y1) + y3))))]) (S' := [.int ((y2 * (g 35 (z_ix (((8 : Int32) * y1) + y3)))) / y4)]) rfl (fun _ => rfl) o3 ?_
    refine m_n 1 (pc' := 175) (L' := [some (.ref 27), some (.int y1), some (.int y2), some (.int y3), some (.int y4), some (.int y5), some (.int y6), some (.int (g 35 (z_ix (((8 : Int32) * y1) + y3))))]) (S' := [.int (g 35 (z_ix (((8 : Int32) * y1) + y3))), .int ((y2 * (g 35 (z_ix (((8 : Int32) * y1) + y3)))) / y4)]) (fun _ => rfl) ?_
    have hj6 : MG z_pI 214 192 [some (.ref 27), some (.int y1), some (.int y2), some (.int y3), some (.int y4), some (.int y5), some (.int y6), some (.int (g 35 (z_ix (((8 : Int32) * y1) + y3))))] [.int (z_bt (¬ ((g 35 (z_ix (((8 : Int32) * y1) + y3))) ≤ 0) ∧ (¬ ((y2 - y5) ≤ y6)))), .int ((y2 * (g 35 (z_ix (((8 : Int32) * y1) + y3)))) / y4)] g Q := by
      refine m_n 1 (pc' := 193) (L' := [some (.ref 27), some (.int y1), some (.int y2), some (.int y3), some (.int y4), some (.int y5), some (.int y6), some (.int (g 35 (z_ix (((8 : Int32) * y1) + y3))))]) (S' := [.int (((y2 * (g 35 (z_ix (((8 : Int32) * y1) + y3)))) / y4) + z_bt (¬ ((g 35 (z_ix (((8 : Int32) * y1) + y3))) ≤ 0) ∧ (¬ ((y2 - y5) ≤ y6))))]) (fun _ => rfl) ?_
      exact m_r rfl rfl rfl H
    refine m_b (c := (g 35 (z_ix (((8 : Int32) * y1) + y3))) ≤ 0) (pc' := 191) (L' := [some (.ref 27), some (.int y1), some (.int y2), some (.int y3), some (.int y4), some (.int y5), some (.int y6), some (.int (g 35 (z_ix (((8 : Int32) * y1) + y3))))]) (S' := [.int ((y2 * (g 35 (z_ix (((8 : Int32) * y1) + y3)))) / y4)]) (pc2 := 178) (L2 := [some (.ref 27), some (.int y1), some (.int y2), some (.int y3), some (.int y4), some (.int y5), some (.int y6), some (.int (g 35 (z_ix (((8 : Int32) * y1) + y3))))]) (S2 := [.int ((y2 * (g 35 (z_ix (((8 : Int32) * y1) + y3)))) / y4)]) rfl (fun _ => rfl) (fun hc => ?_) (fun hc => ?_)
    · have c4 := hc
      refine m_n 1 (pc' := 192) (L' := [some (.ref 27), some (.int y1), some (.int y2), some (.int y3), some (.int y4), some (.int y5), some (.int y6), some (.int (g 35 (z_ix (((8 : Int32) * y1) + y3))))]) (S' := [.int (0 : Int32), .int ((y2 * (g 35 (z_ix (((8 : Int32) * y1) + y3)))) / y4)]) (fun _ => rfl) ?_
      rw [show z_bt (¬ ((g 35 (z_ix (((8 : Int32) * y1) + y3))) ≤ 0) ∧ (¬ ((y2 - y5) ≤ y6))) = 0 from z_bt_0.mpr ((fun q => q.1 c4))] at hj6
      exact hj6
    · have c4 := hc
      refine m_n 4 (pc' := 184) (L' := [some (.ref 27), some (.int y1), some (.int y2), some (.int y3), some (.int y4), some (.int y5), some (.int y6), some (.int (g 35 (z_ix (((8 : Int32) * y1) + y3))))]) (S' := [.int (y2 - y5), .int y6, .int ((y2 * (g 35 (z_ix (((8 : Int32) * y1) + y3)))) / y4)]) (fun _ => rfl) ?_
      refine m_b (c := (y2 - y5) ≤ y6) (pc' := 191) (L' := [some (.ref 27), some (.int y1), some (.int y2), some (.int y3), some (.int y4), some (.int y5), some (.int y6), some (.int (g 35 (z_ix (((8 : Int32) * y1) + y3))))]) (S' := [.int ((y2 * (g 35 (z_ix (((8 : Int32) * y1) + y3)))) / y4)]) (pc2 := 187) (L2 := [some (.ref 27), some (.int y1), some (.int y2), some (.int y3), some (.int y4), some (.int y5), some (.int y6), some (.int (g 35 (z_ix (((8 : Int32) * y1) + y3))))]) (S2 := [.int ((y2 * (g 35 (z_ix (((8 : Int32) * y1) + y3)))) / y4)]) rfl (fun _ => rfl) (fun hc => ?_) (fun hc => ?_)
      · have c5 := hc
        refine m_n 1 (pc' := 192) (L' := [some (.ref 27), some (.int y1), some (.int y2), some (.int y3), some (.int y4), some (.int y5), some (.int y6), some (.int (g 35 (z_ix (((8 : Int32) * y1) + y3))))]) (S' := [.int (0 : Int32), .int ((y2 * (g 35 (z_ix (((8 : Int32) * y1) + y3)))) / y4)]) (fun _ => rfl) ?_
        rw [show z_bt (¬ ((g 35 (z_ix (((8 : Int32) * y1) + y3))) ≤ 0) ∧ (¬ ((y2 - y5) ≤ y6))) = 0 from z_bt_0.mpr ((fun q => (fun q => q c5) q.2))] at hj6
        exact hj6
      · have c5 := hc
        refine m_n 2 (pc' := 192) (L' := [some (.ref 27), some (.int y1), some (.int y2), some (.int y3), some (.int y4), some (.int y5), some (.int y6), some (.int (g 35 (z_ix (((8 : Int32) * y1) + y3))))]) (S' := [.int (1 : Int32), .int ((y2 * (g 35 (z_ix (((8 : Int32) * y1) + y3)))) / y4)]) (fun _ => rfl) ?_
        rw [show z_bt (¬ ((g 35 (z_ix (((8 : Int32) * y1) + y3))) ≤ 0) ∧ (¬ ((y2 - y5) ≤ y6))) = 1 from z_bt_1.mpr (⟨c4, c5⟩)] at hj6
        exact hj6
  · have hc := hc
    rw [if_neg hc] at H
    refine m_n 3 (pc' := 98) (L' := [some (.ref 27), some (.int y1), some (.int y2), some (.int y3), some (.int y4), some (.int y5), some (.int y6), some (.int y7)]) (S' := [.ref 27, .int y2, .int y5]) (fun _ => rfl) ?_
    refine m_gR (q := 35) rfl (by decide) ?_
    refine m_n 5 (pc' := 108) (L' := [some (.ref 27), some (.int y1), some (.int y2), some (.int y3), some (.int y4), some (.int y5), some (.int y6), some (.int y7)]) (S' := [.int (((8 : Int32) * y1) + y7), .ref 35, .int y2, .int y5]) (fun _ => rfl) ?_
    obtain ⟨o7, H⟩ := H
    refine m_ia 48 rfl rfl o7 ?_
    refine m_n 2 (pc' := 112) (L' := [some (.ref 27), some (.int y1), some (.int y2), some (.int y3), some (.int y4), some (.int y5), some (.int y6), some (.int y7)]) (S' := [.int y4, .int (y2 * (g 35 (z_ix (((8 : Int32) * y1) + y7)))), .int y5]) (fun _ => rfl) ?_
    obtain ⟨o8, H⟩ := H
    refine m_d (c := y4 = 0) (pc' := 113) (L' := [some (.ref 27), some (.int y1), some (.int y2), some (.int y3), some (.int y4), some (.int y5), some (.int y6), some (.int y7)]) (S' := [.int ((y2 * (g 35 (z_ix (((8 : Int32) * y1) + y7)))) / y4), .int y5]) rfl (fun _ => rfl) o8 ?_
    refine m_n 5 (pc' := 121) (L' := [some (.ref 27), some (.int y1), some (.int y2), some (.int y3), some (.int y4), some (.int (y5 + ((y2 * (g 35 (z_ix (((8 : Int32) * y1) + y7)))) / y4))), some (.int y6), some (.int y7)]) (S' := [.int y3, .int y7, .int y6]) (fun _ => rfl) ?_
    obtain ⟨o10, H⟩ := H
    have hj12 : MG z_pI 214 144 [some (.ref 27), some (.int y1), some (.int y2), some (.int y3), some (.int y4), some (.int (y5 + ((y2 * (g 35 (z_ix (((8 : Int32) * y1) + y7)))) / y4))), some (.int y6), some (.int y7)] [.int (z_bt (¬ (y3 ≤ y7) ∧ (¬ ((g 35 (z_ix (((8 : Int32) * y1) + y7))) ≤ 0)))), .int y6] g Q := by
      refine m_n 4 (pc' := 87) (L' := [some (.ref 27), some (.int y1), some (.int y2), some (.int y3), some (.int y4), some (.int (y5 + ((y2 * (g 35 (z_ix (((8 : Int32) * y1) + y7)))) / y4))), some (.int (y6 + z_bt (¬ (y3 ≤ y7) ∧ (¬ ((g 35 (z_ix (((8 : Int32) * y1) + y7))) ≤ 0))))), some (.int (y7 + (1 : Int32)))]) (S' := []) (fun _ => rfl) ?_
      exact H
    refine m_b (c := y3 ≤ y7) (pc' := 143) (L' := [some (.ref 27), some (.int y1), some (.int y2), some (.int y3), some (.int y4), some (.int (y5 + ((y2 * (g 35 (z_ix (((8 : Int32) * y1) + y7)))) / y4))), some (.int y6), some (.int y7)]) (S' := [.int y6]) (pc2 := 124) (L2 := [some (.ref 27), some (.int y1), some (.int y2), some (.int y3), some (.int y4), some (.int (y5 + ((y2 * (g 35 (z_ix (((8 : Int32) * y1) + y7)))) / y4))), some (.int y6), some (.int y7)]) (S2 := [.int y6]) rfl (fun _ => rfl) (fun hc => ?_) (fun hc => ?_)
    · have c9 := hc
      refine m_n 1 (pc' := 144) (L' := [some (.ref 27), some (.int y1), some (.int y2), some (.int y3), some (.int y4), some (.int (y5 + ((y2 * (g 35 (z_ix (((8 : Int32) * y1) + y7)))) / y4))), some (.int y6), some (.int y7)]) (S' := [.int (0 : Int32), .int y6]) (fun _ => rfl) ?_
      rw [show z_bt (¬ (y3 ≤ y7) ∧ (¬ ((g 35 (z_ix (((8 : Int32) * y1) + y7))) ≤ 0))) = 0 from z_bt_0.mpr ((fun q => q.1 c9))] at hj12
      exact hj12
    · have c9 := hc
      refine m_n 1 (pc' := 125) (L' := [some (.ref 27), some (.int y1), some (.int y2), some (.int y3), some (.int y4), some (.int (y5 + ((y2 * (g 35 (z_ix (((8 : Int32) * y1) + y7)))) / y4))), some (.int y6), some (.int y7)]) (S' := [.ref 27, .int y6]) (fun _ => rfl) ?_
      refine m_gR (q := 35) rfl (by decide) ?_
      refine m_n 5 (pc' := 135) (L' := [some (.ref 27), some (.int y1), some (.int y2), some (.int y3), some (.int y4), some (.int (y5 + ((y2 * (g 35 (z_ix (((8 : Int32) * y1) + y7)))) / y4))), some (.int y6), some (.int y7)]) (S' := [.int (((8 : Int32) * y1) + y7), .ref 35, .int y6]) (fun _ => rfl) ?_
      refine m_ia 48 rfl rfl (o10 c9) ?_
      refine m_b (c := (g 35 (z_ix (((8 : Int32) * y1) + y7))) ≤ 0) (pc' := 143) (L' := [some (.ref 27), some (.int y1), some (.int y2), some (.int y3), some (.int y4), some (.int (y5 + ((y2 * (g 35 (z_ix (((8 : Int32) * y1) + y7)))) / y4))), some (.int y6), some (.int y7)]) (S' := [.int y6]) (pc2 := 139) (L2 := [some (.ref 27), some (.int y1), some (.int y2), some (.int y3), some (.int y4), some (.int (y5 + ((y2 * (g 35 (z_ix (((8 : Int32) * y1) + y7)))) / y4))), some (.int y6), some (.int y7)]) (S2 := [.int y6]) rfl (fun _ => rfl) (fun hc => ?_) (fun hc => ?_)
      · have c11 := hc
        refine m_n 1 (pc' := 144) (L' := [some (.ref 27), some (.int y1), some (.int y2), some (.int y3), some (.int y4), some (.int (y5 + ((y2 * (g 35 (z_ix (((8 : Int32) * y1) + y7)))) / y4))), some (.int y6), some (.int y7)]) (S' := [.int (0 : Int32), .int y6]) (fun _ => rfl) ?_
        rw [show z_bt (¬ (y3 ≤ y7) ∧ (¬ ((g 35 (z_ix (((8 : Int32) * y1) + y7))) ≤ 0))) = 0 from z_bt_0.mpr ((fun q => (fun q => q c11) q.2))] at hj12
        exact hj12
      · have c11 := hc
        refine m_n 2 (pc' := 144) (L' := [some (.ref 27), some (.int y1), some (.int y2), some (.int y3), some (.int y4), some (.int (y5 + ((y2 * (g 35 (z_ix (((8 : Int32) * y1) + y7)))) / y4))), some (.int y6), some (.int y7)]) (S' := [.int (1 : Int32), .int y6]) (fun _ => rfl) ?_
        rw [show z_bt (¬ (y3 ≤ y7) ∧ (¬ ((g 35 (z_ix (((8 : Int32) * y1) + y7))) ≤ 0))) = 1 from z_bt_1.mpr (⟨c9, c11⟩)] at hj12
        exact hj12
set_option maxRecDepth 20000 in
theorem X_228 (x1 : Int32) (x2 : Int32) (x3 : Int32) (g : zG) {Q : Int32 → zG → Prop} (H : if (0 : Int32) ≤ x1 ∧ x1 ≤ (3 : Int32) then (if (0 : Int32) ≤ x2 ∧ x2 ≤ (2 : Int32) then (if x3 ≤ (48 : Int32) then (if 0 ≤ x3 then ((0 ≤ x1.toInt ∧ x1.toInt < 4) ∧ (0 ≤ x1.toInt ∧ x1.toInt < 4) ∧ MG z_pI 228 56 [some (.ref 27), some (.int x1), some (.int x2), some (.int x3), some (.int (0 : Int32))] [] (z_up2 (z_up2 g 86 (z_ix x1) x2) 87 (z_ix x1) x3) Q) else (Q (-14 : Int32) g)) else (Q (-1 : Int32) g)) else (Q (-1 : Int32) g)) else (Q (-1 : Int32) g)) : MK z_pI 228 [.ref 27, .int x1, .int x2, .int x3] g Q := by
  refine m_K (L := [some (.ref 27), some (.int x1), some (.int x2), some (.int x3), none]) rfl ?_
  refine m_n 4 (pc' := 6) (L' := [some (.ref 27), some (.int x1), some (.int x2), some (.int x3), none]) (S' := [.long (3 : Int64), .long (0 : Int64), .long x1.toInt64]) (fun _ => rfl) ?_
  refine m_cI 161 3 rfl rfl rfl (A := [.long x1.toInt64, .long (0 : Int64), .long (3 : Int64)]) rfl rfl (Or.inl rfl) (rest := []) rfl rfl rfl ?_
  refine c_inJ x1 (0 : Int32) (3 : Int32) g rfl rfl rfl ?_
  refine m_b (c := z_bt ((0 : Int32) ≤ x1 ∧ x1 ≤ (3 : Int32)) = 0) (pc' := 30) (L' := [some (.ref 27), some (.int x1), some (.int x2), some (.int x3), none]) (S' := []) (pc2 := 12) (L2 := [some (.ref 27), some (.int x1), some (.int x2), some (.int x3), none]) (S2 := []) rfl (fun _ => rfl) (fun hc => ?_) (fun hc => ?_)
  · have hc := z_bt_0.mp hc
    rw [if_neg hc] at H
    refine m_n 1 (pc' := 31) (L' := [some (.ref 27), some (.int x1), some (.int x2), some (.int x3), none]) (S' := [.int (-1 : Int32)]) (fun _ => rfl) ?_
    exact m_r rfl rfl rfl H
  · have hc := Decidable.not_not.mp (fun q => hc (z_bt_0.mpr q))
    rw [if_pos hc] at H
    refine m_n 4 (pc' := 18) (L' := [some (.ref 27), some (.int x1), some (.int x2), some (.int x3), none]) (S' := [.long (2 : Int64), .long (0 : Int64), .long x2.toInt64]) (fun _ => rfl) ?_
    refine m_cI 161 3 rfl rfl rfl (A := [.long x2.toInt64, .long (0 : Int64), .long (2 : Int64)]) rfl rfl (Or.inl rfl) (rest := []) rfl rfl rfl ?_
    refine c_inJ x2 (0 : Int32) (2 : Int32) g rfl rfl rfl ?_
    refine m_b (c := z_bt ((0 : Int32) ≤ x2 ∧ x2 ≤ (2 : Int32)) = 0) (pc' := 30) (L' := [some (.ref 27), some (.int x1), some (.int x2), some (.int x3), none]) (S' := []) (pc2 := 24) (L2 := [some (.ref 27), some (.int x1), some (.int x2), some (.int x3), none]) (S2 := []) rfl (fun _ => rfl) (fun hc => ?_) (fun hc => ?_)
    · have hc := z_bt_0.mp hc
      rw [if_neg hc] at H
      refine m_n 1 (pc' := 31) (L' := [some (.ref 27), some (.int x1), some (.int x2), some (.int x3), none]) (S' := [.int (-1 : Int32)]) (fun _ => rfl) ?_
      exact m_r rfl rfl rfl H
    · have hc := Decidable.not_not.mp (fun q => hc (z_bt_0.mpr q))
      rw [if_pos hc] at H
      refine m_n 2 (pc' := 27) (L' := [some (.ref 27), some (.int x1), some (.int x2), some (.int x3), none]) (S' := [.int (48 : Int32), .int x3]) (fun _ => rfl) ?_
      refine m_b (c := x3 ≤ (48 : Int32)) (pc' := 32) (L' := [some (.ref 27), some (.int x1), some (.int x2), some (.int x3), none]) (S' := []) (pc2 := 30) (L2 := [some (.ref 27), some (.int x1), some (.int x2), some (.int x3), none]) (S2 := []) rfl (fun _ => rfl) (fun hc => ?_) (fun hc => ?_)
      · have hc := hc
        rw [if_pos hc] at H
        refine m_n 1 (pc' := 33) (L' := [some (.ref 27), some (.int x1), some (.int x2), some (.int x3), none]) (S' := [.int x3]) (fun _ => rfl) ?_
        refine m_b (c := 0 ≤ x3) (pc' := 39) (L' := [some (.ref 27), some (.int x1), some (.int x2), some (.int x3), none]) (S' := []) (pc2 := 36) (L2 := [some (.ref 27), some (.int x1), some (.int x2), some (.int x3), none]) (S2 := []) rfl (fun _ => rfl) (fun hc => ?_) (fun hc => ?_)
        · have hc := hc
          rw [if_pos hc] at H
          refine m_n 1 (pc' := 40) (L' := [some (.ref 27), some (.int x1), some (.int x2), some (.int x3), none]) (S' := [.ref 27]) (fun _ => rfl) ?_
          refine m_gR (q := 86) rfl (by decide) ?_
          refine m_n 2 (pc' := 45) (L' := [some (.ref 27), some (.int x1), some (.int x2), some (.int x3), none]) (S' := [.int x2, .int x1, .ref 86]) (fun _ => rfl) ?_
          obtain ⟨o1, H⟩ := H
          refine m_is 4 rfl rfl rfl o1 ?_
          refine m_n 1 (pc' := 47) (L' := [some (.ref 27), some (.int x1), some (.int x2), some (.int x3), none]) (S' := [.ref 27]) (fun _ => rfl) ?_
          refine m_gR (q := 87) rfl (by decide) ?_
          refine m_n 2 (pc' := 52) (L' := [some (.ref 27), some (.int x1), some (.int x2), some (.int x3), none]) (S' := [.int x3, .int x1, .ref 87]) (fun _ => rfl) ?_
          obtain ⟨o2, H⟩ := H
          refine m_is 4 rfl rfl rfl o2 ?_
          refine m_n 2 (pc' := 56) (L' := [some (.ref 27), some (.int x1), some (.int x2), some (.int x3), some (.int (0 : Int32))]) (S' := []) (fun _ => rfl) ?_
          exact H
        · have hc := hc
          rw [if_neg hc] at H
          refine m_n 1 (pc' := 38) (L' := [some (.ref 27), some (.int x1), some (.int x2), some (.int x3), none]) (S' := [.int (-14 : Int32)]) (fun _ => rfl) ?_
          exact m_r rfl rfl rfl H
      · have hc := hc
        rw [if_neg hc] at H
        refine m_n 1 (pc' := 31) (L' := [some (.ref 27), some (.int x1), some (.int x2), some (.int x3), none]) (S' := [.int (-1 : Int32)]) (fun _ => rfl) ?_
        exact m_r rfl rfl rfl H
set_option maxRecDepth 20000 in
theorem X_228_56 (y1 : Int32) (y2 : Int32) (y3 : Int32) (y4 : Int32) (g : zG) {Q : Int32 → zG → Prop} (H : if (48 : Int32) ≤ y4 then (Q (1 : Int32) g) else ((0 ≤ (((48 : Int32) * y1) + y4).toInt ∧ (((48 : Int32) * y1) + y4).toInt < 192) ∧ MG z_pI 228 56 [some (.ref 27), some (.int y1), some (.int y2), some (.int y3), some (.int (y4 + (1 : Int32)))] [] (z_up2 g 88 (z_ix (((48 : Int32) * y1) + y4)) (0 : Int32)) Q)) : MG z_pI 228 56 [some (.ref 27), some (.int y1), some (.int y2), some (.int y3), some (.int y4)] [] g Q := by
  refine m_n 2 (pc' := 60) (L' := [some (.ref 27), some (.int y1), some (.int y2), some (.int y3), some (.int y4)]) (S' := [.int (48 : Int32), .int y4]) (fun _ => rfl) ?_
  refine m_b (c := (48 : Int32) ≤ y4) (pc' := 82) (L' := [some (.ref 27), some (.int y1), some (.int y2), some (.int y3), some (.int y4)]) (S' := []) (pc2 := 63) (L2 := [some (.ref 27), some (.int y1), some (.int y2), some (.int y3), some (.int y4)]) (S2 := []) rfl (fun _ => rfl) (fun hc => ?_) (fun hc => ?_)
  · have hc := hc
    rw [if_pos hc] at H
    refine m_n 1 (pc' := 83) (L' := [some (.ref 27), some (.int y1), some (.int y2), some (.int y3), some (.int y4)]) (S' := [.int (1 : Int32)]) (fun _ => rfl) ?_
    exact m_r rfl rfl rfl H
  · have hc := hc
    rw [if_neg hc] at H
    refine m_n 1 (pc' := 64) (L' := [some (.ref 27), some (.int y1), some (.int y2), some (.int y3), some (.int y4)]) (S' := [.ref 27]) (fun _ => rfl) ?_
    refine m_gR (q := 88) rfl (by decide) ?_
    refine m_n 6 (pc' := 75) (L' := [some (.ref 27), some (.int y1), some (.int y2), some (.int y3), some (.int y4)]) (S' := [.int (0 : Int32), .int (((48 : Int32) * y1) + y4), .ref 88]) (fun _ => rfl) ?_
    obtain ⟨o3, H⟩ := H
    refine m_is 192 rfl rfl rfl o3 ?_
    refine m_n 2 (pc' := 56) (L' := [some (.ref 27), some (.int y1), some (.int y2), some (.int y3), some (.int (y4 + (1 : Int32)))]) (S' := []) (fun _ => rfl) ?_
    exact H
set_option maxRecDepth 20000 in
theorem X_229 (x1 : Int32) (x2 : Int32) (x3 : Int32) (g : zG) {Q : Int32 → zG → Prop} (H : if (0 : Int32) ≤ x1 ∧ x1 ≤ (3 : Int32) then ((0 ≤ x1.toInt ∧ x1.toInt < 4) ∧ (if (g 86 (z_ix x1)) = (-4 : Int32) then (Q (-11 : Int32) g) else ((0 ≤ x1.toInt ∧ x1.toInt < 4) ∧ (if (0 : Int32) ≤ x2 ∧ x2 ≤ ((g 87 (z_ix x1)) - (1 : Int32)) then ((0 ≤ x1.toInt ∧ x1.toInt < 4) ∧ (¬ ((g 86 (z_ix x1)) = 0) → 0 ≤ x1.toInt ∧ x1.toInt < 4) ∧ (∀ m7 : Int32, m7 = (if (g 86 (z_ix x1)) = 0 then ((x3 <<< ((24 : Int32) &&& 31)) >>> ((24 : Int32) &&& 31)) else (if (g 86 (z_ix x1)) = (1 : Int32) then ((x3 <<< ((16 : Int32) &&& 31)) >>> ((16 : Int32) &&& 31)) else x3)) → (0 ≤ (((48 : Int32) * x1) + x2).toInt ∧ (((48 : Int32) * x1) + x2).toInt < 192) ∧ Q (1 : Int32) (z_up2 g 88 (z_ix (((48 : Int32) * x1) + x2)) m7))) else (Q (-12 : Int32) g))))) else (Q (-1 : Int32) g)) : MK z_pI 229 [.ref 27, .int x1, .int x2, .int x3] g Q := by
  refine m_K (L := [some (.ref 27), some (.int x1), some (.int x2), some (.int x3)]) rfl ?_
  refine m_n 4 (pc' := 6) (L' := [some (.ref 27), some (.int x1), some (.int x2), some (.int x3)]) (S' := [.long (3 : Int64), .long (0 : Int64), .long x1.toInt64]) (fun _ => rfl) ?_
  refine m_cI 161 3 rfl rfl rfl (A := [.long x1.toInt64, .long (0 : Int64), .long (3 : Int64)]) rfl rfl (Or.inl rfl) (rest := []) rfl rfl rfl ?_
  refine c_inJ x1 (0 : Int32) (3 : Int32) g rfl rfl rfl ?_
  refine m_b (c := z_bt ((0 : Int32) ≤ x1 ∧ x1 ≤ (3 : Int32)) = 0) (pc' := 12) (L' := [some (.ref 27), some (.int x1), some (.int x2), some (.int x3)]) (S' := []) (pc2 := 14) (L2 := [some (.ref 27), some (.int x1), some (.int x2), some (.int x3)]) (S2 := []) rfl (fun _ => rfl) (fun hc => ?_) (fun hc => ?_)
  · have hc := z_bt_0.mp hc
    rw [if_neg hc] at H
    refine m_n 1 (pc' := 13) (L' := [some (.ref 27), some (.int x1), some (.int x2), some (.int x3)]) (S' := [.int (-1 : Int32)]) (fun _ => rfl) ?_
    exact m_r rfl rfl rfl H
  · have hc := Decidable.not_not.mp (fun q => hc (z_bt_0.mpr q))
    rw [if_pos hc] at H
    refine m_n 1 (pc' := 15) (L' := [some (.ref 27), some (.int x1), some (.int x2), some (.int x3)]) (S' := [.ref 27]) (fun _ => rfl) ?_
    refine m_gR (q := 86) rfl (by decide) ?_
    refine m_n 1 (pc' := 19) (L' := [some (.ref 27), some (.int x1), some (.int x2), some (.int x3)]) (S' := [.int x1, .ref 86]) (fun _ => rfl) ?_
    obtain ⟨o1, H⟩ := H
    refine m_ia 4 rfl rfl o1 ?_
    refine m_n 1 (pc' := 22) (L' := [some (.ref 27), some (.int x1), some (.int x2), some (.int x3)]) (S' := [.int (-4 : Int32), .int (g 86 (z_ix x1))]) (fun _ => rfl) ?_
    refine m_b (c := (g 86 (z_ix x1)) = (-4 : Int32)) (pc' := 25) (L' := [some (.ref 27), some (.int x1), some (.int x2), some (.int x3)]) (S' := []) (pc2 := 28) (L2 := [some (.ref 27), some (.int x1), some (.int x2), some (.int x3)]) (S2 := []) rfl (fun _ => rfl) (fun hc => ?_) (fun hc => ?_)
    · have hc := hc
      rw [if_pos hc] at H
      refine m_n 1 (pc' := 27) (L' := [some (.ref 27), some (.int x1), some (.int x2), some (.int x3)]) (S' := [.int (-11 : Int32)]) (fun _ => rfl) ?_
      exact m_r rfl rfl rfl H
    · have hc := hc
      rw [if_neg hc] at H
      refine m_n 4 (pc' := 32) (L' := [some (.ref 27), some (.int x1), some (.int x2), some (.int x3)]) (S' := [.ref 27, .long (0 : Int64), .long x2.toInt64]) (fun _ => rfl) ?_
      refine m_gR (q := 87) rfl (by decide) ?_
      refine m_n 1 (pc' := 36) (L' := [some (.ref 27), some (.int x1), some (.int x2), some (.int x3)]) (S' := [.int x1, .ref 87, .long (0 : Int64), .long x2.toInt64]) (fun _ => rfl) ?_
      obtain ⟨o2, H⟩ := H
      refine m_ia 4 rfl rfl o2 ?_
      refine m_n 3 (pc' := 40) (L' := [some (.ref 27), some (.int x1), some (.int x2), some (.int x3)]) (S' := [.long (((g 87 (z_ix x1)) - (1 : Int32)).toInt64), .long (0 : Int64), .long x2.toInt64]) (fun _ => rfl) ?_
      refine m_cI 161 3 rfl rfl rfl (A := [.long x2.toInt64, .long (0 : Int64), .long (((g 87 (z_ix x1)) - (1 : Int32)).toInt64)]) rfl rfl (Or.inl rfl) (rest := []) rfl rfl rfl ?_
      refine c_inJ x2 (0 : Int32) ((g 87 (z_ix x1)) - (1 : Int32)) g rfl rfl rfl ?_
      refine m_b (c := z_bt ((0 : Int32) ≤ x2 ∧ x2 ≤ ((g 87 (z_ix x1)) - (1 : Int32))) = 0) (pc' := 46) (L' := [some (.ref 27), some (.int x1), some (.int x2), some (.int x3)]) (S' := []) (pc2 := 49) (L2 := [some (.ref 27), some (.int x1), some (.int x2), some (.int x3)]) (S2 := []) rfl (fun _ => rfl) (fun hc => ?_) (fun hc => ?_)
      · have hc := z_bt_0.mp hc
        rw [if_neg hc] at H
        refine m_n 1 (pc' := 48) (L' := [some (.ref 27), some (.int x1), some (.int x2), some (.int x3)]) (S' := [.int (-12 : Int32)]) (fun _ => rfl) ?_
        exact m_r rfl rfl rfl H
      · have hc := Decidable.not_not.mp (fun q => hc (z_bt_0.mpr q))
        rw [if_pos hc] at H
        refine m_n 1 (pc' := 50) (L' := [some (.ref 27), some (.int x1), some (.int x2), some (.int x3)]) (S' := [.ref 27]) (fun _ => rfl) ?_
        refine m_gR (q := 88) rfl (by decide) ?_
        refine m_n 6 (pc' := 60) (L' := [some (.ref 27), some (.int x1), some (.int x2), some (.int x3)]) (S' := [.ref 27, .int (((48 : Int32) * x1) + x2), .ref 88]) (fun _ => rfl) ?_
        refine m_gR (q := 86) rfl (by decide) ?_
        refine m_n 1 (pc' := 64) (L' := [some (.ref 27), some (.int x1), some (.int x2), some (.int x3)]) (S' := [.int x1, .ref 86, .int (((48 : Int32) * x1) + x2), .ref 88]) (fun _ => rfl) ?_
        obtain ⟨o3, H⟩ := H
        refine m_ia 4 rfl rfl o3 ?_
        obtain ⟨o5, H⟩ := H
        obtain ⟨m7, em7⟩ : ∃ m : Int32, m = (if (g 86 (z_ix x1)) = 0 then ((x3 <<< ((24 : Int32) &&& 31)) >>> ((24 : Int32) &&& 31)) else (if (g 86 (z_ix x1)) = (1 : Int32) then ((x3 <<< ((16 : Int32) &&& 31)) >>> ((16 : Int32) &&& 31)) else x3)) := ⟨_, rfl⟩
        have H := H m7 em7
        have hj8 : MG z_pI 229 99 [some (.ref 27), some (.int x1), some (.int x2), some (.int x3)] [.int m7, .int (((48 : Int32) * x1) + x2), .ref 88] g Q := by
          obtain ⟨o9, H⟩ := H
          refine m_is 192 rfl rfl rfl o9 ?_
          refine m_n 1 (pc' := 101) (L' := [some (.ref 27), some (.int x1), some (.int x2), some (.int x3)]) (S' := [.int (1 : Int32)]) (fun _ => rfl) ?_
          exact m_r rfl rfl rfl H
        refine m_b (c := (g 86 (z_ix x1)) = 0) (pc' := 68) (L' := [some (.ref 27), some (.int x1), some (.int x2), some (.int x3)]) (S' := [.int (((48 : Int32) * x1) + x2), .ref 88]) (pc2 := 78) (L2 := [some (.ref 27), some (.int x1), some (.int x2), some (.int x3)]) (S2 := [.int (((48 : Int32) * x1) + x2), .ref 88]) rfl (fun _ => rfl) (fun hc => ?_) (fun hc => ?_)
        · have c4 := hc
          refine m_n 6 (pc' := 99) (L' := [some (.ref 27), some (.int x1), some (.int x2), some (.int x3)]) (S' := [.int ((x3 <<< ((24 : Int32) &&& 31)) >>> ((24 : Int32) &&& 31)), .int (((48 : Int32) * x1) + x2), .ref 88]) (fun _ => rfl) ?_
          rw [(em7.trans (by rw [if_pos c4]) : m7 = ((x3 <<< ((24 : Int32) &&& 31)) >>> ((24 : Int32) &&& 31)))] at hj8
          exact hj8
        · have c4 := hc
          refine m_n 1 (pc' := 79) (L' := [some (.ref 27), some (.int x1), some (.int x2), some (.int x3)]) (S' := [.ref 27, .int (((48 : Int32) * x1) + x2), .ref 88]) (fun _ => rfl) ?_
          refine m_gR (q := 86) rfl (by decide) ?_
          refine m_n 1 (pc' := 83) (L' := [some (.ref 27), some (.int x1), some (.int x2), some (.int x3)]) (S' := [.int x1, .ref 86, .int (((48 : Int32) * x1) + x2), .ref 88]) (fun _ => rfl) ?_
          refine m_ia 4 rfl rfl (o5 c4) ?_
          refine m_n 1 (pc' := 85) (L' := [some (.ref 27), some (.int x1), some (.int x2), some (.int x3)]) (S' := [.int (1 : Int32), .int (g 86 (z_ix x1)), .int (((48 : Int32) * x1) + x2), .ref 88]) (fun _ => rfl) ?_
          refine m_b (c := (g 86 (z_ix x1)) = (1 : Int32)) (pc' := 88) (L' := [some (.ref 27), some (.int x1), some (.int x2), some (.int x3)]) (S' := [.int (((48 : Int32) * x1) + x2), .ref 88]) (pc2 := 98) (L2 := [some (.ref 27), some (.int x1), some (.int x2), some (.int x3)]) (S2 := [.int (((48 : Int32) * x1) + x2), .ref 88]) rfl (fun _ => rfl) (fun hc => ?_) (fun hc => ?_)
          · have c6 := hc
            refine m_n 6 (pc' := 99) (L' := [some (.ref 27), some (.int x1), some (.int x2), some (.int x3)]) (S' := [.int ((x3 <<< ((16 : Int32) &&& 31)) >>> ((16 : Int32) &&& 31)), .int (((48 : Int32) * x1) + x2), .ref 88]) (fun _ => rfl) ?_
            rw [(em7.trans (by rw [if_neg c4, if_pos c6]) : m7 = ((x3 <<< ((16 : Int32) &&& 31)) >>> ((16 : Int32) &&& 31)))] at hj8
            exact hj8
          · have c6 := hc
            refine m_n 1 (pc' := 99) (L' := [some (.ref 27), some (.int x1), some (.int x2), some (.int x3)]) (S' := [.int x3, .int (((48 : Int32) * x1) + x2), .ref 88]) (fun _ => rfl) ?_
            rw [(em7.trans (by rw [if_neg c4, if_neg c6]) : m7 = x3)] at hj8
            exact hj8
set_option maxRecDepth 20000 in
theorem X_230 (x1 : Int32) (x2 : Int32) (x3 : Int32) (x4 : Int32) (g : zG) {Q : Int32 → zG → Prop} (H : if (0 : Int32) ≤ x1 ∧ x1 ≤ ((g 27 1) - (1 : Int32)) then (if (0 : Int32) ≤ x2 ∧ x2 ≤ (3 : Int32) then (if (0 : Int32) ≤ x3 ∧ x3 ≤ (2 : Int32) then (MG z_pI 230 44 [some (.ref 27), some (.int x1), some (.int x2), some (.int x3), some (.int x4), some (.int (0 : Int32)), some (.int (12 : Int32)), some (.int (0 : Int32))] [] g Q) else (Q (-1 : Int32) g)) else (Q (-1 : Int32) g)) else (Q (-1 : Int32) g)) : MK z_pI 230 [.ref 27, .int x1, .int x2, .int x3, .int x4] g Q := by
  refine m_K (L := [some (.ref 27), some (.int x1), some (.int x2), some (.int x3), some (.int x4), none, none, none]) rfl ?_
  refine m_n 2 (pc' := 2) (L' := [some (.ref 27), some (.int x1), some (.int x2), some (.int x3), some (.int x4), none, none, none]) (S' := [.int x1, .ref 27]) (fun _ => rfl) ?_
  refine m_cI 163 2 rfl rfl rfl (A := [.ref 27, .int x1]) rfl rfl (Or.inr ⟨rfl, _, rfl⟩) (rest := []) rfl rfl rfl ?_
  refine X_163 x1 g ?_
  refine m_b (c := z_bt ((0 : Int32) ≤ x1 ∧ x1 ≤ ((g 27 1) - (1 : Int32))) = 0) (pc' := 32) (L' := [some (.ref 27), some (.int x1), some (.int x2), some (.int x3), some (.int x4), none, none, none]) (S' := []) (pc2 := 8) (L2 := [some (.ref 27), some (.int x1), some (.int x2), some (.int x3), some (.int x4), none, none, none]) (S2 := []) rfl (fun _ => rfl) (fun hc => ?_) (fun hc => ?_)
  · have hc := z_bt_0.mp hc
    rw [if_neg hc] at H
    refine m_n 1 (pc' := 33) (L' := [some (.ref 27), some (.int x1), some (.int x2), some (.int x3), some (.int x4), none, none, none]) (S' := [.int (-1 : Int32)]) (fun _ => rfl) ?_
    exact m_r rfl rfl rfl H
  · have hc := Decidable.not_not.mp (fun q => hc (z_bt_0.mpr q))
    rw [if_pos hc] at H
    refine m_n 4 (pc' := 14) (L' := [some (.ref 27), some (.int x1), some (.int x2), some (.int x3), some (.int x4), none, none, none]) (S' := [.long (3 : Int64), .long (0 : Int64), .long x2.toInt64]) (fun _ => rfl) ?_
    refine m_cI 161 3 rfl rfl rfl (A := [.long x2.toInt64, .long (0 : Int64), .long (3 : Int64)]) rfl rfl (Or.inl rfl) (rest := []) rfl rfl rfl ?_
    refine c_inJ x2 (0 : Int32) (3 : Int32) g rfl rfl rfl ?_
    refine m_b (c := z_bt ((0 : Int32) ≤ x2 ∧ x2 ≤ (3 : Int32)) = 0) (pc' := 32) (L' := [some (.ref 27), some (.int x1), some (.int x2), some (.int x3), some (.int x4), none, none, none]) (S' := []) (pc2 := 20) (L2 := [some (.ref 27), some (.int x1), some (.int x2), some (.int x3), some (.int x4), none, none, none]) (S2 := []) rfl (fun _ => rfl) (fun hc => ?_) (fun hc => ?_)
    · have hc := z_bt_0.mp hc
      rw [if_neg hc] at H
      refine m_n 1 (pc' := 33) (L' := [some (.ref 27), some (.int x1), some (.int x2), some (.int x3), some (.int x4), none, none, none]) (S' := [.int (-1 : Int32)]) (fun _ => rfl) ?_
      exact m_r rfl rfl rfl H
    · have hc := Decidable.not_not.mp (fun q => hc (z_bt_0.mpr q))
      rw [if_pos hc] at H
      refine m_n 4 (pc' := 26) (L' := [some (.ref 27), some (.int x1), some (.int x2), some (.int x3), some (.int x4), none, none, none]) (S' := [.long (2 : Int64), .long (0 : Int64), .long x3.toInt64]) (fun _ => rfl) ?_
      refine m_cI 161 3 rfl rfl rfl (A := [.long x3.toInt64, .long (0 : Int64), .long (2 : Int64)]) rfl rfl (Or.inl rfl) (rest := []) rfl rfl rfl ?_
      refine c_inJ x3 (0 : Int32) (2 : Int32) g rfl rfl rfl ?_
      refine m_b (c := z_bt ((0 : Int32) ≤ x3 ∧ x3 ≤ (2 : Int32)) = 0) (pc' := 32) (L' := [some (.ref 27), some (.int x1), some (.int x2), some (.int x3), some (.int x4), none, none, none]) (S' := []) (pc2 := 34) (L2 := [some (.ref 27), some (.int x1), some (.int x2), some (.int x3), some (.int x4), none, none, none]) (S2 := []) rfl (fun _ => rfl) (fun hc => ?_) (fun hc => ?_)
      · have hc := z_bt_0.mp hc
        rw [if_neg hc] at H
        refine m_n 1 (pc' := 33) (L' := [some (.ref 27), some (.int x1), some (.int x2), some (.int x3), some (.int x4), none, none, none]) (S' := [.int (-1 : Int32)]) (fun _ => rfl) ?_
        exact m_r rfl rfl rfl H
      · have hc := Decidable.not_not.mp (fun q => hc (z_bt_0.mpr q))
        rw [if_pos hc] at H
        refine m_n 6 (pc' := 44) (L' := [some (.ref 27), some (.int x1), some (.int x2), some (.int x3), some (.int x4), some (.int (0 : Int32)), some (.int (12 : Int32)), some (.int (0 : Int32))]) (S' := []) (fun _ => rfl) ?_
        exact H
set_option maxRecDepth 20000 in
theorem X_230_44 (y1 : Int32) (y2 : Int32) (y3 : Int32) (y4 : Int32) (y5 : Int32) (y6 : Int32) (y7 : Int32) (g : zG) {Q : Int32 → zG → Prop} (H : if (12 : Int32) ≤ y7 then (MG z_pI 230 168 [some (.ref 27), some (.int y1), some (.int y2), some (.int y3), some (.int y4), some (.int y5), some (.int y6), some (.int (0 : Int32))] [] g Q) else (if y5 = 0 then ((0 ≤ y2.toInt ∧ y2.toInt < 4) ∧ (if (g 86 (z_ix y2)) = (-4 : Int32) then (if (1 : Int32) ≤ 0 then ((0 ≤ ((((48 : Int32) * y2) + y4) + y7).toInt ∧ ((((48 : Int32) * y2) + y4) + y7).toInt < 192) ∧ (if (0 : Int32) ≤ (g 88 (z_ix ((((48 : Int32) * y2) + y4) + y7))) ∧ (g 88 (z_ix ((((48 : Int32) * y2) + y4) + y7))) ≤ (999 : Int32) then (MG z_pI 230 44 [some (.ref 27), some (.int y1), some (.int y2), some (.int y3), some (.int y4), some (.int (1 : Int32)), some (.int y6), some (.int (y7 + (1 : Int32)))] [] g Q) else (Q ((-20 : Int32) - y7) g))) else (MG z_pI 230 44 [some (.ref 27), some (.int y1), some (.int y2), some (.int y3), some (.int y4), some (.int (1 : Int32)), some (.int y7), some (.int (y7 + (1 : Int32)))] [] g Q)) else ((0 ≤ y2.toInt ∧ y2.toInt < 4) ∧ (if (g 86 (z_ix y2)) = y3 then ((0 ≤ y2.toInt ∧ y2.toInt < 4) ∧ (∀ m6 : Int32, m6 = (if (0 : Int64) ≤ (y4.toInt64 + y7.toInt64) ∧ (y4.toInt64 + y7.toInt64) ≤ ((g 87 (z_ix y2)) - (1 : Int32)).toInt64 then (0 : Int32) else (2 : Int32)) → if m6 ≤ 0 then ((0 ≤ ((((48 : Int32) * y2) + y4) + y7).toInt ∧ ((((48 : Int32) * y2) + y4) + y7).toInt < 192) ∧ (if (0 : Int32) ≤ (g 88 (z_ix ((((48 : Int32) * y2) + y4) + y7))) ∧ (g 88 (z_ix ((((48 : Int32) * y2) + y4) + y7))) ≤ (999 : Int32) then (MG z_pI 230 44 [some (.ref 27), some (.int y1), some (.int y2), some (.int y3), some (.int y4), some (.int m6), some (.int y6), some (.int (y7 + (1 : Int32)))] [] g Q) else (Q ((-20 : Int32) - y7) g))) else (MG z_pI 230 44 [some (.ref 27), some (.int y1), some (.int y2), some (.int y3), some (.int y4), some (.int m6), some (.int y7), some (.int (y7 + (1 : Int32)))] [] g Q))) else (if (3 : Int32) ≤ 0 then ((0 ≤ ((((48 : Int32) * y2) + y4) + y7).toInt ∧ ((((48 : Int32) * y2) + y4) + y7).toInt < 192) ∧ (if (0 : Int32) ≤ (g 88 (z_ix ((((48 : Int32) * y2) + y4) + y7))) ∧ (g 88 (z_ix ((((48 : Int32) * y2) + y4) + y7))) ≤ (999 : Int32) then (MG z_pI 230 44 [some (.ref 27), some (.int y1), some (.int y2), some (.int y3), some (.int y4), some (.int (3 : Int32)), some (.int y6), some (.int (y7 + (1 : Int32)))] [] g Q) else (Q ((-20 : Int32) - y7) g))) else (MG z_pI 230 44 [some (.ref 27), some (.int y1), some (.int y2), some (.int y3), some (.int y4), some (.int (3 : Int32)), some (.int y7), some (.int (y7 + (1 : Int32)))] [] g Q)))))) else (MG z_pI 230 168 [some (.ref 27), some (.int y1), some (.int y2), some (.int y3), some (.int y4), some (.int y5), some (.int y6), some (.int (0 : Int32))] [] g Q))) : MG z_pI 230 44 [some (.ref 27), some (.int y1), some (.int y2), some (.int y3), some (.int y4), some (.int y5), some (.int y6), some (.int y7)] [] g Q := by
  refine m_n 2 (pc' := 48) (L' := [some (.ref 27), some (.int y1), some (.int y2), some (.int y3), some (.int y4), some (.int y5), some (.int y6), some (.int y7)]) (S' := [.int (12 : Int32), .int y7]) (fun _ => rfl) ?_
  refine m_b (c := (12 : Int32) ≤ y7) (pc' := 165) (L' := [some (.ref 27), some (.int y1), some (.int y2), some (.int y3), some (.int y4), some (.int y5), some (.int y6), some (.int y7)]) (S' := []) (pc2 := 51) (L2 := [some (.ref 27), some (.int y1), some (.int y2), some (.int y3), some (.int y4), some (.int y5), some (.int y6), some (.int y7)]) (S2 := []) rfl (fun _ => rfl) (fun hc => ?_) (fun hc => ?_)
  · have hc := hc
    rw [if_pos hc] at H
    refine m_n 2 (pc' := 168) (L' := [some (.ref 27), some (.int y1), some (.int y2), some (.int y3), some (.int y4), some (.int y5), some (.int y6), some (.int (0 : Int32))]) (S' := []) (fun _ => rfl) ?_
    exact H
  · have hc := hc
    rw [if_neg hc] at H
    refine m_n 1 (pc' := 53) (L' := [some (.ref 27), some (.int y1), some (.int y2), some (.int y3), some (.int y4), some (.int y5), some (.int y6), some (.int y7)]) (S' := [.int y5]) (fun _ => rfl) ?_
    refine m_b (c := y5 = 0) (pc' := 56) (L' := [some (.ref 27), some (.int y1), some (.int y2), some (.int y3), some (.int y4), some (.int y5), some (.int y6), some (.int y7)]) (S' := []) (pc2 := 165) (L2 := [some (.ref 27), some (.int y1), some (.int y2), some (.int y3), some (.int y4), some (.int y5), some (.int y6), some (.int y7)]) (S2 := []) rfl (fun _ => rfl) (fun hc => ?_) (fun hc => ?_)
    · have hc := hc
      rw [if_pos hc] at H
      refine m_n 1 (pc' := 57) (L' := [some (.ref 27), some (.int y1), some (.int y2), some (.int y3), some (.int y4), some (.int y5), some (.int y6), some (.int y7)]) (S' := [.ref 27]) (fun _ => rfl) ?_
      refine m_gR (q := 86) rfl (by decide) ?_
      refine m_n 1 (pc' := 61) (L' := [some (.ref 27), some (.int y1), some (.int y2), some (.int y3), some (.int y4), some (.int y5), some (.int y6), some (.int y7)]) (S' := [.int y2, .ref 86]) (fun _ => rfl) ?_
      obtain ⟨o1, H⟩ := H
      refine m_ia 4 rfl rfl o1 ?_
      refine m_n 1 (pc' := 64) (L' := [some (.ref 27), some (.int y1), some (.int y2), some (.int y3), some (.int y4), some (.int y5), some (.int y6), some (.int y7)]) (S' := [.int (-4 : Int32), .int (g 86 (z_ix y2))]) (fun _ => rfl) ?_
      refine m_b (c := (g 86 (z_ix y2)) = (-4 : Int32)) (pc' := 67) (L' := [some (.ref 27), some (.int y1), some (.int y2), some (.int y3), some (.int y4), some (.int y5), some (.int y6), some (.int y7)]) (S' := []) (pc2 := 71) (L2 := [some (.ref 27), some (.int y1), some (.int y2), some (.int y3), some (.int y4), some (.int y5), some (.int y6), some (.int y7)]) (S2 := []) rfl (fun _ => rfl) (fun hc => ?_) (fun hc => ?_)
      · have hc := hc
        rw [if_pos hc] at H
        refine m_n 4 (pc' := 117) (L' := [some (.ref 27), some (.int y1), some (.int y2), some (.int y3), some (.int y4), some (.int (1 : Int32)), some (.int y6), some (.int y7)]) (S' := [.int (1 : Int32)]) (fun _ => rfl) ?_
        refine m_b (c := (1 : Int32) ≤ 0) (pc' := 127) (L' := [some (.ref 27), some (.int y1), some (.int y2), some (.int y3), some (.int y4), some (.int (1 : Int32)), some (.int y6), some (.int y7)]) (S' := []) (pc2 := 120) (L2 := [some (.ref 27), some (.int y1), some (.int y2), some (.int y3), some (.int y4), some (.int (1 : Int32)), some (.int y6), some (.int y7)]) (S2 := []) rfl (fun _ => rfl) (fun hc => ?_) (fun hc => ?_)
        · have hc := hc
          rw [if_pos hc] at H
          refine m_n 1 (pc' := 128) (L' := [some (.ref 27), some (.int y1), some (.int y2), some (.int y3), some (.int y4), some (.int (1 : Int32)), some (.int y6), some (.int y7)]) (S' := [.ref 27]) (fun _ => rfl) ?_
          refine m_gR (q := 88) rfl (by decide) ?_
          refine m_n 7 (pc' := 141) (L' := [some (.ref 27), some (.int y1), some (.int y2), some (.int y3), some (.int y4), some (.int (1 : Int32)), some (.int y6), some (.int y7)]) (S' := [.int ((((48 : Int32) * y2) + y4) + y7), .ref 88]) (fun _ => rfl) ?_
          obtain ⟨o2, H⟩ := H
          refine m_ia 192 rfl rfl o2 ?_
          refine m_n 3 (pc' := 147) (L' := [some (.ref 27), some (.int y1), some (.int y2), some (.int y3), some (.int y4), some (.int (1 : Int32)), some (.int y6), some (.int y7)]) (S' := [.long (999 : Int64), .long (0 : Int64), .long ((g 88 (z_ix ((((48 : Int32) * y2) + y4) + y7))).toInt64)]) (fun _ => rfl) ?_
          refine m_cI 161 3 rfl rfl rfl (A := [.long ((g 88 (z_ix ((((48 : Int32) * y2) + y4) + y7))).toInt64), .long (0 : Int64), .long (999 : Int64)]) rfl rfl (Or.inl rfl) (rest := []) rfl rfl rfl ?_
          refine c_inJ (g 88 (z_ix ((((48 : Int32) * y2) + y4) + y7))) (0 : Int32) (999 : Int32) g rfl rfl rfl ?_
          refine m_b (c := z_bt ((0 : Int32) ≤ (g 88 (z_ix ((((48 : Int32) * y2) + y4) + y7))) ∧ (g 88 (z_ix ((((48 : Int32) * y2) + y4) + y7))) ≤ (999 : Int32)) = 0) (pc' := 153) (L' := [some (.ref 27), some (.int y1), some (.int y2), some (.int y3), some (.int y4), some (.int (1 : Int32)), some (.int y6), some (.int y7)]) (S' := []) (pc2 := 159) (L2 := [some (.ref 27), some (.int y1), some (.int y2), some (.int y3), some (.int y4), some (.int (1 : Int32)), some (.int y6), some (.int y7)]) (S2 := []) rfl (fun _ => rfl) (fun hc => ?_) (fun hc => ?_)
          · have hc := z_bt_0.mp hc
            rw [if_neg hc] at H
            refine m_n 3 (pc' := 158) (L' := [some (.ref 27), some (.int y1), some (.int y2), some (.int y3), some (.int y4), some (.int (1 : Int32)), some (.int y6), some (.int y7)]) (S' := [.int ((-20 : Int32) - y7)]) (fun _ => rfl) ?_
            exact m_r rfl rfl rfl H
          · have hc := Decidable.not_not.mp (fun q => hc (z_bt_0.mpr q))
            rw [if_pos hc] at H
            refine m_n 2 (pc' := 44) (L' := [some (.ref 27), some (.int y1), some (.int y2), some (.int y3), some (.int y4), some (.int (1 : Int32)), some (.int y6), some (.int (y7 + (1 : Int32)))]) (S' := []) (fun _ => rfl) ?_
            exact H
        · have hc := hc
          rw [if_neg hc] at H
          refine m_n 5 (pc' := 44) (L' := [some (.ref 27), some (.int y1), some (.int y2), some (.int y3), some (.int y4), some (.int (1 : Int32)), some (.int y7), some (.int (y7 + (1 : Int32)))]) (S' := []) (fun _ => rfl) ?_
          exact H
      · have hc := hc
        rw [if_neg hc] at H
        refine m_n 1 (pc' := 72) (L' := [some (.ref 27), some (.int y1), some (.int y2), some (.int y3), some (.int y4), some (.int y5), some (.int y6), some (.int y7)]) (S' := [.ref 27]) (fun _ => rfl) ?_
        refine m_gR (q := 86) rfl (by decide) ?_
        refine m_n 1 (pc' := 76) (L' := [some (.ref 27), some (.int y1), some (.int y2), some (.int y3), some (.int y4), some (.int y5), some (.int y6), some (.int y7)]) (S' := [.int y2, .ref 86]) (fun _ => rfl) ?_
        obtain ⟨o3, H⟩ := H
        refine m_ia 4 rfl rfl o3 ?_
        refine m_n 1 (pc' := 78) (L' := [some (.ref 27), some (.int y1), some (.int y2), some (.int y3), some (.int y4), some (.int y5), some (.int y6), some (.int y7)]) (S' := [.int y3, .int (g 86 (z_ix y2))]) (fun _ => rfl) ?_
        refine m_b (c := (g 86 (z_ix y2)) = y3) (pc' := 85) (L' := [some (.ref 27), some (.int y1), some (.int y2), some (.int y3), some (.int y4), some (.int y5), some (.int y6), some (.int y7)]) (S' := []) (pc2 := 81) (L2 := [some (.ref 27), some (.int y1), some (.int y2), some (.int y3), some (.int y4), some (.int y5), some (.int y6), some (.int y7)]) (S2 := []) rfl (fun _ => rfl) (fun hc => ?_) (fun hc => ?_)
        · have hc := hc
          rw [if_pos hc] at H
          refine m_n 7 (pc' := 94) (L' := [some (.ref 27), some (.int y1), some (.int y2), some (.int y3), some (.int y4), some (.int y5), some (.int y6), some (.int y7)]) (S' := [.ref 27, .long (0 : Int64), .long (y4.toInt64 + y7.toInt64)]) (fun _ => rfl) ?_
          refine m_gR (q := 87) rfl (by decide) ?_
          refine m_n 1 (pc' := 98) (L' := [some (.ref 27), some (.int y1), some (.int y2), some (.int y3), some (.int y4), some (.int y5), some (.int y6), some (.int y7)]) (S' := [.int y2, .ref 87, .long (0 : Int64), .long (y4.toInt64 + y7.toInt64)]) (fun _ => rfl) ?_
          obtain ⟨o4, H⟩ := H
          refine m_ia 4 rfl rfl o4 ?_
          refine m_n 3 (pc' := 102) (L' := [some (.ref 27), some (.int y1), some (.int y2), some (.int y3), some (.int y4), some (.int y5), some (.int y6), some (.int y7)]) (S' := [.long (((g 87 (z_ix y2)) - (1 : Int32)).toInt64), .long (0 : Int64), .long (y4.toInt64 + y7.toInt64)]) (fun _ => rfl) ?_
          refine m_cI 161 3 rfl rfl rfl (A := [.long (y4.toInt64 + y7.toInt64), .long (0 : Int64), .long (((g 87 (z_ix y2)) - (1 : Int32)).toInt64)]) rfl rfl (Or.inl rfl) (rest := []) rfl rfl rfl ?_
          refine c_in (y4.toInt64 + y7.toInt64) (0 : Int64) (((g 87 (z_ix y2)) - (1 : Int32)).toInt64) g ?_
          obtain ⟨m6, em6⟩ : ∃ m : Int32, m = (if (0 : Int64) ≤ (y4.toInt64 + y7.toInt64) ∧ (y4.toInt64 + y7.toInt64) ≤ ((g 87 (z_ix y2)) - (1 : Int32)).toInt64 then (0 : Int32) else (2 : Int32)) := ⟨_, rfl⟩
          have H := H m6 em6
          have hj7 : MG z_pI 230 113 [some (.ref 27), some (.int y1), some (.int y2), some (.int y3), some (.int y4), some (.int y5), some (.int y6), some (.int y7)] [.int m6] g Q := by
            refine m_n 2 (pc' := 117) (L' := [some (.ref 27), some (.int y1), some (.int y2), some (.int y3), some (.int y4), some (.int m6), some (.int y6), some (.int y7)]) (S' := [.int m6]) (fun _ => rfl) ?_
            refine m_b (c := m6 ≤ 0) (pc' := 127) (L' := [some (.ref 27), some (.int y1), some (.int y2), some (.int y3), some (.int y4), some (.int m6), some (.int y6), some (.int y7)]) (S' := []) (pc2 := 120) (L2 := [some (.ref 27), some (.int y1), some (.int y2), some (.int y3), some (.int y4), some (.int m6), some (.int y6), some (.int y7)]) (S2 := []) rfl (fun _ => rfl) (fun hc => ?_) (fun hc => ?_)
            · have hc := hc
              rw [if_pos hc] at H
              refine m_n 1 (pc' := 128) (L' := [some (.ref 27), some (.int y1), some (.int y2), some (.int y3), some (.int y4), some (.int m6), some (.int y6), some (.int y7)]) (S' := [.ref 27]) (fun _ => rfl) ?_
              refine m_gR (q := 88) rfl (by decide) ?_
              refine m_n 7 (pc' := 141) (L' := [some (.ref 27), some (.int y1), some (.int y2), some (.int y3), some (.int y4), some (.int m6), some (.int y6), some (.int y7)]) (S' := [.int ((((48 : Int32) * y2) + y4) + y7), .ref 88]) (fun _ => rfl) ?_
              obtain ⟨o8, H⟩ := H
              refine m_ia 192 rfl rfl o8 ?_
              refine m_n 3 (pc' := 147) (L' := [some (.ref 27), some (.int y1), some (.int y2), some (.int y3), some (.int y4), some (.int m6), some (.int y6), some (.int y7)]) (S' := [.long (999 : Int64), .long (0 : Int64), .long ((g 88 (z_ix ((((48 : Int32) * y2) + y4) + y7))).toInt64)]) (fun _ => rfl) ?_
              refine m_cI 161 3 rfl rfl rfl (A := [.long ((g 88 (z_ix ((((48 : Int32) * y2) + y4) + y7))).toInt64), .long (0 : Int64), .long (999 : Int64)]) rfl rfl (Or.inl rfl) (rest := []) rfl rfl rfl ?_
              refine c_inJ (g 88 (z_ix ((((48 : Int32) * y2) + y4) + y7))) (0 : Int32) (999 : Int32) g rfl rfl rfl ?_
              refine m_b (c := z_bt ((0 : Int32) ≤ (g 88 (z_ix ((((48 : Int32) * y2) + y4) + y7))) ∧ (g 88 (z_ix ((((48 : Int32) * y2) + y4) + y7))) ≤ (999 : Int32)) = 0) (pc' := 153) (L' := [some (.ref 27), some (.int y1), some (.int y2), some (.int y3), some (.int y4), some (.int m6), some (.int y6), some (.int y7)]) (S' := []) (pc2 := 159) (L2 := [some (.ref 27), some (.int y1), some (.int y2), some (.int y3), some (.int y4), some (.int m6), some (.int y6), some (.int y7)]) (S2 := []) rfl (fun _ => rfl) (fun hc => ?_) (fun hc => ?_)
              · have hc := z_bt_0.mp hc
                rw [if_neg hc] at H
                refine m_n 3 (pc' := 158) (L' := [some (.ref 27), some (.int y1), some (.int y2), some (.int y3), some (.int y4), some (.int m6), some (.int y6), some (.int y7)]) (S' := [.int ((-20 : Int32) - y7)]) (fun _ => rfl) ?_
                exact m_r rfl rfl rfl H
              · have hc := Decidable.not_not.mp (fun q => hc (z_bt_0.mpr q))
                rw [if_pos hc] at H
                refine m_n 2 (pc' := 44) (L' := [some (.ref 27), some (.int y1), some (.int y2), some (.int y3), some (.int y4), some (.int m6), some (.int y6), some (.int (y7 + (1 : Int32)))]) (S' := []) (fun _ => rfl) ?_
                exact H
            · have hc := hc
              rw [if_neg hc] at H
              refine m_n 5 (pc' := 44) (L' := [some (.ref 27), some (.int y1), some (.int y2), some (.int y3), some (.int y4), some (.int m6), some (.int y7), some (.int (y7 + (1 : Int32)))]) (S' := []) (fun _ => rfl) ?_
              exact H
          refine m_b (c := z_bt ((0 : Int64) ≤ (y4.toInt64 + y7.toInt64) ∧ (y4.toInt64 + y7.toInt64) ≤ ((g 87 (z_ix y2)) - (1 : Int32)).toInt64) = 0) (pc' := 108) (L' := [some (.ref 27), some (.int y1), some (.int y2), some (.int y3), some (.int y4), some (.int y5), some (.int y6), some (.int y7)]) (S' := []) (pc2 := 112) (L2 := [some (.ref 27), some (.int y1), some (.int y2), some (.int y3), some (.int y4), some (.int y5), some (.int y6), some (.int y7)]) (S2 := []) rfl (fun _ => rfl) (fun hc => ?_) (fun hc => ?_)
          · have c5 := z_bt_0.mp hc
            refine m_n 2 (pc' := 113) (L' := [some (.ref 27), some (.int y1), some (.int y2), some (.int y3), some (.int y4), some (.int y5), some (.int y6), some (.int y7)]) (S' := [.int (2 : Int32)]) (fun _ => rfl) ?_
            rw [(em6.trans (by rw [if_neg c5]) : m6 = (2 : Int32))] at hj7
            exact hj7
          · have c5 := Decidable.not_not.mp (fun q => hc (z_bt_0.mpr q))
            refine m_n 1 (pc' := 113) (L' := [some (.ref 27), some (.int y1), some (.int y2), some (.int y3), some (.int y4), some (.int y5), some (.int y6), some (.int y7)]) (S' := [.int (0 : Int32)]) (fun _ => rfl) ?_
            rw [(em6.trans (by rw [if_pos c5]) : m6 = (0 : Int32))] at hj7
            exact hj7
        · have hc := hc
          rw [if_neg hc] at H
          refine m_n 4 (pc' := 117) (L' := [some (.ref 27), some (.int y1), some (.int y2), some (.int y3), some (.int y4), some (.int (3 : Int32)), some (.int y6), some (.int y7)]) (S' := [.int (3 : Int32)]) (fun _ => rfl) ?_
          refine m_b (c := (3 : Int32) ≤ 0) (pc' := 127) (L' := [some (.ref 27), some (.int y1), some (.int y2), some (.int y3), some (.int y4), some (.int (3 : Int32)), some (.int y6), some (.int y7)]) (S' := []) (pc2 := 120) (L2 := [some (.ref 27), some (.int y1), some (.int y2), some (.int y3), some (.int y4), some (.int (3 : Int32)), some (.int y6), some (.int y7)]) (S2 := []) rfl (fun _ => rfl) (fun hc => ?_) (fun hc => ?_)
          · have hc := hc
            rw [if_pos hc] at H
            refine m_n 1 (pc' := 128) (L' := [some (.ref 27), some (.int y1), some (.int y2), some (.int y3), some (.int y4), some (.int (3 : Int32)), some (.int y6), some (.int y7)]) (S' := [.ref 27]) (fun _ => rfl) ?_
            refine m_gR (q := 88) rfl (by decide) ?_
            refine m_n 7 (pc' := 141) (L' := [some (.ref 27), some (.int y1), some (.int y2), some (.int y3), some (.int y4), some (.int (3 : Int32)), some (.int y6), some (.int y7)]) (S' := [.int ((((48 : Int32) * y2) + y4) + y7), .ref 88]) (fun _ => rfl) ?_
            obtain ⟨o9, H⟩ := H
            refine m_ia 192 rfl rfl o9 ?_
            refine m_n 3 (pc' := 147) (L' := [some (.ref 27), some (.int y1), some (.int y2), some (.int y3), some (.int y4), some (.int (3 : Int32)), some (.int y6), some (.int y7)]) (S' := [.long (999 : Int64), .long (0 : Int64), .long ((g 88 (z_ix ((((48 : Int32) * y2) + y4) + y7))).toInt64)]) (fun _ => rfl) ?_
            refine m_cI 161 3 rfl rfl rfl (A := [.long ((g 88 (z_ix ((((48 : Int32) * y2) + y4) + y7))).toInt64), .long (0 : Int64), .long (999 : Int64)]) rfl rfl (Or.inl rfl) (rest := []) rfl rfl rfl ?_
            refine c_inJ (g 88 (z_ix ((((48 : Int32) * y2) + y4) + y7))) (0 : Int32) (999 : Int32) g rfl rfl rfl ?_
            refine m_b (c := z_bt ((0 : Int32) ≤ (g 88 (z_ix ((((48 : Int32) * y2) + y4) + y7))) ∧ (g 88 (z_ix ((((48 : Int32) * y2) + y4) + y7))) ≤ (999 : Int32)) = 0) (pc' := 153) (L' := [some (.ref 27), some (.int y1), some (.int y2), some (.int y3), some (.int y4), some (.int (3 : Int32)), some (.int y6), some (.int y7)]) (S' := []) (pc2 := 159) (L2 := [some (.ref 27), some (.int y1), some (.int y2), some (.int y3), some (.int y4), some (.int (3 : Int32)), some (.int y6), some (.int y7)]) (S2 := []) rfl (fun _ => rfl) (fun hc => ?_) (fun hc => ?_)
            · have hc := z_bt_0.mp hc
              rw [if_neg hc] at H
              refine m_n 3 (pc' := 158) (L' := [some (.ref 27), some (.int y1), some (.int y2), some (.int y3), some (.int y4), some (.int (3 : Int32)), some (.int y6), some (.int y7)]) (S' := [.int ((-20 : Int32) - y7)]) (fun _ => rfl) ?_
              exact m_r rfl rfl rfl H
            · have hc := Decidable.not_not.mp (fun q => hc (z_bt_0.mpr q))
              rw [if_pos hc] at H
              refine m_n 2 (pc' := 44) (L' := [some (.ref 27), some (.int y1), some (.int y2), some (.int y3), some (.int y4), some (.int (3 : Int32)), some (.int y6), some (.int (y7 + (1 : Int32)))]) (S' := []) (fun _ => rfl) ?_
              exact H
          · have hc := hc
            rw [if_neg hc] at H
            refine m_n 5 (pc' := 44) (L' := [some (.ref 27), some (.int y1), some (.int y2), some (.int y3), some (.int y4), some (.int (3 : Int32)), some (.int y7), some (.int (y7 + (1 : Int32)))]) (S' := []) (fun _ => rfl) ?_
            exact H
    · have hc := hc
      rw [if_neg hc] at H
      refine m_n 2 (pc' := 168) (L' := [some (.ref 27), some (.int y1), some (.int y2), some (.int y3), some (.int y4), some (.int y5), some (.int y6), some (.int (0 : Int32))]) (S' := []) (fun _ => rfl) ?_
      exact H
set_option maxRecDepth 20000 in
theorem X_230_168 (y1 : Int32) (y2 : Int32) (y3 : Int32) (y4 : Int32) (y5 : Int32) (y6 : Int32) (y7 : Int32) (g : zG) {Q : Int32 → zG → Prop} (H : if y6 ≤ y7 then (Q y6 (z_up2 g 27 76 y5)) else ((0 ≤ ((((48 : Int32) * y2) + y4) + y7).toInt ∧ ((((48 : Int32) * y2) + y4) + y7).toInt < 192) ∧ (0 ≤ (((12 : Int32) * y1) + y7).toInt ∧ (((12 : Int32) * y1) + y7).toInt < 72) ∧ MG z_pI 230 168 [some (.ref 27), some (.int y1), some (.int y2), some (.int y3), some (.int y4), some (.int y5), some (.int y6), some (.int (y7 + (1 : Int32)))] [] (z_up2 g 32 (z_ix (((12 : Int32) * y1) + y7)) (g 88 (z_ix ((((48 : Int32) * y2) + y4) + y7)))) Q)) : MG z_pI 230 168 [some (.ref 27), some (.int y1), some (.int y2), some (.int y3), some (.int y4), some (.int y5), some (.int y6), some (.int y7)] [] g Q := by
  refine m_n 2 (pc' := 172) (L' := [some (.ref 27), some (.int y1), some (.int y2), some (.int y3), some (.int y4), some (.int y5), some (.int y6), some (.int y7)]) (S' := [.int y6, .int y7]) (fun _ => rfl) ?_
  refine m_b (c := y6 ≤ y7) (pc' := 208) (L' := [some (.ref 27), some (.int y1), some (.int y2), some (.int y3), some (.int y4), some (.int y5), some (.int y6), some (.int y7)]) (S' := []) (pc2 := 175) (L2 := [some (.ref 27), some (.int y1), some (.int y2), some (.int y3), some (.int y4), some (.int y5), some (.int y6), some (.int y7)]) (S2 := []) rfl (fun _ => rfl) (fun hc => ?_) (fun hc => ?_)
  · have hc := hc
    rw [if_pos hc] at H
    refine m_n 2 (pc' := 211) (L' := [some (.ref 27), some (.int y1), some (.int y2), some (.int y3), some (.int y4), some (.int y5), some (.int y6), some (.int y7)]) (S' := [.int y5, .ref 27]) (fun _ => rfl) ?_
    refine m_pI rfl ?_
    refine m_n 1 (pc' := 216) (L' := [some (.ref 27), some (.int y1), some (.int y2), some (.int y3), some (.int y4), some (.int y5), some (.int y6), some (.int y7)]) (S' := [.int y6]) (fun _ => rfl) ?_
    exact m_r rfl rfl rfl H
  · have hc := hc
    rw [if_neg hc] at H
    refine m_n 1 (pc' := 176) (L' := [some (.ref 27), some (.int y1), some (.int y2), some (.int y3), some (.int y4), some (.int y5), some (.int y6), some (.int y7)]) (S' := [.ref 27]) (fun _ => rfl) ?_
    refine m_gR (q := 32) rfl (by decide) ?_
    refine m_n 6 (pc' := 187) (L' := [some (.ref 27), some (.int y1), some (.int y2), some (.int y3), some (.int y4), some (.int y5), some (.int y6), some (.int y7)]) (S' := [.ref 27, .int (((12 : Int32) * y1) + y7), .ref 32]) (fun _ => rfl) ?_
    refine m_gR (q := 88) rfl (by decide) ?_
    refine m_n 7 (pc' := 200) (L' := [some (.ref 27), some (.int y1), some (.int y2), some (.int y3), some (.int y4), some (.int y5), some (.int y6), some (.int y7)]) (S' := [.int ((((48 : Int32) * y2) + y4) + y7), .ref 88, .int (((12 : Int32) * y1) + y7), .ref 32]) (fun _ => rfl) ?_
    obtain ⟨o10, H⟩ := H
    refine m_ia 192 rfl rfl o10 ?_
    obtain ⟨o11, H⟩ := H
    refine m_is 72 rfl rfl rfl o11 ?_
    refine m_n 2 (pc' := 168) (L' := [some (.ref 27), some (.int y1), some (.int y2), some (.int y3), some (.int y4), some (.int y5), some (.int y6), some (.int (y7 + (1 : Int32)))]) (S' := []) (fun _ => rfl) ?_
    exact H
set_option maxRecDepth 20000 in
theorem X_232 (x1 : Int32) (g : zG) {Q : Int32 → zG → Prop} (H : MG z_pI 232 10 [some (.ref 27), some (.int x1), some (.int (0 : Int32)), some (.int (0 : Int32)), some (.int (0 : Int32)), some (.int (0 : Int32))] [] g Q) : MK z_pI 232 [.ref 27, .int x1] g Q := by
  refine m_K (L := [some (.ref 27), some (.int x1), none, none, none, none]) rfl ?_
  refine m_n 8 (pc' := 10) (L' := [some (.ref 27), some (.int x1), some (.int (0 : Int32)), some (.int (0 : Int32)), some (.int (0 : Int32)), some (.int (0 : Int32))]) (S' := []) (fun _ => rfl) ?_
  exact H
set_option maxRecDepth 20000 in
theorem X_232_10 (y1 : Int32) (y2 : Int32) (y3 : Int32) (y4 : Int32) (y5 : Int32) (g : zG) {Q : Int32 → zG → Prop} (H : if (g 27 20) ≤ y5 then (if y1 = (0 : Int32) then (Q (g 27 0) g) else (if y1 = (1 : Int32) then (Q (g 27 1) g) else (if y1 = (2 : Int32) then (Q (g 27 20) g) else (if y1 = (3 : Int32) then (Q y2 g) else (if y1 = (4 : Int32) then (Q y3 g) else (if y1 = (5 : Int32) then (Q (g 27 55) g) else (if y1 = (6 : Int32) then (Q (g 27 45) g) else (if y1 = (7 : Int32) then (Q y4 g) else (if y1 = (8 : Int32) then (Q (g 27 35) g) else (if y1 = (9 : Int32) then ((¬ ((g 86 (z_ix (0 : Int32))) = (-4 : Int32)) → 0 ≤ (0 : Int32).toInt ∧ (0 : Int32).toInt < 4) ∧ (∀ m13 : Int32, m13 = (if (g 86 (z_ix (0 : Int32))) = (-4 : Int32) then (-4 : Int32) else (g 87 (z_ix (0 : Int32)))) → Q m13 g)) else (Q (-1 : Int32) g))))))))))) else ((0 ≤ y5.toInt ∧ y5.toInt < 12) ∧ (Cn g) ∧ (0 ≤ y5.toInt ∧ y5.toInt < 12) ∧ (0 ≤ y5.toInt ∧ y5.toInt < 12) ∧ MG z_pI 232 10 [some (.ref 27), some (.int y1), some (.int (y2 + z_bt (s_no (q_wk g (g 46 (z_ix y5))) = y5))), some (.int (y3 + z_bt (¬ ((g 55 (z_ix y5)) = 0)))), some (.int (y4 + (g 57 (z_ix y5)))), some (.int (y5 + (1 : Int32)))] [] g Q)) : MG z_pI 232 10 [some (.ref 27), some (.int y1), some (.int y2), some (.int y3), some (.int y4), some (.int y5)] [] g Q := by
  refine m_n 2 (pc' := 13) (L' := [some (.ref 27), some (.int y1), some (.int y2), some (.int y3), some (.int y4), some (.int y5)]) (S' := [.ref 27, .int y5]) (fun _ => rfl) ?_
  refine m_gI rfl ?_
  refine m_b (c := (g 27 20) ≤ y5) (pc' := 79) (L' := [some (.ref 27), some (.int y1), some (.int y2), some (.int y3), some (.int y4), some (.int y5)]) (S' := []) (pc2 := 19) (L2 := [some (.ref 27), some (.int y1), some (.int y2), some (.int y3), some (.int y4), some (.int y5)]) (S2 := []) rfl (fun _ => rfl) (fun hc => ?_) (fun hc => ?_)
  · have hc := hc
    rw [if_pos hc] at H
    refine m_n 1 (pc' := 80) (L' := [some (.ref 27), some (.int y1), some (.int y2), some (.int y3), some (.int y4), some (.int y5)]) (S' := [.int y1]) (fun _ => rfl) ?_
    by_cases w1 : y1 = (0 : Int32)
    · rw [if_pos w1] at H
      refine m_sw (pc' := 136) rfl (congrArg (z_tgt 80) (z_swT (k := (0 : Int32)) w1 rfl)) ?_
      refine m_n 1 (pc' := 137) (L' := [some (.ref 27), some (.int y1), some (.int y2), some (.int y3), some (.int y4), some (.int y5)]) (S' := [.ref 27]) (fun _ => rfl) ?_
      refine m_gI rfl ?_
      exact m_r rfl rfl rfl H
    rw [if_neg w1] at H
    by_cases w2 : y1 = (1 : Int32)
    · rw [if_pos w2] at H
      refine m_sw (pc' := 141) rfl (congrArg (z_tgt 80) (z_swN (k := (0 : Int32)) w1 rfl (z_swT (k := (1 : Int32)) w2 rfl))) ?_
      refine m_n 1 (pc' := 142) (L' := [some (.ref 27), some (.int y1), some (.int y2), some (.int y3), some (.int y4), some (.int y5)]) (S' := [.ref 27]) (fun _ => rfl) ?_
      refine m_gI rfl ?_
      exact m_r rfl rfl rfl H
    rw [if_neg w2] at H
    by_cases w3 : y1 = (2 : Int32)
    · rw [if_pos w3] at H
      refine m_sw (pc' := 146) rfl (congrArg (z_tgt 80) (z_swN (k := (0 : Int32)) w1 rfl (z_swN (k := (1 : Int32)) w2 rfl (z_swT (k := (2 : Int32)) w3 rfl)))) ?_
      refine m_n 1 (pc' := 147) (L' := [some (.ref 27), some (.int y1), some (.int y2), some (.int y3), some (.int y4), some (.int y5)]) (S' := [.ref 27]) (fun _ => rfl) ?_
      refine m_gI rfl ?_
      exact m_r rfl rfl rfl H
    rw [if_neg w3] at H
    by_cases w4 : y1 = (3 : Int32)
    · rw [if_pos w4] at H
      refine m_sw (pc' := 151) rfl (congrArg (z_tgt 80) (z_swN (k := (0 : Int32)) w1 rfl (z_swN (k := (1 : Int32)) w2 rfl (z_swN (k := (2 : Int32)) w3 rfl (z_swT (k := (3 : Int32)) w4 rfl))))) ?_
      refine m_n 1 (pc' := 152) (L' := [some (.ref 27), some (.int y1), some (.int y2), some (.int y3), some (.int y4), some (.int y5)]) (S' := [.int y2]) (fun _ => rfl) ?_
      exact m_r rfl rfl rfl H
    rw [if_neg w4] at H
    by_cases w5 : y1 = (4 : Int32)
    · rw [if_pos w5] at H
      refine m_sw (pc' := 153) rfl (congrArg (z_tgt 80) (z_swN (k := (0 : Int32)) w1 rfl (z_swN (k := (1 : Int32)) w2 rfl (z_swN (k := (2 : Int32)) w3 rfl (z_swN (k := (3 : Int32)) w4 rfl (z_swT (k := (4 : Int32)) w5 rfl)))))) ?_
      refine m_n 1 (pc' := 154) (L' := [some (.ref 27), some (.int y1), some (.int y2), some (.int y3), some (.int y4), some (.int y5)]) (S' := [.int y3]) (fun _ => rfl) ?_
      exact m_r rfl rfl rfl H
    rw [if_neg w5] at H
    by_cases w6 : y1 = (5 : Int32)
    · rw [if_pos w6] at H
      refine m_sw (pc' := 155) rfl (congrArg (z_tgt 80) (z_swN (k := (0 : Int32)) w1 rfl (z_swN (k := (1 : Int32)) w2 rfl (z_swN (k := (2 : Int32)) w3 rfl (z_swN (k := (3 : Int32)) w4 rfl (z_swN (k := (4 : Int32)) w5 rfl (z_swT (k := (5 : Int32)) w6 rfl))))))) ?_
      refine m_n 1 (pc' := 156) (L' := [some (.ref 27), some (.int y1), some (.int y2), some (.int y3), some (.int y4), some (.int y5)]) (S' := [.ref 27]) (fun _ => rfl) ?_
      refine m_gI rfl ?_
      exact m_r rfl rfl rfl H
    rw [if_neg w6] at H
    by_cases w7 : y1 = (6 : Int32)
    · rw [if_pos w7] at H
      refine m_sw (pc' := 160) rfl (congrArg (z_tgt 80) (z_swN (k := (0 : Int32)) w1 rfl (z_swN (k := (1 : Int32)) w2 rfl (z_swN (k := (2 : Int32)) w3 rfl (z_swN (k := (3 : Int32)) w4 rfl (z_swN (k := (4 : Int32)) w5 rfl (z_swN (k := (5 : Int32)) w6 rfl (z_swT (k := (6 : Int32)) w7 rfl)))))))) ?_
      refine m_n 1 (pc' := 161) (L' := [some (.ref 27), some (.int y1), some (.int y2), some (.int y3), some (.int y4), some (.int y5)]) (S' := [.ref 27]) (fun _ => rfl) ?_
      refine m_gI rfl ?_
      exact m_r rfl rfl rfl H
    rw [if_neg w7] at H
    by_cases w8 : y1 = (7 : Int32)
    · rw [if_pos w8] at H
      refine m_sw (pc' := 165) rfl (congrArg (z_tgt 80) (z_swN (k := (0 : Int32)) w1 rfl (z_swN (k := (1 : Int32)) w2 rfl (z_swN (k := (2 : Int32)) w3 rfl (z_swN (k := (3 : Int32)) w4 rfl (z_swN (k := (4 : Int32)) w5 rfl (z_swN (k := (5 : Int32)) w6 rfl (z_swN (k := (6 : Int32)) w7 rfl (z_swT (k := (7 : Int32)) w8 rfl))))))))) ?_
      refine m_n 1 (pc' := 167) (L' := [some (.ref 27), some (.int y1), some (.int y2), some (.int y3), some (.int y4), some (.int y5)]) (S' := [.int y4]) (fun _ => rfl) ?_
      exact m_r rfl rfl rfl H
    rw [if_neg w8] at H
    by_cases w9 : y1 = (8 : Int32)
    · rw [if_pos w9] at H
      refine m_sw (pc' := 168) rfl (congrArg (z_tgt 80) (z_swN (k := (0 : Int32)) w1 rfl (z_swN (k := (1 : Int32)) w2 rfl (z_swN (k := (2 : Int32)) w3 rfl (z_swN (k := (3 : Int32)) w4 rfl (z_swN (k := (4 : Int32)) w5 rfl (z_swN (k := (5 : Int32)) w6 rfl (z_swN (k := (6 : Int32)) w7 rfl (z_swN (k := (7 : Int32)) w8 rfl (z_swT (k := (8 : Int32)) w9 rfl)))))))))) ?_
      refine m_n 1 (pc' := 169) (L' := [some (.ref 27), some (.int y1), some (.int y2), some (.int y3), some (.int y4), some (.int y5)]) (S' := [.ref 27]) (fun _ => rfl) ?_
      refine m_gI rfl ?_
      exact m_r rfl rfl rfl H
    rw [if_neg w9] at H
    by_cases w10 : y1 = (9 : Int32)
    · rw [if_pos w10] at H
      refine m_sw (pc' := 173) rfl (congrArg (z_tgt 80) (z_swN (k := (0 : Int32)) w1 rfl (z_swN (k := (1 : Int32)) w2 rfl (z_swN (k := (2 : Int32)) w3 rfl (z_swN (k := (3 : Int32)) w4 rfl (z_swN (k := (4 : Int32)) w5 rfl (z_swN (k := (5 : Int32)) w6 rfl (z_swN (k := (6 : Int32)) w7 rfl (z_swN (k := (7 : Int32)) w8 rfl (z_swN (k := (8 : Int32)) w9 rfl (z_swT (k := (9 : Int32)) w10 rfl))))))))))) ?_
      refine m_n 1 (pc' := 174) (L' := [some (.ref 27), some (.int y1), some (.int y2), some (.int y3), some (.int y4), some (.int y5)]) (S' := [.ref 27]) (fun _ => rfl) ?_
      refine m_gR (q := 86) rfl (by decide) ?_
      refine m_n 1 (pc' := 178) (L' := [some (.ref 27), some (.int y1), some (.int y2), some (.int y3), some (.int y4), some (.int y5)]) (S' := [.int (0 : Int32), .ref 86]) (fun _ => rfl) ?_
      refine m_ia 4 rfl rfl (by decide) ?_
      refine m_n 1 (pc' := 181) (L' := [some (.ref 27), some (.int y1), some (.int y2), some (.int y3), some (.int y4), some (.int y5)]) (S' := [.int (-4 : Int32), .int (g 86 (z_ix (0 : Int32)))]) (fun _ => rfl) ?_
      obtain ⟨o12, H⟩ := H
      obtain ⟨m13, em13⟩ : ∃ m : Int32, m = (if (g 86 (z_ix (0 : Int32))) = (-4 : Int32) then (-4 : Int32) else (g 87 (z_ix (0 : Int32)))) := ⟨_, rfl⟩
      have H := H m13 em13
      have hj14 : MG z_pI 232 195 [some (.ref 27), some (.int y1), some (.int y2), some (.int y3), some (.int y4), some (.int y5)] [.int m13] g Q := by
        exact m_r rfl rfl rfl H
      refine m_b (c := (g 86 (z_ix (0 : Int32))) = (-4 : Int32)) (pc' := 184) (L' := [some (.ref 27), some (.int y1), some (.int y2), some (.int y3), some (.int y4), some (.int y5)]) (S' := []) (pc2 := 189) (L2 := [some (.ref 27), some (.int y1), some (.int y2), some (.int y3), some (.int y4), some (.int y5)]) (S2 := []) rfl (fun _ => rfl) (fun hc => ?_) (fun hc => ?_)
      · have c11 := hc
        refine m_n 2 (pc' := 195) (L' := [some (.ref 27), some (.int y1), some (.int y2), some (.int y3), some (.int y4), some (.int y5)]) (S' := [.int (-4 : Int32)]) (fun _ => rfl) ?_
        rw [(em13.trans (by rw [if_pos c11]) : m13 = (-4 : Int32))] at hj14
        exact hj14
      · have c11 := hc
        refine m_n 1 (pc' := 190) (L' := [some (.ref 27), some (.int y1), some (.int y2), some (.int y3), some (.int y4), some (.int y5)]) (S' := [.ref 27]) (fun _ => rfl) ?_
        refine m_gR (q := 87) rfl (by decide) ?_
        refine m_n 1 (pc' := 194) (L' := [some (.ref 27), some (.int y1), some (.int y2), some (.int y3), some (.int y4), some (.int y5)]) (S' := [.int (0 : Int32), .ref 87]) (fun _ => rfl) ?_
        refine m_ia 4 rfl rfl (o12 c11) ?_
        rw [(em13.trans (by rw [if_neg c11]) : m13 = (g 87 (z_ix (0 : Int32))))] at hj14
        exact hj14
    rw [if_neg w10] at H
    refine m_sw (pc' := 196) rfl (congrArg (z_tgt 80) (z_swN (k := (0 : Int32)) w1 rfl (z_swN (k := (1 : Int32)) w2 rfl (z_swN (k := (2 : Int32)) w3 rfl (z_swN (k := (3 : Int32)) w4 rfl (z_swN (k := (4 : Int32)) w5 rfl (z_swN (k := (5 : Int32)) w6 rfl (z_swN (k := (6 : Int32)) w7 rfl (z_swN (k := (7 : Int32)) w8 rfl (z_swN (k := (8 : Int32)) w9 rfl (z_swN (k := (9 : Int32)) w10 rfl rfl))))))))))) ?_
    refine m_n 1 (pc' := 197) (L' := [some (.ref 27), some (.int y1), some (.int y2), some (.int y3), some (.int y4), some (.int y5)]) (S' := [.int (-1 : Int32)]) (fun _ => rfl) ?_
    exact m_r rfl rfl rfl H
  · have hc := hc
    rw [if_neg hc] at H
    refine m_n 3 (pc' := 22) (L' := [some (.ref 27), some (.int y1), some (.int y2), some (.int y3), some (.int y4), some (.int y5)]) (S' := [.ref 27, .ref 27, .int y2]) (fun _ => rfl) ?_
    refine m_gR (q := 46) rfl (by decide) ?_
    refine m_n 1 (pc' := 27) (L' := [some (.ref 27), some (.int y1), some (.int y2), some (.int y3), some (.int y4), some (.int y5)]) (S' := [.int y5, .ref 46, .ref 27, .int y2]) (fun _ => rfl) ?_
    obtain ⟨o15, H⟩ := H
    refine m_ia 12 rfl rfl o15 ?_
    refine m_cI 170 2 rfl rfl rfl (A := [.ref 27, .int (g 46 (z_ix y5))]) rfl rfl (Or.inr ⟨rfl, _, rfl⟩) (rest := [.int y2]) rfl rfl rfl ?_
    obtain ⟨o16, H⟩ := H
    refine c_working (g 46 (z_ix y5)) g o16 ?_
    refine m_n 1 (pc' := 33) (L' := [some (.ref 27), some (.int y1), some (.int y2), some (.int y3), some (.int y4), some (.int y5)]) (S' := [.int y5, .int (s_no (q_wk g (g 46 (z_ix y5)))), .int y2]) (fun _ => rfl) ?_
    have hj18 : MG z_pI 232 41 [some (.ref 27), some (.int y1), some (.int y2), some (.int y3), some (.int y4), some (.int y5)] [.int (z_bt (s_no (q_wk g (g 46 (z_ix y5))) = y5)), .int y2] g Q := by
      refine m_n 4 (pc' := 45) (L' := [some (.ref 27), some (.int y1), some (.int (y2 + z_bt (s_no (q_wk g (g 46 (z_ix y5))) = y5))), some (.int y3), some (.int y4), some (.int y5)]) (S' := [.ref 27, .int y3]) (fun _ => rfl) ?_
      refine m_gR (q := 55) rfl (by decide) ?_
      refine m_n 1 (pc' := 50) (L' := [some (.ref 27), some (.int y1), some (.int (y2 + z_bt (s_no (q_wk g (g 46 (z_ix y5))) = y5))), some (.int y3), some (.int y4), some (.int y5)]) (S' := [.int y5, .ref 55, .int y3]) (fun _ => rfl) ?_
      obtain ⟨o19, H⟩ := H
      refine m_za 12 rfl rfl o19 ?_
      have hj21 : MG z_pI 232 59 [some (.ref 27), some (.int y1), some (.int (y2 + z_bt (s_no (q_wk g (g 46 (z_ix y5))) = y5))), some (.int y3), some (.int y4), some (.int y5)] [.int (z_bt (¬ ((g 55 (z_ix y5)) = 0))), .int y3] g Q := by
        refine m_n 4 (pc' := 64) (L' := [some (.ref 27), some (.int y1), some (.int (y2 + z_bt (s_no (q_wk g (g 46 (z_ix y5))) = y5))), some (.int (y3 + z_bt (¬ ((g 55 (z_ix y5)) = 0)))), some (.int y4), some (.int y5)]) (S' := [.ref 27, .int y4]) (fun _ => rfl) ?_
        refine m_gR (q := 57) rfl (by decide) ?_
        refine m_n 1 (pc' := 69) (L' := [some (.ref 27), some (.int y1), some (.int (y2 + z_bt (s_no (q_wk g (g 46 (z_ix y5))) = y5))), some (.int (y3 + z_bt (¬ ((g 55 (z_ix y5)) = 0)))), some (.int y4), some (.int y5)]) (S' := [.int y5, .ref 57, .int y4]) (fun _ => rfl) ?_
        obtain ⟨o22, H⟩ := H
        refine m_ia 12 rfl rfl o22 ?_
        refine m_n 4 (pc' := 10) (L' := [some (.ref 27), some (.int y1), some (.int (y2 + z_bt (s_no (q_wk g (g 46 (z_ix y5))) = y5))), some (.int (y3 + z_bt (¬ ((g 55 (z_ix y5)) = 0)))), some (.int (y4 + (g 57 (z_ix y5)))), some (.int (y5 + (1 : Int32)))]) (S' := []) (fun _ => rfl) ?_
        exact H
      refine m_b (c := (g 55 (z_ix y5)) = 0) (pc' := 58) (L' := [some (.ref 27), some (.int y1), some (.int (y2 + z_bt (s_no (q_wk g (g 46 (z_ix y5))) = y5))), some (.int y3), some (.int y4), some (.int y5)]) (S' := [.int y3]) (pc2 := 54) (L2 := [some (.ref 27), some (.int y1), some (.int (y2 + z_bt (s_no (q_wk g (g 46 (z_ix y5))) = y5))), some (.int y3), some (.int y4), some (.int y5)]) (S2 := [.int y3]) rfl (fun _ => rfl) (fun hc => ?_) (fun hc => ?_)
      · have c20 := hc
        refine m_n 1 (pc' := 59) (L' := [some (.ref 27), some (.int y1), some (.int (y2 + z_bt (s_no (q_wk g (g 46 (z_ix y5))) = y5))), some (.int y3), some (.int y4), some (.int y5)]) (S' := [.int (0 : Int32), .int y3]) (fun _ => rfl) ?_
        rw [show z_bt (¬ ((g 55 (z_ix y5)) = 0)) = 0 from z_bt_0.mpr ((fun q => q c20))] at hj21
        exact hj21
      · have c20 := hc
        refine m_n 2 (pc' := 59) (L' := [some (.ref 27), some (.int y1), some (.int (y2 + z_bt (s_no (q_wk g (g 46 (z_ix y5))) = y5))), some (.int y3), some (.int y4), some (.int y5)]) (S' := [.int (1 : Int32), .int y3]) (fun _ => rfl) ?_
        rw [show z_bt (¬ ((g 55 (z_ix y5)) = 0)) = 1 from z_bt_1.mpr (c20)] at hj21
        exact hj21
    refine m_b (c := s_no (q_wk g (g 46 (z_ix y5))) = y5) (pc' := 36) (L' := [some (.ref 27), some (.int y1), some (.int y2), some (.int y3), some (.int y4), some (.int y5)]) (S' := [.int y2]) (pc2 := 40) (L2 := [some (.ref 27), some (.int y1), some (.int y2), some (.int y3), some (.int y4), some (.int y5)]) (S2 := [.int y2]) rfl (fun _ => rfl) (fun hc => ?_) (fun hc => ?_)
    · have c17 := hc
      refine m_n 2 (pc' := 41) (L' := [some (.ref 27), some (.int y1), some (.int y2), some (.int y3), some (.int y4), some (.int y5)]) (S' := [.int (1 : Int32), .int y2]) (fun _ => rfl) ?_
      rw [show z_bt (s_no (q_wk g (g 46 (z_ix y5))) = y5) = 1 from z_bt_1.mpr (c17)] at hj18
      exact hj18
    · have c17 := hc
      refine m_n 1 (pc' := 41) (L' := [some (.ref 27), some (.int y1), some (.int y2), some (.int y3), some (.int y4), some (.int y5)]) (S' := [.int (0 : Int32), .int y2]) (fun _ => rfl) ?_
      rw [show z_bt (s_no (q_wk g (g 46 (z_ix y5))) = y5) = 0 from z_bt_0.mpr (c17)] at hj18
      exact hj18
