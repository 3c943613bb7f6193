set_option maxRecDepth 20000 in
theorem X_186 (x1 : Int32) (g : zG) {Q : Unit → zG → Prop} (H : if (g 27 37) = 0 then (Q () (z_up2 (z_up2 g 27 37 x1) 27 38 ((z_up2 g 27 37 x1) 27 40))) else (Q () g)) : MK z_pV 186 [.ref 27, .int x1] g Q := by
  refine m_K (L := [some (.ref 27), some (.int x1)]) rfl ?_
  refine m_n 1 (pc' := 1) (L' := [some (.ref 27), some (.int x1)]) (S' := [.ref 27]) (fun _ => rfl) ?_
  refine m_gI rfl ?_
  refine m_b (c := (g 27 37) = 0) (pc' := 7) (L' := [some (.ref 27), some (.int x1)]) (S' := []) (pc2 := 20) (L2 := [some (.ref 27), some (.int x1)]) (S2 := []) rfl (fun _ => rfl) (fun hc => ?_) (fun hc => ?_)
  · have hc := hc
    rw [if_pos hc] at H
    refine m_n 2 (pc' := 9) (L' := [some (.ref 27), some (.int x1)]) (S' := [.int x1, .ref 27]) (fun _ => rfl) ?_
    refine m_pI rfl ?_
    refine m_n 2 (pc' := 14) (L' := [some (.ref 27), some (.int x1)]) (S' := [.ref 27, .ref 27]) (fun _ => rfl) ?_
    refine m_gI rfl ?_
    refine m_pI rfl ?_
    exact m_r rfl rfl rfl H
  · have hc := hc
    rw [if_neg hc] at H
    exact m_r rfl rfl rfl H
set_option maxRecDepth 20000 in
theorem X_187  (g : zG) {Q : Unit → zG → Prop} (H : if (g 27 37) ≤ 0 then (MG z_pV 187 8 [some (.ref 27), none] [] g Q) else (Q () g)) : MK z_pV 187 [.ref 27] g Q := by
  refine m_K (L := [some (.ref 27), none]) rfl ?_
  refine m_n 1 (pc' := 1) (L' := [some (.ref 27), none]) (S' := [.ref 27]) (fun _ => rfl) ?_
  refine m_gI rfl ?_
  refine m_b (c := (g 27 37) ≤ 0) (pc' := 8) (L' := [some (.ref 27), none]) (S' := []) (pc2 := 7) (L2 := [some (.ref 27), none]) (S2 := []) rfl (fun _ => rfl) (fun hc => ?_) (fun hc => ?_)
  · have hc := hc
    rw [if_pos hc] at H
    exact H
  · have hc := hc
    rw [if_neg hc] at H
    exact m_r rfl rfl rfl H
set_option maxRecDepth 20000 in
theorem X_187_8 (u1 : Option Value) (g : zG) {Q : Unit → zG → Prop} (H : (¬ ((g 27 35) ≤ (g 27 39)) → 0 ≤ (g 27 39).toInt ∧ (g 27 39).toInt < 200) ∧ (∀ m1 : Int32, m1 = (if (g 27 35) ≤ (g 27 39) then (-4 : Int32) else (g 59 (z_ix (g 27 39)))) → if m1 = (32 : Int32) then (∀ g3 : zG, g3 = (z_up2 g 27 39 ((g 27 39) + (1 : Int32))) → MG z_pV 187 8 [some (.ref 27), u1] [] g3 Q) else (∀ g4 : zG, g4 = (z_up2 g 27 40 (g 27 39)) → (¬ ((g4 27 35) ≤ (g4 27 39)) → 0 ≤ (g4 27 39).toInt ∧ (g4 27 39).toInt < 200) ∧ (∀ m5 : Int32, m5 = (if (g4 27 35) ≤ (g4 27 39) then (-4 : Int32) else (g4 59 (z_ix (g4 27 39)))) → ∀ g7 : zG, g7 = (z_up2 g4 27 42 (0 : Int32)) → if m5 = (-4 : Int32) then (∀ g8 : zG, g8 = (z_up2 g7 27 41 (0 : Int32)) → Q () g8) else (if (97 : Int32) ≤ m5 ∧ m5 ≤ (122 : Int32) then (MG z_pV 187 84 [some (.ref 27), some (.int m5)] [] g7 Q) else (if (48 : Int32) ≤ m5 ∧ m5 ≤ (57 : Int32) then (MG z_pV 187 140 [some (.ref 27), some (.int m5)] [] g7 Q) else (∀ g9 : zG, g9 = (z_up2 g7 27 41 (3 : Int32)) → ∀ g10 : zG, g10 = (z_up2 g9 27 39 ((g9 27 39) + (1 : Int32))) → if m5 = (59 : Int32) then (Q () g10) else (MK z_pV 186 [.ref 27, .int (1 : Int32)] g10 (fun r11 g12 => Q () g12))))))))) : MG z_pV 187 8 [some (.ref 27), u1] [] g Q := by
  refine m_n 2 (pc' := 10) (L' := [some (.ref 27), u1]) (S' := [.ref 27, .ref 27]) (fun _ => rfl) ?_
  refine m_gI rfl ?_
  refine m_cI 185 2 rfl rfl rfl (A := [.ref 27, .int (g 27 39)]) rfl rfl (Or.inr ⟨rfl, _, rfl⟩) (rest := []) rfl rfl rfl ?_
  obtain ⟨o2, H⟩ := H
  obtain ⟨m1, em1⟩ : ∃ m : Int32, m = (if (g 27 35) ≤ (g 27 39) then (-4 : Int32) else (g 59 (z_ix (g 27 39)))) := ⟨_, rfl⟩
  have H := H m1 em1
  refine X_185 (g 27 39) g ⟨o2, (z_all em1 ?_)⟩
  refine m_n 1 (pc' := 18) (L' := [some (.ref 27), u1]) (S' := [.int (32 : Int32), .int m1]) (fun _ => rfl) ?_
  refine m_b (c := m1 = (32 : Int32)) (pc' := 21) (L' := [some (.ref 27), u1]) (S' := []) (pc2 := 34) (L2 := [some (.ref 27), u1]) (S2 := []) rfl (fun _ => rfl) (fun hc => ?_) (fun hc => ?_)
  · have hc := hc
    rw [if_pos hc] at H
    refine m_n 2 (pc' := 23) (L' := [some (.ref 27), u1]) (S' := [.ref 27, .ref 27]) (fun _ => rfl) ?_
    refine m_gI rfl ?_
    refine m_n 2 (pc' := 28) (L' := [some (.ref 27), u1]) (S' := [.int ((g 27 39) + (1 : Int32)), .ref 27]) (fun _ => rfl) ?_
    refine m_pI rfl ?_
    obtain ⟨g3, eg3⟩ : ∃ m : zG, m = (z_up2 g 27 39 ((g 27 39) + (1 : Int32))) := ⟨_, rfl⟩
    have H := H g3 eg3
    refine z_nmG eg3 ?_
    refine m_n 1 (pc' := 8) (L' := [some (.ref 27), u1]) (S' := []) (fun _ => rfl) ?_
    exact H
  · have hc := hc
    rw [if_neg hc] at H
    refine m_n 2 (pc' := 36) (L' := [some (.ref 27), u1]) (S' := [.ref 27, .ref 27]) (fun _ => rfl) ?_
    refine m_gI rfl ?_
    refine m_pI rfl ?_
    obtain ⟨g4, eg4⟩ : ∃ m : zG, m = (z_up2 g 27 40 (g 27 39)) := ⟨_, rfl⟩
    have H := H g4 eg4
    refine z_nmG eg4 ?_
    refine m_n 2 (pc' := 44) (L' := [some (.ref 27), u1]) (S' := [.ref 27, .ref 27]) (fun _ => rfl) ?_
    refine m_gI rfl ?_
    refine m_cI 185 2 rfl rfl rfl (A := [.ref 27, .int (g4 27 39)]) rfl rfl (Or.inr ⟨rfl, _, rfl⟩) (rest := []) rfl rfl rfl ?_
    obtain ⟨o6, H⟩ := H
    obtain ⟨m5, em5⟩ : ∃ m : Int32, m = (if (g4 27 35) ≤ (g4 27 39) then (-4 : Int32) else (g4 59 (z_ix (g4 27 39)))) := ⟨_, rfl⟩
    have H := H m5 em5
    refine X_185 (g4 27 39) g4 ⟨o6, (z_all em5 ?_)⟩
    refine m_n 3 (pc' := 53) (L' := [some (.ref 27), some (.int m5)]) (S' := [.int (0 : Int32), .ref 27]) (fun _ => rfl) ?_
    refine m_pI rfl ?_
    obtain ⟨g7, eg7⟩ : ∃ m : zG, m = (z_up2 g4 27 42 (0 : Int32)) := ⟨_, rfl⟩
    have H := H g7 eg7
    refine z_nmG eg7 ?_
    refine m_n 2 (pc' := 59) (L' := [some (.ref 27), some (.int m5)]) (S' := [.int (-4 : Int32), .int m5]) (fun _ => rfl) ?_
    refine m_b (c := m5 = (-4 : Int32)) (pc' := 62) (L' := [some (.ref 27), some (.int m5)]) (S' := []) (pc2 := 70) (L2 := [some (.ref 27), some (.int m5)]) (S2 := []) rfl (fun _ => rfl) (fun hc => ?_) (fun hc => ?_)
    · have hc := hc
      rw [if_pos hc] at H
      refine m_n 2 (pc' := 64) (L' := [some (.ref 27), some (.int m5)]) (S' := [.int (0 : Int32), .ref 27]) (fun _ => rfl) ?_
      refine m_pI rfl ?_
      obtain ⟨g8, eg8⟩ : ∃ m : zG, m = (z_up2 g7 27 41 (0 : Int32)) := ⟨_, rfl⟩
      have H := H g8 eg8
      refine z_nmG eg8 ?_
      refine m_n 1 (pc' := 269) (L' := [some (.ref 27), some (.int m5)]) (S' := []) (fun _ => rfl) ?_
      exact m_r rfl rfl rfl H
    · have hc := hc
      rw [if_neg hc] at H
      refine m_n 4 (pc' := 78) (L' := [some (.ref 27), some (.int m5)]) (S' := [.long (122 : Int64), .long (97 : Int64), .long m5.toInt64]) (fun _ => rfl) ?_
      refine m_cI 161 3 rfl rfl rfl (A := [.long m5.toInt64, .long (97 : Int64), .long (122 : Int64)]) rfl rfl (Or.inl rfl) (rest := []) rfl rfl rfl ?_
      refine c_inJ m5 (97 : Int32) (122 : Int32) g7 rfl rfl rfl ?_
      refine m_b (c := z_bt ((97 : Int32) ≤ m5 ∧ m5 ≤ (122 : Int32)) = 0) (pc' := 126) (L' := [some (.ref 27), some (.int m5)]) (S' := []) (pc2 := 84) (L2 := [some (.ref 27), some (.int m5)]) (S2 := []) rfl (fun _ => rfl) (fun hc => ?_) (fun hc => ?_)
      · have hc := z_bt_0.mp hc
        rw [if_neg hc] at H
        refine m_n 4 (pc' := 134) (L' := [some (.ref 27), some (.int m5)]) (S' := [.long (57 : Int64), .long (48 : Int64), .long m5.toInt64]) (fun _ => rfl) ?_
        refine m_cI 161 3 rfl rfl rfl (A := [.long m5.toInt64, .long (48 : Int64), .long (57 : Int64)]) rfl rfl (Or.inl rfl) (rest := []) rfl rfl rfl ?_
        refine c_inJ m5 (48 : Int32) (57 : Int32) g7 rfl rfl rfl ?_
        refine m_b (c := z_bt ((48 : Int32) ≤ m5 ∧ m5 ≤ (57 : Int32)) = 0) (pc' := 243) (L' := [some (.ref 27), some (.int m5)]) (S' := []) (pc2 := 140) (L2 := [some (.ref 27), some (.int m5)]) (S2 := []) rfl (fun _ => rfl) (fun hc => ?_) (fun hc => ?_)
        · have hc := z_bt_0.mp hc
          rw [if_neg hc] at H
          refine m_n 2 (pc' := 245) (L' := [some (.ref 27), some (.int m5)]) (S' := [.int (3 : Int32), .ref 27]) (fun _ => rfl) ?_
          refine m_pI rfl ?_
          obtain ⟨g9, eg9⟩ : ∃ m : zG, m = (z_up2 g7 27 41 (3 : Int32)) := ⟨_, rfl⟩
          have H := H g9 eg9
          refine z_nmG eg9 ?_
          refine m_n 2 (pc' := 250) (L' := [some (.ref 27), some (.int m5)]) (S' := [.ref 27, .ref 27]) (fun _ => rfl) ?_
          refine m_gI rfl ?_
          refine m_n 2 (pc' := 255) (L' := [some (.ref 27), some (.int m5)]) (S' := [.int ((g9 27 39) + (1 : Int32)), .ref 27]) (fun _ => rfl) ?_
          refine m_pI rfl ?_
          obtain ⟨g10, eg10⟩ : ∃ m : zG, m = (z_up2 g9 27 39 ((g9 27 39) + (1 : Int32))) := ⟨_, rfl⟩
          have H := H g10 eg10
          refine z_nmG eg10 ?_
          refine m_n 2 (pc' := 261) (L' := [some (.ref 27), some (.int m5)]) (S' := [.int (59 : Int32), .int m5]) (fun _ => rfl) ?_
          refine m_b (c := m5 = (59 : Int32)) (pc' := 269) (L' := [some (.ref 27), some (.int m5)]) (S' := []) (pc2 := 264) (L2 := [some (.ref 27), some (.int m5)]) (S2 := []) rfl (fun _ => rfl) (fun hc => ?_) (fun hc => ?_)
          · have hc := hc
            rw [if_pos hc] at H
            exact m_r rfl rfl rfl H
          · have hc := hc
            rw [if_neg hc] at H
            refine m_n 2 (pc' := 266) (L' := [some (.ref 27), some (.int m5)]) (S' := [.int (1 : Int32), .ref 27]) (fun _ => rfl) ?_
            refine m_cV 186 2 rfl rfl rfl (A := [.ref 27, .int (1 : Int32)]) rfl rfl (Or.inr ⟨rfl, _, rfl⟩) (rest := []) rfl rfl ?_
            refine H.mono (fun r11 g12 H => ?_)
            exact m_r rfl rfl rfl H
        · have hc := Decidable.not_not.mp (fun q => hc (z_bt_0.mpr q))
          rw [if_pos hc] at H
          exact H
      · have hc := Decidable.not_not.mp (fun q => hc (z_bt_0.mpr q))
        rw [if_pos hc] at H
        exact H
set_option maxRecDepth 20000 in
theorem X_187_140 (y1 : Int32) (g : zG) {Q : Unit → zG → Prop} (H : (¬ ((g 27 35) ≤ (g 27 39)) → 0 ≤ (g 27 39).toInt ∧ (g 27 39).toInt < 200) ∧ (∀ m13 : Int32, m13 = (if (g 27 35) ≤ (g 27 39) then (-4 : Int32) else (g 59 (z_ix (g 27 39)))) → if (48 : Int32) ≤ m13 ∧ m13 ≤ (57 : Int32) then (if (4 : Int32) ≤ ((g 27 39) - (g 27 40)) then (∀ g18 : zG, g18 = (z_up2 g 27 42 (g 27 42)) → ∀ g19 : zG, g19 = (z_up2 g18 27 39 ((g18 27 39) + (1 : Int32))) → MG z_pV 187 140 [some (.ref 27), some (.int y1)] [] g19 Q) else ((¬ ((g 27 35) ≤ (g 27 39)) → 0 ≤ (g 27 39).toInt ∧ (g 27 39).toInt < 200) ∧ (∀ m20 : Int32, m20 = (if (g 27 35) ≤ (g 27 39) then (-4 : Int32) else (g 59 (z_ix (g 27 39)))) → ∀ g22 : zG, g22 = (z_up2 g 27 42 ((((10 : Int32) * (g 27 42)) + m20) - (48 : Int32))) → ∀ g23 : zG, g23 = (z_up2 g22 27 39 ((g22 27 39) + (1 : Int32))) → MG z_pV 187 140 [some (.ref 27), some (.int y1)] [] g23 Q))) else (∀ g15 : zG, g15 = (z_up2 g 27 41 (2 : Int32)) → if ((g15 27 39) - (g15 27 40)) ≤ (4 : Int32) then (Q () g15) else (MK z_pV 186 [.ref 27, .int (1 : Int32)] g15 (fun r16 g17 => Q () g17))))) : MG z_pV 187 140 [some (.ref 27), some (.int y1)] [] g Q := by
  refine m_n 2 (pc' := 142) (L' := [some (.ref 27), some (.int y1)]) (S' := [.ref 27, .ref 27]) (fun _ => rfl) ?_
  refine m_gI rfl ?_
  refine m_cI 185 2 rfl rfl rfl (A := [.ref 27, .int (g 27 39)]) rfl rfl (Or.inr ⟨rfl, _, rfl⟩) (rest := []) rfl rfl rfl ?_
  obtain ⟨o14, H⟩ := H
  obtain ⟨m13, em13⟩ : ∃ m : Int32, m = (if (g 27 35) ≤ (g 27 39) then (-4 : Int32) else (g 59 (z_ix (g 27 39)))) := ⟨_, rfl⟩
  have H := H m13 em13
  refine X_185 (g 27 39) g ⟨o14, (z_all em13 ?_)⟩
  refine m_n 3 (pc' := 155) (L' := [some (.ref 27), some (.int y1)]) (S' := [.long (57 : Int64), .long (48 : Int64), .long m13.toInt64]) (fun _ => rfl) ?_
  refine m_cI 161 3 rfl rfl rfl (A := [.long m13.toInt64, .long (48 : Int64), .long (57 : Int64)]) rfl rfl (Or.inl rfl) (rest := []) rfl rfl rfl ?_
  refine c_inJ m13 (48 : Int32) (57 : Int32) g rfl rfl rfl ?_
  refine m_b (c := z_bt ((48 : Int32) ≤ m13 ∧ m13 ≤ (57 : Int32)) = 0) (pc' := 217) (L' := [some (.ref 27), some (.int y1)]) (S' := []) (pc2 := 161) (L2 := [some (.ref 27), some (.int y1)]) (S2 := []) rfl (fun _ => rfl) (fun hc => ?_) (fun hc => ?_)
  · have hc := z_bt_0.mp hc
    rw [if_neg hc] at H
    refine m_n 2 (pc' := 219) (L' := [some (.ref 27), some (.int y1)]) (S' := [.int (2 : Int32), .ref 27]) (fun _ => rfl) ?_
    refine m_pI rfl ?_
    obtain ⟨g15, eg15⟩ : ∃ m : zG, m = (z_up2 g 27 41 (2 : Int32)) := ⟨_, rfl⟩
    have H := H g15 eg15
    refine z_nmG eg15 ?_
    refine m_n 1 (pc' := 223) (L' := [some (.ref 27), some (.int y1)]) (S' := [.ref 27]) (fun _ => rfl) ?_
    refine m_gI rfl ?_
    refine m_n 1 (pc' := 227) (L' := [some (.ref 27), some (.int y1)]) (S' := [.ref 27, .int (g15 27 39)]) (fun _ => rfl) ?_
    refine m_gI rfl ?_
    refine m_n 2 (pc' := 232) (L' := [some (.ref 27), some (.int y1)]) (S' := [.int (4 : Int32), .int ((g15 27 39) - (g15 27 40))]) (fun _ => rfl) ?_
    refine m_b (c := ((g15 27 39) - (g15 27 40)) ≤ (4 : Int32)) (pc' := 269) (L' := [some (.ref 27), some (.int y1)]) (S' := []) (pc2 := 235) (L2 := [some (.ref 27), some (.int y1)]) (S2 := []) rfl (fun _ => rfl) (fun hc => ?_) (fun hc => ?_)
    · have hc := hc
      rw [if_pos hc] at H
      exact m_r rfl rfl rfl H
    · have hc := hc
      rw [if_neg hc] at H
      refine m_n 2 (pc' := 237) (L' := [some (.ref 27), some (.int y1)]) (S' := [.int (1 : Int32), .ref 27]) (fun _ => rfl) ?_
      refine m_cV 186 2 rfl rfl rfl (A := [.ref 27, .int (1 : Int32)]) rfl rfl (Or.inr ⟨rfl, _, rfl⟩) (rest := []) rfl rfl ?_
      refine H.mono (fun r16 g17 H => ?_)
      refine m_n 1 (pc' := 269) (L' := [some (.ref 27), some (.int y1)]) (S' := []) (fun _ => rfl) ?_
      exact m_r rfl rfl rfl H
  · have hc := Decidable.not_not.mp (fun q => hc (z_bt_0.mpr q))
    rw [if_pos hc] at H
    refine m_n 2 (pc' := 163) (L' := [some (.ref 27), some (.int y1)]) (S' := [.ref 27, .ref 27]) (fun _ => rfl) ?_
    refine m_gI rfl ?_
    refine m_n 1 (pc' := 167) (L' := [some (.ref 27), some (.int y1)]) (S' := [.ref 27, .int (g 27 39), .ref 27]) (fun _ => rfl) ?_
    refine m_gI rfl ?_
    refine m_n 2 (pc' := 172) (L' := [some (.ref 27), some (.int y1)]) (S' := [.int (4 : Int32), .int ((g 27 39) - (g 27 40)), .ref 27]) (fun _ => rfl) ?_
    refine m_b (c := (4 : Int32) ≤ ((g 27 39) - (g 27 40))) (pc' := 197) (L' := [some (.ref 27), some (.int y1)]) (S' := [.ref 27]) (pc2 := 175) (L2 := [some (.ref 27), some (.int y1)]) (S2 := [.ref 27]) rfl (fun _ => rfl) (fun hc => ?_) (fun hc => ?_)
    · have hc := hc
      rw [if_pos hc] at H
      refine m_n 1 (pc' := 198) (L' := [some (.ref 27), some (.int y1)]) (S' := [.ref 27, .ref 27]) (fun _ => rfl) ?_
      refine m_gI rfl ?_
      refine m_pI rfl ?_
      obtain ⟨g18, eg18⟩ : ∃ m : zG, m = (z_up2 g 27 42 (g 27 42)) := ⟨_, rfl⟩
      have H := H g18 eg18
      refine z_nmG eg18 ?_
      refine m_n 2 (pc' := 206) (L' := [some (.ref 27), some (.int y1)]) (S' := [.ref 27, .ref 27]) (fun _ => rfl) ?_
      refine m_gI rfl ?_
      refine m_n 2 (pc' := 211) (L' := [some (.ref 27), some (.int y1)]) (S' := [.int ((g18 27 39) + (1 : Int32)), .ref 27]) (fun _ => rfl) ?_
      refine m_pI rfl ?_
      obtain ⟨g19, eg19⟩ : ∃ m : zG, m = (z_up2 g18 27 39 ((g18 27 39) + (1 : Int32))) := ⟨_, rfl⟩
      have H := H g19 eg19
      refine z_nmG eg19 ?_
      refine m_n 1 (pc' := 140) (L' := [some (.ref 27), some (.int y1)]) (S' := []) (fun _ => rfl) ?_
      exact H
    · have hc := hc
      rw [if_neg hc] at H
      refine m_n 2 (pc' := 178) (L' := [some (.ref 27), some (.int y1)]) (S' := [.ref 27, .int (10 : Int32), .ref 27]) (fun _ => rfl) ?_
      refine m_gI rfl ?_
      refine m_n 3 (pc' := 184) (L' := [some (.ref 27), some (.int y1)]) (S' := [.ref 27, .ref 27, .int ((10 : Int32) * (g 27 42)), .ref 27]) (fun _ => rfl) ?_
      refine m_gI rfl ?_
      refine m_cI 185 2 rfl rfl rfl (A := [.ref 27, .int (g 27 39)]) rfl rfl (Or.inr ⟨rfl, _, rfl⟩) (rest := [.int ((10 : Int32) * (g 27 42)), .ref 27]) rfl rfl rfl ?_
      obtain ⟨o21, H⟩ := H
      obtain ⟨m20, em20⟩ : ∃ m : Int32, m = (if (g 27 35) ≤ (g 27 39) then (-4 : Int32) else (g 59 (z_ix (g 27 39)))) := ⟨_, rfl⟩
      have H := H m20 em20
      refine X_185 (g 27 39) g ⟨o21, (z_all em20 ?_)⟩
      refine m_n 4 (pc' := 201) (L' := [some (.ref 27), some (.int y1)]) (S' := [.int ((((10 : Int32) * (g 27 42)) + m20) - (48 : Int32)), .ref 27]) (fun _ => rfl) ?_
      refine m_pI rfl ?_
      obtain ⟨g22, eg22⟩ : ∃ m : zG, m = (z_up2 g 27 42 ((((10 : Int32) * (g 27 42)) + m20) - (48 : Int32))) := ⟨_, rfl⟩
      have H := H g22 eg22
      refine z_nmG eg22 ?_
      refine m_n 2 (pc' := 206) (L' := [some (.ref 27), some (.int y1)]) (S' := [.ref 27, .ref 27]) (fun _ => rfl) ?_
      refine m_gI rfl ?_
      refine m_n 2 (pc' := 211) (L' := [some (.ref 27), some (.int y1)]) (S' := [.int ((g22 27 39) + (1 : Int32)), .ref 27]) (fun _ => rfl) ?_
      refine m_pI rfl ?_
      obtain ⟨g23, eg23⟩ : ∃ m : zG, m = (z_up2 g22 27 39 ((g22 27 39) + (1 : Int32))) := ⟨_, rfl⟩
      have H := H g23 eg23
      refine z_nmG eg23 ?_
      refine m_n 1 (pc' := 140) (L' := [some (.ref 27), some (.int y1)]) (S' := []) (fun _ => rfl) ?_
      exact H
set_option maxRecDepth 20000 in
theorem X_187_84 (y1 : Int32) (g : zG) {Q : Unit → zG → Prop} (H : (¬ ((g 27 35) ≤ (g 27 39)) → 0 ≤ (g 27 39).toInt ∧ (g 27 39).toInt < 200) ∧ (∀ m24 : Int32, m24 = (if (g 27 35) ≤ (g 27 39) then (-4 : Int32) else (g 59 (z_ix (g 27 39)))) → if (97 : Int32) ≤ m24 ∧ m24 ≤ (122 : Int32) then (∀ g27 : zG, g27 = (z_up2 g 27 39 ((g 27 39) + (1 : Int32))) → MG z_pV 187 84 [some (.ref 27), some (.int y1)] [] g27 Q) else (∀ g26 : zG, g26 = (z_up2 g 27 41 (1 : Int32)) → Q () g26))) : MG z_pV 187 84 [some (.ref 27), some (.int y1)] [] g Q := by
  refine m_n 2 (pc' := 86) (L' := [some (.ref 27), some (.int y1)]) (S' := [.ref 27, .ref 27]) (fun _ => rfl) ?_
  refine m_gI rfl ?_
  refine m_cI 185 2 rfl rfl rfl (A := [.ref 27, .int (g 27 39)]) rfl rfl (Or.inr ⟨rfl, _, rfl⟩) (rest := []) rfl rfl rfl ?_
  obtain ⟨o25, H⟩ := H
  obtain ⟨m24, em24⟩ : ∃ m : Int32, m = (if (g 27 35) ≤ (g 27 39) then (-4 : Int32) else (g 59 (z_ix (g 27 39)))) := ⟨_, rfl⟩
  have H := H m24 em24
  refine X_185 (g 27 39) g ⟨o25, (z_all em24 ?_)⟩
  refine m_n 3 (pc' := 99) (L' := [some (.ref 27), some (.int y1)]) (S' := [.long (122 : Int64), .long (97 : Int64), .long m24.toInt64]) (fun _ => rfl) ?_
  refine m_cI 161 3 rfl rfl rfl (A := [.long m24.toInt64, .long (97 : Int64), .long (122 : Int64)]) rfl rfl (Or.inl rfl) (rest := []) rfl rfl rfl ?_
  refine c_inJ m24 (97 : Int32) (122 : Int32) g rfl rfl rfl ?_
  refine m_b (c := z_bt ((97 : Int32) ≤ m24 ∧ m24 ≤ (122 : Int32)) = 0) (pc' := 118) (L' := [some (.ref 27), some (.int y1)]) (S' := []) (pc2 := 105) (L2 := [some (.ref 27), some (.int y1)]) (S2 := []) rfl (fun _ => rfl) (fun hc => ?_) (fun hc => ?_)
  · have hc := z_bt_0.mp hc
    rw [if_neg hc] at H
    refine m_n 2 (pc' := 120) (L' := [some (.ref 27), some (.int y1)]) (S' := [.int (1 : Int32), .ref 27]) (fun _ => rfl) ?_
    refine m_pI rfl ?_
    obtain ⟨g26, eg26⟩ : ∃ m : zG, m = (z_up2 g 27 41 (1 : Int32)) := ⟨_, rfl⟩
    have H := H g26 eg26
    refine z_nmG eg26 ?_
    refine m_n 1 (pc' := 269) (L' := [some (.ref 27), some (.int y1)]) (S' := []) (fun _ => rfl) ?_
    exact m_r rfl rfl rfl H
  · have hc := Decidable.not_not.mp (fun q => hc (z_bt_0.mpr q))
    rw [if_pos hc] at H
    refine m_n 2 (pc' := 107) (L' := [some (.ref 27), some (.int y1)]) (S' := [.ref 27, .ref 27]) (fun _ => rfl) ?_
    refine m_gI rfl ?_
    refine m_n 2 (pc' := 112) (L' := [some (.ref 27), some (.int y1)]) (S' := [.int ((g 27 39) + (1 : Int32)), .ref 27]) (fun _ => rfl) ?_
    refine m_pI rfl ?_
    obtain ⟨g27, eg27⟩ : ∃ m : zG, m = (z_up2 g 27 39 ((g 27 39) + (1 : Int32))) := ⟨_, rfl⟩
    have H := H g27 eg27
    refine z_nmG eg27 ?_
    refine m_n 1 (pc' := 84) (L' := [some (.ref 27), some (.int y1)]) (S' := []) (fun _ => rfl) ?_
    exact H
set_option maxRecDepth 20000 in
theorem X_188  (g : zG) {Q : Int32 → zG → Prop} (H : MG z_pI 188 2 [some (.ref 27), some (.int (0 : Int32)), none, none] [] g Q) : MK z_pI 188 [.ref 27] g Q := by
  refine m_K (L := [some (.ref 27), none, none, none]) rfl ?_
  refine m_n 2 (pc' := 2) (L' := [some (.ref 27), some (.int (0 : Int32)), none, none]) (S' := []) (fun _ => rfl) ?_
  exact H
set_option maxRecDepth 20000 in
theorem X_188_2 (y1 : Int32) (u2 : Option Value) (u3 : Option Value) (g : zG) {Q : Int32 → zG → Prop} (H : if (8 : Int32) ≤ y1 then (Q (-4 : Int32) g) else ((((g 27 41) = (1 : Int32)) → 0 ≤ (y1 + (1 : Int32)).toInt ∧ (y1 + (1 : Int32)).toInt < 9) ∧ (((g 27 41) = (1 : Int32)) → 0 ≤ y1.toInt ∧ y1.toInt < 9) ∧ MG z_pI 188 51 [some (.ref 27), some (.int y1), some (.int (z_bt (((g 27 41) = (1 : Int32)) ∧ (((g 27 39) - (g 27 40)) = ((g 60 (z_ix (y1 + (1 : Int32)))) - (g 60 (z_ix y1))))))), some (.int (0 : Int32))] [] g Q)) : MG z_pI 188 2 [some (.ref 27), some (.int y1), u2, u3] [] g Q := by
  refine m_n 2 (pc' := 5) (L' := [some (.ref 27), some (.int y1), u2, u3]) (S' := [.int (8 : Int32), .int y1]) (fun _ => rfl) ?_
  refine m_b (c := (8 : Int32) ≤ y1) (pc' := 118) (L' := [some (.ref 27), some (.int y1), u2, u3]) (S' := []) (pc2 := 8) (L2 := [some (.ref 27), some (.int y1), u2, u3]) (S2 := []) rfl (fun _ => rfl) (fun hc => ?_) (fun hc => ?_)
  · have hc := hc
    rw [if_pos hc] at H
    refine m_n 1 (pc' := 120) (L' := [some (.ref 27), some (.int y1), u2, u3]) (S' := [.int (-4 : Int32)]) (fun _ => rfl) ?_
    exact m_r rfl rfl rfl H
  · have hc := hc
    rw [if_neg hc] at H
    refine m_n 1 (pc' := 9) (L' := [some (.ref 27), some (.int y1), u2, u3]) (S' := [.ref 27]) (fun _ => rfl) ?_
    refine m_gI rfl ?_
    refine m_n 1 (pc' := 13) (L' := [some (.ref 27), some (.int y1), u2, u3]) (S' := [.int (1 : Int32), .int (g 27 41)]) (fun _ => rfl) ?_
    obtain ⟨o2, H⟩ := H
    obtain ⟨o3, H⟩ := H
    have hj5 : MG z_pI 188 48 [some (.ref 27), some (.int y1), u2, u3] [.int (z_bt (((g 27 41) = (1 : Int32)) ∧ (((g 27 39) - (g 27 40)) = ((g 60 (z_ix (y1 + (1 : Int32)))) - (g 60 (z_ix y1))))))] g Q := by
      refine m_n 3 (pc' := 51) (L' := [some (.ref 27), some (.int y1), some (.int (z_bt (((g 27 41) = (1 : Int32)) ∧ (((g 27 39) - (g 27 40)) = ((g 60 (z_ix (y1 + (1 : Int32)))) - (g 60 (z_ix y1))))))), some (.int (0 : Int32))]) (S' := []) (fun _ => rfl) ?_
      exact H
    refine m_b (c := (g 27 41) = (1 : Int32)) (pc' := 16) (L' := [some (.ref 27), some (.int y1), u2, u3]) (S' := []) (pc2 := 47) (L2 := [some (.ref 27), some (.int y1), u2, u3]) (S2 := []) rfl (fun _ => rfl) (fun hc => ?_) (fun hc => ?_)
    · have c1 := hc
      refine m_n 1 (pc' := 17) (L' := [some (.ref 27), some (.int y1), u2, u3]) (S' := [.ref 27]) (fun _ => rfl) ?_
      refine m_gI rfl ?_
      refine m_n 1 (pc' := 21) (L' := [some (.ref 27), some (.int y1), u2, u3]) (S' := [.ref 27, .int (g 27 39)]) (fun _ => rfl) ?_
      refine m_gI rfl ?_
      refine m_n 2 (pc' := 26) (L' := [some (.ref 27), some (.int y1), u2, u3]) (S' := [.ref 27, .int ((g 27 39) - (g 27 40))]) (fun _ => rfl) ?_
      refine m_gR (q := 60) rfl (by decide) ?_
      refine m_n 3 (pc' := 32) (L' := [some (.ref 27), some (.int y1), u2, u3]) (S' := [.int (y1 + (1 : Int32)), .ref 60, .int ((g 27 39) - (g 27 40))]) (fun _ => rfl) ?_
      refine m_ia 9 rfl rfl (o2 c1) ?_
      refine m_n 1 (pc' := 34) (L' := [some (.ref 27), some (.int y1), u2, u3]) (S' := [.ref 27, .int (g 60 (z_ix (y1 + (1 : Int32)))), .int ((g 27 39) - (g 27 40))]) (fun _ => rfl) ?_
      refine m_gR (q := 60) rfl (by decide) ?_
      refine m_n 1 (pc' := 38) (L' := [some (.ref 27), some (.int y1), u2, u3]) (S' := [.int y1, .ref 60, .int (g 60 (z_ix (y1 + (1 : Int32)))), .int ((g 27 39) - (g 27 40))]) (fun _ => rfl) ?_
      refine m_ia 9 rfl rfl (o3 c1) ?_
      refine m_n 1 (pc' := 40) (L' := [some (.ref 27), some (.int y1), u2, u3]) (S' := [.int ((g 60 (z_ix (y1 + (1 : Int32)))) - (g 60 (z_ix y1))), .int ((g 27 39) - (g 27 40))]) (fun _ => rfl) ?_
      refine m_b (c := ((g 27 39) - (g 27 40)) = ((g 60 (z_ix (y1 + (1 : Int32)))) - (g 60 (z_ix y1)))) (pc' := 43) (L' := [some (.ref 27), some (.int y1), u2, u3]) (S' := []) (pc2 := 47) (L2 := [some (.ref 27), some (.int y1), u2, u3]) (S2 := []) rfl (fun _ => rfl) (fun hc => ?_) (fun hc => ?_)
      · have c4 := hc
        refine m_n 2 (pc' := 48) (L' := [some (.ref 27), some (.int y1), u2, u3]) (S' := [.int (1 : Int32)]) (fun _ => rfl) ?_
        rw [show z_bt (((g 27 41) = (1 : Int32)) ∧ (((g 27 39) - (g 27 40)) = ((g 60 (z_ix (y1 + (1 : Int32)))) - (g 60 (z_ix y1))))) = 1 from z_bt_1.mpr (⟨c1, c4⟩)] at hj5
        exact hj5
      · have c4 := hc
        refine m_n 1 (pc' := 48) (L' := [some (.ref 27), some (.int y1), u2, u3]) (S' := [.int (0 : Int32)]) (fun _ => rfl) ?_
        rw [show z_bt (((g 27 41) = (1 : Int32)) ∧ (((g 27 39) - (g 27 40)) = ((g 60 (z_ix (y1 + (1 : Int32)))) - (g 60 (z_ix y1))))) = 0 from z_bt_0.mpr ((fun q => c4 q.2))] at hj5
        exact hj5
    · have c1 := hc
      refine m_n 1 (pc' := 48) (L' := [some (.ref 27), some (.int y1), u2, u3]) (S' := [.int (0 : Int32)]) (fun _ => rfl) ?_
      rw [show z_bt (((g 27 41) = (1 : Int32)) ∧ (((g 27 39) - (g 27 40)) = ((g 60 (z_ix (y1 + (1 : Int32)))) - (g 60 (z_ix y1))))) = 0 from z_bt_0.mpr ((fun q => c1 q.1))] at hj5
      exact hj5
set_option maxRecDepth 20000 in
theorem X_188_51 (y1 : Int32) (y2 : Int32) (y3 : Int32) (g : zG) {Q : Int32 → zG → Prop} (H : if y2 = 0 then (if y2 = 0 then (MG z_pI 188 2 [some (.ref 27), some (.int (y1 + (1 : Int32))), some (.int y2), some (.int y3)] [] g Q) else (Q y1 g)) else (if ((g 27 39) - (g 27 40)) ≤ y3 then (if y2 = 0 then (MG z_pI 188 2 [some (.ref 27), some (.int (y1 + (1 : Int32))), some (.int y2), some (.int y3)] [] g Q) else (Q y1 g)) else ((¬ ((g 27 35) ≤ ((g 27 40) + y3)) → 0 ≤ ((g 27 40) + y3).toInt ∧ ((g 27 40) + y3).toInt < 200) ∧ (∀ m6 : Int32, m6 = (if (g 27 35) ≤ ((g 27 40) + y3) then (-4 : Int32) else (g 59 (z_ix ((g 27 40) + y3)))) → (0 ≤ y1.toInt ∧ y1.toInt < 9) ∧ (0 ≤ ((g 60 (z_ix y1)) + y3).toInt ∧ ((g 60 (z_ix y1)) + y3).toInt < 37) ∧ MG z_pI 188 51 [some (.ref 27), some (.int y1), some (.int (z_bt (m6 = (g 61 (z_ix ((g 60 (z_ix y1)) + y3)))))), some (.int (y3 + (1 : Int32)))] [] g Q)))) : MG z_pI 188 51 [some (.ref 27), some (.int y1), some (.int y2), some (.int y3)] [] g Q := by
  refine m_n 1 (pc' := 52) (L' := [some (.ref 27), some (.int y1), some (.int y2), some (.int y3)]) (S' := [.int y2]) (fun _ => rfl) ?_
  refine m_b (c := y2 = 0) (pc' := 106) (L' := [some (.ref 27), some (.int y1), some (.int y2), some (.int y3)]) (S' := []) (pc2 := 55) (L2 := [some (.ref 27), some (.int y1), some (.int y2), some (.int y3)]) (S2 := []) rfl (fun _ => rfl) (fun hc => ?_) (fun hc => ?_)
  · have hc := hc
    rw [if_pos hc] at H
    refine m_n 1 (pc' := 107) (L' := [some (.ref 27), some (.int y1), some (.int y2), some (.int y3)]) (S' := [.int y2]) (fun _ => rfl) ?_
    refine m_b (c := y2 = 0) (pc' := 112) (L' := [some (.ref 27), some (.int y1), some (.int y2), some (.int y3)]) (S' := []) (pc2 := 110) (L2 := [some (.ref 27), some (.int y1), some (.int y2), some (.int y3)]) (S2 := []) rfl (fun _ => rfl) (fun hc => ?_) (fun hc => ?_)
    · have hc := hc
      rw [if_pos hc] at H
      refine m_n 2 (pc' := 2) (L' := [some (.ref 27), some (.int (y1 + (1 : Int32))), some (.int y2), some (.int y3)]) (S' := []) (fun _ => rfl) ?_
      exact H
    · have hc := hc
      rw [if_neg hc] at H
      refine m_n 1 (pc' := 111) (L' := [some (.ref 27), some (.int y1), some (.int y2), some (.int y3)]) (S' := [.int y1]) (fun _ => rfl) ?_
      exact m_r rfl rfl rfl H
  · have hc := hc
    rw [if_neg hc] at H
    refine m_n 2 (pc' := 57) (L' := [some (.ref 27), some (.int y1), some (.int y2), some (.int y3)]) (S' := [.ref 27, .int y3]) (fun _ => rfl) ?_
    refine m_gI rfl ?_
    refine m_n 1 (pc' := 61) (L' := [some (.ref 27), some (.int y1), some (.int y2), some (.int y3)]) (S' := [.ref 27, .int (g 27 39), .int y3]) (fun _ => rfl) ?_
    refine m_gI rfl ?_
    refine m_n 1 (pc' := 65) (L' := [some (.ref 27), some (.int y1), some (.int y2), some (.int y3)]) (S' := [.int ((g 27 39) - (g 27 40)), .int y3]) (fun _ => rfl) ?_
    refine m_b (c := ((g 27 39) - (g 27 40)) ≤ y3) (pc' := 106) (L' := [some (.ref 27), some (.int y1), some (.int y2), some (.int y3)]) (S' := []) (pc2 := 68) (L2 := [some (.ref 27), some (.int y1), some (.int y2), some (.int y3)]) (S2 := []) rfl (fun _ => rfl) (fun hc => ?_) (fun hc => ?_)
    · have hc := hc
      rw [if_pos hc] at H
      refine m_n 1 (pc' := 107) (L' := [some (.ref 27), some (.int y1), some (.int y2), some (.int y3)]) (S' := [.int y2]) (fun _ => rfl) ?_
      refine m_b (c := y2 = 0) (pc' := 112) (L' := [some (.ref 27), some (.int y1), some (.int y2), some (.int y3)]) (S' := []) (pc2 := 110) (L2 := [some (.ref 27), some (.int y1), some (.int y2), some (.int y3)]) (S2 := []) rfl (fun _ => rfl) (fun hc => ?_) (fun hc => ?_)
      · have hc := hc
        rw [if_pos hc] at H
        refine m_n 2 (pc' := 2) (L' := [some (.ref 27), some (.int (y1 + (1 : Int32))), some (.int y2), some (.int y3)]) (S' := []) (fun _ => rfl) ?_
        exact H
      · have hc := hc
        rw [if_neg hc] at H
        refine m_n 1 (pc' := 111) (L' := [some (.ref 27), some (.int y1), some (.int y2), some (.int y3)]) (S' := [.int y1]) (fun _ => rfl) ?_
        exact m_r rfl rfl rfl H
    · have hc := hc
      rw [if_neg hc] at H
      refine m_n 2 (pc' := 70) (L' := [some (.ref 27), some (.int y1), some (.int y2), some (.int y3)]) (S' := [.ref 27, .ref 27]) (fun _ => rfl) ?_
      refine m_gI rfl ?_
      refine m_n 2 (pc' := 75) (L' := [some (.ref 27), some (.int y1), some (.int y2), some (.int y3)]) (S' := [.int ((g 27 40) + y3), .ref 27]) (fun _ => rfl) ?_
      refine m_cI 185 2 rfl rfl rfl (A := [.ref 27, .int ((g 27 40) + y3)]) rfl rfl (Or.inr ⟨rfl, _, rfl⟩) (rest := []) rfl rfl rfl ?_
      obtain ⟨o7, H⟩ := H
      obtain ⟨m6, em6⟩ : ∃ m : Int32, m = (if (g 27 35) ≤ ((g 27 40) + y3) then (-4 : Int32) else (g 59 (z_ix ((g 27 40) + y3)))) := ⟨_, rfl⟩
      have H := H m6 em6
      refine X_185 ((g 27 40) + y3) g ⟨o7, (z_all em6 ?_)⟩
      refine m_n 1 (pc' := 79) (L' := [some (.ref 27), some (.int y1), some (.int y2), some (.int y3)]) (S' := [.ref 27, .int m6]) (fun _ => rfl) ?_
      refine m_gR (q := 61) rfl (by decide) ?_
      refine m_n 1 (pc' := 83) (L' := [some (.ref 27), some (.int y1), some (.int y2), some (.int y3)]) (S' := [.ref 27, .ref 61, .int m6]) (fun _ => rfl) ?_
      refine m_gR (q := 60) rfl (by decide) ?_
      refine m_n 1 (pc' := 87) (L' := [some (.ref 27), some (.int y1), some (.int y2), some (.int y3)]) (S' := [.int y1, .ref 60, .ref 61, .int m6]) (fun _ => rfl) ?_
      obtain ⟨o8, H⟩ := H
      refine m_ia 9 rfl rfl o8 ?_
      refine m_n 2 (pc' := 90) (L' := [some (.ref 27), some (.int y1), some (.int y2), some (.int y3)]) (S' := [.int ((g 60 (z_ix y1)) + y3), .ref 61, .int m6]) (fun _ => rfl) ?_
      obtain ⟨o9, H⟩ := H
      refine m_ia 37 rfl rfl o9 ?_
      have hj11 : MG z_pI 188 99 [some (.ref 27), some (.int y1), some (.int y2), some (.int y3)] [.int (z_bt (m6 = (g 61 (z_ix ((g 60 (z_ix y1)) + y3)))))] g Q := by
        refine m_n 3 (pc' := 51) (L' := [some (.ref 27), some (.int y1), some (.int (z_bt (m6 = (g 61 (z_ix ((g 60 (z_ix y1)) + y3)))))), some (.int (y3 + (1 : Int32)))]) (S' := []) (fun _ => rfl) ?_
        exact H
      refine m_b (c := m6 = (g 61 (z_ix ((g 60 (z_ix y1)) + y3)))) (pc' := 94) (L' := [some (.ref 27), some (.int y1), some (.int y2), some (.int y3)]) (S' := []) (pc2 := 98) (L2 := [some (.ref 27), some (.int y1), some (.int y2), some (.int y3)]) (S2 := []) rfl (fun _ => rfl) (fun hc => ?_) (fun hc => ?_)
      · have c10 := hc
        refine m_n 2 (pc' := 99) (L' := [some (.ref 27), some (.int y1), some (.int y2), some (.int y3)]) (S' := [.int (1 : Int32)]) (fun _ => rfl) ?_
        rw [show z_bt (m6 = (g 61 (z_ix ((g 60 (z_ix y1)) + y3)))) = 1 from z_bt_1.mpr (c10)] at hj11
        exact hj11
      · have c10 := hc
        refine m_n 1 (pc' := 99) (L' := [some (.ref 27), some (.int y1), some (.int y2), some (.int y3)]) (S' := [.int (0 : Int32)]) (fun _ => rfl) ?_
        rw [show z_bt (m6 = (g 61 (z_ix ((g 60 (z_ix y1)) + y3)))) = 0 from z_bt_0.mpr (c10)] at hj11
        exact hj11
set_option maxRecDepth 20000 in
theorem X_189 (x1 : Int32) (x2 : Int32) (g : zG) {Q : Unit → zG → Prop} (H : if (g 27 37) = 0 then (if (g 27 41) = (2 : Int32) then (if (g 27 37) = 0 then (if x1 ≤ (g 27 42) ∧ (g 27 42) ≤ x2 then (Q () g) else (MK z_pV 186 [.ref 27, .int (3 : Int32)] g (fun r1 g2 => Q () g2))) else (Q () g)) else (MK z_pV 186 [.ref 27, .int (2 : Int32)] g (fun r3 g4 => if (g4 27 37) = 0 then (if x1 ≤ (g4 27 42) ∧ (g4 27 42) ≤ x2 then (Q () g4) else (MK z_pV 186 [.ref 27, .int (3 : Int32)] g4 (fun r5 g6 => Q () g6))) else (Q () g4)))) else (if (g 27 37) = 0 then (if x1 ≤ (g 27 42) ∧ (g 27 42) ≤ x2 then (Q () g) else (MK z_pV 186 [.ref 27, .int (3 : Int32)] g (fun r7 g8 => Q () g8))) else (Q () g))) : MK z_pV 189 [.ref 27, .int x1, .int x2] g Q := by
  refine m_K (L := [some (.ref 27), some (.int x1), some (.int x2)]) rfl ?_
  refine m_n 1 (pc' := 1) (L' := [some (.ref 27), some (.int x1), some (.int x2)]) (S' := [.ref 27]) (fun _ => rfl) ?_
  refine m_gI rfl ?_
  refine m_b (c := (g 27 37) = 0) (pc' := 7) (L' := [some (.ref 27), some (.int x1), some (.int x2)]) (S' := []) (pc2 := 20) (L2 := [some (.ref 27), some (.int x1), some (.int x2)]) (S2 := []) rfl (fun _ => rfl) (fun hc => ?_) (fun hc => ?_)
  · have hc := hc
    rw [if_pos hc] at H
    refine m_n 1 (pc' := 8) (L' := [some (.ref 27), some (.int x1), some (.int x2)]) (S' := [.ref 27]) (fun _ => rfl) ?_
    refine m_gI rfl ?_
    refine m_n 1 (pc' := 12) (L' := [some (.ref 27), some (.int x1), some (.int x2)]) (S' := [.int (2 : Int32), .int (g 27 41)]) (fun _ => rfl) ?_
    refine m_b (c := (g 27 41) = (2 : Int32)) (pc' := 20) (L' := [some (.ref 27), some (.int x1), some (.int x2)]) (S' := []) (pc2 := 15) (L2 := [some (.ref 27), some (.int x1), some (.int x2)]) (S2 := []) rfl (fun _ => rfl) (fun hc => ?_) (fun hc => ?_)
    · have hc := hc
      rw [if_pos hc] at H
      refine m_n 1 (pc' := 21) (L' := [some (.ref 27), some (.int x1), some (.int x2)]) (S' := [.ref 27]) (fun _ => rfl) ?_
      refine m_gI rfl ?_
      refine m_b (c := (g 27 37) = 0) (pc' := 27) (L' := [some (.ref 27), some (.int x1), some (.int x2)]) (S' := []) (pc2 := 47) (L2 := [some (.ref 27), some (.int x1), some (.int x2)]) (S2 := []) rfl (fun _ => rfl) (fun hc => ?_) (fun hc => ?_)
      · have hc := hc
        rw [if_pos hc] at H
        refine m_n 1 (pc' := 28) (L' := [some (.ref 27), some (.int x1), some (.int x2)]) (S' := [.ref 27]) (fun _ => rfl) ?_
        refine m_gI rfl ?_
        refine m_n 5 (pc' := 36) (L' := [some (.ref 27), some (.int x1), some (.int x2)]) (S' := [.long x2.toInt64, .long x1.toInt64, .long ((g 27 42).toInt64)]) (fun _ => rfl) ?_
        refine m_cI 161 3 rfl rfl rfl (A := [.long ((g 27 42).toInt64), .long x1.toInt64, .long x2.toInt64]) rfl rfl (Or.inl rfl) (rest := []) rfl rfl rfl ?_
        refine c_inJ (g 27 42) x1 x2 g rfl rfl rfl ?_
        refine m_b (c := z_bt (x1 ≤ (g 27 42) ∧ (g 27 42) ≤ x2) = 0) (pc' := 42) (L' := [some (.ref 27), some (.int x1), some (.int x2)]) (S' := []) (pc2 := 47) (L2 := [some (.ref 27), some (.int x1), some (.int x2)]) (S2 := []) rfl (fun _ => rfl) (fun hc => ?_) (fun hc => ?_)
        · have hc := z_bt_0.mp hc
          rw [if_neg hc] at H
          refine m_n 2 (pc' := 44) (L' := [some (.ref 27), some (.int x1), some (.int x2)]) (S' := [.int (3 : Int32), .ref 27]) (fun _ => rfl) ?_
          refine m_cV 186 2 rfl rfl rfl (A := [.ref 27, .int (3 : Int32)]) rfl rfl (Or.inr ⟨rfl, _, rfl⟩) (rest := []) rfl rfl ?_
          refine H.mono (fun r1 g2 H => ?_)
          exact m_r rfl rfl rfl H
        · have hc := Decidable.not_not.mp (fun q => hc (z_bt_0.mpr q))
          rw [if_pos hc] at H
          exact m_r rfl rfl rfl H
      · have hc := hc
        rw [if_neg hc] at H
        exact m_r rfl rfl rfl H
    · have hc := hc
      rw [if_neg hc] at H
      refine m_n 2 (pc' := 17) (L' := [some (.ref 27), some (.int x1), some (.int x2)]) (S' := [.int (2 : Int32), .ref 27]) (fun _ => rfl) ?_
      refine m_cV 186 2 rfl rfl rfl (A := [.ref 27, .int (2 : Int32)]) rfl rfl (Or.inr ⟨rfl, _, rfl⟩) (rest := []) rfl rfl ?_
      refine H.mono (fun r3 g4 H => ?_)
      refine m_n 1 (pc' := 21) (L' := [some (.ref 27), some (.int x1), some (.int x2)]) (S' := [.ref 27]) (fun _ => rfl) ?_
      refine m_gI rfl ?_
      refine m_b (c := (g4 27 37) = 0) (pc' := 27) (L' := [some (.ref 27), some (.int x1), some (.int x2)]) (S' := []) (pc2 := 47) (L2 := [some (.ref 27), some (.int x1), some (.int x2)]) (S2 := []) rfl (fun _ => rfl) (fun hc => ?_) (fun hc => ?_)
      · have hc := hc
        rw [if_pos hc] at H
        refine m_n 1 (pc' := 28) (L' := [some (.ref 27), some (.int x1), some (.int x2)]) (S' := [.ref 27]) (fun _ => rfl) ?_
        refine m_gI rfl ?_
        refine m_n 5 (pc' := 36) (L' := [some (.ref 27), some (.int x1), some (.int x2)]) (S' := [.long x2.toInt64, .long x1.toInt64, .long ((g4 27 42).toInt64)]) (fun _ => rfl) ?_
        refine m_cI 161 3 rfl rfl rfl (A := [.long ((g4 27 42).toInt64), .long x1.toInt64, .long x2.toInt64]) rfl rfl (Or.inl rfl) (rest := []) rfl rfl rfl ?_
        refine c_inJ (g4 27 42) x1 x2 g4 rfl rfl rfl ?_
        refine m_b (c := z_bt (x1 ≤ (g4 27 42) ∧ (g4 27 42) ≤ x2) = 0) (pc' := 42) (L' := [some (.ref 27), some (.int x1), some (.int x2)]) (S' := []) (pc2 := 47) (L2 := [some (.ref 27), some (.int x1), some (.int x2)]) (S2 := []) rfl (fun _ => rfl) (fun hc => ?_) (fun hc => ?_)
        · have hc := z_bt_0.mp hc
          rw [if_neg hc] at H
          refine m_n 2 (pc' := 44) (L' := [some (.ref 27), some (.int x1), some (.int x2)]) (S' := [.int (3 : Int32), .ref 27]) (fun _ => rfl) ?_
          refine m_cV 186 2 rfl rfl rfl (A := [.ref 27, .int (3 : Int32)]) rfl rfl (Or.inr ⟨rfl, _, rfl⟩) (rest := []) rfl rfl ?_
          refine H.mono (fun r5 g6 H => ?_)
          exact m_r rfl rfl rfl H
        · have hc := Decidable.not_not.mp (fun q => hc (z_bt_0.mpr q))
          rw [if_pos hc] at H
          exact m_r rfl rfl rfl H
      · have hc := hc
        rw [if_neg hc] at H
        exact m_r rfl rfl rfl H
  · have hc := hc
    rw [if_neg hc] at H
    refine m_n 1 (pc' := 21) (L' := [some (.ref 27), some (.int x1), some (.int x2)]) (S' := [.ref 27]) (fun _ => rfl) ?_
    refine m_gI rfl ?_
    refine m_b (c := (g 27 37) = 0) (pc' := 27) (L' := [some (.ref 27), some (.int x1), some (.int x2)]) (S' := []) (pc2 := 47) (L2 := [some (.ref 27), some (.int x1), some (.int x2)]) (S2 := []) rfl (fun _ => rfl) (fun hc => ?_) (fun hc => ?_)
    · have hc := hc
      rw [if_pos hc] at H
      refine m_n 1 (pc' := 28) (L' := [some (.ref 27), some (.int x1), some (.int x2)]) (S' := [.ref 27]) (fun _ => rfl) ?_
      refine m_gI rfl ?_
      refine m_n 5 (pc' := 36) (L' := [some (.ref 27), some (.int x1), some (.int x2)]) (S' := [.long x2.toInt64, .long x1.toInt64, .long ((g 27 42).toInt64)]) (fun _ => rfl) ?_
      refine m_cI 161 3 rfl rfl rfl (A := [.long ((g 27 42).toInt64), .long x1.toInt64, .long x2.toInt64]) rfl rfl (Or.inl rfl) (rest := []) rfl rfl rfl ?_
      refine c_inJ (g 27 42) x1 x2 g rfl rfl rfl ?_
      refine m_b (c := z_bt (x1 ≤ (g 27 42) ∧ (g 27 42) ≤ x2) = 0) (pc' := 42) (L' := [some (.ref 27), some (.int x1), some (.int x2)]) (S' := []) (pc2 := 47) (L2 := [some (.ref 27), some (.int x1), some (.int x2)]) (S2 := []) rfl (fun _ => rfl) (fun hc => ?_) (fun hc => ?_)
      · have hc := z_bt_0.mp hc
        rw [if_neg hc] at H
        refine m_n 2 (pc' := 44) (L' := [some (.ref 27), some (.int x1), some (.int x2)]) (S' := [.int (3 : Int32), .ref 27]) (fun _ => rfl) ?_
        refine m_cV 186 2 rfl rfl rfl (A := [.ref 27, .int (3 : Int32)]) rfl rfl (Or.inr ⟨rfl, _, rfl⟩) (rest := []) rfl rfl ?_
        refine H.mono (fun r7 g8 H => ?_)
        exact m_r rfl rfl rfl H
      · have hc := Decidable.not_not.mp (fun q => hc (z_bt_0.mpr q))
        rw [if_pos hc] at H
        exact m_r rfl rfl rfl H
    · have hc := hc
      rw [if_neg hc] at H
      exact m_r rfl rfl rfl H
set_option maxRecDepth 20000 in
theorem X_191 (x1 : Int32) (x2 : Int32) (x3 : Int32) (g : zG) {Q : Unit → zG → Prop} (H : MG z_pV 191 3 [some (.ref 27), some (.int x1), some (.int x2), some (.int x3), some (.int (0 : Int32))] [] g Q) : MK z_pV 191 [.ref 27, .int x1, .int x2, .int x3] g Q := by
  refine m_K (L := [some (.ref 27), some (.int x1), some (.int x2), some (.int x3), none]) rfl ?_
  refine m_n 2 (pc' := 3) (L' := [some (.ref 27), some (.int x1), some (.int x2), some (.int x3), some (.int (0 : Int32))]) (S' := []) (fun _ => rfl) ?_
  exact H
set_option maxRecDepth 20000 in
theorem X_191_3 (y1 : Int32) (y2 : Int32) (y3 : Int32) (y4 : Int32) (g : zG) {Q : Unit → zG → Prop} (H : if (g 27 50) ≤ y4 then (Q () g) else (if (g 27 37) = 0 then ((0 ≤ y4.toInt ∧ y4.toInt < 16) ∧ (∀ m2 : Int32, m2 = (if (g 66 (z_ix y4)) = (1 : Int32) then (0 : Int32) else (if (g 66 (z_ix y4)) = (6 : Int32) then (5 : Int32) else (g 66 (z_ix y4)))) → ∀ m3 : Int32, m3 = (if y1 = (1 : Int32) then (0 : Int32) else (if y1 = (6 : Int32) then (5 : Int32) else y1)) → if m2 = m3 then ((0 ≤ y4.toInt ∧ y4.toInt < 16) ∧ (if (g 67 (z_ix y4)) = y2 then ((0 ≤ y4.toInt ∧ y4.toInt < 16) ∧ (if (g 68 (z_ix y4)) = y3 then (MK z_pV 186 [.ref 27, .int (5 : Int32)] g (fun r6 g7 => MG z_pV 191 3 [some (.ref 27), some (.int y1), some (.int y2), some (.int y3), some (.int (y4 + (1 : Int32)))] [] g7 Q)) else (MG z_pV 191 3 [some (.ref 27), some (.int y1), some (.int y2), some (.int y3), some (.int (y4 + (1 : Int32)))] [] g Q))) else (MG z_pV 191 3 [some (.ref 27), some (.int y1), some (.int y2), some (.int y3), some (.int (y4 + (1 : Int32)))] [] g Q))) else (MG z_pV 191 3 [some (.ref 27), some (.int y1), some (.int y2), some (.int y3), some (.int (y4 + (1 : Int32)))] [] g Q))) else (Q () g))) : MG z_pV 191 3 [some (.ref 27), some (.int y1), some (.int y2), some (.int y3), some (.int y4)] [] g Q := by
  refine m_n 2 (pc' := 6) (L' := [some (.ref 27), some (.int y1), some (.int y2), some (.int y3), some (.int y4)]) (S' := [.ref 27, .int y4]) (fun _ => rfl) ?_
  refine m_gI rfl ?_
  refine m_b (c := (g 27 50) ≤ y4) (pc' := 69) (L' := [some (.ref 27), some (.int y1), some (.int y2), some (.int y3), some (.int y4)]) (S' := []) (pc2 := 12) (L2 := [some (.ref 27), some (.int y1), some (.int y2), some (.int y3), some (.int y4)]) (S2 := []) rfl (fun _ => rfl) (fun hc => ?_) (fun hc => ?_)
  · have hc := hc
    rw [if_pos hc] at H
    exact m_r rfl rfl rfl H
  · have hc := hc
    rw [if_neg hc] at H
    refine m_n 1 (pc' := 13) (L' := [some (.ref 27), some (.int y1), some (.int y2), some (.int y3), some (.int y4)]) (S' := [.ref 27]) (fun _ => rfl) ?_
    refine m_gI rfl ?_
    refine m_b (c := (g 27 37) = 0) (pc' := 19) (L' := [some (.ref 27), some (.int y1), some (.int y2), some (.int y3), some (.int y4)]) (S' := []) (pc2 := 69) (L2 := [some (.ref 27), some (.int y1), some (.int y2), some (.int y3), some (.int y4)]) (S2 := []) rfl (fun _ => rfl) (fun hc => ?_) (fun hc => ?_)
    · have hc := hc
      rw [if_pos hc] at H
      refine m_n 1 (pc' := 20) (L' := [some (.ref 27), some (.int y1), some (.int y2), some (.int y3), some (.int y4)]) (S' := [.ref 27]) (fun _ => rfl) ?_
      refine m_gR (q := 66) rfl (by decide) ?_
      refine m_n 1 (pc' := 25) (L' := [some (.ref 27), some (.int y1), some (.int y2), some (.int y3), some (.int y4)]) (S' := [.int y4, .ref 66]) (fun _ => rfl) ?_
      obtain ⟨o1, H⟩ := H
      refine m_ia 16 rfl rfl o1 ?_
      refine m_cI 190 1 rfl rfl rfl (A := [.int (g 66 (z_ix y4))]) rfl rfl (Or.inl rfl) (rest := []) rfl rfl rfl ?_
      obtain ⟨m2, em2⟩ : ∃ m : Int32, m = (if (g 66 (z_ix y4)) = (1 : Int32) then (0 : Int32) else (if (g 66 (z_ix y4)) = (6 : Int32) then (5 : Int32) else (g 66 (z_ix y4)))) := ⟨_, rfl⟩
      have H := H m2 em2
      refine X_190 (g 66 (z_ix y4)) g (z_all em2 ?_)
      refine m_n 1 (pc' := 30) (L' := [some (.ref 27), some (.int y1), some (.int y2), some (.int y3), some (.int y4)]) (S' := [.int y1, .int m2]) (fun _ => rfl) ?_
      refine m_cI 190 1 rfl rfl rfl (A := [.int y1]) rfl rfl (Or.inl rfl) (rest := [.int m2]) rfl rfl rfl ?_
      obtain ⟨m3, em3⟩ : ∃ m : Int32, m = (if y1 = (1 : Int32) then (0 : Int32) else (if y1 = (6 : Int32) then (5 : Int32) else y1)) := ⟨_, rfl⟩
      have H := H m3 em3
      refine X_190 y1 g (z_all em3 ?_)
      refine m_b (c := m2 = m3) (pc' := 36) (L' := [some (.ref 27), some (.int y1), some (.int y2), some (.int y3), some (.int y4)]) (S' := []) (pc2 := 63) (L2 := [some (.ref 27), some (.int y1), some (.int y2), some (.int y3), some (.int y4)]) (S2 := []) rfl (fun _ => rfl) (fun hc => ?_) (fun hc => ?_)
      · have hc := hc
        rw [if_pos hc] at H
        refine m_n 1 (pc' := 37) (L' := [some (.ref 27), some (.int y1), some (.int y2), some (.int y3), some (.int y4)]) (S' := [.ref 27]) (fun _ => rfl) ?_
        refine m_gR (q := 67) rfl (by decide) ?_
        refine m_n 1 (pc' := 42) (L' := [some (.ref 27), some (.int y1), some (.int y2), some (.int y3), some (.int y4)]) (S' := [.int y4, .ref 67]) (fun _ => rfl) ?_
        obtain ⟨o4, H⟩ := H
        refine m_ia 16 rfl rfl o4 ?_
        refine m_n 1 (pc' := 44) (L' := [some (.ref 27), some (.int y1), some (.int y2), some (.int y3), some (.int y4)]) (S' := [.int y2, .int (g 67 (z_ix y4))]) (fun _ => rfl) ?_
        refine m_b (c := (g 67 (z_ix y4)) = y2) (pc' := 47) (L' := [some (.ref 27), some (.int y1), some (.int y2), some (.int y3), some (.int y4)]) (S' := []) (pc2 := 63) (L2 := [some (.ref 27), some (.int y1), some (.int y2), some (.int y3), some (.int y4)]) (S2 := []) rfl (fun _ => rfl) (fun hc => ?_) (fun hc => ?_)
        · have hc := hc
          rw [if_pos hc] at H
          refine m_n 1 (pc' := 48) (L' := [some (.ref 27), some (.int y1), some (.int y2), some (.int y3), some (.int y4)]) (S' := [.ref 27]) (fun _ => rfl) ?_
          refine m_gR (q := 68) rfl (by decide) ?_
          refine m_n 1 (pc' := 53) (L' := [some (.ref 27), some (.int y1), some (.int y2), some (.int y3), some (.int y4)]) (S' := [.int y4, .ref 68]) (fun _ => rfl) ?_
          obtain ⟨o5, H⟩ := H
          refine m_ia 16 rfl rfl o5 ?_
          refine m_n 1 (pc' := 55) (L' := [some (.ref 27), some (.int y1), some (.int y2), some (.int y3), some (.int y4)]) (S' := [.int y3, .int (g 68 (z_ix y4))]) (fun _ => rfl) ?_
          refine m_b (c := (g 68 (z_ix y4)) = y3) (pc' := 58) (L' := [some (.ref 27), some (.int y1), some (.int y2), some (.int y3), some (.int y4)]) (S' := []) (pc2 := 63) (L2 := [some (.ref 27), some (.int y1), some (.int y2), some (.int y3), some (.int y4)]) (S2 := []) rfl (fun _ => rfl) (fun hc => ?_) (fun hc => ?_)
          · have hc := hc
            rw [if_pos hc] at H
            refine m_n 2 (pc' := 60) (L' := [some (.ref 27), some (.int y1), some (.int y2), some (.int y3), some (.int y4)]) (S' := [.int (5 : Int32), .ref 27]) (fun _ => rfl) ?_
            refine m_cV 186 2 rfl rfl rfl (A := [.ref 27, .int (5 : Int32)]) rfl rfl (Or.inr ⟨rfl, _, rfl⟩) (rest := []) rfl rfl ?_
            refine H.mono (fun r6 g7 H => ?_)
            refine m_n 2 (pc' := 3) (L' := [some (.ref 27), some (.int y1), some (.int y2), some (.int y3), some (.int (y4 + (1 : Int32)))]) (S' := []) (fun _ => rfl) ?_
            exact H
          · have hc := hc
            rw [if_neg hc] at H
            refine m_n 2 (pc' := 3) (L' := [some (.ref 27), some (.int y1), some (.int y2), some (.int y3), some (.int (y4 + (1 : Int32)))]) (S' := []) (fun _ => rfl) ?_
            exact H
        · have hc := hc
          rw [if_neg hc] at H
          refine m_n 2 (pc' := 3) (L' := [some (.ref 27), some (.int y1), some (.int y2), some (.int y3), some (.int (y4 + (1 : Int32)))]) (S' := []) (fun _ => rfl) ?_
          exact H
      · have hc := hc
        rw [if_neg hc] at H
        refine m_n 2 (pc' := 3) (L' := [some (.ref 27), some (.int y1), some (.int y2), some (.int y3), some (.int (y4 + (1 : Int32)))]) (S' := []) (fun _ => rfl) ?_
        exact H
    · have hc := hc
      rw [if_neg hc] at H
      exact m_r rfl rfl rfl H
set_option maxRecDepth 20000 in
theorem X_193 (x1 : Int32) (x2 : Int32) (g : zG) {Q : Unit → zG → Prop} (H : if x1 < (5 : Int32) then (MK z_pV 187 [.ref 27] g (fun r1 g2 => if x1 = (4 : Int32) then (if (g2 27 37) = 0 then (if (g2 27 41) = (1 : Int32) then (if ((g2 27 39) - (g2 27 40)) = (1 : Int32) then ((¬ ((g2 27 35) ≤ (g2 27 40)) → 0 ≤ (g2 27 40).toInt ∧ (g2 27 40).toInt < 200) ∧ (∀ m3 : Int32, m3 = (if (g2 27 35) ≤ (g2 27 40) then (-4 : Int32) else (g2 59 (z_ix (g2 27 40)))) → if (97 : Int32) ≤ m3 ∧ m3 ≤ (104 : Int32) then (if (g2 27 37) = 0 then ((¬ ((g2 27 35) ≤ (g2 27 40)) → 0 ≤ (g2 27 40).toInt ∧ (g2 27 40).toInt < 200) ∧ (∀ m103 : Int32, m103 = (if (g2 27 35) ≤ (g2 27 40) then (-4 : Int32) else (g2 59 (z_ix (g2 27 40)))) → MK z_pV 191 [.ref 27, .int x1, .int (m103 - (97 : Int32)), .int x2] g2 (fun r105 g106 => MK z_pV 187 [.ref 27] g106 (fun r107 g108 => ∀ m112 : Int32, m112 = (if x1 = 0 then (9 : Int32) else (if x1 = (1 : Int32) then (9999 : Int32) else (if x1 = (2 : Int32) then (24 : Int32) else (if x1 = (3 : Int32) then (99 : Int32) else (60 : Int32))))) → MK z_pV 189 [.ref 27, .int (z_bt (¬ (x1 = (1 : Int32)) ∧ (¬ (x1 = (4 : Int32))))), .int m112] g108 (fun r113 g114 => MK z_pV 187 [.ref 27] g114 (fun r115 g116 => if (g116 27 37) = 0 then (if (g116 27 41) = (3 : Int32) then (if (g116 27 37) = 0 then ((0 ≤ (g116 27 50).toInt ∧ (g116 27 50).toInt < 16) ∧ (∀ g118 : zG, g118 = (z_up2 g116 66 (z_ix (g116 27 50)) x1) → (0 ≤ (g118 27 50).toInt ∧ (g118 27 50).toInt < 16) ∧ (∀ g120 : zG, g120 = (z_up2 g118 67 (z_ix (g118 27 50)) (m103 - (97 : Int32))) → (0 ≤ (g120 27 50).toInt ∧ (g120 27 50).toInt < 16) ∧ (∀ g122 : zG, g122 = (z_up2 g120 68 (z_ix (g120 27 50)) x2) → (0 ≤ (g122 27 50).toInt ∧ (g122 27 50).toInt < 16) ∧ (∀ g124 : zG, g124 = (z_up2 g122 69 (z_ix (g122 27 50)) (g114 27 42)) → ∀ g125 : zG, g125 = (z_up2 g124 27 50 ((g124 27 50) + (1 : Int32))) → MK z_pV 187 [.ref 27] g125 (fun r126 g127 => Q () g127)))))) else (Q () g116)) else (MK z_pV 186 [.ref 27, .int (2 : Int32)] g116 (fun r128 g129 => if (g129 27 37) = 0 then ((0 ≤ (g129 27 50).toInt ∧ (g129 27 50).toInt < 16) ∧ (∀ g131 : zG, g131 = (z_up2 g129 66 (z_ix (g129 27 50)) x1) → (0 ≤ (g131 27 50).toInt ∧ (g131 27 50).toInt < 16) ∧ (∀ g133 : zG, g133 = (z_up2 g131 67 (z_ix (g131 27 50)) (m103 - (97 : Int32))) → (0 ≤ (g133 27 50).toInt ∧ (g133 27 50).toInt < 16) ∧ (∀ g135 : zG, g135 = (z_up2 g133 68 (z_ix (g133 27 50)) x2) → (0 ≤ (g135 27 50).toInt ∧ (g135 27 50).toInt < 16) ∧ (∀ g137 : zG, g137 = (z_up2 g135 69 (z_ix (g135 27 50)) (g114 27 42)) → ∀ g138 : zG, g138 = (z_up2 g137 27 50 ((g137 27 50) + (1 : Int32))) → MK z_pV 187 [.ref 27] g138 (fun r139 g140 => Q () g140)))))) else (Q () g129)))) else (if (g116 27 37) = 0 then ((0 ≤ (g116 27 50).toInt ∧ (g116 27 50).toInt < 16) ∧ (∀ g142 : zG, g142 = (z_up2 g116 66 (z_ix (g116 27 50)) x1) → (0 ≤ (g142 27 50).toInt ∧ (g142 27 50).toInt < 16) ∧ (∀ g144 : zG, g144 = (z_up2 g142 67 (z_ix (g142 27 50)) (m103 - (97 : Int32))) → (0 ≤ (g144 27 50).toInt ∧ (g144 27 50).toInt < 16) ∧ (∀ g146 : zG, g146 = (z_up2 g144 68 (z_ix (g144 27 50)) x2) → (0 ≤ (g146 27 50).toInt ∧ (g146 27 50).toInt < 16) ∧ (∀ g148 : zG, g148 = (z_up2 g146 69 (z_ix (g146 27 50)) (g114 27 42)) → ∀ g149 : zG, g149 = (z_up2 g148 27 50 ((g148 27 50) + (1 : Int32))) → MK z_pV 187 [.ref 27] g149 (fun r150 g151 => Q () g151)))))) else (Q () g116)))))))) else (MK z_pV 191 [.ref 27, .int x1, .int (0 : Int32), .int x2] g2 (fun r152 g153 => MK z_pV 187 [.ref 27] g153 (fun r154 g155 => ∀ m159 : Int32, m159 = (if x1 = 0 then (9 : Int32) else (if x1 = (1 : Int32) then (9999 : Int32) else (if x1 = (2 : Int32) then (24 : Int32) else (if x1 = (3 : Int32) then (99 : Int32) else (60 : Int32))))) → MK z_pV 189 [.ref 27, .int (z_bt (¬ (x1 = (1 : Int32)) ∧ (¬ (x1 = (4 : Int32))))), .int m159] g155 (fun r160 g161 => MK z_pV 187 [.ref 27] g161 (fun r162 g163 => if (g163 27 37) = 0 then (if (g163 27 41) = (3 : Int32) then (if (g163 27 37) = 0 then ((0 ≤ (g163 27 50).toInt ∧ (g163 27 50).toInt < 16) ∧ (∀ g165 : zG, g165 = (z_up2 g163 66 (z_ix (g163 27 50)) x1) → (0 ≤ (g165 27 50).toInt ∧ (g165 27 50).toInt < 16) ∧ (∀ g167 : zG, g167 = (z_up2 g165 67 (z_ix (g165 27 50)) (0 : Int32)) → (0 ≤ (g167 27 50).toInt ∧ (g167 27 50).toInt < 16) ∧ (∀ g169 : zG, g169 = (z_up2 g167 68 (z_ix (g167 27 50)) x2) → (0 ≤ (g169 27 50).toInt ∧ (g169 27 50).toInt < 16) ∧ (∀ g171 : zG, g171 = (z_up2 g169 69 (z_ix (g169 27 50)) (g161 27 42)) → ∀ g172 : zG, g172 = (z_up2 g171 27 50 ((g171 27 50) + (1 : Int32))) → MK z_pV 187 [.ref 27] g172 (fun r173 g174 => Q () g174)))))) else (Q () g163)) else (MK z_pV 186 [.ref 27, .int (2 : Int32)] g163 (fun r175 g176 => if (g176 27 37) = 0 then ((0 ≤ (g176 27 50).toInt ∧ (g176 27 50).toInt < 16) ∧ (∀ g178 : zG, g178 = (z_up2 g176 66 (z_ix (g176 27 50)) x1) → (0 ≤ (g178 27 50).toInt ∧ (g178 27 50).toInt < 16) ∧ (∀ g180 : zG, g180 = (z_up2 g178 67 (z_ix (g178 27 50)) (0 : Int32)) → (0 ≤ (g180 27 50).toInt ∧ (g180 27 50).toInt < 16) ∧ (∀ g182 : zG, g182 = (z_up2 g180 68 (z_ix (g180 27 50)) x2) → (0 ≤ (g182 27 50).toInt ∧ (g182 27 50).toInt < 16) ∧ (∀ g184 : zG, g184 = (z_up2 g182 69 (z_ix (g182 27 50)) (g161 27 42)) → ∀ g185 : zG, g185 = (z_up2 g184 27 50 ((g184 27 50) + (1 : Int32))) → MK z_pV 187 [.ref 27] g185 (fun r186 g187 => Q () g187)))))) else (Q () g176)))) else (if (g163 27 37) = 0 then ((0 ≤ (g163 27 50).toInt ∧ (g163 27 50).toInt < 16) ∧ (∀ g189 : zG, g189 = (z_up2 g163 66 (z_ix (g163 27 50)) x1) → (0 ≤ (g189 27 50).toInt ∧ (g189 27 50).toInt < 16) ∧ (∀ g191 : zG, g191 = (z_up2 g189 67 (z_ix (g189 27 50)) (0 : Int32)) → (0 ≤ (g191 27 50).toInt ∧ (g191 27 50).toInt < 16) ∧ (∀ g193 : zG, g193 = (z_up2 g191 68 (z_ix (g191 27 50)) x2) → (0 ≤ (g193 27 50).toInt ∧ (g193 27 50).toInt < 16) ∧ (∀ g195 : zG, g195 = (z_up2 g193 69 (z_ix (g193 27 50)) (g161 27 42)) → ∀ g196 : zG, g196 = (z_up2 g195 27 50 ((g195 27 50) + (1 : Int32))) → MK z_pV 187 [.ref 27] g196 (fun r197 g198 => Q () g198)))))) else (Q () g163)))))))) else (MK z_pV 186 [.ref 27, .int (2 : Int32)] g2 (fun r5 g6 => if (g6 27 37) = 0 then ((¬ ((g6 27 35) ≤ (g6 27 40)) → 0 ≤ (g6 27 40).toInt ∧ (g6 27 40).toInt < 200) ∧ (∀ m7 : Int32, m7 = (if (g6 27 35) ≤ (g6 27 40) then (-4 : Int32) else (g6 59 (z_ix (g6 27 40)))) → MK z_pV 191 [.ref 27, .int x1, .int (m7 - (97 : Int32)), .int x2] g6 (fun r9 g10 => MK z_pV 187 [.ref 27] g10 (fun r11 g12 => ∀ m16 : Int32, m16 = (if x1 = 0 then (9 : Int32) else (if x1 = (1 : Int32) then (9999 : Int32) else (if x1 = (2 : Int32) then (24 : Int32) else (if x1 = (3 : Int32) then (99 : Int32) else (60 : Int32))))) → MK z_pV 189 [.ref 27, .int (z_bt (¬ (x1 = (1 : Int32)) ∧ (¬ (x1 = (4 : Int32))))), .int m16] g12 (fun r17 g18 => MK z_pV 187 [.ref 27] g18 (fun r19 g20 => if (g20 27 37) = 0 then (if (g20 27 41) = (3 : Int32) then (if (g20 27 37) = 0 then ((0 ≤ (g20 27 50).toInt ∧ (g20 27 50).toInt < 16) ∧ (∀ g22 : zG, g22 = (z_up2 g20 66 (z_ix (g20 27 50)) x1) → (0 ≤ (g22 27 50).toInt ∧ (g22 27 50).toInt < 16) ∧ (∀ g24 : zG, g24 = (z_up2 g22 67 (z_ix (g22 27 50)) (m7 - (97 : Int32))) → (0 ≤ (g24 27 50).toInt ∧ (g24 27 50).toInt < 16) ∧ (∀ g26 : zG, g26 = (z_up2 g24 68 (z_ix (g24 27 50)) x2) → (0 ≤ (g26 27 50).toInt ∧ (g26 27 50).toInt < 16) ∧ (∀ g28 : zG, g28 = (z_up2 g26 69 (z_ix (g26 27 50)) (g18 27 42)) → ∀ g29 : zG, g29 = (z_up2 g28 27 50 ((g28 27 50) + (1 : Int32))) → MK z_pV 187 [.ref 27] g29 (fun r30 g31 => Q () g31)))))) else (Q () g20)) else (MK z_pV 186 [.ref 27, .int (2 : Int32)] g20 (fun r32 g33 => if (g33 27 37) = 0 then ((0 ≤ (g33 27 50).toInt ∧ (g33 27 50).toInt < 16) ∧ (∀ g35 : zG, g35 = (z_up2 g33 66 (z_ix (g33 27 50)) x1) → (0 ≤ (g35 27 50).toInt ∧ (g35 27 50).toInt < 16) ∧ (∀ g37 : zG, g37 = (z_up2 g35 67 (z_ix (g35 27 50)) (m7 - (97 : Int32))) → (0 ≤ (g37 27 50).toInt ∧ (g37 27 50).toInt < 16) ∧ (∀ g39 : zG, g39 = (z_up2 g37 68 (z_ix (g37 27 50)) x2) → (0 ≤ (g39 27 50).toInt ∧ (g39 27 50).toInt < 16) ∧ (∀ g41 : zG, g41 = (z_up2 g39 69 (z_ix (g39 27 50)) (g18 27 42)) → ∀ g42 : zG, g42 = (z_up2 g41 27 50 ((g41 27 50) + (1 : Int32))) → MK z_pV 187 [.ref 27] g42 (fun r43 g44 => Q () g44)))))) else (Q () g33)))) else (if (g20 27 37) = 0 then ((0 ≤ (g20 27 50).toInt ∧ (g20 27 50).toInt < 16) ∧ (∀ g46 : zG, g46 = (z_up2 g20 66 (z_ix (g20 27 50)) x1) → (0 ≤ (g46 27 50).toInt ∧ (g46 27 50).toInt < 16) ∧ (∀ g48 : zG, g48 = (z_up2 g46 67 (z_ix (g46 27 50)) (m7 - (97 : Int32))) → (0 ≤ (g48 27 50).toInt ∧ (g48 27 50).toInt < 16) ∧ (∀ g50 : zG, g50 = (z_up2 g48 68 (z_ix (g48 27 50)) x2) → (0 ≤ (g50 27 50).toInt ∧ (g50 27 50).toInt < 16) ∧ (∀ g52 : zG, g52 = (z_up2 g50 69 (z_ix (g50 27 50)) (g18 27 42)) → ∀ g53 : zG, g53 = (z_up2 g52 27 50 ((g52 27 50) + (1 : Int32))) → MK z_pV 187 [.ref 27] g53 (fun r54 g55 => Q () g55)))))) else (Q () g20)))))))) else (MK z_pV 191 [.ref 27, .int x1, .int (0 : Int32), .int x2] g6 (fun r56 g57 => MK z_pV 187 [.ref 27] g57 (fun r58 g59 => ∀ m63 : Int32, m63 = (if x1 = 0 then (9 : Int32) else (if x1 = (1 : Int32) then (9999 : Int32) else (if x1 = (2 : Int32) then (24 : Int32) else (if x1 = (3 : Int32) then (99 : Int32) else (60 : Int32))))) → MK z_pV 189 [.ref 27, .int (z_bt (¬ (x1 = (1 : Int32)) ∧ (¬ (x1 = (4 : Int32))))), .int m63] g59 (fun r64 g65 => MK z_pV 187 [.ref 27] g65 (fun r66 g67 => if (g67 27 37) = 0 then (if (g67 27 41) = (3 : Int32) then (if (g67 27 37) = 0 then ((0 ≤ (g67 27 50).toInt ∧ (g67 27 50).toInt < 16) ∧ (∀ g69 : zG, g69 = (z_up2 g67 66 (z_ix (g67 27 50)) x1) → (0 ≤ (g69 27 50).toInt ∧ (g69 27 50).toInt < 16) ∧ (∀ g71 : zG, g71 = (z_up2 g69 67 (z_ix (g69 27 50)) (0 : Int32)) → (0 ≤ (g71 27 50).toInt ∧ (g71 27 50).toInt < 16) ∧ (∀ g73 : zG, g73 = (z_up2 g71 68 (z_ix (g71 27 50)) x2) → (0 ≤ (g73 27 50).toInt ∧ (g73 27 50).toInt < 16) ∧ (∀ g75 : zG, g75 = (z_up2 g73 69 (z_ix (g73 27 50)) (g65 27 42)) → ∀ g76 : zG, g76 = (z_up2 g75 27 50 ((g75 27 50) + (1 : Int32))) → MK z_pV 187 [.ref 27] g76 (fun r77 g78 => Q () g78)))))) else (Q () g67)) else (MK z_pV 186 [.ref 27, .int (2 : Int32)] g67 (fun r79 g80 => if (g80 27 37) = 0 then ((0 ≤ (g80 27 50).toInt ∧ (g80 27 50).toInt < 16) ∧ (∀ g82 : zG, g82 = (z_up2 g80 66 (z_ix (g80 27 50)) x1) → (0 ≤ (g82 27 50).toInt ∧ (g82 27 50).toInt < 16) ∧ (∀ g84 : zG, g84 = (z_up2 g82 67 (z_ix (g82 27 50)) (0 : Int32)) → (0 ≤ (g84 27 50).toInt ∧ (g84 27 50).toInt < 16) ∧ (∀ g86 : zG, g86 = (z_up2 g84 68 (z_ix (g84 27 50)) x2) → (0 ≤ (g86 27 50).toInt ∧ (g86 27 50).toInt < 16) ∧ (∀ g88 : zG, g88 = (z_up2 g86 69 (z_ix (g86 27 50)) (g65 27 42)) → ∀ g89 : zG, g89 = (z_up2 g88 27 50 ((g88 27 50) + (1 : Int32))) → MK z_pV 187 [.ref 27] g89 (fun r90 g91 => Q () g91)))))) else (Q () g80)))) else (if (g67 27 37) = 0 then ((0 ≤ (g67 27 50).toInt ∧ (g67 27 50).toInt < 16) ∧ (∀ g93 : zG, g93 = (z_up2 g67 66 (z_ix (g67 27 50)) x1) → (0 ≤ (g93 27 50).toInt ∧ (g93 27 50).toInt < 16) ∧ (∀ g95 : zG, g95 = (z_up2 g93 67 (z_ix (g93 27 50)) (0 : Int32)) → (0 ≤ (g95 27 50).toInt ∧ (g95 27 50).toInt < 16) ∧ (∀ g97 : zG, g97 = (z_up2 g95 68 (z_ix (g95 27 50)) x2) → (0 ≤ (g97 27 50).toInt ∧ (g97 27 50).toInt < 16) ∧ (∀ g99 : zG, g99 = (z_up2 g97 69 (z_ix (g97 27 50)) (g65 27 42)) → ∀ g100 : zG, g100 = (z_up2 g99 27 50 ((g99 27 50) + (1 : Int32))) → MK z_pV 187 [.ref 27] g100 (fun r101 g102 => Q () g102)))))) else (Q () g67))))))))))) else (MK z_pV 186 [.ref 27, .int (2 : Int32)] g2 (fun r199 g200 => if (g200 27 37) = 0 then ((¬ ((g200 27 35) ≤ (g200 27 40)) → 0 ≤ (g200 27 40).toInt ∧ (g200 27 40).toInt < 200) ∧ (∀ m201 : Int32, m201 = (if (g200 27 35) ≤ (g200 27 40) then (-4 : Int32) else (g200 59 (z_ix (g200 27 40)))) → MK z_pV 191 [.ref 27, .int x1, .int (m201 - (97 : Int32)), .int x2] g200 (fun r203 g204 => MK z_pV 187 [.ref 27] g204 (fun r205 g206 => ∀ m210 : Int32, m210 = (if x1 = 0 then (9 : Int32) else (if x1 = (1 : Int32) then (9999 : Int32) else (if x1 = (2 : Int32) then (24 : Int32) else (if x1 = (3 : Int32) then (99 : Int32) else (60 : Int32))))) → MK z_pV 189 [.ref 27, .int (z_bt (¬ (x1 = (1 : Int32)) ∧ (¬ (x1 = (4 : Int32))))), .int m210] g206 (fun r211 g212 => MK z_pV 187 [.ref 27] g212 (fun r213 g214 => if (g214 27 37) = 0 then (if (g214 27 41) = (3 : Int32) then (if (g214 27 37) = 0 then ((0 ≤ (g214 27 50).toInt ∧ (g214 27 50).toInt < 16) ∧ (∀ g216 : zG, g216 = (z_up2 g214 66 (z_ix (g214 27 50)) x1) → (0 ≤ (g216 27 50).toInt ∧ (g216 27 50).toInt < 16) ∧ (∀ g218 : zG, g218 = (z_up2 g216 67 (z_ix (g216 27 50)) (m201 - (97 : Int32))) → (0 ≤ (g218 27 50).toInt ∧ (g218 27 50).toInt < 16) ∧ (∀ g220 : zG, g220 = (z_up2 g218 68 (z_ix (g218 27 50)) x2) → (0 ≤ (g220 27 50).toInt ∧ (g220 27 50).toInt < 16) ∧ (∀ g222 : zG, g222 = (z_up2 g220 69 (z_ix (g220 27 50)) (g212 27 42)) → ∀ g223 : zG, g223 = (z_up2 g222 27 50 ((g222 27 50) + (1 : Int32))) → MK z_pV 187 [.ref 27] g223 (fun r224 g225 => Q () g225)))))) else (Q () g214)) else (MK z_pV 186 [.ref 27, .int (2 : Int32)] g214 (fun r226 g227 => if (g227 27 37) = 0 then ((0 ≤ (g227 27 50).toInt ∧ (g227 27 50).toInt < 16) ∧ (∀ g229 : zG, g229 = (z_up2 g227 66 (z_ix (g227 27 50)) x1) → (0 ≤ (g229 27 50).toInt ∧ (g229 27 50).toInt < 16) ∧ (∀ g231 : zG, g231 = (z_up2 g229 67 (z_ix (g229 27 50)) (m201 - (97 : Int32))) → (0 ≤ (g231 27 50).toInt ∧ (g231 27 50).toInt < 16) ∧ (∀ g233 : zG, g233 = (z_up2 g231 68 (z_ix (g231 27 50)) x2) → (0 ≤ (g233 27 50).toInt ∧ (g233 27 50).toInt < 16) ∧ (∀ g235 : zG, g235 = (z_up2 g233 69 (z_ix (g233 27 50)) (g212 27 42)) → ∀ g236 : zG, g236 = (z_up2 g235 27 50 ((g235 27 50) + (1 : Int32))) → MK z_pV 187 [.ref 27] g236 (fun r237 g238 => Q () g238)))))) else (Q () g227)))) else (if (g214 27 37) = 0 then ((0 ≤ (g214 27 50).toInt ∧ (g214 27 50).toInt < 16) ∧ (∀ g240 : zG, g240 = (z_up2 g214 66 (z_ix (g214 27 50)) x1) → (0 ≤ (g240 27 50).toInt ∧ (g240 27 50).toInt < 16) ∧ (∀ g242 : zG, g242 = (z_up2 g240 67 (z_ix (g240 27 50)) (m201 - (97 : Int32))) → (0 ≤ (g242 27 50).toInt ∧ (g242 27 50).toInt < 16) ∧ (∀ g244 : zG, g244 = (z_up2 g242 68 (z_ix (g242 27 50)) x2) → (0 ≤ (g244 27 50).toInt ∧ (g244 27 50).toInt < 16) ∧ (∀ g246 : zG, g246 = (z_up2 g244 69 (z_ix (g244 27 50)) (g212 27 42)) → ∀ g247 : zG, g247 = (z_up2 g246 27 50 ((g246 27 50) + (1 : Int32))) → MK z_pV 187 [.ref 27] g247 (fun r248 g249 => Q () g249)))))) else (Q () g214)))))))) else (MK z_pV 191 [.ref 27, .int x1, .int (0 : Int32), .int x2] g200 (fun r250 g251 => MK z_pV 187 [.ref 27] g251 (fun r252 g253 => ∀ m257 : Int32, m257 = (if x1 = 0 then (9 : Int32) else (if x1 = (1 : Int32) then (9999 : Int32) else (if x1 = (2 : Int32) then (24 : Int32) else (if x1 = (3 : Int32) then (99 : Int32) else (60 : Int32))))) → MK z_pV 189 [.ref 27, .int (z_bt (¬ (x1 = (1 : Int32)) ∧ (¬ (x1 = (4 : Int32))))), .int m257] g253 (fun r258 g259 => MK z_pV 187 [.ref 27] g259 (fun r260 g261 => if (g261 27 37) = 0 then (if (g261 27 41) = (3 : Int32) then (if (g261 27 37) = 0 then ((0 ≤ (g261 27 50).toInt ∧ (g261 27 50).toInt < 16) ∧ (∀ g263 : zG, g263 = (z_up2 g261 66 (z_ix (g261 27 50)) x1) → (0 ≤ (g263 27 50).toInt ∧ (g263 27 50).toInt < 16) ∧ (∀ g265 : zG, g265 = (z_up2 g263 67 (z_ix (g263 27 50)) (0 : Int32)) → (0 ≤ (g265 27 50).toInt ∧ (g265 27 50).toInt < 16) ∧ (∀ g267 : zG, g267 = (z_up2 g265 68 (z_ix (g265 27 50)) x2) → (0 ≤ (g267 27 50).toInt ∧ (g267 27 50).toInt < 16) ∧ (∀ g269 : zG, g269 = (z_up2 g267 69 (z_ix (g267 27 50)) (g259 27 42)) → ∀ g270 : zG, g270 = (z_up2 g269 27 50 ((g269 27 50) + (1 : Int32))) → MK z_pV 187 [.ref 27] g270 (fun r271 g272 => Q () g272)))))) else (Q () g261)) else (MK z_pV 186 [.ref 27, .int (2 : Int32)] g261 (fun r273 g274 => if (g274 27 37) = 0 then ((0 ≤ (g274 27 50).toInt ∧ (g274 27 50).toInt < 16) ∧ (∀ g276 : zG, g276 = (z_up2 g274 66 (z_ix (g274 27 50)) x1) → (0 ≤ (g276 27 50).toInt ∧ (g276 27 50).toInt < 16) ∧ (∀ g278 : zG, g278 = (z_up2 g276 67 (z_ix (g276 27 50)) (0 : Int32)) → (0 ≤ (g278 27 50).toInt ∧ (g278 27 50).toInt < 16) ∧ (∀ g280 : zG, g280 = (z_up2 g278 68 (z_ix (g278 27 50)) x2) → (0 ≤ (g280 27 50).toInt ∧ (g280 27 50).toInt < 16) ∧ (∀ g282 : zG, g282 = (z_up2 g280 69 (z_ix (g280 27 50)) (g259 27 42)) → ∀ g283 : zG, g283 = (z_up2 g282 27 50 ((g282 27 50) + (1 : Int32))) → MK z_pV 187 [.ref 27] g283 (fun r284 g285 => Q () g285)))))) else (Q () g274)))) else (if (g261 27 37) = 0 then ((0 ≤ (g261 27 50).toInt ∧ (g261 27 50).toInt < 16) ∧ (∀ g287 : zG, g287 = (z_up2 g261 66 (z_ix (g261 27 50)) x1) → (0 ≤ (g287 27 50).toInt ∧ (g287 27 50).toInt < 16) ∧ (∀ g289 : zG, g289 = (z_up2 g287 67 (z_ix (g287 27 50)) (0 : Int32)) → (0 ≤ (g289 27 50).toInt ∧ (g289 27 50).toInt < 16) ∧ (∀ g291 : zG, g291 = (z_up2 g289 68 (z_ix (g289 27 50)) x2) → (0 ≤ (g291 27 50).toInt ∧ (g291 27 50).toInt < 16) ∧ (∀ g293 : zG, g293 = (z_up2 g291 69 (z_ix (g291 27 50)) (g259 27 42)) → ∀ g294 : zG, g294 = (z_up2 g293 27 50 ((g293 27 50) + (1 : Int32))) → MK z_pV 187 [.ref 27] g294 (fun r295 g296 => Q () g296)))))) else (Q () g261)))))))))) else (MK z_pV 186 [.ref 27, .int (2 : Int32)] g2 (fun r297 g298 => if (g298 27 37) = 0 then ((¬ ((g298 27 35) ≤ (g298 27 40)) → 0 ≤ (g298 27 40).toInt ∧ (g298 27 40).toInt < 200) ∧ (∀ m299 : Int32, m299 = (if (g298 27 35) ≤ (g298 27 40) then (-4 : Int32) else (g298 59 (z_ix (g298 27 40)))) → MK z_pV 191 [.ref 27, .int x1, .int (m299 - (97 : Int32)), .int x2] g298 (fun r301 g302 => MK z_pV 187 [.ref 27] g302 (fun r303 g304 => ∀ m308 : Int32, m308 = (if x1 = 0 then (9 : Int32) else (if x1 = (1 : Int32) then (9999 : Int32) else (if x1 = (2 : Int32) then (24 : Int32) else (if x1 = (3 : Int32) then (99 : Int32) else (60 : Int32))))) → MK z_pV 189 [.ref 27, .int (z_bt (¬ (x1 = (1 : Int32)) ∧ (¬ (x1 = (4 : Int32))))), .int m308] g304 (fun r309 g310 => MK z_pV 187 [.ref 27] g310 (fun r311 g312 => if (g312 27 37) = 0 then (if (g312 27 41) = (3 : Int32) then (if (g312 27 37) = 0 then ((0 ≤ (g312 27 50).toInt ∧ (g312 27 50).toInt < 16) ∧ (∀ g314 : zG, g314 = (z_up2 g312 66 (z_ix (g312 27 50)) x1) → (0 ≤ (g314 27 50).toInt ∧ (g314 27 50).toInt < 16) ∧ (∀ g316 : zG, g316 = (z_up2 g314 67 (z_ix (g314 27 50)) (m299 - (97 : Int32))) → (0 ≤ (g316 27 50).toInt ∧ (g316 27 50).toInt < 16) ∧ (∀ g318 : zG, g318 = (z_up2 g316 68 (z_ix (g316 27 50)) x2) → (0 ≤ (g318 27 50).toInt ∧ (g318 27 50).toInt < 16) ∧ (∀ g320 : zG, g320 = (z_up2 g318 69 (z_ix (g318 27 50)) (g310 27 42)) → ∀ g321 : zG, g321 = (z_up2 g320 27 50 ((g320 27 50) + (1 : Int32))) → MK z_pV 187 [.ref 27] g321 (fun r322 g323 => Q () g323)))))) else (Q () g312)) else (MK z_pV 186 [.ref 27, .int (2 : Int32)] g312 (fun r324 g325 => if (g325 27 37) = 0 then ((0 ≤ (g325 27 50).toInt ∧ (g325 27 50).toInt < 16) ∧ (∀ g327 : zG, g327 = (z_up2 g325 66 (z_ix (g325 27 50)) x1) → (0 ≤ (g327 27 50).toInt ∧ (g327 27 50).toInt < 16) ∧ (∀ g329 : zG, g329 = (z_up2 g327 67 (z_ix (g327 27 50)) (m299 - (97 : Int32))) → (0 ≤ (g329 27 50).toInt ∧ (g329 27 50).toInt < 16) ∧ (∀ g331 : zG, g331 = (z_up2 g329 68 (z_ix (g329 27 50)) x2) → (0 ≤ (g331 27 50).toInt ∧ (g331 27 50).toInt < 16) ∧ (∀ g333 : zG, g333 = (z_up2 g331 69 (z_ix (g331 27 50)) (g310 27 42)) → ∀ g334 : zG, g334 = (z_up2 g333 27 50 ((g333 27 50) + (1 : Int32))) → MK z_pV 187 [.ref 27] g334 (fun r335 g336 => Q () g336)))))) else (Q () g325)))) else (if (g312 27 37) = 0 then ((0 ≤ (g312 27 50).toInt ∧ (g312 27 50).toInt < 16) ∧ (∀ g338 : zG, g338 = (z_up2 g312 66 (z_ix (g312 27 50)) x1) → (0 ≤ (g338 27 50).toInt ∧ (g338 27 50).toInt < 16) ∧ (∀ g340 : zG, g340 = (z_up2 g338 67 (z_ix (g338 27 50)) (m299 - (97 : Int32))) → (0 ≤ (g340 27 50).toInt ∧ (g340 27 50).toInt < 16) ∧ (∀ g342 : zG, g342 = (z_up2 g340 68 (z_ix (g340 27 50)) x2) → (0 ≤ (g342 27 50).toInt ∧ (g342 27 50).toInt < 16) ∧ (∀ g344 : zG, g344 = (z_up2 g342 69 (z_ix (g342 27 50)) (g310 27 42)) → ∀ g345 : zG, g345 = (z_up2 g344 27 50 ((g344 27 50) + (1 : Int32))) → MK z_pV 187 [.ref 27] g345 (fun r346 g347 => Q () g347)))))) else (Q () g312)))))))) else (MK z_pV 191 [.ref 27, .int x1, .int (0 : Int32), .int x2] g298 (fun r348 g349 => MK z_pV 187 [.ref 27] g349 (fun r350 g351 => ∀ m355 : Int32, m355 = (if x1 = 0 then (9 : Int32) else (if x1 = (1 : Int32) then (9999 : Int32) else (if x1 = (2 : Int32) then (24 : Int32) else (if x1 = (3 : Int32) then (99 : Int32) else (60 : Int32))))) → MK z_pV 189 [.ref 27, .int (z_bt (¬ (x1 = (1 : Int32)) ∧ (¬ (x1 = (4 : Int32))))), .int m355] g351 (fun r356 g357 => MK z_pV 187 [.ref 27] g357 (fun r358 g359 => if (g359 27 37) = 0 then (if (g359 27 41) = (3 : Int32) then (if (g359 27 37) = 0 then ((0 ≤ (g359 27 50).toInt ∧ (g359 27 50).toInt < 16) ∧ (∀ g361 : zG, g361 = (z_up2 g359 66 (z_ix (g359 27 50)) x1) → (0 ≤ (g361 27 50).toInt ∧ (g361 27 50).toInt < 16) ∧ (∀ g363 : zG, g363 = (z_up2 g361 67 (z_ix (g361 27 50)) (0 : Int32)) → (0 ≤ (g363 27 50).toInt ∧ (g363 27 50).toInt < 16) ∧ (∀ g365 : zG, g365 = (z_up2 g363 68 (z_ix (g363 27 50)) x2) → (0 ≤ (g365 27 50).toInt ∧ (g365 27 50).toInt < 16) ∧ (∀ g367 : zG, g367 = (z_up2 g365 69 (z_ix (g365 27 50)) (g357 27 42)) → ∀ g368 : zG, g368 = (z_up2 g367 27 50 ((g367 27 50) + (1 : Int32))) → MK z_pV 187 [.ref 27] g368 (fun r369 g370 => Q () g370)))))) else (Q () g359)) else (MK z_pV 186 [.ref 27, .int (2 : Int32)] g359 (fun r371 g372 => if (g372 27 37) = 0 then ((0 ≤ (g372 27 50).toInt ∧ (g372 27 50).toInt < 16) ∧ (∀ g374 : zG, g374 = (z_up2 g372 66 (z_ix (g372 27 50)) x1) → (0 ≤ (g374 27 50).toInt ∧ (g374 27 50).toInt < 16) ∧ (∀ g376 : zG, g376 = (z_up2 g374 67 (z_ix (g374 27 50)) (0 : Int32)) → (0 ≤ (g376 27 50).toInt ∧ (g376 27 50).toInt < 16) ∧ (∀ g378 : zG, g378 = (z_up2 g376 68 (z_ix (g376 27 50)) x2) → (0 ≤ (g378 27 50).toInt ∧ (g378 27 50).toInt < 16) ∧ (∀ g380 : zG, g380 = (z_up2 g378 69 (z_ix (g378 27 50)) (g357 27 42)) → ∀ g381 : zG, g381 = (z_up2 g380 27 50 ((g380 27 50) + (1 : Int32))) → MK z_pV 187 [.ref 27] g381 (fun r382 g383 => Q () g383)))))) else (Q () g372)))) else (if (g359 27 37) = 0 then ((0 ≤ (g359 27 50).toInt ∧ (g359 27 50).toInt < 16) ∧ (∀ g385 : zG, g385 = (z_up2 g359 66 (z_ix (g359 27 50)) x1) → (0 ≤ (g385 27 50).toInt ∧ (g385 27 50).toInt < 16) ∧ (∀ g387 : zG, g387 = (z_up2 g385 67 (z_ix (g385 27 50)) (0 : Int32)) → (0 ≤ (g387 27 50).toInt ∧ (g387 27 50).toInt < 16) ∧ (∀ g389 : zG, g389 = (z_up2 g387 68 (z_ix (g387 27 50)) x2) → (0 ≤ (g389 27 50).toInt ∧ (g389 27 50).toInt < 16) ∧ (∀ g391 : zG, g391 = (z_up2 g389 69 (z_ix (g389 27 50)) (g357 27 42)) → ∀ g392 : zG, g392 = (z_up2 g391 27 50 ((g391 27 50) + (1 : Int32))) → MK z_pV 187 [.ref 27] g392 (fun r393 g394 => Q () g394)))))) else (Q () g359)))))))))) else (if (g2 27 37) = 0 then ((¬ ((g2 27 35) ≤ (g2 27 40)) → 0 ≤ (g2 27 40).toInt ∧ (g2 27 40).toInt < 200) ∧ (∀ m395 : Int32, m395 = (if (g2 27 35) ≤ (g2 27 40) then (-4 : Int32) else (g2 59 (z_ix (g2 27 40)))) → MK z_pV 191 [.ref 27, .int x1, .int (m395 - (97 : Int32)), .int x2] g2 (fun r397 g398 => MK z_pV 187 [.ref 27] g398 (fun r399 g400 => ∀ m404 : Int32, m404 = (if x1 = 0 then (9 : Int32) else (if x1 = (1 : Int32) then (9999 : Int32) else (if x1 = (2 : Int32) then (24 : Int32) else (if x1 = (3 : Int32) then (99 : Int32) else (60 : Int32))))) → MK z_pV 189 [.ref 27, .int (z_bt (¬ (x1 = (1 : Int32)) ∧ (¬ (x1 = (4 : Int32))))), .int m404] g400 (fun r405 g406 => MK z_pV 187 [.ref 27] g406 (fun r407 g408 => if (g408 27 37) = 0 then (if (g408 27 41) = (3 : Int32) then (if (g408 27 37) = 0 then ((0 ≤ (g408 27 50).toInt ∧ (g408 27 50).toInt < 16) ∧ (∀ g410 : zG, g410 = (z_up2 g408 66 (z_ix (g408 27 50)) x1) → (0 ≤ (g410 27 50).toInt ∧ (g410 27 50).toInt < 16) ∧ (∀ g412 : zG, g412 = (z_up2 g410 67 (z_ix (g410 27 50)) (m395 - (97 : Int32))) → (0 ≤ (g412 27 50).toInt ∧ (g412 27 50).toInt < 16) ∧ (∀ g414 : zG, g414 = (z_up2 g412 68 (z_ix (g412 27 50)) x2) → (0 ≤ (g414 27 50).toInt ∧ (g414 27 50).toInt < 16) ∧ (∀ g416 : zG, g416 = (z_up2 g414 69 (z_ix (g414 27 50)) (g406 27 42)) → ∀ g417 : zG, g417 = (z_up2 g416 27 50 ((g416 27 50) + (1 : Int32))) → MK z_pV 187 [.ref 27] g417 (fun r418 g419 => Q () g419)))))) else (Q () g408)) else (MK z_pV 186 [.ref 27, .int (2 : Int32)] g408 (fun r420 g421 => if (g421 27 37) = 0 then ((0 ≤ (g421 27 50).toInt ∧ (g421 27 50).toInt < 16) ∧ (∀ g423 : zG, g423 = (z_up2 g421 66 (z_ix (g421 27 50)) x1) → (0 ≤ (g423 27 50).toInt ∧ (g423 27 50).toInt < 16) ∧ (∀ g425 : zG, g425 = (z_up2 g423 67 (z_ix (g423 27 50)) (m395 - (97 : Int32))) → (0 ≤ (g425 27 50).toInt ∧ (g425 27 50).toInt < 16) ∧ (∀ g427 : zG, g427 = (z_up2 g425 68 (z_ix (g425 27 50)) x2) → (0 ≤ (g427 27 50).toInt ∧ (g427 27 50).toInt < 16) ∧ (∀ g429 : zG, g429 = (z_up2 g427 69 (z_ix (g427 27 50)) (g406 27 42)) → ∀ g430 : zG, g430 = (z_up2 g429 27 50 ((g429 27 50) + (1 : Int32))) → MK z_pV 187 [.ref 27] g430 (fun r431 g432 => Q () g432)))))) else (Q () g421)))) else (if (g408 27 37) = 0 then ((0 ≤ (g408 27 50).toInt ∧ (g408 27 50).toInt < 16) ∧ (∀ g434 : zG, g434 = (z_up2 g408 66 (z_ix (g408 27 50)) x1) → (0 ≤ (g434 27 50).toInt ∧ (g434 27 50).toInt < 16) ∧ (∀ g436 : zG, g436 = (z_up2 g434 67 (z_ix (g434 27 50)) (m395 - (97 : Int32))) → (0 ≤ (g436 27 50).toInt ∧ (g436 27 50).toInt < 16) ∧ (∀ g438 : zG, g438 = (z_up2 g436 68 (z_ix (g436 27 50)) x2) → (0 ≤ (g438 27 50).toInt ∧ (g438 27 50).toInt < 16) ∧ (∀ g440 : zG, g440 = (z_up2 g438 69 (z_ix (g438 27 50)) (g406 27 42)) → ∀ g441 : zG, g441 = (z_up2 g440 27 50 ((g440 27 50) + (1 : Int32))) → MK z_pV 187 [.ref 27] g441 (fun r442 g443 => Q () g443)))))) else (Q () g408)))))))) else (MK z_pV 191 [.ref 27, .int x1, .int (0 : Int32), .int x2] g2 (fun r444 g445 => MK z_pV 187 [.ref 27] g445 (fun r446 g447 => ∀ m451 : Int32, m451 = (if x1 = 0 then (9 : Int32) else (if x1 = (1 : Int32) then (9999 : Int32) else (if x1 = (2 : Int32) then (24 : Int32) else (if x1 = (3 : Int32) then (99 : Int32) else (60 : Int32))))) → MK z_pV 189 [.ref 27, .int (z_bt (¬ (x1 = (1 : Int32)) ∧ (¬ (x1 = (4 : Int32))))), .int m451] g447 (fun r452 g453 => MK z_pV 187 [.ref 27] g453 (fun r454 g455 => if (g455 27 37) = 0 then (if (g455 27 41) = (3 : Int32) then (if (g455 27 37) = 0 then ((0 ≤ (g455 27 50).toInt ∧ (g455 27 50).toInt < 16) ∧ (∀ g457 : zG, g457 = (z_up2 g455 66 (z_ix (g455 27 50)) x1) → (0 ≤ (g457 27 50).toInt ∧ (g457 27 50).toInt < 16) ∧ (∀ g459 : zG, g459 = (z_up2 g457 67 (z_ix (g457 27 50)) (0 : Int32)) → (0 ≤ (g459 27 50).toInt ∧ (g459 27 50).toInt < 16) ∧ (∀ g461 : zG, g461 = (z_up2 g459 68 (z_ix (g459 27 50)) x2) → (0 ≤ (g461 27 50).toInt ∧ (g461 27 50).toInt < 16) ∧ (∀ g463 : zG, g463 = (z_up2 g461 69 (z_ix (g461 27 50)) (g453 27 42)) → ∀ g464 : zG, g464 = (z_up2 g463 27 50 ((g463 27 50) + (1 : Int32))) → MK z_pV 187 [.ref 27] g464 (fun r465 g466 => Q () g466)))))) else (Q () g455)) else (MK z_pV 186 [.ref 27, .int (2 : Int32)] g455 (fun r467 g468 => if (g468 27 37) = 0 then ((0 ≤ (g468 27 50).toInt ∧ (g468 27 50).toInt < 16) ∧ (∀ g470 : zG, g470 = (z_up2 g468 66 (z_ix (g468 27 50)) x1) → (0 ≤ (g470 27 50).toInt ∧ (g470 27 50).toInt < 16) ∧ (∀ g472 : zG, g472 = (z_up2 g470 67 (z_ix (g470 27 50)) (0 : Int32)) → (0 ≤ (g472 27 50).toInt ∧ (g472 27 50).toInt < 16) ∧ (∀ g474 : zG, g474 = (z_up2 g472 68 (z_ix (g472 27 50)) x2) → (0 ≤ (g474 27 50).toInt ∧ (g474 27 50).toInt < 16) ∧ (∀ g476 : zG, g476 = (z_up2 g474 69 (z_ix (g474 27 50)) (g453 27 42)) → ∀ g477 : zG, g477 = (z_up2 g476 27 50 ((g476 27 50) + (1 : Int32))) → MK z_pV 187 [.ref 27] g477 (fun r478 g479 => Q () g479)))))) else (Q () g468)))) else (if (g455 27 37) = 0 then ((0 ≤ (g455 27 50).toInt ∧ (g455 27 50).toInt < 16) ∧ (∀ g481 : zG, g481 = (z_up2 g455 66 (z_ix (g455 27 50)) x1) → (0 ≤ (g481 27 50).toInt ∧ (g481 27 50).toInt < 16) ∧ (∀ g483 : zG, g483 = (z_up2 g481 67 (z_ix (g481 27 50)) (0 : Int32)) → (0 ≤ (g483 27 50).toInt ∧ (g483 27 50).toInt < 16) ∧ (∀ g485 : zG, g485 = (z_up2 g483 68 (z_ix (g483 27 50)) x2) → (0 ≤ (g485 27 50).toInt ∧ (g485 27 50).toInt < 16) ∧ (∀ g487 : zG, g487 = (z_up2 g485 69 (z_ix (g485 27 50)) (g453 27 42)) → ∀ g488 : zG, g488 = (z_up2 g487 27 50 ((g487 27 50) + (1 : Int32))) → MK z_pV 187 [.ref 27] g488 (fun r489 g490 => Q () g490)))))) else (Q () g455))))))))) else (MK z_pV 189 [.ref 27, .int (0 : Int32), .int (5 : Int32)] g2 (fun r491 g492 => MK z_pV 191 [.ref 27, .int x1, .int (g492 27 42), .int x2] g492 (fun r493 g494 => MK z_pV 187 [.ref 27] g494 (fun r495 g496 => ∀ m500 : Int32, m500 = (if x1 = 0 then (9 : Int32) else (if x1 = (1 : Int32) then (9999 : Int32) else (if x1 = (2 : Int32) then (24 : Int32) else (if x1 = (3 : Int32) then (99 : Int32) else (60 : Int32))))) → MK z_pV 189 [.ref 27, .int (z_bt (¬ (x1 = (1 : Int32)) ∧ (¬ (x1 = (4 : Int32))))), .int m500] g496 (fun r501 g502 => MK z_pV 187 [.ref 27] g502 (fun r503 g504 => if (g504 27 37) = 0 then (if (g504 27 41) = (3 : Int32) then (if (g504 27 37) = 0 then ((0 ≤ (g504 27 50).toInt ∧ (g504 27 50).toInt < 16) ∧ (∀ g506 : zG, g506 = (z_up2 g504 66 (z_ix (g504 27 50)) x1) → (0 ≤ (g506 27 50).toInt ∧ (g506 27 50).toInt < 16) ∧ (∀ g508 : zG, g508 = (z_up2 g506 67 (z_ix (g506 27 50)) (g492 27 42)) → (0 ≤ (g508 27 50).toInt ∧ (g508 27 50).toInt < 16) ∧ (∀ g510 : zG, g510 = (z_up2 g508 68 (z_ix (g508 27 50)) x2) → (0 ≤ (g510 27 50).toInt ∧ (g510 27 50).toInt < 16) ∧ (∀ g512 : zG, g512 = (z_up2 g510 69 (z_ix (g510 27 50)) (g502 27 42)) → ∀ g513 : zG, g513 = (z_up2 g512 27 50 ((g512 27 50) + (1 : Int32))) → MK z_pV 187 [.ref 27] g513 (fun r514 g515 => Q () g515)))))) else (Q () g504)) else (MK z_pV 186 [.ref 27, .int (2 : Int32)] g504 (fun r516 g517 => if (g517 27 37) = 0 then ((0 ≤ (g517 27 50).toInt ∧ (g517 27 50).toInt < 16) ∧ (∀ g519 : zG, g519 = (z_up2 g517 66 (z_ix (g517 27 50)) x1) → (0 ≤ (g519 27 50).toInt ∧ (g519 27 50).toInt < 16) ∧ (∀ g521 : zG, g521 = (z_up2 g519 67 (z_ix (g519 27 50)) (g492 27 42)) → (0 ≤ (g521 27 50).toInt ∧ (g521 27 50).toInt < 16) ∧ (∀ g523 : zG, g523 = (z_up2 g521 68 (z_ix (g521 27 50)) x2) → (0 ≤ (g523 27 50).toInt ∧ (g523 27 50).toInt < 16) ∧ (∀ g525 : zG, g525 = (z_up2 g523 69 (z_ix (g523 27 50)) (g502 27 42)) → ∀ g526 : zG, g526 = (z_up2 g525 27 50 ((g525 27 50) + (1 : Int32))) → MK z_pV 187 [.ref 27] g526 (fun r527 g528 => Q () g528)))))) else (Q () g517)))) else (if (g504 27 37) = 0 then ((0 ≤ (g504 27 50).toInt ∧ (g504 27 50).toInt < 16) ∧ (∀ g530 : zG, g530 = (z_up2 g504 66 (z_ix (g504 27 50)) x1) → (0 ≤ (g530 27 50).toInt ∧ (g530 27 50).toInt < 16) ∧ (∀ g532 : zG, g532 = (z_up2 g530 67 (z_ix (g530 27 50)) (g492 27 42)) → (0 ≤ (g532 27 50).toInt ∧ (g532 27 50).toInt < 16) ∧ (∀ g534 : zG, g534 = (z_up2 g532 68 (z_ix (g532 27 50)) x2) → (0 ≤ (g534 27 50).toInt ∧ (g534 27 50).toInt < 16) ∧ (∀ g536 : zG, g536 = (z_up2 g534 69 (z_ix (g534 27 50)) (g502 27 42)) → ∀ g537 : zG, g537 = (z_up2 g536 27 50 ((g536 27 50) + (1 : Int32))) → MK z_pV 187 [.ref 27] g537 (fun r538 g539 => Q () g539)))))) else (Q () g504)))))))))) else (MK z_pV 191 [.ref 27, .int x1, .int (0 : Int32), .int x2] g (fun r540 g541 => MK z_pV 187 [.ref 27] g541 (fun r542 g543 => if (g543 27 37) = 0 then (if (g543 27 41) = (3 : Int32) then (if (g543 27 37) = 0 then ((0 ≤ (g543 27 50).toInt ∧ (g543 27 50).toInt < 16) ∧ (∀ g545 : zG, g545 = (z_up2 g543 66 (z_ix (g543 27 50)) x1) → (0 ≤ (g545 27 50).toInt ∧ (g545 27 50).toInt < 16) ∧ (∀ g547 : zG, g547 = (z_up2 g545 67 (z_ix (g545 27 50)) (0 : Int32)) → (0 ≤ (g547 27 50).toInt ∧ (g547 27 50).toInt < 16) ∧ (∀ g549 : zG, g549 = (z_up2 g547 68 (z_ix (g547 27 50)) x2) → (0 ≤ (g549 27 50).toInt ∧ (g549 27 50).toInt < 16) ∧ (∀ g551 : zG, g551 = (z_up2 g549 69 (z_ix (g549 27 50)) (0 : Int32)) → ∀ g552 : zG, g552 = (z_up2 g551 27 50 ((g551 27 50) + (1 : Int32))) → MK z_pV 187 [.ref 27] g552 (fun r553 g554 => Q () g554)))))) else (Q () g543)) else (MK z_pV 186 [.ref 27, .int (2 : Int32)] g543 (fun r555 g556 => if (g556 27 37) = 0 then ((0 ≤ (g556 27 50).toInt ∧ (g556 27 50).toInt < 16) ∧ (∀ g558 : zG, g558 = (z_up2 g556 66 (z_ix (g556 27 50)) x1) → (0 ≤ (g558 27 50).toInt ∧ (g558 27 50).toInt < 16) ∧ (∀ g560 : zG, g560 = (z_up2 g558 67 (z_ix (g558 27 50)) (0 : Int32)) → (0 ≤ (g560 27 50).toInt ∧ (g560 27 50).toInt < 16) ∧ (∀ g562 : zG, g562 = (z_up2 g560 68 (z_ix (g560 27 50)) x2) → (0 ≤ (g562 27 50).toInt ∧ (g562 27 50).toInt < 16) ∧ (∀ g564 : zG, g564 = (z_up2 g562 69 (z_ix (g562 27 50)) (0 : Int32)) → ∀ g565 : zG, g565 = (z_up2 g564 27 50 ((g564 27 50) + (1 : Int32))) → MK z_pV 187 [.ref 27] g565 (fun r566 g567 => Q () g567)))))) else (Q () g556)))) else (if (g543 27 37) = 0 then ((0 ≤ (g543 27 50).toInt ∧ (g543 27 50).toInt < 16) ∧ (∀ g569 : zG, g569 = (z_up2 g543 66 (z_ix (g543 27 50)) x1) → (0 ≤ (g569 27 50).toInt ∧ (g569 27 50).toInt < 16) ∧ (∀ g571 : zG, g571 = (z_up2 g569 67 (z_ix (g569 27 50)) (0 : Int32)) → (0 ≤ (g571 27 50).toInt ∧ (g571 27 50).toInt < 16) ∧ (∀ g573 : zG, g573 = (z_up2 g571 68 (z_ix (g571 27 50)) x2) → (0 ≤ (g573 27 50).toInt ∧ (g573 27 50).toInt < 16) ∧ (∀ g575 : zG, g575 = (z_up2 g573 69 (z_ix (g573 27 50)) (0 : Int32)) → ∀ g576 : zG, g576 = (z_up2 g575 27 50 ((g575 27 50) + (1 : Int32))) → MK z_pV 187 [.ref 27] g576 (fun r577 g578 => Q () g578)))))) else (Q () g543)))))) : MK z_pV 193 [.ref 27, .int x1, .int x2] g Q := by
  refine m_K (L := [some (.ref 27), some (.int x1), some (.int x2), none, none]) rfl ?_
  refine m_n 6 (pc' := 7) (L' := [some (.ref 27), some (.int x1), some (.int x2), some (.int (0 : Int32)), some (.int (0 : Int32))]) (S' := [.int (5 : Int32), .int x1]) (fun _ => rfl) ?_
  refine m_b (c := x1 < (5 : Int32)) (pc' := 24) (L' := [some (.ref 27), some (.int x1), some (.int x2), some (.int (0 : Int32)), some (.int (0 : Int32))]) (S' := []) (pc2 := 10) (L2 := [some (.ref 27), some (.int x1), some (.int x2), some (.int (0 : Int32)), some (.int (0 : Int32))]) (S2 := []) rfl (fun _ => rfl) (fun hc => ?_) (fun hc => ?_)
  · have hc := hc
    rw [if_pos hc] at H
    refine m_n 1 (pc' := 25) (L' := [some (.ref 27), some (.int x1), some (.int x2), some (.int (0 : Int32)), some (.int (0 : Int32))]) (S' := [.ref 27]) (fun _ => rfl) ?_
    refine m_cV 187 1 rfl rfl rfl (A := [.ref 27]) rfl rfl (Or.inr ⟨rfl, _, rfl⟩) (rest := []) rfl rfl ?_
    refine H.mono (fun r1 g2 H => ?_)
    refine m_n 2 (pc' := 30) (L' := [some (.ref 27), some (.int x1), some (.int x2), some (.int (0 : Int32)), some (.int (0 : Int32))]) (S' := [.int (4 : Int32), .int x1]) (fun _ => rfl) ?_
    refine m_b (c := x1 = (4 : Int32)) (pc' := 33) (L' := [some (.ref 27), some (.int x1), some (.int x2), some (.int (0 : Int32)), some (.int (0 : Int32))]) (S' := []) (pc2 := 113) (L2 := [some (.ref 27), some (.int x1), some (.int x2), some (.int (0 : Int32)), some (.int (0 : Int32))]) (S2 := []) rfl (fun _ => rfl) (fun hc => ?_) (fun hc => ?_)
    · have hc := hc
      rw [if_pos hc] at H
      refine m_n 1 (pc' := 34) (L' := [some (.ref 27), some (.int x1), some (.int x2), some (.int (0 : Int32)), some (.int (0 : Int32))]) (S' := [.ref 27]) (fun _ => rfl) ?_
      refine m_gI rfl ?_
      refine m_b (c := (g2 27 37) = 0) (pc' := 40) (L' := [some (.ref 27), some (.int x1), some (.int x2), some (.int (0 : Int32)), some (.int (0 : Int32))]) (S' := []) (pc2 := 87) (L2 := [some (.ref 27), some (.int x1), some (.int x2), some (.int (0 : Int32)), some (.int (0 : Int32))]) (S2 := []) rfl (fun _ => rfl) (fun hc => ?_) (fun hc => ?_)
      · have hc := hc
        rw [if_pos hc] at H
        refine m_n 1 (pc' := 41) (L' := [some (.ref 27), some (.int x1), some (.int x2), some (.int (0 : Int32)), some (.int (0 : Int32))]) (S' := [.ref 27]) (fun _ => rfl) ?_
        refine m_gI rfl ?_
        refine m_n 1 (pc' := 45) (L' := [some (.ref 27), some (.int x1), some (.int x2), some (.int (0 : Int32)), some (.int (0 : Int32))]) (S' := [.int (1 : Int32), .int (g2 27 41)]) (fun _ => rfl) ?_
        refine m_b (c := (g2 27 41) = (1 : Int32)) (pc' := 48) (L' := [some (.ref 27), some (.int x1), some (.int x2), some (.int (0 : Int32)), some (.int (0 : Int32))]) (S' := []) (pc2 := 82) (L2 := [some (.ref 27), some (.int x1), some (.int x2), some (.int (0 : Int32)), some (.int (0 : Int32))]) (S2 := []) rfl (fun _ => rfl) (fun hc => ?_) (fun hc => ?_)
        · have hc := hc
          rw [if_pos hc] at H
          refine m_n 1 (pc' := 49) (L' := [some (.ref 27), some (.int x1), some (.int x2), some (.int (0 : Int32)), some (.int (0 : Int32))]) (S' := [.ref 27]) (fun _ => rfl) ?_
          refine m_gI rfl ?_
          refine m_n 1 (pc' := 53) (L' := [some (.ref 27), some (.int x1), some (.int x2), some (.int (0 : Int32)), some (.int (0 : Int32))]) (S' := [.ref 27, .int (g2 27 39)]) (fun _ => rfl) ?_
          refine m_gI rfl ?_
          refine m_n 2 (pc' := 58) (L' := [some (.ref 27), some (.int x1), some (.int x2), some (.int (0 : Int32)), some (.int (0 : Int32))]) (S' := [.int (1 : Int32), .int ((g2 27 39) - (g2 27 40))]) (fun _ => rfl) ?_
          refine m_b (c := ((g2 27 39) - (g2 27 40)) = (1 : Int32)) (pc' := 61) (L' := [some (.ref 27), some (.int x1), some (.int x2), some (.int (0 : Int32)), some (.int (0 : Int32))]) (S' := []) (pc2 := 82) (L2 := [some (.ref 27), some (.int x1), some (.int x2), some (.int (0 : Int32)), some (.int (0 : Int32))]) (S2 := []) rfl (fun _ => rfl) (fun hc => ?_) (fun hc => ?_)
          · have hc := hc
            rw [if_pos hc] at H
            refine m_n 2 (pc' := 63) (L' := [some (.ref 27), some (.int x1), some (.int x2), some (.int (0 : Int32)), some (.int (0 : Int32))]) (S' := [.ref 27, .ref 27]) (fun _ => rfl) ?_
            refine m_gI rfl ?_
            refine m_cI 185 2 rfl rfl rfl (A := [.ref 27, .int (g2 27 40)]) rfl rfl (Or.inr ⟨rfl, _, rfl⟩) (rest := []) rfl rfl rfl ?_
            obtain ⟨o4, H⟩ := H
            obtain ⟨m3, em3⟩ : ∃ m : Int32, m = (if (g2 27 35) ≤ (g2 27 40) then (-4 : Int32) else (g2 59 (z_ix (g2 27 40)))) := ⟨_, rfl⟩
            have H := H m3 em3
            refine X_185 (g2 27 40) g2 ⟨o4, (z_all em3 ?_)⟩
            refine m_n 3 (pc' := 76) (L' := [some (.ref 27), some (.int x1), some (.int x2), some (.int (0 : Int32)), some (.int (0 : Int32))]) (S' := [.long (104 : Int64), .long (97 : Int64), .long m3.toInt64]) (fun _ => rfl) ?_
            refine m_cI 161 3 rfl rfl rfl (A := [.long m3.toInt64, .long (97 : Int64), .long (104 : Int64)]) rfl rfl (Or.inl rfl) (rest := []) rfl rfl rfl ?_
            refine c_inJ m3 (97 : Int32) (104 : Int32) g2 rfl rfl rfl ?_
            refine m_b (c := z_bt ((97 : Int32) ≤ m3 ∧ m3 ≤ (104 : Int32)) = 0) (pc' := 82) (L' := [some (.ref 27), some (.int x1), some (.int x2), some (.int (0 : Int32)), some (.int (0 : Int32))]) (S' := []) (pc2 := 87) (L2 := [some (.ref 27), some (.int x1), some (.int x2), some (.int (0 : Int32)), some (.int (0 : Int32))]) (S2 := []) rfl (fun _ => rfl) (fun hc => ?_) (fun hc => ?_)
            · have hc := z_bt_0.mp hc
              rw [if_neg hc] at H
              refine m_n 2 (pc' := 84) (L' := [some (.ref 27), some (.int x1), some (.int x2), some (.int (0 : Int32)), some (.int (0 : Int32))]) (S' := [.int (2 : Int32), .ref 27]) (fun _ => rfl) ?_
              refine m_cV 186 2 rfl rfl rfl (A := [.ref 27, .int (2 : Int32)]) rfl rfl (Or.inr ⟨rfl, _, rfl⟩) (rest := []) rfl rfl ?_
              refine H.mono (fun r5 g6 H => ?_)
              refine m_n 1 (pc' := 88) (L' := [some (.ref 27), some (.int x1), some (.int x2), some (.int (0 : Int32)), some (.int (0 : Int32))]) (S' := [.ref 27]) (fun _ => rfl) ?_
              refine m_gI rfl ?_
              refine m_b (c := (g6 27 37) = 0) (pc' := 94) (L' := [some (.ref 27), some (.int x1), some (.int x2), some (.int (0 : Int32)), some (.int (0 : Int32))]) (S' := []) (pc2 := 108) (L2 := [some (.ref 27), some (.int x1), some (.int x2), some (.int (0 : Int32)), some (.int (0 : Int32))]) (S2 := []) rfl (fun _ => rfl) (fun hc => ?_) (fun hc => ?_)
              · have hc := hc
                rw [if_pos hc] at H
                refine m_n 2 (pc' := 96) (L' := [some (.ref 27), some (.int x1), some (.int x2), some (.int (0 : Int32)), some (.int (0 : Int32))]) (S' := [.ref 27, .ref 27]) (fun _ => rfl) ?_
                refine m_gI rfl ?_
                refine m_cI 185 2 rfl rfl rfl (A := [.ref 27, .int (g6 27 40)]) rfl rfl (Or.inr ⟨rfl, _, rfl⟩) (rest := []) rfl rfl rfl ?_
                obtain ⟨o8, H⟩ := H
                obtain ⟨m7, em7⟩ : ∃ m : Int32, m = (if (g6 27 35) ≤ (g6 27 40) then (-4 : Int32) else (g6 59 (z_ix (g6 27 40)))) := ⟨_, rfl⟩
                have H := H m7 em7
                refine X_185 (g6 27 40) g6 ⟨o8, (z_all em7 ?_)⟩
                refine m_n 9 (pc' := 128) (L' := [some (.ref 27), some (.int x1), some (.int x2), some (.int (m7 - (97 : Int32))), some (.int (0 : Int32))]) (S' := [.int x2, .int (m7 - (97 : Int32)), .int x1, .ref 27]) (fun _ => rfl) ?_
                refine m_cV 191 4 rfl rfl rfl (A := [.ref 27, .int x1, .int (m7 - (97 : Int32)), .int x2]) rfl rfl (Or.inr ⟨rfl, _, rfl⟩) (rest := []) rfl rfl ?_
                refine H.mono (fun r9 g10 H => ?_)
                refine m_n 1 (pc' := 132) (L' := [some (.ref 27), some (.int x1), some (.int x2), some (.int (m7 - (97 : Int32))), some (.int (0 : Int32))]) (S' := [.ref 27]) (fun _ => rfl) ?_
                refine m_cV 187 1 rfl rfl rfl (A := [.ref 27]) rfl rfl (Or.inr ⟨rfl, _, rfl⟩) (rest := []) rfl rfl ?_
                refine H.mono (fun r11 g12 H => ?_)
                refine m_n 3 (pc' := 138) (L' := [some (.ref 27), some (.int x1), some (.int x2), some (.int (m7 - (97 : Int32))), some (.int (0 : Int32))]) (S' := [.int (1 : Int32), .int x1, .ref 27]) (fun _ => rfl) ?_
                have hj15 : MG z_pV 193 151 [some (.ref 27), some (.int x1), some (.int x2), some (.int (m7 - (97 : Int32))), some (.int (0 : Int32))] [.int (z_bt (¬ (x1 = (1 : Int32)) ∧ (¬ (x1 = (4 : Int32))))), .ref 27] g12 Q := by
                  refine m_n 2 (pc' := 153) (L' := [some (.ref 27), some (.int x1), some (.int x2), some (.int (m7 - (97 : Int32))), some (.int (0 : Int32))]) (S' := [.int x1, .ref 27, .int (z_bt (¬ (x1 = (1 : Int32)) ∧ (¬ (x1 = (4 : Int32))))), .ref 27]) (fun _ => rfl) ?_
                  refine m_cI 192 2 rfl rfl rfl (A := [.ref 27, .int x1]) rfl rfl (Or.inr ⟨rfl, _, rfl⟩) (rest := [.int (z_bt (¬ (x1 = (1 : Int32)) ∧ (¬ (x1 = (4 : Int32))))), .ref 27]) rfl rfl rfl ?_
                  obtain ⟨m16, em16⟩ : ∃ m : Int32, m = (if x1 = 0 then (9 : Int32) else (if x1 = (1 : Int32) then (9999 : Int32) else (if x1 = (2 : Int32) then (24 : Int32) else (if x1 = (3 : Int32) then (99 : Int32) else (60 : Int32))))) := ⟨_, rfl⟩
                  have H := H m16 em16
                  refine X_192 x1 g12 (z_all em16 ?_)
                  refine m_cV 189 3 rfl rfl rfl (A := [.ref 27, .int (z_bt (¬ (x1 = (1 : Int32)) ∧ (¬ (x1 = (4 : Int32))))), .int m16]) rfl rfl (Or.inr ⟨rfl, _, rfl⟩) (rest := []) rfl rfl ?_
                  refine H.mono (fun r17 g18 H => ?_)
                  refine m_n 1 (pc' := 160) (L' := [some (.ref 27), some (.int x1), some (.int x2), some (.int (m7 - (97 : Int32))), some (.int (0 : Int32))]) (S' := [.ref 27]) (fun _ => rfl) ?_
                  refine m_gI rfl ?_
                  refine m_n 2 (pc' := 166) (L' := [some (.ref 27), some (.int x1), some (.int x2), some (.int (m7 - (97 : Int32))), some (.int (g18 27 42))]) (S' := [.ref 27]) (fun _ => rfl) ?_
                  refine m_cV 187 1 rfl rfl rfl (A := [.ref 27]) rfl rfl (Or.inr ⟨rfl, _, rfl⟩) (rest := []) rfl rfl ?_
                  refine H.mono (fun r19 g20 H => ?_)
                  refine m_n 1 (pc' := 170) (L' := [some (.ref 27), some (.int x1), some (.int x2), some (.int (m7 - (97 : Int32))), some (.int (g18 27 42))]) (S' := [.ref 27]) (fun _ => rfl) ?_
                  refine m_gI rfl ?_
                  refine m_b (c := (g20 27 37) = 0) (pc' := 176) (L' := [some (.ref 27), some (.int x1), some (.int x2), some (.int (m7 - (97 : Int32))), some (.int (g18 27 42))]) (S' := []) (pc2 := 189) (L2 := [some (.ref 27), some (.int x1), some (.int x2), some (.int (m7 - (97 : Int32))), some (.int (g18 27 42))]) (S2 := []) rfl (fun _ => rfl) (fun hc => ?_) (fun hc => ?_)
                  · have hc := hc
                    rw [if_pos hc] at H
                    refine m_n 1 (pc' := 177) (L' := [some (.ref 27), some (.int x1), some (.int x2), some (.int (m7 - (97 : Int32))), some (.int (g18 27 42))]) (S' := [.ref 27]) (fun _ => rfl) ?_
                    refine m_gI rfl ?_
                    refine m_n 1 (pc' := 181) (L' := [some (.ref 27), some (.int x1), some (.int x2), some (.int (m7 - (97 : Int32))), some (.int (g18 27 42))]) (S' := [.int (3 : Int32), .int (g20 27 41)]) (fun _ => rfl) ?_
                    refine m_b (c := (g20 27 41) = (3 : Int32)) (pc' := 189) (L' := [some (.ref 27), some (.int x1), some (.int x2), some (.int (m7 - (97 : Int32))), some (.int (g18 27 42))]) (S' := []) (pc2 := 184) (L2 := [some (.ref 27), some (.int x1), some (.int x2), some (.int (m7 - (97 : Int32))), some (.int (g18 27 42))]) (S2 := []) rfl (fun _ => rfl) (fun hc => ?_) (fun hc => ?_)
                    · have hc := hc
                      rw [if_pos hc] at H
                      refine m_n 1 (pc' := 190) (L' := [some (.ref 27), some (.int x1), some (.int x2), some (.int (m7 - (97 : Int32))), some (.int (g18 27 42))]) (S' := [.ref 27]) (fun _ => rfl) ?_
                      refine m_gI rfl ?_
                      refine m_b (c := (g20 27 37) = 0) (pc' := 196) (L' := [some (.ref 27), some (.int x1), some (.int x2), some (.int (m7 - (97 : Int32))), some (.int (g18 27 42))]) (S' := []) (pc2 := 251) (L2 := [some (.ref 27), some (.int x1), some (.int x2), some (.int (m7 - (97 : Int32))), some (.int (g18 27 42))]) (S2 := []) rfl (fun _ => rfl) (fun hc => ?_) (fun hc => ?_)
                      · have hc := hc
                        rw [if_pos hc] at H
                        refine m_n 1 (pc' := 197) (L' := [some (.ref 27), some (.int x1), some (.int x2), some (.int (m7 - (97 : Int32))), some (.int (g18 27 42))]) (S' := [.ref 27]) (fun _ => rfl) ?_
                        refine m_gR (q := 66) rfl (by decide) ?_
                        refine m_n 1 (pc' := 201) (L' := [some (.ref 27), some (.int x1), some (.int x2), some (.int (m7 - (97 : Int32))), some (.int (g18 27 42))]) (S' := [.ref 27, .ref 66]) (fun _ => rfl) ?_
                        refine m_gI rfl ?_
                        refine m_n 1 (pc' := 205) (L' := [some (.ref 27), some (.int x1), some (.int x2), some (.int (m7 - (97 : Int32))), some (.int (g18 27 42))]) (S' := [.int x1, .int (g20 27 50), .ref 66]) (fun _ => rfl) ?_
                        obtain ⟨o21, H⟩ := H
                        refine m_is 16 rfl rfl rfl o21 ?_
                        obtain ⟨g22, eg22⟩ : ∃ m : zG, m = (z_up2 g20 66 (z_ix (g20 27 50)) x1) := ⟨_, rfl⟩
                        have H := H g22 eg22
                        refine z_nmG eg22 ?_
                        refine m_n 1 (pc' := 207) (L' := [some (.ref 27), some (.int x1), some (.int x2), some (.int (m7 - (97 : Int32))), some (.int (g18 27 42))]) (S' := [.ref 27]) (fun _ => rfl) ?_
                        refine m_gR (q := 67) rfl (by decide) ?_
                        refine m_n 1 (pc' := 211) (L' := [some (.ref 27), some (.int x1), some (.int x2), some (.int (m7 - (97 : Int32))), some (.int (g18 27 42))]) (S' := [.ref 27, .ref 67]) (fun _ => rfl) ?_
                        refine m_gI rfl ?_
                        refine m_n 1 (pc' := 215) (L' := [some (.ref 27), some (.int x1), some (.int x2), some (.int (m7 - (97 : Int32))), some (.int (g18 27 42))]) (S' := [.int (m7 - (97 : Int32)), .int (g22 27 50), .ref 67]) (fun _ => rfl) ?_
                        obtain ⟨o23, H⟩ := H
                        refine m_is 16 rfl rfl rfl o23 ?_
                        obtain ⟨g24, eg24⟩ : ∃ m : zG, m = (z_up2 g22 67 (z_ix (g22 27 50)) (m7 - (97 : Int32))) := ⟨_, rfl⟩
                        have H := H g24 eg24
                        refine z_nmG eg24 ?_
                        refine m_n 1 (pc' := 217) (L' := [some (.ref 27), some (.int x1), some (.int x2), some (.int (m7 - (97 : Int32))), some (.int (g18 27 42))]) (S' := [.ref 27]) (fun _ => rfl) ?_
                        refine m_gR (q := 68) rfl (by decide) ?_
                        refine m_n 1 (pc' := 221) (L' := [some (.ref 27), some (.int x1), some (.int x2), some (.int (m7 - (97 : Int32))), some (.int (g18 27 42))]) (S' := [.ref 27, .ref 68]) (fun _ => rfl) ?_
                        refine m_gI rfl ?_
                        refine m_n 1 (pc' := 225) (L' := [some (.ref 27), some (.int x1), some (.int x2), some (.int (m7 - (97 : Int32))), some (.int (g18 27 42))]) (S' := [.int x2, .int (g24 27 50), .ref 68]) (fun _ => rfl) ?_
                        obtain ⟨o25, H⟩ := H
                        refine m_is 16 rfl rfl rfl o25 ?_
                        obtain ⟨g26, eg26⟩ : ∃ m : zG, m = (z_up2 g24 68 (z_ix (g24 27 50)) x2) := ⟨_, rfl⟩
                        have H := H g26 eg26
                        refine z_nmG eg26 ?_
                        refine m_n 1 (pc' := 227) (L' := [some (.ref 27), some (.int x1), some (.int x2), some (.int (m7 - (97 : Int32))), some (.int (g18 27 42))]) (S' := [.ref 27]) (fun _ => rfl) ?_
                        refine m_gR (q := 69) rfl (by decide) ?_
                        refine m_n 1 (pc' := 231) (L' := [some (.ref 27), some (.int x1), some (.int x2), some (.int (m7 - (97 : Int32))), some (.int (g18 27 42))]) (S' := [.ref 27, .ref 69]) (fun _ => rfl) ?_
                        refine m_gI rfl ?_
                        refine m_n 1 (pc' := 236) (L' := [some (.ref 27), some (.int x1), some (.int x2), some (.int (m7 - (97 : Int32))), some (.int (g18 27 42))]) (S' := [.int (g18 27 42), .int (g26 27 50), .ref 69]) (fun _ => rfl) ?_
                        obtain ⟨o27, H⟩ := H
                        refine m_is 16 rfl rfl rfl o27 ?_
                        obtain ⟨g28, eg28⟩ : ∃ m : zG, m = (z_up2 g26 69 (z_ix (g26 27 50)) (g18 27 42)) := ⟨_, rfl⟩
                        have H := H g28 eg28
                        refine z_nmG eg28 ?_
                        refine m_n 2 (pc' := 239) (L' := [some (.ref 27), some (.int x1), some (.int x2), some (.int (m7 - (97 : Int32))), some (.int (g18 27 42))]) (S' := [.ref 27, .ref 27]) (fun _ => rfl) ?_
                        refine m_gI rfl ?_
                        refine m_n 2 (pc' := 244) (L' := [some (.ref 27), some (.int x1), some (.int x2), some (.int (m7 - (97 : Int32))), some (.int (g18 27 42))]) (S' := [.int ((g28 27 50) + (1 : Int32)), .ref 27]) (fun _ => rfl) ?_
                        refine m_pI rfl ?_
                        obtain ⟨g29, eg29⟩ : ∃ m : zG, m = (z_up2 g28 27 50 ((g28 27 50) + (1 : Int32))) := ⟨_, rfl⟩
                        have H := H g29 eg29
                        refine z_nmG eg29 ?_
                        refine m_n 1 (pc' := 248) (L' := [some (.ref 27), some (.int x1), some (.int x2), some (.int (m7 - (97 : Int32))), some (.int (g18 27 42))]) (S' := [.ref 27]) (fun _ => rfl) ?_
                        refine m_cV 187 1 rfl rfl rfl (A := [.ref 27]) rfl rfl (Or.inr ⟨rfl, _, rfl⟩) (rest := []) rfl rfl ?_
                        refine H.mono (fun r30 g31 H => ?_)
                        exact m_r rfl rfl rfl H
                      · have hc := hc
                        rw [if_neg hc] at H
                        exact m_r rfl rfl rfl H
                    · have hc := hc
                      rw [if_neg hc] at H
                      refine m_n 2 (pc' := 186) (L' := [some (.ref 27), some (.int x1), some (.int x2), some (.int (m7 - (97 : Int32))), some (.int (g18 27 42))]) (S' := [.int (2 : Int32), .ref 27]) (fun _ => rfl) ?_
                      refine m_cV 186 2 rfl rfl rfl (A := [.ref 27, .int (2 : Int32)]) rfl rfl (Or.inr ⟨rfl, _, rfl⟩) (rest := []) rfl rfl ?_
                      refine H.mono (fun r32 g33 H => ?_)
                      refine m_n 1 (pc' := 190) (L' := [some (.ref 27), some (.int x1), some (.int x2), some (.int (m7 - (97 : Int32))), some (.int (g18 27 42))]) (S' := [.ref 27]) (fun _ => rfl) ?_
                      refine m_gI rfl ?_
                      refine m_b (c := (g33 27 37) = 0) (pc' := 196) (L' := [some (.ref 27), some (.int x1), some (.int x2), some (.int (m7 - (97 : Int32))), some (.int (g18 27 42))]) (S' := []) (pc2 := 251) (L2 := [some (.ref 27), some (.int x1), some (.int x2), some (.int (m7 - (97 : Int32))), some (.int (g18 27 42))]) (S2 := []) rfl (fun _ => rfl) (fun hc => ?_) (fun hc => ?_)
                      · have hc := hc
                        rw [if_pos hc] at H
                        refine m_n 1 (pc' := 197) (L' := [some (.ref 27), some (.int x1), some (.int x2), some (.int (m7 - (97 : Int32))), some (.int (g18 27 42))]) (S' := [.ref 27]) (fun _ => rfl) ?_
                        refine m_gR (q := 66) rfl (by decide) ?_
                        refine m_n 1 (pc' := 201) (L' := [some (.ref 27), some (.int x1), some (.int x2), some (.int (m7 - (97 : Int32))), some (.int (g18 27 42))]) (S' := [.ref 27, .ref 66]) (fun _ => rfl) ?_
                        refine m_gI rfl ?_
                        refine m_n 1 (pc' := 205) (L' := [some (.ref 27), some (.int x1), some (.int x2), some (.int (m7 - (97 : Int32))), some (.int (g18 27 42))]) (S' := [.int x1, .int (g33 27 50), .ref 66]) (fun _ => rfl) ?_
                        obtain ⟨o34, H⟩ := H
                        refine m_is 16 rfl rfl rfl o34 ?_
                        obtain ⟨g35, eg35⟩ : ∃ m : zG, m = (z_up2 g33 66 (z_ix (g33 27 50)) x1) := ⟨_, rfl⟩
                        have H := H g35 eg35
                        refine z_nmG eg35 ?_
                        refine m_n 1 (pc' := 207) (L' := [some (.ref 27), some (.int x1), some (.int x2), some (.int (m7 - (97 : Int32))), some (.int (g18 27 42))]) (S' := [.ref 27]) (fun _ => rfl) ?_
                        refine m_gR (q := 67) rfl (by decide) ?_
                        refine m_n 1 (pc' := 211) (L' := [some (.ref 27), some (.int x1), some (.int x2), some (.int (m7 - (97 : Int32))), some (.int (g18 27 42))]) (S' := [.ref 27, .ref 67]) (fun _ => rfl) ?_
                        refine m_gI rfl ?_
                        refine m_n 1 (pc' := 215) (L' := [some (.ref 27), some (.int x1), some (.int x2), some (.int (m7 - (97 : Int32))), some (.int (g18 27 42))]) (S' := [.int (m7 - (97 : Int32)), .int (g35 27 50), .ref 67]) (fun _ => rfl) ?_
                        obtain ⟨o36, H⟩ := H
                        refine m_is 16 rfl rfl rfl o36 ?_
                        obtain ⟨g37, eg37⟩ : ∃ m : zG, m = (z_up2 g35 67 (z_ix (g35 27 50)) (m7 - (97 : Int32))) := ⟨_, rfl⟩
                        have H := H g37 eg37
                        refine z_nmG eg37 ?_
                        refine m_n 1 (pc' := 217) (L' := [some (.ref 27), some (.int x1), some (.int x2), some (.int (m7 - (97 : Int32))), some (.int (g18 27 42))]) (S' := [.ref 27]) (fun _ => rfl) ?_
                        refine m_gR (q := 68) rfl (by decide) ?_
                        refine m_n 1 (pc' := 221) (L' := [some (.ref 27), some (.int x1), some (.int x2), some (.int (m7 - (97 : Int32))), some (.int (g18 27 42))]) (S' := [.ref 27, .ref 68]) (fun _ => rfl) ?_
                        refine m_gI rfl ?_
                        refine m_n 1 (pc' := 225) (L' := [some (.ref 27), some (.int x1), some (.int x2), some (.int (m7 - (97 : Int32))), some (.int (g18 27 42))]) (S' := [.int x2, .int (g37 27 50), .ref 68]) (fun _ => rfl) ?_
                        obtain ⟨o38, H⟩ := H
                        refine m_is 16 rfl rfl rfl o38 ?_
                        obtain ⟨g39, eg39⟩ : ∃ m : zG, m = (z_up2 g37 68 (z_ix (g37 27 50)) x2) := ⟨_, rfl⟩
                        have H := H g39 eg39
                        refine z_nmG eg39 ?_
                        refine m_n 1 (pc' := 227) (L' := [some (.ref 27), some (.int x1), some (.int x2), some (.int (m7 - (97 : Int32))), some (.int (g18 27 42))]) (S' := [.ref 27]) (fun _ => rfl) ?_
                        refine m_gR (q := 69) rfl (by decide) ?_
                        refine m_n 1 (pc' := 231) (L' := [some (.ref 27), some (.int x1), some (.int x2), some (.int (m7 - (97 : Int32))), some (.int (g18 27 42))]) (S' := [.ref 27, .ref 69]) (fun _ => rfl) ?_
                        refine m_gI rfl ?_
                        refine m_n 1 (pc' := 236) (L' := [some (.ref 27), some (.int x1), some (.int x2), some (.int (m7 - (97 : Int32))), some (.int (g18 27 42))]) (S' := [.int (g18 27 42), .int (g39 27 50), .ref 69]) (fun _ => rfl) ?_
                        obtain ⟨o40, H⟩ := H
                        refine m_is 16 rfl rfl rfl o40 ?_
                        obtain ⟨g41, eg41⟩ : ∃ m : zG, m = (z_up2 g39 69 (z_ix (g39 27 50)) (g18 27 42)) := ⟨_, rfl⟩
                        have H := H g41 eg41
                        refine z_nmG eg41 ?_
                        refine m_n 2 (pc' := 239) (L' := [some (.ref 27), some (.int x1), some (.int x2), some (.int (m7 - (97 : Int32))), some (.int (g18 27 42))]) (S' := [.ref 27, .ref 27]) (fun _ => rfl) ?_
                        refine m_gI rfl ?_
                        refine m_n 2 (pc' := 244) (L' := [some (.ref 27), some (.int x1), some (.int x2), some (.int (m7 - (97 : Int32))), some (.int (g18 27 42))]) (S' := [.int ((g41 27 50) + (1 : Int32)), .ref 27]) (fun _ => rfl) ?_
                        refine m_pI rfl ?_
                        obtain ⟨g42, eg42⟩ : ∃ m : zG, m = (z_up2 g41 27 50 ((g41 27 50) + (1 : Int32))) := ⟨_, rfl⟩
                        have H := H g42 eg42
                        refine z_nmG eg42 ?_
                        refine m_n 1 (pc' := 248) (L' := [some (.ref 27), some (.int x1), some (.int x2), some (.int (m7 - (97 : Int32))), some (.int (g18 27 42))]) (S' := [.ref 27]) (fun _ => rfl) ?_
                        refine m_cV 187 1 rfl rfl rfl (A := [.ref 27]) rfl rfl (Or.inr ⟨rfl, _, rfl⟩) (rest := []) rfl rfl ?_
                        refine H.mono (fun r43 g44 H => ?_)
                        exact m_r rfl rfl rfl H
                      · have hc := hc
                        rw [if_neg hc] at H
                        exact m_r rfl rfl rfl H
                  · have hc := hc
                    rw [if_neg hc] at H
                    refine m_n 1 (pc' := 190) (L' := [some (.ref 27), some (.int x1), some (.int x2), some (.int (m7 - (97 : Int32))), some (.int (g18 27 42))]) (S' := [.ref 27]) (fun _ => rfl) ?_
                    refine m_gI rfl ?_
                    refine m_b (c := (g20 27 37) = 0) (pc' := 196) (L' := [some (.ref 27), some (.int x1), some (.int x2), some (.int (m7 - (97 : Int32))), some (.int (g18 27 42))]) (S' := []) (pc2 := 251) (L2 := [some (.ref 27), some (.int x1), some (.int x2), some (.int (m7 - (97 : Int32))), some (.int (g18 27 42))]) (S2 := []) rfl (fun _ => rfl) (fun hc => ?_) (fun hc => ?_)
                    · have hc := hc
                      rw [if_pos hc] at H
                      refine m_n 1 (pc' := 197) (L' := [some (.ref 27), some (.int x1), some (.int x2), some (.int (m7 - (97 : Int32))), some (.int (g18 27 42))]) (S' := [.ref 27]) (fun _ => rfl) ?_
                      refine m_gR (q := 66) rfl (by decide) ?_
                      refine m_n 1 (pc' := 201) (L' := [some (.ref 27), some (.int x1), some (.int x2), some (.int (m7 - (97 : Int32))), some (.int (g18 27 42))]) (S' := [.ref 27, .ref 66]) (fun _ => rfl) ?_
                      refine m_gI rfl ?_
                      refine m_n 1 (pc' := 205) (L' := [some (.ref 27), some (.int x1), some (.int x2), some (.int (m7 - (97 : Int32))), some (.int (g18 27 42))]) (S' := [.int x1, .int (g20 27 50), .ref 66]) (fun _ => rfl) ?_
                      obtain ⟨o45, H⟩ := H
                      refine m_is 16 rfl rfl rfl o45 ?_
                      obtain ⟨g46, eg46⟩ : ∃ m : zG, m = (z_up2 g20 66 (z_ix (g20 27 50)) x1) := ⟨_, rfl⟩
                      have H := H g46 eg46
                      refine z_nmG eg46 ?_
                      refine m_n 1 (pc' := 207) (L' := [some (.ref 27), some (.int x1), some (.int x2), some (.int (m7 - (97 : Int32))), some (.int (g18 27 42))]) (S' := [.ref 27]) (fun _ => rfl) ?_
                      refine m_gR (q := 67) rfl (by decide) ?_
                      refine m_n 1 (pc' := 211) (L' := [some (.ref 27), some (.int x1), some (.int x2), some (.int (m7 - (97 : Int32))), some (.int (g18 27 42))]) (S' := [.ref 27, .ref 67]) (fun _ => rfl) ?_
                      refine m_gI rfl ?_
                      refine m_n 1 (pc' := 215) (L' := [some (.ref 27), some (.int x1), some (.int x2), some (.int (m7 - (97 : Int32))), some (.int (g18 27 42))]) (S' := [.int (m7 - (97 : Int32)), .int (g46 27 50), .ref 67]) (fun _ => rfl) ?_
                      obtain ⟨o47, H⟩ := H
                      refine m_is 16 rfl rfl rfl o47 ?_
                      obtain ⟨g48, eg48⟩ : ∃ m : zG, m = (z_up2 g46 67 (z_ix (g46 27 50)) (m7 - (97 : Int32))) := ⟨_, rfl⟩
                      have H := H g48 eg48
                      refine z_nmG eg48 ?_
                      refine m_n 1 (pc' := 217) (L' := [some (.ref 27), some (.int x1), some (.int x2), some (.int (m7 - (97 : Int32))), some (.int (g18 27 42))]) (S' := [.ref 27]) (fun _ => rfl) ?_
                      refine m_gR (q := 68) rfl (by decide) ?_
                      refine m_n 1 (pc' := 221) (L' := [some (.ref 27), some (.int x1), some (.int x2), some (.int (m7 - (97 : Int32))), some (.int (g18 27 42))]) (S' := [.ref 27, .ref 68]) (fun _ => rfl) ?_
                      refine m_gI rfl ?_
                      refine m_n 1 (pc' := 225) (L' := [some (.ref 27), some (.int x1), some (.int x2), some (.int (m7 - (97 : Int32))), some (.int (g18 27 42))]) (S' := [.int x2, .int (g48 27 50), .ref 68]) (fun _ => rfl) ?_
                      obtain ⟨o49, H⟩ := H
                      refine m_is 16 rfl rfl rfl o49 ?_
                      obtain ⟨g50, eg50⟩ : ∃ m : zG, m = (z_up2 g48 68 (z_ix (g48 27 50)) x2) := ⟨_, rfl⟩
                      have H := H g50 eg50
                      refine z_nmG eg50 ?_
                      refine m_n 1 (pc' := 227) (L' := [some (.ref 27), some (.int x1), some (.int x2), some (.int (m7 - (97 : Int32))), some (.int (g18 27 42))]) (S' := [.ref 27]) (fun _ => rfl) ?_
                      refine m_gR (q := 69) rfl (by decide) ?_
                      refine m_n 1 (pc' := 231) (L' := [some (.ref 27), some (.int x1), some (.int x2), some (.int (m7 - (97 : Int32))), some (.int (g18 27 42))]) (S' := [.ref 27, .ref 69]) (fun _ => rfl) ?_
                      refine m_gI rfl ?_
                      refine m_n 1 (pc' := 236) (L' := [some (.ref 27), some (.int x1), some (.int x2), some (.int (m7 - (97 : Int32))), some (.int (g18 27 42))]) (S' := [.int (g18 27 42), .int (g50 27 50), .ref 69]) (fun _ => rfl) ?_
                      obtain ⟨o51, H⟩ := H
                      refine m_is 16 rfl rfl rfl o51 ?_
                      obtain ⟨g52, eg52⟩ : ∃ m : zG, m = (z_up2 g50 69 (z_ix (g50 27 50)) (g18 27 42)) := ⟨_, rfl⟩
                      have H := H g52 eg52
                      refine z_nmG eg52 ?_
                      refine m_n 2 (pc' := 239) (L' := [some (.ref 27), some (.int x1), some (.int x2), some (.int (m7 - (97 : Int32))), some (.int (g18 27 42))]) (S' := [.ref 27, .ref 27]) (fun _ => rfl) ?_
                      refine m_gI rfl ?_
                      refine m_n 2 (pc' := 244) (L' := [some (.ref 27), some (.int x1), some (.int x2), some (.int (m7 - (97 : Int32))), some (.int (g18 27 42))]) (S' := [.int ((g52 27 50) + (1 : Int32)), .ref 27]) (fun _ => rfl) ?_
                      refine m_pI rfl ?_
                      obtain ⟨g53, eg53⟩ : ∃ m : zG, m = (z_up2 g52 27 50 ((g52 27 50) + (1 : Int32))) := ⟨_, rfl⟩
                      have H := H g53 eg53
                      refine z_nmG eg53 ?_
                      refine m_n 1 (pc' := 248) (L' := [some (.ref 27), some (.int x1), some (.int x2), some (.int (m7 - (97 : Int32))), some (.int (g18 27 42))]) (S' := [.ref 27]) (fun _ => rfl) ?_
                      refine m_cV 187 1 rfl rfl rfl (A := [.ref 27]) rfl rfl (Or.inr ⟨rfl, _, rfl⟩) (rest := []) rfl rfl ?_
                      refine H.mono (fun r54 g55 H => ?_)
                      exact m_r rfl rfl rfl H
                    · have hc := hc
                      rw [if_neg hc] at H
                      exact m_r rfl rfl rfl H
                refine m_b (c := x1 = (1 : Int32)) (pc' := 146) (L' := [some (.ref 27), some (.int x1), some (.int x2), some (.int (m7 - (97 : Int32))), some (.int (0 : Int32))]) (S' := [.ref 27]) (pc2 := 141) (L2 := [some (.ref 27), some (.int x1), some (.int x2), some (.int (m7 - (97 : Int32))), some (.int (0 : Int32))]) (S2 := [.ref 27]) rfl (fun _ => rfl) (fun hc => ?_) (fun hc => ?_)
                · have c13 := hc
                  refine m_n 2 (pc' := 151) (L' := [some (.ref 27), some (.int x1), some (.int x2), some (.int (m7 - (97 : Int32))), some (.int (0 : Int32))]) (S' := [.int (0 : Int32), .ref 27]) (fun _ => rfl) ?_
                  rw [show z_bt (¬ (x1 = (1 : Int32)) ∧ (¬ (x1 = (4 : Int32)))) = 0 from z_bt_0.mpr ((fun q => q.1 c13))] at hj15
                  exact hj15
                · have c13 := hc
                  refine m_n 2 (pc' := 143) (L' := [some (.ref 27), some (.int x1), some (.int x2), some (.int (m7 - (97 : Int32))), some (.int (0 : Int32))]) (S' := [.int (4 : Int32), .int x1, .ref 27]) (fun _ => rfl) ?_
                  refine m_b (c := x1 = (4 : Int32)) (pc' := 146) (L' := [some (.ref 27), some (.int x1), some (.int x2), some (.int (m7 - (97 : Int32))), some (.int (0 : Int32))]) (S' := [.ref 27]) (pc2 := 150) (L2 := [some (.ref 27), some (.int x1), some (.int x2), some (.int (m7 - (97 : Int32))), some (.int (0 : Int32))]) (S2 := [.ref 27]) rfl (fun _ => rfl) (fun hc => ?_) (fun hc => ?_)
                  · have c14 := hc
                    refine m_n 2 (pc' := 151) (L' := [some (.ref 27), some (.int x1), some (.int x2), some (.int (m7 - (97 : Int32))), some (.int (0 : Int32))]) (S' := [.int (0 : Int32), .ref 27]) (fun _ => rfl) ?_
                    rw [show z_bt (¬ (x1 = (1 : Int32)) ∧ (¬ (x1 = (4 : Int32)))) = 0 from z_bt_0.mpr ((fun q => (fun q => q c14) q.2))] at hj15
                    exact hj15
                  · have c14 := hc
                    refine m_n 1 (pc' := 151) (L' := [some (.ref 27), some (.int x1), some (.int x2), some (.int (m7 - (97 : Int32))), some (.int (0 : Int32))]) (S' := [.int (1 : Int32), .ref 27]) (fun _ => rfl) ?_
                    rw [show z_bt (¬ (x1 = (1 : Int32)) ∧ (¬ (x1 = (4 : Int32)))) = 1 from z_bt_1.mpr (⟨c13, c14⟩)] at hj15
                    exact hj15
              · have hc := hc
                rw [if_neg hc] at H
                refine m_n 7 (pc' := 128) (L' := [some (.ref 27), some (.int x1), some (.int x2), some (.int (0 : Int32)), some (.int (0 : Int32))]) (S' := [.int x2, .int (0 : Int32), .int x1, .ref 27]) (fun _ => rfl) ?_
                refine m_cV 191 4 rfl rfl rfl (A := [.ref 27, .int x1, .int (0 : Int32), .int x2]) rfl rfl (Or.inr ⟨rfl, _, rfl⟩) (rest := []) rfl rfl ?_
                refine H.mono (fun r56 g57 H => ?_)
                refine m_n 1 (pc' := 132) (L' := [some (.ref 27), some (.int x1), some (.int x2), some (.int (0 : Int32)), some (.int (0 : Int32))]) (S' := [.ref 27]) (fun _ => rfl) ?_
                refine m_cV 187 1 rfl rfl rfl (A := [.ref 27]) rfl rfl (Or.inr ⟨rfl, _, rfl⟩) (rest := []) rfl rfl ?_
                refine H.mono (fun r58 g59 H => ?_)
                refine m_n 3 (pc' := 138) (L' := [some (.ref 27), some (.int x1), some (.int x2), some (.int (0 : Int32)), some (.int (0 : Int32))]) (S' := [.int (1 : Int32), .int x1, .ref 27]) (fun _ => rfl) ?_
                have hj62 : MG z_pV 193 151 [some (.ref 27), some (.int x1), some (.int x2), some (.int (0 : Int32)), some (.int (0 : Int32))] [.int (z_bt (¬ (x1 = (1 : Int32)) ∧ (¬ (x1 = (4 : Int32))))), .ref 27] g59 Q := by
                  refine m_n 2 (pc' := 153) (L' := [some (.ref 27), some (.int x1), some (.int x2), some (.int (0 : Int32)), some (.int (0 : Int32))]) (S' := [.int x1, .ref 27, .int (z_bt (¬ (x1 = (1 : Int32)) ∧ (¬ (x1 = (4 : Int32))))), .ref 27]) (fun _ => rfl) ?_
                  refine m_cI 192 2 rfl rfl rfl (A := [.ref 27, .int x1]) rfl rfl (Or.inr ⟨rfl, _, rfl⟩) (rest := [.int (z_bt (¬ (x1 = (1 : Int32)) ∧ (¬ (x1 = (4 : Int32))))), .ref 27]) rfl rfl rfl ?_
                  obtain ⟨m63, em63⟩ : ∃ m : Int32, m = (if x1 = 0 then (9 : Int32) else (if x1 = (1 : Int32) then (9999 : Int32) else (if x1 = (2 : Int32) then (24 : Int32) else (if x1 = (3 : Int32) then (99 : Int32) else (60 : Int32))))) := ⟨_, rfl⟩
                  have H := H m63 em63
                  refine X_192 x1 g59 (z_all em63 ?_)
                  refine m_cV 189 3 rfl rfl rfl (A := [.ref 27, .int (z_bt (¬ (x1 = (1 : Int32)) ∧ (¬ (x1 = (4 : Int32))))), .int m63]) rfl rfl (Or.inr ⟨rfl, _, rfl⟩) (rest := []) rfl rfl ?_
                  refine H.mono (fun r64 g65 H => ?_)
                  refine m_n 1 (pc' := 160) (L' := [some (.ref 27), some (.int x1), some (.int x2), some (.int (0 : Int32)), some (.int (0 : Int32))]) (S' := [.ref 27]) (fun _ => rfl) ?_
                  refine m_gI rfl ?_
                  refine m_n 2 (pc' := 166) (L' := [some (.ref 27), some (.int x1), some (.int x2), some (.int (0 : Int32)), some (.int (g65 27 42))]) (S' := [.ref 27]) (fun _ => rfl) ?_
                  refine m_cV 187 1 rfl rfl rfl (A := [.ref 27]) rfl rfl (Or.inr ⟨rfl, _, rfl⟩) (rest := []) rfl rfl ?_
                  refine H.mono (fun r66 g67 H => ?_)
                  refine m_n 1 (pc' := 170) (L' := [some (.ref 27), some (.int x1), some (.int x2), some (.int (0 : Int32)), some (.int (g65 27 42))]) (S' := [.ref 27]) (fun _ => rfl) ?_
                  refine m_gI rfl ?_
                  refine m_b (c := (g67 27 37) = 0) (pc' := 176) (L' := [some (.ref 27), some (.int x1), some (.int x2), some (.int (0 : Int32)), some (.int (g65 27 42))]) (S' := []) (pc2 := 189) (L2 := [some (.ref 27), some (.int x1), some (.int x2), some (.int (0 : Int32)), some (.int (g65 27 42))]) (S2 := []) rfl (fun _ => rfl) (fun hc => ?_) (fun hc => ?_)
                  · have hc := hc
                    rw [if_pos hc] at H
                    refine m_n 1 (pc' := 177) (L' := [some (.ref 27), some (.int x1), some (.int x2), some (.int (0 : Int32)), some (.int (g65 27 42))]) (S' := [.ref 27]) (fun _ => rfl) ?_
                    refine m_gI rfl ?_
                    refine m_n 1 (pc' := 181) (L' := [some (.ref 27), some (.int x1), some (.int x2), some (.int (0 : Int32)), some (.int (g65 27 42))]) (S' := [.int (3 : Int32), .int (g67 27 41)]) (fun _ => rfl) ?_
                    refine m_b (c := (g67 27 41) = (3 : Int32)) (pc' := 189) (L' := [some (.ref 27), some (.int x1), some (.int x2), some (.int (0 : Int32)), some (.int (g65 27 42))]) (S' := []) (pc2 := 184) (L2 := [some (.ref 27), some (.int x1), some (.int x2), some (.int (0 : Int32)), some (.int (g65 27 42))]) (S2 := []) rfl (fun _ => rfl) (fun hc => ?_) (fun hc => ?_)
                    · have hc := hc
                      rw [if_pos hc] at H
                      refine m_n 1 (pc' := 190) (L' := [some (.ref 27), some (.int x1), some (.int x2), some (.int (0 : Int32)), some (.int (g65 27 42))]) (S' := [.ref 27]) (fun _ => rfl) ?_
                      refine m_gI rfl ?_
                      refine m_b (c := (g67 27 37) = 0) (pc' := 196) (L' := [some (.ref 27), some (.int x1), some (.int x2), some (.int (0 : Int32)), some (.int (g65 27 42))]) (S' := []) (pc2 := 251) (L2 := [some (.ref 27), some (.int x1), some (.int x2), some (.int (0 : Int32)), some (.int (g65 27 42))]) (S2 := []) rfl (fun _ => rfl) (fun hc => ?_) (fun hc => ?_)
                      · have hc := hc
                        rw [if_pos hc] at H
                        refine m_n 1 (pc' := 197) (L' := [some (.ref 27), some (.int x1), some (.int x2), some (.int (0 : Int32)), some (.int (g65 27 42))]) (S' := [.ref 27]) (fun _ => rfl) ?_
                        refine m_gR (q := 66) rfl (by decide) ?_
                        refine m_n 1 (pc' := 201) (L' := [some (.ref 27), some (.int x1), some (.int x2), some (.int (0 : Int32)), some (.int (g65 27 42))]) (S' := [.ref 27, .ref 66]) (fun _ => rfl) ?_
                        refine m_gI rfl ?_
                        refine m_n 1 (pc' := 205) (L' := [some (.ref 27), some (.int x1), some (.int x2), some (.int (0 : Int32)), some (.int (g65 27 42))]) (S' := [.int x1, .int (g67 27 50), .ref 66]) (fun _ => rfl) ?_
                        obtain ⟨o68, H⟩ := H
                        refine m_is 16 rfl rfl rfl o68 ?_
                        obtain ⟨g69, eg69⟩ : ∃ m : zG, m = (z_up2 g67 66 (z_ix (g67 27 50)) x1) := ⟨_, rfl⟩
                        have H := H g69 eg69
                        refine z_nmG eg69 ?_
                        refine m_n 1 (pc' := 207) (L' := [some (.ref 27), some (.int x1), some (.int x2), some (.int (0 : Int32)), some (.int (g65 27 42))]) (S' := [.ref 27]) (fun _ => rfl) ?_
                        refine m_gR (q := 67) rfl (by decide) ?_
                        refine m_n 1 (pc' := 211) (L' := [some (.ref 27), some (.int x1), some (.int x2), some (.int (0 : Int32)), some (.int (g65 27 42))]) (S' := [.ref 27, .ref 67]) (fun _ => rfl) ?_
                        refine m_gI rfl ?_
                        refine m_n 1 (pc' := 215) (L' := [some (.ref 27), some (.int x1), some (.int x2), some (.int (0 : Int32)), some (.int (g65 27 42))]) (S' := [.int (0 : Int32), .int (g69 27 50), .ref 67]) (fun _ => rfl) ?_
                        obtain ⟨o70, H⟩ := H
                        refine m_is 16 rfl rfl rfl o70 ?_
                        obtain ⟨g71, eg71⟩ : ∃ m : zG, m = (z_up2 g69 67 (z_ix (g69 27 50)) (0 : Int32)) := ⟨_, rfl⟩
                        have H := H g71 eg71
                        refine z_nmG eg71 ?_
                        refine m_n 1 (pc' := 217) (L' := [some (.ref 27), some (.int x1), some (.int x2), some (.int (0 : Int32)), some (.int (g65 27 42))]) (S' := [.ref 27]) (fun _ => rfl) ?_
                        refine m_gR (q := 68) rfl (by decide) ?_
                        refine m_n 1 (pc' := 221) (L' := [some (.ref 27), some (.int x1), some (.int x2), some (.int (0 : Int32)), some (.int (g65 27 42))]) (S' := [.ref 27, .ref 68]) (fun _ => rfl) ?_
                        refine m_gI rfl ?_
                        refine m_n 1 (pc' := 225) (L' := [some (.ref 27), some (.int x1), some (.int x2), some (.int (0 : Int32)), some (.int (g65 27 42))]) (S' := [.int x2, .int (g71 27 50), .ref 68]) (fun _ => rfl) ?_
                        obtain ⟨o72, H⟩ := H
                        refine m_is 16 rfl rfl rfl o72 ?_
                        obtain ⟨g73, eg73⟩ : ∃ m : zG, m = (z_up2 g71 68 (z_ix (g71 27 50)) x2) := ⟨_, rfl⟩
                        have H := H g73 eg73
                        refine z_nmG eg73 ?_
                        refine m_n 1 (pc' := 227) (L' := [some (.ref 27), some (.int x1), some (.int x2), some (.int (0 : Int32)), some (.int (g65 27 42))]) (S' := [.ref 27]) (fun _ => rfl) ?_
                        refine m_gR (q := 69) rfl (by decide) ?_
                        refine m_n 1 (pc' := 231) (L' := [some (.ref 27), some (.int x1), some (.int x2), some (.int (0 : Int32)), some (.int (g65 27 42))]) (S' := [.ref 27, .ref 69]) (fun _ => rfl) ?_
                        refine m_gI rfl ?_
                        refine m_n 1 (pc' := 236) (L' := [some (.ref 27), some (.int x1), some (.int x2), some (.int (0 : Int32)), some (.int (g65 27 42))]) (S' := [.int (g65 27 42), .int (g73 27 50), .ref 69]) (fun _ => rfl) ?_
                        obtain ⟨o74, H⟩ := H
                        refine m_is 16 rfl rfl rfl o74 ?_
                        obtain ⟨g75, eg75⟩ : ∃ m : zG, m = (z_up2 g73 69 (z_ix (g73 27 50)) (g65 27 42)) := ⟨_, rfl⟩
                        have H := H g75 eg75
                        refine z_nmG eg75 ?_
                        refine m_n 2 (pc' := 239) (L' := [some (.ref 27), some (.int x1), some (.int x2), some (.int (0 : Int32)), some (.int (g65 27 42))]) (S' := [.ref 27, .ref 27]) (fun _ => rfl) ?_
                        refine m_gI rfl ?_
                        refine m_n 2 (pc' := 244) (L' := [some (.ref 27), some (.int x1), some (.int x2), some (.int (0 : Int32)), some (.int (g65 27 42))]) (S' := [.int ((g75 27 50) + (1 : Int32)), .ref 27]) (fun _ => rfl) ?_
                        refine m_pI rfl ?_
                        obtain ⟨g76, eg76⟩ : ∃ m : zG, m = (z_up2 g75 27 50 ((g75 27 50) + (1 : Int32))) := ⟨_, rfl⟩
                        have H := H g76 eg76
                        refine z_nmG eg76 ?_
                        refine m_n 1 (pc' := 248) (L' := [some (.ref 27), some (.int x1), some (.int x2), some (.int (0 : Int32)), some (.int (g65 27 42))]) (S' := [.ref 27]) (fun _ => rfl) ?_
                        refine m_cV 187 1 rfl rfl rfl (A := [.ref 27]) rfl rfl (Or.inr ⟨rfl, _, rfl⟩) (rest := []) rfl rfl ?_
                        refine H.mono (fun r77 g78 H => ?_)
                        exact m_r rfl rfl rfl H
                      · have hc := hc
                        rw [if_neg hc] at H
                        exact m_r rfl rfl rfl H
                    · have hc := hc
                      rw [if_neg hc] at H
                      refine m_n 2 (pc' := 186) (L' := [some (.ref 27), some (.int x1), some (.int x2), some (.int (0 : Int32)), some (.int (g65 27 42))]) (S' := [.int (2 : Int32), .ref 27]) (fun _ => rfl) ?_
                      refine m_cV 186 2 rfl rfl rfl (A := [.ref 27, .int (2 : Int32)]) rfl rfl (Or.inr ⟨rfl, _, rfl⟩) (rest := []) rfl rfl ?_
                      refine H.mono (fun r79 g80 H => ?_)
                      refine m_n 1 (pc' := 190) (L' := [some (.ref 27), some (.int x1), some (.int x2), some (.int (0 : Int32)), some (.int (g65 27 42))]) (S' := [.ref 27]) (fun _ => rfl) ?_
                      refine m_gI rfl ?_
                      refine m_b (c := (g80 27 37) = 0) (pc' := 196) (L' := [some (.ref 27), some (.int x1), some (.int x2), some (.int (0 : Int32)), some (.int (g65 27 42))]) (S' := []) (pc2 := 251) (L2 := [some (.ref 27), some (.int x1), some (.int x2), some (.int (0 : Int32)), some (.int (g65 27 42))]) (S2 := []) rfl (fun _ => rfl) (fun hc => ?_) (fun hc => ?_)
                      · have hc := hc
                        rw [if_pos hc] at H
                        refine m_n 1 (pc' := 197) (L' := [some (.ref 27), some (.int x1), some (.int x2), some (.int (0 : Int32)), some (.int (g65 27 42))]) (S' := [.ref 27]) (fun _ => rfl) ?_
                        refine m_gR (q := 66) rfl (by decide) ?_
                        refine m_n 1 (pc' := 201) (L' := [some (.ref 27), some (.int x1), some (.int x2), some (.int (0 : Int32)), some (.int (g65 27 42))]) (S' := [.ref 27, .ref 66]) (fun _ => rfl) ?_
                        refine m_gI rfl ?_
                        refine m_n 1 (pc' := 205) (L' := [some (.ref 27), some (.int x1), some (.int x2), some (.int (0 : Int32)), some (.int (g65 27 42))]) (S' := [.int x1, .int (g80 27 50), .ref 66]) (fun _ => rfl) ?_
                        obtain ⟨o81, H⟩ := H
                        refine m_is 16 rfl rfl rfl o81 ?_
                        obtain ⟨g82, eg82⟩ : ∃ m : zG, m = (z_up2 g80 66 (z_ix (g80 27 50)) x1) := ⟨_, rfl⟩
                        have H := H g82 eg82
                        refine z_nmG eg82 ?_
                        refine m_n 1 (pc' := 207) (L' := [some (.ref 27), some (.int x1), some (.int x2), some (.int (0 : Int32)), some (.int (g65 27 42))]) (S' := [.ref 27]) (fun _ => rfl) ?_
                        refine m_gR (q := 67) rfl (by decide) ?_
                        refine m_n 1 (pc' := 211) (L' := [some (.ref 27), some (.int x1), some (.int x2), some (.int (0 : Int32)), some (.int (g65 27 42))]) (S' := [.ref 27, .ref 67]) (fun _ => rfl) ?_
                        refine m_gI rfl ?_
                        refine m_n 1 (pc' := 215) (L' := [some (.ref 27), some (.int x1), some (.int x2), some (.int (0 : Int32)), some (.int (g65 27 42))]) (S' := [.int (0 : Int32), .int (g82 27 50), .ref 67]) (fun _ => rfl) ?_
                        obtain ⟨o83, H⟩ := H
                        refine m_is 16 rfl rfl rfl o83 ?_
                        obtain ⟨g84, eg84⟩ : ∃ m : zG, m = (z_up2 g82 67 (z_ix (g82 27 50)) (0 : Int32)) := ⟨_, rfl⟩
                        have H := H g84 eg84
                        refine z_nmG eg84 ?_
                        refine m_n 1 (pc' := 217) (L' := [some (.ref 27), some (.int x1), some (.int x2), some (.int (0 : Int32)), some (.int (g65 27 42))]) (S' := [.ref 27]) (fun _ => rfl) ?_
                        refine m_gR (q := 68) rfl (by decide) ?_
                        refine m_n 1 (pc' := 221) (L' := [some (.ref 27), some (.int x1), some (.int x2), some (.int (0 : Int32)), some (.int (g65 27 42))]) (S' := [.ref 27, .ref 68]) (fun _ => rfl) ?_
                        refine m_gI rfl ?_
                        refine m_n 1 (pc' := 225) (L' := [some (.ref 27), some (.int x1), some (.int x2), some (.int (0 : Int32)), some (.int (g65 27 42))]) (S' := [.int x2, .int (g84 27 50), .ref 68]) (fun _ => rfl) ?_
                        obtain ⟨o85, H⟩ := H
                        refine m_is 16 rfl rfl rfl o85 ?_
                        obtain ⟨g86, eg86⟩ : ∃ m : zG, m = (z_up2 g84 68 (z_ix (g84 27 50)) x2) := ⟨_, rfl⟩
                        have H := H g86 eg86
                        refine z_nmG eg86 ?_
                        refine m_n 1 (pc' := 227) (L' := [some (.ref 27), some (.int x1), some (.int x2), some (.int (0 : Int32)), some (.int (g65 27 42))]) (S' := [.ref 27]) (fun _ => rfl) ?_
                        refine m_gR (q := 69) rfl (by decide) ?_
                        refine m_n 1 (pc' := 231) (L' := [some (.ref 27), some (.int x1), some (.int x2), some (.int (0 : Int32)), some (.int (g65 27 42))]) (S' := [.ref 27, .ref 69]) (fun _ => rfl) ?_
                        refine m_gI rfl ?_
                        refine m_n 1 (pc' := 236) (L' := [some (.ref 27), some (.int x1), some (.int x2), some (.int (0 : Int32)), some (.int (g65 27 42))]) (S' := [.int (g65 27 42), .int (g86 27 50), .ref 69]) (fun _ => rfl) ?_
                        obtain ⟨o87, H⟩ := H
                        refine m_is 16 rfl rfl rfl o87 ?_
                        obtain ⟨g88, eg88⟩ : ∃ m : zG, m = (z_up2 g86 69 (z_ix (g86 27 50)) (g65 27 42)) := ⟨_, rfl⟩
                        have H := H g88 eg88
                        refine z_nmG eg88 ?_
                        refine m_n 2 (pc' := 239) (L' := [some (.ref 27), some (.int x1), some (.int x2), some (.int (0 : Int32)), some (.int (g65 27 42))]) (S' := [.ref 27, .ref 27]) (fun _ => rfl) ?_
                        refine m_gI rfl ?_
                        refine m_n 2 (pc' := 244) (L' := [some (.ref 27), some (.int x1), some (.int x2), some (.int (0 : Int32)), some (.int (g65 27 42))]) (S' := [.int ((g88 27 50) + (1 : Int32)), .ref 27]) (fun _ => rfl) ?_
                        refine m_pI rfl ?_
                        obtain ⟨g89, eg89⟩ : ∃ m : zG, m = (z_up2 g88 27 50 ((g88 27 50) + (1 : Int32))) := ⟨_, rfl⟩
                        have H := H g89 eg89
                        refine z_nmG eg89 ?_
                        refine m_n 1 (pc' := 248) (L' := [some (.ref 27), some (.int x1), some (.int x2), some (.int (0 : Int32)), some (.int (g65 27 42))]) (S' := [.ref 27]) (fun _ => rfl) ?_
                        refine m_cV 187 1 rfl rfl rfl (A := [.ref 27]) rfl rfl (Or.inr ⟨rfl, _, rfl⟩) (rest := []) rfl rfl ?_
                        refine H.mono (fun r90 g91 H => ?_)
                        exact m_r rfl rfl rfl H
                      · have hc := hc
                        rw [if_neg hc] at H
                        exact m_r rfl rfl rfl H
                  · have hc := hc
                    rw [if_neg hc] at H
                    refine m_n 1 (pc' := 190) (L' := [some (.ref 27), some (.int x1), some (.int x2), some (.int (0 : Int32)), some (.int (g65 27 42))]) (S' := [.ref 27]) (fun _ => rfl) ?_
                    refine m_gI rfl ?_
                    refine m_b (c := (g67 27 37) = 0) (pc' := 196) (L' := [some (.ref 27), some (.int x1), some (.int x2), some (.int (0 : Int32)), some (.int (g65 27 42))]) (S' := []) (pc2 := 251) (L2 := [some (.ref 27), some (.int x1), some (.int x2), some (.int (0 : Int32)), some (.int (g65 27 42))]) (S2 := []) rfl (fun _ => rfl) (fun hc => ?_) (fun hc => ?_)
                    · have hc := hc
                      rw [if_pos hc] at H
                      refine m_n 1 (pc' := 197) (L' := [some (.ref 27), some (.int x1), some (.int x2), some (.int (0 : Int32)), some (.int (g65 27 42))]) (S' := [.ref 27]) (fun _ => rfl) ?_
                      refine m_gR (q := 66) rfl (by decide) ?_
                      refine m_n 1 (pc' := 201) (L' := [some (.ref 27), some (.int x1), some (.int x2), some (.int (0 : Int32)), some (.int (g65 27 42))]) (S' := [.ref 27, .ref 66]) (fun _ => rfl) ?_
                      refine m_gI rfl ?_
                      refine m_n 1 (pc' := 205) (L' := [some (.ref 27), some (.int x1), some (.int x2), some (.int (0 : Int32)), some (.int (g65 27 42))]) (S' := [.int x1, .int (g67 27 50), .ref 66]) (fun _ => rfl) ?_
                      obtain ⟨o92, H⟩ := H
                      refine m_is 16 rfl rfl rfl o92 ?_
                      obtain ⟨g93, eg93⟩ : ∃ m : zG, m = (z_up2 g67 66 (z_ix (g67 27 50)) x1) := ⟨_, rfl⟩
                      have H := H g93 eg93
                      refine z_nmG eg93 ?_
                      refine m_n 1 (pc' := 207) (L' := [some (.ref 27), some (.int x1), some (.int x2), some (.int (0 : Int32)), some (.int (g65 27 42))]) (S' := [.ref 27]) (fun _ => rfl) ?_
                      refine m_gR (q := 67) rfl (by decide) ?_
                      refine m_n 1 (pc' := 211) (L' := [some (.ref 27), some (.int x1), some (.int x2), some (.int (0 : Int32)), some (.int (g65 27 42))]) (S' := [.ref 27, .ref 67]) (fun _ => rfl) ?_
                      refine m_gI rfl ?_
                      refine m_n 1 (pc' := 215) (L' := [some (.ref 27), some (.int x1), some (.int x2), some (.int (0 : Int32)), some (.int (g65 27 42))]) (S' := [.int (0 : Int32), .int (g93 27 50), .ref 67]) (fun _ => rfl) ?_
                      obtain ⟨o94, H⟩ := H
                      refine m_is 16 rfl rfl rfl o94 ?_
                      obtain ⟨g95, eg95⟩ : ∃ m : zG, m = (z_up2 g93 67 (z_ix (g93 27 50)) (0 : Int32)) := ⟨_, rfl⟩
                      have H := H g95 eg95
                      refine z_nmG eg95 ?_
                      refine m_n 1 (pc' := 217) (L' := [some (.ref 27), some (.int x1), some (.int x2), some (.int (0 : Int32)), some (.int (g65 27 42))]) (S' := [.ref 27]) (fun _ => rfl) ?_
                      refine m_gR (q := 68) rfl (by decide) ?_
                      refine m_n 1 (pc' := 221) (L' := [some (.ref 27), some (.int x1), some (.int x2), some (.int (0 : Int32)), some (.int (g65 27 42))]) (S' := [.ref 27, .ref 68]) (fun _ => rfl) ?_
                      refine m_gI rfl ?_
                      refine m_n 1 (pc' := 225) (L' := [some (.ref 27), some (.int x1), some (.int x2), some (.int (0 : Int32)), some (.int (g65 27 42))]) (S' := [.int x2, .int (g95 27 50), .ref 68]) (fun _ => rfl) ?_
                      obtain ⟨o96, H⟩ := H
                      refine m_is 16 rfl rfl rfl o96 ?_
                      obtain ⟨g97, eg97⟩ : ∃ m : zG, m = (z_up2 g95 68 (z_ix (g95 27 50)) x2) := ⟨_, rfl⟩
                      have H := H g97 eg97
                      refine z_nmG eg97 ?_
                      refine m_n 1 (pc' := 227) (L' := [some (.ref 27), some (.int x1), some (.int x2), some (.int (0 : Int32)), some (.int (g65 27 42))]) (S' := [.ref 27]) (fun _ => rfl) ?_
                      refine m_gR (q := 69) rfl (by decide) ?_
                      refine m_n 1 (pc' := 231) (L' := [some (.ref 27), some (.int x1), some (.int x2), some (.int (0 : Int32)), some (.int (g65 27 42))]) (S' := [.ref 27, .ref 69]) (fun _ => rfl) ?_
                      refine m_gI rfl ?_
                      refine m_n 1 (pc' := 236) (L' := [some (.ref 27), some (.int x1), some (.int x2), some (.int (0 : Int32)), some (.int (g65 27 42))]) (S' := [.int (g65 27 42), .int (g97 27 50), .ref 69]) (fun _ => rfl) ?_
                      obtain ⟨o98, H⟩ := H
                      refine m_is 16 rfl rfl rfl o98 ?_
                      obtain ⟨g99, eg99⟩ : ∃ m : zG, m = (z_up2 g97 69 (z_ix (g97 27 50)) (g65 27 42)) := ⟨_, rfl⟩
                      have H := H g99 eg99
                      refine z_nmG eg99 ?_
                      refine m_n 2 (pc' := 239) (L' := [some (.ref 27), some (.int x1), some (.int x2), some (.int (0 : Int32)), some (.int (g65 27 42))]) (S' := [.ref 27, .ref 27]) (fun _ => rfl) ?_
                      refine m_gI rfl ?_
                      refine m_n 2 (pc' := 244) (L' := [some (.ref 27), some (.int x1), some (.int x2), some (.int (0 : Int32)), some (.int (g65 27 42))]) (S' := [.int ((g99 27 50) + (1 : Int32)), .ref 27]) (fun _ => rfl) ?_
                      refine m_pI rfl ?_
                      obtain ⟨g100, eg100⟩ : ∃ m : zG, m = (z_up2 g99 27 50 ((g99 27 50) + (1 : Int32))) := ⟨_, rfl⟩
                      have H := H g100 eg100
                      refine z_nmG eg100 ?_
                      refine m_n 1 (pc' := 248) (L' := [some (.ref 27), some (.int x1), some (.int x2), some (.int (0 : Int32)), some (.int (g65 27 42))]) (S' := [.ref 27]) (fun _ => rfl) ?_
                      refine m_cV 187 1 rfl rfl rfl (A := [.ref 27]) rfl rfl (Or.inr ⟨rfl, _, rfl⟩) (rest := []) rfl rfl ?_
                      refine H.mono (fun r101 g102 H => ?_)
                      exact m_r rfl rfl rfl H
                    · have hc := hc
                      rw [if_neg hc] at H
                      exact m_r rfl rfl rfl H
                refine m_b (c := x1 = (1 : Int32)) (pc' := 146) (L' := [some (.ref 27), some (.int x1), some (.int x2), some (.int (0 : Int32)), some (.int (0 : Int32))]) (S' := [.ref 27]) (pc2 := 141) (L2 := [some (.ref 27), some (.int x1), some (.int x2), some (.int (0 : Int32)), some (.int (0 : Int32))]) (S2 := [.ref 27]) rfl (fun _ => rfl) (fun hc => ?_) (fun hc => ?_)
                · have c60 := hc
                  refine m_n 2 (pc' := 151) (L' := [some (.ref 27), some (.int x1), some (.int x2), some (.int (0 : Int32)), some (.int (0 : Int32))]) (S' := [.int (0 : Int32), .ref 27]) (fun _ => rfl) ?_
                  rw [show z_bt (¬ (x1 = (1 : Int32)) ∧ (¬ (x1 = (4 : Int32)))) = 0 from z_bt_0.mpr ((fun q => q.1 c60))] at hj62
                  exact hj62
                · have c60 := hc
                  refine m_n 2 (pc' := 143) (L' := [some (.ref 27), some (.int x1), some (.int x2), some (.int (0 : Int32)), some (.int (0 : Int32))]) (S' := [.int (4 : Int32), .int x1, .ref 27]) (fun _ => rfl) ?_
                  refine m_b (c := x1 = (4 : Int32)) (pc' := 146) (L' := [some (.ref 27), some (.int x1), some (.int x2), some (.int (0 : Int32)), some (.int (0 : Int32))]) (S' := [.ref 27]) (pc2 := 150) (L2 := [some (.ref 27), some (.int x1), some (.int x2), some (.int (0 : Int32)), some (.int (0 : Int32))]) (S2 := [.ref 27]) rfl (fun _ => rfl) (fun hc => ?_) (fun hc => ?_)
                  · have c61 := hc
                    refine m_n 2 (pc' := 151) (L' := [some (.ref 27), some (.int x1), some (.int x2), some (.int (0 : Int32)), some (.int (0 : Int32))]) (S' := [.int (0 : Int32), .ref 27]) (fun _ => rfl) ?_
                    rw [show z_bt (¬ (x1 = (1 : Int32)) ∧ (¬ (x1 = (4 : Int32)))) = 0 from z_bt_0.mpr ((fun q => (fun q => q c61) q.2))] at hj62
                    exact hj62
                  · have c61 := hc
                    refine m_n 1 (pc' := 151) (L' := [some (.ref 27), some (.int x1), some (.int x2), some (.int (0 : Int32)), some (.int (0 : Int32))]) (S' := [.int (1 : Int32), .ref 27]) (fun _ => rfl) ?_
                    rw [show z_bt (¬ (x1 = (1 : Int32)) ∧ (¬ (x1 = (4 : Int32)))) = 1 from z_bt_1.mpr (⟨c60, c61⟩)] at hj62
                    exact hj62
            · have hc := Decidable.not_not.mp (fun q => hc (z_bt_0.mpr q))
              rw [if_pos hc] at H
              refine m_n 1 (pc' := 88) (L' := [some (.ref 27), some (.int x1), some (.int x2), some (.int (0 : Int32)), some (.int (0 : Int32))]) (S' := [.ref 27]) (fun _ => rfl) ?_
              refine m_gI rfl ?_
              refine m_b (c := (g2 27 37) = 0) (pc' := 94) (L' := [some (.ref 27), some (.int x1), some (.int x2), some (.int (0 : Int32)), some (.int (0 : Int32))]) (S' := []) (pc2 := 108) (L2 := [some (.ref 27), some (.int x1), some (.int x2), some (.int (0 : Int32)), some (.int (0 : Int32))]) (S2 := []) rfl (fun _ => rfl) (fun hc => ?_) (fun hc => ?_)
              · have hc := hc
                rw [if_pos hc] at H
                refine m_n 2 (pc' := 96) (L' := [some (.ref 27), some (.int x1), some (.int x2), some (.int (0 : Int32)), some (.int (0 : Int32))]) (S' := [.ref 27, .ref 27]) (fun _ => rfl) ?_
                refine m_gI rfl ?_
                refine m_cI 185 2 rfl rfl rfl (A := [.ref 27, .int (g2 27 40)]) rfl rfl (Or.inr ⟨rfl, _, rfl⟩) (rest := []) rfl rfl rfl ?_
                obtain ⟨o104, H⟩ := H
                obtain ⟨m103, em103⟩ : ∃ m : Int32, m = (if (g2 27 35) ≤ (g2 27 40) then (-4 : Int32) else (g2 59 (z_ix (g2 27 40)))) := ⟨_, rfl⟩
                have H := H m103 em103
                refine X_185 (g2 27 40) g2 ⟨o104, (z_all em103 ?_)⟩
                refine m_n 9 (pc' := 128) (L' := [some (.ref 27), some (.int x1), some (.int x2), some (.int (m103 - (97 : Int32))), some (.int (0 : Int32))]) (S' := [.int x2, .int (m103 - (97 : Int32)), .int x1, .ref 27]) (fun _ => rfl) ?_
                refine m_cV 191 4 rfl rfl rfl (A := [.ref 27, .int x1, .int (m103 - (97 : Int32)), .int x2]) rfl rfl (Or.inr ⟨rfl, _, rfl⟩) (rest := []) rfl rfl ?_
                refine H.mono (fun r105 g106 H => ?_)
                refine m_n 1 (pc' := 132) (L' := [some (.ref 27), some (.int x1), some (.int x2), some (.int (m103 - (97 : Int32))), some (.int (0 : Int32))]) (S' := [.ref 27]) (fun _ => rfl) ?_
                refine m_cV 187 1 rfl rfl rfl (A := [.ref 27]) rfl rfl (Or.inr ⟨rfl, _, rfl⟩) (rest := []) rfl rfl ?_
                refine H.mono (fun r107 g108 H => ?_)
                refine m_n 3 (pc' := 138) (L' := [some (.ref 27), some (.int x1), some (.int x2), some (.int (m103 - (97 : Int32))), some (.int (0 : Int32))]) (S' := [.int (1 : Int32), .int x1, .ref 27]) (fun _ => rfl) ?_
                have hj111 : MG z_pV 193 151 [some (.ref 27), some (.int x1), some (.int x2), some (.int (m103 - (97 : Int32))), some (.int (0 : Int32))] [.int (z_bt (¬ (x1 = (1 : Int32)) ∧ (¬ (x1 = (4 : Int32))))), .ref 27] g108 Q := by
                  refine m_n 2 (pc' := 153) (L' := [some (.ref 27), some (.int x1), some (.int x2), some (.int (m103 - (97 : Int32))), some (.int (0 : Int32))]) (S' := [.int x1, .ref 27, .int (z_bt (¬ (x1 = (1 : Int32)) ∧ (¬ (x1 = (4 : Int32))))), .ref 27]) (fun _ => rfl) ?_
                  refine m_cI 192 2 rfl rfl rfl (A := [.ref 27, .int x1]) rfl rfl (Or.inr ⟨rfl, _, rfl⟩) (rest := [.int (z_bt (¬ (x1 = (1 : Int32)) ∧ (¬ (x1 = (4 : Int32))))), .ref 27]) rfl rfl rfl ?_
                  obtain ⟨m112, em112⟩ : ∃ m : Int32, m = (if x1 = 0 then (9 : Int32) else (if x1 = (1 : Int32) then (9999 : Int32) else (if x1 = (2 : Int32) then (24 : Int32) else (if x1 = (3 : Int32) then (99 : Int32) else (60 : Int32))))) := ⟨_, rfl⟩
                  have H := H m112 em112
                  refine X_192 x1 g108 (z_all em112 ?_)
                  refine m_cV 189 3 rfl rfl rfl (A := [.ref 27, .int (z_bt (¬ (x1 = (1 : Int32)) ∧ (¬ (x1 = (4 : Int32))))), .int m112]) rfl rfl (Or.inr ⟨rfl, _, rfl⟩) (rest := []) rfl rfl ?_
                  refine H.mono (fun r113 g114 H => ?_)
                  refine m_n 1 (pc' := 160) (L' := [some (.ref 27), some (.int x1), some (.int x2), some (.int (m103 - (97 : Int32))), some (.int (0 : Int32))]) (S' := [.ref 27]) (fun _ => rfl) ?_
                  refine m_gI rfl ?_
                  refine m_n 2 (pc' := 166) (L' := [some (.ref 27), some (.int x1), some (.int x2), some (.int (m103 - (97 : Int32))), some (.int (g114 27 42))]) (S' := [.ref 27]) (fun _ => rfl) ?_
                  refine m_cV 187 1 rfl rfl rfl (A := [.ref 27]) rfl rfl (Or.inr ⟨rfl, _, rfl⟩) (rest := []) rfl rfl ?_
                  refine H.mono (fun r115 g116 H => ?_)
                  refine m_n 1 (pc' := 170) (L' := [some (.ref 27), some (.int x1), some (.int x2), some (.int (m103 - (97 : Int32))), some (.int (g114 27 42))]) (S' := [.ref 27]) (fun _ => rfl) ?_
                  refine m_gI rfl ?_
                  refine m_b (c := (g116 27 37) = 0) (pc' := 176) (L' := [some (.ref 27), some (.int x1), some (.int x2), some (.int (m103 - (97 : Int32))), some (.int (g114 27 42))]) (S' := []) (pc2 := 189) (L2 := [some (.ref 27), some (.int x1), some (.int x2), some (.int (m103 - (97 : Int32))), some (.int (g114 27 42))]) (S2 := []) rfl (fun _ => rfl) (fun hc => ?_) (fun hc => ?_)
                  · have hc := hc
                    rw [if_pos hc] at H
                    refine m_n 1 (pc' := 177) (L' := [some (.ref 27), some (.int x1), some (.int x2), some (.int (m103 - (97 : Int32))), some (.int (g114 27 42))]) (S' := [.ref 27]) (fun _ => rfl) ?_
                    refine m_gI rfl ?_
                    refine m_n 1 (pc' := 181) (L' := [some (.ref 27), some (.int x1), some (.int x2), some (.int (m103 - (97 : Int32))), some (.int (g114 27 42))]) (S' := [.int (3 : Int32), .int (g116 27 41)]) (fun _ => rfl) ?_
                    refine m_b (c := (g116 27 41) = (3 : Int32)) (pc' := 189) (L' := [some (.ref 27), some (.int x1), some (.int x2), some (.int (m103 - (97 : Int32))), some (.int (g114 27 42))]) (S' := []) (pc2 := 184) (L2 := [some (.ref 27), some (.int x1), some (.int x2), some (.int (m103 - (97 : Int32))), some (.int (g114 27 42))]) (S2 := []) rfl (fun _ => rfl) (fun hc => ?_) (fun hc => ?_)
                    · have hc := hc
                      rw [if_pos hc] at H
                      refine m_n 1 (pc' := 190) (L' := [some (.ref 27), some (.int x1), some (.int x2), some (.int (m103 - (97 : Int32))), some (.int (g114 27 42))]) (S' := [.ref 27]) (fun _ => rfl) ?_
                      refine m_gI rfl ?_
                      refine m_b (c := (g116 27 37) = 0) (pc' := 196) (L' := [some (.ref 27), some (.int x1), some (.int x2), some (.int (m103 - (97 : Int32))), some (.int (g114 27 42))]) (S' := []) (pc2 := 251) (L2 := [some (.ref 27), some (.int x1), some (.int x2), some (.int (m103 - (97 : Int32))), some (.int (g114 27 42))]) (S2 := []) rfl (fun _ => rfl) (fun hc => ?_) (fun hc => ?_)
                      · have hc := hc
                        rw [if_pos hc] at H
                        refine m_n 1 (pc' := 197) (L' := [some (.ref 27), some (.int x1), some (.int x2), some (.int (m103 - (97 : Int32))), some (.int (g114 27 42))]) (S' := [.ref 27]) (fun _ => rfl) ?_
                        refine m_gR (q := 66) rfl (by decide) ?_
                        refine m_n 1 (pc' := 201) (L' := [some (.ref 27), some (.int x1), some (.int x2), some (.int (m103 - (97 : Int32))), some (.int (g114 27 42))]) (S' := [.ref 27, .ref 66]) (fun _ => rfl) ?_
                        refine m_gI rfl ?_
                        refine m_n 1 (pc' := 205) (L' := [some (.ref 27), some (.int x1), some (.int x2), some (.int (m103 - (97 : Int32))), some (.int (g114 27 42))]) (S' := [.int x1, .int (g116 27 50), .ref 66]) (fun _ => rfl) ?_
                        obtain ⟨o117, H⟩ := H
                        refine m_is 16 rfl rfl rfl o117 ?_
                        obtain ⟨g118, eg118⟩ : ∃ m : zG, m = (z_up2 g116 66 (z_ix (g116 27 50)) x1) := ⟨_, rfl⟩
                        have H := H g118 eg118
                        refine z_nmG eg118 ?_
                        refine m_n 1 (pc' := 207) (L' := [some (.ref 27), some (.int x1), some (.int x2), some (.int (m103 - (97 : Int32))), some (.int (g114 27 42))]) (S' := [.ref 27]) (fun _ => rfl) ?_
                        refine m_gR (q := 67) rfl (by decide) ?_
                        refine m_n 1 (pc' := 211) (L' := [some (.ref 27), some (.int x1), some (.int x2), some (.int (m103 - (97 : Int32))), some (.int (g114 27 42))]) (S' := [.ref 27, .ref 67]) (fun _ => rfl) ?_
                        refine m_gI rfl ?_
                        refine m_n 1 (pc' := 215) (L' := [some (.ref 27), some (.int x1), some (.int x2), some (.int (m103 - (97 : Int32))), some (.int (g114 27 42))]) (S' := [.int (m103 - (97 : Int32)), .int (g118 27 50), .ref 67]) (fun _ => rfl) ?_
                        obtain ⟨o119, H⟩ := H
                        refine m_is 16 rfl rfl rfl o119 ?_
                        obtain ⟨g120, eg120⟩ : ∃ m : zG, m = (z_up2 g118 67 (z_ix (g118 27 50)) (m103 - (97 : Int32))) := ⟨_, rfl⟩
                        have H := H g120 eg120
                        refine z_nmG eg120 ?_
                        refine m_n 1 (pc' := 217) (L' := [some (.ref 27), some (.int x1), some (.int x2), some (.int (m103 - (97 : Int32))), some (.int (g114 27 42))]) (S' := [.ref 27]) (fun _ => rfl) ?_
                        refine m_gR (q := 68) rfl (by decide) ?_
                        refine m_n 1 (pc' := 221) (L' := [some (.ref 27), some (.int x1), some (.int x2), some (.int (m103 - (97 : Int32))), some (.int (g114 27 42))]) (S' := [.ref 27, .ref 68]) (fun _ => rfl) ?_
                        refine m_gI rfl ?_
                        refine m_n 1 (pc' := 225) (L' := [some (.ref 27), some (.int x1), some (.int x2), some (.int (m103 - (97 : Int32))), some (.int (g114 27 42))]) (S' := [.int x2, .int (g120 27 50), .ref 68]) (fun _ => rfl) ?_
                        obtain ⟨o121, H⟩ := H
                        refine m_is 16 rfl rfl rfl o121 ?_
                        obtain ⟨g122, eg122⟩ : ∃ m : zG, m = (z_up2 g120 68 (z_ix (g120 27 50)) x2) := ⟨_, rfl⟩
                        have H := H g122 eg122
                        refine z_nmG eg122 ?_
                        refine m_n 1 (pc' := 227) (L' := [some (.ref 27), some (.int x1), some (.int x2), some (.int (m103 - (97 : Int32))), some (.int (g114 27 42))]) (S' := [.ref 27]) (fun _ => rfl) ?_
                        refine m_gR (q := 69) rfl (by decide) ?_
                        refine m_n 1 (pc' := 231) (L' := [some (.ref 27), some (.int x1), some (.int x2), some (.int (m103 - (97 : Int32))), some (.int (g114 27 42))]) (S' := [.ref 27, .ref 69]) (fun _ => rfl) ?_
                        refine m_gI rfl ?_
                        refine m_n 1 (pc' := 236) (L' := [some (.ref 27), some (.int x1), some (.int x2), some (.int (m103 - (97 : Int32))), some (.int (g114 27 42))]) (S' := [.int (g114 27 42), .int (g122 27 50), .ref 69]) (fun _ => rfl) ?_
                        obtain ⟨o123, H⟩ := H
                        refine m_is 16 rfl rfl rfl o123 ?_
                        obtain ⟨g124, eg124⟩ : ∃ m : zG, m = (z_up2 g122 69 (z_ix (g122 27 50)) (g114 27 42)) := ⟨_, rfl⟩
                        have H := H g124 eg124
                        refine z_nmG eg124 ?_
                        refine m_n 2 (pc' := 239) (L' := [some (.ref 27), some (.int x1), some (.int x2), some (.int (m103 - (97 : Int32))), some (.int (g114 27 42))]) (S' := [.ref 27, .ref 27]) (fun _ => rfl) ?_
                        refine m_gI rfl ?_
                        refine m_n 2 (pc' := 244) (L' := [some (.ref 27), some (.int x1), some (.int x2), some (.int (m103 - (97 : Int32))), some (.int (g114 27 42))]) (S' := [.int ((g124 27 50) + (1 : Int32)), .ref 27]) (fun _ => rfl) ?_
                        refine m_pI rfl ?_
                        obtain ⟨g125, eg125⟩ : ∃ m : zG, m = (z_up2 g124 27 50 ((g124 27 50) + (1 : Int32))) := ⟨_, rfl⟩
                        have H := H g125 eg125
                        refine z_nmG eg125 ?_
                        refine m_n 1 (pc' := 248) (L' := [some (.ref 27), some (.int x1), some (.int x2), some (.int (m103 - (97 : Int32))), some (.int (g114 27 42))]) (S' := [.ref 27]) (fun _ => rfl) ?_
                        refine m_cV 187 1 rfl rfl rfl (A := [.ref 27]) rfl rfl (Or.inr ⟨rfl, _, rfl⟩) (rest := []) rfl rfl ?_
                        refine H.mono (fun r126 g127 H => ?_)
                        exact m_r rfl rfl rfl H
                      · have hc := hc
                        rw [if_neg hc] at H
                        exact m_r rfl rfl rfl H
                    · have hc := hc
                      rw [if_neg hc] at H
                      refine m_n 2 (pc' := 186) (L' := [some (.ref 27), some (.int x1), some (.int x2), some (.int (m103 - (97 : Int32))), some (.int (g114 27 42))]) (S' := [.int (2 : Int32), .ref 27]) (fun _ => rfl) ?_
                      refine m_cV 186 2 rfl rfl rfl (A := [.ref 27, .int (2 : Int32)]) rfl rfl (Or.inr ⟨rfl, _, rfl⟩) (rest := []) rfl rfl ?_
                      refine H.mono (fun r128 g129 H => ?_)
                      refine m_n 1 (pc' := 190) (L' := [some (.ref 27), some (.int x1), some (.int x2), some (.int (m103 - (97 : Int32))), some (.int (g114 27 42))]) (S' := [.ref 27]) (fun _ => rfl) ?_
                      refine m_gI rfl ?_
                      refine m_b (c := (g129 27 37) = 0) (pc' := 196) (L' := [some (.ref 27), some (.int x1), some (.int x2), some (.int (m103 - (97 : Int32))), some (.int (g114 27 42))]) (S' := []) (pc2 := 251) (L2 := [some (.ref 27), some (.int x1), some (.int x2), some (.int (m103 - (97 : Int32))), some (.int (g114 27 42))]) (S2 := []) rfl (fun _ => rfl) (fun hc => ?_) (fun hc => ?_)
                      · have hc := hc
                        rw [if_pos hc] at H
                        refine m_n 1 (pc' := 197) (L' := [some (.ref 27), some (.int x1), some (.int x2), some (.int (m103 - (97 : Int32))), some (.int (g114 27 42))]) (S' := [.ref 27]) (fun _ => rfl) ?_
                        refine m_gR (q := 66) rfl (by decide) ?_
                        refine m_n 1 (pc' := 201) (L' := [some (.ref 27), some (.int x1), some (.int x2), some (.int (m103 - (97 : Int32))), some (.int (g114 27 42))]) (S' := [.ref 27, .ref 66]) (fun _ => rfl) ?_
                        refine m_gI rfl ?_
                        refine m_n 1 (pc' := 205) (L' := [some (.ref 27), some (.int x1), some (.int x2), some (.int (m103 - (97 : Int32))), some (.int (g114 27 42))]) (S' := [.int x1, .int (g129 27 50), .ref 66]) (fun _ => rfl) ?_
                        obtain ⟨o130, H⟩ := H
                        refine m_is 16 rfl rfl rfl o130 ?_
                        obtain ⟨g131, eg131⟩ : ∃ m : zG, m = (z_up2 g129 66 (z_ix (g129 27 50)) x1) := ⟨_, rfl⟩
                        have H := H g131 eg131
                        refine z_nmG eg131 ?_
                        refine m_n 1 (pc' := 207) (L' := [some (.ref 27), some (.int x1), some (.int x2), some (.int (m103 - (97 : Int32))), some (.int (g114 27 42))]) (S' := [.ref 27]) (fun _ => rfl) ?_
                        refine m_gR (q := 67) rfl (by decide) ?_
                        refine m_n 1 (pc' := 211) (L' := [some (.ref 27), some (.int x1), some (.int x2), some (.int (m103 - (97 : Int32))), some (.int (g114 27 42))]) (S' := [.ref 27, .ref 67]) (fun _ => rfl) ?_
                        refine m_gI rfl ?_
                        refine m_n 1 (pc' := 215) (L' := [some (.ref 27), some (.int x1), some (.int x2), some (.int (m103 - (97 : Int32))), some (.int (g114 27 42))]) (S' := [.int (m103 - (97 : Int32)), .int (g131 27 50), .ref 67]) (fun _ => rfl) ?_
                        obtain ⟨o132, H⟩ := H
                        refine m_is 16 rfl rfl rfl o132 ?_
                        obtain ⟨g133, eg133⟩ : ∃ m : zG, m = (z_up2 g131 67 (z_ix (g131 27 50)) (m103 - (97 : Int32))) := ⟨_, rfl⟩
                        have H := H g133 eg133
                        refine z_nmG eg133 ?_
                        refine m_n 1 (pc' := 217) (L' := [some (.ref 27), some (.int x1), some (.int x2), some (.int (m103 - (97 : Int32))), some (.int (g114 27 42))]) (S' := [.ref 27]) (fun _ => rfl) ?_
                        refine m_gR (q := 68) rfl (by decide) ?_
                        refine m_n 1 (pc' := 221) (L' := [some (.ref 27), some (.int x1), some (.int x2), some (.int (m103 - (97 : Int32))), some (.int (g114 27 42))]) (S' := [.ref 27, .ref 68]) (fun _ => rfl) ?_
                        refine m_gI rfl ?_
                        refine m_n 1 (pc' := 225) (L' := [some (.ref 27), some (.int x1), some (.int x2), some (.int (m103 - (97 : Int32))), some (.int (g114 27 42))]) (S' := [.int x2, .int (g133 27 50), .ref 68]) (fun _ => rfl) ?_
                        obtain ⟨o134, H⟩ := H
                        refine m_is 16 rfl rfl rfl o134 ?_
                        obtain ⟨g135, eg135⟩ : ∃ m : zG, m = (z_up2 g133 68 (z_ix (g133 27 50)) x2) := ⟨_, rfl⟩
                        have H := H g135 eg135
                        refine z_nmG eg135 ?_
                        refine m_n 1 (pc' := 227) (L' := [some (.ref 27), some (.int x1), some (.int x2), some (.int (m103 - (97 : Int32))), some (.int (g114 27 42))]) (S' := [.ref 27]) (fun _ => rfl) ?_
                        refine m_gR (q := 69) rfl (by decide) ?_
                        refine m_n 1 (pc' := 231) (L' := [some (.ref 27), some (.int x1), some (.int x2), some (.int (m103 - (97 : Int32))), some (.int (g114 27 42))]) (S' := [.ref 27, .ref 69]) (fun _ => rfl) ?_
                        refine m_gI rfl ?_
                        refine m_n 1 (pc' := 236) (L' := [some (.ref 27), some (.int x1), some (.int x2), some (.int (m103 - (97 : Int32))), some (.int (g114 27 42))]) (S' := [.int (g114 27 42), .int (g135 27 50), .ref 69]) (fun _ => rfl) ?_
                        obtain ⟨o136, H⟩ := H
                        refine m_is 16 rfl rfl rfl o136 ?_
                        obtain ⟨g137, eg137⟩ : ∃ m : zG, m = (z_up2 g135 69 (z_ix (g135 27 50)) (g114 27 42)) := ⟨_, rfl⟩
                        have H := H g137 eg137
                        refine z_nmG eg137 ?_
                        refine m_n 2 (pc' := 239) (L' := [some (.ref 27), some (.int x1), some (.int x2), some (.int (m103 - (97 : Int32))), some (.int (g114 27 42))]) (S' := [.ref 27, .ref 27]) (fun _ => rfl) ?_
                        refine m_gI rfl ?_
                        refine m_n 2 (pc' := 244) (L' := [some (.ref 27), some (.int x1), some (.int x2), some (.int (m103 - (97 : Int32))), some (.int (g114 27 42))]) (S' := [.int ((g137 27 50) + (1 : Int32)), .ref 27]) (fun _ => rfl) ?_
                        refine m_pI rfl ?_
                        obtain ⟨g138, eg138⟩ : ∃ m : zG, m = (z_up2 g137 27 50 ((g137 27 50) + (1 : Int32))) := ⟨_, rfl⟩
                        have H := H g138 eg138
                        refine z_nmG eg138 ?_
                        refine m_n 1 (pc' := 248) (L' := [some (.ref 27), some (.int x1), some (.int x2), some (.int (m103 - (97 : Int32))), some (.int (g114 27 42))]) (S' := [.ref 27]) (fun _ => rfl) ?_
                        refine m_cV 187 1 rfl rfl rfl (A := [.ref 27]) rfl rfl (Or.inr ⟨rfl, _, rfl⟩) (rest := []) rfl rfl ?_
                        refine H.mono (fun r139 g140 H => ?_)
                        exact m_r rfl rfl rfl H
                      · have hc := hc
                        rw [if_neg hc] at H
                        exact m_r rfl rfl rfl H
                  · have hc := hc
                    rw [if_neg hc] at H
                    refine m_n 1 (pc' := 190) (L' := [some (.ref 27), some (.int x1), some (.int x2), some (.int (m103 - (97 : Int32))), some (.int (g114 27 42))]) (S' := [.ref 27]) (fun _ => rfl) ?_
                    refine m_gI rfl ?_
                    refine m_b (c := (g116 27 37) = 0) (pc' := 196) (L' := [some (.ref 27), some (.int x1), some (.int x2), some (.int (m103 - (97 : Int32))), some (.int (g114 27 42))]) (S' := []) (pc2 := 251) (L2 := [some (.ref 27), some (.int x1), some (.int x2), some (.int (m103 - (97 : Int32))), some (.int (g114 27 42))]) (S2 := []) rfl (fun _ => rfl) (fun hc => ?_) (fun hc => ?_)
                    · have hc := hc
                      rw [if_pos hc] at H
                      refine m_n 1 (pc' := 197) (L' := [some (.ref 27), some (.int x1), some (.int x2), some (.int (m103 - (97 : Int32))), some (.int (g114 27 42))]) (S' := [.ref 27]) (fun _ => rfl) ?_
                      refine m_gR (q := 66) rfl (by decide) ?_
                      refine m_n 1 (pc' := 201) (L' := [some (.ref 27), some (.int x1), some (.int x2), some (.int (m103 - (97 : Int32))), some (.int (g114 27 42))]) (S' := [.ref 27, .ref 66]) (fun _ => rfl) ?_
                      refine m_gI rfl ?_
                      refine m_n 1 (pc' := 205) (L' := [some (.ref 27), some (.int x1), some (.int x2), some (.int (m103 - (97 : Int32))), some (.int (g114 27 42))]) (S' := [.int x1, .int (g116 27 50), .ref 66]) (fun _ => rfl) ?_
                      obtain ⟨o141, H⟩ := H
                      refine m_is 16 rfl rfl rfl o141 ?_
                      obtain ⟨g142, eg142⟩ : ∃ m : zG, m = (z_up2 g116 66 (z_ix (g116 27 50)) x1) := ⟨_, rfl⟩
                      have H := H g142 eg142
                      refine z_nmG eg142 ?_
                      refine m_n 1 (pc' := 207) (L' := [some (.ref 27), some (.int x1), some (.int x2), some (.int (m103 - (97 : Int32))), some (.int (g114 27 42))]) (S' := [.ref 27]) (fun _ => rfl) ?_
                      refine m_gR (q := 67) rfl (by decide) ?_
                      refine m_n 1 (pc' := 211) (L' := [some (.ref 27), some (.int x1), some (.int x2), some (.int (m103 - (97 : Int32))), some (.int (g114 27 42))]) (S' := [.ref 27, .ref 67]) (fun _ => rfl) ?_
                      refine m_gI rfl ?_
                      refine m_n 1 (pc' := 215) (L' := [some (.ref 27), some (.int x1), some (.int x2), some (.int (m103 - (97 : Int32))), some (.int (g114 27 42))]) (S' := [.int (m103 - (97 : Int32)), .int (g142 27 50), .ref 67]) (fun _ => rfl) ?_
                      obtain ⟨o143, H⟩ := H
                      refine m_is 16 rfl rfl rfl o143 ?_
                      obtain ⟨g144, eg144⟩ : ∃ m : zG, m = (z_up2 g142 67 (z_ix (g142 27 50)) (m103 - (97 : Int32))) := ⟨_, rfl⟩
                      have H := H g144 eg144
                      refine z_nmG eg144 ?_
                      refine m_n 1 (pc' := 217) (L' := [some (.ref 27), some (.int x1), some (.int x2), some (.int (m103 - (97 : Int32))), some (.int (g114 27 42))]) (S' := [.ref 27]) (fun _ => rfl) ?_
                      refine m_gR (q := 68) rfl (by decide) ?_
                      refine m_n 1 (pc' := 221) (L' := [some (.ref 27), some (.int x1), some (.int x2), some (.int (m103 - (97 : Int32))), some (.int (g114 27 42))]) (S' := [.ref 27, .ref 68]) (fun _ => rfl) ?_
                      refine m_gI rfl ?_
                      refine m_n 1 (pc' := 225) (L' := [some (.ref 27), some (.int x1), some (.int x2), some (.int (m103 - (97 : Int32))), some (.int (g114 27 42))]) (S' := [.int x2, .int (g144 27 50), .ref 68]) (fun _ => rfl) ?_
                      obtain ⟨o145, H⟩ := H
                      refine m_is 16 rfl rfl rfl o145 ?_
                      obtain ⟨g146, eg146⟩ : ∃ m : zG, m = (z_up2 g144 68 (z_ix (g144 27 50)) x2) := ⟨_, rfl⟩
                      have H := H g146 eg146
                      refine z_nmG eg146 ?_
                      refine m_n 1 (pc' := 227) (L' := [some (.ref 27), some (.int x1), some (.int x2), some (.int (m103 - (97 : Int32))), some (.int (g114 27 42))]) (S' := [.ref 27]) (fun _ => rfl) ?_
                      refine m_gR (q := 69) rfl (by decide) ?_
                      refine m_n 1 (pc' := 231) (L' := [some (.ref 27), some (.int x1), some (.int x2), some (.int (m103 - (97 : Int32))), some (.int (g114 27 42))]) (S' := [.ref 27, .ref 69]) (fun _ => rfl) ?_
                      refine m_gI rfl ?_
                      refine m_n 1 (pc' := 236) (L' := [some (.ref 27), some (.int x1), some (.int x2), some (.int (m103 - (97 : Int32))), some (.int (g114 27 42))]) (S' := [.int (g114 27 42), .int (g146 27 50), .ref 69]) (fun _ => rfl) ?_
                      obtain ⟨o147, H⟩ := H
                      refine m_is 16 rfl rfl rfl o147 ?_
                      obtain ⟨g148, eg148⟩ : ∃ m : zG, m = (z_up2 g146 69 (z_ix (g146 27 50)) (g114 27 42)) := ⟨_, rfl⟩
                      have H := H g148 eg148
                      refine z_nmG eg148 ?_
                      refine m_n 2 (pc' := 239) (L' := [some (.ref 27), some (.int x1), some (.int x2), some (.int (m103 - (97 : Int32))), some (.int (g114 27 42))]) (S' := [.ref 27, .ref 27]) (fun _ => rfl) ?_
                      refine m_gI rfl ?_
                      refine m_n 2 (pc' := 244) (L' := [some (.ref 27), some (.int x1), some (.int x2), some (.int (m103 - (97 : Int32))), some (.int (g114 27 42))]) (S' := [.int ((g148 27 50) + (1 : Int32)), .ref 27]) (fun _ => rfl) ?_
                      refine m_pI rfl ?_
                      obtain ⟨g149, eg149⟩ : ∃ m : zG, m = (z_up2 g148 27 50 ((g148 27 50) + (1 : Int32))) := ⟨_, rfl⟩
                      have H := H g149 eg149
                      refine z_nmG eg149 ?_
                      refine m_n 1 (pc' := 248) (L' := [some (.ref 27), some (.int x1), some (.int x2), some (.int (m103 - (97 : Int32))), some (.int (g114 27 42))]) (S' := [.ref 27]) (fun _ => rfl) ?_
                      refine m_cV 187 1 rfl rfl rfl (A := [.ref 27]) rfl rfl (Or.inr ⟨rfl, _, rfl⟩) (rest := []) rfl rfl ?_
                      refine H.mono (fun r150 g151 H => ?_)
                      exact m_r rfl rfl rfl H
                    · have hc := hc
                      rw [if_neg hc] at H
                      exact m_r rfl rfl rfl H
                refine m_b (c := x1 = (1 : Int32)) (pc' := 146) (L' := [some (.ref 27), some (.int x1), some (.int x2), some (.int (m103 - (97 : Int32))), some (.int (0 : Int32))]) (S' := [.ref 27]) (pc2 := 141) (L2 := [some (.ref 27), some (.int x1), some (.int x2), some (.int (m103 - (97 : Int32))), some (.int (0 : Int32))]) (S2 := [.ref 27]) rfl (fun _ => rfl) (fun hc => ?_) (fun hc => ?_)
                · have c109 := hc
                  refine m_n 2 (pc' := 151) (L' := [some (.ref 27), some (.int x1), some (.int x2), some (.int (m103 - (97 : Int32))), some (.int (0 : Int32))]) (S' := [.int (0 : Int32), .ref 27]) (fun _ => rfl) ?_
                  rw [show z_bt (¬ (x1 = (1 : Int32)) ∧ (¬ (x1 = (4 : Int32)))) = 0 from z_bt_0.mpr ((fun q => q.1 c109))] at hj111
                  exact hj111
                · have c109 := hc
                  refine m_n 2 (pc' := 143) (L' := [some (.ref 27), some (.int x1), some (.int x2), some (.int (m103 - (97 : Int32))), some (.int (0 : Int32))]) (S' := [.int (4 : Int32), .int x1, .ref 27]) (fun _ => rfl) ?_
                  refine m_b (c := x1 = (4 : Int32)) (pc' := 146) (L' := [some (.ref 27), some (.int x1), some (.int x2), some (.int (m103 - (97 : Int32))), some (.int (0 : Int32))]) (S' := [.ref 27]) (pc2 := 150) (L2 := [some (.ref 27), some (.int x1), some (.int x2), some (.int (m103 - (97 : Int32))), some (.int (0 : Int32))]) (S2 := [.ref 27]) rfl (fun _ => rfl) (fun hc => ?_) (fun hc => ?_)
                  · have c110 := hc
                    refine m_n 2 (pc' := 151) (L' := [some (.ref 27), some (.int x1), some (.int x2), some (.int (m103 - (97 : Int32))), some (.int (0 : Int32))]) (S' := [.int (0 : Int32), .ref 27]) (fun _ => rfl) ?_
                    rw [show z_bt (¬ (x1 = (1 : Int32)) ∧ (¬ (x1 = (4 : Int32)))) = 0 from z_bt_0.mpr ((fun q => (fun q => q c110) q.2))] at hj111
                    exact hj111
                  · have c110 := hc
                    refine m_n 1 (pc' := 151) (L' := [some (.ref 27), some (.int x1), some (.int x2), some (.int (m103 - (97 : Int32))), some (.int (0 : Int32))]) (S' := [.int (1 : Int32), .ref 27]) (fun _ => rfl) ?_
                    rw [show z_bt (¬ (x1 = (1 : Int32)) ∧ (¬ (x1 = (4 : Int32)))) = 1 from z_bt_1.mpr (⟨c109, c110⟩)] at hj111
                    exact hj111
              · have hc := hc
                rw [if_neg hc] at H
                refine m_n 7 (pc' := 128) (L' := [some (.ref 27), some (.int x1), some (.int x2), some (.int (0 : Int32)), some (.int (0 : Int32))]) (S' := [.int x2, .int (0 : Int32), .int x1, .ref 27]) (fun _ => rfl) ?_
                refine m_cV 191 4 rfl rfl rfl (A := [.ref 27, .int x1, .int (0 : Int32), .int x2]) rfl rfl (Or.inr ⟨rfl, _, rfl⟩) (rest := []) rfl rfl ?_
                refine H.mono (fun r152 g153 H => ?_)
                refine m_n 1 (pc' := 132) (L' := [some (.ref 27), some (.int x1), some (.int x2), some (.int (0 : Int32)), some (.int (0 : Int32))]) (S' := [.ref 27]) (fun _ => rfl) ?_
                refine m_cV 187 1 rfl rfl rfl (A := [.ref 27]) rfl rfl (Or.inr ⟨rfl, _, rfl⟩) (rest := []) rfl rfl ?_
                refine H.mono (fun r154 g155 H => ?_)
                refine m_n 3 (pc' := 138) (L' := [some (.ref 27), some (.int x1), some (.int x2), some (.int (0 : Int32)), some (.int (0 : Int32))]) (S' := [.int (1 : Int32), .int x1, .ref 27]) (fun _ => rfl) ?_
                have hj158 : MG z_pV 193 151 [some (.ref 27), some (.int x1), some (.int x2), some (.int (0 : Int32)), some (.int (0 : Int32))] [.int (z_bt (¬ (x1 = (1 : Int32)) ∧ (¬ (x1 = (4 : Int32))))), .ref 27] g155 Q := by
                  refine m_n 2 (pc' := 153) (L' := [some (.ref 27), some (.int x1), some (.int x2), some (.int (0 : Int32)), some (.int (0 : Int32))]) (S' := [.int x1, .ref 27, .int (z_bt (¬ (x1 = (1 : Int32)) ∧ (¬ (x1 = (4 : Int32))))), .ref 27]) (fun _ => rfl) ?_
                  refine m_cI 192 2 rfl rfl rfl (A := [.ref 27, .int x1]) rfl rfl (Or.inr ⟨rfl, _, rfl⟩) (rest := [.int (z_bt (¬ (x1 = (1 : Int32)) ∧ (¬ (x1 = (4 : Int32))))), .ref 27]) rfl rfl rfl ?_
                  obtain ⟨m159, em159⟩ : ∃ m : Int32, m = (if x1 = 0 then (9 : Int32) else (if x1 = (1 : Int32) then (9999 : Int32) else (if x1 = (2 : Int32) then (24 : Int32) else (if x1 = (3 : Int32) then (99 : Int32) else (60 : Int32))))) := ⟨_, rfl⟩
                  have H := H m159 em159
                  refine X_192 x1 g155 (z_all em159 ?_)
                  refine m_cV 189 3 rfl rfl rfl (A := [.ref 27, .int (z_bt (¬ (x1 = (1 : Int32)) ∧ (¬ (x1 = (4 : Int32))))), .int m159]) rfl rfl (Or.inr ⟨rfl, _, rfl⟩) (rest := []) rfl rfl ?_
                  refine H.mono (fun r160 g161 H => ?_)
                  refine m_n 1 (pc' := 160) (L' := [some (.ref 27), some (.int x1), some (.int x2), some (.int (0 : Int32)), some (.int (0 : Int32))]) (S' := [.ref 27]) (fun _ => rfl) ?_
                  refine m_gI rfl ?_
                  refine m_n 2 (pc' := 166) (L' := [some (.ref 27), some (.int x1), some (.int x2), some (.int (0 : Int32)), some (.int (g161 27 42))]) (S' := [.ref 27]) (fun _ => rfl) ?_
                  refine m_cV 187 1 rfl rfl rfl (A := [.ref 27]) rfl rfl (Or.inr ⟨rfl, _, rfl⟩) (rest := []) rfl rfl ?_
                  refine H.mono (fun r162 g163 H => ?_)
                  refine m_n 1 (pc' := 170) (L' := [some (.ref 27), some (.int x1), some (.int x2), some (.int (0 : Int32)), some (.int (g161 27 42))]) (S' := [.ref 27]) (fun _ => rfl) ?_
                  refine m_gI rfl ?_
                  refine m_b (c := (g163 27 37) = 0) (pc' := 176) (L' := [some (.ref 27), some (.int x1), some (.int x2), some (.int (0 : Int32)), some (.int (g161 27 42))]) (S' := []) (pc2 := 189) (L2 := [some (.ref 27), some (.int x1), some (.int x2), some (.int (0 : Int32)), some (.int (g161 27 42))]) (S2 := []) rfl (fun _ => rfl) (fun hc => ?_) (fun hc => ?_)
                  · have hc := hc
                    rw [if_pos hc] at H
                    refine m_n 1 (pc' := 177) (L' := [some (.ref 27), some (.int x1), some (.int x2), some (.int (0 : Int32)), some (.int (g161 27 42))]) (S' := [.ref 27]) (fun _ => rfl) ?_
                    refine m_gI rfl ?_
                    refine m_n 1 (pc' := 181) (L' := [some (.ref 27), some (.int x1), some (.int x2), some (.int (0 : Int32)), some (.int (g161 27 42))]) (S' := [.int (3 : Int32), .int (g163 27 41)]) (fun _ => rfl) ?_
                    refine m_b (c := (g163 27 41) = (3 : Int32)) (pc' := 189) (L' := [some (.ref 27), some (.int x1), some (.int x2), some (.int (0 : Int32)), some (.int (g161 27 42))]) (S' := []) (pc2 := 184) (L2 := [some (.ref 27), some (.int x1), some (.int x2), some (.int (0 : Int32)), some (.int (g161 27 42))]) (S2 := []) rfl (fun _ => rfl) (fun hc => ?_) (fun hc => ?_)
                    · have hc := hc
                      rw [if_pos hc] at H
                      refine m_n 1 (pc' := 190) (L' := [some (.ref 27), some (.int x1), some (.int x2), some (.int (0 : Int32)), some (.int (g161 27 42))]) (S' := [.ref 27]) (fun _ => rfl) ?_
                      refine m_gI rfl ?_
                      refine m_b (c := (g163 27 37) = 0) (pc' := 196) (L' := [some (.ref 27), some (.int x1), some (.int x2), some (.int (0 : Int32)), some (.int (g161 27 42))]) (S' := []) (pc2 := 251) (L2 := [some (.ref 27), some (.int x1), some (.int x2), some (.int (0 : Int32)), some (.int (g161 27 42))]) (S2 := []) rfl (fun _ => rfl) (fun hc => ?_) (fun hc => ?_)
                      · have hc := hc
                        rw [if_pos hc] at H
                        refine m_n 1 (pc' := 197) (L' := [some (.ref 27), some (.int x1), some (.int x2), some (.int (0 : Int32)), some (.int (g161 27 42))]) (S' := [.ref 27]) (fun _ => rfl) ?_
                        refine m_gR (q := 66) rfl (by decide) ?_
                        refine m_n 1 (pc' := 201) (L' := [some (.ref 27), some (.int x1), some (.int x2), some (.int (0 : Int32)), some (.int (g161 27 42))]) (S' := [.ref 27, .ref 66]) (fun _ => rfl) ?_
                        refine m_gI rfl ?_
                        refine m_n 1 (pc' := 205) (L' := [some (.ref 27), some (.int x1), some (.int x2), some (.int (0 : Int32)), some (.int (g161 27 42))]) (S' := [.int x1, .int (g163 27 50), .ref 66]) (fun _ => rfl) ?_
                        obtain ⟨o164, H⟩ := H
                        refine m_is 16 rfl rfl rfl o164 ?_
                        obtain ⟨g165, eg165⟩ : ∃ m : zG, m = (z_up2 g163 66 (z_ix (g163 27 50)) x1) := ⟨_, rfl⟩
                        have H := H g165 eg165
                        refine z_nmG eg165 ?_
                        refine m_n 1 (pc' := 207) (L' := [some (.ref 27), some (.int x1), some (.int x2), some (.int (0 : Int32)), some (.int (g161 27 42))]) (S' := [.ref 27]) (fun _ => rfl) ?_
                        refine m_gR (q := 67) rfl (by decide) ?_
                        refine m_n 1 (pc' := 211) (L' := [some (.ref 27), some (.int x1), some (.int x2), some (.int (0 : Int32)), some (.int (g161 27 42))]) (S' := [.ref 27, .ref 67]) (fun _ => rfl) ?_
                        refine m_gI rfl ?_
                        refine m_n 1 (pc' := 215) (L' := [some (.ref 27), some (.int x1), some (.int x2), some (.int (0 : Int32)), some (.int (g161 27 42))]) (S' := [.int (0 : Int32), .int (g165 27 50), .ref 67]) (fun _ => rfl) ?_
                        obtain ⟨o166, H⟩ := H
                        refine m_is 16 rfl rfl rfl o166 ?_
                        obtain ⟨g167, eg167⟩ : ∃ m : zG, m = (z_up2 g165 67 (z_ix (g165 27 50)) (0 : Int32)) := ⟨_, rfl⟩
                        have H := H g167 eg167
                        refine z_nmG eg167 ?_
                        refine m_n 1 (pc' := 217) (L' := [some (.ref 27), some (.int x1), some (.int x2), some (.int (0 : Int32)), some (.int (g161 27 42))]) (S' := [.ref 27]) (fun _ => rfl) ?_
                        refine m_gR (q := 68) rfl (by decide) ?_
                        refine m_n 1 (pc' := 221) (L' := [some (.ref 27), some (.int x1), some (.int x2), some (.int (0 : Int32)), some (.int (g161 27 42))]) (S' := [.ref 27, .ref 68]) (fun _ => rfl) ?_
                        refine m_gI rfl ?_
                        refine m_n 1 (pc' := 225) (L' := [some (.ref 27), some (.int x1), some (.int x2), some (.int (0 : Int32)), some (.int (g161 27 42))]) (S' := [.int x2, .int (g167 27 50), .ref 68]) (fun _ => rfl) ?_
                        obtain ⟨o168, H⟩ := H
                        refine m_is 16 rfl rfl rfl o168 ?_
                        obtain ⟨g169, eg169⟩ : ∃ m : zG, m = (z_up2 g167 68 (z_ix (g167 27 50)) x2) := ⟨_, rfl⟩
                        have H := H g169 eg169
                        refine z_nmG eg169 ?_
                        refine m_n 1 (pc' := 227) (L' := [some (.ref 27), some (.int x1), some (.int x2), some (.int (0 : Int32)), some (.int (g161 27 42))]) (S' := [.ref 27]) (fun _ => rfl) ?_
                        refine m_gR (q := 69) rfl (by decide) ?_
                        refine m_n 1 (pc' := 231) (L' := [some (.ref 27), some (.int x1), some (.int x2), some (.int (0 : Int32)), some (.int (g161 27 42))]) (S' := [.ref 27, .ref 69]) (fun _ => rfl) ?_
                        refine m_gI rfl ?_
                        refine m_n 1 (pc' := 236) (L' := [some (.ref 27), some (.int x1), some (.int x2), some (.int (0 : Int32)), some (.int (g161 27 42))]) (S' := [.int (g161 27 42), .int (g169 27 50), .ref 69]) (fun _ => rfl) ?_
                        obtain ⟨o170, H⟩ := H
                        refine m_is 16 rfl rfl rfl o170 ?_
                        obtain ⟨g171, eg171⟩ : ∃ m : zG, m = (z_up2 g169 69 (z_ix (g169 27 50)) (g161 27 42)) := ⟨_, rfl⟩
                        have H := H g171 eg171
                        refine z_nmG eg171 ?_
                        refine m_n 2 (pc' := 239) (L' := [some (.ref 27), some (.int x1), some (.int x2), some (.int (0 : Int32)), some (.int (g161 27 42))]) (S' := [.ref 27, .ref 27]) (fun _ => rfl) ?_
                        refine m_gI rfl ?_
                        refine m_n 2 (pc' := 244) (L' := [some (.ref 27), some (.int x1), some (.int x2), some (.int (0 : Int32)), some (.int (g161 27 42))]) (S' := [.int ((g171 27 50) + (1 : Int32)), .ref 27]) (fun _ => rfl) ?_
                        refine m_pI rfl ?_
                        obtain ⟨g172, eg172⟩ : ∃ m : zG, m = (z_up2 g171 27 50 ((g171 27 50) + (1 : Int32))) := ⟨_, rfl⟩
                        have H := H g172 eg172
                        refine z_nmG eg172 ?_
                        refine m_n 1 (pc' := 248) (L' := [some (.ref 27), some (.int x1), some (.int x2), some (.int (0 : Int32)), some (.int (g161 27 42))]) (S' := [.ref 27]) (fun _ => rfl) ?_
                        refine m_cV 187 1 rfl rfl rfl (A := [.ref 27]) rfl rfl (Or.inr ⟨rfl, _, rfl⟩) (rest := []) rfl rfl ?_
                        refine H.mono (fun r173 g174 H => ?_)
                        exact m_r rfl rfl rfl H
                      · have hc := hc
                        rw [if_neg hc] at H
                        exact m_r rfl rfl rfl H
                    · have hc := hc
                      rw [if_neg hc] at H
                      refine m_n 2 (pc' := 186) (L' := [some (.ref 27), some (.int x1), some (.int x2), some (.int (0 : Int32)), some (.int (g161 27 42))]) (S' := [.int (2 : Int32), .ref 27]) (fun _ => rfl) ?_
                      refine m_cV 186 2 rfl rfl rfl (A := [.ref 27, .int (2 : Int32)]) rfl rfl (Or.inr ⟨rfl, _, rfl⟩) (rest := []) rfl rfl ?_
                      refine H.mono (fun r175 g176 H => ?_)
                      refine m_n 1 (pc' := 190) (L' := [some (.ref 27), some (.int x1), some (.int x2), some (.int (0 : Int32)), some (.int (g161 27 42))]) (S' := [.ref 27]) (fun _ => rfl) ?_
                      refine m_gI rfl ?_
                      refine m_b (c := (g176 27 37) = 0) (pc' := 196) (L' := [some (.ref 27), some (.int x1), some (.int x2), some (.int (0 : Int32)), some (.int (g161 27 42))]) (S' := []) (pc2 := 251) (L2 := [some (.ref 27), some (.int x1), some (.int x2), some (.int (0 : Int32)), some (.int (g161 27 42))]) (S2 := []) rfl (fun _ => rfl) (fun hc => ?_) (fun hc => ?_)
                      · have hc := hc
                        rw [if_pos hc] at H
                        refine m_n 1 (pc' := 197) (L' := [some (.ref 27), some (.int x1), some (.int x2), some (.int (0 : Int32)), some (.int (g161 27 42))]) (S' := [.ref 27]) (fun _ => rfl) ?_
                        refine m_gR (q := 66) rfl (by decide) ?_
                        refine m_n 1 (pc' := 201) (L' := [some (.ref 27), some (.int x1), some (.int x2), some (.int (0 : Int32)), some (.int (g161 27 42))]) (S' := [.ref 27, .ref 66]) (fun _ => rfl) ?_
                        refine m_gI rfl ?_
                        refine m_n 1 (pc' := 205) (L' := [some (.ref 27), some (.int x1), some (.int x2), some (.int (0 : Int32)), some (.int (g161 27 42))]) (S' := [.int x1, .int (g176 27 50), .ref 66]) (fun _ => rfl) ?_
                        obtain ⟨o177, H⟩ := H
                        refine m_is 16 rfl rfl rfl o177 ?_
                        obtain ⟨g178, eg178⟩ : ∃ m : zG, m = (z_up2 g176 66 (z_ix (g176 27 50)) x1) := ⟨_, rfl⟩
                        have H := H g178 eg178
                        refine z_nmG eg178 ?_
                        refine m_n 1 (pc' := 207) (L' := [some (.ref 27), some (.int x1), some (.int x2), some (.int (0 : Int32)), some (.int (g161 27 42))]) (S' := [.ref 27]) (fun _ => rfl) ?_
                        refine m_gR (q := 67) rfl (by decide) ?_
                        refine m_n 1 (pc' := 211) (L' := [some (.ref 27), some (.int x1), some (.int x2), some (.int (0 : Int32)), some (.int (g161 27 42))]) (S' := [.ref 27, .ref 67]) (fun _ => rfl) ?_
                        refine m_gI rfl ?_
                        refine m_n 1 (pc' := 215) (L' := [some (.ref 27), some (.int x1), some (.int x2), some (.int (0 : Int32)), some (.int (g161 27 42))]) (S' := [.int (0 : Int32), .int (g178 27 50), .ref 67]) (fun _ => rfl) ?_
                        obtain ⟨o179, H⟩ := H
                        refine m_is 16 rfl rfl rfl o179 ?_
                        obtain ⟨g180, eg180⟩ : ∃ m : zG, m = (z_up2 g178 67 (z_ix (g178 27 50)) (0 : Int32)) := ⟨_, rfl⟩
                        have H := H g180 eg180
                        refine z_nmG eg180 ?_
                        refine m_n 1 (pc' := 217) (L' := [some (.ref 27), some (.int x1), some (.int x2), some (.int (0 : Int32)), some (.int (g161 27 42))]) (S' := [.ref 27]) (fun _ => rfl) ?_
                        refine m_gR (q := 68) rfl (by decide) ?_
                        refine m_n 1 (pc' := 221) (L' := [some (.ref 27), some (.int x1), some (.int x2), some (.int (0 : Int32)), some (.int (g161 27 42))]) (S' := [.ref 27, .ref 68]) (fun _ => rfl) ?_
                        refine m_gI rfl ?_
                        refine m_n 1 (pc' := 225) (L' := [some (.ref 27), some (.int x1), some (.int x2), some (.int (0 : Int32)), some (.int (g161 27 42))]) (S' := [.int x2, .int (g180 27 50), .ref 68]) (fun _ => rfl) ?_
                        obtain ⟨o181, H⟩ := H
                        refine m_is 16 rfl rfl rfl o181 ?_
                        obtain ⟨g182, eg182⟩ : ∃ m : zG, m = (z_up2 g180 68 (z_ix (g180 27 50)) x2) := ⟨_, rfl⟩
                        have H := H g182 eg182
                        refine z_nmG eg182 ?_
                        refine m_n 1 (pc' := 227) (L' := [some (.ref 27), some (.int x1), some (.int x2), some (.int (0 : Int32)), some (.int (g161 27 42))]) (S' := [.ref 27]) (fun _ => rfl) ?_
                        refine m_gR (q := 69) rfl (by decide) ?_
                        refine m_n 1 (pc' := 231) (L' := [some (.ref 27), some (.int x1), some (.int x2), some (.int (0 : Int32)), some (.int (g161 27 42))]) (S' := [.ref 27, .ref 69]) (fun _ => rfl) ?_
                        refine m_gI rfl ?_
                        refine m_n 1 (pc' := 236) (L' := [some (.ref 27), some (.int x1), some (.int x2), some (.int (0 : Int32)), some (.int (g161 27 42))]) (S' := [.int (g161 27 42), .int (g182 27 50), .ref 69]) (fun _ => rfl) ?_
                        obtain ⟨o183, H⟩ := H
                        refine m_is 16 rfl rfl rfl o183 ?_
                        obtain ⟨g184, eg184⟩ : ∃ m : zG, m = (z_up2 g182 69 (z_ix (g182 27 50)) (g161 27 42)) := ⟨_, rfl⟩
                        have H := H g184 eg184
                        refine z_nmG eg184 ?_
                        refine m_n 2 (pc' := 239) (L' := [some (.ref 27), some (.int x1), some (.int x2), some (.int (0 : Int32)), some (.int (g161 27 42))]) (S' := [.ref 27, .ref 27]) (fun _ => rfl) ?_
                        refine m_gI rfl ?_
                        refine m_n 2 (pc' := 244) (L' := [some (.ref 27), some (.int x1), some (.int x2), some (.int (0 : Int32)), some (.int (g161 27 42))]) (S' := [.int ((g184 27 50) + (1 : Int32)), .ref 27]) (fun _ => rfl) ?_
                        refine m_pI rfl ?_
                        obtain ⟨g185, eg185⟩ : ∃ m : zG, m = (z_up2 g184 27 50 ((g184 27 50) + (1 : Int32))) := ⟨_, rfl⟩
                        have H := H g185 eg185
                        refine z_nmG eg185 ?_
                        refine m_n 1 (pc' := 248) (L' := [some (.ref 27), some (.int x1), some (.int x2), some (.int (0 : Int32)), some (.int (g161 27 42))]) (S' := [.ref 27]) (fun _ => rfl) ?_
                        refine m_cV 187 1 rfl rfl rfl (A := [.ref 27]) rfl rfl (Or.inr ⟨rfl, _, rfl⟩) (rest := []) rfl rfl ?_
                        refine H.mono (fun r186 g187 H => ?_)
                        exact m_r rfl rfl rfl H
                      · have hc := hc
                        rw [if_neg hc] at H
                        exact m_r rfl rfl rfl H
                  · have hc := hc
                    rw [if_neg hc] at H
                    refine m_n 1 (pc' := 190) (L' := [some (.ref 27), some (.int x1), some (.int x2), some (.int (0 : Int32)), some (.int (g161 27 42))]) (S' := [.ref 27]) (fun _ => rfl) ?_
                    refine m_gI rfl ?_
                    refine m_b (c := (g163 27 37) = 0) (pc' := 196) (L' := [some (.ref 27), some (.int x1), some (.int x2), some (.int (0 : Int32)), some (.int (g161 27 42))]) (S' := []) (pc2 := 251) (L2 := [some (.ref 27), some (.int x1), some (.int x2), some (.int (0 : Int32)), some (.int (g161 27 42))]) (S2 := []) rfl (fun _ => rfl) (fun hc => ?_) (fun hc => ?_)
                    · have hc := hc
                      rw [if_pos hc] at H
                      refine m_n 1 (pc' := 197) (L' := [some (.ref 27), some (.int x1), some (.int x2), some (.int (0 : Int32)), some (.int (g161 27 42))]) (S' := [.ref 27]) (fun _ => rfl) ?_
                      refine m_gR (q := 66) rfl (by decide) ?_
                      refine m_n 1 (pc' := 201) (L' := [some (.ref 27), some (.int x1), some (.int x2), some (.int (0 : Int32)), some (.int (g161 27 42))]) (S' := [.ref 27, .ref 66]) (fun _ => rfl) ?_
                      refine m_gI rfl ?_
                      refine m_n 1 (pc' := 205) (L' := [some (.ref 27), some (.int x1), some (.int x2), some (.int (0 : Int32)), some (.int (g161 27 42))]) (S' := [.int x1, .int (g163 27 50), .ref 66]) (fun _ => rfl) ?_
                      obtain ⟨o188, H⟩ := H
                      refine m_is 16 rfl rfl rfl o188 ?_
                      obtain ⟨g189, eg189⟩ : ∃ m : zG, m = (z_up2 g163 66 (z_ix (g163 27 50)) x1) := ⟨_, rfl⟩
                      have H := H g189 eg189
                      refine z_nmG eg189 ?_
                      refine m_n 1 (pc' := 207) (L' := [some (.ref 27), some (.int x1), some (.int x2), some (.int (0 : Int32)), some (.int (g161 27 42))]) (S' := [.ref 27]) (fun _ => rfl) ?_
                      refine m_gR (q := 67) rfl (by decide) ?_
                      refine m_n 1 (pc' := 211) (L' := [some (.ref 27), some (.int x1), some (.int x2), some (.int (0 : Int32)), some (.int (g161 27 42))]) (S' := [.ref 27, .ref 67]) (fun _ => rfl) ?_
                      refine m_gI rfl ?_
                      refine m_n 1 (pc' := 215) (L' := [some (.ref 27), some (.int x1), some (.int x2), some (.int (0 : Int32)), some (.int (g161 27 42))]) (S' := [.int (0 : Int32), .int (g189 27 50), .ref 67]) (fun _ => rfl) ?_
                      obtain ⟨o190, H⟩ := H
                      refine m_is 16 rfl rfl rfl o190 ?_
                      obtain ⟨g191, eg191⟩ : ∃ m : zG, m = (z_up2 g189 67 (z_ix (g189 27 50)) (0 : Int32)) := ⟨_, rfl⟩
                      have H := H g191 eg191
                      refine z_nmG eg191 ?_
                      refine m_n 1 (pc' := 217) (L' := [some (.ref 27), some (.int x1), some (.int x2), some (.int (0 : Int32)), some (.int (g161 27 42))]) (S' := [.ref 27]) (fun _ => rfl) ?_
                      refine m_gR (q := 68) rfl (by decide) ?_
                      refine m_n 1 (pc' := 221) (L' := [some (.ref 27), some (.int x1), some (.int x2), some (.int (0 : Int32)), some (.int (g161 27 42))]) (S' := [.ref 27, .ref 68]) (fun _ => rfl) ?_
                      refine m_gI rfl ?_
                      refine m_n 1 (pc' := 225) (L' := [some (.ref 27), some (.int x1), some (.int x2), some (.int (0 : Int32)), some (.int (g161 27 42))]) (S' := [.int x2, .int (g191 27 50), .ref 68]) (fun _ => rfl) ?_
                      obtain ⟨o192, H⟩ := H
                      refine m_is 16 rfl rfl rfl o192 ?_
                      obtain ⟨g193, eg193⟩ : ∃ m : zG, m = (z_up2 g191 68 (z_ix (g191 27 50)) x2) := ⟨_, rfl⟩
                      have H := H g193 eg193
                      refine z_nmG eg193 ?_
                      refine m_n 1 (pc' := 227) (L' := [some (.ref 27), some (.int x1), some (.int x2), some (.int (0 : Int32)), some (.int (g161 27 42))]) (S' := [.ref 27]) (fun _ => rfl) ?_
                      refine m_gR (q := 69) rfl (by decide) ?_
                      refine m_n 1 (pc' := 231) (L' := [some (.ref 27), some (.int x1), some (.int x2), some (.int (0 : Int32)), some (.int (g161 27 42))]) (S' := [.ref 27, .ref 69]) (fun _ => rfl) ?_
                      refine m_gI rfl ?_
                      refine m_n 1 (pc' := 236) (L' := [some (.ref 27), some (.int x1), some (.int x2), some (.int (0 : Int32)), some (.int (g161 27 42))]) (S' := [.int (g161 27 42), .int (g193 27 50), .ref 69]) (fun _ => rfl) ?_
                      obtain ⟨o194, H⟩ := H
                      refine m_is 16 rfl rfl rfl o194 ?_
                      obtain ⟨g195, eg195⟩ : ∃ m : zG, m = (z_up2 g193 69 (z_ix (g193 27 50)) (g161 27 42)) := ⟨_, rfl⟩
                      have H := H g195 eg195
                      refine z_nmG eg195 ?_
                      refine m_n 2 (pc' := 239) (L' := [some (.ref 27), some (.int x1), some (.int x2), some (.int (0 : Int32)), some (.int (g161 27 42))]) (S' := [.ref 27, .ref 27]) (fun _ => rfl) ?_
                      refine m_gI rfl ?_
                      refine m_n 2 (pc' := 244) (L' := [some (.ref 27), some (.int x1), some (.int x2), some (.int (0 : Int32)), some (.int (g161 27 42))]) (S' := [.int ((g195 27 50) + (1 : Int32)), .ref 27]) (fun _ => rfl) ?_
                      refine m_pI rfl ?_
                      obtain ⟨g196, eg196⟩ : ∃ m : zG, m = (z_up2 g195 27 50 ((g195 27 50) + (1 : Int32))) := ⟨_, rfl⟩
                      have H := H g196 eg196
                      refine z_nmG eg196 ?_
                      refine m_n 1 (pc' := 248) (L' := [some (.ref 27), some (.int x1), some (.int x2), some (.int (0 : Int32)), some (.int (g161 27 42))]) (S' := [.ref 27]) (fun _ => rfl) ?_
                      refine m_cV 187 1 rfl rfl rfl (A := [.ref 27]) rfl rfl (Or.inr ⟨rfl, _, rfl⟩) (rest := []) rfl rfl ?_
                      refine H.mono (fun r197 g198 H => ?_)
                      exact m_r rfl rfl rfl H
                    · have hc := hc
                      rw [if_neg hc] at H
                      exact m_r rfl rfl rfl H
                refine m_b (c := x1 = (1 : Int32)) (pc' := 146) (L' := [some (.ref 27), some (.int x1), some (.int x2), some (.int (0 : Int32)), some (.int (0 : Int32))]) (S' := [.ref 27]) (pc2 := 141) (L2 := [some (.ref 27), some (.int x1), some (.int x2), some (.int (0 : Int32)), some (.int (0 : Int32))]) (S2 := [.ref 27]) rfl (fun _ => rfl) (fun hc => ?_) (fun hc => ?_)
                · have c156 := hc
                  refine m_n 2 (pc' := 151) (L' := [some (.ref 27), some (.int x1), some (.int x2), some (.int (0 : Int32)), some (.int (0 : Int32))]) (S' := [.int (0 : Int32), .ref 27]) (fun _ => rfl) ?_
                  rw [show z_bt (¬ (x1 = (1 : Int32)) ∧ (¬ (x1 = (4 : Int32)))) = 0 from z_bt_0.mpr ((fun q => q.1 c156))] at hj158
                  exact hj158
                · have c156 := hc
                  refine m_n 2 (pc' := 143) (L' := [some (.ref 27), some (.int x1), some (.int x2), some (.int (0 : Int32)), some (.int (0 : Int32))]) (S' := [.int (4 : Int32), .int x1, .ref 27]) (fun _ => rfl) ?_
                  refine m_b (c := x1 = (4 : Int32)) (pc' := 146) (L' := [some (.ref 27), some (.int x1), some (.int x2), some (.int (0 : Int32)), some (.int (0 : Int32))]) (S' := [.ref 27]) (pc2 := 150) (L2 := [some (.ref 27), some (.int x1), some (.int x2), some (.int (0 : Int32)), some (.int (0 : Int32))]) (S2 := [.ref 27]) rfl (fun _ => rfl) (fun hc => ?_) (fun hc => ?_)
                  · have c157 := hc
                    refine m_n 2 (pc' := 151) (L' := [some (.ref 27), some (.int x1), some (.int x2), some (.int (0 : Int32)), some (.int (0 : Int32))]) (S' := [.int (0 : Int32), .ref 27]) (fun _ => rfl) ?_
                    rw [show z_bt (¬ (x1 = (1 : Int32)) ∧ (¬ (x1 = (4 : Int32)))) = 0 from z_bt_0.mpr ((fun q => (fun q => q c157) q.2))] at hj158
                    exact hj158
                  · have c157 := hc
                    refine m_n 1 (pc' := 151) (L' := [some (.ref 27), some (.int x1), some (.int x2), some (.int (0 : Int32)), some (.int (0 : Int32))]) (S' := [.int (1 : Int32), .ref 27]) (fun _ => rfl) ?_
                    rw [show z_bt (¬ (x1 = (1 : Int32)) ∧ (¬ (x1 = (4 : Int32)))) = 1 from z_bt_1.mpr (⟨c156, c157⟩)] at hj158
                    exact hj158
          · have hc := hc
            rw [if_neg hc] at H
            refine m_n 2 (pc' := 84) (L' := [some (.ref 27), some (.int x1), some (.int x2), some (.int (0 : Int32)), some (.int (0 : Int32))]) (S' := [.int (2 : Int32), .ref 27]) (fun _ => rfl) ?_
            refine m_cV 186 2 rfl rfl rfl (A := [.ref 27, .int (2 : Int32)]) rfl rfl (Or.inr ⟨rfl, _, rfl⟩) (rest := []) rfl rfl ?_
            refine H.mono (fun r199 g200 H => ?_)
            refine m_n 1 (pc' := 88) (L' := [some (.ref 27), some (.int x1), some (.int x2), some (.int (0 : Int32)), some (.int (0 : Int32))]) (S' := [.ref 27]) (fun _ => rfl) ?_
            refine m_gI rfl ?_
            refine m_b (c := (g200 27 37) = 0) (pc' := 94) (L' := [some (.ref 27), some (.int x1), some (.int x2), some (.int (0 : Int32)), some (.int (0 : Int32))]) (S' := []) (pc2 := 108) (L2 := [some (.ref 27), some (.int x1), some (.int x2), some (.int (0 : Int32)), some (.int (0 : Int32))]) (S2 := []) rfl (fun _ => rfl) (fun hc => ?_) (fun hc => ?_)
            · have hc := hc
              rw [if_pos hc] at H
              refine m_n 2 (pc' := 96) (L' := [some (.ref 27), some (.int x1), some (.int x2), some (.int (0 : Int32)), some (.int (0 : Int32))]) (S' := [.ref 27, .ref 27]) (fun _ => rfl) ?_
              refine m_gI rfl ?_
              refine m_cI 185 2 rfl rfl rfl (A := [.ref 27, .int (g200 27 40)]) rfl rfl (Or.inr ⟨rfl, _, rfl⟩) (rest := []) rfl rfl rfl ?_
              obtain ⟨o202, H⟩ := H
              obtain ⟨m201, em201⟩ : ∃ m : Int32, m = (if (g200 27 35) ≤ (g200 27 40) then (-4 : Int32) else (g200 59 (z_ix (g200 27 40)))) := ⟨_, rfl⟩
              have H := H m201 em201
              refine X_185 (g200 27 40) g200 ⟨o202, (z_all em201 ?_)⟩
              refine m_n 9 (pc' := 128) (L' := [some (.ref 27), some (.int x1), some (.int x2), some (.int (m201 - (97 : Int32))), some (.int (0 : Int32))]) (S' := [.int x2, .int (m201 - (97 : Int32)), .int x1, .ref 27]) (fun _ => rfl) ?_
              refine m_cV 191 4 rfl rfl rfl (A := [.ref 27, .int x1, .int (m201 - (97 : Int32)), .int x2]) rfl rfl (Or.inr ⟨rfl, _, rfl⟩) (rest := []) rfl rfl ?_
              refine H.mono (fun r203 g204 H => ?_)
              refine m_n 1 (pc' := 132) (L' := [some (.ref 27), some (.int x1), some (.int x2), some (.int (m201 - (97 : Int32))), some (.int (0 : Int32))]) (S' := [.ref 27]) (fun _ => rfl) ?_
              refine m_cV 187 1 rfl rfl rfl (A := [.ref 27]) rfl rfl (Or.inr ⟨rfl, _, rfl⟩) (rest := []) rfl rfl ?_
              refine H.mono (fun r205 g206 H => ?_)
              refine m_n 3 (pc' := 138) (L' := [some (.ref 27), some (.int x1), some (.int x2), some (.int (m201 - (97 : Int32))), some (.int (0 : Int32))]) (S' := [.int (1 : Int32), .int x1, .ref 27]) (fun _ => rfl) ?_
              have hj209 : MG z_pV 193 151 [some (.ref 27), some (.int x1), some (.int x2), some (.int (m201 - (97 : Int32))), some (.int (0 : Int32))] [.int (z_bt (¬ (x1 = (1 : Int32)) ∧ (¬ (x1 = (4 : Int32))))), .ref 27] g206 Q := by
                refine m_n 2 (pc' := 153) (L' := [some (.ref 27), some (.int x1), some (.int x2), some (.int (m201 - (97 : Int32))), some (.int (0 : Int32))]) (S' := [.int x1, .ref 27, .int (z_bt (¬ (x1 = (1 : Int32)) ∧ (¬ (x1 = (4 : Int32))))), .ref 27]) (fun _ => rfl) ?_
                refine m_cI 192 2 rfl rfl rfl (A := [.ref 27, .int x1]) rfl rfl (Or.inr ⟨rfl, _, rfl⟩) (rest := [.int (z_bt (¬ (x1 = (1 : Int32)) ∧ (¬ (x1 = (4 : Int32))))), .ref 27]) rfl rfl rfl ?_
                obtain ⟨m210, em210⟩ : ∃ m : Int32, m = (if x1 = 0 then (9 : Int32) else (if x1 = (1 : Int32) then (9999 : Int32) else (if x1 = (2 : Int32) then (24 : Int32) else (if x1 = (3 : Int32) then (99 : Int32) else (60 : Int32))))) := ⟨_, rfl⟩
                have H := H m210 em210
                refine X_192 x1 g206 (z_all em210 ?_)
                refine m_cV 189 3 rfl rfl rfl (A := [.ref 27, .int (z_bt (¬ (x1 = (1 : Int32)) ∧ (¬ (x1 = (4 : Int32))))), .int m210]) rfl rfl (Or.inr ⟨rfl, _, rfl⟩) (rest := []) rfl rfl ?_
                refine H.mono (fun r211 g212 H => ?_)
                refine m_n 1 (pc' := 160) (L' := [some (.ref 27), some (.int x1), some (.int x2), some (.int (m201 - (97 : Int32))), some (.int (0 : Int32))]) (S' := [.ref 27]) (fun _ => rfl) ?_
                refine m_gI rfl ?_
                refine m_n 2 (pc' := 166) (L' := [some (.ref 27), some (.int x1), some (.int x2), some (.int (m201 - (97 : Int32))), some (.int (g212 27 42))]) (S' := [.ref 27]) (fun _ => rfl) ?_
                refine m_cV 187 1 rfl rfl rfl (A := [.ref 27]) rfl rfl (Or.inr ⟨rfl, _, rfl⟩) (rest := []) rfl rfl ?_
                refine H.mono (fun r213 g214 H => ?_)
                refine m_n 1 (pc' := 170) (L' := [some (.ref 27), some (.int x1), some (.int x2), some (.int (m201 - (97 : Int32))), some (.int (g212 27 42))]) (S' := [.ref 27]) (fun _ => rfl) ?_
                refine m_gI rfl ?_
                refine m_b (c := (g214 27 37) = 0) (pc' := 176) (L' := [some (.ref 27), some (.int x1), some (.int x2), some (.int (m201 - (97 : Int32))), some (.int (g212 27 42))]) (S' := []) (pc2 := 189) (L2 := [some (.ref 27), some (.int x1), some (.int x2), some (.int (m201 - (97 : Int32))), some (.int (g212 27 42))]) (S2 := []) rfl (fun _ => rfl) (fun hc => ?_) (fun hc => ?_)
                · have hc := hc
                  rw [if_pos hc] at H
                  refine m_n 1 (pc' := 177) (L' := [some (.ref 27), some (.int x1), some (.int x2), some (.int (m201 - (97 : Int32))), some (.int (g212 27 42))]) (S' := [.ref 27]) (fun _ => rfl) ?_
                  refine m_gI rfl ?_
                  refine m_n 1 (pc' := 181) (L' := [some (.ref 27), some (.int x1), some (.int x2), some (.int (m201 - (97 : Int32))), some (.int (g212 27 42))]) (S' := [.int (3 : Int32), .int (g214 27 41)]) (fun _ => rfl) ?_
                  refine m_b (c := (g214 27 41) = (3 : Int32)) (pc' := 189) (L' := [some (.ref 27), some (.int x1), some (.int x2), some (.int (m201 - (97 : Int32))), some (.int (g212 27 42))]) (S' := []) (pc2 := 184) (L2 := [some (.ref 27), some (.int x1), some (.int x2), some (.int (m201 - (97 : Int32))), some (.int (g212 27 42))]) (S2 := []) rfl (fun _ => rfl) (fun hc => ?_) (fun hc => ?_)
                  · have hc := hc
                    rw [if_pos hc] at H
                    refine m_n 1 (pc' := 190) (L' := [some (.ref 27), some (.int x1), some (.int x2), some (.int (m201 - (97 : Int32))), some (.int (g212 27 42))]) (S' := [.ref 27]) (fun _ => rfl) ?_
                    refine m_gI rfl ?_
                    refine m_b (c := (g214 27 37) = 0) (pc' := 196) (L' := [some (.ref 27), some (.int x1), some (.int x2), some (.int (m201 - (97 : Int32))), some (.int (g212 27 42))]) (S' := []) (pc2 := 251) (L2 := [some (.ref 27), some (.int x1), some (.int x2), some (.int (m201 - (97 : Int32))), some (.int (g212 27 42))]) (S2 := []) rfl (fun _ => rfl) (fun hc => ?_) (fun hc => ?_)
                    · have hc := hc
                      rw [if_pos hc] at H
                      refine m_n 1 (pc' := 197) (L' := [some (.ref 27), some (.int x1), some (.int x2), some (.int (m201 - (97 : Int32))), some (.int (g212 27 42))]) (S' := [.ref 27]) (fun _ => rfl) ?_
                      refine m_gR (q := 66) rfl (by decide) ?_
                      refine m_n 1 (pc' := 201) (L' := [some (.ref 27), some (.int x1), some (.int x2), some (.int (m201 - (97 : Int32))), some (.int (g212 27 42))]) (S' := [.ref 27, .ref 66]) (fun _ => rfl) ?_
                      refine m_gI rfl ?_
                      refine m_n 1 (pc' := 205) (L' := [some (.ref 27), some (.int x1), some (.int x2), some (.int (m201 - (97 : Int32))), some (.int (g212 27 42))]) (S' := [.int x1, .int (g214 27 50), .ref 66]) (fun _ => rfl) ?_
                      obtain ⟨o215, H⟩ := H
                      refine m_is 16 rfl rfl rfl o215 ?_
                      obtain ⟨g216, eg216⟩ : ∃ m : zG, m = (z_up2 g214 66 (z_ix (g214 27 50)) x1) := ⟨_, rfl⟩
                      have H := H g216 eg216
                      refine z_nmG eg216 ?_
                      refine m_n 1 (pc' := 207) (L' := [some (.ref 27), some (.int x1), some (.int x2), some (.int (m201 - (97 : Int32))), some (.int (g212 27 42))]) (S' := [.ref 27]) (fun _ => rfl) ?_
                      refine m_gR (q := 67) rfl (by decide) ?_
                      refine m_n 1 (pc' := 211) (L' := [some (.ref 27), some (.int x1), some (.int x2), some (.int (m201 - (97 : Int32))), some (.int (g212 27 42))]) (S' := [.ref 27, .ref 67]) (fun _ => rfl) ?_
                      refine m_gI rfl ?_
                      refine m_n 1 (pc' := 215) (L' := [some (.ref 27), some (.int x1), some (.int x2), some (.int (m201 - (97 : Int32))), some (.int (g212 27 42))]) (S' := [.int (m201 - (97 : Int32)), .int (g216 27 50), .ref 67]) (fun _ => rfl) ?_
                      obtain ⟨o217, H⟩ := H
                      refine m_is 16 rfl rfl rfl o217 ?_
                      obtain ⟨g218, eg218⟩ : ∃ m : zG, m = (z_up2 g216 67 (z_ix (g216 27 50)) (m201 - (97 : Int32))) := ⟨_, rfl⟩
                      have H := H g218 eg218
                      refine z_nmG eg218 ?_
                      refine m_n 1 (pc' := 217) (L' := [some (.ref 27), some (.int x1), some (.int x2), some (.int (m201 - (97 : Int32))), some (.int (g212 27 42))]) (S' := [.ref 27]) (fun _ => rfl) ?_
                      refine m_gR (q := 68) rfl (by decide) ?_
                      refine m_n 1 (pc' := 221) (L' := [some (.ref 27), some (.int x1), some (.int x2), some (.int (m201 - (97 : Int32))), some (.int (g212 27 42))]) (S' := [.ref 27, .ref 68]) (fun _ => rfl) ?_
                      refine m_gI rfl ?_
                      refine m_n 1 (pc' := 225) (L' := [some (.ref 27), some (.int x1), some (.int x2), some (.int (m201 - (97 : Int32))), some (.int (g212 27 42))]) (S' := [.int x2, .int (g218 27 50), .ref 68]) (fun _ => rfl) ?_
                      obtain ⟨o219, H⟩ := H
                      refine m_is 16 rfl rfl rfl o219 ?_
                      obtain ⟨g220, eg220⟩ : ∃ m : zG, m = (z_up2 g218 68 (z_ix (g218 27 50)) x2) := ⟨_, rfl⟩
                      have H := H g220 eg220
                      refine z_nmG eg220 ?_
                      refine m_n 1 (pc' := 227) (L' := [some (.ref 27), some (.int x1), some (.int x2), some (.int (m201 - (97 : Int32))), some (.int (g212 27 42))]) (S' := [.ref 27]) (fun _ => rfl) ?_
                      refine m_gR (q := 69) rfl (by decide) ?_
                      refine m_n 1 (pc' := 231) (L' := [some (.ref 27), some (.int x1), some (.int x2), some (.int (m201 - (97 : Int32))), some (.int (g212 27 42))]) (S' := [.ref 27, .ref 69]) (fun _ => rfl) ?_
                      refine m_gI rfl ?_
                      refine m_n 1 (pc' := 236) (L' := [some (.ref 27), some (.int x1), some (.int x2), some (.int (m201 - (97 : Int32))), some (.int (g212 27 42))]) (S' := [.int (g212 27 42), .int (g220 27 50), .ref 69]) (fun _ => rfl) ?_
                      obtain ⟨o221, H⟩ := H
                      refine m_is 16 rfl rfl rfl o221 ?_
                      obtain ⟨g222, eg222⟩ : ∃ m : zG, m = (z_up2 g220 69 (z_ix (g220 27 50)) (g212 27 42)) := ⟨_, rfl⟩
                      have H := H g222 eg222
                      refine z_nmG eg222 ?_
                      refine m_n 2 (pc' := 239) (L' := [some (.ref 27), some (.int x1), some (.int x2), some (.int (m201 - (97 : Int32))), some (.int (g212 27 42))]) (S' := [.ref 27, .ref 27]) (fun _ => rfl) ?_
                      refine m_gI rfl ?_
                      refine m_n 2 (pc' := 244) (L' := [some (.ref 27), some (.int x1), some (.int x2), some (.int (m201 - (97 : Int32))), some (.int (g212 27 42))]) (S' := [.int ((g222 27 50) + (1 : Int32)), .ref 27]) (fun _ => rfl) ?_
                      refine m_pI rfl ?_
                      obtain ⟨g223, eg223⟩ : ∃ m : zG, m = (z_up2 g222 27 50 ((g222 27 50) + (1 : Int32))) := ⟨_, rfl⟩
                      have H := H g223 eg223
                      refine z_nmG eg223 ?_
                      refine m_n 1 (pc' := 248) (L' := [some (.ref 27), some (.int x1), some (.int x2), some (.int (m201 - (97 : Int32))), some (.int (g212 27 42))]) (S' := [.ref 27]) (fun _ => rfl) ?_
                      refine m_cV 187 1 rfl rfl rfl (A := [.ref 27]) rfl rfl (Or.inr ⟨rfl, _, rfl⟩) (rest := []) rfl rfl ?_
                      refine H.mono (fun r224 g225 H => ?_)
                      exact m_r rfl rfl rfl H
                    · have hc := hc
                      rw [if_neg hc] at H
                      exact m_r rfl rfl rfl H
                  · have hc := hc
                    rw [if_neg hc] at H
                    refine m_n 2 (pc' := 186) (L' := [some (.ref 27), some (.int x1), some (.int x2), some (.int (m201 - (97 : Int32))), some (.int (g212 27 42))]) (S' := [.int (2 : Int32), .ref 27]) (fun _ => rfl) ?_
                    refine m_cV 186 2 rfl rfl rfl (A := [.ref 27, .int (2 : Int32)]) rfl rfl (Or.inr ⟨rfl, _, rfl⟩) (rest := []) rfl rfl ?_
                    refine H.mono (fun r226 g227 H => ?_)
                    refine m_n 1 (pc' := 190) (L' := [some (.ref 27), some (.int x1), some (.int x2), some (.int (m201 - (97 : Int32))), some (.int (g212 27 42))]) (S' := [.ref 27]) (fun _ => rfl) ?_
                    refine m_gI rfl ?_
                    refine m_b (c := (g227 27 37) = 0) (pc' := 196) (L' := [some (.ref 27), some (.int x1), some (.int x2), some (.int (m201 - (97 : Int32))), some (.int (g212 27 42))]) (S' := []) (pc2 := 251) (L2 := [some (.ref 27), some (.int x1), some (.int x2), some (.int (m201 - (97 : Int32))), some (.int (g212 27 42))]) (S2 := []) rfl (fun _ => rfl) (fun hc => ?_) (fun hc => ?_)
                    · have hc := hc
                      rw [if_pos hc] at H
                      refine m_n 1 (pc' := 197) (L' := [some (.ref 27), some (.int x1), some (.int x2), some (.int (m201 - (97 : Int32))), some (.int (g212 27 42))]) (S' := [.ref 27]) (fun _ => rfl) ?_
                      refine m_gR (q := 66) rfl (by decide) ?_
                      refine m_n 1 (pc' := 201) (L' := [some (.ref 27), some (.int x1), some (.int x2), some (.int (m201 - (97 : Int32))), some (.int (g212 27 42))]) (S' := [.ref 27, .ref 66]) (fun _ => rfl) ?_
                      refine m_gI rfl ?_
                      refine m_n 1 (pc' := 205) (L' := [some (.ref 27), some (.int x1), some (.int x2), some (.int (m201 - (97 : Int32))), some (.int (g212 27 42))]) (S' := [.int x1, .int (g227 27 50), .ref 66]) (fun _ => rfl) ?_
                      obtain ⟨o228, H⟩ := H
                      refine m_is 16 rfl rfl rfl o228 ?_
                      obtain ⟨g229, eg229⟩ : ∃ m : zG, m = (z_up2 g227 66 (z_ix (g227 27 50)) x1) := ⟨_, rfl⟩
                      have H := H g229 eg229
                      refine z_nmG eg229 ?_
                      refine m_n 1 (pc' := 207) (L' := [some (.ref 27), some (.int x1), some (.int x2), some (.int (m201 - (97 : Int32))), some (.int (g212 27 42))]) (S' := [.ref 27]) (fun _ => rfl) ?_
                      refine m_gR (q := 67) rfl (by decide) ?_
                      refine m_n 1 (pc' := 211) (L' := [some (.ref 27), some (.int x1), some (.int x2), some (.int (m201 - (97 : Int32))), some (.int (g212 27 42))]) (S' := [.ref 27, .ref 67]) (fun _ => rfl) ?_
                      refine m_gI rfl ?_
                      refine m_n 1 (pc' := 215) (L' := [some (.ref 27), some (.int x1), some (.int x2), some (.int (m201 - (97 : Int32))), some (.int (g212 27 42))]) (S' := [.int (m201 - (97 : Int32)), .int (g229 27 50), .ref 67]) (fun _ => rfl) ?_
                      obtain ⟨o230, H⟩ := H
                      refine m_is 16 rfl rfl rfl o230 ?_
                      obtain ⟨g231, eg231⟩ : ∃ m : zG, m = (z_up2 g229 67 (z_ix (g229 27 50)) (m201 - (97 : Int32))) := ⟨_, rfl⟩
                      have H := H g231 eg231
                      refine z_nmG eg231 ?_
                      refine m_n 1 (pc' := 217) (L' := [some (.ref 27), some (.int x1), some (.int x2), some (.int (m201 - (97 : Int32))), some (.int (g212 27 42))]) (S' := [.ref 27]) (fun _ => rfl) ?_
                      refine m_gR (q := 68) rfl (by decide) ?_
                      refine m_n 1 (pc' := 221) (L' := [some (.ref 27), some (.int x1), some (.int x2), some (.int (m201 - (97 : Int32))), some (.int (g212 27 42))]) (S' := [.ref 27, .ref 68]) (fun _ => rfl) ?_
                      refine m_gI rfl ?_
                      refine m_n 1 (pc' := 225) (L' := [some (.ref 27), some (.int x1), some (.int x2), some (.int (m201 - (97 : Int32))), some (.int (g212 27 42))]) (S' := [.int x2, .int (g231 27 50), .ref 68]) (fun _ => rfl) ?_
                      obtain ⟨o232, H⟩ := H
                      refine m_is 16 rfl rfl rfl o232 ?_
                      obtain ⟨g233, eg233⟩ : ∃ m : zG, m = (z_up2 g231 68 (z_ix (g231 27 50)) x2) := ⟨_, rfl⟩
                      have H := H g233 eg233
                      refine z_nmG eg233 ?_
                      refine m_n 1 (pc' := 227) (L' := [some (.ref 27), some (.int x1), some (.int x2), some (.int (m201 - (97 : Int32))), some (.int (g212 27 42))]) (S' := [.ref 27]) (fun _ => rfl) ?_
                      refine m_gR (q := 69) rfl (by decide) ?_
                      refine m_n 1 (pc' := 231) (L' := [some (.ref 27), some (.int x1), some (.int x2), some (.int (m201 - (97 : Int32))), some (.int (g212 27 42))]) (S' := [.ref 27, .ref 69]) (fun _ => rfl) ?_
                      refine m_gI rfl ?_
                      refine m_n 1 (pc' := 236) (L' := [some (.ref 27), some (.int x1), some (.int x2), some (.int (m201 - (97 : Int32))), some (.int (g212 27 42))]) (S' := [.int (g212 27 42), .int (g233 27 50), .ref 69]) (fun _ => rfl) ?_
                      obtain ⟨o234, H⟩ := H
                      refine m_is 16 rfl rfl rfl o234 ?_
                      obtain ⟨g235, eg235⟩ : ∃ m : zG, m = (z_up2 g233 69 (z_ix (g233 27 50)) (g212 27 42)) := ⟨_, rfl⟩
                      have H := H g235 eg235
                      refine z_nmG eg235 ?_
                      refine m_n 2 (pc' := 239) (L' := [some (.ref 27), some (.int x1), some (.int x2), some (.int (m201 - (97 : Int32))), some (.int (g212 27 42))]) (S' := [.ref 27, .ref 27]) (fun _ => rfl) ?_
                      refine m_gI rfl ?_
                      refine m_n 2 (pc' := 244) (L' := [some (.ref 27), some (.int x1), some (.int x2), some (.int (m201 - (97 : Int32))), some (.int (g212 27 42))]) (S' := [.int ((g235 27 50) + (1 : Int32)), .ref 27]) (fun _ => rfl) ?_
                      refine m_pI rfl ?_
                      obtain ⟨g236, eg236⟩ : ∃ m : zG, m = (z_up2 g235 27 50 ((g235 27 50) + (1 : Int32))) := ⟨_, rfl⟩
                      have H := H g236 eg236
                      refine z_nmG eg236 ?_
                      refine m_n 1 (pc' := 248) (L' := [some (.ref 27), some (.int x1), some (.int x2), some (.int (m201 - (97 : Int32))), some (.int (g212 27 42))]) (S' := [.ref 27]) (fun _ => rfl) ?_
                      refine m_cV 187 1 rfl rfl rfl (A := [.ref 27]) rfl rfl (Or.inr ⟨rfl, _, rfl⟩) (rest := []) rfl rfl ?_
                      refine H.mono (fun r237 g238 H => ?_)
                      exact m_r rfl rfl rfl H
                    · have hc := hc
                      rw [if_neg hc] at H
                      exact m_r rfl rfl rfl H
                · have hc := hc
                  rw [if_neg hc] at H
                  refine m_n 1 (pc' := 190) (L' := [some (.ref 27), some (.int x1), some (.int x2), some (.int (m201 - (97 : Int32))), some (.int (g212 27 42))]) (S' := [.ref 27]) (fun _ => rfl) ?_
                  refine m_gI rfl ?_
                  refine m_b (c := (g214 27 37) = 0) (pc' := 196) (L' := [some (.ref 27), some (.int x1), some (.int x2), some (.int (m201 - (97 : Int32))), some (.int (g212 27 42))]) (S' := []) (pc2 := 251) (L2 := [some (.ref 27), some (.int x1), some (.int x2), some (.int (m201 - (97 : Int32))), some (.int (g212 27 42))]) (S2 := []) rfl (fun _ => rfl) (fun hc => ?_) (fun hc => ?_)
                  · have hc := hc
                    rw [if_pos hc] at H
                    refine m_n 1 (pc' := 197) (L' := [some (.ref 27), some (.int x1), some (.int x2), some (.int (m201 - (97 : Int32))), some (.int (g212 27 42))]) (S' := [.ref 27]) (fun _ => rfl) ?_
                    refine m_gR (q := 66) rfl (by decide) ?_
                    refine m_n 1 (pc' := 201) (L' := [some (.ref 27), some (.int x1), some (.int x2), some (.int (m201 - (97 : Int32))), some (.int (g212 27 42))]) (S' := [.ref 27, .ref 66]) (fun _ => rfl) ?_
                    refine m_gI rfl ?_
                    refine m_n 1 (pc' := 205) (L' := [some (.ref 27), some (.int x1), some (.int x2), some (.int (m201 - (97 : Int32))), some (.int (g212 27 42))]) (S' := [.int x1, .int (g214 27 50), .ref 66]) (fun _ => rfl) ?_
                    obtain ⟨o239, H⟩ := H
                    refine m_is 16 rfl rfl rfl o239 ?_
                    obtain ⟨g240, eg240⟩ : ∃ m : zG, m = (z_up2 g214 66 (z_ix (g214 27 50)) x1) := ⟨_, rfl⟩
                    have H := H g240 eg240
                    refine z_nmG eg240 ?_
                    refine m_n 1 (pc' := 207) (L' := [some (.ref 27), some (.int x1), some (.int x2), some (.int (m201 - (97 : Int32))), some (.int (g212 27 42))]) (S' := [.ref 27]) (fun _ => rfl) ?_
                    refine m_gR (q := 67) rfl (by decide) ?_
                    refine m_n 1 (pc' := 211) (L' := [some (.ref 27), some (.int x1), some (.int x2), some (.int (m201 - (97 : Int32))), some (.int (g212 27 42))]) (S' := [.ref 27, .ref 67]) (fun _ => rfl) ?_
                    refine m_gI rfl ?_
                    refine m_n 1 (pc' := 215) (L' := [some (.ref 27), some (.int x1), some (.int x2), some (.int (m201 - (97 : Int32))), some (.int (g212 27 42))]) (S' := [.int (m201 - (97 : Int32)), .int (g240 27 50), .ref 67]) (fun _ => rfl) ?_
                    obtain ⟨o241, H⟩ := H
                    refine m_is 16 rfl rfl rfl o241 ?_
                    obtain ⟨g242, eg242⟩ : ∃ m : zG, m = (z_up2 g240 67 (z_ix (g240 27 50)) (m201 - (97 : Int32))) := ⟨_, rfl⟩
                    have H := H g242 eg242
                    refine z_nmG eg242 ?_
                    refine m_n 1 (pc' := 217) (L' := [some (.ref 27), some (.int x1), some (.int x2), some (.int (m201 - (97 : Int32))), some (.int (g212 27 42))]) (S' := [.ref 27]) (fun _ => rfl) ?_
                    refine m_gR (q := 68) rfl (by decide) ?_
                    refine m_n 1 (pc' := 221) (L' := [some (.ref 27), some (.int x1), some (.int x2), some (.int (m201 - (97 : Int32))), some (.int (g212 27 42))]) (S' := [.ref 27, .ref 68]) (fun _ => rfl) ?_
                    refine m_gI rfl ?_
                    refine m_n 1 (pc' := 225) (L' := [some (.ref 27), some (.int x1), some (.int x2), some (.int (m201 - (97 : Int32))), some (.int (g212 27 42))]) (S' := [.int x2, .int (g242 27 50), .ref 68]) (fun _ => rfl) ?_
                    obtain ⟨o243, H⟩ := H
                    refine m_is 16 rfl rfl rfl o243 ?_
                    obtain ⟨g244, eg244⟩ : ∃ m : zG, m = (z_up2 g242 68 (z_ix (g242 27 50)) x2) := ⟨_, rfl⟩
                    have H := H g244 eg244
                    refine z_nmG eg244 ?_
                    refine m_n 1 (pc' := 227) (L' := [some (.ref 27), some (.int x1), some (.int x2), some (.int (m201 - (97 : Int32))), some (.int (g212 27 42))]) (S' := [.ref 27]) (fun _ => rfl) ?_
                    refine m_gR (q := 69) rfl (by decide) ?_
                    refine m_n 1 (pc' := 231) (L' := [some (.ref 27), some (.int x1), some (.int x2), some (.int (m201 - (97 : Int32))), some (.int (g212 27 42))]) (S' := [.ref 27, .ref 69]) (fun _ => rfl) ?_
                    refine m_gI rfl ?_
                    refine m_n 1 (pc' := 236) (L' := [some (.ref 27), some (.int x1), some (.int x2), some (.int (m201 - (97 : Int32))), some (.int (g212 27 42))]) (S' := [.int (g212 27 42), .int (g244 27 50), .ref 69]) (fun _ => rfl) ?_
                    obtain ⟨o245, H⟩ := H
                    refine m_is 16 rfl rfl rfl o245 ?_
                    obtain ⟨g246, eg246⟩ : ∃ m : zG, m = (z_up2 g244 69 (z_ix (g244 27 50)) (g212 27 42)) := ⟨_, rfl⟩
                    have H := H g246 eg246
                    refine z_nmG eg246 ?_
                    refine m_n 2 (pc' := 239) (L' := [some (.ref 27), some (.int x1), some (.int x2), some (.int (m201 - (97 : Int32))), some (.int (g212 27 42))]) (S' := [.ref 27, .ref 27]) (fun _ => rfl) ?_
                    refine m_gI rfl ?_
                    refine m_n 2 (pc' := 244) (L' := [some (.ref 27), some (.int x1), some (.int x2), some (.int (m201 - (97 : Int32))), some (.int (g212 27 42))]) (S' := [.int ((g246 27 50) + (1 : Int32)), .ref 27]) (fun _ => rfl) ?_
                    refine m_pI rfl ?_
                    obtain ⟨g247, eg247⟩ : ∃ m : zG, m = (z_up2 g246 27 50 ((g246 27 50) + (1 : Int32))) := ⟨_, rfl⟩
                    have H := H g247 eg247
                    refine z_nmG eg247 ?_
                    refine m_n 1 (pc' := 248) (L' := [some (.ref 27), some (.int x1), some (.int x2), some (.int (m201 - (97 : Int32))), some (.int (g212 27 42))]) (S' := [.ref 27]) (fun _ => rfl) ?_
                    refine m_cV 187 1 rfl rfl rfl (A := [.ref 27]) rfl rfl (Or.inr ⟨rfl, _, rfl⟩) (rest := []) rfl rfl ?_
                    refine H.mono (fun r248 g249 H => ?_)
                    exact m_r rfl rfl rfl H
                  · have hc := hc
                    rw [if_neg hc] at H
                    exact m_r rfl rfl rfl H
              refine m_b (c := x1 = (1 : Int32)) (pc' := 146) (L' := [some (.ref 27), some (.int x1), some (.int x2), some (.int (m201 - (97 : Int32))), some (.int (0 : Int32))]) (S' := [.ref 27]) (pc2 := 141) (L2 := [some (.ref 27), some (.int x1), some (.int x2), some (.int (m201 - (97 : Int32))), some (.int (0 : Int32))]) (S2 := [.ref 27]) rfl (fun _ => rfl) (fun hc => ?_) (fun hc => ?_)
              · have c207 := hc
                refine m_n 2 (pc' := 151) (L' := [some (.ref 27), some (.int x1), some (.int x2), some (.int (m201 - (97 : Int32))), some (.int (0 : Int32))]) (S' := [.int (0 : Int32), .ref 27]) (fun _ => rfl) ?_
                rw [show z_bt (¬ (x1 = (1 : Int32)) ∧ (¬ (x1 = (4 : Int32)))) = 0 from z_bt_0.mpr ((fun q => q.1 c207))] at hj209
                exact hj209
              · have c207 := hc
                refine m_n 2 (pc' := 143) (L' := [some (.ref 27), some (.int x1), some (.int x2), some (.int (m201 - (97 : Int32))), some (.int (0 : Int32))]) (S' := [.int (4 : Int32), .int x1, .ref 27]) (fun _ => rfl) ?_
                refine m_b (c := x1 = (4 : Int32)) (pc' := 146) (L' := [some (.ref 27), some (.int x1), some (.int x2), some (.int (m201 - (97 : Int32))), some (.int (0 : Int32))]) (S' := [.ref 27]) (pc2 := 150) (L2 := [some (.ref 27), some (.int x1), some (.int x2), some (.int (m201 - (97 : Int32))), some (.int (0 : Int32))]) (S2 := [.ref 27]) rfl (fun _ => rfl) (fun hc => ?_) (fun hc => ?_)
                · have c208 := hc
                  refine m_n 2 (pc' := 151) (L' := [some (.ref 27), some (.int x1), some (.int x2), some (.int (m201 - (97 : Int32))), some (.int (0 : Int32))]) (S' := [.int (0 : Int32), .ref 27]) (fun _ => rfl) ?_
                  rw [show z_bt (¬ (x1 = (1 : Int32)) ∧ (¬ (x1 = (4 : Int32)))) = 0 from z_bt_0.mpr ((fun q => (fun q => q c208) q.2))] at hj209
                  exact hj209
                · have c208 := hc
                  refine m_n 1 (pc' := 151) (L' := [some (.ref 27), some (.int x1), some (.int x2), some (.int (m201 - (97 : Int32))), some (.int (0 : Int32))]) (S' := [.int (1 : Int32), .ref 27]) (fun _ => rfl) ?_
                  rw [show z_bt (¬ (x1 = (1 : Int32)) ∧ (¬ (x1 = (4 : Int32)))) = 1 from z_bt_1.mpr (⟨c207, c208⟩)] at hj209
                  exact hj209
            · have hc := hc
              rw [if_neg hc] at H
              refine m_n 7 (pc' := 128) (L' := [some (.ref 27), some (.int x1), some (.int x2), some (.int (0 : Int32)), some (.int (0 : Int32))]) (S' := [.int x2, .int (0 : Int32), .int x1, .ref 27]) (fun _ => rfl) ?_
              refine m_cV 191 4 rfl rfl rfl (A := [.ref 27, .int x1, .int (0 : Int32), .int x2]) rfl rfl (Or.inr ⟨rfl, _, rfl⟩) (rest := []) rfl rfl ?_
              refine H.mono (fun r250 g251 H => ?_)
              refine m_n 1 (pc' := 132) (L' := [some (.ref 27), some (.int x1), some (.int x2), some (.int (0 : Int32)), some (.int (0 : Int32))]) (S' := [.ref 27]) (fun _ => rfl) ?_
              refine m_cV 187 1 rfl rfl rfl (A := [.ref 27]) rfl rfl (Or.inr ⟨rfl, _, rfl⟩) (rest := []) rfl rfl ?_
              refine H.mono (fun r252 g253 H => ?_)
              refine m_n 3 (pc' := 138) (L' := [some (.ref 27), some (.int x1), some (.int x2), some (.int (0 : Int32)), some (.int (0 : Int32))]) (S' := [.int (1 : Int32), .int x1, .ref 27]) (fun _ => rfl) ?_
              have hj256 : MG z_pV 193 151 [some (.ref 27), some (.int x1), some (.int x2), some (.int (0 : Int32)), some (.int (0 : Int32))] [.int (z_bt (¬ (x1 = (1 : Int32)) ∧ (¬ (x1 = (4 : Int32))))), .ref 27] g253 Q := by
                refine m_n 2 (pc' := 153) (L' := [some (.ref 27), some (.int x1), some (.int x2), some (.int (0 : Int32)), some (.int (0 : Int32))]) (S' := [.int x1, .ref 27, .int (z_bt (¬ (x1 = (1 : Int32)) ∧ (¬ (x1 = (4 : Int32))))), .ref 27]) (fun _ => rfl) ?_
                refine m_cI 192 2 rfl rfl rfl (A := [.ref 27, .int x1]) rfl rfl (Or.inr ⟨rfl, _, rfl⟩) (rest := [.int (z_bt (¬ (x1 = (1 : Int32)) ∧ (¬ (x1 = (4 : Int32))))), .ref 27]) rfl rfl rfl ?_
                obtain ⟨m257, em257⟩ : ∃ m : Int32, m = (if x1 = 0 then (9 : Int32) else (if x1 = (1 : Int32) then (9999 : Int32) else (if x1 = (2 : Int32) then (24 : Int32) else (if x1 = (3 : Int32) then (99 : Int32) else (60 : Int32))))) := ⟨_, rfl⟩
                have H := H m257 em257
                refine X_192 x1 g253 (z_all em257 ?_)
                refine m_cV 189 3 rfl rfl rfl (A := [.ref 27, .int (z_bt (¬ (x1 = (1 : Int32)) ∧ (¬ (x1 = (4 : Int32))))), .int m257]) rfl rfl (Or.inr ⟨rfl, _, rfl⟩) (rest := []) rfl rfl ?_
                refine H.mono (fun r258 g259 H => ?_)
                refine m_n 1 (pc' := 160) (L' := [some (.ref 27), some (.int x1), some (.int x2), some (.int (0 : Int32)), some (.int (0 : Int32))]) (S' := [.ref 27]) (fun _ => rfl) ?_
                refine m_gI rfl ?_
                refine m_n 2 (pc' := 166) (L' := [some (.ref 27), some (.int x1), some (.int x2), some (.int (0 : Int32)), some (.int (g259 27 42))]) (S' := [.ref 27]) (fun _ => rfl) ?_
                refine m_cV 187 1 rfl rfl rfl (A := [.ref 27]) rfl rfl (Or.inr ⟨rfl, _, rfl⟩) (rest := []) rfl rfl ?_
                refine H.mono (fun r260 g261 H => ?_)
                refine m_n 1 (pc' := 170) (L' := [some (.ref 27), some (.int x1), some (.int x2), some (.int (0 : Int32)), some (.int (g259 27 42))]) (S' := [.ref 27]) (fun _ => rfl) ?_
                refine m_gI rfl ?_
                refine m_b (c := (g261 27 37) = 0) (pc' := 176) (L' := [some (.ref 27), some (.int x1), some (.int x2), some (.int (0 : Int32)), some (.int (g259 27 42))]) (S' := []) (pc2 := 189) (L2 := [some (.ref 27), some (.int x1), some (.int x2), some (.int (0 : Int32)), some (.int (g259 27 42))]) (S2 := []) rfl (fun _ => rfl) (fun hc => ?_) (fun hc => ?_)
                · have hc := hc
                  rw [if_pos hc] at H
                  refine m_n 1 (pc' := 177) (L' := [some (.ref 27), some (.int x1), some (.int x2), some (.int (0 : Int32)), some (.int (g259 27 42))]) (S' := [.ref 27]) (fun _ => rfl) ?_
                  refine m_gI rfl ?_
                  refine m_n 1 (pc' := 181) (L' := [some (.ref 27), some (.int x1), some (.int x2), some (.int (0 : Int32)), some (.int (g259 27 42))]) (S' := [.int (3 : Int32), .int (g261 27 41)]) (fun _ => rfl) ?_
                  refine m_b (c := (g261 27 41) = (3 : Int32)) (pc' := 189) (L' := [some (.ref 27), some (.int x1), some (.int x2), some (.int (0 : Int32)), some (.int (g259 27 42))]) (S' := []) (pc2 := 184) (L2 := [some (.ref 27), some (.int x1), some (.int x2), some (.int (0 : Int32)), some (.int (g259 27 42))]) (S2 := []) rfl (fun _ => rfl) (fun hc => ?_) (fun hc => ?_)
                  · have hc := hc
                    rw [if_pos hc] at H
                    refine m_n 1 (pc' := 190) (L' := [some (.ref 27), some (.int x1), some (.int x2), some (.int (0 : Int32)), some (.int (g259 27 42))]) (S' := [.ref 27]) (fun _ => rfl) ?_
                    refine m_gI rfl ?_
                    refine m_b (c := (g261 27 37) = 0) (pc' := 196) (L' := [some (.ref 27), some (.int x1), some (.int x2), some (.int (0 : Int32)), some (.int (g259 27 42))]) (S' := []) (pc2 := 251) (L2 := [some (.ref 27), some (.int x1), some (.int x2), some (.int (0 : Int32)), some (.int (g259 27 42))]) (S2 := []) rfl (fun _ => rfl) (fun hc => ?_) (fun hc => ?_)
                    · have hc := hc
                      rw [if_pos hc] at H
                      refine m_n 1 (pc' := 197) (L' := [some (.ref 27), some (.int x1), some (.int x2), some (.int (0 : Int32)), some (.int (g259 27 42))]) (S' := [.ref 27]) (fun _ => rfl) ?_
                      refine m_gR (q := 66) rfl (by decide) ?_
                      refine m_n 1 (pc' := 201) (L' := [some (.ref 27), some (.int x1), some (.int x2), some (.int (0 : Int32)), some (.int (g259 27 42))]) (S' := [.ref 27, .ref 66]) (fun _ => rfl) ?_
                      refine m_gI rfl ?_
                      refine m_n 1 (pc' := 205) (L' := [some (.ref 27), some (.int x1), some (.int x2), some (.int (0 : Int32)), some (.int (g259 27 42))]) (S' := [.int x1, .int (g261 27 50), .ref 66]) (fun _ => rfl) ?_
                      obtain ⟨o262, H⟩ := H
                      refine m_is 16 rfl rfl rfl o262 ?_
                      obtain ⟨g263, eg263⟩ : ∃ m : zG, m = (z_up2 g261 66 (z_ix (g261 27 50)) x1) := ⟨_, rfl⟩
                      have H := H g263 eg263
                      refine z_nmG eg263 ?_
                      refine m_n 1 (pc' := 207) (L' := [some (.ref 27), some (.int x1), some (.int x2), some (.int (0 : Int32)), some (.int (g259 27 42))]) (S' := [.ref 27]) (fun _ => rfl) ?_
                      refine m_gR (q := 67) rfl (by decide) ?_
                      refine m_n 1 (pc' := 211) (L' := [some (.ref 27), some (.int x1), some (.int x2), some (.int (0 : Int32)), some (.int (g259 27 42))]) (S' := [.ref 27, .ref 67]) (fun _ => rfl) ?_
                      refine m_gI rfl ?_
                      refine m_n 1 (pc' := 215) (L' := [some (.ref 27), some (.int x1), some (.int x2), some (.int (0 : Int32)), some (.int (g259 27 42))]) (S' := [.int (0 : Int32), .int (g263 27 50), .ref 67]) (fun _ => rfl) ?_
                      obtain ⟨o264, H⟩ := H
                      refine m_is 16 rfl rfl rfl o264 ?_
                      obtain ⟨g265, eg265⟩ : ∃ m : zG, m = (z_up2 g263 67 (z_ix (g263 27 50)) (0 : Int32)) := ⟨_, rfl⟩
                      have H := H g265 eg265
                      refine z_nmG eg265 ?_
                      refine m_n 1 (pc' := 217) (L' := [some (.ref 27), some (.int x1), some (.int x2), some (.int (0 : Int32)), some (.int (g259 27 42))]) (S' := [.ref 27]) (fun _ => rfl) ?_
                      refine m_gR (q := 68) rfl (by decide) ?_
                      refine m_n 1 (pc' := 221) (L' := [some (.ref 27), some (.int x1), some (.int x2), some (.int (0 : Int32)), some (.int (g259 27 42))]) (S' := [.ref 27, .ref 68]) (fun _ => rfl) ?_
                      refine m_gI rfl ?_
                      refine m_n 1 (pc' := 225) (L' := [some (.ref 27), some (.int x1), some (.int x2), some (.int (0 : Int32)), some (.int (g259 27 42))]) (S' := [.int x2, .int (g265 27 50), .ref 68]) (fun _ => rfl) ?_
                      obtain ⟨o266, H⟩ := H
                      refine m_is 16 rfl rfl rfl o266 ?_
                      obtain ⟨g267, eg267⟩ : ∃ m : zG, m = (z_up2 g265 68 (z_ix (g265 27 50)) x2) := ⟨_, rfl⟩
                      have H := H g267 eg267
                      refine z_nmG eg267 ?_
                      refine m_n 1 (pc' := 227) (L' := [some (.ref 27), some (.int x1), some (.int x2), some (.int (0 : Int32)), some (.int (g259 27 42))]) (S' := [.ref 27]) (fun _ => rfl) ?_
                      refine m_gR (q := 69) rfl (by decide) ?_
                      refine m_n 1 (pc' := 231) (L' := [some (.ref 27), some (.int x1), some (.int x2), some (.int (0 : Int32)), some (.int (g259 27 42))]) (S' := [.ref 27, .ref 69]) (fun _ => rfl) ?_
                      refine m_gI rfl ?_
                      refine m_n 1 (pc' := 236) (L' := [some (.ref 27), some (.int x1), some (.int x2), some (.int (0 : Int32)), some (.int (g259 27 42))]) (S' := [.int (g259 27 42), .int (g267 27 50), .ref 69]) (fun _ => rfl) ?_
                      obtain ⟨o268, H⟩ := H
                      refine m_is 16 rfl rfl rfl o268 ?_
                      obtain ⟨g269, eg269⟩ : ∃ m : zG, m = (z_up2 g267 69 (z_ix (g267 27 50)) (g259 27 42)) := ⟨_, rfl⟩
                      have H := H g269 eg269
                      refine z_nmG eg269 ?_
                      refine m_n 2 (pc' := 239) (L' := [some (.ref 27), some (.int x1), some (.int x2), some (.int (0 : Int32)), some (.int (g259 27 42))]) (S' := [.ref 27, .ref 27]) (fun _ => rfl) ?_
                      refine m_gI rfl ?_
                      refine m_n 2 (pc' := 244) (L' := [some (.ref 27), some (.int x1), some (.int x2), some (.int (0 : Int32)), some (.int (g259 27 42))]) (S' := [.int ((g269 27 50) + (1 : Int32)), .ref 27]) (fun _ => rfl) ?_
                      refine m_pI rfl ?_
                      obtain ⟨g270, eg270⟩ : ∃ m : zG, m = (z_up2 g269 27 50 ((g269 27 50) + (1 : Int32))) := ⟨_, rfl⟩
                      have H := H g270 eg270
                      refine z_nmG eg270 ?_
                      refine m_n 1 (pc' := 248) (L' := [some (.ref 27), some (.int x1), some (.int x2), some (.int (0 : Int32)), some (.int (g259 27 42))]) (S' := [.ref 27]) (fun _ => rfl) ?_
                      refine m_cV 187 1 rfl rfl rfl (A := [.ref 27]) rfl rfl (Or.inr ⟨rfl, _, rfl⟩) (rest := []) rfl rfl ?_
                      refine H.mono (fun r271 g272 H => ?_)
                      exact m_r rfl rfl rfl H
                    · have hc := hc
                      rw [if_neg hc] at H
                      exact m_r rfl rfl rfl H
                  · have hc := hc
                    rw [if_neg hc] at H
                    refine m_n 2 (pc' := 186) (L' := [some (.ref 27), some (.int x1), some (.int x2), some (.int (0 : Int32)), some (.int (g259 27 42))]) (S' := [.int (2 : Int32), .ref 27]) (fun _ => rfl) ?_
                    refine m_cV 186 2 rfl rfl rfl (A := [.ref 27, .int (2 : Int32)]) rfl rfl (Or.inr ⟨rfl, _, rfl⟩) (rest := []) rfl rfl ?_
                    refine H.mono (fun r273 g274 H => ?_)
                    refine m_n 1 (pc' := 190) (L' := [some (.ref 27), some (.int x1), some (.int x2), some (.int (0 : Int32)), some (.int (g259 27 42))]) (S' := [.ref 27]) (fun _ => rfl) ?_
                    refine m_gI rfl ?_
                    refine m_b (c := (g274 27 37) = 0) (pc' := 196) (L' := [some (.ref 27), some (.int x1), some (.int x2), some (.int (0 : Int32)), some (.int (g259 27 42))]) (S' := []) (pc2 := 251) (L2 := [some (.ref 27), some (.int x1), some (.int x2), some (.int (0 : Int32)), some (.int (g259 27 42))]) (S2 := []) rfl (fun _ => rfl) (fun hc => ?_) (fun hc => ?_)
                    · have hc := hc
                      rw [if_pos hc] at H
                      refine m_n 1 (pc' := 197) (L' := [some (.ref 27), some (.int x1), some (.int x2), some (.int (0 : Int32)), some (.int (g259 27 42))]) (S' := [.ref 27]) (fun _ => rfl) ?_
                      refine m_gR (q := 66) rfl (by decide) ?_
                      refine m_n 1 (pc' := 201) (L' := [some (.ref 27), some (.int x1), some (.int x2), some (.int (0 : Int32)), some (.int (g259 27 42))]) (S' := [.ref 27, .ref 66]) (fun _ => rfl) ?_
                      refine m_gI rfl ?_
                      refine m_n 1 (pc' := 205) (L' := [some (.ref 27), some (.int x1), some (.int x2), some (.int (0 : Int32)), some (.int (g259 27 42))]) (S' := [.int x1, .int (g274 27 50), .ref 66]) (fun _ => rfl) ?_
                      obtain ⟨o275, H⟩ := H
                      refine m_is 16 rfl rfl rfl o275 ?_
                      obtain ⟨g276, eg276⟩ : ∃ m : zG, m = (z_up2 g274 66 (z_ix (g274 27 50)) x1) := ⟨_, rfl⟩
                      have H := H g276 eg276
                      refine z_nmG eg276 ?_
                      refine m_n 1 (pc' := 207) (L' := [some (.ref 27), some (.int x1), some (.int x2), some (.int (0 : Int32)), some (.int (g259 27 42))]) (S' := [.ref 27]) (fun _ => rfl) ?_
                      refine m_gR (q := 67) rfl (by decide) ?_
                      refine m_n 1 (pc' := 211) (L' := [some (.ref 27), some (.int x1), some (.int x2), some (.int (0 : Int32)), some (.int (g259 27 42))]) (S' := [.ref 27, .ref 67]) (fun _ => rfl) ?_
                      refine m_gI rfl ?_
                      refine m_n 1 (pc' := 215) (L' := [some (.ref 27), some (.int x1), some (.int x2), some (.int (0 : Int32)), some (.int (g259 27 42))]) (S' := [.int (0 : Int32), .int (g276 27 50), .ref 67]) (fun _ => rfl) ?_
                      obtain ⟨o277, H⟩ := H
                      refine m_is 16 rfl rfl rfl o277 ?_
                      obtain ⟨g278, eg278⟩ : ∃ m : zG, m = (z_up2 g276 67 (z_ix (g276 27 50)) (0 : Int32)) := ⟨_, rfl⟩
                      have H := H g278 eg278
                      refine z_nmG eg278 ?_
                      refine m_n 1 (pc' := 217) (L' := [some (.ref 27), some (.int x1), some (.int x2), some (.int (0 : Int32)), some (.int (g259 27 42))]) (S' := [.ref 27]) (fun _ => rfl) ?_
                      refine m_gR (q := 68) rfl (by decide) ?_
                      refine m_n 1 (pc' := 221) (L' := [some (.ref 27), some (.int x1), some (.int x2), some (.int (0 : Int32)), some (.int (g259 27 42))]) (S' := [.ref 27, .ref 68]) (fun _ => rfl) ?_
                      refine m_gI rfl ?_
                      refine m_n 1 (pc' := 225) (L' := [some (.ref 27), some (.int x1), some (.int x2), some (.int (0 : Int32)), some (.int (g259 27 42))]) (S' := [.int x2, .int (g278 27 50), .ref 68]) (fun _ => rfl) ?_
                      obtain ⟨o279, H⟩ := H
                      refine m_is 16 rfl rfl rfl o279 ?_
                      obtain ⟨g280, eg280⟩ : ∃ m : zG, m = (z_up2 g278 68 (z_ix (g278 27 50)) x2) := ⟨_, rfl⟩
                      have H := H g280 eg280
                      refine z_nmG eg280 ?_
                      refine m_n 1 (pc' := 227) (L' := [some (.ref 27), some (.int x1), some (.int x2), some (.int (0 : Int32)), some (.int (g259 27 42))]) (S' := [.ref 27]) (fun _ => rfl) ?_
                      refine m_gR (q := 69) rfl (by decide) ?_
                      refine m_n 1 (pc' := 231) (L' := [some (.ref 27), some (.int x1), some (.int x2), some (.int (0 : Int32)), some (.int (g259 27 42))]) (S' := [.ref 27, .ref 69]) (fun _ => rfl) ?_
                      refine m_gI rfl ?_
                      refine m_n 1 (pc' := 236) (L' := [some (.ref 27), some (.int x1), some (.int x2), some (.int (0 : Int32)), some (.int (g259 27 42))]) (S' := [.int (g259 27 42), .int (g280 27 50), .ref 69]) (fun _ => rfl) ?_
                      obtain ⟨o281, H⟩ := H
                      refine m_is 16 rfl rfl rfl o281 ?_
                      obtain ⟨g282, eg282⟩ : ∃ m : zG, m = (z_up2 g280 69 (z_ix (g280 27 50)) (g259 27 42)) := ⟨_, rfl⟩
                      have H := H g282 eg282
                      refine z_nmG eg282 ?_
                      refine m_n 2 (pc' := 239) (L' := [some (.ref 27), some (.int x1), some (.int x2), some (.int (0 : Int32)), some (.int (g259 27 42))]) (S' := [.ref 27, .ref 27]) (fun _ => rfl) ?_
                      refine m_gI rfl ?_
                      refine m_n 2 (pc' := 244) (L' := [some (.ref 27), some (.int x1), some (.int x2), some (.int (0 : Int32)), some (.int (g259 27 42))]) (S' := [.int ((g282 27 50) + (1 : Int32)), .ref 27]) (fun _ => rfl) ?_
                      refine m_pI rfl ?_
                      obtain ⟨g283, eg283⟩ : ∃ m : zG, m = (z_up2 g282 27 50 ((g282 27 50) + (1 : Int32))) := ⟨_, rfl⟩
                      have H := H g283 eg283
                      refine z_nmG eg283 ?_
                      refine m_n 1 (pc' := 248) (L' := [some (.ref 27), some (.int x1), some (.int x2), some (.int (0 : Int32)), some (.int (g259 27 42))]) (S' := [.ref 27]) (fun _ => rfl) ?_
                      refine m_cV 187 1 rfl rfl rfl (A := [.ref 27]) rfl rfl (Or.inr ⟨rfl, _, rfl⟩) (rest := []) rfl rfl ?_
                      refine H.mono (fun r284 g285 H => ?_)
                      exact m_r rfl rfl rfl H
                    · have hc := hc
                      rw [if_neg hc] at H
                      exact m_r rfl rfl rfl H
                · have hc := hc
                  rw [if_neg hc] at H
                  refine m_n 1 (pc' := 190) (L' := [some (.ref 27), some (.int x1), some (.int x2), some (.int (0 : Int32)), some (.int (g259 27 42))]) (S' := [.ref 27]) (fun _ => rfl) ?_
                  refine m_gI rfl ?_
                  refine m_b (c := (g261 27 37) = 0) (pc' := 196) (L' := [some (.ref 27), some (.int x1), some (.int x2), some (.int (0 : Int32)), some (.int (g259 27 42))]) (S' := []) (pc2 := 251) (L2 := [some (.ref 27), some (.int x1), some (.int x2), some (.int (0 : Int32)), some (.int (g259 27 42))]) (S2 := []) rfl (fun _ => rfl) (fun hc => ?_) (fun hc => ?_)
                  · have hc := hc
                    rw [if_pos hc] at H
                    refine m_n 1 (pc' := 197) (L' := [some (.ref 27), some (.int x1), some (.int x2), some (.int (0 : Int32)), some (.int (g259 27 42))]) (S' := [.ref 27]) (fun _ => rfl) ?_
                    refine m_gR (q := 66) rfl (by decide) ?_
                    refine m_n 1 (pc' := 201) (L' := [some (.ref 27), some (.int x1), some (.int x2), some (.int (0 : Int32)), some (.int (g259 27 42))]) (S' := [.ref 27, .ref 66]) (fun _ => rfl) ?_
                    refine m_gI rfl ?_
                    refine m_n 1 (pc' := 205) (L' := [some (.ref 27), some (.int x1), some (.int x2), some (.int (0 : Int32)), some (.int (g259 27 42))]) (S' := [.int x1, .int (g261 27 50), .ref 66]) (fun _ => rfl) ?_
                    obtain ⟨o286, H⟩ := H
                    refine m_is 16 rfl rfl rfl o286 ?_
                    obtain ⟨g287, eg287⟩ : ∃ m : zG, m = (z_up2 g261 66 (z_ix (g261 27 50)) x1) := ⟨_, rfl⟩
                    have H := H g287 eg287
                    refine z_nmG eg287 ?_
                    refine m_n 1 (pc' := 207) (L' := [some (.ref 27), some (.int x1), some (.int x2), some (.int (0 : Int32)), some (.int (g259 27 42))]) (S' := [.ref 27]) (fun _ => rfl) ?_
                    refine m_gR (q := 67) rfl (by decide) ?_
                    refine m_n 1 (pc' := 211) (L' := [some (.ref 27), some (.int x1), some (.int x2), some (.int (0 : Int32)), some (.int (g259 27 42))]) (S' := [.ref 27, .ref 67]) (fun _ => rfl) ?_
                    refine m_gI rfl ?_
                    refine m_n 1 (pc' := 215) (L' := [some (.ref 27), some (.int x1), some (.int x2), some (.int (0 : Int32)), some (.int (g259 27 42))]) (S' := [.int (0 : Int32), .int (g287 27 50), .ref 67]) (fun _ => rfl) ?_
                    obtain ⟨o288, H⟩ := H
                    refine m_is 16 rfl rfl rfl o288 ?_
                    obtain ⟨g289, eg289⟩ : ∃ m : zG, m = (z_up2 g287 67 (z_ix (g287 27 50)) (0 : Int32)) := ⟨_, rfl⟩
                    have H := H g289 eg289
                    refine z_nmG eg289 ?_
                    refine m_n 1 (pc' := 217) (L' := [some (.ref 27), some (.int x1), some (.int x2), some (.int (0 : Int32)), some (.int (g259 27 42))]) (S' := [.ref 27]) (fun _ => rfl) ?_
                    refine m_gR (q := 68) rfl (by decide) ?_
                    refine m_n 1 (pc' := 221) (L' := [some (.ref 27), some (.int x1), some (.int x2), some (.int (0 : Int32)), some (.int (g259 27 42))]) (S' := [.ref 27, .ref 68]) (fun _ => rfl) ?_
                    refine m_gI rfl ?_
                    refine m_n 1 (pc' := 225) (L' := [some (.ref 27), some (.int x1), some (.int x2), some (.int (0 : Int32)), some (.int (g259 27 42))]) (S' := [.int x2, .int (g289 27 50), .ref 68]) (fun _ => rfl) ?_
                    obtain ⟨o290, H⟩ := H
                    refine m_is 16 rfl rfl rfl o290 ?_
                    obtain ⟨g291, eg291⟩ : ∃ m : zG, m = (z_up2 g289 68 (z_ix (g289 27 50)) x2) := ⟨_, rfl⟩
                    have H := H g291 eg291
                    refine z_nmG eg291 ?_
                    refine m_n 1 (pc' := 227) (L' := [some (.ref 27), some (.int x1), some (.int x2), some (.int (0 : Int32)), some (.int (g259 27 42))]) (S' := [.ref 27]) (fun _ => rfl) ?_
                    refine m_gR (q := 69) rfl (by decide) ?_
                    refine m_n 1 (pc' := 231) (L' := [some (.ref 27), some (.int x1), some (.int x2), some (.int (0 : Int32)), some (.int (g259 27 42))]) (S' := [.ref 27, .ref 69]) (fun _ => rfl) ?_
                    refine m_gI rfl ?_
                    refine m_n 1 (pc' := 236) (L' := [some (.ref 27), some (.int x1), some (.int x2), some (.int (0 : Int32)), some (.int (g259 27 42))]) (S' := [.int (g259 27 42), .int (g291 27 50), .ref 69]) (fun _ => rfl) ?_
                    obtain ⟨o292, H⟩ := H
                    refine m_is 16 rfl rfl rfl o292 ?_
                    obtain ⟨g293, eg293⟩ : ∃ m : zG, m = (z_up2 g291 69 (z_ix (g291 27 50)) (g259 27 42)) := ⟨_, rfl⟩
                    have H := H g293 eg293
                    refine z_nmG eg293 ?_
                    refine m_n 2 (pc' := 239) (L' := [some (.ref 27), some (.int x1), some (.int x2), some (.int (0 : Int32)), some (.int (g259 27 42))]) (S' := [.ref 27, .ref 27]) (fun _ => rfl) ?_
                    refine m_gI rfl ?_
                    refine m_n 2 (pc' := 244) (L' := [some (.ref 27), some (.int x1), some (.int x2), some (.int (0 : Int32)), some (.int (g259 27 42))]) (S' := [.int ((g293 27 50) + (1 : Int32)), .ref 27]) (fun _ => rfl) ?_
                    refine m_pI rfl ?_
                    obtain ⟨g294, eg294⟩ : ∃ m : zG, m = (z_up2 g293 27 50 ((g293 27 50) + (1 : Int32))) := ⟨_, rfl⟩
                    have H := H g294 eg294
                    refine z_nmG eg294 ?_
                    refine m_n 1 (pc' := 248) (L' := [some (.ref 27), some (.int x1), some (.int x2), some (.int (0 : Int32)), some (.int (g259 27 42))]) (S' := [.ref 27]) (fun _ => rfl) ?_
                    refine m_cV 187 1 rfl rfl rfl (A := [.ref 27]) rfl rfl (Or.inr ⟨rfl, _, rfl⟩) (rest := []) rfl rfl ?_
                    refine H.mono (fun r295 g296 H => ?_)
                    exact m_r rfl rfl rfl H
                  · have hc := hc
                    rw [if_neg hc] at H
                    exact m_r rfl rfl rfl H
              refine m_b (c := x1 = (1 : Int32)) (pc' := 146) (L' := [some (.ref 27), some (.int x1), some (.int x2), some (.int (0 : Int32)), some (.int (0 : Int32))]) (S' := [.ref 27]) (pc2 := 141) (L2 := [some (.ref 27), some (.int x1), some (.int x2), some (.int (0 : Int32)), some (.int (0 : Int32))]) (S2 := [.ref 27]) rfl (fun _ => rfl) (fun hc => ?_) (fun hc => ?_)
              · have c254 := hc
                refine m_n 2 (pc' := 151) (L' := [some (.ref 27), some (.int x1), some (.int x2), some (.int (0 : Int32)), some (.int (0 : Int32))]) (S' := [.int (0 : Int32), .ref 27]) (fun _ => rfl) ?_
                rw [show z_bt (¬ (x1 = (1 : Int32)) ∧ (¬ (x1 = (4 : Int32)))) = 0 from z_bt_0.mpr ((fun q => q.1 c254))] at hj256
                exact hj256
              · have c254 := hc
                refine m_n 2 (pc' := 143) (L' := [some (.ref 27), some (.int x1), some (.int x2), some (.int (0 : Int32)), some (.int (0 : Int32))]) (S' := [.int (4 : Int32), .int x1, .ref 27]) (fun _ => rfl) ?_
                refine m_b (c := x1 = (4 : Int32)) (pc' := 146) (L' := [some (.ref 27), some (.int x1), some (.int x2), some (.int (0 : Int32)), some (.int (0 : Int32))]) (S' := [.ref 27]) (pc2 := 150) (L2 := [some (.ref 27), some (.int x1), some (.int x2), some (.int (0 : Int32)), some (.int (0 : Int32))]) (S2 := [.ref 27]) rfl (fun _ => rfl) (fun hc => ?_) (fun hc => ?_)
                · have c255 := hc
                  refine m_n 2 (pc' := 151) (L' := [some (.ref 27), some (.int x1), some (.int x2), some (.int (0 : Int32)), some (.int (0 : Int32))]) (S' := [.int (0 : Int32), .ref 27]) (fun _ => rfl) ?_
                  rw [show z_bt (¬ (x1 = (1 : Int32)) ∧ (¬ (x1 = (4 : Int32)))) = 0 from z_bt_0.mpr ((fun q => (fun q => q c255) q.2))] at hj256
                  exact hj256
                · have c255 := hc
                  refine m_n 1 (pc' := 151) (L' := [some (.ref 27), some (.int x1), some (.int x2), some (.int (0 : Int32)), some (.int (0 : Int32))]) (S' := [.int (1 : Int32), .ref 27]) (fun _ => rfl) ?_
                  rw [show z_bt (¬ (x1 = (1 : Int32)) ∧ (¬ (x1 = (4 : Int32)))) = 1 from z_bt_1.mpr (⟨c254, c255⟩)] at hj256
                  exact hj256
        · have hc := hc
          rw [if_neg hc] at H
          refine m_n 2 (pc' := 84) (L' := [some (.ref 27), some (.int x1), some (.int x2), some (.int (0 : Int32)), some (.int (0 : Int32))]) (S' := [.int (2 : Int32), .ref 27]) (fun _ => rfl) ?_
          refine m_cV 186 2 rfl rfl rfl (A := [.ref 27, .int (2 : Int32)]) rfl rfl (Or.inr ⟨rfl, _, rfl⟩) (rest := []) rfl rfl ?_
          refine H.mono (fun r297 g298 H => ?_)
          refine m_n 1 (pc' := 88) (L' := [some (.ref 27), some (.int x1), some (.int x2), some (.int (0 : Int32)), some (.int (0 : Int32))]) (S' := [.ref 27]) (fun _ => rfl) ?_
          refine m_gI rfl ?_
          refine m_b (c := (g298 27 37) = 0) (pc' := 94) (L' := [some (.ref 27), some (.int x1), some (.int x2), some (.int (0 : Int32)), some (.int (0 : Int32))]) (S' := []) (pc2 := 108) (L2 := [some (.ref 27), some (.int x1), some (.int x2), some (.int (0 : Int32)), some (.int (0 : Int32))]) (S2 := []) rfl (fun _ => rfl) (fun hc => ?_) (fun hc => ?_)
          · have hc := hc
            rw [if_pos hc] at H
            refine m_n 2 (pc' := 96) (L' := [some (.ref 27), some (.int x1), some (.int x2), some (.int (0 : Int32)), some (.int (0 : Int32))]) (S' := [.ref 27, .ref 27]) (fun _ => rfl) ?_
            refine m_gI rfl ?_
            refine m_cI 185 2 rfl rfl rfl (A := [.ref 27, .int (g298 27 40)]) rfl rfl (Or.inr ⟨rfl, _, rfl⟩) (rest := []) rfl rfl rfl ?_
            obtain ⟨o300, H⟩ := H
            obtain ⟨m299, em299⟩ : ∃ m : Int32, m = (if (g298 27 35) ≤ (g298 27 40) then (-4 : Int32) else (g298 59 (z_ix (g298 27 40)))) := ⟨_, rfl⟩
            have H := H m299 em299
            refine X_185 (g298 27 40) g298 ⟨o300, (z_all em299 ?_)⟩
            refine m_n 9 (pc' := 128) (L' := [some (.ref 27), some (.int x1), some (.int x2), some (.int (m299 - (97 : Int32))), some (.int (0 : Int32))]) (S' := [.int x2, .int (m299 - (97 : Int32)), .int x1, .ref 27]) (fun _ => rfl) ?_
            refine m_cV 191 4 rfl rfl rfl (A := [.ref 27, .int x1, .int (m299 - (97 : Int32)), .int x2]) rfl rfl (Or.inr ⟨rfl, _, rfl⟩) (rest := []) rfl rfl ?_
            refine H.mono (fun r301 g302 H => ?_)
            refine m_n 1 (pc' := 132) (L' := [some (.ref 27), some (.int x1), some (.int x2), some (.int (m299 - (97 : Int32))), some (.int (0 : Int32))]) (S' := [.ref 27]) (fun _ => rfl) ?_
            refine m_cV 187 1 rfl rfl rfl (A := [.ref 27]) rfl rfl (Or.inr ⟨rfl, _, rfl⟩) (rest := []) rfl rfl ?_
            refine H.mono (fun r303 g304 H => ?_)
            refine m_n 3 (pc' := 138) (L' := [some (.ref 27), some (.int x1), some (.int x2), some (.int (m299 - (97 : Int32))), some (.int (0 : Int32))]) (S' := [.int (1 : Int32), .int x1, .ref 27]) (fun _ => rfl) ?_
            have hj307 : MG z_pV 193 151 [some (.ref 27), some (.int x1), some (.int x2), some (.int (m299 - (97 : Int32))), some (.int (0 : Int32))] [.int (z_bt (¬ (x1 = (1 : Int32)) ∧ (¬ (x1 = (4 : Int32))))), .ref 27] g304 Q := by
              refine m_n 2 (pc' := 153) (L' := [some (.ref 27), some (.int x1), some (.int x2), some (.int (m299 - (97 : Int32))), some (.int (0 : Int32))]) (S' := [.int x1, .ref 27, .int (z_bt (¬ (x1 = (1 : Int32)) ∧ (¬ (x1 = (4 : Int32))))), .ref 27]) (fun _ => rfl) ?_
              refine m_cI 192 2 rfl rfl rfl (A := [.ref 27, .int x1]) rfl rfl (Or.inr ⟨rfl, _, rfl⟩) (rest := [.int (z_bt (¬ (x1 = (1 : Int32)) ∧ (¬ (x1 = (4 : Int32))))), .ref 27]) rfl rfl rfl ?_
              obtain ⟨m308, em308⟩ : ∃ m : Int32, m = (if x1 = 0 then (9 : Int32) else (if x1 = (1 : Int32) then (9999 : Int32) else (if x1 = (2 : Int32) then (24 : Int32) else (if x1 = (3 : Int32) then (99 : Int32) else (60 : Int32))))) := ⟨_, rfl⟩
              have H := H m308 em308
              refine X_192 x1 g304 (z_all em308 ?_)
              refine m_cV 189 3 rfl rfl rfl (A := [.ref 27, .int (z_bt (¬ (x1 = (1 : Int32)) ∧ (¬ (x1 = (4 : Int32))))), .int m308]) rfl rfl (Or.inr ⟨rfl, _, rfl⟩) (rest := []) rfl rfl ?_
              refine H.mono (fun r309 g310 H => ?_)
              refine m_n 1 (pc' := 160) (L' := [some (.ref 27), some (.int x1), some (.int x2), some (.int (m299 - (97 : Int32))), some (.int (0 : Int32))]) (S' := [.ref 27]) (fun _ => rfl) ?_
              refine m_gI rfl ?_
              refine m_n 2 (pc' := 166) (L' := [some (.ref 27), some (.int x1), some (.int x2), some (.int (m299 - (97 : Int32))), some (.int (g310 27 42))]) (S' := [.ref 27]) (fun _ => rfl) ?_
              refine m_cV 187 1 rfl rfl rfl (A := [.ref 27]) rfl rfl (Or.inr ⟨rfl, _, rfl⟩) (rest := []) rfl rfl ?_
              refine H.mono (fun r311 g312 H => ?_)
              refine m_n 1 (pc' := 170) (L' := [some (.ref 27), some (.int x1), some (.int x2), some (.int (m299 - (97 : Int32))), some (.int (g310 27 42))]) (S' := [.ref 27]) (fun _ => rfl) ?_
              refine m_gI rfl ?_
              refine m_b (c := (g312 27 37) = 0) (pc' := 176) (L' := [some (.ref 27), some (.int x1), some (.int x2), some (.int (m299 - (97 : Int32))), some (.int (g310 27 42))]) (S' := []) (pc2 := 189) (L2 := [some (.ref 27), some (.int x1), some (.int x2), some (.int (m299 - (97 : Int32))), some (.int (g310 27 42))]) (S2 := []) rfl (fun _ => rfl) (fun hc => ?_) (fun hc => ?_)
              · have hc := hc
                rw [if_pos hc] at H
                refine m_n 1 (pc' := 177) (L' := [some (.ref 27), some (.int x1), some (.int x2), some (.int (m299 - (97 : Int32))), some (.int (g310 27 42))]) (S' := [.ref 27]) (fun _ => rfl) ?_
                refine m_gI rfl ?_
                refine m_n 1 (pc' := 181) (L' := [some (.ref 27), some (.int x1), some (.int x2), some (.int (m299 - (97 : Int32))), some (.int (g310 27 42))]) (S' := [.int (3 : Int32), .int (g312 27 41)]) (fun _ => rfl) ?_
                refine m_b (c := (g312 27 41) = (3 : Int32)) (pc' := 189) (L' := [some (.ref 27), some (.int x1), some (.int x2), some (.int (m299 - (97 : Int32))), some (.int (g310 27 42))]) (S' := []) (pc2 := 184) (L2 := [some (.ref 27), some (.int x1), some (.int x2), some (.int (m299 - (97 : Int32))), some (.int (g310 27 42))]) (S2 := []) rfl (fun _ => rfl) (fun hc => ?_) (fun hc => ?_)
                · have hc := hc
                  rw [if_pos hc] at H
                  refine m_n 1 (pc' := 190) (L' := [some (.ref 27), some (.int x1), some (.int x2), some (.int (m299 - (97 : Int32))), some (.int (g310 27 42))]) (S' := [.ref 27]) (fun _ => rfl) ?_
                  refine m_gI rfl ?_
                  refine m_b (c := (g312 27 37) = 0) (pc' := 196) (L' := [some (.ref 27), some (.int x1), some (.int x2), some (.int (m299 - (97 : Int32))), some (.int (g310 27 42))]) (S' := []) (pc2 := 251) (L2 := [some (.ref 27), some (.int x1), some (.int x2), some (.int (m299 - (97 : Int32))), some (.int (g310 27 42))]) (S2 := []) rfl (fun _ => rfl) (fun hc => ?_) (fun hc => ?_)
                  · have hc := hc
                    rw [if_pos hc] at H
                    refine m_n 1 (pc' := 197) (L' := [some (.ref 27), some (.int x1), some (.int x2), some (.int (m299 - (97 : Int32))), some (.int (g310 27 42))]) (S' := [.ref 27]) (fun _ => rfl) ?_
                    refine m_gR (q := 66) rfl (by decide) ?_
                    refine m_n 1 (pc' := 201) (L' := [some (.ref 27), some (.int x1), some (.int x2), some (.int (m299 - (97 : Int32))), some (.int (g310 27 42))]) (S' := [.ref 27, .ref 66]) (fun _ => rfl) ?_
                    refine m_gI rfl ?_
                    refine m_n 1 (pc' := 205) (L' := [some (.ref 27), some (.int x1), some (.int x2), some (.int (m299 - (97 : Int32))), some (.int (g310 27 42))]) (S' := [.int x1, .int (g312 27 50), .ref 66]) (fun _ => rfl) ?_
                    obtain ⟨o313, H⟩ := H
                    refine m_is 16 rfl rfl rfl o313 ?_
                    obtain ⟨g314, eg314⟩ : ∃ m : zG, m = (z_up2 g312 66 (z_ix (g312 27 50)) x1) := ⟨_, rfl⟩
                    have H := H g314 eg314
                    refine z_nmG eg314 ?_
                    refine m_n 1 (pc' := 207) (L' := [some (.ref 27), some (.int x1), some (.int x2), some (.int (m299 - (97 : Int32))), some (.int (g310 27 42))]) (S' := [.ref 27]) (fun _ => rfl) ?_
                    refine m_gR (q := 67) rfl (by decide) ?_
                    refine m_n 1 (pc' := 211) (L' := [some (.ref 27), some (.int x1), some (.int x2), some (.int (m299 - (97 : Int32))), some (.int (g310 27 42))]) (S' := [.ref 27, .ref 67]) (fun _ => rfl) ?_
                    refine m_gI rfl ?_
                    refine m_n 1 (pc' := 215) (L' := [some (.ref 27), some (.int x1), some (.int x2), some (.int (m299 - (97 : Int32))), some (.int (g310 27 42))]) (S' := [.int (m299 - (97 : Int32)), .int (g314 27 50), .ref 67]) (fun _ => rfl) ?_
                    obtain ⟨o315, H⟩ := H
                    refine m_is 16 rfl rfl rfl o315 ?_
                    obtain ⟨g316, eg316⟩ : ∃ m : zG, m = (z_up2 g314 67 (z_ix (g314 27 50)) (m299 - (97 : Int32))) := ⟨_, rfl⟩
                    have H := H g316 eg316
                    refine z_nmG eg316 ?_
                    refine m_n 1 (pc' := 217) (L' := [some (.ref 27), some (.int x1), some (.int x2), some (.int (m299 - (97 : Int32))), some (.int (g310 27 42))]) (S' := [.ref 27]) (fun _ => rfl) ?_
                    refine m_gR (q := 68) rfl (by decide) ?_
                    refine m_n 1 (pc' := 221) (L' := [some (.ref 27), some (.int x1), some (.int x2), some (.int (m299 - (97 : Int32))), some (.int (g310 27 42))]) (S' := [.ref 27, .ref 68]) (fun _ => rfl) ?_
                    refine m_gI rfl ?_
                    refine m_n 1 (pc' := 225) (L' := [some (.ref 27), some (.int x1), some (.int x2), some (.int (m299 - (97 : Int32))), some (.int (g310 27 42))]) (S' := [.int x2, .int (g316 27 50), .ref 68]) (fun _ => rfl) ?_
                    obtain ⟨o317, H⟩ := H
                    refine m_is 16 rfl rfl rfl o317 ?_
                    obtain ⟨g318, eg318⟩ : ∃ m : zG, m = (z_up2 g316 68 (z_ix (g316 27 50)) x2) := ⟨_, rfl⟩
                    have H := H g318 eg318
                    refine z_nmG eg318 ?_
                    refine m_n 1 (pc' := 227) (L' := [some (.ref 27), some (.int x1), some (.int x2), some (.int (m299 - (97 : Int32))), some (.int (g310 27 42))]) (S' := [.ref 27]) (fun _ => rfl) ?_
                    refine m_gR (q := 69) rfl (by decide) ?_
                    refine m_n 1 (pc' := 231) (L' := [some (.ref 27), some (.int x1), some (.int x2), some (.int (m299 - (97 : Int32))), some (.int (g310 27 42))]) (S' := [.ref 27, .ref 69]) (fun _ => rfl) ?_
                    refine m_gI rfl ?_
                    refine m_n 1 (pc' := 236) (L' := [some (.ref 27), some (.int x1), some (.int x2), some (.int (m299 - (97 : Int32))), some (.int (g310 27 42))]) (S' := [.int (g310 27 42), .int (g318 27 50), .ref 69]) (fun _ => rfl) ?_
                    obtain ⟨o319, H⟩ := H
                    refine m_is 16 rfl rfl rfl o319 ?_
                    obtain ⟨g320, eg320⟩ : ∃ m : zG, m = (z_up2 g318 69 (z_ix (g318 27 50)) (g310 27 42)) := ⟨_, rfl⟩
                    have H := H g320 eg320
                    refine z_nmG eg320 ?_
                    refine m_n 2 (pc' := 239) (L' := [some (.ref 27), some (.int x1), some (.int x2), some (.int (m299 - (97 : Int32))), some (.int (g310 27 42))]) (S' := [.ref 27, .ref 27]) (fun _ => rfl) ?_
                    refine m_gI rfl ?_
                    refine m_n 2 (pc' := 244) (L' := [some (.ref 27), some (.int x1), some (.int x2), some (.int (m299 - (97 : Int32))), some (.int (g310 27 42))]) (S' := [.int ((g320 27 50) + (1 : Int32)), .ref 27]) (fun _ => rfl) ?_
                    refine m_pI rfl ?_
                    obtain ⟨g321, eg321⟩ : ∃ m : zG, m = (z_up2 g320 27 50 ((g320 27 50) + (1 : Int32))) := ⟨_, rfl⟩
                    have H := H g321 eg321
                    refine z_nmG eg321 ?_
                    refine m_n 1 (pc' := 248) (L' := [some (.ref 27), some (.int x1), some (.int x2), some (.int (m299 - (97 : Int32))), some (.int (g310 27 42))]) (S' := [.ref 27]) (fun _ => rfl) ?_
                    refine m_cV 187 1 rfl rfl rfl (A := [.ref 27]) rfl rfl (Or.inr ⟨rfl, _, rfl⟩) (rest := []) rfl rfl ?_
                    refine H.mono (fun r322 g323 H => ?_)
                    exact m_r rfl rfl rfl H
                  · have hc := hc
                    rw [if_neg hc] at H
                    exact m_r rfl rfl rfl H
                · have hc := hc
                  rw [if_neg hc] at H
                  refine m_n 2 (pc' := 186) (L' := [some (.ref 27), some (.int x1), some (.int x2), some (.int (m299 - (97 : Int32))), some (.int (g310 27 42))]) (S' := [.int (2 : Int32), .ref 27]) (fun _ => rfl) ?_
                  refine m_cV 186 2 rfl rfl rfl (A := [.ref 27, .int (2 : Int32)]) rfl rfl (Or.inr ⟨rfl, _, rfl⟩) (rest := []) rfl rfl ?_
                  refine H.mono (fun r324 g325 H => ?_)
                  refine m_n 1 (pc' := 190) (L' := [some (.ref 27), some (.int x1), some (.int x2), some (.int (m299 - (97 : Int32))), some (.int (g310 27 42))]) (S' := [.ref 27]) (fun _ => rfl) ?_
                  refine m_gI rfl ?_
                  refine m_b (c := (g325 27 37) = 0) (pc' := 196) (L' := [some (.ref 27), some (.int x1), some (.int x2), some (.int (m299 - (97 : Int32))), some (.int (g310 27 42))]) (S' := []) (pc2 := 251) (L2 := [some (.ref 27), some (.int x1), some (.int x2), some (.int (m299 - (97 : Int32))), some (.int (g310 27 42))]) (S2 := []) rfl (fun _ => rfl) (fun hc => ?_) (fun hc => ?_)
                  · have hc := hc
                    rw [if_pos hc] at H
                    refine m_n 1 (pc' := 197) (L' := [some (.ref 27), some (.int x1), some (.int x2), some (.int (m299 - (97 : Int32))), some (.int (g310 27 42))]) (S' := [.ref 27]) (fun _ => rfl) ?_
                    refine m_gR (q := 66) rfl (by decide) ?_
                    refine m_n 1 (pc' := 201) (L' := [some (.ref 27), some (.int x1), some (.int x2), some (.int (m299 - (97 : Int32))), some (.int (g310 27 42))]) (S' := [.ref 27, .ref 66]) (fun _ => rfl) ?_
                    refine m_gI rfl ?_
                    refine m_n 1 (pc' := 205) (L' := [some (.ref 27), some (.int x1), some (.int x2), some (.int (m299 - (97 : Int32))), some (.int (g310 27 42))]) (S' := [.int x1, .int (g325 27 50), .ref 66]) (fun _ => rfl) ?_
                    obtain ⟨o326, H⟩ := H
                    refine m_is 16 rfl rfl rfl o326 ?_
                    obtain ⟨g327, eg327⟩ : ∃ m : zG, m = (z_up2 g325 66 (z_ix (g325 27 50)) x1) := ⟨_, rfl⟩
                    have H := H g327 eg327
                    refine z_nmG eg327 ?_
                    refine m_n 1 (pc' := 207) (L' := [some (.ref 27), some (.int x1), some (.int x2), some (.int (m299 - (97 : Int32))), some (.int (g310 27 42))]) (S' := [.ref 27]) (fun _ => rfl) ?_
                    refine m_gR (q := 67) rfl (by decide) ?_
                    refine m_n 1 (pc' := 211) (L' := [some (.ref 27), some (.int x1), some (.int x2), some (.int (m299 - (97 : Int32))), some (.int (g310 27 42))]) (S' := [.ref 27, .ref 67]) (fun _ => rfl) ?_
                    refine m_gI rfl ?_
                    refine m_n 1 (pc' := 215) (L' := [some (.ref 27), some (.int x1), some (.int x2), some (.int (m299 - (97 : Int32))), some (.int (g310 27 42))]) (S' := [.int (m299 - (97 : Int32)), .int (g327 27 50), .ref 67]) (fun _ => rfl) ?_
                    obtain ⟨o328, H⟩ := H
                    refine m_is 16 rfl rfl rfl o328 ?_
                    obtain ⟨g329, eg329⟩ : ∃ m : zG, m = (z_up2 g327 67 (z_ix (g327 27 50)) (m299 - (97 : Int32))) := ⟨_, rfl⟩
                    have H := H g329 eg329
                    refine z_nmG eg329 ?_
                    refine m_n 1 (pc' := 217) (L' := [some (.ref 27), some (.int x1), some (.int x2), some (.int (m299 - (97 : Int32))), some (.int (g310 27 42))]) (S' := [.ref 27]) (fun _ => rfl) ?_
                    refine m_gR (q := 68) rfl (by decide) ?_
                    refine m_n 1 (pc' := 221) (L' := [some (.ref 27), some (.int x1), some (.int x2), some (.int (m299 - (97 : Int32))), some (.int (g310 27 42))]) (S' := [.ref 27, .ref 68]) (fun _ => rfl) ?_
                    refine m_gI rfl ?_
                    refine m_n 1 (pc' := 225) (L' := [some (.ref 27), some (.int x1), some (.int x2), some (.int (m299 - (97 : Int32))), some (.int (g310 27 42))]) (S' := [.int x2, .int (g329 27 50), .ref 68]) (fun _ => rfl) ?_
                    obtain ⟨o330, H⟩ := H
                    refine m_is 16 rfl rfl rfl o330 ?_
                    obtain ⟨g331, eg331⟩ : ∃ m : zG, m = (z_up2 g329 68 (z_ix (g329 27 50)) x2) := ⟨_, rfl⟩
                    have H := H g331 eg331
                    refine z_nmG eg331 ?_
                    refine m_n 1 (pc' := 227) (L' := [some (.ref 27), some (.int x1), some (.int x2), some (.int (m299 - (97 : Int32))), some (.int (g310 27 42))]) (S' := [.ref 27]) (fun _ => rfl) ?_
                    refine m_gR (q := 69) rfl (by decide) ?_
                    refine m_n 1 (pc' := 231) (L' := [some (.ref 27), some (.int x1), some (.int x2), some (.int (m299 - (97 : Int32))), some (.int (g310 27 42))]) (S' := [.ref 27, .ref 69]) (fun _ => rfl) ?_
                    refine m_gI rfl ?_
                    refine m_n 1 (pc' := 236) (L' := [some (.ref 27), some (.int x1), some (.int x2), some (.int (m299 - (97 : Int32))), some (.int (g310 27 42))]) (S' := [.int (g310 27 42), .int (g331 27 50), .ref 69]) (fun _ => rfl) ?_
                    obtain ⟨o332, H⟩ := H
                    refine m_is 16 rfl rfl rfl o332 ?_
                    obtain ⟨g333, eg333⟩ : ∃ m : zG, m = (z_up2 g331 69 (z_ix (g331 27 50)) (g310 27 42)) := ⟨_, rfl⟩
                    have H := H g333 eg333
                    refine z_nmG eg333 ?_
                    refine m_n 2 (pc' := 239) (L' := [some (.ref 27), some (.int x1), some (.int x2), some (.int (m299 - (97 : Int32))), some (.int (g310 27 42))]) (S' := [.ref 27, .ref 27]) (fun _ => rfl) ?_
                    refine m_gI rfl ?_
                    refine m_n 2 (pc' := 244) (L' := [some (.ref 27), some (.int x1), some (.int x2), some (.int (m299 - (97 : Int32))), some (.int (g310 27 42))]) (S' := [.int ((g333 27 50) + (1 : Int32)), .ref 27]) (fun _ => rfl) ?_
                    refine m_pI rfl ?_
                    obtain ⟨g334, eg334⟩ : ∃ m : zG, m = (z_up2 g333 27 50 ((g333 27 50) + (1 : Int32))) := ⟨_, rfl⟩
                    have H := H g334 eg334
                    refine z_nmG eg334 ?_
                    refine m_n 1 (pc' := 248) (L' := [some (.ref 27), some (.int x1), some (.int x2), some (.int (m299 - (97 : Int32))), some (.int (g310 27 42))]) (S' := [.ref 27]) (fun _ => rfl) ?_
                    refine m_cV 187 1 rfl rfl rfl (A := [.ref 27]) rfl rfl (Or.inr ⟨rfl, _, rfl⟩) (rest := []) rfl rfl ?_
                    refine H.mono (fun r335 g336 H => ?_)
                    exact m_r rfl rfl rfl H
                  · have hc := hc
                    rw [if_neg hc] at H
                    exact m_r rfl rfl rfl H
              · have hc := hc
                rw [if_neg hc] at H
                refine m_n 1 (pc' := 190) (L' := [some (.ref 27), some (.int x1), some (.int x2), some (.int (m299 - (97 : Int32))), some (.int (g310 27 42))]) (S' := [.ref 27]) (fun _ => rfl) ?_
                refine m_gI rfl ?_
                refine m_b (c := (g312 27 37) = 0) (pc' := 196) (L' := [some (.ref 27), some (.int x1), some (.int x2), some (.int (m299 - (97 : Int32))), some (.int (g310 27 42))]) (S' := []) (pc2 := 251) (L2 := [some (.ref 27), some (.int x1), some (.int x2), some (.int (m299 - (97 : Int32))), some (.int (g310 27 42))]) (S2 := []) rfl (fun _ => rfl) (fun hc => ?_) (fun hc => ?_)
                · have hc := hc
                  rw [if_pos hc] at H
                  refine m_n 1 (pc' := 197) (L' := [some (.ref 27), some (.int x1), some (.int x2), some (.int (m299 - (97 : Int32))), some (.int (g310 27 42))]) (S' := [.ref 27]) (fun _ => rfl) ?_
                  refine m_gR (q := 66) rfl (by decide) ?_
                  refine m_n 1 (pc' := 201) (L' := [some (.ref 27), some (.int x1), some (.int x2), some (.int (m299 - (97 : Int32))), some (.int (g310 27 42))]) (S' := [.ref 27, .ref 66]) (fun _ => rfl) ?_
                  refine m_gI rfl ?_
                  refine m_n 1 (pc' := 205) (L' := [some (.ref 27), some (.int x1), some (.int x2), some (.int (m299 - (97 : Int32))), some (.int (g310 27 42))]) (S' := [.int x1, .int (g312 27 50), .ref 66]) (fun _ => rfl) ?_
                  obtain ⟨o337, H⟩ := H
                  refine m_is 16 rfl rfl rfl o337 ?_
                  obtain ⟨g338, eg338⟩ : ∃ m : zG, m = (z_up2 g312 66 (z_ix (g312 27 50)) x1) := ⟨_, rfl⟩
                  have H := H g338 eg338
                  refine z_nmG eg338 ?_
                  refine m_n 1 (pc' := 207) (L' := [some (.ref 27), some (.int x1), some (.int x2), some (.int (m299 - (97 : Int32))), some (.int (g310 27 42))]) (S' := [.ref 27]) (fun _ => rfl) ?_
                  refine m_gR (q := 67) rfl (by decide) ?_
                  refine m_n 1 (pc' := 211) (L' := [some (.ref 27), some (.int x1), some (.int x2), some (.int (m299 - (97 : Int32))), some (.int (g310 27 42))]) (S' := [.ref 27, .ref 67]) (fun _ => rfl) ?_
                  refine m_gI rfl ?_
                  refine m_n 1 (pc' := 215) (L' := [some (.ref 27), some (.int x1), some (.int x2), some (.int (m299 - (97 : Int32))), some (.int (g310 27 42))]) (S' := [.int (m299 - (97 : Int32)), .int (g338 27 50), .ref 67]) (fun _ => rfl) ?_
                  obtain ⟨o339, H⟩ := H
                  refine m_is 16 rfl rfl rfl o339 ?_
                  obtain ⟨g340, eg340⟩ : ∃ m : zG, m = (z_up2 g338 67 (z_ix (g338 27 50)) (m299 - (97 : Int32))) := ⟨_, rfl⟩
                  have H := H g340 eg340
                  refine z_nmG eg340 ?_
                  refine m_n 1 (pc' := 217) (L' := [some (.ref 27), some (.int x1), some (.int x2), some (.int (m299 - (97 : Int32))), some (.int (g310 27 42))]) (S' := [.ref 27]) (fun _ => rfl) ?_
                  refine m_gR (q := 68) rfl (by decide) ?_
                  refine m_n 1 (pc' := 221) (L' := [some (.ref 27), some (.int x1), some (.int x2), some (.int (m299 - (97 : Int32))), some (.int (g310 27 42))]) (S' := [.ref 27, .ref 68]) (fun _ => rfl) ?_
                  refine m_gI rfl ?_
                  refine m_n 1 (pc' := 225) (L' := [some (.ref 27), some (.int x1), some (.int x2), some (.int (m299 - (97 : Int32))), some (.int (g310 27 42))]) (S' := [.int x2, .int (g340 27 50), .ref 68]) (fun _ => rfl) ?_
                  obtain ⟨o341, H⟩ := H
                  refine m_is 16 rfl rfl rfl o341 ?_
                  obtain ⟨g342, eg342⟩ : ∃ m : zG, m = (z_up2 g340 68 (z_ix (g340 27 50)) x2) := ⟨_, rfl⟩
                  have H := H g342 eg342
                  refine z_nmG eg342 ?_
                  refine m_n 1 (pc' := 227) (L' := [some (.ref 27), some (.int x1), some (.int x2), some (.int (m299 - (97 : Int32))), some (.int (g310 27 42))]) (S' := [.ref 27]) (fun _ => rfl) ?_
                  refine m_gR (q := 69) rfl (by decide) ?_
                  refine m_n 1 (pc' := 231) (L' := [some (.ref 27), some (.int x1), some (.int x2), some (.int (m299 - (97 : Int32))), some (.int (g310 27 42))]) (S' := [.ref 27, .ref 69]) (fun _ => rfl) ?_
                  refine m_gI rfl ?_
                  refine m_n 1 (pc' := 236) (L' := [some (.ref 27), some (.int x1), some (.int x2), some (.int (m299 - (97 : Int32))), some (.int (g310 27 42))]) (S' := [.int (g310 27 42), .int (g342 27 50), .ref 69]) (fun _ => rfl) ?_
                  obtain ⟨o343, H⟩ := H
                  refine m_is 16 rfl rfl rfl o343 ?_
                  obtain ⟨g344, eg344⟩ : ∃ m : zG, m = (z_up2 g342 69 (z_ix (g342 27 50)) (g310 27 42)) := ⟨_, rfl⟩
                  have H := H g344 eg344
                  refine z_nmG eg344 ?_
                  refine m_n 2 (pc' := 239) (L' := [some (.ref 27), some (.int x1), some (.int x2), some (.int (m299 - (97 : Int32))), some (.int (g310 27 42))]) (S' := [.ref 27, .ref 27]) (fun _ => rfl) ?_
                  refine m_gI rfl ?_
                  refine m_n 2 (pc' := 244) (L' := [some (.ref 27), some (.int x1), some (.int x2), some (.int (m299 - (97 : Int32))), some (.int (g310 27 42))]) (S' := [.int ((g344 27 50) + (1 : Int32)), .ref 27]) (fun _ => rfl) ?_
                  refine m_pI rfl ?_
                  obtain ⟨g345, eg345⟩ : ∃ m : zG, m = (z_up2 g344 27 50 ((g344 27 50) + (1 : Int32))) := ⟨_, rfl⟩
                  have H := H g345 eg345
                  refine z_nmG eg345 ?_
                  refine m_n 1 (pc' := 248) (L' := [some (.ref 27), some (.int x1), some (.int x2), some (.int (m299 - (97 : Int32))), some (.int (g310 27 42))]) (S' := [.ref 27]) (fun _ => rfl) ?_
                  refine m_cV 187 1 rfl rfl rfl (A := [.ref 27]) rfl rfl (Or.inr ⟨rfl, _, rfl⟩) (rest := []) rfl rfl ?_
                  refine H.mono (fun r346 g347 H => ?_)
                  exact m_r rfl rfl rfl H
                · have hc := hc
                  rw [if_neg hc] at H
                  exact m_r rfl rfl rfl H
            refine m_b (c := x1 = (1 : Int32)) (pc' := 146) (L' := [some (.ref 27), some (.int x1), some (.int x2), some (.int (m299 - (97 : Int32))), some (.int (0 : Int32))]) (S' := [.ref 27]) (pc2 := 141) (L2 := [some (.ref 27), some (.int x1), some (.int x2), some (.int (m299 - (97 : Int32))), some (.int (0 : Int32))]) (S2 := [.ref 27]) rfl (fun _ => rfl) (fun hc => ?_) (fun hc => ?_)
            · have c305 := hc
              refine m_n 2 (pc' := 151) (L' := [some (.ref 27), some (.int x1), some (.int x2), some (.int (m299 - (97 : Int32))), some (.int (0 : Int32))]) (S' := [.int (0 : Int32), .ref 27]) (fun _ => rfl) ?_
              rw [show z_bt (¬ (x1 = (1 : Int32)) ∧ (¬ (x1 = (4 : Int32)))) = 0 from z_bt_0.mpr ((fun q => q.1 c305))] at hj307
              exact hj307
            · have c305 := hc
              refine m_n 2 (pc' := 143) (L' := [some (.ref 27), some (.int x1), some (.int x2), some (.int (m299 - (97 : Int32))), some (.int (0 : Int32))]) (S' := [.int (4 : Int32), .int x1, .ref 27]) (fun _ => rfl) ?_
              refine m_b (c := x1 = (4 : Int32)) (pc' := 146) (L' := [some (.ref 27), some (.int x1), some (.int x2), some (.int (m299 - (97 : Int32))), some (.int (0 : Int32))]) (S' := [.ref 27]) (pc2 := 150) (L2 := [some (.ref 27), some (.int x1), some (.int x2), some (.int (m299 - (97 : Int32))), some (.int (0 : Int32))]) (S2 := [.ref 27]) rfl (fun _ => rfl) (fun hc => ?_) (fun hc => ?_)
              · have c306 := hc
                refine m_n 2 (pc' := 151) (L' := [some (.ref 27), some (.int x1), some (.int x2), some (.int (m299 - (97 : Int32))), some (.int (0 : Int32))]) (S' := [.int (0 : Int32), .ref 27]) (fun _ => rfl) ?_
                rw [show z_bt (¬ (x1 = (1 : Int32)) ∧ (¬ (x1 = (4 : Int32)))) = 0 from z_bt_0.mpr ((fun q => (fun q => q c306) q.2))] at hj307
                exact hj307
              · have c306 := hc
                refine m_n 1 (pc' := 151) (L' := [some (.ref 27), some (.int x1), some (.int x2), some (.int (m299 - (97 : Int32))), some (.int (0 : Int32))]) (S' := [.int (1 : Int32), .ref 27]) (fun _ => rfl) ?_
                rw [show z_bt (¬ (x1 = (1 : Int32)) ∧ (¬ (x1 = (4 : Int32)))) = 1 from z_bt_1.mpr (⟨c305, c306⟩)] at hj307
                exact hj307
          · have hc := hc
            rw [if_neg hc] at H
            refine m_n 7 (pc' := 128) (L' := [some (.ref 27), some (.int x1), some (.int x2), some (.int (0 : Int32)), some (.int (0 : Int32))]) (S' := [.int x2, .int (0 : Int32), .int x1, .ref 27]) (fun _ => rfl) ?_
            refine m_cV 191 4 rfl rfl rfl (A := [.ref 27, .int x1, .int (0 : Int32), .int x2]) rfl rfl (Or.inr ⟨rfl, _, rfl⟩) (rest := []) rfl rfl ?_
            refine H.mono (fun r348 g349 H => ?_)
            refine m_n 1 (pc' := 132) (L' := [some (.ref 27), some (.int x1), some (.int x2), some (.int (0 : Int32)), some (.int (0 : Int32))]) (S' := [.ref 27]) (fun _ => rfl) ?_
            refine m_cV 187 1 rfl rfl rfl (A := [.ref 27]) rfl rfl (Or.inr ⟨rfl, _, rfl⟩) (rest := []) rfl rfl ?_
            refine H.mono (fun r350 g351 H => ?_)
            refine m_n 3 (pc' := 138) (L' := [some (.ref 27), some (.int x1), some (.int x2), some (.int (0 : Int32)), some (.int (0 : Int32))]) (S' := [.int (1 : Int32), .int x1, .ref 27]) (fun _ => rfl) ?_
            have hj354 : MG z_pV 193 151 [some (.ref 27), some (.int x1), some (.int x2), some (.int (0 : Int32)), some (.int (0 : Int32))] [.int (z_bt (¬ (x1 = (1 : Int32)) ∧ (¬ (x1 = (4 : Int32))))), .ref 27] g351 Q := by
              refine m_n 2 (pc' := 153) (L' := [some (.ref 27), some (.int x1), some (.int x2), some (.int (0 : Int32)), some (.int (0 : Int32))]) (S' := [.int x1, .ref 27, .int (z_bt (¬ (x1 = (1 : Int32)) ∧ (¬ (x1 = (4 : Int32))))), .ref 27]) (fun _ => rfl) ?_
              refine m_cI 192 2 rfl rfl rfl (A := [.ref 27, .int x1]) rfl rfl (Or.inr ⟨rfl, _, rfl⟩) (rest := [.int (z_bt (¬ (x1 = (1 : Int32)) ∧ (¬ (x1 = (4 : Int32))))), .ref 27]) rfl rfl rfl ?_
              obtain ⟨m355, em355⟩ : ∃ m : Int32, m = (if x1 = 0 then (9 : Int32) else (if x1 = (1 : Int32) then (9999 : Int32) else (if x1 = (2 : Int32) then (24 : Int32) else (if x1 = (3 : Int32) then (99 : Int32) else (60 : Int32))))) := ⟨_, rfl⟩
              have H := H m355 em355
              refine X_192 x1 g351 (z_all em355 ?_)
              refine m_cV 189 3 rfl rfl rfl (A := [.ref 27, .int (z_bt (¬ (x1 = (1 : Int32)) ∧ (¬ (x1 = (4 : Int32))))), .int m355]) rfl rfl (Or.inr ⟨rfl, _, rfl⟩) (rest := []) rfl rfl ?_
              refine H.mono (fun r356 g357 H => ?_)
              refine m_n 1 (pc' := 160) (L' := [some (.ref 27), some (.int x1), some (.int x2), some (.int (0 : Int32)), some (.int (0 : Int32))]) (S' := [.ref 27]) (fun _ => rfl) ?_
              refine m_gI rfl ?_
              refine m_n 2 (pc' := 166) (L' := [some (.ref 27), some (.int x1), some (.int x2), some (.int (0 : Int32)), some (.int (g357 27 42))]) (S' := [.ref 27]) (fun _ => rfl) ?_
              refine m_cV 187 1 rfl rfl rfl (A := [.ref 27]) rfl rfl (Or.inr ⟨rfl, _, rfl⟩) (rest := []) rfl rfl ?_
              refine H.mono (fun r358 g359 H => ?_)
              refine m_n 1 (pc' := 170) (L' := [some (.ref 27), some (.int x1), some (.int x2), some (.int (0 : Int32)), some (.int (g357 27 42))]) (S' := [.ref 27]) (fun _ => rfl) ?_
              refine m_gI rfl ?_
              refine m_b (c := (g359 27 37) = 0) (pc' := 176) (L' := [some (.ref 27), some (.int x1), some (.int x2), some (.int (0 : Int32)), some (.int (g357 27 42))]) (S' := []) (pc2 := 189) (L2 := [some (.ref 27), some (.int x1), some (.int x2), some (.int (0 : Int32)), some (.int (g357 27 42))]) (S2 := []) rfl (fun _ => rfl) (fun hc => ?_) (fun hc => ?_)
              · have hc := hc
                rw [if_pos hc] at H
                refine m_n 1 (pc' := 177) (L' := [some (.ref 27), some (.int x1), some (.int x2), some (.int (0 : Int32)), some (.int (g357 27 42))]) (S' := [.ref 27]) (fun _ => rfl) ?_
                refine m_gI rfl ?_
                refine m_n 1 (pc' := 181) (L' := [some (.ref 27), some (.int x1), some (.int x2), some (.int (0 : Int32)), some (.int (g357 27 42))]) (S' := [.int (3 : Int32), .int (g359 27 41)]) (fun _ => rfl) ?_
                refine m_b (c := (g359 27 41) = (3 : Int32)) (pc' := 189) (L' := [some (.ref 27), some (.int x1), some (.int x2), some (.int (0 : Int32)), some (.int (g357 27 42))]) (S' := []) (pc2 := 184) (L2 := [some (.ref 27), some (.int x1), some (.int x2), some (.int (0 : Int32)), some (.int (g357 27 42))]) (S2 := []) rfl (fun _ => rfl) (fun hc => ?_) (fun hc => ?_)
                · have hc := hc
                  rw [if_pos hc] at H
                  refine m_n 1 (pc' := 190) (L' := [some (.ref 27), some (.int x1), some (.int x2), some (.int (0 : Int32)), some (.int (g357 27 42))]) (S' := [.ref 27]) (fun _ => rfl) ?_
                  refine m_gI rfl ?_
                  refine m_b (c := (g359 27 37) = 0) (pc' := 196) (L' := [some (.ref 27), some (.int x1), some (.int x2), some (.int (0 : Int32)), some (.int (g357 27 42))]) (S' := []) (pc2 := 251) (L2 := [some (.ref 27), some (.int x1), some (.int x2), some (.int (0 : Int32)), some (.int (g357 27 42))]) (S2 := []) rfl (fun _ => rfl) (fun hc => ?_) (fun hc => ?_)
                  · have hc := hc
                    rw [if_pos hc] at H
                    refine m_n 1 (pc' := 197) (L' := [some (.ref 27), some (.int x1), some (.int x2), some (.int (0 : Int32)), some (.int (g357 27 42))]) (S' := [.ref 27]) (fun _ => rfl) ?_
                    refine m_gR (q := 66) rfl (by decide) ?_
                    refine m_n 1 (pc' := 201) (L' := [some (.ref 27), some (.int x1), some (.int x2), some (.int (0 : Int32)), some (.int (g357 27 42))]) (S' := [.ref 27, .ref 66]) (fun _ => rfl) ?_
                    refine m_gI rfl ?_
                    refine m_n 1 (pc' := 205) (L' := [some (.ref 27), some (.int x1), some (.int x2), some (.int (0 : Int32)), some (.int (g357 27 42))]) (S' := [.int x1, .int (g359 27 50), .ref 66]) (fun _ => rfl) ?_
                    obtain ⟨o360, H⟩ := H
                    refine m_is 16 rfl rfl rfl o360 ?_
                    obtain ⟨g361, eg361⟩ : ∃ m : zG, m = (z_up2 g359 66 (z_ix (g359 27 50)) x1) := ⟨_, rfl⟩
                    have H := H g361 eg361
                    refine z_nmG eg361 ?_
                    refine m_n 1 (pc' := 207) (L' := [some (.ref 27), some (.int x1), some (.int x2), some (.int (0 : Int32)), some (.int (g357 27 42))]) (S' := [.ref 27]) (fun _ => rfl) ?_
                    refine m_gR (q := 67) rfl (by decide) ?_
                    refine m_n 1 (pc' := 211) (L' := [some (.ref 27), some (.int x1), some (.int x2), some (.int (0 : Int32)), some (.int (g357 27 42))]) (S' := [.ref 27, .ref 67]) (fun _ => rfl) ?_
                    refine m_gI rfl ?_
                    refine m_n 1 (pc' := 215) (L' := [some (.ref 27), some (.int x1), some (.int x2), some (.int (0 : Int32)), some (.int (g357 27 42))]) (S' := [.int (0 : Int32), .int (g361 27 50), .ref 67]) (fun _ => rfl) ?_
                    obtain ⟨o362, H⟩ := H
                    refine m_is 16 rfl rfl rfl o362 ?_
                    obtain ⟨g363, eg363⟩ : ∃ m : zG, m = (z_up2 g361 67 (z_ix (g361 27 50)) (0 : Int32)) := ⟨_, rfl⟩
                    have H := H g363 eg363
                    refine z_nmG eg363 ?_
                    refine m_n 1 (pc' := 217) (L' := [some (.ref 27), some (.int x1), some (.int x2), some (.int (0 : Int32)), some (.int (g357 27 42))]) (S' := [.ref 27]) (fun _ => rfl) ?_
                    refine m_gR (q := 68) rfl (by decide) ?_
                    refine m_n 1 (pc' := 221) (L' := [some (.ref 27), some (.int x1), some (.int x2), some (.int (0 : Int32)), some (.int (g357 27 42))]) (S' := [.ref 27, .ref 68]) (fun _ => rfl) ?_
                    refine m_gI rfl ?_
                    refine m_n 1 (pc' := 225) (L' := [some (.ref 27), some (.int x1), some (.int x2), some (.int (0 : Int32)), some (.int (g357 27 42))]) (S' := [.int x2, .int (g363 27 50), .ref 68]) (fun _ => rfl) ?_
                    obtain ⟨o364, H⟩ := H
                    refine m_is 16 rfl rfl rfl o364 ?_
                    obtain ⟨g365, eg365⟩ : ∃ m : zG, m = (z_up2 g363 68 (z_ix (g363 27 50)) x2) := ⟨_, rfl⟩
                    have H := H g365 eg365
                    refine z_nmG eg365 ?_
                    refine m_n 1 (pc' := 227) (L' := [some (.ref 27), some (.int x1), some (.int x2), some (.int (0 : Int32)), some (.int (g357 27 42))]) (S' := [.ref 27]) (fun _ => rfl) ?_
                    refine m_gR (q := 69) rfl (by decide) ?_
                    refine m_n 1 (pc' := 231) (L' := [some (.ref 27), some (.int x1), some (.int x2), some (.int (0 : Int32)), some (.int (g357 27 42))]) (S' := [.ref 27, .ref 69]) (fun _ => rfl) ?_
                    refine m_gI rfl ?_
                    refine m_n 1 (pc' := 236) (L' := [some (.ref 27), some (.int x1), some (.int x2), some (.int (0 : Int32)), some (.int (g357 27 42))]) (S' := [.int (g357 27 42), .int (g365 27 50), .ref 69]) (fun _ => rfl) ?_
                    obtain ⟨o366, H⟩ := H
                    refine m_is 16 rfl rfl rfl o366 ?_
                    obtain ⟨g367, eg367⟩ : ∃ m : zG, m = (z_up2 g365 69 (z_ix (g365 27 50)) (g357 27 42)) := ⟨_, rfl⟩
                    have H := H g367 eg367
                    refine z_nmG eg367 ?_
                    refine m_n 2 (pc' := 239) (L' := [some (.ref 27), some (.int x1), some (.int x2), some (.int (0 : Int32)), some (.int (g357 27 42))]) (S' := [.ref 27, .ref 27]) (fun _ => rfl) ?_
                    refine m_gI rfl ?_
                    refine m_n 2 (pc' := 244) (L' := [some (.ref 27), some (.int x1), some (.int x2), some (.int (0 : Int32)), some (.int (g357 27 42))]) (S' := [.int ((g367 27 50) + (1 : Int32)), .ref 27]) (fun _ => rfl) ?_
                    refine m_pI rfl ?_
                    obtain ⟨g368, eg368⟩ : ∃ m : zG, m = (z_up2 g367 27 50 ((g367 27 50) + (1 : Int32))) := ⟨_, rfl⟩
                    have H := H g368 eg368
                    refine z_nmG eg368 ?_
                    refine m_n 1 (pc' := 248) (L' := [some (.ref 27), some (.int x1), some (.int x2), some (.int (0 : Int32)), some (.int (g357 27 42))]) (S' := [.ref 27]) (fun _ => rfl) ?_
                    refine m_cV 187 1 rfl rfl rfl (A := [.ref 27]) rfl rfl (Or.inr ⟨rfl, _, rfl⟩) (rest := []) rfl rfl ?_
                    refine H.mono (fun r369 g370 H => ?_)
                    exact m_r rfl rfl rfl H
                  · have hc := hc
                    rw [if_neg hc] at H
                    exact m_r rfl rfl rfl H
                · have hc := hc
                  rw [if_neg hc] at H
                  refine m_n 2 (pc' := 186) (L' := [some (.ref 27), some (.int x1), some (.int x2), some (.int (0 : Int32)), some (.int (g357 27 42))]) (S' := [.int (2 : Int32), .ref 27]) (fun _ => rfl) ?_
                  refine m_cV 186 2 rfl rfl rfl (A := [.ref 27, .int (2 : Int32)]) rfl rfl (Or.inr ⟨rfl, _, rfl⟩) (rest := []) rfl rfl ?_
                  refine H.mono (fun r371 g372 H => ?_)
                  refine m_n 1 (pc' := 190) (L' := [some (.ref 27), some (.int x1), some (.int x2), some (.int (0 : Int32)), some (.int (g357 27 42))]) (S' := [.ref 27]) (fun _ => rfl) ?_
                  refine m_gI rfl ?_
                  refine m_b (c := (g372 27 37) = 0) (pc' := 196) (L' := [some (.ref 27), some (.int x1), some (.int x2), some (.int (0 : Int32)), some (.int (g357 27 42))]) (S' := []) (pc2 := 251) (L2 := [some (.ref 27), some (.int x1), some (.int x2), some (.int (0 : Int32)), some (.int (g357 27 42))]) (S2 := []) rfl (fun _ => rfl) (fun hc => ?_) (fun hc => ?_)
                  · have hc := hc
                    rw [if_pos hc] at H
                    refine m_n 1 (pc' := 197) (L' := [some (.ref 27), some (.int x1), some (.int x2), some (.int (0 : Int32)), some (.int (g357 27 42))]) (S' := [.ref 27]) (fun _ => rfl) ?_
                    refine m_gR (q := 66) rfl (by decide) ?_
                    refine m_n 1 (pc' := 201) (L' := [some (.ref 27), some (.int x1), some (.int x2), some (.int (0 : Int32)), some (.int (g357 27 42))]) (S' := [.ref 27, .ref 66]) (fun _ => rfl) ?_
                    refine m_gI rfl ?_
                    refine m_n 1 (pc' := 205) (L' := [some (.ref 27), some (.int x1), some (.int x2), some (.int (0 : Int32)), some (.int (g357 27 42))]) (S' := [.int x1, .int (g372 27 50), .ref 66]) (fun _ => rfl) ?_
                    obtain ⟨o373, H⟩ := H
                    refine m_is 16 rfl rfl rfl o373 ?_
                    obtain ⟨g374, eg374⟩ : ∃ m : zG, m = (z_up2 g372 66 (z_ix (g372 27 50)) x1) := ⟨_, rfl⟩
                    have H := H g374 eg374
                    refine z_nmG eg374 ?_
                    refine m_n 1 (pc' := 207) (L' := [some (.ref 27), some (.int x1), some (.int x2), some (.int (0 : Int32)), some (.int (g357 27 42))]) (S' := [.ref 27]) (fun _ => rfl) ?_
                    refine m_gR (q := 67) rfl (by decide) ?_
                    refine m_n 1 (pc' := 211) (L' := [some (.ref 27), some (.int x1), some (.int x2), some (.int (0 : Int32)), some (.int (g357 27 42))]) (S' := [.ref 27, .ref 67]) (fun _ => rfl) ?_
                    refine m_gI rfl ?_
                    refine m_n 1 (pc' := 215) (L' := [some (.ref 27), some (.int x1), some (.int x2), some (.int (0 : Int32)), some (.int (g357 27 42))]) (S' := [.int (0 : Int32), .int (g374 27 50), .ref 67]) (fun _ => rfl) ?_
                    obtain ⟨o375, H⟩ := H
                    refine m_is 16 rfl rfl rfl o375 ?_
                    obtain ⟨g376, eg376⟩ : ∃ m : zG, m = (z_up2 g374 67 (z_ix (g374 27 50)) (0 : Int32)) := ⟨_, rfl⟩
                    have H := H g376 eg376
                    refine z_nmG eg376 ?_
                    refine m_n 1 (pc' := 217) (L' := [some (.ref 27), some (.int x1), some (.int x2), some (.int (0 : Int32)), some (.int (g357 27 42))]) (S' := [.ref 27]) (fun _ => rfl) ?_
                    refine m_gR (q := 68) rfl (by decide) ?_
                    refine m_n 1 (pc' := 221) (L' := [some (.ref 27), some (.int x1), some (.int x2), some (.int (0 : Int32)), some (.int (g357 27 42))]) (S' := [.ref 27, .ref 68]) (fun _ => rfl) ?_
                    refine m_gI rfl ?_
                    refine m_n 1 (pc' := 225) (L' := [some (.ref 27), some (.int x1), some (.int x2), some (.int (0 : Int32)), some (.int (g357 27 42))]) (S' := [.int x2, .int (g376 27 50), .ref 68]) (fun _ => rfl) ?_
                    obtain ⟨o377, H⟩ := H
                    refine m_is 16 rfl rfl rfl o377 ?_
                    obtain ⟨g378, eg378⟩ : ∃ m : zG, m = (z_up2 g376 68 (z_ix (g376 27 50)) x2) := ⟨_, rfl⟩
                    have H := H g378 eg378
                    refine z_nmG eg378 ?_
                    refine m_n 1 (pc' := 227) (L' := [some (.ref 27), some (.int x1), some (.int x2), some (.int (0 : Int32)), some (.int (g357 27 42))]) (S' := [.ref 27]) (fun _ => rfl) ?_
                    refine m_gR (q := 69) rfl (by decide) ?_
                    refine m_n 1 (pc' := 231) (L' := [some (.ref 27), some (.int x1), some (.int x2), some (.int (0 : Int32)), some (.int (g357 27 42))]) (S' := [.ref 27, .ref 69]) (fun _ => rfl) ?_
                    refine m_gI rfl ?_
                    refine m_n 1 (pc' := 236) (L' := [some (.ref 27), some (.int x1), some (.int x2), some (.int (0 : Int32)), some (.int (g357 27 42))]) (S' := [.int (g357 27 42), .int (g378 27 50), .ref 69]) (fun _ => rfl) ?_
                    obtain ⟨o379, H⟩ := H
                    refine m_is 16 rfl rfl rfl o379 ?_
                    obtain ⟨g380, eg380⟩ : ∃ m : zG, m = (z_up2 g378 69 (z_ix (g378 27 50)) (g357 27 42)) := ⟨_, rfl⟩
                    have H := H g380 eg380
                    refine z_nmG eg380 ?_
                    refine m_n 2 (pc' := 239) (L' := [some (.ref 27), some (.int x1), some (.int x2), some (.int (0 : Int32)), some (.int (g357 27 42))]) (S' := [.ref 27, .ref 27]) (fun _ => rfl) ?_
                    refine m_gI rfl ?_
                    refine m_n 2 (pc' := 244) (L' := [some (.ref 27), some (.int x1), some (.int x2), some (.int (0 : Int32)), some (.int (g357 27 42))]) (S' := [.int ((g380 27 50) + (1 : Int32)), .ref 27]) (fun _ => rfl) ?_
                    refine m_pI rfl ?_
                    obtain ⟨g381, eg381⟩ : ∃ m : zG, m = (z_up2 g380 27 50 ((g380 27 50) + (1 : Int32))) := ⟨_, rfl⟩
                    have H := H g381 eg381
                    refine z_nmG eg381 ?_
                    refine m_n 1 (pc' := 248) (L' := [some (.ref 27), some (.int x1), some (.int x2), some (.int (0 : Int32)), some (.int (g357 27 42))]) (S' := [.ref 27]) (fun _ => rfl) ?_
                    refine m_cV 187 1 rfl rfl rfl (A := [.ref 27]) rfl rfl (Or.inr ⟨rfl, _, rfl⟩) (rest := []) rfl rfl ?_
                    refine H.mono (fun r382 g383 H => ?_)
                    exact m_r rfl rfl rfl H
                  · have hc := hc
                    rw [if_neg hc] at H
                    exact m_r rfl rfl rfl H
              · have hc := hc
                rw [if_neg hc] at H
                refine m_n 1 (pc' := 190) (L' := [some (.ref 27), some (.int x1), some (.int x2), some (.int (0 : Int32)), some (.int (g357 27 42))]) (S' := [.ref 27]) (fun _ => rfl) ?_
                refine m_gI rfl ?_
                refine m_b (c := (g359 27 37) = 0) (pc' := 196) (L' := [some (.ref 27), some (.int x1), some (.int x2), some (.int (0 : Int32)), some (.int (g357 27 42))]) (S' := []) (pc2 := 251) (L2 := [some (.ref 27), some (.int x1), some (.int x2), some (.int (0 : Int32)), some (.int (g357 27 42))]) (S2 := []) rfl (fun _ => rfl) (fun hc => ?_) (fun hc => ?_)
                · have hc := hc
                  rw [if_pos hc] at H
                  refine m_n 1 (pc' := 197) (L' := [some (.ref 27), some (.int x1), some (.int x2), some (.int (0 : Int32)), some (.int (g357 27 42))]) (S' := [.ref 27]) (fun _ => rfl) ?_
                  refine m_gR (q := 66) rfl (by decide) ?_
                  refine m_n 1 (pc' := 201) (L' := [some (.ref 27), some (.int x1), some (.int x2), some (.int (0 : Int32)), some (.int (g357 27 42))]) (S' := [.ref 27, .ref 66]) (fun _ => rfl) ?_
                  refine m_gI rfl ?_
                  refine m_n 1 (pc' := 205) (L' := [some (.ref 27), some (.int x1), some (.int x2), some (.int (0 : Int32)), some (.int (g357 27 42))]) (S' := [.int x1, .int (g359 27 50), .ref 66]) (fun _ => rfl) ?_
                  obtain ⟨o384, H⟩ := H
                  refine m_is 16 rfl rfl rfl o384 ?_
                  obtain ⟨g385, eg385⟩ : ∃ m : zG, m = (z_up2 g359 66 (z_ix (g359 27 50)) x1) := ⟨_, rfl⟩
                  have H := H g385 eg385
                  refine z_nmG eg385 ?_
                  refine m_n 1 (pc' := 207) (L' := [some (.ref 27), some (.int x1), some (.int x2), some (.int (0 : Int32)), some (.int (g357 27 42))]) (S' := [.ref 27]) (fun _ => rfl) ?_
                  refine m_gR (q := 67) rfl (by decide) ?_
                  refine m_n 1 (pc' := 211) (L' := [some (.ref 27), some (.int x1), some (.int x2), some (.int (0 : Int32)), some (.int (g357 27 42))]) (S' := [.ref 27, .ref 67]) (fun _ => rfl) ?_
                  refine m_gI rfl ?_
                  refine m_n 1 (pc' := 215) (L' := [some (.ref 27), some (.int x1), some (.int x2), some (.int (0 : Int32)), some (.int (g357 27 42))]) (S' := [.int (0 : Int32), .int (g385 27 50), .ref 67]) (fun _ => rfl) ?_
                  obtain ⟨o386, H⟩ := H
                  refine m_is 16 rfl rfl rfl o386 ?_
                  obtain ⟨g387, eg387⟩ : ∃ m : zG, m = (z_up2 g385 67 (z_ix (g385 27 50)) (0 : Int32)) := ⟨_, rfl⟩
                  have H := H g387 eg387
                  refine z_nmG eg387 ?_
                  refine m_n 1 (pc' := 217) (L' := [some (.ref 27), some (.int x1), some (.int x2), some (.int (0 : Int32)), some (.int (g357 27 42))]) (S' := [.ref 27]) (fun _ => rfl) ?_
                  refine m_gR (q := 68) rfl (by decide) ?_
                  refine m_n 1 (pc' := 221) (L' := [some (.ref 27), some (.int x1), some (.int x2), some (.int (0 : Int32)), some (.int (g357 27 42))]) (S' := [.ref 27, .ref 68]) (fun _ => rfl) ?_
                  refine m_gI rfl ?_
                  refine m_n 1 (pc' := 225) (L' := [some (.ref 27), some (.int x1), some (.int x2), some (.int (0 : Int32)), some (.int (g357 27 42))]) (S' := [.int x2, .int (g387 27 50), .ref 68]) (fun _ => rfl) ?_
                  obtain ⟨o388, H⟩ := H
                  refine m_is 16 rfl rfl rfl o388 ?_
                  obtain ⟨g389, eg389⟩ : ∃ m : zG, m = (z_up2 g387 68 (z_ix (g387 27 50)) x2) := ⟨_, rfl⟩
                  have H := H g389 eg389
                  refine z_nmG eg389 ?_
                  refine m_n 1 (pc' := 227) (L' := [some (.ref 27), some (.int x1), some (.int x2), some (.int (0 : Int32)), some (.int (g357 27 42))]) (S' := [.ref 27]) (fun _ => rfl) ?_
                  refine m_gR (q := 69) rfl (by decide) ?_
                  refine m_n 1 (pc' := 231) (L' := [some (.ref 27), some (.int x1), some (.int x2), some (.int (0 : Int32)), some (.int (g357 27 42))]) (S' := [.ref 27, .ref 69]) (fun _ => rfl) ?_
                  refine m_gI rfl ?_
                  refine m_n 1 (pc' := 236) (L' := [some (.ref 27), some (.int x1), some (.int x2), some (.int (0 : Int32)), some (.int (g357 27 42))]) (S' := [.int (g357 27 42), .int (g389 27 50), .ref 69]) (fun _ => rfl) ?_
                  obtain ⟨o390, H⟩ := H
                  refine m_is 16 rfl rfl rfl o390 ?_
                  obtain ⟨g391, eg391⟩ : ∃ m : zG, m = (z_up2 g389 69 (z_ix (g389 27 50)) (g357 27 42)) := ⟨_, rfl⟩
                  have H := H g391 eg391
                  refine z_nmG eg391 ?_
                  refine m_n 2 (pc' := 239) (L' := [some (.ref 27), some (.int x1), some (.int x2), some (.int (0 : Int32)), some (.int (g357 27 42))]) (S' := [.ref 27, .ref 27]) (fun _ => rfl) ?_
                  refine m_gI rfl ?_
                  refine m_n 2 (pc' := 244) (L' := [some (.ref 27), some (.int x1), some (.int x2), some (.int (0 : Int32)), some (.int (g357 27 42))]) (S' := [.int ((g391 27 50) + (1 : Int32)), .ref 27]) (fun _ => rfl) ?_
                  refine m_pI rfl ?_
                  obtain ⟨g392, eg392⟩ : ∃ m : zG, m = (z_up2 g391 27 50 ((g391 27 50) + (1 : Int32))) := ⟨_, rfl⟩
                  have H := H g392 eg392
                  refine z_nmG eg392 ?_
                  refine m_n 1 (pc' := 248) (L' := [some (.ref 27), some (.int x1), some (.int x2), some (.int (0 : Int32)), some (.int (g357 27 42))]) (S' := [.ref 27]) (fun _ => rfl) ?_
                  refine m_cV 187 1 rfl rfl rfl (A := [.ref 27]) rfl rfl (Or.inr ⟨rfl, _, rfl⟩) (rest := []) rfl rfl ?_
                  refine H.mono (fun r393 g394 H => ?_)
                  exact m_r rfl rfl rfl H
                · have hc := hc
                  rw [if_neg hc] at H
                  exact m_r rfl rfl rfl H
            refine m_b (c := x1 = (1 : Int32)) (pc' := 146) (L' := [some (.ref 27), some (.int x1), some (.int x2), some (.int (0 : Int32)), some (.int (0 : Int32))]) (S' := [.ref 27]) (pc2 := 141) (L2 := [some (.ref 27), some (.int x1), some (.int x2), some (.int (0 : Int32)), some (.int (0 : Int32))]) (S2 := [.ref 27]) rfl (fun _ => rfl) (fun hc => ?_) (fun hc => ?_)
            · have c352 := hc
              refine m_n 2 (pc' := 151) (L' := [some (.ref 27), some (.int x1), some (.int x2), some (.int (0 : Int32)), some (.int (0 : Int32))]) (S' := [.int (0 : Int32), .ref 27]) (fun _ => rfl) ?_
              rw [show z_bt (¬ (x1 = (1 : Int32)) ∧ (¬ (x1 = (4 : Int32)))) = 0 from z_bt_0.mpr ((fun q => q.1 c352))] at hj354
              exact hj354
            · have c352 := hc
              refine m_n 2 (pc' := 143) (L' := [some (.ref 27), some (.int x1), some (.int x2), some (.int (0 : Int32)), some (.int (0 : Int32))]) (S' := [.int (4 : Int32), .int x1, .ref 27]) (fun _ => rfl) ?_
              refine m_b (c := x1 = (4 : Int32)) (pc' := 146) (L' := [some (.ref 27), some (.int x1), some (.int x2), some (.int (0 : Int32)), some (.int (0 : Int32))]) (S' := [.ref 27]) (pc2 := 150) (L2 := [some (.ref 27), some (.int x1), some (.int x2), some (.int (0 : Int32)), some (.int (0 : Int32))]) (S2 := [.ref 27]) rfl (fun _ => rfl) (fun hc => ?_) (fun hc => ?_)
              · have c353 := hc
                refine m_n 2 (pc' := 151) (L' := [some (.ref 27), some (.int x1), some (.int x2), some (.int (0 : Int32)), some (.int (0 : Int32))]) (S' := [.int (0 : Int32), .ref 27]) (fun _ => rfl) ?_
                rw [show z_bt (¬ (x1 = (1 : Int32)) ∧ (¬ (x1 = (4 : Int32)))) = 0 from z_bt_0.mpr ((fun q => (fun q => q c353) q.2))] at hj354
                exact hj354
              · have c353 := hc
                refine m_n 1 (pc' := 151) (L' := [some (.ref 27), some (.int x1), some (.int x2), some (.int (0 : Int32)), some (.int (0 : Int32))]) (S' := [.int (1 : Int32), .ref 27]) (fun _ => rfl) ?_
                rw [show z_bt (¬ (x1 = (1 : Int32)) ∧ (¬ (x1 = (4 : Int32)))) = 1 from z_bt_1.mpr (⟨c352, c353⟩)] at hj354
                exact hj354
      · have hc := hc
        rw [if_neg hc] at H
        refine m_n 1 (pc' := 88) (L' := [some (.ref 27), some (.int x1), some (.int x2), some (.int (0 : Int32)), some (.int (0 : Int32))]) (S' := [.ref 27]) (fun _ => rfl) ?_
        refine m_gI rfl ?_
        refine m_b (c := (g2 27 37) = 0) (pc' := 94) (L' := [some (.ref 27), some (.int x1), some (.int x2), some (.int (0 : Int32)), some (.int (0 : Int32))]) (S' := []) (pc2 := 108) (L2 := [some (.ref 27), some (.int x1), some (.int x2), some (.int (0 : Int32)), some (.int (0 : Int32))]) (S2 := []) rfl (fun _ => rfl) (fun hc => ?_) (fun hc => ?_)
        · have hc := hc
          rw [if_pos hc] at H
          refine m_n 2 (pc' := 96) (L' := [some (.ref 27), some (.int x1), some (.int x2), some (.int (0 : Int32)), some (.int (0 : Int32))]) (S' := [.ref 27, .ref 27]) (fun _ => rfl) ?_
          refine m_gI rfl ?_
          refine m_cI 185 2 rfl rfl rfl (A := [.ref 27, .int (g2 27 40)]) rfl rfl (Or.inr ⟨rfl, _, rfl⟩) (rest := []) rfl rfl rfl ?_
          obtain ⟨o396, H⟩ := H
          obtain ⟨m395, em395⟩ : ∃ m : Int32, m = (if (g2 27 35) ≤ (g2 27 40) then (-4 : Int32) else (g2 59 (z_ix (g2 27 40)))) := ⟨_, rfl⟩
          have H := H m395 em395
          refine X_185 (g2 27 40) g2 ⟨o396, (z_all em395 ?_)⟩
          refine m_n 9 (pc' := 128) (L' := [some (.ref 27), some (.int x1), some (.int x2), some (.int (m395 - (97 : Int32))), some (.int (0 : Int32))]) (S' := [.int x2, .int (m395 - (97 : Int32)), .int x1, .ref 27]) (fun _ => rfl) ?_
          refine m_cV 191 4 rfl rfl rfl (A := [.ref 27, .int x1, .int (m395 - (97 : Int32)), .int x2]) rfl rfl (Or.inr ⟨rfl, _, rfl⟩) (rest := []) rfl rfl ?_
          refine H.mono (fun r397 g398 H => ?_)
          refine m_n 1 (pc' := 132) (L' := [some (.ref 27), some (.int x1), some (.int x2), some (.int (m395 - (97 : Int32))), some (.int (0 : Int32))]) (S' := [.ref 27]) (fun _ => rfl) ?_
          refine m_cV 187 1 rfl rfl rfl (A := [.ref 27]) rfl rfl (Or.inr ⟨rfl, _, rfl⟩) (rest := []) rfl rfl ?_
          refine H.mono (fun r399 g400 H => ?_)
          refine m_n 3 (pc' := 138) (L' := [some (.ref 27), some (.int x1), some (.int x2), some (.int (m395 - (97 : Int32))), some (.int (0 : Int32))]) (S' := [.int (1 : Int32), .int x1, .ref 27]) (fun _ => rfl) ?_
          have hj403 : MG z_pV 193 151 [some (.ref 27), some (.int x1), some (.int x2), some (.int (m395 - (97 : Int32))), some (.int (0 : Int32))] [.int (z_bt (¬ (x1 = (1 : Int32)) ∧ (¬ (x1 = (4 : Int32))))), .ref 27] g400 Q := by
            refine m_n 2 (pc' := 153) (L' := [some (.ref 27), some (.int x1), some (.int x2), some (.int (m395 - (97 : Int32))), some (.int (0 : Int32))]) (S' := [.int x1, .ref 27, .int (z_bt (¬ (x1 = (1 : Int32)) ∧ (¬ (x1 = (4 : Int32))))), .ref 27]) (fun _ => rfl) ?_
            refine m_cI 192 2 rfl rfl rfl (A := [.ref 27, .int x1]) rfl rfl (Or.inr ⟨rfl, _, rfl⟩) (rest := [.int (z_bt (¬ (x1 = (1 : Int32)) ∧ (¬ (x1 = (4 : Int32))))), .ref 27]) rfl rfl rfl ?_
            obtain ⟨m404, em404⟩ : ∃ m : Int32, m = (if x1 = 0 then (9 : Int32) else (if x1 = (1 : Int32) then (9999 : Int32) else (if x1 = (2 : Int32) then (24 : Int32) else (if x1 = (3 : Int32) then (99 : Int32) else (60 : Int32))))) := ⟨_, rfl⟩
            have H := H m404 em404
            refine X_192 x1 g400 (z_all em404 ?_)
            refine m_cV 189 3 rfl rfl rfl (A := [.ref 27, .int (z_bt (¬ (x1 = (1 : Int32)) ∧ (¬ (x1 = (4 : Int32))))), .int m404]) rfl rfl (Or.inr ⟨rfl, _, rfl⟩) (rest := []) rfl rfl ?_
            refine H.mono (fun r405 g406 H => ?_)
            refine m_n 1 (pc' := 160) (L' := [some (.ref 27), some (.int x1), some (.int x2), some (.int (m395 - (97 : Int32))), some (.int (0 : Int32))]) (S' := [.ref 27]) (fun _ => rfl) ?_
            refine m_gI rfl ?_
            refine m_n 2 (pc' := 166) (L' := [some (.ref 27), some (.int x1), some (.int x2), some (.int (m395 - (97 : Int32))), some (.int (g406 27 42))]) (S' := [.ref 27]) (fun _ => rfl) ?_
            refine m_cV 187 1 rfl rfl rfl (A := [.ref 27]) rfl rfl (Or.inr ⟨rfl, _, rfl⟩) (rest := []) rfl rfl ?_
            refine H.mono (fun r407 g408 H => ?_)
            refine m_n 1 (pc' := 170) (L' := [some (.ref 27), some (.int x1), some (.int x2), some (.int (m395 - (97 : Int32))), some (.int (g406 27 42))]) (S' := [.ref 27]) (fun _ => rfl) ?_
            refine m_gI rfl ?_
            refine m_b (c := (g408 27 37) = 0) (pc' := 176) (L' := [some (.ref 27), some (.int x1), some (.int x2), some (.int (m395 - (97 : Int32))), some (.int (g406 27 42))]) (S' := []) (pc2 := 189) (L2 := [some (.ref 27), some (.int x1), some (.int x2), some (.int (m395 - (97 : Int32))), some (.int (g406 27 42))]) (S2 := []) rfl (fun _ => rfl) (fun hc => ?_) (fun hc => ?_)
            · have hc := hc
              rw [if_pos hc] at H
              refine m_n 1 (pc' := 177) (L' := [some (.ref 27), some (.int x1), some (.int x2), some (.int (m395 - (97 : Int32))), some (.int (g406 27 42))]) (S' := [.ref 27]) (fun _ => rfl) ?_
              refine m_gI rfl ?_
              refine m_n 1 (pc' := 181) (L' := [some (.ref 27), some (.int x1), some (.int x2), some (.int (m395 - (97 : Int32))), some (.int (g406 27 42))]) (S' := [.int (3 : Int32), .int (g408 27 41)]) (fun _ => rfl) ?_
              refine m_b (c := (g408 27 41) = (3 : Int32)) (pc' := 189) (L' := [some (.ref 27), some (.int x1), some (.int x2), some (.int (m395 - (97 : Int32))), some (.int (g406 27 42))]) (S' := []) (pc2 := 184) (L2 := [some (.ref 27), some (.int x1), some (.int x2), some (.int (m395 - (97 : Int32))), some (.int (g406 27 42))]) (S2 := []) rfl (fun _ => rfl) (fun hc => ?_) (fun hc => ?_)
              · have hc := hc
                rw [if_pos hc] at H
                refine m_n 1 (pc' := 190) (L' := [some (.ref 27), some (.int x1), some (.int x2), some (.int (m395 - (97 : Int32))), some (.int (g406 27 42))]) (S' := [.ref 27]) (fun _ => rfl) ?_
                refine m_gI rfl ?_
                refine m_b (c := (g408 27 37) = 0) (pc' := 196) (L' := [some (.ref 27), some (.int x1), some (.int x2), some (.int (m395 - (97 : Int32))), some (.int (g406 27 42))]) (S' := []) (pc2 := 251) (L2 := [some (.ref 27), some (.int x1), some (.int x2), some (.int (m395 - (97 : Int32))), some (.int (g406 27 42))]) (S2 := []) rfl (fun _ => rfl) (fun hc => ?_) (fun hc => ?_)
                · have hc := hc
                  rw [if_pos hc] at H
                  refine m_n 1 (pc' := 197) (L' := [some (.ref 27), some (.int x1), some (.int x2), some (.int (m395 - (97 : Int32))), some (.int (g406 27 42))]) (S' := [.ref 27]) (fun _ => rfl) ?_
                  refine m_gR (q := 66) rfl (by decide) ?_
                  refine m_n 1 (pc' := 201) (L' := [some (.ref 27), some (.int x1), some (.int x2), some (.int (m395 - (97 : Int32))), some (.int (g406 27 42))]) (S' := [.ref 27, .ref 66]) (fun _ => rfl) ?_
                  refine m_gI rfl ?_
                  refine m_n 1 (pc' := 205) (L' := [some (.ref 27), some (.int x1), some (.int x2), some (.int (m395 - (97 : Int32))), some (.int (g406 27 42))]) (S' := [.int x1, .int (g408 27 50), .ref 66]) (fun _ => rfl) ?_
                  obtain ⟨o409, H⟩ := H
                  refine m_is 16 rfl rfl rfl o409 ?_
                  obtain ⟨g410, eg410⟩ : ∃ m : zG, m = (z_up2 g408 66 (z_ix (g408 27 50)) x1) := ⟨_, rfl⟩
                  have H := H g410 eg410
                  refine z_nmG eg410 ?_
                  refine m_n 1 (pc' := 207) (L' := [some (.ref 27), some (.int x1), some (.int x2), some (.int (m395 - (97 : Int32))), some (.int (g406 27 42))]) (S' := [.ref 27]) (fun _ => rfl) ?_
                  refine m_gR (q := 67) rfl (by decide) ?_
                  refine m_n 1 (pc' := 211) (L' := [some (.ref 27), some (.int x1), some (.int x2), some (.int (m395 - (97 : Int32))), some (.int (g406 27 42))]) (S' := [.ref 27, .ref 67]) (fun _ => rfl) ?_
                  refine m_gI rfl ?_
                  refine m_n 1 (pc' := 215) (L' := [some (.ref 27), some (.int x1), some (.int x2), some (.int (m395 - (97 : Int32))), some (.int (g406 27 42))]) (S' := [.int (m395 - (97 : Int32)), .int (g410 27 50), .ref 67]) (fun _ => rfl) ?_
                  obtain ⟨o411, H⟩ := H
                  refine m_is 16 rfl rfl rfl o411 ?_
                  obtain ⟨g412, eg412⟩ : ∃ m : zG, m = (z_up2 g410 67 (z_ix (g410 27 50)) (m395 - (97 : Int32))) := ⟨_, rfl⟩
                  have H := H g412 eg412
                  refine z_nmG eg412 ?_
                  refine m_n 1 (pc' := 217) (L' := [some (.ref 27), some (.int x1), some (.int x2), some (.int (m395 - (97 : Int32))), some (.int (g406 27 42))]) (S' := [.ref 27]) (fun _ => rfl) ?_
                  refine m_gR (q := 68) rfl (by decide) ?_
                  refine m_n 1 (pc' := 221) (L' := [some (.ref 27), some (.int x1), some (.int x2), some (.int (m395 - (97 : Int32))), some (.int (g406 27 42))]) (S' := [.ref 27, .ref 68]) (fun _ => rfl) ?_
                  refine m_gI rfl ?_
                  refine m_n 1 (pc' := 225) (L' := [some (.ref 27), some (.int x1), some (.int x2), some (.int (m395 - (97 : Int32))), some (.int (g406 27 42))]) (S' := [.int x2, .int (g412 27 50), .ref 68]) (fun _ => rfl) ?_
                  obtain ⟨o413, H⟩ := H
                  refine m_is 16 rfl rfl rfl o413 ?_
                  obtain ⟨g414, eg414⟩ : ∃ m : zG, m = (z_up2 g412 68 (z_ix (g412 27 50)) x2) := ⟨_, rfl⟩
                  have H := H g414 eg414
                  refine z_nmG eg414 ?_
                  refine m_n 1 (pc' := 227) (L' := [some (.ref 27), some (.int x1), some (.int x2), some (.int (m395 - (97 : Int32))), some (.int (g406 27 42))]) (S' := [.ref 27]) (fun _ => rfl) ?_
                  refine m_gR (q := 69) rfl (by decide) ?_
                  refine m_n 1 (pc' := 231) (L' := [some (.ref 27), some (.int x1), some (.int x2), some (.int (m395 - (97 : Int32))), some (.int (g406 27 42))]) (S' := [.ref 27, .ref 69]) (fun _ => rfl) ?_
                  refine m_gI rfl ?_
                  refine m_n 1 (pc' := 236) (L' := [some (.ref 27), some (.int x1), some (.int x2), some (.int (m395 - (97 : Int32))), some (.int (g406 27 42))]) (S' := [.int (g406 27 42), .int (g414 27 50), .ref 69]) (fun _ => rfl) ?_
                  obtain ⟨o415, H⟩ := H
                  refine m_is 16 rfl rfl rfl o415 ?_
                  obtain ⟨g416, eg416⟩ : ∃ m : zG, m = (z_up2 g414 69 (z_ix (g414 27 50)) (g406 27 42)) := ⟨_, rfl⟩
                  have H := H g416 eg416
                  refine z_nmG eg416 ?_
                  refine m_n 2 (pc' := 239) (L' := [some (.ref 27), some (.int x1), some (.int x2), some (.int (m395 - (97 : Int32))), some (.int (g406 27 42))]) (S' := [.ref 27, .ref 27]) (fun _ => rfl) ?_
                  refine m_gI rfl ?_
                  refine m_n 2 (pc' := 244) (L' := [some (.ref 27), some (.int x1), some (.int x2), some (.int (m395 - (97 : Int32))), some (.int (g406 27 42))]) (S' := [.int ((g416 27 50) + (1 : Int32)), .ref 27]) (fun _ => rfl) ?_
                  refine m_pI rfl ?_
                  obtain ⟨g417, eg417⟩ : ∃ m : zG, m = (z_up2 g416 27 50 ((g416 27 50) + (1 : Int32))) := ⟨_, rfl⟩
                  have H := H g417 eg417
                  refine z_nmG eg417 ?_
                  refine m_n 1 (pc' := 248) (L' := [some (.ref 27), some (.int x1), some (.int x2), some (.int (m395 - (97 : Int32))), some (.int (g406 27 42))]) (S' := [.ref 27]) (fun _ => rfl) ?_
                  refine m_cV 187 1 rfl rfl rfl (A := [.ref 27]) rfl rfl (Or.inr ⟨rfl, _, rfl⟩) (rest := []) rfl rfl ?_
                  refine H.mono (fun r418 g419 H => ?_)
                  exact m_r rfl rfl rfl H
                · have hc := hc
                  rw [if_neg hc] at H
                  exact m_r rfl rfl rfl H
              · have hc := hc
                rw [if_neg hc] at H
                refine m_n 2 (pc' := 186) (L' := [some (.ref 27), some (.int x1), some (.int x2), some (.int (m395 - (97 : Int32))), some (.int (g406 27 42))]) (S' := [.int (2 : Int32), .ref 27]) (fun _ => rfl) ?_
                refine m_cV 186 2 rfl rfl rfl (A := [.ref 27, .int (2 : Int32)]) rfl rfl (Or.inr ⟨rfl, _, rfl⟩) (rest := []) rfl rfl ?_
                refine H.mono (fun r420 g421 H => ?_)
                refine m_n 1 (pc' := 190) (L' := [some (.ref 27), some (.int x1), some (.int x2), some (.int (m395 - (97 : Int32))), some (.int (g406 27 42))]) (S' := [.ref 27]) (fun _ => rfl) ?_
                refine m_gI rfl ?_
                refine m_b (c := (g421 27 37) = 0) (pc' := 196) (L' := [some (.ref 27), some (.int x1), some (.int x2), some (.int (m395 - (97 : Int32))), some (.int (g406 27 42))]) (S' := []) (pc2 := 251) (L2 := [some (.ref 27), some (.int x1), some (.int x2), some (.int (m395 - (97 : Int32))), some (.int (g406 27 42))]) (S2 := []) rfl (fun _ => rfl) (fun hc => ?_) (fun hc => ?_)
                · have hc := hc
                  rw [if_pos hc] at H
                  refine m_n 1 (pc' := 197) (L' := [some (.ref 27), some (.int x1), some (.int x2), some (.int (m395 - (97 : Int32))), some (.int (g406 27 42))]) (S' := [.ref 27]) (fun _ => rfl) ?_
                  refine m_gR (q := 66) rfl (by decide) ?_
                  refine m_n 1 (pc' := 201) (L' := [some (.ref 27), some (.int x1), some (.int x2), some (.int (m395 - (97 : Int32))), some (.int (g406 27 42))]) (S' := [.ref 27, .ref 66]) (fun _ => rfl) ?_
                  refine m_gI rfl ?_
                  refine m_n 1 (pc' := 205) (L' := [some (.ref 27), some (.int x1), some (.int x2), some (.int (m395 - (97 : Int32))), some (.int (g406 27 42))]) (S' := [.int x1, .int (g421 27 50), .ref 66]) (fun _ => rfl) ?_
                  obtain ⟨o422, H⟩ := H
                  refine m_is 16 rfl rfl rfl o422 ?_
                  obtain ⟨g423, eg423⟩ : ∃ m : zG, m = (z_up2 g421 66 (z_ix (g421 27 50)) x1) := ⟨_, rfl⟩
                  have H := H g423 eg423
                  refine z_nmG eg423 ?_
                  refine m_n 1 (pc' := 207) (L' := [some (.ref 27), some (.int x1), some (.int x2), some (.int (m395 - (97 : Int32))), some (.int (g406 27 42))]) (S' := [.ref 27]) (fun _ => rfl) ?_
                  refine m_gR (q := 67) rfl (by decide) ?_
                  refine m_n 1 (pc' := 211) (L' := [some (.ref 27), some (.int x1), some (.int x2), some (.int (m395 - (97 : Int32))), some (.int (g406 27 42))]) (S' := [.ref 27, .ref 67]) (fun _ => rfl) ?_
                  refine m_gI rfl ?_
                  refine m_n 1 (pc' := 215) (L' := [some (.ref 27), some (.int x1), some (.int x2), some (.int (m395 - (97 : Int32))), some (.int (g406 27 42))]) (S' := [.int (m395 - (97 : Int32)), .int (g423 27 50), .ref 67]) (fun _ => rfl) ?_
                  obtain ⟨o424, H⟩ := H
                  refine m_is 16 rfl rfl rfl o424 ?_
                  obtain ⟨g425, eg425⟩ : ∃ m : zG, m = (z_up2 g423 67 (z_ix (g423 27 50)) (m395 - (97 : Int32))) := ⟨_, rfl⟩
                  have H := H g425 eg425
                  refine z_nmG eg425 ?_
                  refine m_n 1 (pc' := 217) (L' := [some (.ref 27), some (.int x1), some (.int x2), some (.int (m395 - (97 : Int32))), some (.int (g406 27 42))]) (S' := [.ref 27]) (fun _ => rfl) ?_
                  refine m_gR (q := 68) rfl (by decide) ?_
                  refine m_n 1 (pc' := 221) (L' := [some (.ref 27), some (.int x1), some (.int x2), some (.int (m395 - (97 : Int32))), some (.int (g406 27 42))]) (S' := [.ref 27, .ref 68]) (fun _ => rfl) ?_
                  refine m_gI rfl ?_
                  refine m_n 1 (pc' := 225) (L' := [some (.ref 27), some (.int x1), some (.int x2), some (.int (m395 - (97 : Int32))), some (.int (g406 27 42))]) (S' := [.int x2, .int (g425 27 50), .ref 68]) (fun _ => rfl) ?_
                  obtain ⟨o426, H⟩ := H
                  refine m_is 16 rfl rfl rfl o426 ?_
                  obtain ⟨g427, eg427⟩ : ∃ m : zG, m = (z_up2 g425 68 (z_ix (g425 27 50)) x2) := ⟨_, rfl⟩
                  have H := H g427 eg427
                  refine z_nmG eg427 ?_
                  refine m_n 1 (pc' := 227) (L' := [some (.ref 27), some (.int x1), some (.int x2), some (.int (m395 - (97 : Int32))), some (.int (g406 27 42))]) (S' := [.ref 27]) (fun _ => rfl) ?_
                  refine m_gR (q := 69) rfl (by decide) ?_
                  refine m_n 1 (pc' := 231) (L' := [some (.ref 27), some (.int x1), some (.int x2), some (.int (m395 - (97 : Int32))), some (.int (g406 27 42))]) (S' := [.ref 27, .ref 69]) (fun _ => rfl) ?_
                  refine m_gI rfl ?_
                  refine m_n 1 (pc' := 236) (L' := [some (.ref 27), some (.int x1), some (.int x2), some (.int (m395 - (97 : Int32))), some (.int (g406 27 42))]) (S' := [.int (g406 27 42), .int (g427 27 50), .ref 69]) (fun _ => rfl) ?_
                  obtain ⟨o428, H⟩ := H
                  refine m_is 16 rfl rfl rfl o428 ?_
                  obtain ⟨g429, eg429⟩ : ∃ m : zG, m = (z_up2 g427 69 (z_ix (g427 27 50)) (g406 27 42)) := ⟨_, rfl⟩
                  have H := H g429 eg429
                  refine z_nmG eg429 ?_
                  refine m_n 2 (pc' := 239) (L' := [some (.ref 27), some (.int x1), some (.int x2), some (.int (m395 - (97 : Int32))), some (.int (g406 27 42))]) (S' := [.ref 27, .ref 27]) (fun _ => rfl) ?_
                  refine m_gI rfl ?_
                  refine m_n 2 (pc' := 244) (L' := [some (.ref 27), some (.int x1), some (.int x2), some (.int (m395 - (97 : Int32))), some (.int (g406 27 42))]) (S' := [.int ((g429 27 50) + (1 : Int32)), .ref 27]) (fun _ => rfl) ?_
                  refine m_pI rfl ?_
                  obtain ⟨g430, eg430⟩ : ∃ m : zG, m = (z_up2 g429 27 50 ((g429 27 50) + (1 : Int32))) := ⟨_, rfl⟩
                  have H := H g430 eg430
                  refine z_nmG eg430 ?_
                  refine m_n 1 (pc' := 248) (L' := [some (.ref 27), some (.int x1), some (.int x2), some (.int (m395 - (97 : Int32))), some (.int (g406 27 42))]) (S' := [.ref 27]) (fun _ => rfl) ?_
                  refine m_cV 187 1 rfl rfl rfl (A := [.ref 27]) rfl rfl (Or.inr ⟨rfl, _, rfl⟩) (rest := []) rfl rfl ?_
                  refine H.mono (fun r431 g432 H => ?_)
                  exact m_r rfl rfl rfl H
                · have hc := hc
                  rw [if_neg hc] at H
                  exact m_r rfl rfl rfl H
            · have hc := hc
              rw [if_neg hc] at H
              refine m_n 1 (pc' := 190) (L' := [some (.ref 27), some (.int x1), some (.int x2), some (.int (m395 - (97 : Int32))), some (.int (g406 27 42))]) (S' := [.ref 27]) (fun _ => rfl) ?_
              refine m_gI rfl ?_
              refine m_b (c := (g408 27 37) = 0) (pc' := 196) (L' := [some (.ref 27), some (.int x1), some (.int x2), some (.int (m395 - (97 : Int32))), some (.int (g406 27 42))]) (S' := []) (pc2 := 251) (L2 := [some (.ref 27), some (.int x1), some (.int x2), some (.int (m395 - (97 : Int32))), some (.int (g406 27 42))]) (S2 := []) rfl (fun _ => rfl) (fun hc => ?_) (fun hc => ?_)
              · have hc := hc
                rw [if_pos hc] at H
                refine m_n 1 (pc' := 197) (L' := [some (.ref 27), some (.int x1), some (.int x2), some (.int (m395 - (97 : Int32))), some (.int (g406 27 42))]) (S' := [.ref 27]) (fun _ => rfl) ?_
                refine m_gR (q := 66) rfl (by decide) ?_
                refine m_n 1 (pc' := 201) (L' := [some (.ref 27), some (.int x1), some (.int x2), some (.int (m395 - (97 : Int32))), some (.int (g406 27 42))]) (S' := [.ref 27, .ref 66]) (fun _ => rfl) ?_
                refine m_gI rfl ?_
                refine m_n 1 (pc' := 205) (L' := [some (.ref 27), some (.int x1), some (.int x2), some (.int (m395 - (97 : Int32))), some (.int (g406 27 42))]) (S' := [.int x1, .int (g408 27 50), .ref 66]) (fun _ => rfl) ?_
                obtain ⟨o433, H⟩ := H
                refine m_is 16 rfl rfl rfl o433 ?_
                obtain ⟨g434, eg434⟩ : ∃ m : zG, m = (z_up2 g408 66 (z_ix (g408 27 50)) x1) := ⟨_, rfl⟩
                have H := H g434 eg434
                refine z_nmG eg434 ?_
                refine m_n 1 (pc' := 207) (L' := [some (.ref 27), some (.int x1), some (.int x2), some (.int (m395 - (97 : Int32))), some (.int (g406 27 42))]) (S' := [.ref 27]) (fun _ => rfl) ?_
                refine m_gR (q := 67) rfl (by decide) ?_
                refine m_n 1 (pc' := 211) (L' := [some (.ref 27), some (.int x1), some (.int x2), some (.int (m395 - (97 : Int32))), some (.int (g406 27 42))]) (S' := [.ref 27, .ref 67]) (fun _ => rfl) ?_
                refine m_gI rfl ?_
                refine m_n 1 (pc' := 215) (L' := [some (.ref 27), some (.int x1), some (.int x2), some (.int (m395 - (97 : Int32))), some (.int (g406 27 42))]) (S' := [.int (m395 - (97 : Int32)), .int (g434 27 50), .ref 67]) (fun _ => rfl) ?_
                obtain ⟨o435, H⟩ := H
                refine m_is 16 rfl rfl rfl o435 ?_
                obtain ⟨g436, eg436⟩ : ∃ m : zG, m = (z_up2 g434 67 (z_ix (g434 27 50)) (m395 - (97 : Int32))) := ⟨_, rfl⟩
                have H := H g436 eg436
                refine z_nmG eg436 ?_
                refine m_n 1 (pc' := 217) (L' := [some (.ref 27), some (.int x1), some (.int x2), some (.int (m395 - (97 : Int32))), some (.int (g406 27 42))]) (S' := [.ref 27]) (fun _ => rfl) ?_
                refine m_gR (q := 68) rfl (by decide) ?_
                refine m_n 1 (pc' := 221) (L' := [some (.ref 27), some (.int x1), some (.int x2), some (.int (m395 - (97 : Int32))), some (.int (g406 27 42))]) (S' := [.ref 27, .ref 68]) (fun _ => rfl) ?_
                refine m_gI rfl ?_
                refine m_n 1 (pc' := 225) (L' := [some (.ref 27), some (.int x1), some (.int x2), some (.int (m395 - (97 : Int32))), some (.int (g406 27 42))]) (S' := [.int x2, .int (g436 27 50), .ref 68]) (fun _ => rfl) ?_
                obtain ⟨o437, H⟩ := H
                refine m_is 16 rfl rfl rfl o437 ?_
                obtain ⟨g438, eg438⟩ : ∃ m : zG, m = (z_up2 g436 68 (z_ix (g436 27 50)) x2) := ⟨_, rfl⟩
                have H := H g438 eg438
                refine z_nmG eg438 ?_
                refine m_n 1 (pc' := 227) (L' := [some (.ref 27), some (.int x1), some (.int x2), some (.int (m395 - (97 : Int32))), some (.int (g406 27 42))]) (S' := [.ref 27]) (fun _ => rfl) ?_
                refine m_gR (q := 69) rfl (by decide) ?_
                refine m_n 1 (pc' := 231) (L' := [some (.ref 27), some (.int x1), some (.int x2), some (.int (m395 - (97 : Int32))), some (.int (g406 27 42))]) (S' := [.ref 27, .ref 69]) (fun _ => rfl) ?_
                refine m_gI rfl ?_
                refine m_n 1 (pc' := 236) (L' := [some (.ref 27), some (.int x1), some (.int x2), some (.int (m395 - (97 : Int32))), some (.int (g406 27 42))]) (S' := [.int (g406 27 42), .int (g438 27 50), .ref 69]) (fun _ => rfl) ?_
                obtain ⟨o439, H⟩ := H
                refine m_is 16 rfl rfl rfl o439 ?_
                obtain ⟨g440, eg440⟩ : ∃ m : zG, m = (z_up2 g438 69 (z_ix (g438 27 50)) (g406 27 42)) := ⟨_, rfl⟩
                have H := H g440 eg440
                refine z_nmG eg440 ?_
                refine m_n 2 (pc' := 239) (L' := [some (.ref 27), some (.int x1), some (.int x2), some (.int (m395 - (97 : Int32))), some (.int (g406 27 42))]) (S' := [.ref 27, .ref 27]) (fun _ => rfl) ?_
                refine m_gI rfl ?_
                refine m_n 2 (pc' := 244) (L' := [some (.ref 27), some (.int x1), some (.int x2), some (.int (m395 - (97 : Int32))), some (.int (g406 27 42))]) (S' := [.int ((g440 27 50) + (1 : Int32)), .ref 27]) (fun _ => rfl) ?_
                refine m_pI rfl ?_
                obtain ⟨g441, eg441⟩ : ∃ m : zG, m = (z_up2 g440 27 50 ((g440 27 50) + (1 : Int32))) := ⟨_, rfl⟩
                have H := H g441 eg441
                refine z_nmG eg441 ?_
                refine m_n 1 (pc' := 248) (L' := [some (.ref 27), some (.int x1), some (.int x2), some (.int (m395 - (97 : Int32))), some (.int (g406 27 42))]) (S' := [.ref 27]) (fun _ => rfl) ?_
                refine m_cV 187 1 rfl rfl rfl (A := [.ref 27]) rfl rfl (Or.inr ⟨rfl, _, rfl⟩) (rest := []) rfl rfl ?_
                refine H.mono (fun r442 g443 H => ?_)
                exact m_r rfl rfl rfl H
              · have hc := hc
                rw [if_neg hc] at H
                exact m_r rfl rfl rfl H
          refine m_b (c := x1 = (1 : Int32)) (pc' := 146) (L' := [some (.ref 27), some (.int x1), some (.int x2), some (.int (m395 - (97 : Int32))), some (.int (0 : Int32))]) (S' := [.ref 27]) (pc2 := 141) (L2 := [some (.ref 27), some (.int x1), some (.int x2), some (.int (m395 - (97 : Int32))), some (.int (0 : Int32))]) (S2 := [.ref 27]) rfl (fun _ => rfl) (fun hc => ?_) (fun hc => ?_)
          · have c401 := hc
            refine m_n 2 (pc' := 151) (L' := [some (.ref 27), some (.int x1), some (.int x2), some (.int (m395 - (97 : Int32))), some (.int (0 : Int32))]) (S' := [.int (0 : Int32), .ref 27]) (fun _ => rfl) ?_
            rw [show z_bt (¬ (x1 = (1 : Int32)) ∧ (¬ (x1 = (4 : Int32)))) = 0 from z_bt_0.mpr ((fun q => q.1 c401))] at hj403
            exact hj403
          · have c401 := hc
            refine m_n 2 (pc' := 143) (L' := [some (.ref 27), some (.int x1), some (.int x2), some (.int (m395 - (97 : Int32))), some (.int (0 : Int32))]) (S' := [.int (4 : Int32), .int x1, .ref 27]) (fun _ => rfl) ?_
            refine m_b (c := x1 = (4 : Int32)) (pc' := 146) (L' := [some (.ref 27), some (.int x1), some (.int x2), some (.int (m395 - (97 : Int32))), some (.int (0 : Int32))]) (S' := [.ref 27]) (pc2 := 150) (L2 := [some (.ref 27), some (.int x1), some (.int x2), some (.int (m395 - (97 : Int32))), some (.int (0 : Int32))]) (S2 := [.ref 27]) rfl (fun _ => rfl) (fun hc => ?_) (fun hc => ?_)
            · have c402 := hc
              refine m_n 2 (pc' := 151) (L' := [some (.ref 27), some (.int x1), some (.int x2), some (.int (m395 - (97 : Int32))), some (.int (0 : Int32))]) (S' := [.int (0 : Int32), .ref 27]) (fun _ => rfl) ?_
              rw [show z_bt (¬ (x1 = (1 : Int32)) ∧ (¬ (x1 = (4 : Int32)))) = 0 from z_bt_0.mpr ((fun q => (fun q => q c402) q.2))] at hj403
              exact hj403
            · have c402 := hc
              refine m_n 1 (pc' := 151) (L' := [some (.ref 27), some (.int x1), some (.int x2), some (.int (m395 - (97 : Int32))), some (.int (0 : Int32))]) (S' := [.int (1 : Int32), .ref 27]) (fun _ => rfl) ?_
              rw [show z_bt (¬ (x1 = (1 : Int32)) ∧ (¬ (x1 = (4 : Int32)))) = 1 from z_bt_1.mpr (⟨c401, c402⟩)] at hj403
              exact hj403
        · have hc := hc
          rw [if_neg hc] at H
          refine m_n 7 (pc' := 128) (L' := [some (.ref 27), some (.int x1), some (.int x2), some (.int (0 : Int32)), some (.int (0 : Int32))]) (S' := [.int x2, .int (0 : Int32), .int x1, .ref 27]) (fun _ => rfl) ?_
          refine m_cV 191 4 rfl rfl rfl (A := [.ref 27, .int x1, .int (0 : Int32), .int x2]) rfl rfl (Or.inr ⟨rfl, _, rfl⟩) (rest := []) rfl rfl ?_
          refine H.mono (fun r444 g445 H => ?_)
          refine m_n 1 (pc' := 132) (L' := [some (.ref 27), some (.int x1), some (.int x2), some (.int (0 : Int32)), some (.int (0 : Int32))]) (S' := [.ref 27]) (fun _ => rfl) ?_
          refine m_cV 187 1 rfl rfl rfl (A := [.ref 27]) rfl rfl (Or.inr ⟨rfl, _, rfl⟩) (rest := []) rfl rfl ?_
          refine H.mono (fun r446 g447 H => ?_)
          refine m_n 3 (pc' := 138) (L' := [some (.ref 27), some (.int x1), some (.int x2), some (.int (0 : Int32)), some (.int (0 : Int32))]) (S' := [.int (1 : Int32), .int x1, .ref 27]) (fun _ => rfl) ?_
          have hj450 : MG z_pV 193 151 [some (.ref 27), some (.int x1), some (.int x2), some (.int (0 : Int32)), some (.int (0 : Int32))] [.int (z_bt (¬ (x1 = (1 : Int32)) ∧ (¬ (x1 = (4 : Int32))))), .ref 27] g447 Q := by
            refine m_n 2 (pc' := 153) (L' := [some (.ref 27), some (.int x1), some (.int x2), some (.int (0 : Int32)), some (.int (0 : Int32))]) (S' := [.int x1, .ref 27, .int (z_bt (¬ (x1 = (1 : Int32)) ∧ (¬ (x1 = (4 : Int32))))), .ref 27]) (fun _ => rfl) ?_
            refine m_cI 192 2 rfl rfl rfl (A := [.ref 27, .int x1]) rfl rfl (Or.inr ⟨rfl, _, rfl⟩) (rest := [.int (z_bt (¬ (x1 = (1 : Int32)) ∧ (¬ (x1 = (4 : Int32))))), .ref 27]) rfl rfl rfl ?_
            obtain ⟨m451, em451⟩ : ∃ m : Int32, m = (if x1 = 0 then (9 : Int32) else (if x1 = (1 : Int32) then (9999 : Int32) else (if x1 = (2 : Int32) then (24 : Int32) else (if x1 = (3 : Int32) then (99 : Int32) else (60 : Int32))))) := ⟨_, rfl⟩
            have H := H m451 em451
            refine X_192 x1 g447 (z_all em451 ?_)
            refine m_cV 189 3 rfl rfl rfl (A := [.ref 27, .int (z_bt (¬ (x1 = (1 : Int32)) ∧ (¬ (x1 = (4 : Int32))))), .int m451]) rfl rfl (Or.inr ⟨rfl, _, rfl⟩) (rest := []) rfl rfl ?_
            refine H.mono (fun r452 g453 H => ?_)
            refine m_n 1 (pc' := 160) (L' := [some (.ref 27), some (.int x1), some (.int x2), some (.int (0 : Int32)), some (.int (0 : Int32))]) (S' := [.ref 27]) (fun _ => rfl) ?_
            refine m_gI rfl ?_
            refine m_n 2 (pc' := 166) (L' := [some (.ref 27), some (.int x1), some (.int x2), some (.int (0 : Int32)), some (.int (g453 27 42))]) (S' := [.ref 27]) (fun _ => rfl) ?_
            refine m_cV 187 1 rfl rfl rfl (A := [.ref 27]) rfl rfl (Or.inr ⟨rfl, _, rfl⟩) (rest := []) rfl rfl ?_
            refine H.mono (fun r454 g455 H => ?_)
            refine m_n 1 (pc' := 170) (L' := [some (.ref 27), some (.int x1), some (.int x2), some (.int (0 : Int32)), some (.int (g453 27 42))]) (S' := [.ref 27]) (fun _ => rfl) ?_
            refine m_gI rfl ?_
            refine m_b (c := (g455 27 37) = 0) (pc' := 176) (L' := [some (.ref 27), some (.int x1), some (.int x2), some (.int (0 : Int32)), some (.int (g453 27 42))]) (S' := []) (pc2 := 189) (L2 := [some (.ref 27), some (.int x1), some (.int x2), some (.int (0 : Int32)), some (.int (g453 27 42))]) (S2 := []) rfl (fun _ => rfl) (fun hc => ?_) (fun hc => ?_)
            · have hc := hc
              rw [if_pos hc] at H
              refine m_n 1 (pc' := 177) (L' := [some (.ref 27), some (.int x1), some (.int x2), some (.int (0 : Int32)), some (.int (g453 27 42))]) (S' := [.ref 27]) (fun _ => rfl) ?_
              refine m_gI rfl ?_
              refine m_n 1 (pc' := 181) (L' := [some (.ref 27), some (.int x1), some (.int x2), some (.int (0 : Int32)), some (.int (g453 27 42))]) (S' := [.int (3 : Int32), .int (g455 27 41)]) (fun _ => rfl) ?_
              refine m_b (c := (g455 27 41) = (3 : Int32)) (pc' := 189) (L' := [some (.ref 27), some (.int x1), some (.int x2), some (.int (0 : Int32)), some (.int (g453 27 42))]) (S' := []) (pc2 := 184) (L2 := [some (.ref 27), some (.int x1), some (.int x2), some (.int (0 : Int32)), some (.int (g453 27 42))]) (S2 := []) rfl (fun _ => rfl) (fun hc => ?_) (fun hc => ?_)
              · have hc := hc
                rw [if_pos hc] at H
                refine m_n 1 (pc' := 190) (L' := [some (.ref 27), some (.int x1), some (.int x2), some (.int (0 : Int32)), some (.int (g453 27 42))]) (S' := [.ref 27]) (fun _ => rfl) ?_
                refine m_gI rfl ?_
                refine m_b (c := (g455 27 37) = 0) (pc' := 196) (L' := [some (.ref 27), some (.int x1), some (.int x2), some (.int (0 : Int32)), some (.int (g453 27 42))]) (S' := []) (pc2 := 251) (L2 := [some (.ref 27), some (.int x1), some (.int x2), some (.int (0 : Int32)), some (.int (g453 27 42))]) (S2 := []) rfl (fun _ => rfl) (fun hc => ?_) (fun hc => ?_)
                · have hc := hc
                  rw [if_pos hc] at H
                  refine m_n 1 (pc' := 197) (L' := [some (.ref 27), some (.int x1), some (.int x2), some (.int (0 : Int32)), some (.int (g453 27 42))]) (S' := [.ref 27]) (fun _ => rfl) ?_
                  refine m_gR (q := 66) rfl (by decide) ?_
                  refine m_n 1 (pc' := 201) (L' := [some (.ref 27), some (.int x1), some (.int x2), some (.int (0 : Int32)), some (.int (g453 27 42))]) (S' := [.ref 27, .ref 66]) (fun _ => rfl) ?_
                  refine m_gI rfl ?_
                  refine m_n 1 (pc' := 205) (L' := [some (.ref 27), some (.int x1), some (.int x2), some (.int (0 : Int32)), some (.int (g453 27 42))]) (S' := [.int x1, .int (g455 27 50), .ref 66]) (fun _ => rfl) ?_
                  obtain ⟨o456, H⟩ := H
                  refine m_is 16 rfl rfl rfl o456 ?_
                  obtain ⟨g457, eg457⟩ : ∃ m : zG, m = (z_up2 g455 66 (z_ix (g455 27 50)) x1) := ⟨_, rfl⟩
                  have H := H g457 eg457
                  refine z_nmG eg457 ?_
                  refine m_n 1 (pc' := 207) (L' := [some (.ref 27), some (.int x1), some (.int x2), some (.int (0 : Int32)), some (.int (g453 27 42))]) (S' := [.ref 27]) (fun _ => rfl) ?_
                  refine m_gR (q := 67) rfl (by decide) ?_
                  refine m_n 1 (pc' := 211) (L' := [some (.ref 27), some (.int x1), some (.int x2), some (.int (0 : Int32)), some (.int (g453 27 42))]) (S' := [.ref 27, .ref 67]) (fun _ => rfl) ?_
                  refine m_gI rfl ?_
                  refine m_n 1 (pc' := 215) (L' := [some (.ref 27), some (.int x1), some (.int x2), some (.int (0 : Int32)), some (.int (g453 27 42))]) (S' := [.int (0 : Int32), .int (g457 27 50), .ref 67]) (fun _ => rfl) ?_
                  obtain ⟨o458, H⟩ := H
                  refine m_is 16 rfl rfl rfl o458 ?_
                  obtain ⟨g459, eg459⟩ : ∃ m : zG, m = (z_up2 g457 67 (z_ix (g457 27 50)) (0 : Int32)) := ⟨_, rfl⟩
                  have H := H g459 eg459
                  refine z_nmG eg459 ?_
                  refine m_n 1 (pc' := 217) (L' := [some (.ref 27), some (.int x1), some (.int x2), some (.int (0 : Int32)), some (.int (g453 27 42))]) (S' := [.ref 27]) (fun _ => rfl) ?_
                  refine m_gR (q := 68) rfl (by decide) ?_
                  refine m_n 1 (pc' := 221) (L' := [some (.ref 27), some (.int x1), some (.int x2), some (.int (0 : Int32)), some (.int (g453 27 42))]) (S' := [.ref 27, .ref 68]) (fun _ => rfl) ?_
                  refine m_gI rfl ?_
                  refine m_n 1 (pc' := 225) (L' := [some (.ref 27), some (.int x1), some (.int x2), some (.int (0 : Int32)), some (.int (g453 27 42))]) (S' := [.int x2, .int (g459 27 50), .ref 68]) (fun _ => rfl) ?_
                  obtain ⟨o460, H⟩ := H
                  refine m_is 16 rfl rfl rfl o460 ?_
                  obtain ⟨g461, eg461⟩ : ∃ m : zG, m = (z_up2 g459 68 (z_ix (g459 27 50)) x2) := ⟨_, rfl⟩
                  have H := H g461 eg461
                  refine z_nmG eg461 ?_
                  refine m_n 1 (pc' := 227) (L' := [some (.ref 27), some (.int x1), some (.int x2), some (.int (0 : Int32)), some (.int (g453 27 42))]) (S' := [.ref 27]) (fun _ => rfl) ?_
                  refine m_gR (q := 69) rfl (by decide) ?_
                  refine m_n 1 (pc' := 231) (L' := [some (.ref 27), some (.int x1), some (.int x2), some (.int (0 : Int32)), some (.int (g453 27 42))]) (S' := [.ref 27, .ref 69]) (fun _ => rfl) ?_
                  refine m_gI rfl ?_
                  refine m_n 1 (pc' := 236) (L' := [some (.ref 27), some (.int x1), some (.int x2), some (.int (0 : Int32)), some (.int (g453 27 42))]) (S' := [.int (g453 27 42), .int (g461 27 50), .ref 69]) (fun _ => rfl) ?_
                  obtain ⟨o462, H⟩ := H
                  refine m_is 16 rfl rfl rfl o462 ?_
                  obtain ⟨g463, eg463⟩ : ∃ m : zG, m = (z_up2 g461 69 (z_ix (g461 27 50)) (g453 27 42)) := ⟨_, rfl⟩
                  have H := H g463 eg463
                  refine z_nmG eg463 ?_
                  refine m_n 2 (pc' := 239) (L' := [some (.ref 27), some (.int x1), some (.int x2), some (.int (0 : Int32)), some (.int (g453 27 42))]) (S' := [.ref 27, .ref 27]) (fun _ => rfl) ?_
                  refine m_gI rfl ?_
                  refine m_n 2 (pc' := 244) (L' := [some (.ref 27), some (.int x1), some (.int x2), some (.int (0 : Int32)), some (.int (g453 27 42))]) (S' := [.int ((g463 27 50) + (1 : Int32)), .ref 27]) (fun _ => rfl) ?_
                  refine m_pI rfl ?_
                  obtain ⟨g464, eg464⟩ : ∃ m : zG, m = (z_up2 g463 27 50 ((g463 27 50) + (1 : Int32))) := ⟨_, rfl⟩
                  have H := H g464 eg464
                  refine z_nmG eg464 ?_
                  refine m_n 1 (pc' := 248) (L' := [some (.ref 27), some (.int x1), some (.int x2), some (.int (0 : Int32)), some (.int (g453 27 42))]) (S' := [.ref 27]) (fun _ => rfl) ?_
                  refine m_cV 187 1 rfl rfl rfl (A := [.ref 27]) rfl rfl (Or.inr ⟨rfl, _, rfl⟩) (rest := []) rfl rfl ?_
                  refine H.mono (fun r465 g466 H => ?_)
                  exact m_r rfl rfl rfl H
                · have hc := hc
                  rw [if_neg hc] at H
                  exact m_r rfl rfl rfl H
              · have hc := hc
                rw [if_neg hc] at H
                refine m_n 2 (pc' := 186) (L' := [some (.ref 27), some (.int x1), some (.int x2), some (.int (0 : Int32)), some (.int (g453 27 42))]) (S' := [.int (2 : Int32), .ref 27]) (fun _ => rfl) ?_
                refine m_cV 186 2 rfl rfl rfl (A := [.ref 27, .int (2 : Int32)]) rfl rfl (Or.inr ⟨rfl, _, rfl⟩) (rest := []) rfl rfl ?_
                refine H.mono (fun r467 g468 H => ?_)
                refine m_n 1 (pc' := 190) (L' := [some (.ref 27), some (.int x1), some (.int x2), some (.int (0 : Int32)), some (.int (g453 27 42))]) (S' := [.ref 27]) (fun _ => rfl) ?_
                refine m_gI rfl ?_
                refine m_b (c := (g468 27 37) = 0) (pc' := 196) (L' := [some (.ref 27), some (.int x1), some (.int x2), some (.int (0 : Int32)), some (.int (g453 27 42))]) (S' := []) (pc2 := 251) (L2 := [some (.ref 27), some (.int x1), some (.int x2), some (.int (0 : Int32)), some (.int (g453 27 42))]) (S2 := []) rfl (fun _ => rfl) (fun hc => ?_) (fun hc => ?_)
                · have hc := hc
                  rw [if_pos hc] at H
                  refine m_n 1 (pc' := 197) (L' := [some (.ref 27), some (.int x1), some (.int x2), some (.int (0 : Int32)), some (.int (g453 27 42))]) (S' := [.ref 27]) (fun _ => rfl) ?_
                  refine m_gR (q := 66) rfl (by decide) ?_
                  refine m_n 1 (pc' := 201) (L' := [some (.ref 27), some (.int x1), some (.int x2), some (.int (0 : Int32)), some (.int (g453 27 42))]) (S' := [.ref 27, .ref 66]) (fun _ => rfl) ?_
                  refine m_gI rfl ?_
                  refine m_n 1 (pc' := 205) (L' := [some (.ref 27), some (.int x1), some (.int x2), some (.int (0 : Int32)), some (.int (g453 27 42))]) (S' := [.int x1, .int (g468 27 50), .ref 66]) (fun _ => rfl) ?_
                  obtain ⟨o469, H⟩ := H
                  refine m_is 16 rfl rfl rfl o469 ?_
                  obtain ⟨g470, eg470⟩ : ∃ m : zG, m = (z_up2 g468 66 (z_ix (g468 27 50)) x1) := ⟨_, rfl⟩
                  have H := H g470 eg470
                  refine z_nmG eg470 ?_
                  refine m_n 1 (pc' := 207) (L' := [some (.ref 27), some (.int x1), some (.int x2), some (.int (0 : Int32)), some (.int (g453 27 42))]) (S' := [.ref 27]) (fun _ => rfl) ?_
                  refine m_gR (q := 67) rfl (by decide) ?_
                  refine m_n 1 (pc' := 211) (L' := [some (.ref 27), some (.int x1), some (.int x2), some (.int (0 : Int32)), some (.int (g453 27 42))]) (S' := [.ref 27, .ref 67]) (fun _ => rfl) ?_
                  refine m_gI rfl ?_
                  refine m_n 1 (pc' := 215) (L' := [some (.ref 27), some (.int x1), some (.int x2), some (.int (0 : Int32)), some (.int (g453 27 42))]) (S' := [.int (0 : Int32), .int (g470 27 50), .ref 67]) (fun _ => rfl) ?_
                  obtain ⟨o471, H⟩ := H
                  refine m_is 16 rfl rfl rfl o471 ?_
                  obtain ⟨g472, eg472⟩ : ∃ m : zG, m = (z_up2 g470 67 (z_ix (g470 27 50)) (0 : Int32)) := ⟨_, rfl⟩
                  have H := H g472 eg472
                  refine z_nmG eg472 ?_
                  refine m_n 1 (pc' := 217) (L' := [some (.ref 27), some (.int x1), some (.int x2), some (.int (0 : Int32)), some (.int (g453 27 42))]) (S' := [.ref 27]) (fun _ => rfl) ?_
                  refine m_gR (q := 68) rfl (by decide) ?_
                  refine m_n 1 (pc' := 221) (L' := [some (.ref 27), some (.int x1), some (.int x2), some (.int (0 : Int32)), some (.int (g453 27 42))]) (S' := [.ref 27, .ref 68]) (fun _ => rfl) ?_
                  refine m_gI rfl ?_
                  refine m_n 1 (pc' := 225) (L' := [some (.ref 27), some (.int x1), some (.int x2), some (.int (0 : Int32)), some (.int (g453 27 42))]) (S' := [.int x2, .int (g472 27 50), .ref 68]) (fun _ => rfl) ?_
                  obtain ⟨o473, H⟩ := H
                  refine m_is 16 rfl rfl rfl o473 ?_
                  obtain ⟨g474, eg474⟩ : ∃ m : zG, m = (z_up2 g472 68 (z_ix (g472 27 50)) x2) := ⟨_, rfl⟩
                  have H := H g474 eg474
                  refine z_nmG eg474 ?_
                  refine m_n 1 (pc' := 227) (L' := [some (.ref 27), some (.int x1), some (.int x2), some (.int (0 : Int32)), some (.int (g453 27 42))]) (S' := [.ref 27]) (fun _ => rfl) ?_
                  refine m_gR (q := 69) rfl (by decide) ?_
                  refine m_n 1 (pc' := 231) (L' := [some (.ref 27), some (.int x1), some (.int x2), some (.int (0 : Int32)), some (.int (g453 27 42))]) (S' := [.ref 27, .ref 69]) (fun _ => rfl) ?_
                  refine m_gI rfl ?_
                  refine m_n 1 (pc' := 236) (L' := [some (.ref 27), some (.int x1), some (.int x2), some (.int (0 : Int32)), some (.int (g453 27 42))]) (S' := [.int (g453 27 42), .int (g474 27 50), .ref 69]) (fun _ => rfl) ?_
                  obtain ⟨o475, H⟩ := H
                  refine m_is 16 rfl rfl rfl o475 ?_
                  obtain ⟨g476, eg476⟩ : ∃ m : zG, m = (z_up2 g474 69 (z_ix (g474 27 50)) (g453 27 42)) := ⟨_, rfl⟩
                  have H := H g476 eg476
                  refine z_nmG eg476 ?_
                  refine m_n 2 (pc' := 239) (L' := [some (.ref 27), some (.int x1), some (.int x2), some (.int (0 : Int32)), some (.int (g453 27 42))]) (S' := [.ref 27, .ref 27]) (fun _ => rfl) ?_
                  refine m_gI rfl ?_
                  refine m_n 2 (pc' := 244) (L' := [some (.ref 27), some (.int x1), some (.int x2), some (.int (0 : Int32)), some (.int (g453 27 42))]) (S' := [.int ((g476 27 50) + (1 : Int32)), .ref 27]) (fun _ => rfl) ?_
                  refine m_pI rfl ?_
                  obtain ⟨g477, eg477⟩ : ∃ m : zG, m = (z_up2 g476 27 50 ((g476 27 50) + (1 : Int32))) := ⟨_, rfl⟩
                  have H := H g477 eg477
                  refine z_nmG eg477 ?_
                  refine m_n 1 (pc' := 248) (L' := [some (.ref 27), some (.int x1), some (.int x2), some (.int (0 : Int32)), some (.int (g453 27 42))]) (S' := [.ref 27]) (fun _ => rfl) ?_
                  refine m_cV 187 1 rfl rfl rfl (A := [.ref 27]) rfl rfl (Or.inr ⟨rfl, _, rfl⟩) (rest := []) rfl rfl ?_
                  refine H.mono (fun r478 g479 H => ?_)
                  exact m_r rfl rfl rfl H
                · have hc := hc
                  rw [if_neg hc] at H
                  exact m_r rfl rfl rfl H
            · have hc := hc
              rw [if_neg hc] at H
              refine m_n 1 (pc' := 190) (L' := [some (.ref 27), some (.int x1), some (.int x2), some (.int (0 : Int32)), some (.int (g453 27 42))]) (S' := [.ref 27]) (fun _ => rfl) ?_
              refine m_gI rfl ?_
              refine m_b (c := (g455 27 37) = 0) (pc' := 196) (L' := [some (.ref 27), some (.int x1), some (.int x2), some (.int (0 : Int32)), some (.int (g453 27 42))]) (S' := []) (pc2 := 251) (L2 := [some (.ref 27), some (.int x1), some (.int x2), some (.int (0 : Int32)), some (.int (g453 27 42))]) (S2 := []) rfl (fun _ => rfl) (fun hc => ?_) (fun hc => ?_)
              · have hc := hc
                rw [if_pos hc] at H
                refine m_n 1 (pc' := 197) (L' := [some (.ref 27), some (.int x1), some (.int x2), some (.int (0 : Int32)), some (.int (g453 27 42))]) (S' := [.ref 27]) (fun _ => rfl) ?_
                refine m_gR (q := 66) rfl (by decide) ?_
                refine m_n 1 (pc' := 201) (L' := [some (.ref 27), some (.int x1), some (.int x2), some (.int (0 : Int32)), some (.int (g453 27 42))]) (S' := [.ref 27, .ref 66]) (fun _ => rfl) ?_
                refine m_gI rfl ?_
                refine m_n 1 (pc' := 205) (L' := [some (.ref 27), some (.int x1), some (.int x2), some (.int (0 : Int32)), some (.int (g453 27 42))]) (S' := [.int x1, .int (g455 27 50), .ref 66]) (fun _ => rfl) ?_
                obtain ⟨o480, H⟩ := H
                refine m_is 16 rfl rfl rfl o480 ?_
                obtain ⟨g481, eg481⟩ : ∃ m : zG, m = (z_up2 g455 66 (z_ix (g455 27 50)) x1) := ⟨_, rfl⟩
                have H := H g481 eg481
                refine z_nmG eg481 ?_
                refine m_n 1 (pc' := 207) (L' := [some (.ref 27), some (.int x1), some (.int x2), some (.int (0 : Int32)), some (.int (g453 27 42))]) (S' := [.ref 27]) (fun _ => rfl) ?_
                refine m_gR (q := 67) rfl (by decide) ?_
                refine m_n 1 (pc' := 211) (L' := [some (.ref 27), some (.int x1), some (.int x2), some (.int (0 : Int32)), some (.int (g453 27 42))]) (S' := [.ref 27, .ref 67]) (fun _ => rfl) ?_
                refine m_gI rfl ?_
                refine m_n 1 (pc' := 215) (L' := [some (.ref 27), some (.int x1), some (.int x2), some (.int (0 : Int32)), some (.int (g453 27 42))]) (S' := [.int (0 : Int32), .int (g481 27 50), .ref 67]) (fun _ => rfl) ?_
                obtain ⟨o482, H⟩ := H
                refine m_is 16 rfl rfl rfl o482 ?_
                obtain ⟨g483, eg483⟩ : ∃ m : zG, m = (z_up2 g481 67 (z_ix (g481 27 50)) (0 : Int32)) := ⟨_, rfl⟩
                have H := H g483 eg483
                refine z_nmG eg483 ?_
                refine m_n 1 (pc' := 217) (L' := [some (.ref 27), some (.int x1), some (.int x2), some (.int (0 : Int32)), some (.int (g453 27 42))]) (S' := [.ref 27]) (fun _ => rfl) ?_
                refine m_gR (q := 68) rfl (by decide) ?_
                refine m_n 1 (pc' := 221) (L' := [some (.ref 27), some (.int x1), some (.int x2), some (.int (0 : Int32)), some (.int (g453 27 42))]) (S' := [.ref 27, .ref 68]) (fun _ => rfl) ?_
                refine m_gI rfl ?_
                refine m_n 1 (pc' := 225) (L' := [some (.ref 27), some (.int x1), some (.int x2), some (.int (0 : Int32)), some (.int (g453 27 42))]) (S' := [.int x2, .int (g483 27 50), .ref 68]) (fun _ => rfl) ?_
                obtain ⟨o484, H⟩ := H
                refine m_is 16 rfl rfl rfl o484 ?_
                obtain ⟨g485, eg485⟩ : ∃ m : zG, m = (z_up2 g483 68 (z_ix (g483 27 50)) x2) := ⟨_, rfl⟩
                have H := H g485 eg485
                refine z_nmG eg485 ?_
                refine m_n 1 (pc' := 227) (L' := [some (.ref 27), some (.int x1), some (.int x2), some (.int (0 : Int32)), some (.int (g453 27 42))]) (S' := [.ref 27]) (fun _ => rfl) ?_
                refine m_gR (q := 69) rfl (by decide) ?_
                refine m_n 1 (pc' := 231) (L' := [some (.ref 27), some (.int x1), some (.int x2), some (.int (0 : Int32)), some (.int (g453 27 42))]) (S' := [.ref 27, .ref 69]) (fun _ => rfl) ?_
                refine m_gI rfl ?_
                refine m_n 1 (pc' := 236) (L' := [some (.ref 27), some (.int x1), some (.int x2), some (.int (0 : Int32)), some (.int (g453 27 42))]) (S' := [.int (g453 27 42), .int (g485 27 50), .ref 69]) (fun _ => rfl) ?_
                obtain ⟨o486, H⟩ := H
                refine m_is 16 rfl rfl rfl o486 ?_
                obtain ⟨g487, eg487⟩ : ∃ m : zG, m = (z_up2 g485 69 (z_ix (g485 27 50)) (g453 27 42)) := ⟨_, rfl⟩
                have H := H g487 eg487
                refine z_nmG eg487 ?_
                refine m_n 2 (pc' := 239) (L' := [some (.ref 27), some (.int x1), some (.int x2), some (.int (0 : Int32)), some (.int (g453 27 42))]) (S' := [.ref 27, .ref 27]) (fun _ => rfl) ?_
                refine m_gI rfl ?_
                refine m_n 2 (pc' := 244) (L' := [some (.ref 27), some (.int x1), some (.int x2), some (.int (0 : Int32)), some (.int (g453 27 42))]) (S' := [.int ((g487 27 50) + (1 : Int32)), .ref 27]) (fun _ => rfl) ?_
                refine m_pI rfl ?_
                obtain ⟨g488, eg488⟩ : ∃ m : zG, m = (z_up2 g487 27 50 ((g487 27 50) + (1 : Int32))) := ⟨_, rfl⟩
                have H := H g488 eg488
                refine z_nmG eg488 ?_
                refine m_n 1 (pc' := 248) (L' := [some (.ref 27), some (.int x1), some (.int x2), some (.int (0 : Int32)), some (.int (g453 27 42))]) (S' := [.ref 27]) (fun _ => rfl) ?_
                refine m_cV 187 1 rfl rfl rfl (A := [.ref 27]) rfl rfl (Or.inr ⟨rfl, _, rfl⟩) (rest := []) rfl rfl ?_
                refine H.mono (fun r489 g490 H => ?_)
                exact m_r rfl rfl rfl H
              · have hc := hc
                rw [if_neg hc] at H
                exact m_r rfl rfl rfl H
          refine m_b (c := x1 = (1 : Int32)) (pc' := 146) (L' := [some (.ref 27), some (.int x1), some (.int x2), some (.int (0 : Int32)), some (.int (0 : Int32))]) (S' := [.ref 27]) (pc2 := 141) (L2 := [some (.ref 27), some (.int x1), some (.int x2), some (.int (0 : Int32)), some (.int (0 : Int32))]) (S2 := [.ref 27]) rfl (fun _ => rfl) (fun hc => ?_) (fun hc => ?_)
          · have c448 := hc
            refine m_n 2 (pc' := 151) (L' := [some (.ref 27), some (.int x1), some (.int x2), some (.int (0 : Int32)), some (.int (0 : Int32))]) (S' := [.int (0 : Int32), .ref 27]) (fun _ => rfl) ?_
            rw [show z_bt (¬ (x1 = (1 : Int32)) ∧ (¬ (x1 = (4 : Int32)))) = 0 from z_bt_0.mpr ((fun q => q.1 c448))] at hj450
            exact hj450
          · have c448 := hc
            refine m_n 2 (pc' := 143) (L' := [some (.ref 27), some (.int x1), some (.int x2), some (.int (0 : Int32)), some (.int (0 : Int32))]) (S' := [.int (4 : Int32), .int x1, .ref 27]) (fun _ => rfl) ?_
            refine m_b (c := x1 = (4 : Int32)) (pc' := 146) (L' := [some (.ref 27), some (.int x1), some (.int x2), some (.int (0 : Int32)), some (.int (0 : Int32))]) (S' := [.ref 27]) (pc2 := 150) (L2 := [some (.ref 27), some (.int x1), some (.int x2), some (.int (0 : Int32)), some (.int (0 : Int32))]) (S2 := [.ref 27]) rfl (fun _ => rfl) (fun hc => ?_) (fun hc => ?_)
            · have c449 := hc
              refine m_n 2 (pc' := 151) (L' := [some (.ref 27), some (.int x1), some (.int x2), some (.int (0 : Int32)), some (.int (0 : Int32))]) (S' := [.int (0 : Int32), .ref 27]) (fun _ => rfl) ?_
              rw [show z_bt (¬ (x1 = (1 : Int32)) ∧ (¬ (x1 = (4 : Int32)))) = 0 from z_bt_0.mpr ((fun q => (fun q => q c449) q.2))] at hj450
              exact hj450
            · have c449 := hc
              refine m_n 1 (pc' := 151) (L' := [some (.ref 27), some (.int x1), some (.int x2), some (.int (0 : Int32)), some (.int (0 : Int32))]) (S' := [.int (1 : Int32), .ref 27]) (fun _ => rfl) ?_
              rw [show z_bt (¬ (x1 = (1 : Int32)) ∧ (¬ (x1 = (4 : Int32)))) = 1 from z_bt_1.mpr (⟨c448, c449⟩)] at hj450
              exact hj450
    · have hc := hc
      rw [if_neg hc] at H
      refine m_n 3 (pc' := 116) (L' := [some (.ref 27), some (.int x1), some (.int x2), some (.int (0 : Int32)), some (.int (0 : Int32))]) (S' := [.int (5 : Int32), .int (0 : Int32), .ref 27]) (fun _ => rfl) ?_
      refine m_cV 189 3 rfl rfl rfl (A := [.ref 27, .int (0 : Int32), .int (5 : Int32)]) rfl rfl (Or.inr ⟨rfl, _, rfl⟩) (rest := []) rfl rfl ?_
      refine H.mono (fun r491 g492 H => ?_)
      refine m_n 1 (pc' := 120) (L' := [some (.ref 27), some (.int x1), some (.int x2), some (.int (0 : Int32)), some (.int (0 : Int32))]) (S' := [.ref 27]) (fun _ => rfl) ?_
      refine m_gI rfl ?_
      refine m_n 5 (pc' := 128) (L' := [some (.ref 27), some (.int x1), some (.int x2), some (.int (g492 27 42)), some (.int (0 : Int32))]) (S' := [.int x2, .int (g492 27 42), .int x1, .ref 27]) (fun _ => rfl) ?_
      refine m_cV 191 4 rfl rfl rfl (A := [.ref 27, .int x1, .int (g492 27 42), .int x2]) rfl rfl (Or.inr ⟨rfl, _, rfl⟩) (rest := []) rfl rfl ?_
      refine H.mono (fun r493 g494 H => ?_)
      refine m_n 1 (pc' := 132) (L' := [some (.ref 27), some (.int x1), some (.int x2), some (.int (g492 27 42)), some (.int (0 : Int32))]) (S' := [.ref 27]) (fun _ => rfl) ?_
      refine m_cV 187 1 rfl rfl rfl (A := [.ref 27]) rfl rfl (Or.inr ⟨rfl, _, rfl⟩) (rest := []) rfl rfl ?_
      refine H.mono (fun r495 g496 H => ?_)
      refine m_n 3 (pc' := 138) (L' := [some (.ref 27), some (.int x1), some (.int x2), some (.int (g492 27 42)), some (.int (0 : Int32))]) (S' := [.int (1 : Int32), .int x1, .ref 27]) (fun _ => rfl) ?_
      have hj499 : MG z_pV 193 151 [some (.ref 27), some (.int x1), some (.int x2), some (.int (g492 27 42)), some (.int (0 : Int32))] [.int (z_bt (¬ (x1 = (1 : Int32)) ∧ (¬ (x1 = (4 : Int32))))), .ref 27] g496 Q := by
        refine m_n 2 (pc' := 153) (L' := [some (.ref 27), some (.int x1), some (.int x2), some (.int (g492 27 42)), some (.int (0 : Int32))]) (S' := [.int x1, .ref 27, .int (z_bt (¬ (x1 = (1 : Int32)) ∧ (¬ (x1 = (4 : Int32))))), .ref 27]) (fun _ => rfl) ?_
        refine m_cI 192 2 rfl rfl rfl (A := [.ref 27, .int x1]) rfl rfl (Or.inr ⟨rfl, _, rfl⟩) (rest := [.int (z_bt (¬ (x1 = (1 : Int32)) ∧ (¬ (x1 = (4 : Int32))))), .ref 27]) rfl rfl rfl ?_
        obtain ⟨m500, em500⟩ : ∃ m : Int32, m = (if x1 = 0 then (9 : Int32) else (if x1 = (1 : Int32) then (9999 : Int32) else (if x1 = (2 : Int32) then (24 : Int32) else (if x1 = (3 : Int32) then (99 : Int32) else (60 : Int32))))) := ⟨_, rfl⟩
        have H := H m500 em500
        refine X_192 x1 g496 (z_all em500 ?_)
        refine m_cV 189 3 rfl rfl rfl (A := [.ref 27, .int (z_bt (¬ (x1 = (1 : Int32)) ∧ (¬ (x1 = (4 : Int32))))), .int m500]) rfl rfl (Or.inr ⟨rfl, _, rfl⟩) (rest := []) rfl rfl ?_
        refine H.mono (fun r501 g502 H => ?_)
        refine m_n 1 (pc' := 160) (L' := [some (.ref 27), some (.int x1), some (.int x2), some (.int (g492 27 42)), some (.int (0 : Int32))]) (S' := [.ref 27]) (fun _ => rfl) ?_
        refine m_gI rfl ?_
        refine m_n 2 (pc' := 166) (L' := [some (.ref 27), some (.int x1), some (.int x2), some (.int (g492 27 42)), some (.int (g502 27 42))]) (S' := [.ref 27]) (fun _ => rfl) ?_
        refine m_cV 187 1 rfl rfl rfl (A := [.ref 27]) rfl rfl (Or.inr ⟨rfl, _, rfl⟩) (rest := []) rfl rfl ?_
        refine H.mono (fun r503 g504 H => ?_)
        refine m_n 1 (pc' := 170) (L' := [some (.ref 27), some (.int x1), some (.int x2), some (.int (g492 27 42)), some (.int (g502 27 42))]) (S' := [.ref 27]) (fun _ => rfl) ?_
        refine m_gI rfl ?_
        refine m_b (c := (g504 27 37) = 0) (pc' := 176) (L' := [some (.ref 27), some (.int x1), some (.int x2), some (.int (g492 27 42)), some (.int (g502 27 42))]) (S' := []) (pc2 := 189) (L2 := [some (.ref 27), some (.int x1), some (.int x2), some (.int (g492 27 42)), some (.int (g502 27 42))]) (S2 := []) rfl (fun _ => rfl) (fun hc => ?_) (fun hc => ?_)
        · have hc := hc
          rw [if_pos hc] at H
          refine m_n 1 (pc' := 177) (L' := [some (.ref 27), some (.int x1), some (.int x2), some (.int (g492 27 42)), some (.int (g502 27 42))]) (S' := [.ref 27]) (fun _ => rfl) ?_
          refine m_gI rfl ?_
          refine m_n 1 (pc' := 181) (L' := [some (.ref 27), some (.int x1), some (.int x2), some (.int (g492 27 42)), some (.int (g502 27 42))]) (S' := [.int (3 : Int32), .int (g504 27 41)]) (fun _ => rfl) ?_
          refine m_b (c := (g504 27 41) = (3 : Int32)) (pc' := 189) (L' := [some (.ref 27), some (.int x1), some (.int x2), some (.int (g492 27 42)), some (.int (g502 27 42))]) (S' := []) (pc2 := 184) (L2 := [some (.ref 27), some (.int x1), some (.int x2), some (.int (g492 27 42)), some (.int (g502 27 42))]) (S2 := []) rfl (fun _ => rfl) (fun hc => ?_) (fun hc => ?_)
          · have hc := hc
            rw [if_pos hc] at H
            refine m_n 1 (pc' := 190) (L' := [some (.ref 27), some (.int x1), some (.int x2), some (.int (g492 27 42)), some (.int (g502 27 42))]) (S' := [.ref 27]) (fun _ => rfl) ?_
            refine m_gI rfl ?_
            refine m_b (c := (g504 27 37) = 0) (pc' := 196) (L' := [some (.ref 27), some (.int x1), some (.int x2), some (.int (g492 27 42)), some (.int (g502 27 42))]) (S' := []) (pc2 := 251) (L2 := [some (.ref 27), some (.int x1), some (.int x2), some (.int (g492 27 42)), some (.int (g502 27 42))]) (S2 := []) rfl (fun _ => rfl) (fun hc => ?_) (fun hc => ?_)
            · have hc := hc
              rw [if_pos hc] at H
              refine m_n 1 (pc' := 197) (L' := [some (.ref 27), some (.int x1), some (.int x2), some (.int (g492 27 42)), some (.int (g502 27 42))]) (S' := [.ref 27]) (fun _ => rfl) ?_
              refine m_gR (q := 66) rfl (by decide) ?_
              refine m_n 1 (pc' := 201) (L' := [some (.ref 27), some (.int x1), some (.int x2), some (.int (g492 27 42)), some (.int (g502 27 42))]) (S' := [.ref 27, .ref 66]) (fun _ => rfl) ?_
              refine m_gI rfl ?_
              refine m_n 1 (pc' := 205) (L' := [some (.ref 27), some (.int x1), some (.int x2), some (.int (g492 27 42)), some (.int (g502 27 42))]) (S' := [.int x1, .int (g504 27 50), .ref 66]) (fun _ => rfl) ?_
              obtain ⟨o505, H⟩ := H
              refine m_is 16 rfl rfl rfl o505 ?_
              obtain ⟨g506, eg506⟩ : ∃ m : zG, m = (z_up2 g504 66 (z_ix (g504 27 50)) x1) := ⟨_, rfl⟩
              have H := H g506 eg506
              refine z_nmG eg506 ?_
              refine m_n 1 (pc' := 207) (L' := [some (.ref 27), some (.int x1), some (.int x2), some (.int (g492 27 42)), some (.int (g502 27 42))]) (S' := [.ref 27]) (fun _ => rfl) ?_
              refine m_gR (q := 67) rfl (by decide) ?_
              refine m_n 1 (pc' := 211) (L' := [some (.ref 27), some (.int x1), some (.int x2), some (.int (g492 27 42)), some (.int (g502 27 42))]) (S' := [.ref 27, .ref 67]) (fun _ => rfl) ?_
              refine m_gI rfl ?_
              refine m_n 1 (pc' := 215) (L' := [some (.ref 27), some (.int x1), some (.int x2), some (.int (g492 27 42)), some (.int (g502 27 42))]) (S' := [.int (g492 27 42), .int (g506 27 50), .ref 67]) (fun _ => rfl) ?_
              obtain ⟨o507, H⟩ := H
              refine m_is 16 rfl rfl rfl o507 ?_
              obtain ⟨g508, eg508⟩ : ∃ m : zG, m = (z_up2 g506 67 (z_ix (g506 27 50)) (g492 27 42)) := ⟨_, rfl⟩
              have H := H g508 eg508
              refine z_nmG eg508 ?_
              refine m_n 1 (pc' := 217) (L' := [some (.ref 27), some (.int x1), some (.int x2), some (.int (g492 27 42)), some (.int (g502 27 42))]) (S' := [.ref 27]) (fun _ => rfl) ?_
              refine m_gR (q := 68) rfl (by decide) ?_
              refine m_n 1 (pc' := 221) (L' := [some (.ref 27), some (.int x1), some (.int x2), some (.int (g492 27 42)), some (.int (g502 27 42))]) (S' := [.ref 27, .ref 68]) (fun _ => rfl) ?_
              refine m_gI rfl ?_
              refine m_n 1 (pc' := 225) (L' := [some (.ref 27), some (.int x1), some (.int x2), some (.int (g492 27 42)), some (.int (g502 27 42))]) (S' := [.int x2, .int (g508 27 50), .ref 68]) (fun _ => rfl) ?_
              obtain ⟨o509, H⟩ := H
              refine m_is 16 rfl rfl rfl o509 ?_
              obtain ⟨g510, eg510⟩ : ∃ m : zG, m = (z_up2 g508 68 (z_ix (g508 27 50)) x2) := ⟨_, rfl⟩
              have H := H g510 eg510
              refine z_nmG eg510 ?_
              refine m_n 1 (pc' := 227) (L' := [some (.ref 27), some (.int x1), some (.int x2), some (.int (g492 27 42)), some (.int (g502 27 42))]) (S' := [.ref 27]) (fun _ => rfl) ?_
              refine m_gR (q := 69) rfl (by decide) ?_
              refine m_n 1 (pc' := 231) (L' := [some (.ref 27), some (.int x1), some (.int x2), some (.int (g492 27 42)), some (.int (g502 27 42))]) (S' := [.ref 27, .ref 69]) (fun _ => rfl) ?_
              refine m_gI rfl ?_
              refine m_n 1 (pc' := 236) (L' := [some (.ref 27), some (.int x1), some (.int x2), some (.int (g492 27 42)), some (.int (g502 27 42))]) (S' := [.int (g502 27 42), .int (g510 27 50), .ref 69]) (fun _ => rfl) ?_
              obtain ⟨o511, H⟩ := H
              refine m_is 16 rfl rfl rfl o511 ?_
              obtain ⟨g512, eg512⟩ : ∃ m : zG, m = (z_up2 g510 69 (z_ix (g510 27 50)) (g502 27 42)) := ⟨_, rfl⟩
              have H := H g512 eg512
              refine z_nmG eg512 ?_
              refine m_n 2 (pc' := 239) (L' := [some (.ref 27), some (.int x1), some (.int x2), some (.int (g492 27 42)), some (.int (g502 27 42))]) (S' := [.ref 27, .ref 27]) (fun _ => rfl) ?_
              refine m_gI rfl ?_
              refine m_n 2 (pc' := 244) (L' := [some (.ref 27), some (.int x1), some (.int x2), some (.int (g492 27 42)), some (.int (g502 27 42))]) (S' := [.int ((g512 27 50) + (1 : Int32)), .ref 27]) (fun _ => rfl) ?_
              refine m_pI rfl ?_
              obtain ⟨g513, eg513⟩ : ∃ m : zG, m = (z_up2 g512 27 50 ((g512 27 50) + (1 : Int32))) := ⟨_, rfl⟩
              have H := H g513 eg513
              refine z_nmG eg513 ?_
              refine m_n 1 (pc' := 248) (L' := [some (.ref 27), some (.int x1), some (.int x2), some (.int (g492 27 42)), some (.int (g502 27 42))]) (S' := [.ref 27]) (fun _ => rfl) ?_
              refine m_cV 187 1 rfl rfl rfl (A := [.ref 27]) rfl rfl (Or.inr ⟨rfl, _, rfl⟩) (rest := []) rfl rfl ?_
              refine H.mono (fun r514 g515 H => ?_)
              exact m_r rfl rfl rfl H
            · have hc := hc
              rw [if_neg hc] at H
              exact m_r rfl rfl rfl H
          · have hc := hc
            rw [if_neg hc] at H
            refine m_n 2 (pc' := 186) (L' := [some (.ref 27), some (.int x1), some (.int x2), some (.int (g492 27 42)), some (.int (g502 27 42))]) (S' := [.int (2 : Int32), .ref 27]) (fun _ => rfl) ?_
            refine m_cV 186 2 rfl rfl rfl (A := [.ref 27, .int (2 : Int32)]) rfl rfl (Or.inr ⟨rfl, _, rfl⟩) (rest := []) rfl rfl ?_
            refine H.mono (fun r516 g517 H => ?_)
            refine m_n 1 (pc' := 190) (L' := [some (.ref 27), some (.int x1), some (.int x2), some (.int (g492 27 42)), some (.int (g502 27 42))]) (S' := [.ref 27]) (fun _ => rfl) ?_
            refine m_gI rfl ?_
            refine m_b (c := (g517 27 37) = 0) (pc' := 196) (L' := [some (.ref 27), some (.int x1), some (.int x2), some (.int (g492 27 42)), some (.int (g502 27 42))]) (S' := []) (pc2 := 251) (L2 := [some (.ref 27), some (.int x1), some (.int x2), some (.int (g492 27 42)), some (.int (g502 27 42))]) (S2 := []) rfl (fun _ => rfl) (fun hc => ?_) (fun hc => ?_)
            · have hc := hc
              rw [if_pos hc] at H
              refine m_n 1 (pc' := 197) (L' := [some (.ref 27), some (.int x1), some (.int x2), some (.int (g492 27 42)), some (.int (g502 27 42))]) (S' := [.ref 27]) (fun _ => rfl) ?_
              refine m_gR (q := 66) rfl (by decide) ?_
              refine m_n 1 (pc' := 201) (L' := [some (.ref 27), some (.int x1), some (.int x2), some (.int (g492 27 42)), some (.int (g502 27 42))]) (S' := [.ref 27, .ref 66]) (fun _ => rfl) ?_
              refine m_gI rfl ?_
              refine m_n 1 (pc' := 205) (L' := [some (.ref 27), some (.int x1), some (.int x2), some (.int (g492 27 42)), some (.int (g502 27 42))]) (S' := [.int x1, .int (g517 27 50), .ref 66]) (fun _ => rfl) ?_
              obtain ⟨o518, H⟩ := H
              refine m_is 16 rfl rfl rfl o518 ?_
              obtain ⟨g519, eg519⟩ : ∃ m : zG, m = (z_up2 g517 66 (z_ix (g517 27 50)) x1) := ⟨_, rfl⟩
              have H := H g519 eg519
              refine z_nmG eg519 ?_
              refine m_n 1 (pc' := 207) (L' := [some (.ref 27), some (.int x1), some (.int x2), some (.int (g492 27 42)), some (.int (g502 27 42))]) (S' := [.ref 27]) (fun _ => rfl) ?_
              refine m_gR (q := 67) rfl (by decide) ?_
              refine m_n 1 (pc' := 211) (L' := [some (.ref 27), some (.int x1), some (.int x2), some (.int (g492 27 42)), some (.int (g502 27 42))]) (S' := [.ref 27, .ref 67]) (fun _ => rfl) ?_
              refine m_gI rfl ?_
              refine m_n 1 (pc' := 215) (L' := [some (.ref 27), some (.int x1), some (.int x2), some (.int (g492 27 42)), some (.int (g502 27 42))]) (S' := [.int (g492 27 42), .int (g519 27 50), .ref 67]) (fun _ => rfl) ?_
              obtain ⟨o520, H⟩ := H
              refine m_is 16 rfl rfl rfl o520 ?_
              obtain ⟨g521, eg521⟩ : ∃ m : zG, m = (z_up2 g519 67 (z_ix (g519 27 50)) (g492 27 42)) := ⟨_, rfl⟩
              have H := H g521 eg521
              refine z_nmG eg521 ?_
              refine m_n 1 (pc' := 217) (L' := [some (.ref 27), some (.int x1), some (.int x2), some (.int (g492 27 42)), some (.int (g502 27 42))]) (S' := [.ref 27]) (fun _ => rfl) ?_
              refine m_gR (q := 68) rfl (by decide) ?_
              refine m_n 1 (pc' := 221) (L' := [some (.ref 27), some (.int x1), some (.int x2), some (.int (g492 27 42)), some (.int (g502 27 42))]) (S' := [.ref 27, .ref 68]) (fun _ => rfl) ?_
              refine m_gI rfl ?_
              refine m_n 1 (pc' := 225) (L' := [some (.ref 27), some (.int x1), some (.int x2), some (.int (g492 27 42)), some (.int (g502 27 42))]) (S' := [.int x2, .int (g521 27 50), .ref 68]) (fun _ => rfl) ?_
              obtain ⟨o522, H⟩ := H
              refine m_is 16 rfl rfl rfl o522 ?_
              obtain ⟨g523, eg523⟩ : ∃ m : zG, m = (z_up2 g521 68 (z_ix (g521 27 50)) x2) := ⟨_, rfl⟩
              have H := H g523 eg523
              refine z_nmG eg523 ?_
              refine m_n 1 (pc' := 227) (L' := [some (.ref 27), some (.int x1), some (.int x2), some (.int (g492 27 42)), some (.int (g502 27 42))]) (S' := [.ref 27]) (fun _ => rfl) ?_
              refine m_gR (q := 69) rfl (by decide) ?_
              refine m_n 1 (pc' := 231) (L' := [some (.ref 27), some (.int x1), some (.int x2), some (.int (g492 27 42)), some (.int (g502 27 42))]) (S' := [.ref 27, .ref 69]) (fun _ => rfl) ?_
              refine m_gI rfl ?_
              refine m_n 1 (pc' := 236) (L' := [some (.ref 27), some (.int x1), some (.int x2), some (.int (g492 27 42)), some (.int (g502 27 42))]) (S' := [.int (g502 27 42), .int (g523 27 50), .ref 69]) (fun _ => rfl) ?_
              obtain ⟨o524, H⟩ := H
              refine m_is 16 rfl rfl rfl o524 ?_
              obtain ⟨g525, eg525⟩ : ∃ m : zG, m = (z_up2 g523 69 (z_ix (g523 27 50)) (g502 27 42)) := ⟨_, rfl⟩
              have H := H g525 eg525
              refine z_nmG eg525 ?_
              refine m_n 2 (pc' := 239) (L' := [some (.ref 27), some (.int x1), some (.int x2), some (.int (g492 27 42)), some (.int (g502 27 42))]) (S' := [.ref 27, .ref 27]) (fun _ => rfl) ?_
              refine m_gI rfl ?_
              refine m_n 2 (pc' := 244) (L' := [some (.ref 27), some (.int x1), some (.int x2), some (.int (g492 27 42)), some (.int (g502 27 42))]) (S' := [.int ((g525 27 50) + (1 : Int32)), .ref 27]) (fun _ => rfl) ?_
              refine m_pI rfl ?_
              obtain ⟨g526, eg526⟩ : ∃ m : zG, m = (z_up2 g525 27 50 ((g525 27 50) + (1 : Int32))) := ⟨_, rfl⟩
              have H := H g526 eg526
              refine z_nmG eg526 ?_
              refine m_n 1 (pc' := 248) (L' := [some (.ref 27), some (.int x1), some (.int x2), some (.int (g492 27 42)), some (.int (g502 27 42))]) (S' := [.ref 27]) (fun _ => rfl) ?_
              refine m_cV 187 1 rfl rfl rfl (A := [.ref 27]) rfl rfl (Or.inr ⟨rfl, _, rfl⟩) (rest := []) rfl rfl ?_
              refine H.mono (fun r527 g528 H => ?_)
              exact m_r rfl rfl rfl H
            · have hc := hc
              rw [if_neg hc] at H
              exact m_r rfl rfl rfl H
        · have hc := hc
          rw [if_neg hc] at H
          refine m_n 1 (pc' := 190) (L' := [some (.ref 27), some (.int x1), some (.int x2), some (.int (g492 27 42)), some (.int (g502 27 42))]) (S' := [.ref 27]) (fun _ => rfl) ?_
          refine m_gI rfl ?_
          refine m_b (c := (g504 27 37) = 0) (pc' := 196) (L' := [some (.ref 27), some (.int x1), some (.int x2), some (.int (g492 27 42)), some (.int (g502 27 42))]) (S' := []) (pc2 := 251) (L2 := [some (.ref 27), some (.int x1), some (.int x2), some (.int (g492 27 42)), some (.int (g502 27 42))]) (S2 := []) rfl (fun _ => rfl) (fun hc => ?_) (fun hc => ?_)
          · have hc := hc
            rw [if_pos hc] at H
            refine m_n 1 (pc' := 197) (L' := [some (.ref 27), some (.int x1), some (.int x2), some (.int (g492 27 42)), some (.int (g502 27 42))]) (S' := [.ref 27]) (fun _ => rfl) ?_
            refine m_gR (q := 66) rfl (by decide) ?_
            refine m_n 1 (pc' := 201) (L' := [some (.ref 27), some (.int x1), some (.int x2), some (.int (g492 27 42)), some (.int (g502 27 42))]) (S' := [.ref 27, .ref 66]) (fun _ => rfl) ?_
            refine m_gI rfl ?_
            refine m_n 1 (pc' := 205) (L' := [some (.ref 27), some (.int x1), some (.int x2), some (.int (g492 27 42)), some (.int (g502 27 42))]) (S' := [.int x1, .int (g504 27 50), .ref 66]) (fun _ => rfl) ?_
            obtain ⟨o529, H⟩ := H
            refine m_is 16 rfl rfl rfl o529 ?_
            obtain ⟨g530, eg530⟩ : ∃ m : zG, m = (z_up2 g504 66 (z_ix (g504 27 50)) x1) := ⟨_, rfl⟩
            have H := H g530 eg530
            refine z_nmG eg530 ?_
            refine m_n 1 (pc' := 207) (L' := [some (.ref 27), some (.int x1), some (.int x2), some (.int (g492 27 42)), some (.int (g502 27 42))]) (S' := [.ref 27]) (fun _ => rfl) ?_
            refine m_gR (q := 67) rfl (by decide) ?_
            refine m_n 1 (pc' := 211) (L' := [some (.ref 27), some (.int x1), some (.int x2), some (.int (g492 27 42)), some (.int (g502 27 42))]) (S' := [.ref 27, .ref 67]) (fun _ => rfl) ?_
            refine m_gI rfl ?_
            refine m_n 1 (pc' := 215) (L' := [some (.ref 27), some (.int x1), some (.int x2), some (.int (g492 27 42)), some (.int (g502 27 42))]) (S' := [.int (g492 27 42), .int (g530 27 50), .ref 67]) (fun _ => rfl) ?_
            obtain ⟨o531, H⟩ := H
            refine m_is 16 rfl rfl rfl o531 ?_
            obtain ⟨g532, eg532⟩ : ∃ m : zG, m = (z_up2 g530 67 (z_ix (g530 27 50)) (g492 27 42)) := ⟨_, rfl⟩
            have H := H g532 eg532
            refine z_nmG eg532 ?_
            refine m_n 1 (pc' := 217) (L' := [some (.ref 27), some (.int x1), some (.int x2), some (.int (g492 27 42)), some (.int (g502 27 42))]) (S' := [.ref 27]) (fun _ => rfl) ?_
            refine m_gR (q := 68) rfl (by decide) ?_
            refine m_n 1 (pc' := 221) (L' := [some (.ref 27), some (.int x1), some (.int x2), some (.int (g492 27 42)), some (.int (g502 27 42))]) (S' := [.ref 27, .ref 68]) (fun _ => rfl) ?_
            refine m_gI rfl ?_
            refine m_n 1 (pc' := 225) (L' := [some (.ref 27), some (.int x1), some (.int x2), some (.int (g492 27 42)), some (.int (g502 27 42))]) (S' := [.int x2, .int (g532 27 50), .ref 68]) (fun _ => rfl) ?_
            obtain ⟨o533, H⟩ := H
            refine m_is 16 rfl rfl rfl o533 ?_
            obtain ⟨g534, eg534⟩ : ∃ m : zG, m = (z_up2 g532 68 (z_ix (g532 27 50)) x2) := ⟨_, rfl⟩
            have H := H g534 eg534
            refine z_nmG eg534 ?_
            refine m_n 1 (pc' := 227) (L' := [some (.ref 27), some (.int x1), some (.int x2), some (.int (g492 27 42)), some (.int (g502 27 42))]) (S' := [.ref 27]) (fun _ => rfl) ?_
            refine m_gR (q := 69) rfl (by decide) ?_
            refine m_n 1 (pc' := 231) (L' := [some (.ref 27), some (.int x1), some (.int x2), some (.int (g492 27 42)), some (.int (g502 27 42))]) (S' := [.ref 27, .ref 69]) (fun _ => rfl) ?_
            refine m_gI rfl ?_
            refine m_n 1 (pc' := 236) (L' := [some (.ref 27), some (.int x1), some (.int x2), some (.int (g492 27 42)), some (.int (g502 27 42))]) (S' := [.int (g502 27 42), .int (g534 27 50), .ref 69]) (fun _ => rfl) ?_
            obtain ⟨o535, H⟩ := H
            refine m_is 16 rfl rfl rfl o535 ?_
            obtain ⟨g536, eg536⟩ : ∃ m : zG, m = (z_up2 g534 69 (z_ix (g534 27 50)) (g502 27 42)) := ⟨_, rfl⟩
            have H := H g536 eg536
            refine z_nmG eg536 ?_
            refine m_n 2 (pc' := 239) (L' := [some (.ref 27), some (.int x1), some (.int x2), some (.int (g492 27 42)), some (.int (g502 27 42))]) (S' := [.ref 27, .ref 27]) (fun _ => rfl) ?_
            refine m_gI rfl ?_
            refine m_n 2 (pc' := 244) (L' := [some (.ref 27), some (.int x1), some (.int x2), some (.int (g492 27 42)), some (.int (g502 27 42))]) (S' := [.int ((g536 27 50) + (1 : Int32)), .ref 27]) (fun _ => rfl) ?_
            refine m_pI rfl ?_
            obtain ⟨g537, eg537⟩ : ∃ m : zG, m = (z_up2 g536 27 50 ((g536 27 50) + (1 : Int32))) := ⟨_, rfl⟩
            have H := H g537 eg537
            refine z_nmG eg537 ?_
            refine m_n 1 (pc' := 248) (L' := [some (.ref 27), some (.int x1), some (.int x2), some (.int (g492 27 42)), some (.int (g502 27 42))]) (S' := [.ref 27]) (fun _ => rfl) ?_
            refine m_cV 187 1 rfl rfl rfl (A := [.ref 27]) rfl rfl (Or.inr ⟨rfl, _, rfl⟩) (rest := []) rfl rfl ?_
            refine H.mono (fun r538 g539 H => ?_)
            exact m_r rfl rfl rfl H
          · have hc := hc
            rw [if_neg hc] at H
            exact m_r rfl rfl rfl H
      refine m_b (c := x1 = (1 : Int32)) (pc' := 146) (L' := [some (.ref 27), some (.int x1), some (.int x2), some (.int (g492 27 42)), some (.int (0 : Int32))]) (S' := [.ref 27]) (pc2 := 141) (L2 := [some (.ref 27), some (.int x1), some (.int x2), some (.int (g492 27 42)), some (.int (0 : Int32))]) (S2 := [.ref 27]) rfl (fun _ => rfl) (fun hc => ?_) (fun hc => ?_)
      · have c497 := hc
        refine m_n 2 (pc' := 151) (L' := [some (.ref 27), some (.int x1), some (.int x2), some (.int (g492 27 42)), some (.int (0 : Int32))]) (S' := [.int (0 : Int32), .ref 27]) (fun _ => rfl) ?_
        rw [show z_bt (¬ (x1 = (1 : Int32)) ∧ (¬ (x1 = (4 : Int32)))) = 0 from z_bt_0.mpr ((fun q => q.1 c497))] at hj499
        exact hj499
      · have c497 := hc
        refine m_n 2 (pc' := 143) (L' := [some (.ref 27), some (.int x1), some (.int x2), some (.int (g492 27 42)), some (.int (0 : Int32))]) (S' := [.int (4 : Int32), .int x1, .ref 27]) (fun _ => rfl) ?_
        refine m_b (c := x1 = (4 : Int32)) (pc' := 146) (L' := [some (.ref 27), some (.int x1), some (.int x2), some (.int (g492 27 42)), some (.int (0 : Int32))]) (S' := [.ref 27]) (pc2 := 150) (L2 := [some (.ref 27), some (.int x1), some (.int x2), some (.int (g492 27 42)), some (.int (0 : Int32))]) (S2 := [.ref 27]) rfl (fun _ => rfl) (fun hc => ?_) (fun hc => ?_)
        · have c498 := hc
          refine m_n 2 (pc' := 151) (L' := [some (.ref 27), some (.int x1), some (.int x2), some (.int (g492 27 42)), some (.int (0 : Int32))]) (S' := [.int (0 : Int32), .ref 27]) (fun _ => rfl) ?_
          rw [show z_bt (¬ (x1 = (1 : Int32)) ∧ (¬ (x1 = (4 : Int32)))) = 0 from z_bt_0.mpr ((fun q => (fun q => q c498) q.2))] at hj499
          exact hj499
        · have c498 := hc
          refine m_n 1 (pc' := 151) (L' := [some (.ref 27), some (.int x1), some (.int x2), some (.int (g492 27 42)), some (.int (0 : Int32))]) (S' := [.int (1 : Int32), .ref 27]) (fun _ => rfl) ?_
          rw [show z_bt (¬ (x1 = (1 : Int32)) ∧ (¬ (x1 = (4 : Int32)))) = 1 from z_bt_1.mpr (⟨c497, c498⟩)] at hj499
          exact hj499
  · have hc := hc
    rw [if_neg hc] at H
    refine m_n 4 (pc' := 14) (L' := [some (.ref 27), some (.int x1), some (.int x2), some (.int (0 : Int32)), some (.int (0 : Int32))]) (S' := [.int x2, .int (0 : Int32), .int x1, .ref 27]) (fun _ => rfl) ?_
    refine m_cV 191 4 rfl rfl rfl (A := [.ref 27, .int x1, .int (0 : Int32), .int x2]) rfl rfl (Or.inr ⟨rfl, _, rfl⟩) (rest := []) rfl rfl ?_
    refine H.mono (fun r540 g541 H => ?_)
    refine m_n 1 (pc' := 18) (L' := [some (.ref 27), some (.int x1), some (.int x2), some (.int (0 : Int32)), some (.int (0 : Int32))]) (S' := [.ref 27]) (fun _ => rfl) ?_
    refine m_cV 187 1 rfl rfl rfl (A := [.ref 27]) rfl rfl (Or.inr ⟨rfl, _, rfl⟩) (rest := []) rfl rfl ?_
    refine H.mono (fun r542 g543 H => ?_)
    refine m_n 2 (pc' := 170) (L' := [some (.ref 27), some (.int x1), some (.int x2), some (.int (0 : Int32)), some (.int (0 : Int32))]) (S' := [.ref 27]) (fun _ => rfl) ?_
    refine m_gI rfl ?_
    refine m_b (c := (g543 27 37) = 0) (pc' := 176) (L' := [some (.ref 27), some (.int x1), some (.int x2), some (.int (0 : Int32)), some (.int (0 : Int32))]) (S' := []) (pc2 := 189) (L2 := [some (.ref 27), some (.int x1), some (.int x2), some (.int (0 : Int32)), some (.int (0 : Int32))]) (S2 := []) rfl (fun _ => rfl) (fun hc => ?_) (fun hc => ?_)
    · have hc := hc
      rw [if_pos hc] at H
      refine m_n 1 (pc' := 177) (L' := [some (.ref 27), some (.int x1), some (.int x2), some (.int (0 : Int32)), some (.int (0 : Int32))]) (S' := [.ref 27]) (fun _ => rfl) ?_
      refine m_gI rfl ?_
      refine m_n 1 (pc' := 181) (L' := [some (.ref 27), some (.int x1), some (.int x2), some (.int (0 : Int32)), some (.int (0 : Int32))]) (S' := [.int (3 : Int32), .int (g543 27 41)]) (fun _ => rfl) ?_
      refine m_b (c := (g543 27 41) = (3 : Int32)) (pc' := 189) (L' := [some (.ref 27), some (.int x1), some (.int x2), some (.int (0 : Int32)), some (.int (0 : Int32))]) (S' := []) (pc2 := 184) (L2 := [some (.ref 27), some (.int x1), some (.int x2), some (.int (0 : Int32)), some (.int (0 : Int32))]) (S2 := []) rfl (fun _ => rfl) (fun hc => ?_) (fun hc => ?_)
      · have hc := hc
        rw [if_pos hc] at H
        refine m_n 1 (pc' := 190) (L' := [some (.ref 27), some (.int x1), some (.int x2), some (.int (0 : Int32)), some (.int (0 : Int32))]) (S' := [.ref 27]) (fun _ => rfl) ?_
        refine m_gI rfl ?_
        refine m_b (c := (g543 27 37) = 0) (pc' := 196) (L' := [some (.ref 27), some (.int x1), some (.int x2), some (.int (0 : Int32)), some (.int (0 : Int32))]) (S' := []) (pc2 := 251) (L2 := [some (.ref 27), some (.int x1), some (.int x2), some (.int (0 : Int32)), some (.int (0 : Int32))]) (S2 := []) rfl (fun _ => rfl) (fun hc => ?_) (fun hc => ?_)
        · have hc := hc
          rw [if_pos hc] at H
          refine m_n 1 (pc' := 197) (L' := [some (.ref 27), some (.int x1), some (.int x2), some (.int (0 : Int32)), some (.int (0 : Int32))]) (S' := [.ref 27]) (fun _ => rfl) ?_
          refine m_gR (q := 66) rfl (by decide) ?_
          refine m_n 1 (pc' := 201) (L' := [some (.ref 27), some (.int x1), some (.int x2), some (.int (0 : Int32)), some (.int (0 : Int32))]) (S' := [.ref 27, .ref 66]) (fun _ => rfl) ?_
          refine m_gI rfl ?_
          refine m_n 1 (pc' := 205) (L' := [some (.ref 27), some (.int x1), some (.int x2), some (.int (0 : Int32)), some (.int (0 : Int32))]) (S' := [.int x1, .int (g543 27 50), .ref 66]) (fun _ => rfl) ?_
          obtain ⟨o544, H⟩ := H
          refine m_is 16 rfl rfl rfl o544 ?_
          obtain ⟨g545, eg545⟩ : ∃ m : zG, m = (z_up2 g543 66 (z_ix (g543 27 50)) x1) := ⟨_, rfl⟩
          have H := H g545 eg545
          refine z_nmG eg545 ?_
          refine m_n 1 (pc' := 207) (L' := [some (.ref 27), some (.int x1), some (.int x2), some (.int (0 : Int32)), some (.int (0 : Int32))]) (S' := [.ref 27]) (fun _ => rfl) ?_
          refine m_gR (q := 67) rfl (by decide) ?_
          refine m_n 1 (pc' := 211) (L' := [some (.ref 27), some (.int x1), some (.int x2), some (.int (0 : Int32)), some (.int (0 : Int32))]) (S' := [.ref 27, .ref 67]) (fun _ => rfl) ?_
          refine m_gI rfl ?_
          refine m_n 1 (pc' := 215) (L' := [some (.ref 27), some (.int x1), some (.int x2), some (.int (0 : Int32)), some (.int (0 : Int32))]) (S' := [.int (0 : Int32), .int (g545 27 50), .ref 67]) (fun _ => rfl) ?_
          obtain ⟨o546, H⟩ := H
          refine m_is 16 rfl rfl rfl o546 ?_
          obtain ⟨g547, eg547⟩ : ∃ m : zG, m = (z_up2 g545 67 (z_ix (g545 27 50)) (0 : Int32)) := ⟨_, rfl⟩
          have H := H g547 eg547
          refine z_nmG eg547 ?_
          refine m_n 1 (pc' := 217) (L' := [some (.ref 27), some (.int x1), some (.int x2), some (.int (0 : Int32)), some (.int (0 : Int32))]) (S' := [.ref 27]) (fun _ => rfl) ?_
          refine m_gR (q := 68) rfl (by decide) ?_
          refine m_n 1 (pc' := 221) (L' := [some (.ref 27), some (.int x1), some (.int x2), some (.int (0 : Int32)), some (.int (0 : Int32))]) (S' := [.ref 27, .ref 68]) (fun _ => rfl) ?_
          refine m_gI rfl ?_
          refine m_n 1 (pc' := 225) (L' := [some (.ref 27), some (.int x1), some (.int x2), some (.int (0 : Int32)), some (.int (0 : Int32))]) (S' := [.int x2, .int (g547 27 50), .ref 68]) (fun _ => rfl) ?_
          obtain ⟨o548, H⟩ := H
          refine m_is 16 rfl rfl rfl o548 ?_
          obtain ⟨g549, eg549⟩ : ∃ m : zG, m = (z_up2 g547 68 (z_ix (g547 27 50)) x2) := ⟨_, rfl⟩
          have H := H g549 eg549
          refine z_nmG eg549 ?_
          refine m_n 1 (pc' := 227) (L' := [some (.ref 27), some (.int x1), some (.int x2), some (.int (0 : Int32)), some (.int (0 : Int32))]) (S' := [.ref 27]) (fun _ => rfl) ?_
          refine m_gR (q := 69) rfl (by decide) ?_
          refine m_n 1 (pc' := 231) (L' := [some (.ref 27), some (.int x1), some (.int x2), some (.int (0 : Int32)), some (.int (0 : Int32))]) (S' := [.ref 27, .ref 69]) (fun _ => rfl) ?_
          refine m_gI rfl ?_
          refine m_n 1 (pc' := 236) (L' := [some (.ref 27), some (.int x1), some (.int x2), some (.int (0 : Int32)), some (.int (0 : Int32))]) (S' := [.int (0 : Int32), .int (g549 27 50), .ref 69]) (fun _ => rfl) ?_
          obtain ⟨o550, H⟩ := H
          refine m_is 16 rfl rfl rfl o550 ?_
          obtain ⟨g551, eg551⟩ : ∃ m : zG, m = (z_up2 g549 69 (z_ix (g549 27 50)) (0 : Int32)) := ⟨_, rfl⟩
          have H := H g551 eg551
          refine z_nmG eg551 ?_
          refine m_n 2 (pc' := 239) (L' := [some (.ref 27), some (.int x1), some (.int x2), some (.int (0 : Int32)), some (.int (0 : Int32))]) (S' := [.ref 27, .ref 27]) (fun _ => rfl) ?_
          refine m_gI rfl ?_
          refine m_n 2 (pc' := 244) (L' := [some (.ref 27), some (.int x1), some (.int x2), some (.int (0 : Int32)), some (.int (0 : Int32))]) (S' := [.int ((g551 27 50) + (1 : Int32)), .ref 27]) (fun _ => rfl) ?_
          refine m_pI rfl ?_
          obtain ⟨g552, eg552⟩ : ∃ m : zG, m = (z_up2 g551 27 50 ((g551 27 50) + (1 : Int32))) := ⟨_, rfl⟩
          have H := H g552 eg552
          refine z_nmG eg552 ?_
          refine m_n 1 (pc' := 248) (L' := [some (.ref 27), some (.int x1), some (.int x2), some (.int (0 : Int32)), some (.int (0 : Int32))]) (S' := [.ref 27]) (fun _ => rfl) ?_
          refine m_cV 187 1 rfl rfl rfl (A := [.ref 27]) rfl rfl (Or.inr ⟨rfl, _, rfl⟩) (rest := []) rfl rfl ?_
          refine H.mono (fun r553 g554 H => ?_)
          exact m_r rfl rfl rfl H
        · have hc := hc
          rw [if_neg hc] at H
          exact m_r rfl rfl rfl H
      · have hc := hc
        rw [if_neg hc] at H
        refine m_n 2 (pc' := 186) (L' := [some (.ref 27), some (.int x1), some (.int x2), some (.int (0 : Int32)), some (.int (0 : Int32))]) (S' := [.int (2 : Int32), .ref 27]) (fun _ => rfl) ?_
        refine m_cV 186 2 rfl rfl rfl (A := [.ref 27, .int (2 : Int32)]) rfl rfl (Or.inr ⟨rfl, _, rfl⟩) (rest := []) rfl rfl ?_
        refine H.mono (fun r555 g556 H => ?_)
        refine m_n 1 (pc' := 190) (L' := [some (.ref 27), some (.int x1), some (.int x2), some (.int (0 : Int32)), some (.int (0 : Int32))]) (S' := [.ref 27]) (fun _ => rfl) ?_
        refine m_gI rfl ?_
        refine m_b (c := (g556 27 37) = 0) (pc' := 196) (L' := [some (.ref 27), some (.int x1), some (.int x2), some (.int (0 : Int32)), some (.int (0 : Int32))]) (S' := []) (pc2 := 251) (L2 := [some (.ref 27), some (.int x1), some (.int x2), some (.int (0 : Int32)), some (.int (0 : Int32))]) (S2 := []) rfl (fun _ => rfl) (fun hc => ?_) (fun hc => ?_)
        · have hc := hc
          rw [if_pos hc] at H
          refine m_n 1 (pc' := 197) (L' := [some (.ref 27), some (.int x1), some (.int x2), some (.int (0 : Int32)), some (.int (0 : Int32))]) (S' := [.ref 27]) (fun _ => rfl) ?_
          refine m_gR (q := 66) rfl (by decide) ?_
          refine m_n 1 (pc' := 201) (L' := [some (.ref 27), some (.int x1), some (.int x2), some (.int (0 : Int32)), some (.int (0 : Int32))]) (S' := [.ref 27, .ref 66]) (fun _ => rfl) ?_
          refine m_gI rfl ?_
          refine m_n 1 (pc' := 205) (L' := [some (.ref 27), some (.int x1), some (.int x2), some (.int (0 : Int32)), some (.int (0 : Int32))]) (S' := [.int x1, .int (g556 27 50), .ref 66]) (fun _ => rfl) ?_
          obtain ⟨o557, H⟩ := H
          refine m_is 16 rfl rfl rfl o557 ?_
          obtain ⟨g558, eg558⟩ : ∃ m : zG, m = (z_up2 g556 66 (z_ix (g556 27 50)) x1) := ⟨_, rfl⟩
          have H := H g558 eg558
          refine z_nmG eg558 ?_
          refine m_n 1 (pc' := 207) (L' := [some (.ref 27), some (.int x1), some (.int x2), some (.int (0 : Int32)), some (.int (0 : Int32))]) (S' := [.ref 27]) (fun _ => rfl) ?_
          refine m_gR (q := 67) rfl (by decide) ?_
          refine m_n 1 (pc' := 211) (L' := [some (.ref 27), some (.int x1), some (.int x2), some (.int (0 : Int32)), some (.int (0 : Int32))]) (S' := [.ref 27, .ref 67]) (fun _ => rfl) ?_
          refine m_gI rfl ?_
          refine m_n 1 (pc' := 215) (L' := [some (.ref 27), some (.int x1), some (.int x2), some (.int (0 : Int32)), some (.int (0 : Int32))]) (S' := [.int (0 : Int32), .int (g558 27 50), .ref 67]) (fun _ => rfl) ?_
          obtain ⟨o559, H⟩ := H
          refine m_is 16 rfl rfl rfl o559 ?_
          obtain ⟨g560, eg560⟩ : ∃ m : zG, m = (z_up2 g558 67 (z_ix (g558 27 50)) (0 : Int32)) := ⟨_, rfl⟩
          have H := H g560 eg560
          refine z_nmG eg560 ?_
          refine m_n 1 (pc' := 217) (L' := [some (.ref 27), some (.int x1), some (.int x2), some (.int (0 : Int32)), some (.int (0 : Int32))]) (S' := [.ref 27]) (fun _ => rfl) ?_
          refine m_gR (q := 68) rfl (by decide) ?_
          refine m_n 1 (pc' := 221) (L' := [some (.ref 27), some (.int x1), some (.int x2), some (.int (0 : Int32)), some (.int (0 : Int32))]) (S' := [.ref 27, .ref 68]) (fun _ => rfl) ?_
          refine m_gI rfl ?_
          refine m_n 1 (pc' := 225) (L' := [some (.ref 27), some (.int x1), some (.int x2), some (.int (0 : Int32)), some (.int (0 : Int32))]) (S' := [.int x2, .int (g560 27 50), .ref 68]) (fun _ => rfl) ?_
          obtain ⟨o561, H⟩ := H
          refine m_is 16 rfl rfl rfl o561 ?_
          obtain ⟨g562, eg562⟩ : ∃ m : zG, m = (z_up2 g560 68 (z_ix (g560 27 50)) x2) := ⟨_, rfl⟩
          have H := H g562 eg562
          refine z_nmG eg562 ?_
          refine m_n 1 (pc' := 227) (L' := [some (.ref 27), some (.int x1), some (.int x2), some (.int (0 : Int32)), some (.int (0 : Int32))]) (S' := [.ref 27]) (fun _ => rfl) ?_
          refine m_gR (q := 69) rfl (by decide) ?_
          refine m_n 1 (pc' := 231) (L' := [some (.ref 27), some (.int x1), some (.int x2), some (.int (0 : Int32)), some (.int (0 : Int32))]) (S' := [.ref 27, .ref 69]) (fun _ => rfl) ?_
          refine m_gI rfl ?_
          refine m_n 1 (pc' := 236) (L' := [some (.ref 27), some (.int x1), some (.int x2), some (.int (0 : Int32)), some (.int (0 : Int32))]) (S' := [.int (0 : Int32), .int (g562 27 50), .ref 69]) (fun _ => rfl) ?_
          obtain ⟨o563, H⟩ := H
          refine m_is 16 rfl rfl rfl o563 ?_
          obtain ⟨g564, eg564⟩ : ∃ m : zG, m = (z_up2 g562 69 (z_ix (g562 27 50)) (0 : Int32)) := ⟨_, rfl⟩
          have H := H g564 eg564
          refine z_nmG eg564 ?_
          refine m_n 2 (pc' := 239) (L' := [some (.ref 27), some (.int x1), some (.int x2), some (.int (0 : Int32)), some (.int (0 : Int32))]) (S' := [.ref 27, .ref 27]) (fun _ => rfl) ?_
          refine m_gI rfl ?_
          refine m_n 2 (pc' := 244) (L' := [some (.ref 27), some (.int x1), some (.int x2), some (.int (0 : Int32)), some (.int (0 : Int32))]) (S' := [.int ((g564 27 50) + (1 : Int32)), .ref 27]) (fun _ => rfl) ?_
          refine m_pI rfl ?_
          obtain ⟨g565, eg565⟩ : ∃ m : zG, m = (z_up2 g564 27 50 ((g564 27 50) + (1 : Int32))) := ⟨_, rfl⟩
          have H := H g565 eg565
          refine z_nmG eg565 ?_
          refine m_n 1 (pc' := 248) (L' := [some (.ref 27), some (.int x1), some (.int x2), some (.int (0 : Int32)), some (.int (0 : Int32))]) (S' := [.ref 27]) (fun _ => rfl) ?_
          refine m_cV 187 1 rfl rfl rfl (A := [.ref 27]) rfl rfl (Or.inr ⟨rfl, _, rfl⟩) (rest := []) rfl rfl ?_
          refine H.mono (fun r566 g567 H => ?_)
          exact m_r rfl rfl rfl H
        · have hc := hc
          rw [if_neg hc] at H
          exact m_r rfl rfl rfl H
    · have hc := hc
      rw [if_neg hc] at H
      refine m_n 1 (pc' := 190) (L' := [some (.ref 27), some (.int x1), some (.int x2), some (.int (0 : Int32)), some (.int (0 : Int32))]) (S' := [.ref 27]) (fun _ => rfl) ?_
      refine m_gI rfl ?_
      refine m_b (c := (g543 27 37) = 0) (pc' := 196) (L' := [some (.ref 27), some (.int x1), some (.int x2), some (.int (0 : Int32)), some (.int (0 : Int32))]) (S' := []) (pc2 := 251) (L2 := [some (.ref 27), some (.int x1), some (.int x2), some (.int (0 : Int32)), some (.int (0 : Int32))]) (S2 := []) rfl (fun _ => rfl) (fun hc => ?_) (fun hc => ?_)
      · have hc := hc
        rw [if_pos hc] at H
        refine m_n 1 (pc' := 197) (L' := [some (.ref 27), some (.int x1), some (.int x2), some (.int (0 : Int32)), some (.int (0 : Int32))]) (S' := [.ref 27]) (fun _ => rfl) ?_
        refine m_gR (q := 66) rfl (by decide) ?_
        refine m_n 1 (pc' := 201) (L' := [some (.ref 27), some (.int x1), some (.int x2), some (.int (0 : Int32)), some (.int (0 : Int32))]) (S' := [.ref 27, .ref 66]) (fun _ => rfl) ?_
        refine m_gI rfl ?_
        refine m_n 1 (pc' := 205) (L' := [some (.ref 27), some (.int x1), some (.int x2), some (.int (0 : Int32)), some (.int (0 : Int32))]) (S' := [.int x1, .int (g543 27 50), .ref 66]) (fun _ => rfl) ?_
        obtain ⟨o568, H⟩ := H
        refine m_is 16 rfl rfl rfl o568 ?_
        obtain ⟨g569, eg569⟩ : ∃ m : zG, m = (z_up2 g543 66 (z_ix (g543 27 50)) x1) := ⟨_, rfl⟩
        have H := H g569 eg569
        refine z_nmG eg569 ?_
        refine m_n 1 (pc' := 207) (L' := [some (.ref 27), some (.int x1), some (.int x2), some (.int (0 : Int32)), some (.int (0 : Int32))]) (S' := [.ref 27]) (fun _ => rfl) ?_
        refine m_gR (q := 67) rfl (by decide) ?_
        refine m_n 1 (pc' := 211) (L' := [some (.ref 27), some (.int x1), some (.int x2), some (.int (0 : Int32)), some (.int (0 : Int32))]) (S' := [.ref 27, .ref 67]) (fun _ => rfl) ?_
        refine m_gI rfl ?_
        refine m_n 1 (pc' := 215) (L' := [some (.ref 27), some (.int x1), some (.int x2), some (.int (0 : Int32)), some (.int (0 : Int32))]) (S' := [.int (0 : Int32), .int (g569 27 50), .ref 67]) (fun _ => rfl) ?_
        obtain ⟨o570, H⟩ := H
        refine m_is 16 rfl rfl rfl o570 ?_
        obtain ⟨g571, eg571⟩ : ∃ m : zG, m = (z_up2 g569 67 (z_ix (g569 27 50)) (0 : Int32)) := ⟨_, rfl⟩
        have H := H g571 eg571
        refine z_nmG eg571 ?_
        refine m_n 1 (pc' := 217) (L' := [some (.ref 27), some (.int x1), some (.int x2), some (.int (0 : Int32)), some (.int (0 : Int32))]) (S' := [.ref 27]) (fun _ => rfl) ?_
        refine m_gR (q := 68) rfl (by decide) ?_
        refine m_n 1 (pc' := 221) (L' := [some (.ref 27), some (.int x1), some (.int x2), some (.int (0 : Int32)), some (.int (0 : Int32))]) (S' := [.ref 27, .ref 68]) (fun _ => rfl) ?_
        refine m_gI rfl ?_
        refine m_n 1 (pc' := 225) (L' := [some (.ref 27), some (.int x1), some (.int x2), some (.int (0 : Int32)), some (.int (0 : Int32))]) (S' := [.int x2, .int (g571 27 50), .ref 68]) (fun _ => rfl) ?_
        obtain ⟨o572, H⟩ := H
        refine m_is 16 rfl rfl rfl o572 ?_
        obtain ⟨g573, eg573⟩ : ∃ m : zG, m = (z_up2 g571 68 (z_ix (g571 27 50)) x2) := ⟨_, rfl⟩
        have H := H g573 eg573
        refine z_nmG eg573 ?_
        refine m_n 1 (pc' := 227) (L' := [some (.ref 27), some (.int x1), some (.int x2), some (.int (0 : Int32)), some (.int (0 : Int32))]) (S' := [.ref 27]) (fun _ => rfl) ?_
        refine m_gR (q := 69) rfl (by decide) ?_
        refine m_n 1 (pc' := 231) (L' := [some (.ref 27), some (.int x1), some (.int x2), some (.int (0 : Int32)), some (.int (0 : Int32))]) (S' := [.ref 27, .ref 69]) (fun _ => rfl) ?_
        refine m_gI rfl ?_
        refine m_n 1 (pc' := 236) (L' := [some (.ref 27), some (.int x1), some (.int x2), some (.int (0 : Int32)), some (.int (0 : Int32))]) (S' := [.int (0 : Int32), .int (g573 27 50), .ref 69]) (fun _ => rfl) ?_
        obtain ⟨o574, H⟩ := H
        refine m_is 16 rfl rfl rfl o574 ?_
        obtain ⟨g575, eg575⟩ : ∃ m : zG, m = (z_up2 g573 69 (z_ix (g573 27 50)) (0 : Int32)) := ⟨_, rfl⟩
        have H := H g575 eg575
        refine z_nmG eg575 ?_
        refine m_n 2 (pc' := 239) (L' := [some (.ref 27), some (.int x1), some (.int x2), some (.int (0 : Int32)), some (.int (0 : Int32))]) (S' := [.ref 27, .ref 27]) (fun _ => rfl) ?_
        refine m_gI rfl ?_
        refine m_n 2 (pc' := 244) (L' := [some (.ref 27), some (.int x1), some (.int x2), some (.int (0 : Int32)), some (.int (0 : Int32))]) (S' := [.int ((g575 27 50) + (1 : Int32)), .ref 27]) (fun _ => rfl) ?_
        refine m_pI rfl ?_
        obtain ⟨g576, eg576⟩ : ∃ m : zG, m = (z_up2 g575 27 50 ((g575 27 50) + (1 : Int32))) := ⟨_, rfl⟩
        have H := H g576 eg576
        refine z_nmG eg576 ?_
        refine m_n 1 (pc' := 248) (L' := [some (.ref 27), some (.int x1), some (.int x2), some (.int (0 : Int32)), some (.int (0 : Int32))]) (S' := [.ref 27]) (fun _ => rfl) ?_
        refine m_cV 187 1 rfl rfl rfl (A := [.ref 27]) rfl rfl (Or.inr ⟨rfl, _, rfl⟩) (rest := []) rfl rfl ?_
        refine H.mono (fun r577 g578 H => ?_)
        exact m_r rfl rfl rfl H
      · have hc := hc
        rw [if_neg hc] at H
        exact m_r rfl rfl rfl H
set_option maxRecDepth 20000 in
theorem X_194  (g : zG) {Q : Unit → zG → Prop} (H : MK z_pI 188 [.ref 27] g (fun r1 g2 => if r1 = (-4 : Int32) then (MK z_pV 186 [.ref 27, .int (2 : Int32)] g2 (fun r3 g4 => if (g4 27 37) = 0 then (if r1 = (7 : Int32) then (MK z_pV 187 [.ref 27] g4 (fun r5 g6 => MK z_pV 189 [.ref 27, .int (0 : Int32), .int (59 : Int32)] g6 (fun r7 g8 => MK z_pV 187 [.ref 27] g8 (fun r9 g10 => MK z_pI 188 [.ref 27] g10 (fun r11 g12 => if r11 = (-4 : Int32) then (MK z_pV 186 [.ref 27, .int (2 : Int32)] g12 (fun r13 g14 => if (g14 27 37) = 0 then (MK z_pV 193 [.ref 27, .int r11, .int (g8 27 42)] g14 (fun r15 g16 => Q () g16)) else (Q () g14))) else (if r11 = (7 : Int32) then (MK z_pV 186 [.ref 27, .int (2 : Int32)] g12 (fun r17 g18 => if (g18 27 37) = 0 then (MK z_pV 193 [.ref 27, .int r11, .int (g8 27 42)] g18 (fun r19 g20 => Q () g20)) else (Q () g18))) else (if (g12 27 37) = 0 then (MK z_pV 193 [.ref 27, .int r11, .int (g8 27 42)] g12 (fun r21 g22 => Q () g22)) else (Q () g12)))))))) else (if (g4 27 37) = 0 then (MK z_pV 193 [.ref 27, .int r1, .int (0 : Int32)] g4 (fun r23 g24 => Q () g24)) else (Q () g4))) else (if (g4 27 37) = 0 then (MK z_pV 193 [.ref 27, .int r1, .int (0 : Int32)] g4 (fun r25 g26 => Q () g26)) else (Q () g4)))) else (if (g2 27 50) = (16 : Int32) then (MK z_pV 186 [.ref 27, .int (4 : Int32)] g2 (fun r27 g28 => if (g28 27 37) = 0 then (if r1 = (7 : Int32) then (MK z_pV 187 [.ref 27] g28 (fun r29 g30 => MK z_pV 189 [.ref 27, .int (0 : Int32), .int (59 : Int32)] g30 (fun r31 g32 => MK z_pV 187 [.ref 27] g32 (fun r33 g34 => MK z_pI 188 [.ref 27] g34 (fun r35 g36 => if r35 = (-4 : Int32) then (MK z_pV 186 [.ref 27, .int (2 : Int32)] g36 (fun r37 g38 => if (g38 27 37) = 0 then (MK z_pV 193 [.ref 27, .int r35, .int (g32 27 42)] g38 (fun r39 g40 => Q () g40)) else (Q () g38))) else (if r35 = (7 : Int32) then (MK z_pV 186 [.ref 27, .int (2 : Int32)] g36 (fun r41 g42 => if (g42 27 37) = 0 then (MK z_pV 193 [.ref 27, .int r35, .int (g32 27 42)] g42 (fun r43 g44 => Q () g44)) else (Q () g42))) else (if (g36 27 37) = 0 then (MK z_pV 193 [.ref 27, .int r35, .int (g32 27 42)] g36 (fun r45 g46 => Q () g46)) else (Q () g36)))))))) else (if (g28 27 37) = 0 then (MK z_pV 193 [.ref 27, .int r1, .int (0 : Int32)] g28 (fun r47 g48 => Q () g48)) else (Q () g28))) else (if (g28 27 37) = 0 then (MK z_pV 193 [.ref 27, .int r1, .int (0 : Int32)] g28 (fun r49 g50 => Q () g50)) else (Q () g28)))) else (if (g2 27 37) = 0 then (if r1 = (7 : Int32) then (MK z_pV 187 [.ref 27] g2 (fun r51 g52 => MK z_pV 189 [.ref 27, .int (0 : Int32), .int (59 : Int32)] g52 (fun r53 g54 => MK z_pV 187 [.ref 27] g54 (fun r55 g56 => MK z_pI 188 [.ref 27] g56 (fun r57 g58 => if r57 = (-4 : Int32) then (MK z_pV 186 [.ref 27, .int (2 : Int32)] g58 (fun r59 g60 => if (g60 27 37) = 0 then (MK z_pV 193 [.ref 27, .int r57, .int (g54 27 42)] g60 (fun r61 g62 => Q () g62)) else (Q () g60))) else (if r57 = (7 : Int32) then (MK z_pV 186 [.ref 27, .int (2 : Int32)] g58 (fun r63 g64 => if (g64 27 37) = 0 then (MK z_pV 193 [.ref 27, .int r57, .int (g54 27 42)] g64 (fun r65 g66 => Q () g66)) else (Q () g64))) else (if (g58 27 37) = 0 then (MK z_pV 193 [.ref 27, .int r57, .int (g54 27 42)] g58 (fun r67 g68 => Q () g68)) else (Q () g58)))))))) else (if (g2 27 37) = 0 then (MK z_pV 193 [.ref 27, .int r1, .int (0 : Int32)] g2 (fun r69 g70 => Q () g70)) else (Q () g2))) else (if (g2 27 37) = 0 then (MK z_pV 193 [.ref 27, .int r1, .int (0 : Int32)] g2 (fun r71 g72 => Q () g72)) else (Q () g2)))))) : MK z_pV 194 [.ref 27] g Q := by
  refine m_K (L := [some (.ref 27), none, none]) rfl ?_
  refine m_n 1 (pc' := 1) (L' := [some (.ref 27), none, none]) (S' := [.ref 27]) (fun _ => rfl) ?_
  refine m_cI 188 1 rfl rfl rfl (A := [.ref 27]) rfl rfl (Or.inr ⟨rfl, _, rfl⟩) (rest := []) rfl rfl rfl ?_
  refine H.mono (fun r1 g2 H => ?_)
  refine m_n 3 (pc' := 8) (L' := [some (.ref 27), some (.int r1), none]) (S' := [.int (-4 : Int32), .int r1]) (fun _ => rfl) ?_
  refine m_b (c := r1 = (-4 : Int32)) (pc' := 11) (L' := [some (.ref 27), some (.int r1), none]) (S' := []) (pc2 := 19) (L2 := [some (.ref 27), some (.int r1), none]) (S2 := []) rfl (fun _ => rfl) (fun hc => ?_) (fun hc => ?_)
  · have hc := hc
    rw [if_pos hc] at H
    refine m_n 2 (pc' := 13) (L' := [some (.ref 27), some (.int r1), none]) (S' := [.int (2 : Int32), .ref 27]) (fun _ => rfl) ?_
    refine m_cV 186 2 rfl rfl rfl (A := [.ref 27, .int (2 : Int32)]) rfl rfl (Or.inr ⟨rfl, _, rfl⟩) (rest := []) rfl rfl ?_
    refine H.mono (fun r3 g4 H => ?_)
    refine m_n 4 (pc' := 36) (L' := [some (.ref 27), some (.int r1), some (.int (0 : Int32))]) (S' := [.ref 27]) (fun _ => rfl) ?_
    refine m_gI rfl ?_
    refine m_b (c := (g4 27 37) = 0) (pc' := 42) (L' := [some (.ref 27), some (.int r1), some (.int (0 : Int32))]) (S' := []) (pc2 := 90) (L2 := [some (.ref 27), some (.int r1), some (.int (0 : Int32))]) (S2 := []) rfl (fun _ => rfl) (fun hc => ?_) (fun hc => ?_)
    · have hc := hc
      rw [if_pos hc] at H
      refine m_n 2 (pc' := 45) (L' := [some (.ref 27), some (.int r1), some (.int (0 : Int32))]) (S' := [.int (7 : Int32), .int r1]) (fun _ => rfl) ?_
      refine m_b (c := r1 = (7 : Int32)) (pc' := 48) (L' := [some (.ref 27), some (.int r1), some (.int (0 : Int32))]) (S' := []) (pc2 := 90) (L2 := [some (.ref 27), some (.int r1), some (.int (0 : Int32))]) (S2 := []) rfl (fun _ => rfl) (fun hc => ?_) (fun hc => ?_)
      · have hc := hc
        rw [if_pos hc] at H
        refine m_n 1 (pc' := 49) (L' := [some (.ref 27), some (.int r1), some (.int (0 : Int32))]) (S' := [.ref 27]) (fun _ => rfl) ?_
        refine m_cV 187 1 rfl rfl rfl (A := [.ref 27]) rfl rfl (Or.inr ⟨rfl, _, rfl⟩) (rest := []) rfl rfl ?_
        refine H.mono (fun r5 g6 H => ?_)
        refine m_n 3 (pc' := 56) (L' := [some (.ref 27), some (.int r1), some (.int (0 : Int32))]) (S' := [.int (59 : Int32), .int (0 : Int32), .ref 27]) (fun _ => rfl) ?_
        refine m_cV 189 3 rfl rfl rfl (A := [.ref 27, .int (0 : Int32), .int (59 : Int32)]) rfl rfl (Or.inr ⟨rfl, _, rfl⟩) (rest := []) rfl rfl ?_
        refine H.mono (fun r7 g8 H => ?_)
        refine m_n 1 (pc' := 60) (L' := [some (.ref 27), some (.int r1), some (.int (0 : Int32))]) (S' := [.ref 27]) (fun _ => rfl) ?_
        refine m_gI rfl ?_
        refine m_n 2 (pc' := 65) (L' := [some (.ref 27), some (.int r1), some (.int (g8 27 42))]) (S' := [.ref 27]) (fun _ => rfl) ?_
        refine m_cV 187 1 rfl rfl rfl (A := [.ref 27]) rfl rfl (Or.inr ⟨rfl, _, rfl⟩) (rest := []) rfl rfl ?_
        refine H.mono (fun r9 g10 H => ?_)
        refine m_n 1 (pc' := 69) (L' := [some (.ref 27), some (.int r1), some (.int (g8 27 42))]) (S' := [.ref 27]) (fun _ => rfl) ?_
        refine m_cI 188 1 rfl rfl rfl (A := [.ref 27]) rfl rfl (Or.inr ⟨rfl, _, rfl⟩) (rest := []) rfl rfl rfl ?_
        refine H.mono (fun r11 g12 H => ?_)
        refine m_n 3 (pc' := 76) (L' := [some (.ref 27), some (.int r11), some (.int (g8 27 42))]) (S' := [.int (-4 : Int32), .int r11]) (fun _ => rfl) ?_
        refine m_b (c := r11 = (-4 : Int32)) (pc' := 85) (L' := [some (.ref 27), some (.int r11), some (.int (g8 27 42))]) (S' := []) (pc2 := 79) (L2 := [some (.ref 27), some (.int r11), some (.int (g8 27 42))]) (S2 := []) rfl (fun _ => rfl) (fun hc => ?_) (fun hc => ?_)
        · have hc := hc
          rw [if_pos hc] at H
          refine m_n 2 (pc' := 87) (L' := [some (.ref 27), some (.int r11), some (.int (g8 27 42))]) (S' := [.int (2 : Int32), .ref 27]) (fun _ => rfl) ?_
          refine m_cV 186 2 rfl rfl rfl (A := [.ref 27, .int (2 : Int32)]) rfl rfl (Or.inr ⟨rfl, _, rfl⟩) (rest := []) rfl rfl ?_
          refine H.mono (fun r13 g14 H => ?_)
          refine m_n 1 (pc' := 91) (L' := [some (.ref 27), some (.int r11), some (.int (g8 27 42))]) (S' := [.ref 27]) (fun _ => rfl) ?_
          refine m_gI rfl ?_
          refine m_b (c := (g14 27 37) = 0) (pc' := 97) (L' := [some (.ref 27), some (.int r11), some (.int (g8 27 42))]) (S' := []) (pc2 := 103) (L2 := [some (.ref 27), some (.int r11), some (.int (g8 27 42))]) (S2 := []) rfl (fun _ => rfl) (fun hc => ?_) (fun hc => ?_)
          · have hc := hc
            rw [if_pos hc] at H
            refine m_n 3 (pc' := 100) (L' := [some (.ref 27), some (.int r11), some (.int (g8 27 42))]) (S' := [.int (g8 27 42), .int r11, .ref 27]) (fun _ => rfl) ?_
            refine m_cV 193 3 rfl rfl rfl (A := [.ref 27, .int r11, .int (g8 27 42)]) rfl rfl (Or.inr ⟨rfl, _, rfl⟩) (rest := []) rfl rfl ?_
            refine H.mono (fun r15 g16 H => ?_)
            exact m_r rfl rfl rfl H
          · have hc := hc
            rw [if_neg hc] at H
            exact m_r rfl rfl rfl H
        · have hc := hc
          rw [if_neg hc] at H
          refine m_n 2 (pc' := 82) (L' := [some (.ref 27), some (.int r11), some (.int (g8 27 42))]) (S' := [.int (7 : Int32), .int r11]) (fun _ => rfl) ?_
          refine m_b (c := r11 = (7 : Int32)) (pc' := 85) (L' := [some (.ref 27), some (.int r11), some (.int (g8 27 42))]) (S' := []) (pc2 := 90) (L2 := [some (.ref 27), some (.int r11), some (.int (g8 27 42))]) (S2 := []) rfl (fun _ => rfl) (fun hc => ?_) (fun hc => ?_)
          · have hc := hc
            rw [if_pos hc] at H
            refine m_n 2 (pc' := 87) (L' := [some (.ref 27), some (.int r11), some (.int (g8 27 42))]) (S' := [.int (2 : Int32), .ref 27]) (fun _ => rfl) ?_
            refine m_cV 186 2 rfl rfl rfl (A := [.ref 27, .int (2 : Int32)]) rfl rfl (Or.inr ⟨rfl, _, rfl⟩) (rest := []) rfl rfl ?_
            refine H.mono (fun r17 g18 H => ?_)
            refine m_n 1 (pc' := 91) (L' := [some (.ref 27), some (.int r11), some (.int (g8 27 42))]) (S' := [.ref 27]) (fun _ => rfl) ?_
            refine m_gI rfl ?_
            refine m_b (c := (g18 27 37) = 0) (pc' := 97) (L' := [some (.ref 27), some (.int r11), some (.int (g8 27 42))]) (S' := []) (pc2 := 103) (L2 := [some (.ref 27), some (.int r11), some (.int (g8 27 42))]) (S2 := []) rfl (fun _ => rfl) (fun hc => ?_) (fun hc => ?_)
            · have hc := hc
              rw [if_pos hc] at H
              refine m_n 3 (pc' := 100) (L' := [some (.ref 27), some (.int r11), some (.int (g8 27 42))]) (S' := [.int (g8 27 42), .int r11, .ref 27]) (fun _ => rfl) ?_
              refine m_cV 193 3 rfl rfl rfl (A := [.ref 27, .int r11, .int (g8 27 42)]) rfl rfl (Or.inr ⟨rfl, _, rfl⟩) (rest := []) rfl rfl ?_
              refine H.mono (fun r19 g20 H => ?_)
              exact m_r rfl rfl rfl H
            · have hc := hc
              rw [if_neg hc] at H
              exact m_r rfl rfl rfl H
          · have hc := hc
            rw [if_neg hc] at H
            refine m_n 1 (pc' := 91) (L' := [some (.ref 27), some (.int r11), some (.int (g8 27 42))]) (S' := [.ref 27]) (fun _ => rfl) ?_
            refine m_gI rfl ?_
            refine m_b (c := (g12 27 37) = 0) (pc' := 97) (L' := [some (.ref 27), some (.int r11), some (.int (g8 27 42))]) (S' := []) (pc2 := 103) (L2 := [some (.ref 27), some (.int r11), some (.int (g8 27 42))]) (S2 := []) rfl (fun _ => rfl) (fun hc => ?_) (fun hc => ?_)
            · have hc := hc
              rw [if_pos hc] at H
              refine m_n 3 (pc' := 100) (L' := [some (.ref 27), some (.int r11), some (.int (g8 27 42))]) (S' := [.int (g8 27 42), .int r11, .ref 27]) (fun _ => rfl) ?_
              refine m_cV 193 3 rfl rfl rfl (A := [.ref 27, .int r11, .int (g8 27 42)]) rfl rfl (Or.inr ⟨rfl, _, rfl⟩) (rest := []) rfl rfl ?_
              refine H.mono (fun r21 g22 H => ?_)
              exact m_r rfl rfl rfl H
            · have hc := hc
              rw [if_neg hc] at H
              exact m_r rfl rfl rfl H
      · have hc := hc
        rw [if_neg hc] at H
        refine m_n 1 (pc' := 91) (L' := [some (.ref 27), some (.int r1), some (.int (0 : Int32))]) (S' := [.ref 27]) (fun _ => rfl) ?_
        refine m_gI rfl ?_
        refine m_b (c := (g4 27 37) = 0) (pc' := 97) (L' := [some (.ref 27), some (.int r1), some (.int (0 : Int32))]) (S' := []) (pc2 := 103) (L2 := [some (.ref 27), some (.int r1), some (.int (0 : Int32))]) (S2 := []) rfl (fun _ => rfl) (fun hc => ?_) (fun hc => ?_)
        · have hc := hc
          rw [if_pos hc] at H
          refine m_n 3 (pc' := 100) (L' := [some (.ref 27), some (.int r1), some (.int (0 : Int32))]) (S' := [.int (0 : Int32), .int r1, .ref 27]) (fun _ => rfl) ?_
          refine m_cV 193 3 rfl rfl rfl (A := [.ref 27, .int r1, .int (0 : Int32)]) rfl rfl (Or.inr ⟨rfl, _, rfl⟩) (rest := []) rfl rfl ?_
          refine H.mono (fun r23 g24 H => ?_)
          exact m_r rfl rfl rfl H
        · have hc := hc
          rw [if_neg hc] at H
          exact m_r rfl rfl rfl H
    · have hc := hc
      rw [if_neg hc] at H
      refine m_n 1 (pc' := 91) (L' := [some (.ref 27), some (.int r1), some (.int (0 : Int32))]) (S' := [.ref 27]) (fun _ => rfl) ?_
      refine m_gI rfl ?_
      refine m_b (c := (g4 27 37) = 0) (pc' := 97) (L' := [some (.ref 27), some (.int r1), some (.int (0 : Int32))]) (S' := []) (pc2 := 103) (L2 := [some (.ref 27), some (.int r1), some (.int (0 : Int32))]) (S2 := []) rfl (fun _ => rfl) (fun hc => ?_) (fun hc => ?_)
      · have hc := hc
        rw [if_pos hc] at H
        refine m_n 3 (pc' := 100) (L' := [some (.ref 27), some (.int r1), some (.int (0 : Int32))]) (S' := [.int (0 : Int32), .int r1, .ref 27]) (fun _ => rfl) ?_
        refine m_cV 193 3 rfl rfl rfl (A := [.ref 27, .int r1, .int (0 : Int32)]) rfl rfl (Or.inr ⟨rfl, _, rfl⟩) (rest := []) rfl rfl ?_
        refine H.mono (fun r25 g26 H => ?_)
        exact m_r rfl rfl rfl H
      · have hc := hc
        rw [if_neg hc] at H
        exact m_r rfl rfl rfl H
  · have hc := hc
    rw [if_neg hc] at H
    refine m_n 1 (pc' := 20) (L' := [some (.ref 27), some (.int r1), none]) (S' := [.ref 27]) (fun _ => rfl) ?_
    refine m_gI rfl ?_
    refine m_n 1 (pc' := 25) (L' := [some (.ref 27), some (.int r1), none]) (S' := [.int (16 : Int32), .int (g2 27 50)]) (fun _ => rfl) ?_
    refine m_b (c := (g2 27 50) = (16 : Int32)) (pc' := 28) (L' := [some (.ref 27), some (.int r1), none]) (S' := []) (pc2 := 33) (L2 := [some (.ref 27), some (.int r1), none]) (S2 := []) rfl (fun _ => rfl) (fun hc => ?_) (fun hc => ?_)
    · have hc := hc
      rw [if_pos hc] at H
      refine m_n 2 (pc' := 30) (L' := [some (.ref 27), some (.int r1), none]) (S' := [.int (4 : Int32), .ref 27]) (fun _ => rfl) ?_
      refine m_cV 186 2 rfl rfl rfl (A := [.ref 27, .int (4 : Int32)]) rfl rfl (Or.inr ⟨rfl, _, rfl⟩) (rest := []) rfl rfl ?_
      refine H.mono (fun r27 g28 H => ?_)
      refine m_n 3 (pc' := 36) (L' := [some (.ref 27), some (.int r1), some (.int (0 : Int32))]) (S' := [.ref 27]) (fun _ => rfl) ?_
      refine m_gI rfl ?_
      refine m_b (c := (g28 27 37) = 0) (pc' := 42) (L' := [some (.ref 27), some (.int r1), some (.int (0 : Int32))]) (S' := []) (pc2 := 90) (L2 := [some (.ref 27), some (.int r1), some (.int (0 : Int32))]) (S2 := []) rfl (fun _ => rfl) (fun hc => ?_) (fun hc => ?_)
      · have hc := hc
        rw [if_pos hc] at H
        refine m_n 2 (pc' := 45) (L' := [some (.ref 27), some (.int r1), some (.int (0 : Int32))]) (S' := [.int (7 : Int32), .int r1]) (fun _ => rfl) ?_
        refine m_b (c := r1 = (7 : Int32)) (pc' := 48) (L' := [some (.ref 27), some (.int r1), some (.int (0 : Int32))]) (S' := []) (pc2 := 90) (L2 := [some (.ref 27), some (.int r1), some (.int (0 : Int32))]) (S2 := []) rfl (fun _ => rfl) (fun hc => ?_) (fun hc => ?_)
        · have hc := hc
          rw [if_pos hc] at H
          refine m_n 1 (pc' := 49) (L' := [some (.ref 27), some (.int r1), some (.int (0 : Int32))]) (S' := [.ref 27]) (fun _ => rfl) ?_
          refine m_cV 187 1 rfl rfl rfl (A := [.ref 27]) rfl rfl (Or.inr ⟨rfl, _, rfl⟩) (rest := []) rfl rfl ?_
          refine H.mono (fun r29 g30 H => ?_)
          refine m_n 3 (pc' := 56) (L' := [some (.ref 27), some (.int r1), some (.int (0 : Int32))]) (S' := [.int (59 : Int32), .int (0 : Int32), .ref 27]) (fun _ => rfl) ?_
          refine m_cV 189 3 rfl rfl rfl (A := [.ref 27, .int (0 : Int32), .int (59 : Int32)]) rfl rfl (Or.inr ⟨rfl, _, rfl⟩) (rest := []) rfl rfl ?_
          refine H.mono (fun r31 g32 H => ?_)
          refine m_n 1 (pc' := 60) (L' := [some (.ref 27), some (.int r1), some (.int (0 : Int32))]) (S' := [.ref 27]) (fun _ => rfl) ?_
          refine m_gI rfl ?_
          refine m_n 2 (pc' := 65) (L' := [some (.ref 27), some (.int r1), some (.int (g32 27 42))]) (S' := [.ref 27]) (fun _ => rfl) ?_
          refine m_cV 187 1 rfl rfl rfl (A := [.ref 27]) rfl rfl (Or.inr ⟨rfl, _, rfl⟩) (rest := []) rfl rfl ?_
          refine H.mono (fun r33 g34 H => ?_)
          refine m_n 1 (pc' := 69) (L' := [some (.ref 27), some (.int r1), some (.int (g32 27 42))]) (S' := [.ref 27]) (fun _ => rfl) ?_
          refine m_cI 188 1 rfl rfl rfl (A := [.ref 27]) rfl rfl (Or.inr ⟨rfl, _, rfl⟩) (rest := []) rfl rfl rfl ?_
          refine H.mono (fun r35 g36 H => ?_)
          refine m_n 3 (pc' := 76) (L' := [some (.ref 27), some (.int r35), some (.int (g32 27 42))]) (S' := [.int (-4 : Int32), .int r35]) (fun _ => rfl) ?_
          refine m_b (c := r35 = (-4 : Int32)) (pc' := 85) (L' := [some (.ref 27), some (.int r35), some (.int (g32 27 42))]) (S' := []) (pc2 := 79) (L2 := [some (.ref 27), some (.int r35), some (.int (g32 27 42))]) (S2 := []) rfl (fun _ => rfl) (fun hc => ?_) (fun hc => ?_)
          · have hc := hc
            rw [if_pos hc] at H
            refine m_n 2 (pc' := 87) (L' := [some (.ref 27), some (.int r35), some (.int (g32 27 42))]) (S' := [.int (2 : Int32), .ref 27]) (fun _ => rfl) ?_
            refine m_cV 186 2 rfl rfl rfl (A := [.ref 27, .int (2 : Int32)]) rfl rfl (Or.inr ⟨rfl, _, rfl⟩) (rest := []) rfl rfl ?_
            refine H.mono (fun r37 g38 H => ?_)
            refine m_n 1 (pc' := 91) (L' := [some (.ref 27), some (.int r35), some (.int (g32 27 42))]) (S' := [.ref 27]) (fun _ => rfl) ?_
            refine m_gI rfl ?_
            refine m_b (c := (g38 27 37) = 0) (pc' := 97) (L' := [some (.ref 27), some (.int r35), some (.int (g32 27 42))]) (S' := []) (pc2 := 103) (L2 := [some (.ref 27), some (.int r35), some (.int (g32 27 42))]) (S2 := []) rfl (fun _ => rfl) (fun hc => ?_) (fun hc => ?_)
            · have hc := hc
              rw [if_pos hc] at H
              refine m_n 3 (pc' := 100) (L' := [some (.ref 27), some (.int r35), some (.int (g32 27 42))]) (S' := [.int (g32 27 42), .int r35, .ref 27]) (fun _ => rfl) ?_
              refine m_cV 193 3 rfl rfl rfl (A := [.ref 27, .int r35, .int (g32 27 42)]) rfl rfl (Or.inr ⟨rfl, _, rfl⟩) (rest := []) rfl rfl ?_
              refine H.mono (fun r39 g40 H => ?_)
              exact m_r rfl rfl rfl H
            · have hc := hc
              rw [if_neg hc] at H
              exact m_r rfl rfl rfl H
          · have hc := hc
            rw [if_neg hc] at H
            refine m_n 2 (pc' := 82) (L' := [some (.ref 27), some (.int r35), some (.int (g32 27 42))]) (S' := [.int (7 : Int32), .int r35]) (fun _ => rfl) ?_
            refine m_b (c := r35 = (7 : Int32)) (pc' := 85) (L' := [some (.ref 27), some (.int r35), some (.int (g32 27 42))]) (S' := []) (pc2 := 90) (L2 := [some (.ref 27), some (.int r35), some (.int (g32 27 42))]) (S2 := []) rfl (fun _ => rfl) (fun hc => ?_) (fun hc => ?_)
            · have hc := hc
              rw [if_pos hc] at H
              refine m_n 2 (pc' := 87) (L' := [some (.ref 27), some (.int r35), some (.int (g32 27 42))]) (S' := [.int (2 : Int32), .ref 27]) (fun _ => rfl) ?_
              refine m_cV 186 2 rfl rfl rfl (A := [.ref 27, .int (2 : Int32)]) rfl rfl (Or.inr ⟨rfl, _, rfl⟩) (rest := []) rfl rfl ?_
              refine H.mono (fun r41 g42 H => ?_)
              refine m_n 1 (pc' := 91) (L' := [some (.ref 27), some (.int r35), some (.int (g32 27 42))]) (S' := [.ref 27]) (fun _ => rfl) ?_
              refine m_gI rfl ?_
              refine m_b (c := (g42 27 37) = 0) (pc' := 97) (L' := [some (.ref 27), some (.int r35), some (.int (g32 27 42))]) (S' := []) (pc2 := 103) (L2 := [some (.ref 27), some (.int r35), some (.int (g32 27 42))]) (S2 := []) rfl (fun _ => rfl) (fun hc => ?_) (fun hc => ?_)
              · have hc := hc
                rw [if_pos hc] at H
                refine m_n 3 (pc' := 100) (L' := [some (.ref 27), some (.int r35), some (.int (g32 27 42))]) (S' := [.int (g32 27 42), .int r35, .ref 27]) (fun _ => rfl) ?_
                refine m_cV 193 3 rfl rfl rfl (A := [.ref 27, .int r35, .int (g32 27 42)]) rfl rfl (Or.inr ⟨rfl, _, rfl⟩) (rest := []) rfl rfl ?_
                refine H.mono (fun r43 g44 H => ?_)
                exact m_r rfl rfl rfl H
              · have hc := hc
                rw [if_neg hc] at H
                exact m_r rfl rfl rfl H
            · have hc := hc
              rw [if_neg hc] at H
              refine m_n 1 (pc' := 91) (L' := [some (.ref 27), some (.int r35), some (.int (g32 27 42))]) (S' := [.ref 27]) (fun _ => rfl) ?_
              refine m_gI rfl ?_
              refine m_b (c := (g36 27 37) = 0) (pc' := 97) (L' := [some (.ref 27), some (.int r35), some (.int (g32 27 42))]) (S' := []) (pc2 := 103) (L2 := [some (.ref 27), some (.int r35), some (.int (g32 27 42))]) (S2 := []) rfl (fun _ => rfl) (fun hc => ?_) (fun hc => ?_)
              · have hc := hc
                rw [if_pos hc] at H
                refine m_n 3 (pc' := 100) (L' := [some (.ref 27), some (.int r35), some (.int (g32 27 42))]) (S' := [.int (g32 27 42), .int r35, .ref 27]) (fun _ => rfl) ?_
                refine m_cV 193 3 rfl rfl rfl (A := [.ref 27, .int r35, .int (g32 27 42)]) rfl rfl (Or.inr ⟨rfl, _, rfl⟩) (rest := []) rfl rfl ?_
                refine H.mono (fun r45 g46 H => ?_)
                exact m_r rfl rfl rfl H
              · have hc := hc
                rw [if_neg hc] at H
                exact m_r rfl rfl rfl H
        · have hc := hc
          rw [if_neg hc] at H
          refine m_n 1 (pc' := 91) (L' := [some (.ref 27), some (.int r1), some (.int (0 : Int32))]) (S' := [.ref 27]) (fun _ => rfl) ?_
          refine m_gI rfl ?_
          refine m_b (c := (g28 27 37) = 0) (pc' := 97) (L' := [some (.ref 27), some (.int r1), some (.int (0 : Int32))]) (S' := []) (pc2 := 103) (L2 := [some (.ref 27), some (.int r1), some (.int (0 : Int32))]) (S2 := []) rfl (fun _ => rfl) (fun hc => ?_) (fun hc => ?_)
          · have hc := hc
            rw [if_pos hc] at H
            refine m_n 3 (pc' := 100) (L' := [some (.ref 27), some (.int r1), some (.int (0 : Int32))]) (S' := [.int (0 : Int32), .int r1, .ref 27]) (fun _ => rfl) ?_
            refine m_cV 193 3 rfl rfl rfl (A := [.ref 27, .int r1, .int (0 : Int32)]) rfl rfl (Or.inr ⟨rfl, _, rfl⟩) (rest := []) rfl rfl ?_
            refine H.mono (fun r47 g48 H => ?_)
            exact m_r rfl rfl rfl H
          · have hc := hc
            rw [if_neg hc] at H
            exact m_r rfl rfl rfl H
      · have hc := hc
        rw [if_neg hc] at H
        refine m_n 1 (pc' := 91) (L' := [some (.ref 27), some (.int r1), some (.int (0 : Int32))]) (S' := [.ref 27]) (fun _ => rfl) ?_
        refine m_gI rfl ?_
        refine m_b (c := (g28 27 37) = 0) (pc' := 97) (L' := [some (.ref 27), some (.int r1), some (.int (0 : Int32))]) (S' := []) (pc2 := 103) (L2 := [some (.ref 27), some (.int r1), some (.int (0 : Int32))]) (S2 := []) rfl (fun _ => rfl) (fun hc => ?_) (fun hc => ?_)
        · have hc := hc
          rw [if_pos hc] at H
          refine m_n 3 (pc' := 100) (L' := [some (.ref 27), some (.int r1), some (.int (0 : Int32))]) (S' := [.int (0 : Int32), .int r1, .ref 27]) (fun _ => rfl) ?_
          refine m_cV 193 3 rfl rfl rfl (A := [.ref 27, .int r1, .int (0 : Int32)]) rfl rfl (Or.inr ⟨rfl, _, rfl⟩) (rest := []) rfl rfl ?_
          refine H.mono (fun r49 g50 H => ?_)
          exact m_r rfl rfl rfl H
        · have hc := hc
          rw [if_neg hc] at H
          exact m_r rfl rfl rfl H
    · have hc := hc
      rw [if_neg hc] at H
      refine m_n 3 (pc' := 36) (L' := [some (.ref 27), some (.int r1), some (.int (0 : Int32))]) (S' := [.ref 27]) (fun _ => rfl) ?_
      refine m_gI rfl ?_
      refine m_b (c := (g2 27 37) = 0) (pc' := 42) (L' := [some (.ref 27), some (.int r1), some (.int (0 : Int32))]) (S' := []) (pc2 := 90) (L2 := [some (.ref 27), some (.int r1), some (.int (0 : Int32))]) (S2 := []) rfl (fun _ => rfl) (fun hc => ?_) (fun hc => ?_)
      · have hc := hc
        rw [if_pos hc] at H
        refine m_n 2 (pc' := 45) (L' := [some (.ref 27), some (.int r1), some (.int (0 : Int32))]) (S' := [.int (7 : Int32), .int r1]) (fun _ => rfl) ?_
        refine m_b (c := r1 = (7 : Int32)) (pc' := 48) (L' := [some (.ref 27), some (.int r1), some (.int (0 : Int32))]) (S' := []) (pc2 := 90) (L2 := [some (.ref 27), some (.int r1), some (.int (0 : Int32))]) (S2 := []) rfl (fun _ => rfl) (fun hc => ?_) (fun hc => ?_)
        · have hc := hc
          rw [if_pos hc] at H
          refine m_n 1 (pc' := 49) (L' := [some (.ref 27), some (.int r1), some (.int (0 : Int32))]) (S' := [.ref 27]) (fun _ => rfl) ?_
          refine m_cV 187 1 rfl rfl rfl (A := [.ref 27]) rfl rfl (Or.inr ⟨rfl, _, rfl⟩) (rest := []) rfl rfl ?_
          refine H.mono (fun r51 g52 H => ?_)
          refine m_n 3 (pc' := 56) (L' := [some (.ref 27), some (.int r1), some (.int (0 : Int32))]) (S' := [.int (59 : Int32), .int (0 : Int32), .ref 27]) (fun _ => rfl) ?_
          refine m_cV 189 3 rfl rfl rfl (A := [.ref 27, .int (0 : Int32), .int (59 : Int32)]) rfl rfl (Or.inr ⟨rfl, _, rfl⟩) (rest := []) rfl rfl ?_
          refine H.mono (fun r53 g54 H => ?_)
          refine m_n 1 (pc' := 60) (L' := [some (.ref 27), some (.int r1), some (.int (0 : Int32))]) (S' := [.ref 27]) (fun _ => rfl) ?_
          refine m_gI rfl ?_
          refine m_n 2 (pc' := 65) (L' := [some (.ref 27), some (.int r1), some (.int (g54 27 42))]) (S' := [.ref 27]) (fun _ => rfl) ?_
          refine m_cV 187 1 rfl rfl rfl (A := [.ref 27]) rfl rfl (Or.inr ⟨rfl, _, rfl⟩) (rest := []) rfl rfl ?_
          refine H.mono (fun r55 g56 H => ?_)
          refine m_n 1 (pc' := 69) (L' := [some (.ref 27), some (.int r1), some (.int (g54 27 42))]) (S' := [.ref 27]) (fun _ => rfl) ?_
          refine m_cI 188 1 rfl rfl rfl (A := [.ref 27]) rfl rfl (Or.inr ⟨rfl, _, rfl⟩) (rest := []) rfl rfl rfl ?_
          refine H.mono (fun r57 g58 H => ?_)
          refine m_n 3 (pc' := 76) (L' := [some (.ref 27), some (.int r57), some (.int (g54 27 42))]) (S' := [.int (-4 : Int32), .int r57]) (fun _ => rfl) ?_
          refine m_b (c := r57 = (-4 : Int32)) (pc' := 85) (L' := [some (.ref 27), some (.int r57), some (.int (g54 27 42))]) (S' := []) (pc2 := 79) (L2 := [some (.ref 27), some (.int r57), some (.int (g54 27 42))]) (S2 := []) rfl (fun _ => rfl) (fun hc => ?_) (fun hc => ?_)
          · have hc := hc
            rw [if_pos hc] at H
            refine m_n 2 (pc' := 87) (L' := [some (.ref 27), some (.int r57), some (.int (g54 27 42))]) (S' := [.int (2 : Int32), .ref 27]) (fun _ => rfl) ?_
            refine m_cV 186 2 rfl rfl rfl (A := [.ref 27, .int (2 : Int32)]) rfl rfl (Or.inr ⟨rfl, _, rfl⟩) (rest := []) rfl rfl ?_
            refine H.mono (fun r59 g60 H => ?_)
            refine m_n 1 (pc' := 91) (L' := [some (.ref 27), some (.int r57), some (.int (g54 27 42))]) (S' := [.ref 27]) (fun _ => rfl) ?_
            refine m_gI rfl ?_
            refine m_b (c := (g60 27 37) = 0) (pc' := 97) (L' := [some (.ref 27), some (.int r57), some (.int (g54 27 42))]) (S' := []) (pc2 := 103) (L2 := [some (.ref 27), some (.int r57), some (.int (g54 27 42))]) (S2 := []) rfl (fun _ => rfl) (fun hc => ?_) (fun hc => ?_)
            · have hc := hc
              rw [if_pos hc] at H
              refine m_n 3 (pc' := 100) (L' := [some (.ref 27), some (.int r57), some (.int (g54 27 42))]) (S' := [.int (g54 27 42), .int r57, .ref 27]) (fun _ => rfl) ?_
              refine m_cV 193 3 rfl rfl rfl (A := [.ref 27, .int r57, .int (g54 27 42)]) rfl rfl (Or.inr ⟨rfl, _, rfl⟩) (rest := []) rfl rfl ?_
              refine H.mono (fun r61 g62 H => ?_)
              exact m_r rfl rfl rfl H
            · have hc := hc
              rw [if_neg hc] at H
              exact m_r rfl rfl rfl H
          · have hc := hc
            rw [if_neg hc] at H
            refine m_n 2 (pc' := 82) (L' := [some (.ref 27), some (.int r57), some (.int (g54 27 42))]) (S' := [.int (7 : Int32), .int r57]) (fun _ => rfl) ?_
            refine m_b (c := r57 = (7 : Int32)) (pc' := 85) (L' := [some (.ref 27), some (.int r57), some (.int (g54 27 42))]) (S' := []) (pc2 := 90) (L2 := [some (.ref 27), some (.int r57), some (.int (g54 27 42))]) (S2 := []) rfl (fun _ => rfl) (fun hc => ?_) (fun hc => ?_)
            · have hc := hc
              rw [if_pos hc] at H
              refine m_n 2 (pc' := 87) (L' := [some (.ref 27), some (.int r57), some (.int (g54 27 42))]) (S' := [.int (2 : Int32), .ref 27]) (fun _ => rfl) ?_
              refine m_cV 186 2 rfl rfl rfl (A := [.ref 27, .int (2 : Int32)]) rfl rfl (Or.inr ⟨rfl, _, rfl⟩) (rest := []) rfl rfl ?_
              refine H.mono (fun r63 g64 H => ?_)
              refine m_n 1 (pc' := 91) (L' := [some (.ref 27), some (.int r57), some (.int (g54 27 42))]) (S' := [.ref 27]) (fun _ => rfl) ?_
              refine m_gI rfl ?_
              refine m_b (c := (g64 27 37) = 0) (pc' := 97) (L' := [some (.ref 27), some (.int r57), some (.int (g54 27 42))]) (S' := []) (pc2 := 103) (L2 := [some (.ref 27), some (.int r57), some (.int (g54 27 42))]) (S2 := []) rfl (fun _ => rfl) (fun hc => ?_) (fun hc => ?_)
              · have hc := hc
                rw [if_pos hc] at H
                refine m_n 3 (pc' := 100) (L' := [some (.ref 27), some (.int r57), some (.int (g54 27 42))]) (S' := [.int (g54 27 42), .int r57, .ref 27]) (fun _ => rfl) ?_
                refine m_cV 193 3 rfl rfl rfl (A := [.ref 27, .int r57, .int (g54 27 42)]) rfl rfl (Or.inr ⟨rfl, _, rfl⟩) (rest := []) rfl rfl ?_
                refine H.mono (fun r65 g66 H => ?_)
                exact m_r rfl rfl rfl H
              · have hc := hc
                rw [if_neg hc] at H
                exact m_r rfl rfl rfl H
            · have hc := hc
              rw [if_neg hc] at H
              refine m_n 1 (pc' := 91) (L' := [some (.ref 27), some (.int r57), some (.int (g54 27 42))]) (S' := [.ref 27]) (fun _ => rfl) ?_
              refine m_gI rfl ?_
              refine m_b (c := (g58 27 37) = 0) (pc' := 97) (L' := [some (.ref 27), some (.int r57), some (.int (g54 27 42))]) (S' := []) (pc2 := 103) (L2 := [some (.ref 27), some (.int r57), some (.int (g54 27 42))]) (S2 := []) rfl (fun _ => rfl) (fun hc => ?_) (fun hc => ?_)
              · have hc := hc
                rw [if_pos hc] at H
                refine m_n 3 (pc' := 100) (L' := [some (.ref 27), some (.int r57), some (.int (g54 27 42))]) (S' := [.int (g54 27 42), .int r57, .ref 27]) (fun _ => rfl) ?_
                refine m_cV 193 3 rfl rfl rfl (A := [.ref 27, .int r57, .int (g54 27 42)]) rfl rfl (Or.inr ⟨rfl, _, rfl⟩) (rest := []) rfl rfl ?_
                refine H.mono (fun r67 g68 H => ?_)
                exact m_r rfl rfl rfl H
              · have hc := hc
                rw [if_neg hc] at H
                exact m_r rfl rfl rfl H
        · have hc := hc
          rw [if_neg hc] at H
          refine m_n 1 (pc' := 91) (L' := [some (.ref 27), some (.int r1), some (.int (0 : Int32))]) (S' := [.ref 27]) (fun _ => rfl) ?_
          refine m_gI rfl ?_
          refine m_b (c := (g2 27 37) = 0) (pc' := 97) (L' := [some (.ref 27), some (.int r1), some (.int (0 : Int32))]) (S' := []) (pc2 := 103) (L2 := [some (.ref 27), some (.int r1), some (.int (0 : Int32))]) (S2 := []) rfl (fun _ => rfl) (fun hc => ?_) (fun hc => ?_)
          · have hc := hc
            rw [if_pos hc] at H
            refine m_n 3 (pc' := 100) (L' := [some (.ref 27), some (.int r1), some (.int (0 : Int32))]) (S' := [.int (0 : Int32), .int r1, .ref 27]) (fun _ => rfl) ?_
            refine m_cV 193 3 rfl rfl rfl (A := [.ref 27, .int r1, .int (0 : Int32)]) rfl rfl (Or.inr ⟨rfl, _, rfl⟩) (rest := []) rfl rfl ?_
            refine H.mono (fun r69 g70 H => ?_)
            exact m_r rfl rfl rfl H
          · have hc := hc
            rw [if_neg hc] at H
            exact m_r rfl rfl rfl H
      · have hc := hc
        rw [if_neg hc] at H
        refine m_n 1 (pc' := 91) (L' := [some (.ref 27), some (.int r1), some (.int (0 : Int32))]) (S' := [.ref 27]) (fun _ => rfl) ?_
        refine m_gI rfl ?_
        refine m_b (c := (g2 27 37) = 0) (pc' := 97) (L' := [some (.ref 27), some (.int r1), some (.int (0 : Int32))]) (S' := []) (pc2 := 103) (L2 := [some (.ref 27), some (.int r1), some (.int (0 : Int32))]) (S2 := []) rfl (fun _ => rfl) (fun hc => ?_) (fun hc => ?_)
        · have hc := hc
          rw [if_pos hc] at H
          refine m_n 3 (pc' := 100) (L' := [some (.ref 27), some (.int r1), some (.int (0 : Int32))]) (S' := [.int (0 : Int32), .int r1, .ref 27]) (fun _ => rfl) ?_
          refine m_cV 193 3 rfl rfl rfl (A := [.ref 27, .int r1, .int (0 : Int32)]) rfl rfl (Or.inr ⟨rfl, _, rfl⟩) (rest := []) rfl rfl ?_
          refine H.mono (fun r71 g72 H => ?_)
          exact m_r rfl rfl rfl H
        · have hc := hc
          rw [if_neg hc] at H
          exact m_r rfl rfl rfl H
set_option maxRecDepth 20000 in
theorem X_195  (g : zG) {Q : Int32 → zG → Prop} (H : MK z_pV 187 [.ref 27] (z_up2 (z_up2 (z_up2 g 27 37 (0 : Int32)) 27 39 (0 : Int32)) 27 50 (0 : Int32)) (fun r1 g2 => MG z_pI 195 19 [some (.ref 27), none] [] g2 Q)) : MK z_pI 195 [.ref 27] g Q := by
  refine m_K (L := [some (.ref 27), none]) rfl ?_
  refine m_n 2 (pc' := 2) (L' := [some (.ref 27), none]) (S' := [.int (0 : Int32), .ref 27]) (fun _ => rfl) ?_
  refine m_pI rfl ?_
  refine m_n 2 (pc' := 7) (L' := [some (.ref 27), none]) (S' := [.int (0 : Int32), .ref 27]) (fun _ => rfl) ?_
  refine m_pI rfl ?_
  refine m_n 2 (pc' := 12) (L' := [some (.ref 27), none]) (S' := [.int (0 : Int32), .ref 27]) (fun _ => rfl) ?_
  refine m_pI rfl ?_
  refine m_n 1 (pc' := 16) (L' := [some (.ref 27), none]) (S' := [.ref 27]) (fun _ => rfl) ?_
  refine m_cV 187 1 rfl rfl rfl (A := [.ref 27]) rfl rfl (Or.inr ⟨rfl, _, rfl⟩) (rest := []) rfl rfl ?_
  refine H.mono (fun r1 g2 H => ?_)
  exact H
set_option maxRecDepth 20000 in
theorem X_195_19 (u1 : Option Value) (g : zG) {Q : Int32 → zG → Prop} (H : if (g 27 37) = 0 then (if (g 27 41) = 0 then (if ((z_up2 (z_up2 g 27 35 (0 : Int32)) 27 36 ((z_up2 g 27 35 (0 : Int32)) 27 37)) 27 37) ≤ 0 then (MG z_pI 195 78 [some (.ref 27), some (.int (0 : Int32))] [] (z_up2 (z_up2 (z_up2 g 27 35 (0 : Int32)) 27 36 ((z_up2 g 27 35 (0 : Int32)) 27 37)) 27 45 ((z_up2 (z_up2 g 27 35 (0 : Int32)) 27 36 ((z_up2 g 27 35 (0 : Int32)) 27 37)) 27 50)) Q) else (Q ((-10 : Int32) - ((z_up2 (z_up2 g 27 35 (0 : Int32)) 27 36 ((z_up2 g 27 35 (0 : Int32)) 27 37)) 27 38)) (z_up2 (z_up2 g 27 35 (0 : Int32)) 27 36 ((z_up2 g 27 35 (0 : Int32)) 27 37)))) else (MK z_pV 194 [.ref 27] g (fun r3 g4 => MG z_pI 195 19 [some (.ref 27), u1] [] g4 Q))) else (if ((z_up2 (z_up2 g 27 35 (0 : Int32)) 27 36 ((z_up2 g 27 35 (0 : Int32)) 27 37)) 27 37) ≤ 0 then (MG z_pI 195 78 [some (.ref 27), some (.int (0 : Int32))] [] (z_up2 (z_up2 (z_up2 g 27 35 (0 : Int32)) 27 36 ((z_up2 g 27 35 (0 : Int32)) 27 37)) 27 45 ((z_up2 (z_up2 g 27 35 (0 : Int32)) 27 36 ((z_up2 g 27 35 (0 : Int32)) 27 37)) 27 50)) Q) else (Q ((-10 : Int32) - ((z_up2 (z_up2 g 27 35 (0 : Int32)) 27 36 ((z_up2 g 27 35 (0 : Int32)) 27 37)) 27 38)) (z_up2 (z_up2 g 27 35 (0 : Int32)) 27 36 ((z_up2 g 27 35 (0 : Int32)) 27 37))))) : MG z_pI 195 19 [some (.ref 27), u1] [] g Q := by
  refine m_n 1 (pc' := 20) (L' := [some (.ref 27), u1]) (S' := [.ref 27]) (fun _ => rfl) ?_
  refine m_gI rfl ?_
  refine m_b (c := (g 27 37) = 0) (pc' := 26) (L' := [some (.ref 27), u1]) (S' := []) (pc2 := 40) (L2 := [some (.ref 27), u1]) (S2 := []) rfl (fun _ => rfl) (fun hc => ?_) (fun hc => ?_)
  · have hc := hc
    rw [if_pos hc] at H
    refine m_n 1 (pc' := 27) (L' := [some (.ref 27), u1]) (S' := [.ref 27]) (fun _ => rfl) ?_
    refine m_gI rfl ?_
    refine m_b (c := (g 27 41) = 0) (pc' := 40) (L' := [some (.ref 27), u1]) (S' := []) (pc2 := 33) (L2 := [some (.ref 27), u1]) (S2 := []) rfl (fun _ => rfl) (fun hc => ?_) (fun hc => ?_)
    · have hc := hc
      rw [if_pos hc] at H
      refine m_n 2 (pc' := 42) (L' := [some (.ref 27), u1]) (S' := [.int (0 : Int32), .ref 27]) (fun _ => rfl) ?_
      refine m_pI rfl ?_
      refine m_n 2 (pc' := 47) (L' := [some (.ref 27), u1]) (S' := [.ref 27, .ref 27]) (fun _ => rfl) ?_
      refine m_gI rfl ?_
      refine m_pI rfl ?_
      refine m_n 1 (pc' := 54) (L' := [some (.ref 27), u1]) (S' := [.ref 27]) (fun _ => rfl) ?_
      refine m_gI rfl ?_
      refine m_b (c := ((z_up2 (z_up2 g 27 35 (0 : Int32)) 27 36 ((z_up2 g 27 35 (0 : Int32)) 27 37)) 27 37) ≤ 0) (pc' := 68) (L' := [some (.ref 27), u1]) (S' := []) (pc2 := 60) (L2 := [some (.ref 27), u1]) (S2 := []) rfl (fun _ => rfl) (fun hc => ?_) (fun hc => ?_)
      · have hc := hc
        rw [if_pos hc] at H
        refine m_n 2 (pc' := 70) (L' := [some (.ref 27), u1]) (S' := [.ref 27, .ref 27]) (fun _ => rfl) ?_
        refine m_gI rfl ?_
        refine m_pI rfl ?_
        refine m_n 2 (pc' := 78) (L' := [some (.ref 27), some (.int (0 : Int32))]) (S' := []) (fun _ => rfl) ?_
        exact H
      · have hc := hc
        rw [if_neg hc] at H
        refine m_n 2 (pc' := 63) (L' := [some (.ref 27), u1]) (S' := [.ref 27, .int (-10 : Int32)]) (fun _ => rfl) ?_
        refine m_gI rfl ?_
        refine m_n 1 (pc' := 67) (L' := [some (.ref 27), u1]) (S' := [.int ((-10 : Int32) - ((z_up2 (z_up2 g 27 35 (0 : Int32)) 27 36 ((z_up2 g 27 35 (0 : Int32)) 27 37)) 27 38))]) (fun _ => rfl) ?_
        exact m_r rfl rfl rfl H
    · have hc := hc
      rw [if_neg hc] at H
      refine m_n 1 (pc' := 34) (L' := [some (.ref 27), u1]) (S' := [.ref 27]) (fun _ => rfl) ?_
      refine m_cV 194 1 rfl rfl rfl (A := [.ref 27]) rfl rfl (Or.inr ⟨rfl, _, rfl⟩) (rest := []) rfl rfl ?_
      refine H.mono (fun r3 g4 H => ?_)
      refine m_n 1 (pc' := 19) (L' := [some (.ref 27), u1]) (S' := []) (fun _ => rfl) ?_
      exact H
  · have hc := hc
    rw [if_neg hc] at H
    refine m_n 2 (pc' := 42) (L' := [some (.ref 27), u1]) (S' := [.int (0 : Int32), .ref 27]) (fun _ => rfl) ?_
    refine m_pI rfl ?_
    refine m_n 2 (pc' := 47) (L' := [some (.ref 27), u1]) (S' := [.ref 27, .ref 27]) (fun _ => rfl) ?_
    refine m_gI rfl ?_
    refine m_pI rfl ?_
    refine m_n 1 (pc' := 54) (L' := [some (.ref 27), u1]) (S' := [.ref 27]) (fun _ => rfl) ?_
    refine m_gI rfl ?_
    refine m_b (c := ((z_up2 (z_up2 g 27 35 (0 : Int32)) 27 36 ((z_up2 g 27 35 (0 : Int32)) 27 37)) 27 37) ≤ 0) (pc' := 68) (L' := [some (.ref 27), u1]) (S' := []) (pc2 := 60) (L2 := [some (.ref 27), u1]) (S2 := []) rfl (fun _ => rfl) (fun hc => ?_) (fun hc => ?_)
    · have hc := hc
      rw [if_pos hc] at H
      refine m_n 2 (pc' := 70) (L' := [some (.ref 27), u1]) (S' := [.ref 27, .ref 27]) (fun _ => rfl) ?_
      refine m_gI rfl ?_
      refine m_pI rfl ?_
      refine m_n 2 (pc' := 78) (L' := [some (.ref 27), some (.int (0 : Int32))]) (S' := []) (fun _ => rfl) ?_
      exact H
    · have hc := hc
      rw [if_neg hc] at H
      refine m_n 2 (pc' := 63) (L' := [some (.ref 27), u1]) (S' := [.ref 27, .int (-10 : Int32)]) (fun _ => rfl) ?_
      refine m_gI rfl ?_
      refine m_n 1 (pc' := 67) (L' := [some (.ref 27), u1]) (S' := [.int ((-10 : Int32) - ((z_up2 (z_up2 g 27 35 (0 : Int32)) 27 36 ((z_up2 g 27 35 (0 : Int32)) 27 37)) 27 38))]) (fun _ => rfl) ?_
      exact m_r rfl rfl rfl H
set_option maxRecDepth 20000 in
theorem X_195_78 (y1 : Int32) (g : zG) {Q : Int32 → zG → Prop} (H : if (16 : Int32) ≤ y1 then (Q (g 27 45) g) else ((0 ≤ y1.toInt ∧ y1.toInt < 16) ∧ (0 ≤ y1.toInt ∧ y1.toInt < 16) ∧ (0 ≤ y1.toInt ∧ y1.toInt < 16) ∧ (0 ≤ y1.toInt ∧ y1.toInt < 16) ∧ (0 ≤ y1.toInt ∧ y1.toInt < 16) ∧ (0 ≤ y1.toInt ∧ y1.toInt < 16) ∧ (0 ≤ y1.toInt ∧ y1.toInt < 16) ∧ (0 ≤ y1.toInt ∧ y1.toInt < 16) ∧ MG z_pI 195 78 [some (.ref 27), some (.int (y1 + (1 : Int32)))] [] (z_up2 (z_up2 (z_up2 (z_up2 g 62 (z_ix y1) (g 66 (z_ix y1))) 63 (z_ix y1) ((z_up2 g 62 (z_ix y1) (g 66 (z_ix y1))) 67 (z_ix y1))) 64 (z_ix y1) ((z_up2 (z_up2 g 62 (z_ix y1) (g 66 (z_ix y1))) 63 (z_ix y1) ((z_up2 g 62 (z_ix y1) (g 66 (z_ix y1))) 67 (z_ix y1))) 68 (z_ix y1))) 65 (z_ix y1) ((z_up2 (z_up2 (z_up2 g 62 (z_ix y1) (g 66 (z_ix y1))) 63 (z_ix y1) ((z_up2 g 62 (z_ix y1) (g 66 (z_ix y1))) 67 (z_ix y1))) 64 (z_ix y1) ((z_up2 (z_up2 g 62 (z_ix y1) (g 66 (z_ix y1))) 63 (z_ix y1) ((z_up2 g 62 (z_ix y1) (g 66 (z_ix y1))) 67 (z_ix y1))) 68 (z_ix y1))) 69 (z_ix y1))) Q)) : MG z_pI 195 78 [some (.ref 27), some (.int y1)] [] g Q := by
  refine m_n 2 (pc' := 81) (L' := [some (.ref 27), some (.int y1)]) (S' := [.int (16 : Int32), .int y1]) (fun _ => rfl) ?_
  refine m_b (c := (16 : Int32) ≤ y1) (pc' := 138) (L' := [some (.ref 27), some (.int y1)]) (S' := []) (pc2 := 84) (L2 := [some (.ref 27), some (.int y1)]) (S2 := []) rfl (fun _ => rfl) (fun hc => ?_) (fun hc => ?_)
  · have hc := hc
    rw [if_pos hc] at H
    refine m_n 1 (pc' := 139) (L' := [some (.ref 27), some (.int y1)]) (S' := [.ref 27]) (fun _ => rfl) ?_
    refine m_gI rfl ?_
    exact m_r rfl rfl rfl H
  · have hc := hc
    rw [if_neg hc] at H
    refine m_n 1 (pc' := 85) (L' := [some (.ref 27), some (.int y1)]) (S' := [.ref 27]) (fun _ => rfl) ?_
    refine m_gR (q := 62) rfl (by decide) ?_
    refine m_n 2 (pc' := 90) (L' := [some (.ref 27), some (.int y1)]) (S' := [.ref 27, .int y1, .ref 62]) (fun _ => rfl) ?_
    refine m_gR (q := 66) rfl (by decide) ?_
    refine m_n 1 (pc' := 94) (L' := [some (.ref 27), some (.int y1)]) (S' := [.int y1, .ref 66, .int y1, .ref 62]) (fun _ => rfl) ?_
    obtain ⟨o5, H⟩ := H
    refine m_ia 16 rfl rfl o5 ?_
    obtain ⟨o6, H⟩ := H
    refine m_is 16 rfl rfl rfl o6 ?_
    refine m_n 1 (pc' := 97) (L' := [some (.ref 27), some (.int y1)]) (S' := [.ref 27]) (fun _ => rfl) ?_
    refine m_gR (q := 63) rfl (by decide) ?_
    refine m_n 2 (pc' := 102) (L' := [some (.ref 27), some (.int y1)]) (S' := [.ref 27, .int y1, .ref 63]) (fun _ => rfl) ?_
    refine m_gR (q := 67) rfl (by decide) ?_
    refine m_n 1 (pc' := 106) (L' := [some (.ref 27), some (.int y1)]) (S' := [.int y1, .ref 67, .int y1, .ref 63]) (fun _ => rfl) ?_
    obtain ⟨o7, H⟩ := H
    refine m_ia 16 rfl rfl o7 ?_
    obtain ⟨o8, H⟩ := H
    refine m_is 16 rfl rfl rfl o8 ?_
    refine m_n 1 (pc' := 109) (L' := [some (.ref 27), some (.int y1)]) (S' := [.ref 27]) (fun _ => rfl) ?_
    refine m_gR (q := 64) rfl (by decide) ?_
    refine m_n 2 (pc' := 114) (L' := [some (.ref 27), some (.int y1)]) (S' := [.ref 27, .int y1, .ref 64]) (fun _ => rfl) ?_
    refine m_gR (q := 68) rfl (by decide) ?_
    refine m_n 1 (pc' := 118) (L' := [some (.ref 27), some (.int y1)]) (S' := [.int y1, .ref 68, .int y1, .ref 64]) (fun _ => rfl) ?_
    obtain ⟨o9, H⟩ := H
    refine m_ia 16 rfl rfl o9 ?_
    obtain ⟨o10, H⟩ := H
    refine m_is 16 rfl rfl rfl o10 ?_
    refine m_n 1 (pc' := 121) (L' := [some (.ref 27), some (.int y1)]) (S' := [.ref 27]) (fun _ => rfl) ?_
    refine m_gR (q := 65) rfl (by decide) ?_
    refine m_n 2 (pc' := 126) (L' := [some (.ref 27), some (.int y1)]) (S' := [.ref 27, .int y1, .ref 65]) (fun _ => rfl) ?_
    refine m_gR (q := 69) rfl (by decide) ?_
    refine m_n 1 (pc' := 130) (L' := [some (.ref 27), some (.int y1)]) (S' := [.int y1, .ref 69, .int y1, .ref 65]) (fun _ => rfl) ?_
    obtain ⟨o11, H⟩ := H
    refine m_ia 16 rfl rfl o11 ?_
    obtain ⟨o12, H⟩ := H
    refine m_is 16 rfl rfl rfl o12 ?_
    refine m_n 2 (pc' := 78) (L' := [some (.ref 27), some (.int (y1 + (1 : Int32)))]) (S' := []) (fun _ => rfl) ?_
    exact H
