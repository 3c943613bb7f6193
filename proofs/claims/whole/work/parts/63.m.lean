set_option maxRecDepth 20000 in
theorem X_222  (g : zG) {Q : Int32 → zG → Prop} (H : MG z_pI 222 4 [some (.ref 27), some (.int (0 : Int32)), some (.int (1 : Int32))] [] g Q) : MK z_pI 222 [.ref 27] g Q := by
  refine m_K (L := [some (.ref 27), none, none]) rfl ?_
  refine m_n 4 (pc' := 4) (L' := [some (.ref 27), some (.int (0 : Int32)), some (.int (1 : Int32))]) (S' := []) (fun _ => rfl) ?_
  exact H
set_option maxRecDepth 20000 in
theorem X_222_4 (y1 : Int32) (y2 : Int32) (g : zG) {Q : Int32 → zG → Prop} (H : if (g 27 1) ≤ y2 then (Q y1 g) else ((0 ≤ (y2 - (1 : Int32)).toInt ∧ (y2 - (1 : Int32)).toInt < 6) ∧ (0 ≤ y2.toInt ∧ y2.toInt < 6) ∧ (0 ≤ (g 84 (z_ix (y2 - (1 : Int32)))).toInt ∧ (g 84 (z_ix (y2 - (1 : Int32)))).toInt < 6) ∧ (0 ≤ (g 84 (z_ix y2)).toInt ∧ (g 84 (z_ix y2)).toInt < 6) ∧ (0 ≤ (g 84 (z_ix (y2 - (1 : Int32)))).toInt ∧ (g 84 (z_ix (y2 - (1 : Int32)))).toInt < 6) ∧ (0 ≤ (g 84 (z_ix y2)).toInt ∧ (g 84 (z_ix y2)).toInt < 6) ∧ (∀ m3 : Int32, m3 = (if 0 ≤ ((g 28 (z_ix (g 84 (z_ix (y2 - (1 : Int32)))))) - (g 28 (z_ix (g 84 (z_ix y2))))) then ((g 28 (z_ix (g 84 (z_ix (y2 - (1 : Int32)))))) - (g 28 (z_ix (g 84 (z_ix y2))))) else (-((g 28 (z_ix (g 84 (z_ix (y2 - (1 : Int32)))))) - (g 28 (z_ix (g 84 (z_ix y2))))))) → ∀ m4 : Int32, m4 = (if 0 ≤ ((g 29 (z_ix (g 84 (z_ix (y2 - (1 : Int32)))))) - (g 29 (z_ix (g 84 (z_ix y2))))) then ((g 29 (z_ix (g 84 (z_ix (y2 - (1 : Int32)))))) - (g 29 (z_ix (g 84 (z_ix y2))))) else (-((g 29 (z_ix (g 84 (z_ix (y2 - (1 : Int32)))))) - (g 29 (z_ix (g 84 (z_ix y2))))))) → MG z_pI 222 4 [some (.ref 27), some (.int (y1 + (((m3 + m4) + (9 : Int32)) / (10 : Int32)))), some (.int (y2 + (1 : Int32)))] [] g Q))) : MG z_pI 222 4 [some (.ref 27), some (.int y1), some (.int y2)] [] g Q := by
  refine m_n 2 (pc' := 6) (L' := [some (.ref 27), some (.int y1), some (.int y2)]) (S' := [.ref 27, .int y2]) (fun _ => rfl) ?_
  refine m_gI rfl ?_
  refine m_b (c := (g 27 1) ≤ y2) (pc' := 39) (L' := [some (.ref 27), some (.int y1), some (.int y2)]) (S' := []) (pc2 := 12) (L2 := [some (.ref 27), some (.int y1), some (.int y2)]) (S2 := []) rfl (fun _ => rfl) (fun hc => ?_) (fun hc => ?_)
  · have hc := hc
    rw [if_pos hc] at H
    refine m_n 1 (pc' := 40) (L' := [some (.ref 27), some (.int y1), some (.int y2)]) (S' := [.int y1]) (fun _ => rfl) ?_
    exact m_r rfl rfl rfl H
  · have hc := hc
    rw [if_neg hc] at H
    refine m_n 3 (pc' := 15) (L' := [some (.ref 27), some (.int y1), some (.int y2)]) (S' := [.ref 27, .ref 27, .int y1]) (fun _ => rfl) ?_
    refine m_gR (q := 84) rfl (by decide) ?_
    refine m_n 3 (pc' := 21) (L' := [some (.ref 27), some (.int y1), some (.int y2)]) (S' := [.int (y2 - (1 : Int32)), .ref 84, .ref 27, .int y1]) (fun _ => rfl) ?_
    obtain ⟨o1, H⟩ := H
    refine m_ia 6 rfl rfl o1 ?_
    refine m_n 1 (pc' := 23) (L' := [some (.ref 27), some (.int y1), some (.int y2)]) (S' := [.ref 27, .int (g 84 (z_ix (y2 - (1 : Int32)))), .ref 27, .int y1]) (fun _ => rfl) ?_
    refine m_gR (q := 84) rfl (by decide) ?_
    refine m_n 1 (pc' := 27) (L' := [some (.ref 27), some (.int y1), some (.int y2)]) (S' := [.int y2, .ref 84, .int (g 84 (z_ix (y2 - (1 : Int32)))), .ref 27, .int y1]) (fun _ => rfl) ?_
    obtain ⟨o2, H⟩ := H
    refine m_ia 6 rfl rfl o2 ?_
    refine m_cI 221 3 rfl rfl rfl (A := [.ref 27, .int (g 84 (z_ix (y2 - (1 : Int32)))), .int (g 84 (z_ix y2))]) rfl rfl (Or.inr ⟨rfl, _, rfl⟩) (rest := [.int y1]) rfl rfl rfl ?_
    obtain ⟨o5, H⟩ := H
    obtain ⟨o6, H⟩ := H
    obtain ⟨o7, H⟩ := H
    obtain ⟨o8, H⟩ := H
    obtain ⟨m3, em3⟩ : ∃ m : Int32, m = (if 0 ≤ ((g 28 (z_ix (g 84 (z_ix (y2 - (1 : Int32)))))) - (g 28 (z_ix (g 84 (z_ix y2))))) then ((g 28 (z_ix (g 84 (z_ix (y2 - (1 : Int32)))))) - (g 28 (z_ix (g 84 (z_ix y2))))) else (-((g 28 (z_ix (g 84 (z_ix (y2 - (1 : Int32)))))) - (g 28 (z_ix (g 84 (z_ix y2))))))) := ⟨_, rfl⟩
    have H := H m3 em3
    obtain ⟨m4, em4⟩ : ∃ m : Int32, m = (if 0 ≤ ((g 29 (z_ix (g 84 (z_ix (y2 - (1 : Int32)))))) - (g 29 (z_ix (g 84 (z_ix y2))))) then ((g 29 (z_ix (g 84 (z_ix (y2 - (1 : Int32)))))) - (g 29 (z_ix (g 84 (z_ix y2))))) else (-((g 29 (z_ix (g 84 (z_ix (y2 - (1 : Int32)))))) - (g 29 (z_ix (g 84 (z_ix y2))))))) := ⟨_, rfl⟩
    have H := H m4 em4
    refine X_221 (g 84 (z_ix (y2 - (1 : Int32)))) (g 84 (z_ix y2)) g ⟨o5, ⟨o6, ⟨o7, ⟨o8, (z_all em3 (z_all em4 ?_))⟩⟩⟩⟩
    refine m_n 4 (pc' := 4) (L' := [some (.ref 27), some (.int (y1 + (((m3 + m4) + (9 : Int32)) / (10 : Int32)))), some (.int (y2 + (1 : Int32)))]) (S' := []) (fun _ => rfl) ?_
    exact H
set_option maxRecDepth 20000 in
theorem X_223  (g : zG) {Q : Int32 → zG → Prop} (H : MG z_pI 223 6 [some (.ref 27), some (.int (0 : Int32)), some (.int (0 : Int32)), some (.int (1 : Int32))] [] g Q) : MK z_pI 223 [.ref 27] g Q := by
  refine m_K (L := [some (.ref 27), none, none, none]) rfl ?_
  refine m_n 6 (pc' := 6) (L' := [some (.ref 27), some (.int (0 : Int32)), some (.int (0 : Int32)), some (.int (1 : Int32))]) (S' := []) (fun _ => rfl) ?_
  exact H
set_option maxRecDepth 20000 in
theorem X_223_6 (y1 : Int32) (y2 : Int32) (y3 : Int32) (g : zG) {Q : Int32 → zG → Prop} (H : if (g 27 1) ≤ y3 then (Q y2 g) else ((0 ≤ (y3 - (1 : Int32)).toInt ∧ (y3 - (1 : Int32)).toInt < 6) ∧ (0 ≤ y3.toInt ∧ y3.toInt < 6) ∧ (0 ≤ (g 84 (z_ix (y3 - (1 : Int32)))).toInt ∧ (g 84 (z_ix (y3 - (1 : Int32)))).toInt < 6) ∧ (0 ≤ (g 84 (z_ix y3)).toInt ∧ (g 84 (z_ix y3)).toInt < 6) ∧ (0 ≤ (g 84 (z_ix (y3 - (1 : Int32)))).toInt ∧ (g 84 (z_ix (y3 - (1 : Int32)))).toInt < 6) ∧ (0 ≤ (g 84 (z_ix y3)).toInt ∧ (g 84 (z_ix y3)).toInt < 6) ∧ (∀ m3 : Int32, m3 = (if 0 ≤ ((g 28 (z_ix (g 84 (z_ix (y3 - (1 : Int32)))))) - (g 28 (z_ix (g 84 (z_ix y3))))) then ((g 28 (z_ix (g 84 (z_ix (y3 - (1 : Int32)))))) - (g 28 (z_ix (g 84 (z_ix y3))))) else (-((g 28 (z_ix (g 84 (z_ix (y3 - (1 : Int32)))))) - (g 28 (z_ix (g 84 (z_ix y3))))))) → ∀ m4 : Int32, m4 = (if 0 ≤ ((g 29 (z_ix (g 84 (z_ix (y3 - (1 : Int32)))))) - (g 29 (z_ix (g 84 (z_ix y3))))) then ((g 29 (z_ix (g 84 (z_ix (y3 - (1 : Int32)))))) - (g 29 (z_ix (g 84 (z_ix y3))))) else (-((g 29 (z_ix (g 84 (z_ix (y3 - (1 : Int32)))))) - (g 29 (z_ix (g 84 (z_ix y3))))))) → (0 ≤ y3.toInt ∧ y3.toInt < 6) ∧ (Cn g) ∧ MG z_pI 223 6 [some (.ref 27), some (.int (y1 + (((m3 + m4) + (9 : Int32)) / (10 : Int32)))), some (.int (y2 + ((y1 + (((m3 + m4) + (9 : Int32)) / (10 : Int32))) * q_un g (g 84 (z_ix y3))))), some (.int (y3 + (1 : Int32)))] [] g Q))) : MG z_pI 223 6 [some (.ref 27), some (.int y1), some (.int y2), some (.int y3)] [] g Q := by
  refine m_n 2 (pc' := 8) (L' := [some (.ref 27), some (.int y1), some (.int y2), some (.int y3)]) (S' := [.ref 27, .int y3]) (fun _ => rfl) ?_
  refine m_gI rfl ?_
  refine m_b (c := (g 27 1) ≤ y3) (pc' := 56) (L' := [some (.ref 27), some (.int y1), some (.int y2), some (.int y3)]) (S' := []) (pc2 := 14) (L2 := [some (.ref 27), some (.int y1), some (.int y2), some (.int y3)]) (S2 := []) rfl (fun _ => rfl) (fun hc => ?_) (fun hc => ?_)
  · have hc := hc
    rw [if_pos hc] at H
    refine m_n 1 (pc' := 57) (L' := [some (.ref 27), some (.int y1), some (.int y2), some (.int y3)]) (S' := [.int y2]) (fun _ => rfl) ?_
    exact m_r rfl rfl rfl H
  · have hc := hc
    rw [if_neg hc] at H
    refine m_n 3 (pc' := 17) (L' := [some (.ref 27), some (.int y1), some (.int y2), some (.int y3)]) (S' := [.ref 27, .ref 27, .int y1]) (fun _ => rfl) ?_
    refine m_gR (q := 84) rfl (by decide) ?_
    refine m_n 3 (pc' := 23) (L' := [some (.ref 27), some (.int y1), some (.int y2), some (.int y3)]) (S' := [.int (y3 - (1 : Int32)), .ref 84, .ref 27, .int y1]) (fun _ => rfl) ?_
    obtain ⟨o1, H⟩ := H
    refine m_ia 6 rfl rfl o1 ?_
    refine m_n 1 (pc' := 25) (L' := [some (.ref 27), some (.int y1), some (.int y2), some (.int y3)]) (S' := [.ref 27, .int (g 84 (z_ix (y3 - (1 : Int32)))), .ref 27, .int y1]) (fun _ => rfl) ?_
    refine m_gR (q := 84) rfl (by decide) ?_
    refine m_n 1 (pc' := 29) (L' := [some (.ref 27), some (.int y1), some (.int y2), some (.int y3)]) (S' := [.int y3, .ref 84, .int (g 84 (z_ix (y3 - (1 : Int32)))), .ref 27, .int y1]) (fun _ => rfl) ?_
    obtain ⟨o2, H⟩ := H
    refine m_ia 6 rfl rfl o2 ?_
    refine m_cI 221 3 rfl rfl rfl (A := [.ref 27, .int (g 84 (z_ix (y3 - (1 : Int32)))), .int (g 84 (z_ix y3))]) rfl rfl (Or.inr ⟨rfl, _, rfl⟩) (rest := [.int y1]) rfl rfl rfl ?_
    obtain ⟨o5, H⟩ := H
    obtain ⟨o6, H⟩ := H
    obtain ⟨o7, H⟩ := H
    obtain ⟨o8, H⟩ := H
    obtain ⟨m3, em3⟩ : ∃ m : Int32, m = (if 0 ≤ ((g 28 (z_ix (g 84 (z_ix (y3 - (1 : Int32)))))) - (g 28 (z_ix (g 84 (z_ix y3))))) then ((g 28 (z_ix (g 84 (z_ix (y3 - (1 : Int32)))))) - (g 28 (z_ix (g 84 (z_ix y3))))) else (-((g 28 (z_ix (g 84 (z_ix (y3 - (1 : Int32)))))) - (g 28 (z_ix (g 84 (z_ix y3))))))) := ⟨_, rfl⟩
    have H := H m3 em3
    obtain ⟨m4, em4⟩ : ∃ m : Int32, m = (if 0 ≤ ((g 29 (z_ix (g 84 (z_ix (y3 - (1 : Int32)))))) - (g 29 (z_ix (g 84 (z_ix y3))))) then ((g 29 (z_ix (g 84 (z_ix (y3 - (1 : Int32)))))) - (g 29 (z_ix (g 84 (z_ix y3))))) else (-((g 29 (z_ix (g 84 (z_ix (y3 - (1 : Int32)))))) - (g 29 (z_ix (g 84 (z_ix y3))))))) := ⟨_, rfl⟩
    have H := H m4 em4
    refine X_221 (g 84 (z_ix (y3 - (1 : Int32)))) (g 84 (z_ix y3)) g ⟨o5, ⟨o6, ⟨o7, ⟨o8, (z_all em3 (z_all em4 ?_))⟩⟩⟩⟩
    refine m_n 6 (pc' := 39) (L' := [some (.ref 27), some (.int (y1 + (((m3 + m4) + (9 : Int32)) / (10 : Int32)))), some (.int y2), some (.int y3)]) (S' := [.ref 27, .ref 27, .int (y1 + (((m3 + m4) + (9 : Int32)) / (10 : Int32))), .int y2]) (fun _ => rfl) ?_
    refine m_gR (q := 84) rfl (by decide) ?_
    refine m_n 1 (pc' := 43) (L' := [some (.ref 27), some (.int (y1 + (((m3 + m4) + (9 : Int32)) / (10 : Int32)))), some (.int y2), some (.int y3)]) (S' := [.int y3, .ref 84, .ref 27, .int (y1 + (((m3 + m4) + (9 : Int32)) / (10 : Int32))), .int y2]) (fun _ => rfl) ?_
    obtain ⟨o9, H⟩ := H
    refine m_ia 6 rfl rfl o9 ?_
    refine m_cI 179 2 rfl rfl rfl (A := [.ref 27, .int (g 84 (z_ix y3))]) rfl rfl (Or.inr ⟨rfl, _, rfl⟩) (rest := [.int (y1 + (((m3 + m4) + (9 : Int32)) / (10 : Int32))), .int y2]) rfl rfl rfl ?_
    obtain ⟨o10, H⟩ := H
    refine c_unread (g 84 (z_ix y3)) g o10 ?_
    refine m_n 5 (pc' := 6) (L' := [some (.ref 27), some (.int (y1 + (((m3 + m4) + (9 : Int32)) / (10 : Int32)))), some (.int (y2 + ((y1 + (((m3 + m4) + (9 : Int32)) / (10 : Int32))) * q_un g (g 84 (z_ix y3))))), some (.int (y3 + (1 : Int32)))]) (S' := []) (fun _ => rfl) ?_
    exact H
set_option maxRecDepth 20000 in
theorem X_224 (x1 : Int32) (g : zG) {Q : Int32 → zG → Prop} (H : MG z_pI 224 12 [some (.ref 27), some (.int x1), some (.int x1), some (.int (0 : Int32)), some (.int ((g 27 1) - (1 : Int32)))] [] g Q) : MK z_pI 224 [.ref 27, .int x1] g Q := by
  refine m_K (L := [some (.ref 27), some (.int x1), none, none, none]) rfl ?_
  refine m_n 5 (pc' := 5) (L' := [some (.ref 27), some (.int x1), some (.int x1), some (.int (0 : Int32)), none]) (S' := [.ref 27]) (fun _ => rfl) ?_
  refine m_gI rfl ?_
  refine m_n 3 (pc' := 12) (L' := [some (.ref 27), some (.int x1), some (.int x1), some (.int (0 : Int32)), some (.int ((g 27 1) - (1 : Int32)))]) (S' := []) (fun _ => rfl) ?_
  exact H
set_option maxRecDepth 20000 in
theorem X_224_12 (y1 : Int32) (y2 : Int32) (y3 : Int32) (y4 : Int32) (g : zG) {Q : Int32 → zG → Prop} (H : if y4 < 0 then (Q (z_bt ((y2 = 0) ∧ (y3 = (((1 : Int32) <<< ((g 27 1) &&& 31)) - (1 : Int32))))) g) else ((0 ≤ y4.toInt ∧ y4.toInt < 6) ∧ (0 ≤ y4.toInt ∧ y4.toInt < 6) ∧ (¬ (((z_up2 g 84 (z_ix y4) (y2 - y2 / (10 : Int32) * (10 : Int32))) 27 1) ≤ ((z_up2 g 84 (z_ix y4) (y2 - y2 / (10 : Int32) * (10 : Int32))) 84 (z_ix y4))) → 0 ≤ y4.toInt ∧ y4.toInt < 6) ∧ (∀ m8 : Int32, m8 = (if ((z_up2 g 84 (z_ix y4) (y2 - y2 / (10 : Int32) * (10 : Int32))) 27 1) ≤ ((z_up2 g 84 (z_ix y4) (y2 - y2 / (10 : Int32) * (10 : Int32))) 84 (z_ix y4)) then (0 : Int32) else ((1 : Int32) <<< (((z_up2 g 84 (z_ix y4) (y2 - y2 / (10 : Int32) * (10 : Int32))) 84 (z_ix y4)) &&& 31))) → MG z_pI 224 12 [some (.ref 27), some (.int y1), some (.int (y2 / (10 : Int32))), some (.int (y3 ||| m8)), some (.int (y4 + (-1 : Int32)))] [] (z_up2 g 84 (z_ix y4) (y2 - y2 / (10 : Int32) * (10 : Int32))) Q))) : MG z_pI 224 12 [some (.ref 27), some (.int y1), some (.int y2), some (.int y3), some (.int y4)] [] g Q := by
  refine m_n 1 (pc' := 14) (L' := [some (.ref 27), some (.int y1), some (.int y2), some (.int y3), some (.int y4)]) (S' := [.int y4]) (fun _ => rfl) ?_
  refine m_b (c := y4 < 0) (pc' := 69) (L' := [some (.ref 27), some (.int y1), some (.int y2), some (.int y3), some (.int y4)]) (S' := []) (pc2 := 17) (L2 := [some (.ref 27), some (.int y1), some (.int y2), some (.int y3), some (.int y4)]) (S2 := []) rfl (fun _ => rfl) (fun hc => ?_) (fun hc => ?_)
  · have hc := hc
    rw [if_pos hc] at H
    refine m_n 1 (pc' := 70) (L' := [some (.ref 27), some (.int y1), some (.int y2), some (.int y3), some (.int y4)]) (S' := [.int y2]) (fun _ => rfl) ?_
    have hj3 : MG z_pI 224 90 [some (.ref 27), some (.int y1), some (.int y2), some (.int y3), some (.int y4)] [.int (z_bt ((y2 = 0) ∧ (y3 = (((1 : Int32) <<< ((g 27 1) &&& 31)) - (1 : Int32)))))] g Q := by
      exact m_r rfl (z_retB z_bt_01) rfl H
    refine m_b (c := y2 = 0) (pc' := 73) (L' := [some (.ref 27), some (.int y1), some (.int y2), some (.int y3), some (.int y4)]) (S' := []) (pc2 := 89) (L2 := [some (.ref 27), some (.int y1), some (.int y2), some (.int y3), some (.int y4)]) (S2 := []) rfl (fun _ => rfl) (fun hc => ?_) (fun hc => ?_)
    · have c1 := hc
      refine m_n 3 (pc' := 76) (L' := [some (.ref 27), some (.int y1), some (.int y2), some (.int y3), some (.int y4)]) (S' := [.ref 27, .int (1 : Int32), .int y3]) (fun _ => rfl) ?_
      refine m_gI rfl ?_
      refine m_n 3 (pc' := 82) (L' := [some (.ref 27), some (.int y1), some (.int y2), some (.int y3), some (.int y4)]) (S' := [.int (((1 : Int32) <<< ((g 27 1) &&& 31)) - (1 : Int32)), .int y3]) (fun _ => rfl) ?_
      refine m_b (c := y3 = (((1 : Int32) <<< ((g 27 1) &&& 31)) - (1 : Int32))) (pc' := 85) (L' := [some (.ref 27), some (.int y1), some (.int y2), some (.int y3), some (.int y4)]) (S' := []) (pc2 := 89) (L2 := [some (.ref 27), some (.int y1), some (.int y2), some (.int y3), some (.int y4)]) (S2 := []) rfl (fun _ => rfl) (fun hc => ?_) (fun hc => ?_)
      · have c2 := hc
        refine m_n 2 (pc' := 90) (L' := [some (.ref 27), some (.int y1), some (.int y2), some (.int y3), some (.int y4)]) (S' := [.int (1 : Int32)]) (fun _ => rfl) ?_
        rw [show z_bt ((y2 = 0) ∧ (y3 = (((1 : Int32) <<< ((g 27 1) &&& 31)) - (1 : Int32)))) = 1 from z_bt_1.mpr (⟨c1, c2⟩)] at hj3
        exact hj3
      · have c2 := hc
        refine m_n 1 (pc' := 90) (L' := [some (.ref 27), some (.int y1), some (.int y2), some (.int y3), some (.int y4)]) (S' := [.int (0 : Int32)]) (fun _ => rfl) ?_
        rw [show z_bt ((y2 = 0) ∧ (y3 = (((1 : Int32) <<< ((g 27 1) &&& 31)) - (1 : Int32)))) = 0 from z_bt_0.mpr ((fun q => c2 q.2))] at hj3
        exact hj3
    · have c1 := hc
      refine m_n 1 (pc' := 90) (L' := [some (.ref 27), some (.int y1), some (.int y2), some (.int y3), some (.int y4)]) (S' := [.int (0 : Int32)]) (fun _ => rfl) ?_
      rw [show z_bt ((y2 = 0) ∧ (y3 = (((1 : Int32) <<< ((g 27 1) &&& 31)) - (1 : Int32)))) = 0 from z_bt_0.mpr ((fun q => c1 q.1))] at hj3
      exact hj3
  · have hc := hc
    rw [if_neg hc] at H
    refine m_n 1 (pc' := 18) (L' := [some (.ref 27), some (.int y1), some (.int y2), some (.int y3), some (.int y4)]) (S' := [.ref 27]) (fun _ => rfl) ?_
    refine m_gR (q := 84) rfl (by decide) ?_
    refine m_n 3 (pc' := 26) (L' := [some (.ref 27), some (.int y1), some (.int y2), some (.int y3), some (.int y4)]) (S' := [.int (10 : Int32), .int y2, .int y4, .ref 84]) (fun _ => rfl) ?_
    refine m_d (c := (10 : Int32) = 0) (pc' := 27) (L' := [some (.ref 27), some (.int y1), some (.int y2), some (.int y3), some (.int y4)]) (S' := [.int (y2 - y2 / (10 : Int32) * (10 : Int32)), .int y4, .ref 84]) rfl (fun _ => rfl) (by decide) ?_
    obtain ⟨o4, H⟩ := H
    refine m_is 6 rfl rfl rfl o4 ?_
    refine m_n 2 (pc' := 30) (L' := [some (.ref 27), some (.int y1), some (.int y2), some (.int y3), some (.int y4)]) (S' := [.ref 27, .int y3]) (fun _ => rfl) ?_
    refine m_gR (q := 84) rfl (by decide) ?_
    refine m_n 1 (pc' := 35) (L' := [some (.ref 27), some (.int y1), some (.int y2), some (.int y3), some (.int y4)]) (S' := [.int y4, .ref 84, .int y3]) (fun _ => rfl) ?_
    obtain ⟨o5, H⟩ := H
    refine m_ia 6 rfl rfl o5 ?_
    refine m_n 1 (pc' := 37) (L' := [some (.ref 27), some (.int y1), some (.int y2), some (.int y3), some (.int y4)]) (S' := [.ref 27, .int ((z_up2 g 84 (z_ix y4) (y2 - y2 / (10 : Int32) * (10 : Int32))) 84 (z_ix y4)), .int y3]) (fun _ => rfl) ?_
    refine m_gI rfl ?_
    obtain ⟨o7, H⟩ := H
    obtain ⟨m8, em8⟩ : ∃ m : Int32, m = (if ((z_up2 g 84 (z_ix y4) (y2 - y2 / (10 : Int32) * (10 : Int32))) 27 1) ≤ ((z_up2 g 84 (z_ix y4) (y2 - y2 / (10 : Int32) * (10 : Int32))) 84 (z_ix y4)) then (0 : Int32) else ((1 : Int32) <<< (((z_up2 g 84 (z_ix y4) (y2 - y2 / (10 : Int32) * (10 : Int32))) 84 (z_ix y4)) &&& 31))) := ⟨_, rfl⟩
    have H := H m8 em8
    have hj9 : MG z_pI 224 56 [some (.ref 27), some (.int y1), some (.int y2), some (.int y3), some (.int y4)] [.int m8, .int y3] (z_up2 g 84 (z_ix y4) (y2 - y2 / (10 : Int32) * (10 : Int32))) Q := by
      refine m_n 4 (pc' := 61) (L' := [some (.ref 27), some (.int y1), some (.int y2), some (.int (y3 ||| m8)), some (.int y4)]) (S' := [.int (10 : Int32), .int y2]) (fun _ => rfl) ?_
      refine m_d (c := (10 : Int32) = 0) (pc' := 62) (L' := [some (.ref 27), some (.int y1), some (.int y2), some (.int (y3 ||| m8)), some (.int y4)]) (S' := [.int (y2 / (10 : Int32))]) rfl (fun _ => rfl) (by decide) ?_
      refine m_n 3 (pc' := 12) (L' := [some (.ref 27), some (.int y1), some (.int (y2 / (10 : Int32))), some (.int (y3 ||| m8)), some (.int (y4 + (-1 : Int32)))]) (S' := []) (fun _ => rfl) ?_
      exact H
    refine m_b (c := ((z_up2 g 84 (z_ix y4) (y2 - y2 / (10 : Int32) * (10 : Int32))) 27 1) ≤ ((z_up2 g 84 (z_ix y4) (y2 - y2 / (10 : Int32) * (10 : Int32))) 84 (z_ix y4))) (pc' := 55) (L' := [some (.ref 27), some (.int y1), some (.int y2), some (.int y3), some (.int y4)]) (S' := [.int y3]) (pc2 := 43) (L2 := [some (.ref 27), some (.int y1), some (.int y2), some (.int y3), some (.int y4)]) (S2 := [.int y3]) rfl (fun _ => rfl) (fun hc => ?_) (fun hc => ?_)
    · have c6 := hc
      refine m_n 1 (pc' := 56) (L' := [some (.ref 27), some (.int y1), some (.int y2), some (.int y3), some (.int y4)]) (S' := [.int (0 : Int32), .int y3]) (fun _ => rfl) ?_
      rw [(em8.trans (by rw [if_pos c6]) : m8 = (0 : Int32))] at hj9
      exact hj9
    · have c6 := hc
      refine m_n 2 (pc' := 45) (L' := [some (.ref 27), some (.int y1), some (.int y2), some (.int y3), some (.int y4)]) (S' := [.ref 27, .int (1 : Int32), .int y3]) (fun _ => rfl) ?_
      refine m_gR (q := 84) rfl (by decide) ?_
      refine m_n 1 (pc' := 50) (L' := [some (.ref 27), some (.int y1), some (.int y2), some (.int y3), some (.int y4)]) (S' := [.int y4, .ref 84, .int (1 : Int32), .int y3]) (fun _ => rfl) ?_
      refine m_ia 6 rfl rfl (o7 c6) ?_
      refine m_n 2 (pc' := 56) (L' := [some (.ref 27), some (.int y1), some (.int y2), some (.int y3), some (.int y4)]) (S' := [.int ((1 : Int32) <<< (((z_up2 g 84 (z_ix y4) (y2 - y2 / (10 : Int32) * (10 : Int32))) 84 (z_ix y4)) &&& 31)), .int y3]) (fun _ => rfl) ?_
      rw [(em8.trans (by rw [if_neg c6]) : m8 = ((1 : Int32) <<< (((z_up2 g 84 (z_ix y4) (y2 - y2 / (10 : Int32) * (10 : Int32))) 84 (z_ix y4)) &&& 31)))] at hj9
      exact hj9
set_option maxRecDepth 20000 in
theorem X_226 (x1 : Int32) (x2 : Int32) (g : zG) {Q : Int32 → zG → Prop} (H : if (0 : Int32) ≤ x1 ∧ x1 ≤ ((g 27 1) - (1 : Int32)) then (if (0 : Int32) ≤ x2 ∧ x2 ≤ (1 : Int32) then (MK z_pI 225 [.ref 27, .int (g 27 1)] g (fun r3 g4 => MG z_pI 226 54 [some (.ref 27), some (.int x1), some (.int x2), some (.int r3), some (.int (-1 : Int32)), some (.int (0 : Int32)), some (.int (x1 * r3)), none] [] g4 Q)) else (if (10 : Int32) ≤ x2 ∧ x2 ≤ (15 : Int32) then (MK z_pI 225 [.ref 27, .int (g 27 1)] g (fun r1 g2 => MG z_pI 226 54 [some (.ref 27), some (.int x1), some (.int x2), some (.int r1), some (.int (-1 : Int32)), some (.int (0 : Int32)), some (.int (x1 * r1)), none] [] g2 Q)) else (Q (-1 : Int32) g))) else (Q (-1 : Int32) g)) : MK z_pI 226 [.ref 27, .int x1, .int x2] g Q := by
  refine m_K (L := [some (.ref 27), some (.int x1), some (.int x2), none, none, none, none, none]) rfl ?_
  refine m_n 2 (pc' := 2) (L' := [some (.ref 27), some (.int x1), some (.int x2), none, none, none, none, none]) (S' := [.int x1, .ref 27]) (fun _ => rfl) ?_
  refine m_cI 163 2 rfl rfl rfl (A := [.ref 27, .int x1]) rfl rfl (Or.inr ⟨rfl, _, rfl⟩) (rest := []) rfl rfl rfl ?_
  refine X_163 x1 g ?_
  refine m_b (c := z_bt ((0 : Int32) ≤ x1 ∧ x1 ≤ ((g 27 1) - (1 : Int32))) = 0) (pc' := 32) (L' := [some (.ref 27), some (.int x1), some (.int x2), none, none, none, none, none]) (S' := []) (pc2 := 8) (L2 := [some (.ref 27), some (.int x1), some (.int x2), none, none, none, none, none]) (S2 := []) rfl (fun _ => rfl) (fun hc => ?_) (fun hc => ?_)
  · have hc := z_bt_0.mp hc
    rw [if_neg hc] at H
    refine m_n 1 (pc' := 33) (L' := [some (.ref 27), some (.int x1), some (.int x2), none, none, none, none, none]) (S' := [.int (-1 : Int32)]) (fun _ => rfl) ?_
    exact m_r rfl rfl rfl H
  · have hc := Decidable.not_not.mp (fun q => hc (z_bt_0.mpr q))
    rw [if_pos hc] at H
    refine m_n 4 (pc' := 12) (L' := [some (.ref 27), some (.int x1), some (.int x2), none, none, none, none, none]) (S' := [.long (1 : Int64), .long (0 : Int64), .long x2.toInt64]) (fun _ => rfl) ?_
    refine m_cI 161 3 rfl rfl rfl (A := [.long x2.toInt64, .long (0 : Int64), .long (1 : Int64)]) rfl rfl (Or.inl rfl) (rest := []) rfl rfl rfl ?_
    refine c_inJ x2 (0 : Int32) (1 : Int32) g rfl rfl rfl ?_
    refine m_b (c := z_bt ((0 : Int32) ≤ x2 ∧ x2 ≤ (1 : Int32)) = 0) (pc' := 18) (L' := [some (.ref 27), some (.int x1), some (.int x2), none, none, none, none, none]) (S' := []) (pc2 := 34) (L2 := [some (.ref 27), some (.int x1), some (.int x2), none, none, none, none, none]) (S2 := []) rfl (fun _ => rfl) (fun hc => ?_) (fun hc => ?_)
    · have hc := z_bt_0.mp hc
      rw [if_neg hc] at H
      refine m_n 4 (pc' := 26) (L' := [some (.ref 27), some (.int x1), some (.int x2), none, none, none, none, none]) (S' := [.long (15 : Int64), .long (10 : Int64), .long x2.toInt64]) (fun _ => rfl) ?_
      refine m_cI 161 3 rfl rfl rfl (A := [.long x2.toInt64, .long (10 : Int64), .long (15 : Int64)]) rfl rfl (Or.inl rfl) (rest := []) rfl rfl rfl ?_
      refine c_inJ x2 (10 : Int32) (15 : Int32) g rfl rfl rfl ?_
      refine m_b (c := z_bt ((10 : Int32) ≤ x2 ∧ x2 ≤ (15 : Int32)) = 0) (pc' := 32) (L' := [some (.ref 27), some (.int x1), some (.int x2), none, none, none, none, none]) (S' := []) (pc2 := 34) (L2 := [some (.ref 27), some (.int x1), some (.int x2), none, none, none, none, none]) (S2 := []) rfl (fun _ => rfl) (fun hc => ?_) (fun hc => ?_)
      · have hc := z_bt_0.mp hc
        rw [if_neg hc] at H
        refine m_n 1 (pc' := 33) (L' := [some (.ref 27), some (.int x1), some (.int x2), none, none, none, none, none]) (S' := [.int (-1 : Int32)]) (fun _ => rfl) ?_
        exact m_r rfl rfl rfl H
      · have hc := Decidable.not_not.mp (fun q => hc (z_bt_0.mpr q))
        rw [if_pos hc] at H
        refine m_n 2 (pc' := 36) (L' := [some (.ref 27), some (.int x1), some (.int x2), none, none, none, none, none]) (S' := [.ref 27, .ref 27]) (fun _ => rfl) ?_
        refine m_gI rfl ?_
        refine m_cI 225 2 rfl rfl rfl (A := [.ref 27, .int (g 27 1)]) rfl rfl (Or.inr ⟨rfl, _, rfl⟩) (rest := []) rfl rfl rfl ?_
        refine H.mono (fun r1 g2 H => ?_)
        refine m_n 9 (pc' := 54) (L' := [some (.ref 27), some (.int x1), some (.int x2), some (.int r1), some (.int (-1 : Int32)), some (.int (0 : Int32)), some (.int (x1 * r1)), none]) (S' := []) (fun _ => rfl) ?_
        exact H
    · have hc := Decidable.not_not.mp (fun q => hc (z_bt_0.mpr q))
      rw [if_pos hc] at H
      refine m_n 2 (pc' := 36) (L' := [some (.ref 27), some (.int x1), some (.int x2), none, none, none, none, none]) (S' := [.ref 27, .ref 27]) (fun _ => rfl) ?_
      refine m_gI rfl ?_
      refine m_cI 225 2 rfl rfl rfl (A := [.ref 27, .int (g 27 1)]) rfl rfl (Or.inr ⟨rfl, _, rfl⟩) (rest := []) rfl rfl rfl ?_
      refine H.mono (fun r3 g4 H => ?_)
      refine m_n 9 (pc' := 54) (L' := [some (.ref 27), some (.int x1), some (.int x2), some (.int r3), some (.int (-1 : Int32)), some (.int (0 : Int32)), some (.int (x1 * r3)), none]) (S' := []) (fun _ => rfl) ?_
      exact H
set_option maxRecDepth 20000 in
theorem X_226_54 (y1 : Int32) (y2 : Int32) (y3 : Int32) (y4 : Int32) (y5 : Int32) (y6 : Int32) (u7 : Option Value) (g : zG) {Q : Int32 → zG → Prop} (H : if ((y1 + (1 : Int32)) * y3) ≤ y6 then ((¬ (y2 = 0) → ¬ (y2 = (1 : Int32)) → ¬ ((g 27 1) ≤ (y2 - (10 : Int32))) → 0 ≤ (y2 - (10 : Int32)).toInt ∧ (y2 - (10 : Int32)).toInt < 6) ∧ (∀ m9 : Int32, m9 = (if y2 = 0 then y4 else (if y2 = (1 : Int32) then y5 else (if (g 27 1) ≤ (y2 - (10 : Int32)) then (-4 : Int32) else (g 85 (z_ix (y2 - (10 : Int32))))))) → Q m9 g)) else (MK z_pI 224 [.ref 27, .int y6] g (fun r11 g12 => if r11 = 0 then (MG z_pI 226 54 [some (.ref 27), some (.int y1), some (.int y2), some (.int y3), some (.int y4), some (.int y5), some (.int (y6 + (1 : Int32))), u7] [] g12 Q) else (if y4 < 0 then (MK z_pI 223 [.ref 27] g12 (fun r13 g14 => MK z_pI 222 [.ref 27] g14 (fun r15 g16 => MG z_pI 226 102 [some (.ref 27), some (.int y1), some (.int y2), some (.int y3), some (.int r13), some (.int r15), some (.int y6), some (.int (0 : Int32))] [] g16 Q))) else (MK z_pI 223 [.ref 27] g12 (fun r17 g18 => if y4 ≤ r17 then (MG z_pI 226 54 [some (.ref 27), some (.int y1), some (.int y2), some (.int y3), some (.int y4), some (.int y5), some (.int (y6 + (1 : Int32))), u7] [] g18 Q) else (MK z_pI 223 [.ref 27] g18 (fun r19 g20 => MK z_pI 222 [.ref 27] g20 (fun r21 g22 => MG z_pI 226 102 [some (.ref 27), some (.int y1), some (.int y2), some (.int y3), some (.int r19), some (.int r21), some (.int y6), some (.int (0 : Int32))] [] g22 Q))))))))) : MG z_pI 226 54 [some (.ref 27), some (.int y1), some (.int y2), some (.int y3), some (.int y4), some (.int y5), some (.int y6), u7] [] g Q := by
  refine m_n 6 (pc' := 61) (L' := [some (.ref 27), some (.int y1), some (.int y2), some (.int y3), some (.int y4), some (.int y5), some (.int y6), u7]) (S' := [.int ((y1 + (1 : Int32)) * y3), .int y6]) (fun _ => rfl) ?_
  refine m_b (c := ((y1 + (1 : Int32)) * y3) ≤ y6) (pc' := 137) (L' := [some (.ref 27), some (.int y1), some (.int y2), some (.int y3), some (.int y4), some (.int y5), some (.int y6), u7]) (S' := []) (pc2 := 64) (L2 := [some (.ref 27), some (.int y1), some (.int y2), some (.int y3), some (.int y4), some (.int y5), some (.int y6), u7]) (S2 := []) rfl (fun _ => rfl) (fun hc => ?_) (fun hc => ?_)
  · have hc := hc
    rw [if_pos hc] at H
    refine m_n 1 (pc' := 138) (L' := [some (.ref 27), some (.int y1), some (.int y2), some (.int y3), some (.int y4), some (.int y5), some (.int y6), u7]) (S' := [.int y2]) (fun _ => rfl) ?_
    obtain ⟨o8, H⟩ := H
    obtain ⟨m9, em9⟩ : ∃ m : Int32, m = (if y2 = 0 then y4 else (if y2 = (1 : Int32) then y5 else (if (g 27 1) ≤ (y2 - (10 : Int32)) then (-4 : Int32) else (g 85 (z_ix (y2 - (10 : Int32))))))) := ⟨_, rfl⟩
    have H := H m9 em9
    have hj10 : MG z_pI 226 181 [some (.ref 27), some (.int y1), some (.int y2), some (.int y3), some (.int y4), some (.int y5), some (.int y6), u7] [.int m9] g Q := by
      exact m_r rfl rfl rfl H
    refine m_b (c := y2 = 0) (pc' := 141) (L' := [some (.ref 27), some (.int y1), some (.int y2), some (.int y3), some (.int y4), some (.int y5), some (.int y6), u7]) (S' := []) (pc2 := 146) (L2 := [some (.ref 27), some (.int y1), some (.int y2), some (.int y3), some (.int y4), some (.int y5), some (.int y6), u7]) (S2 := []) rfl (fun _ => rfl) (fun hc => ?_) (fun hc => ?_)
    · have c5 := hc
      refine m_n 2 (pc' := 181) (L' := [some (.ref 27), some (.int y1), some (.int y2), some (.int y3), some (.int y4), some (.int y5), some (.int y6), u7]) (S' := [.int y4]) (fun _ => rfl) ?_
      rw [(em9.trans (by rw [if_pos c5]) : m9 = y4)] at hj10
      exact hj10
    · have c5 := hc
      refine m_n 2 (pc' := 148) (L' := [some (.ref 27), some (.int y1), some (.int y2), some (.int y3), some (.int y4), some (.int y5), some (.int y6), u7]) (S' := [.int (1 : Int32), .int y2]) (fun _ => rfl) ?_
      refine m_b (c := y2 = (1 : Int32)) (pc' := 151) (L' := [some (.ref 27), some (.int y1), some (.int y2), some (.int y3), some (.int y4), some (.int y5), some (.int y6), u7]) (S' := []) (pc2 := 156) (L2 := [some (.ref 27), some (.int y1), some (.int y2), some (.int y3), some (.int y4), some (.int y5), some (.int y6), u7]) (S2 := []) rfl (fun _ => rfl) (fun hc => ?_) (fun hc => ?_)
      · have c6 := hc
        refine m_n 2 (pc' := 181) (L' := [some (.ref 27), some (.int y1), some (.int y2), some (.int y3), some (.int y4), some (.int y5), some (.int y6), u7]) (S' := [.int y5]) (fun _ => rfl) ?_
        rw [(em9.trans (by rw [if_neg c5, if_pos c6]) : m9 = y5)] at hj10
        exact hj10
      · have c6 := hc
        refine m_n 4 (pc' := 161) (L' := [some (.ref 27), some (.int y1), some (.int y2), some (.int y3), some (.int y4), some (.int y5), some (.int y6), u7]) (S' := [.ref 27, .int (y2 - (10 : Int32))]) (fun _ => rfl) ?_
        refine m_gI rfl ?_
        refine m_b (c := (g 27 1) ≤ (y2 - (10 : Int32))) (pc' := 179) (L' := [some (.ref 27), some (.int y1), some (.int y2), some (.int y3), some (.int y4), some (.int y5), some (.int y6), u7]) (S' := []) (pc2 := 167) (L2 := [some (.ref 27), some (.int y1), some (.int y2), some (.int y3), some (.int y4), some (.int y5), some (.int y6), u7]) (S2 := []) rfl (fun _ => rfl) (fun hc => ?_) (fun hc => ?_)
        · have c7 := hc
          refine m_n 1 (pc' := 181) (L' := [some (.ref 27), some (.int y1), some (.int y2), some (.int y3), some (.int y4), some (.int y5), some (.int y6), u7]) (S' := [.int (-4 : Int32)]) (fun _ => rfl) ?_
          rw [(em9.trans (by rw [if_neg c5, if_neg c6, if_pos c7]) : m9 = (-4 : Int32))] at hj10
          exact hj10
        · have c7 := hc
          refine m_n 1 (pc' := 168) (L' := [some (.ref 27), some (.int y1), some (.int y2), some (.int y3), some (.int y4), some (.int y5), some (.int y6), u7]) (S' := [.ref 27]) (fun _ => rfl) ?_
          refine m_gR (q := 85) rfl (by decide) ?_
          refine m_n 3 (pc' := 175) (L' := [some (.ref 27), some (.int y1), some (.int y2), some (.int y3), some (.int y4), some (.int y5), some (.int y6), u7]) (S' := [.int (y2 - (10 : Int32)), .ref 85]) (fun _ => rfl) ?_
          refine m_ia 6 rfl rfl (o8 c5 c6 c7) ?_
          refine m_n 1 (pc' := 181) (L' := [some (.ref 27), some (.int y1), some (.int y2), some (.int y3), some (.int y4), some (.int y5), some (.int y6), u7]) (S' := [.int (g 85 (z_ix (y2 - (10 : Int32))))]) (fun _ => rfl) ?_
          rw [(em9.trans (by rw [if_neg c5, if_neg c6, if_neg c7]) : m9 = (g 85 (z_ix (y2 - (10 : Int32)))))] at hj10
          exact hj10
  · have hc := hc
    rw [if_neg hc] at H
    refine m_n 2 (pc' := 67) (L' := [some (.ref 27), some (.int y1), some (.int y2), some (.int y3), some (.int y4), some (.int y5), some (.int y6), u7]) (S' := [.int y6, .ref 27]) (fun _ => rfl) ?_
    refine m_cI 224 2 rfl rfl rfl (A := [.ref 27, .int y6]) rfl rfl (Or.inr ⟨rfl, _, rfl⟩) (rest := []) rfl rfl rfl ?_
    refine H.mono (fun r11 g12 H => ?_)
    refine m_b (c := r11 = 0) (pc' := 131) (L' := [some (.ref 27), some (.int y1), some (.int y2), some (.int y3), some (.int y4), some (.int y5), some (.int y6), u7]) (S' := []) (pc2 := 73) (L2 := [some (.ref 27), some (.int y1), some (.int y2), some (.int y3), some (.int y4), some (.int y5), some (.int y6), u7]) (S2 := []) rfl (fun _ => rfl) (fun hc => ?_) (fun hc => ?_)
    · have hc := hc
      rw [if_pos hc] at H
      refine m_n 2 (pc' := 54) (L' := [some (.ref 27), some (.int y1), some (.int y2), some (.int y3), some (.int y4), some (.int y5), some (.int (y6 + (1 : Int32))), u7]) (S' := []) (fun _ => rfl) ?_
      exact H
    · have hc := hc
      rw [if_neg hc] at H
      refine m_n 1 (pc' := 75) (L' := [some (.ref 27), some (.int y1), some (.int y2), some (.int y3), some (.int y4), some (.int y5), some (.int y6), u7]) (S' := [.int y4]) (fun _ => rfl) ?_
      refine m_b (c := y4 < 0) (pc' := 87) (L' := [some (.ref 27), some (.int y1), some (.int y2), some (.int y3), some (.int y4), some (.int y5), some (.int y6), u7]) (S' := []) (pc2 := 78) (L2 := [some (.ref 27), some (.int y1), some (.int y2), some (.int y3), some (.int y4), some (.int y5), some (.int y6), u7]) (S2 := []) rfl (fun _ => rfl) (fun hc => ?_) (fun hc => ?_)
      · have hc := hc
        rw [if_pos hc] at H
        refine m_n 1 (pc' := 88) (L' := [some (.ref 27), some (.int y1), some (.int y2), some (.int y3), some (.int y4), some (.int y5), some (.int y6), u7]) (S' := [.ref 27]) (fun _ => rfl) ?_
        refine m_cI 223 1 rfl rfl rfl (A := [.ref 27]) rfl rfl (Or.inr ⟨rfl, _, rfl⟩) (rest := []) rfl rfl rfl ?_
        refine H.mono (fun r13 g14 H => ?_)
        refine m_n 2 (pc' := 94) (L' := [some (.ref 27), some (.int y1), some (.int y2), some (.int y3), some (.int r13), some (.int y5), some (.int y6), u7]) (S' := [.ref 27]) (fun _ => rfl) ?_
        refine m_cI 222 1 rfl rfl rfl (A := [.ref 27]) rfl rfl (Or.inr ⟨rfl, _, rfl⟩) (rest := []) rfl rfl rfl ?_
        refine H.mono (fun r15 g16 H => ?_)
        refine m_n 3 (pc' := 102) (L' := [some (.ref 27), some (.int y1), some (.int y2), some (.int y3), some (.int r13), some (.int r15), some (.int y6), some (.int (0 : Int32))]) (S' := []) (fun _ => rfl) ?_
        exact H
      · have hc := hc
        rw [if_neg hc] at H
        refine m_n 1 (pc' := 79) (L' := [some (.ref 27), some (.int y1), some (.int y2), some (.int y3), some (.int y4), some (.int y5), some (.int y6), u7]) (S' := [.ref 27]) (fun _ => rfl) ?_
        refine m_cI 223 1 rfl rfl rfl (A := [.ref 27]) rfl rfl (Or.inr ⟨rfl, _, rfl⟩) (rest := []) rfl rfl rfl ?_
        refine H.mono (fun r17 g18 H => ?_)
        refine m_n 1 (pc' := 84) (L' := [some (.ref 27), some (.int y1), some (.int y2), some (.int y3), some (.int y4), some (.int y5), some (.int y6), u7]) (S' := [.int y4, .int r17]) (fun _ => rfl) ?_
        refine m_b (c := y4 ≤ r17) (pc' := 131) (L' := [some (.ref 27), some (.int y1), some (.int y2), some (.int y3), some (.int y4), some (.int y5), some (.int y6), u7]) (S' := []) (pc2 := 87) (L2 := [some (.ref 27), some (.int y1), some (.int y2), some (.int y3), some (.int y4), some (.int y5), some (.int y6), u7]) (S2 := []) rfl (fun _ => rfl) (fun hc => ?_) (fun hc => ?_)
        · have hc := hc
          rw [if_pos hc] at H
          refine m_n 2 (pc' := 54) (L' := [some (.ref 27), some (.int y1), some (.int y2), some (.int y3), some (.int y4), some (.int y5), some (.int (y6 + (1 : Int32))), u7]) (S' := []) (fun _ => rfl) ?_
          exact H
        · have hc := hc
          rw [if_neg hc] at H
          refine m_n 1 (pc' := 88) (L' := [some (.ref 27), some (.int y1), some (.int y2), some (.int y3), some (.int y4), some (.int y5), some (.int y6), u7]) (S' := [.ref 27]) (fun _ => rfl) ?_
          refine m_cI 223 1 rfl rfl rfl (A := [.ref 27]) rfl rfl (Or.inr ⟨rfl, _, rfl⟩) (rest := []) rfl rfl rfl ?_
          refine H.mono (fun r19 g20 H => ?_)
          refine m_n 2 (pc' := 94) (L' := [some (.ref 27), some (.int y1), some (.int y2), some (.int y3), some (.int r19), some (.int y5), some (.int y6), u7]) (S' := [.ref 27]) (fun _ => rfl) ?_
          refine m_cI 222 1 rfl rfl rfl (A := [.ref 27]) rfl rfl (Or.inr ⟨rfl, _, rfl⟩) (rest := []) rfl rfl rfl ?_
          refine H.mono (fun r21 g22 H => ?_)
          refine m_n 3 (pc' := 102) (L' := [some (.ref 27), some (.int y1), some (.int y2), some (.int y3), some (.int r19), some (.int r21), some (.int y6), some (.int (0 : Int32))]) (S' := []) (fun _ => rfl) ?_
          exact H
set_option maxRecDepth 20000 in
theorem X_226_102 (y1 : Int32) (y2 : Int32) (y3 : Int32) (y4 : Int32) (y5 : Int32) (y6 : Int32) (y7 : Int32) (g : zG) {Q : Int32 → zG → Prop} (H : if (g 27 1) ≤ y7 then (MG z_pI 226 54 [some (.ref 27), some (.int y1), some (.int y2), some (.int y3), some (.int y4), some (.int y5), some (.int (y6 + (1 : Int32))), some (.int y7)] [] g Q) else ((0 ≤ y7.toInt ∧ y7.toInt < 6) ∧ (0 ≤ y7.toInt ∧ y7.toInt < 6) ∧ MG z_pI 226 102 [some (.ref 27), some (.int y1), some (.int y2), some (.int y3), some (.int y4), some (.int y5), some (.int y6), some (.int (y7 + (1 : Int32)))] [] (z_up2 g 85 (z_ix y7) (g 84 (z_ix y7))) Q)) : MG z_pI 226 102 [some (.ref 27), some (.int y1), some (.int y2), some (.int y3), some (.int y4), some (.int y5), some (.int y6), some (.int y7)] [] g Q := by
  refine m_n 2 (pc' := 105) (L' := [some (.ref 27), some (.int y1), some (.int y2), some (.int y3), some (.int y4), some (.int y5), some (.int y6), some (.int y7)]) (S' := [.ref 27, .int y7]) (fun _ => rfl) ?_
  refine m_gI rfl ?_
  refine m_b (c := (g 27 1) ≤ y7) (pc' := 131) (L' := [some (.ref 27), some (.int y1), some (.int y2), some (.int y3), some (.int y4), some (.int y5), some (.int y6), some (.int y7)]) (S' := []) (pc2 := 111) (L2 := [some (.ref 27), some (.int y1), some (.int y2), some (.int y3), some (.int y4), some (.int y5), some (.int y6), some (.int y7)]) (S2 := []) rfl (fun _ => rfl) (fun hc => ?_) (fun hc => ?_)
  · have hc := hc
    rw [if_pos hc] at H
    refine m_n 2 (pc' := 54) (L' := [some (.ref 27), some (.int y1), some (.int y2), some (.int y3), some (.int y4), some (.int y5), some (.int (y6 + (1 : Int32))), some (.int y7)]) (S' := []) (fun _ => rfl) ?_
    exact H
  · have hc := hc
    rw [if_neg hc] at H
    refine m_n 1 (pc' := 112) (L' := [some (.ref 27), some (.int y1), some (.int y2), some (.int y3), some (.int y4), some (.int y5), some (.int y6), some (.int y7)]) (S' := [.ref 27]) (fun _ => rfl) ?_
    refine m_gR (q := 85) rfl (by decide) ?_
    refine m_n 2 (pc' := 118) (L' := [some (.ref 27), some (.int y1), some (.int y2), some (.int y3), some (.int y4), some (.int y5), some (.int y6), some (.int y7)]) (S' := [.ref 27, .int y7, .ref 85]) (fun _ => rfl) ?_
    refine m_gR (q := 84) rfl (by decide) ?_
    refine m_n 1 (pc' := 123) (L' := [some (.ref 27), some (.int y1), some (.int y2), some (.int y3), some (.int y4), some (.int y5), some (.int y6), some (.int y7)]) (S' := [.int y7, .ref 84, .int y7, .ref 85]) (fun _ => rfl) ?_
    obtain ⟨o23, H⟩ := H
    refine m_ia 6 rfl rfl o23 ?_
    obtain ⟨o24, H⟩ := H
    refine m_is 6 rfl rfl rfl o24 ?_
    refine m_n 2 (pc' := 102) (L' := [some (.ref 27), some (.int y1), some (.int y2), some (.int y3), some (.int y4), some (.int y5), some (.int y6), some (.int (y7 + (1 : Int32)))]) (S' := []) (fun _ => rfl) ?_
    exact H
set_option maxRecDepth 20000 in
theorem X_227 (x1 : Int32) (g : zG) {Q : Int32 → zG → Prop} (H : if (g 27 1) ≤ 0 then (Q (-1 : Int32) g) else (if (0 : Int32) ≤ x1 ∧ x1 ≤ (999999 : Int32) then (MK z_pI 224 [.ref 27, .int x1] g (fun r1 g2 => if r1 = 0 then (Q (-1 : Int32) g2) else (MK z_pI 223 [.ref 27] g2 (fun r3 g4 => Q r3 g4)))) else (Q (-1 : Int32) g))) : MK z_pI 227 [.ref 27, .int x1] g Q := by
  refine m_K (L := [some (.ref 27), some (.int x1)]) rfl ?_
  refine m_n 1 (pc' := 1) (L' := [some (.ref 27), some (.int x1)]) (S' := [.ref 27]) (fun _ => rfl) ?_
  refine m_gI rfl ?_
  refine m_b (c := (g 27 1) ≤ 0) (pc' := 34) (L' := [some (.ref 27), some (.int x1)]) (S' := []) (pc2 := 7) (L2 := [some (.ref 27), some (.int x1)]) (S2 := []) rfl (fun _ => rfl) (fun hc => ?_) (fun hc => ?_)
  · have hc := hc
    rw [if_pos hc] at H
    refine m_n 1 (pc' := 35) (L' := [some (.ref 27), some (.int x1)]) (S' := [.int (-1 : Int32)]) (fun _ => rfl) ?_
    exact m_r rfl rfl rfl H
  · have hc := hc
    rw [if_neg hc] at H
    refine m_n 4 (pc' := 13) (L' := [some (.ref 27), some (.int x1)]) (S' := [.long (999999 : Int64), .long (0 : Int64), .long x1.toInt64]) (fun _ => rfl) ?_
    refine m_cI 161 3 rfl rfl rfl (A := [.long x1.toInt64, .long (0 : Int64), .long (999999 : Int64)]) rfl rfl (Or.inl rfl) (rest := []) rfl rfl rfl ?_
    refine c_inJ x1 (0 : Int32) (999999 : Int32) g rfl rfl rfl ?_
    refine m_b (c := z_bt ((0 : Int32) ≤ x1 ∧ x1 ≤ (999999 : Int32)) = 0) (pc' := 34) (L' := [some (.ref 27), some (.int x1)]) (S' := []) (pc2 := 19) (L2 := [some (.ref 27), some (.int x1)]) (S2 := []) rfl (fun _ => rfl) (fun hc => ?_) (fun hc => ?_)
    · have hc := z_bt_0.mp hc
      rw [if_neg hc] at H
      refine m_n 1 (pc' := 35) (L' := [some (.ref 27), some (.int x1)]) (S' := [.int (-1 : Int32)]) (fun _ => rfl) ?_
      exact m_r rfl rfl rfl H
    · have hc := Decidable.not_not.mp (fun q => hc (z_bt_0.mpr q))
      rw [if_pos hc] at H
      refine m_n 2 (pc' := 21) (L' := [some (.ref 27), some (.int x1)]) (S' := [.int x1, .ref 27]) (fun _ => rfl) ?_
      refine m_cI 224 2 rfl rfl rfl (A := [.ref 27, .int x1]) rfl rfl (Or.inr ⟨rfl, _, rfl⟩) (rest := []) rfl rfl rfl ?_
      refine H.mono (fun r1 g2 H => ?_)
      refine m_b (c := r1 = 0) (pc' := 34) (L' := [some (.ref 27), some (.int x1)]) (S' := []) (pc2 := 27) (L2 := [some (.ref 27), some (.int x1)]) (S2 := []) rfl (fun _ => rfl) (fun hc => ?_) (fun hc => ?_)
      · have hc := hc
        rw [if_pos hc] at H
        refine m_n 1 (pc' := 35) (L' := [some (.ref 27), some (.int x1)]) (S' := [.int (-1 : Int32)]) (fun _ => rfl) ?_
        exact m_r rfl rfl rfl H
      · have hc := hc
        rw [if_neg hc] at H
        refine m_n 1 (pc' := 28) (L' := [some (.ref 27), some (.int x1)]) (S' := [.ref 27]) (fun _ => rfl) ?_
        refine m_cI 223 1 rfl rfl rfl (A := [.ref 27]) rfl rfl (Or.inr ⟨rfl, _, rfl⟩) (rest := []) rfl rfl rfl ?_
        refine H.mono (fun r3 g4 H => ?_)
        refine m_n 1 (pc' := 35) (L' := [some (.ref 27), some (.int x1)]) (S' := [.int r3]) (fun _ => rfl) ?_
        exact m_r rfl rfl rfl H
