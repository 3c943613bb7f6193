set_option maxRecDepth 20000 in
theorem X_202 (x1 : Int32) (x2 : Int32) (g : zG) {Q : Int32 → zG → Prop} (H : (0 ≤ x1.toInt ∧ x1.toInt < 60) ∧ (0 ≤ x1.toInt ∧ x1.toInt < 60) ∧ (0 ≤ (g 71 (z_ix x1)).toInt ∧ (g 71 (z_ix x1)).toInt < 12) ∧ (if (g 47 (z_ix (g 71 (z_ix x1)))) = (1 : Int32) then ((0 ≤ x1.toInt ∧ x1.toInt < 60) ∧ (if (g 80 (z_ix x1)) = 0 then (Q (0 : Int32) g) else ((0 ≤ x1.toInt ∧ x1.toInt < 60) ∧ (if (g 74 (z_ix x1)) = 0 then (Q (0 : Int32) g) else ((0 ≤ x1.toInt ∧ x1.toInt < 60) ∧ (Cn g) ∧ (0 ≤ x1.toInt ∧ x1.toInt < 60) ∧ (Cn g) ∧ (if q_hd g (1 : Int32) (g 70 (z_ix x1)) (g 72 (z_ix x1)) (-4 : Int32) = (-4 : Int32) then ((0 ≤ x1.toInt ∧ x1.toInt < 60) ∧ (0 ≤ (g 71 (z_ix x1)).toInt ∧ (g 71 (z_ix x1)).toInt < 12) ∧ (0 ≤ x1.toInt ∧ x1.toInt < 60) ∧ (0 ≤ x1.toInt ∧ x1.toInt < 60) ∧ (0 ≤ x1.toInt ∧ x1.toInt < 60) ∧ (¬ ((g 80 (z_ix x1)).toInt64 * (g 81 (z_ix x1)).toInt64) = 0) ∧ (∀ m15 : Int64, m15 = (if (((x2.toInt64 * (g 48 (z_ix (g 71 (z_ix x1)))).toInt64) * (g 82 (z_ix x1)).toInt64) / ((g 80 (z_ix x1)).toInt64 * (g 81 (z_ix x1)).toInt64)) ≤ (100000 : Int64) then (((x2.toInt64 * (g 48 (z_ix (g 71 (z_ix x1)))).toInt64) * (g 82 (z_ix x1)).toInt64) / ((g 80 (z_ix x1)).toInt64 * (g 81 (z_ix x1)).toInt64)) else (100000 : Int64)) → (0 ≤ x1.toInt ∧ x1.toInt < 60) ∧ (¬ (q_hd g (0 : Int32) (g 70 (z_ix x1)) (g 72 (z_ix x1)) (-4 : Int32) = (-4 : Int32)) → ((0 : Int64) ≤ (m15 - (g 77 (z_ix x1)).toInt64)) → 0 ≤ x1.toInt ∧ x1.toInt < 60) ∧ (¬ (q_hd g (0 : Int32) (g 70 (z_ix x1)) (g 72 (z_ix x1)) (-4 : Int32) = (-4 : Int32)) → ((0 : Int64) ≤ (m15 - (g 77 (z_ix x1)).toInt64)) → ¬ (q_hd g (0 : Int32) (g 70 (z_ix x1)) (g 72 (z_ix x1)) (-4 : Int32)).toInt64 = 0) ∧ (∀ m22 : Int32, m22 = (if q_hd g (0 : Int32) (g 70 (z_ix x1)) (g 72 (z_ix x1)) (-4 : Int32) = (-4 : Int32) then (0 : Int32) else (if (0 : Int64) ≤ (m15 - (g 77 (z_ix x1)).toInt64) then (((m15 - (g 77 (z_ix x1)).toInt64) * (g 78 (z_ix x1)).toInt64) / (q_hd g (0 : Int32) (g 70 (z_ix x1)) (g 72 (z_ix x1)) (-4 : Int32)).toInt64).toInt32 else (0 : Int32))) → Q m22 g))) else ((0 ≤ x1.toInt ∧ x1.toInt < 60) ∧ Q (q_hd g (1 : Int32) (g 70 (z_ix x1)) (g 72 (z_ix x1)) (-4 : Int32) * (g 74 (z_ix x1))) g))))))) else (Q (0 : Int32) g))) : MK z_pI 202 [.ref 27, .int x1, .int x2] g Q := by
  refine m_K (L := [some (.ref 27), some (.int x1), some (.int x2), none, none, none, none, none]) rfl ?_
  refine m_n 1 (pc' := 1) (L' := [some (.ref 27), some (.int x1), some (.int x2), none, none, none, none, none]) (S' := [.ref 27]) (fun _ => rfl) ?_
  refine m_gR (q := 70) rfl (by decide) ?_
  refine m_n 1 (pc' := 5) (L' := [some (.ref 27), some (.int x1), some (.int x2), none, none, none, none, none]) (S' := [.int x1, .ref 70]) (fun _ => rfl) ?_
  obtain ⟨o1, H⟩ := H
  refine m_ia 60 rfl rfl o1 ?_
  refine m_n 2 (pc' := 8) (L' := [some (.ref 27), some (.int x1), some (.int x2), some (.int (g 70 (z_ix x1))), none, none, none, none]) (S' := [.ref 27]) (fun _ => rfl) ?_
  refine m_gR (q := 47) rfl (by decide) ?_
  refine m_n 1 (pc' := 12) (L' := [some (.ref 27), some (.int x1), some (.int x2), some (.int (g 70 (z_ix x1))), none, none, none, none]) (S' := [.ref 27, .ref 47]) (fun _ => rfl) ?_
  refine m_gR (q := 71) rfl (by decide) ?_
  refine m_n 1 (pc' := 16) (L' := [some (.ref 27), some (.int x1), some (.int x2), some (.int (g 70 (z_ix x1))), none, none, none, none]) (S' := [.int x1, .ref 71, .ref 47]) (fun _ => rfl) ?_
  obtain ⟨o2, H⟩ := H
  refine m_ia 60 rfl rfl o2 ?_
  obtain ⟨o3, H⟩ := H
  refine m_ia 12 rfl rfl o3 ?_
  refine m_n 1 (pc' := 19) (L' := [some (.ref 27), some (.int x1), some (.int x2), some (.int (g 70 (z_ix x1))), none, none, none, none]) (S' := [.int (1 : Int32), .int (g 47 (z_ix (g 71 (z_ix x1))))]) (fun _ => rfl) ?_
  refine m_b (c := (g 47 (z_ix (g 71 (z_ix x1)))) = (1 : Int32)) (pc' := 22) (L' := [some (.ref 27), some (.int x1), some (.int x2), some (.int (g 70 (z_ix x1))), none, none, none, none]) (S' := []) (pc2 := 40) (L2 := [some (.ref 27), some (.int x1), some (.int x2), some (.int (g 70 (z_ix x1))), none, none, none, none]) (S2 := []) rfl (fun _ => rfl) (fun hc => ?_) (fun hc => ?_)
  · have hc := hc
    rw [if_pos hc] at H
    refine m_n 1 (pc' := 23) (L' := [some (.ref 27), some (.int x1), some (.int x2), some (.int (g 70 (z_ix x1))), none, none, none, none]) (S' := [.ref 27]) (fun _ => rfl) ?_
    refine m_gR (q := 80) rfl (by decide) ?_
    refine m_n 1 (pc' := 27) (L' := [some (.ref 27), some (.int x1), some (.int x2), some (.int (g 70 (z_ix x1))), none, none, none, none]) (S' := [.int x1, .ref 80]) (fun _ => rfl) ?_
    obtain ⟨o4, H⟩ := H
    refine m_ia 60 rfl rfl o4 ?_
    refine m_b (c := (g 80 (z_ix x1)) = 0) (pc' := 40) (L' := [some (.ref 27), some (.int x1), some (.int x2), some (.int (g 70 (z_ix x1))), none, none, none, none]) (S' := []) (pc2 := 31) (L2 := [some (.ref 27), some (.int x1), some (.int x2), some (.int (g 70 (z_ix x1))), none, none, none, none]) (S2 := []) rfl (fun _ => rfl) (fun hc => ?_) (fun hc => ?_)
    · have hc := hc
      rw [if_pos hc] at H
      refine m_n 1 (pc' := 41) (L' := [some (.ref 27), some (.int x1), some (.int x2), some (.int (g 70 (z_ix x1))), none, none, none, none]) (S' := [.int (0 : Int32)]) (fun _ => rfl) ?_
      exact m_r rfl rfl rfl H
    · have hc := hc
      rw [if_neg hc] at H
      refine m_n 1 (pc' := 32) (L' := [some (.ref 27), some (.int x1), some (.int x2), some (.int (g 70 (z_ix x1))), none, none, none, none]) (S' := [.ref 27]) (fun _ => rfl) ?_
      refine m_gR (q := 74) rfl (by decide) ?_
      refine m_n 1 (pc' := 36) (L' := [some (.ref 27), some (.int x1), some (.int x2), some (.int (g 70 (z_ix x1))), none, none, none, none]) (S' := [.int x1, .ref 74]) (fun _ => rfl) ?_
      obtain ⟨o5, H⟩ := H
      refine m_ia 60 rfl rfl o5 ?_
      refine m_b (c := (g 74 (z_ix x1)) = 0) (pc' := 40) (L' := [some (.ref 27), some (.int x1), some (.int x2), some (.int (g 70 (z_ix x1))), none, none, none, none]) (S' := []) (pc2 := 42) (L2 := [some (.ref 27), some (.int x1), some (.int x2), some (.int (g 70 (z_ix x1))), none, none, none, none]) (S2 := []) rfl (fun _ => rfl) (fun hc => ?_) (fun hc => ?_)
      · have hc := hc
        rw [if_pos hc] at H
        refine m_n 1 (pc' := 41) (L' := [some (.ref 27), some (.int x1), some (.int x2), some (.int (g 70 (z_ix x1))), none, none, none, none]) (S' := [.int (0 : Int32)]) (fun _ => rfl) ?_
        exact m_r rfl rfl rfl H
      · have hc := hc
        rw [if_neg hc] at H
        refine m_n 4 (pc' := 46) (L' := [some (.ref 27), some (.int x1), some (.int x2), some (.int (g 70 (z_ix x1))), none, none, none, none]) (S' := [.ref 27, .int (g 70 (z_ix x1)), .int (1 : Int32), .ref 27]) (fun _ => rfl) ?_
        refine m_gR (q := 72) rfl (by decide) ?_
        refine m_n 1 (pc' := 50) (L' := [some (.ref 27), some (.int x1), some (.int x2), some (.int (g 70 (z_ix x1))), none, none, none, none]) (S' := [.int x1, .ref 72, .int (g 70 (z_ix x1)), .int (1 : Int32), .ref 27]) (fun _ => rfl) ?_
        obtain ⟨o6, H⟩ := H
        refine m_ia 60 rfl rfl o6 ?_
        refine m_n 1 (pc' := 53) (L' := [some (.ref 27), some (.int x1), some (.int x2), some (.int (g 70 (z_ix x1))), none, none, none, none]) (S' := [.int (-4 : Int32), .int (g 72 (z_ix x1)), .int (g 70 (z_ix x1)), .int (1 : Int32), .ref 27]) (fun _ => rfl) ?_
        refine m_cI 198 5 rfl rfl rfl (A := [.ref 27, .int (1 : Int32), .int (g 70 (z_ix x1)), .int (g 72 (z_ix x1)), .int (-4 : Int32)]) rfl rfl (Or.inr ⟨rfl, _, rfl⟩) (rest := []) rfl rfl rfl ?_
        obtain ⟨o7, H⟩ := H
        refine c_holds (1 : Int32) (g 70 (z_ix x1)) (g 72 (z_ix x1)) (-4 : Int32) g o7 ?_
        refine m_n 5 (pc' := 62) (L' := [some (.ref 27), some (.int x1), some (.int x2), some (.int (g 70 (z_ix x1))), some (.int (q_hd g (1 : Int32) (g 70 (z_ix x1)) (g 72 (z_ix x1)) (-4 : Int32))), none, none, none]) (S' := [.ref 27, .int (g 70 (z_ix x1)), .int (0 : Int32), .ref 27]) (fun _ => rfl) ?_
        refine m_gR (q := 72) rfl (by decide) ?_
        refine m_n 1 (pc' := 66) (L' := [some (.ref 27), some (.int x1), some (.int x2), some (.int (g 70 (z_ix x1))), some (.int (q_hd g (1 : Int32) (g 70 (z_ix x1)) (g 72 (z_ix x1)) (-4 : Int32))), none, none, none]) (S' := [.int x1, .ref 72, .int (g 70 (z_ix x1)), .int (0 : Int32), .ref 27]) (fun _ => rfl) ?_
        obtain ⟨o8, H⟩ := H
        refine m_ia 60 rfl rfl o8 ?_
        refine m_n 1 (pc' := 69) (L' := [some (.ref 27), some (.int x1), some (.int x2), some (.int (g 70 (z_ix x1))), some (.int (q_hd g (1 : Int32) (g 70 (z_ix x1)) (g 72 (z_ix x1)) (-4 : Int32))), none, none, none]) (S' := [.int (-4 : Int32), .int (g 72 (z_ix x1)), .int (g 70 (z_ix x1)), .int (0 : Int32), .ref 27]) (fun _ => rfl) ?_
        refine m_cI 198 5 rfl rfl rfl (A := [.ref 27, .int (0 : Int32), .int (g 70 (z_ix x1)), .int (g 72 (z_ix x1)), .int (-4 : Int32)]) rfl rfl (Or.inr ⟨rfl, _, rfl⟩) (rest := []) rfl rfl rfl ?_
        obtain ⟨o9, H⟩ := H
        refine c_holds (0 : Int32) (g 70 (z_ix x1)) (g 72 (z_ix x1)) (-4 : Int32) g o9 ?_
        refine m_n 3 (pc' := 78) (L' := [some (.ref 27), some (.int x1), some (.int x2), some (.int (g 70 (z_ix x1))), some (.int (q_hd g (1 : Int32) (g 70 (z_ix x1)) (g 72 (z_ix x1)) (-4 : Int32))), some (.int (q_hd g (0 : Int32) (g 70 (z_ix x1)) (g 72 (z_ix x1)) (-4 : Int32))), none, none]) (S' := [.int (-4 : Int32), .int (q_hd g (1 : Int32) (g 70 (z_ix x1)) (g 72 (z_ix x1)) (-4 : Int32))]) (fun _ => rfl) ?_
        refine m_b (c := q_hd g (1 : Int32) (g 70 (z_ix x1)) (g 72 (z_ix x1)) (-4 : Int32) = (-4 : Int32)) (pc' := 91) (L' := [some (.ref 27), some (.int x1), some (.int x2), some (.int (g 70 (z_ix x1))), some (.int (q_hd g (1 : Int32) (g 70 (z_ix x1)) (g 72 (z_ix x1)) (-4 : Int32))), some (.int (q_hd g (0 : Int32) (g 70 (z_ix x1)) (g 72 (z_ix x1)) (-4 : Int32))), none, none]) (S' := []) (pc2 := 81) (L2 := [some (.ref 27), some (.int x1), some (.int x2), some (.int (g 70 (z_ix x1))), some (.int (q_hd g (1 : Int32) (g 70 (z_ix x1)) (g 72 (z_ix x1)) (-4 : Int32))), some (.int (q_hd g (0 : Int32) (g 70 (z_ix x1)) (g 72 (z_ix x1)) (-4 : Int32))), none, none]) (S2 := []) rfl (fun _ => rfl) (fun hc => ?_) (fun hc => ?_)
        · have hc := hc
          rw [if_pos hc] at H
          refine m_n 3 (pc' := 94) (L' := [some (.ref 27), some (.int x1), some (.int x2), some (.int (g 70 (z_ix x1))), some (.int (q_hd g (1 : Int32) (g 70 (z_ix x1)) (g 72 (z_ix x1)) (-4 : Int32))), some (.int (q_hd g (0 : Int32) (g 70 (z_ix x1)) (g 72 (z_ix x1)) (-4 : Int32))), none, none]) (S' := [.ref 27, .long x2.toInt64]) (fun _ => rfl) ?_
          refine m_gR (q := 48) rfl (by decide) ?_
          refine m_n 1 (pc' := 98) (L' := [some (.ref 27), some (.int x1), some (.int x2), some (.int (g 70 (z_ix x1))), some (.int (q_hd g (1 : Int32) (g 70 (z_ix x1)) (g 72 (z_ix x1)) (-4 : Int32))), some (.int (q_hd g (0 : Int32) (g 70 (z_ix x1)) (g 72 (z_ix x1)) (-4 : Int32))), none, none]) (S' := [.ref 27, .ref 48, .long x2.toInt64]) (fun _ => rfl) ?_
          refine m_gR (q := 71) rfl (by decide) ?_
          refine m_n 1 (pc' := 102) (L' := [some (.ref 27), some (.int x1), some (.int x2), some (.int (g 70 (z_ix x1))), some (.int (q_hd g (1 : Int32) (g 70 (z_ix x1)) (g 72 (z_ix x1)) (-4 : Int32))), some (.int (q_hd g (0 : Int32) (g 70 (z_ix x1)) (g 72 (z_ix x1)) (-4 : Int32))), none, none]) (S' := [.int x1, .ref 71, .ref 48, .long x2.toInt64]) (fun _ => rfl) ?_
          obtain ⟨o10, H⟩ := H
          refine m_ia 60 rfl rfl o10 ?_
          obtain ⟨o11, H⟩ := H
          refine m_ia 12 rfl rfl o11 ?_
          refine m_n 1 (pc' := 105) (L' := [some (.ref 27), some (.int x1), some (.int x2), some (.int (g 70 (z_ix x1))), some (.int (q_hd g (1 : Int32) (g 70 (z_ix x1)) (g 72 (z_ix x1)) (-4 : Int32))), some (.int (q_hd g (0 : Int32) (g 70 (z_ix x1)) (g 72 (z_ix x1)) (-4 : Int32))), none, none]) (S' := [.ref 27, .int (g 48 (z_ix (g 71 (z_ix x1)))), .long x2.toInt64]) (fun _ => rfl) ?_
          refine m_gR (q := 80) rfl (by decide) ?_
          refine m_n 1 (pc' := 109) (L' := [some (.ref 27), some (.int x1), some (.int x2), some (.int (g 70 (z_ix x1))), some (.int (q_hd g (1 : Int32) (g 70 (z_ix x1)) (g 72 (z_ix x1)) (-4 : Int32))), some (.int (q_hd g (0 : Int32) (g 70 (z_ix x1)) (g 72 (z_ix x1)) (-4 : Int32))), none, none]) (S' := [.int x1, .ref 80, .int (g 48 (z_ix (g 71 (z_ix x1)))), .long x2.toInt64]) (fun _ => rfl) ?_
          obtain ⟨o12, H⟩ := H
          refine m_ia 60 rfl rfl o12 ?_
          refine m_n 1 (pc' := 111) (L' := [some (.ref 27), some (.int x1), some (.int x2), some (.int (g 70 (z_ix x1))), some (.int (q_hd g (1 : Int32) (g 70 (z_ix x1)) (g 72 (z_ix x1)) (-4 : Int32))), some (.int (q_hd g (0 : Int32) (g 70 (z_ix x1)) (g 72 (z_ix x1)) (-4 : Int32))), none, none]) (S' := [.ref 27, .int (g 80 (z_ix x1)), .int (g 48 (z_ix (g 71 (z_ix x1)))), .long x2.toInt64]) (fun _ => rfl) ?_
          refine m_gR (q := 81) rfl (by decide) ?_
          refine m_n 1 (pc' := 115) (L' := [some (.ref 27), some (.int x1), some (.int x2), some (.int (g 70 (z_ix x1))), some (.int (q_hd g (1 : Int32) (g 70 (z_ix x1)) (g 72 (z_ix x1)) (-4 : Int32))), some (.int (q_hd g (0 : Int32) (g 70 (z_ix x1)) (g 72 (z_ix x1)) (-4 : Int32))), none, none]) (S' := [.int x1, .ref 81, .int (g 80 (z_ix x1)), .int (g 48 (z_ix (g 71 (z_ix x1)))), .long x2.toInt64]) (fun _ => rfl) ?_
          obtain ⟨o13, H⟩ := H
          refine m_ia 60 rfl rfl o13 ?_
          refine m_n 1 (pc' := 117) (L' := [some (.ref 27), some (.int x1), some (.int x2), some (.int (g 70 (z_ix x1))), some (.int (q_hd g (1 : Int32) (g 70 (z_ix x1)) (g 72 (z_ix x1)) (-4 : Int32))), some (.int (q_hd g (0 : Int32) (g 70 (z_ix x1)) (g 72 (z_ix x1)) (-4 : Int32))), none, none]) (S' := [.ref 27, .int (g 81 (z_ix x1)), .int (g 80 (z_ix x1)), .int (g 48 (z_ix (g 71 (z_ix x1)))), .long x2.toInt64]) (fun _ => rfl) ?_
          refine m_gR (q := 82) rfl (by decide) ?_
          refine m_n 1 (pc' := 121) (L' := [some (.ref 27), some (.int x1), some (.int x2), some (.int (g 70 (z_ix x1))), some (.int (q_hd g (1 : Int32) (g 70 (z_ix x1)) (g 72 (z_ix x1)) (-4 : Int32))), some (.int (q_hd g (0 : Int32) (g 70 (z_ix x1)) (g 72 (z_ix x1)) (-4 : Int32))), none, none]) (S' := [.int x1, .ref 82, .int (g 81 (z_ix x1)), .int (g 80 (z_ix x1)), .int (g 48 (z_ix (g 71 (z_ix x1)))), .long x2.toInt64]) (fun _ => rfl) ?_
          obtain ⟨o14, H⟩ := H
          refine m_ia 60 rfl rfl o14 ?_
          refine m_cL 181 5 rfl rfl rfl (A := [.long x2.toInt64, .int (g 48 (z_ix (g 71 (z_ix x1)))), .int (g 80 (z_ix x1)), .int (g 81 (z_ix x1)), .int (g 82 (z_ix x1))]) rfl rfl (Or.inl rfl) (rest := []) rfl rfl ?_
          obtain ⟨o16, H⟩ := H
          obtain ⟨m15, em15⟩ : ∃ m : Int64, m = (if (((x2.toInt64 * (g 48 (z_ix (g 71 (z_ix x1)))).toInt64) * (g 82 (z_ix x1)).toInt64) / ((g 80 (z_ix x1)).toInt64 * (g 81 (z_ix x1)).toInt64)) ≤ (100000 : Int64) then (((x2.toInt64 * (g 48 (z_ix (g 71 (z_ix x1)))).toInt64) * (g 82 (z_ix x1)).toInt64) / ((g 80 (z_ix x1)).toInt64 * (g 81 (z_ix x1)).toInt64)) else (100000 : Int64)) := ⟨_, rfl⟩
          have H := H m15 em15
          refine X_181 x2.toInt64 (g 48 (z_ix (g 71 (z_ix x1)))) (g 80 (z_ix x1)) (g 81 (z_ix x1)) (g 82 (z_ix x1)) g ⟨o16, (z_all em15 ?_)⟩
          refine m_n 1 (pc' := 126) (L' := [some (.ref 27), some (.int x1), some (.int x2), some (.int (g 70 (z_ix x1))), some (.int (q_hd g (1 : Int32) (g 70 (z_ix x1)) (g 72 (z_ix x1)) (-4 : Int32))), some (.int (q_hd g (0 : Int32) (g 70 (z_ix x1)) (g 72 (z_ix x1)) (-4 : Int32))), none, none]) (S' := [.ref 27, .long m15]) (fun _ => rfl) ?_
          refine m_gR (q := 77) rfl (by decide) ?_
          refine m_n 1 (pc' := 130) (L' := [some (.ref 27), some (.int x1), some (.int x2), some (.int (g 70 (z_ix x1))), some (.int (q_hd g (1 : Int32) (g 70 (z_ix x1)) (g 72 (z_ix x1)) (-4 : Int32))), some (.int (q_hd g (0 : Int32) (g 70 (z_ix x1)) (g 72 (z_ix x1)) (-4 : Int32))), none, none]) (S' := [.int x1, .ref 77, .long m15]) (fun _ => rfl) ?_
          obtain ⟨o17, H⟩ := H
          refine m_ia 60 rfl rfl o17 ?_
          refine m_n 5 (pc' := 139) (L' := [some (.ref 27), some (.int x1), some (.int x2), some (.int (g 70 (z_ix x1))), some (.int (q_hd g (1 : Int32) (g 70 (z_ix x1)) (g 72 (z_ix x1)) (-4 : Int32))), some (.int (q_hd g (0 : Int32) (g 70 (z_ix x1)) (g 72 (z_ix x1)) (-4 : Int32))), some (.long (m15 - (g 77 (z_ix x1)).toInt64)), none]) (S' := [.int (-4 : Int32), .int (q_hd g (0 : Int32) (g 70 (z_ix x1)) (g 72 (z_ix x1)) (-4 : Int32))]) (fun _ => rfl) ?_
          obtain ⟨o20, H⟩ := H
          obtain ⟨o21, H⟩ := H
          obtain ⟨m22, em22⟩ : ∃ m : Int32, m = (if q_hd g (0 : Int32) (g 70 (z_ix x1)) (g 72 (z_ix x1)) (-4 : Int32) = (-4 : Int32) then (0 : Int32) else (if (0 : Int64) ≤ (m15 - (g 77 (z_ix x1)).toInt64) then (((m15 - (g 77 (z_ix x1)).toInt64) * (g 78 (z_ix x1)).toInt64) / (q_hd g (0 : Int32) (g 70 (z_ix x1)) (g 72 (z_ix x1)) (-4 : Int32)).toInt64).toInt32 else (0 : Int32))) := ⟨_, rfl⟩
          have H := H m22 em22
          have hj23 : MG z_pI 202 168 [some (.ref 27), some (.int x1), some (.int x2), some (.int (g 70 (z_ix x1))), some (.int (q_hd g (1 : Int32) (g 70 (z_ix x1)) (g 72 (z_ix x1)) (-4 : Int32))), some (.int (q_hd g (0 : Int32) (g 70 (z_ix x1)) (g 72 (z_ix x1)) (-4 : Int32))), some (.long (m15 - (g 77 (z_ix x1)).toInt64)), none] [.int m22] g Q := by
            exact m_r rfl rfl rfl H
          refine m_b (c := q_hd g (0 : Int32) (g 70 (z_ix x1)) (g 72 (z_ix x1)) (-4 : Int32) = (-4 : Int32)) (pc' := 149) (L' := [some (.ref 27), some (.int x1), some (.int x2), some (.int (g 70 (z_ix x1))), some (.int (q_hd g (1 : Int32) (g 70 (z_ix x1)) (g 72 (z_ix x1)) (-4 : Int32))), some (.int (q_hd g (0 : Int32) (g 70 (z_ix x1)) (g 72 (z_ix x1)) (-4 : Int32))), some (.long (m15 - (g 77 (z_ix x1)).toInt64)), none]) (S' := []) (pc2 := 142) (L2 := [some (.ref 27), some (.int x1), some (.int x2), some (.int (g 70 (z_ix x1))), some (.int (q_hd g (1 : Int32) (g 70 (z_ix x1)) (g 72 (z_ix x1)) (-4 : Int32))), some (.int (q_hd g (0 : Int32) (g 70 (z_ix x1)) (g 72 (z_ix x1)) (-4 : Int32))), some (.long (m15 - (g 77 (z_ix x1)).toInt64)), none]) (S2 := []) rfl (fun _ => rfl) (fun hc => ?_) (fun hc => ?_)
          · have c18 := hc
            refine m_n 2 (pc' := 168) (L' := [some (.ref 27), some (.int x1), some (.int x2), some (.int (g 70 (z_ix x1))), some (.int (q_hd g (1 : Int32) (g 70 (z_ix x1)) (g 72 (z_ix x1)) (-4 : Int32))), some (.int (q_hd g (0 : Int32) (g 70 (z_ix x1)) (g 72 (z_ix x1)) (-4 : Int32))), some (.long (m15 - (g 77 (z_ix x1)).toInt64)), none]) (S' := [.int (0 : Int32)]) (fun _ => rfl) ?_
            rw [(em22.trans (by rw [if_pos c18]) : m22 = (0 : Int32))] at hj23
            exact hj23
          · have c18 := hc
            refine m_n 3 (pc' := 146) (L' := [some (.ref 27), some (.int x1), some (.int x2), some (.int (g 70 (z_ix x1))), some (.int (q_hd g (1 : Int32) (g 70 (z_ix x1)) (g 72 (z_ix x1)) (-4 : Int32))), some (.int (q_hd g (0 : Int32) (g 70 (z_ix x1)) (g 72 (z_ix x1)) (-4 : Int32))), some (.long (m15 - (g 77 (z_ix x1)).toInt64)), none]) (S' := [.int (z_cmp (m15 - (g 77 (z_ix x1)).toInt64) (0 : Int64))]) (fun _ => rfl) ?_
            refine m_b (c := 0 ≤ z_cmp (m15 - (g 77 (z_ix x1)).toInt64) (0 : Int64)) (pc' := 153) (L' := [some (.ref 27), some (.int x1), some (.int x2), some (.int (g 70 (z_ix x1))), some (.int (q_hd g (1 : Int32) (g 70 (z_ix x1)) (g 72 (z_ix x1)) (-4 : Int32))), some (.int (q_hd g (0 : Int32) (g 70 (z_ix x1)) (g 72 (z_ix x1)) (-4 : Int32))), some (.long (m15 - (g 77 (z_ix x1)).toInt64)), none]) (S' := []) (pc2 := 149) (L2 := [some (.ref 27), some (.int x1), some (.int x2), some (.int (g 70 (z_ix x1))), some (.int (q_hd g (1 : Int32) (g 70 (z_ix x1)) (g 72 (z_ix x1)) (-4 : Int32))), some (.int (q_hd g (0 : Int32) (g 70 (z_ix x1)) (g 72 (z_ix x1)) (-4 : Int32))), some (.long (m15 - (g 77 (z_ix x1)).toInt64)), none]) (S2 := []) rfl (fun _ => rfl) (fun hc => ?_) (fun hc => ?_)
            · have c19 := z_cmp_ge.mp hc
              refine m_n 2 (pc' := 156) (L' := [some (.ref 27), some (.int x1), some (.int x2), some (.int (g 70 (z_ix x1))), some (.int (q_hd g (1 : Int32) (g 70 (z_ix x1)) (g 72 (z_ix x1)) (-4 : Int32))), some (.int (q_hd g (0 : Int32) (g 70 (z_ix x1)) (g 72 (z_ix x1)) (-4 : Int32))), some (.long (m15 - (g 77 (z_ix x1)).toInt64)), none]) (S' := [.ref 27, .long (m15 - (g 77 (z_ix x1)).toInt64)]) (fun _ => rfl) ?_
              refine m_gR (q := 78) rfl (by decide) ?_
              refine m_n 1 (pc' := 160) (L' := [some (.ref 27), some (.int x1), some (.int x2), some (.int (g 70 (z_ix x1))), some (.int (q_hd g (1 : Int32) (g 70 (z_ix x1)) (g 72 (z_ix x1)) (-4 : Int32))), some (.int (q_hd g (0 : Int32) (g 70 (z_ix x1)) (g 72 (z_ix x1)) (-4 : Int32))), some (.long (m15 - (g 77 (z_ix x1)).toInt64)), none]) (S' := [.int x1, .ref 78, .long (m15 - (g 77 (z_ix x1)).toInt64)]) (fun _ => rfl) ?_
              refine m_ia 60 rfl rfl (o20 c18 c19) ?_
              refine m_n 4 (pc' := 166) (L' := [some (.ref 27), some (.int x1), some (.int x2), some (.int (g 70 (z_ix x1))), some (.int (q_hd g (1 : Int32) (g 70 (z_ix x1)) (g 72 (z_ix x1)) (-4 : Int32))), some (.int (q_hd g (0 : Int32) (g 70 (z_ix x1)) (g 72 (z_ix x1)) (-4 : Int32))), some (.long (m15 - (g 77 (z_ix x1)).toInt64)), none]) (S' := [.long ((q_hd g (0 : Int32) (g 70 (z_ix x1)) (g 72 (z_ix x1)) (-4 : Int32)).toInt64), .long ((m15 - (g 77 (z_ix x1)).toInt64) * (g 78 (z_ix x1)).toInt64)]) (fun _ => rfl) ?_
              refine m_d (c := (q_hd g (0 : Int32) (g 70 (z_ix x1)) (g 72 (z_ix x1)) (-4 : Int32)).toInt64 = 0) (pc' := 167) (L' := [some (.ref 27), some (.int x1), some (.int x2), some (.int (g 70 (z_ix x1))), some (.int (q_hd g (1 : Int32) (g 70 (z_ix x1)) (g 72 (z_ix x1)) (-4 : Int32))), some (.int (q_hd g (0 : Int32) (g 70 (z_ix x1)) (g 72 (z_ix x1)) (-4 : Int32))), some (.long (m15 - (g 77 (z_ix x1)).toInt64)), none]) (S' := [.long (((m15 - (g 77 (z_ix x1)).toInt64) * (g 78 (z_ix x1)).toInt64) / (q_hd g (0 : Int32) (g 70 (z_ix x1)) (g 72 (z_ix x1)) (-4 : Int32)).toInt64)]) rfl (fun _ => rfl) (o21 c18 c19) ?_
              refine m_n 1 (pc' := 168) (L' := [some (.ref 27), some (.int x1), some (.int x2), some (.int (g 70 (z_ix x1))), some (.int (q_hd g (1 : Int32) (g 70 (z_ix x1)) (g 72 (z_ix x1)) (-4 : Int32))), some (.int (q_hd g (0 : Int32) (g 70 (z_ix x1)) (g 72 (z_ix x1)) (-4 : Int32))), some (.long (m15 - (g 77 (z_ix x1)).toInt64)), none]) (S' := [.int ((((m15 - (g 77 (z_ix x1)).toInt64) * (g 78 (z_ix x1)).toInt64) / (q_hd g (0 : Int32) (g 70 (z_ix x1)) (g 72 (z_ix x1)) (-4 : Int32)).toInt64).toInt32)]) (fun _ => rfl) ?_
              rw [(em22.trans (by rw [if_neg c18, if_pos c19]) : m22 = (((m15 - (g 77 (z_ix x1)).toInt64) * (g 78 (z_ix x1)).toInt64) / (q_hd g (0 : Int32) (g 70 (z_ix x1)) (g 72 (z_ix x1)) (-4 : Int32)).toInt64).toInt32)] at hj23
              exact hj23
            · have c19 := (fun q => hc (z_cmp_ge.mpr q))
              refine m_n 2 (pc' := 168) (L' := [some (.ref 27), some (.int x1), some (.int x2), some (.int (g 70 (z_ix x1))), some (.int (q_hd g (1 : Int32) (g 70 (z_ix x1)) (g 72 (z_ix x1)) (-4 : Int32))), some (.int (q_hd g (0 : Int32) (g 70 (z_ix x1)) (g 72 (z_ix x1)) (-4 : Int32))), some (.long (m15 - (g 77 (z_ix x1)).toInt64)), none]) (S' := [.int (0 : Int32)]) (fun _ => rfl) ?_
              rw [(em22.trans (by rw [if_neg c18, if_neg c19]) : m22 = (0 : Int32))] at hj23
              exact hj23
        · have hc := hc
          rw [if_neg hc] at H
          refine m_n 2 (pc' := 84) (L' := [some (.ref 27), some (.int x1), some (.int x2), some (.int (g 70 (z_ix x1))), some (.int (q_hd g (1 : Int32) (g 70 (z_ix x1)) (g 72 (z_ix x1)) (-4 : Int32))), some (.int (q_hd g (0 : Int32) (g 70 (z_ix x1)) (g 72 (z_ix x1)) (-4 : Int32))), none, none]) (S' := [.ref 27, .int (q_hd g (1 : Int32) (g 70 (z_ix x1)) (g 72 (z_ix x1)) (-4 : Int32))]) (fun _ => rfl) ?_
          refine m_gR (q := 74) rfl (by decide) ?_
          refine m_n 1 (pc' := 88) (L' := [some (.ref 27), some (.int x1), some (.int x2), some (.int (g 70 (z_ix x1))), some (.int (q_hd g (1 : Int32) (g 70 (z_ix x1)) (g 72 (z_ix x1)) (-4 : Int32))), some (.int (q_hd g (0 : Int32) (g 70 (z_ix x1)) (g 72 (z_ix x1)) (-4 : Int32))), none, none]) (S' := [.int x1, .ref 74, .int (q_hd g (1 : Int32) (g 70 (z_ix x1)) (g 72 (z_ix x1)) (-4 : Int32))]) (fun _ => rfl) ?_
          obtain ⟨o24, H⟩ := H
          refine m_ia 60 rfl rfl o24 ?_
          refine m_n 1 (pc' := 90) (L' := [some (.ref 27), some (.int x1), some (.int x2), some (.int (g 70 (z_ix x1))), some (.int (q_hd g (1 : Int32) (g 70 (z_ix x1)) (g 72 (z_ix x1)) (-4 : Int32))), some (.int (q_hd g (0 : Int32) (g 70 (z_ix x1)) (g 72 (z_ix x1)) (-4 : Int32))), none, none]) (S' := [.int (q_hd g (1 : Int32) (g 70 (z_ix x1)) (g 72 (z_ix x1)) (-4 : Int32) * (g 74 (z_ix x1)))]) (fun _ => rfl) ?_
          exact m_r rfl rfl rfl H
  · have hc := hc
    rw [if_neg hc] at H
    refine m_n 1 (pc' := 41) (L' := [some (.ref 27), some (.int x1), some (.int x2), some (.int (g 70 (z_ix x1))), none, none, none, none]) (S' := [.int (0 : Int32)]) (fun _ => rfl) ?_
    exact m_r rfl rfl rfl H
def v_202 (x1 : Int32) (x2 : Int32) (g : zG) : Int32 := (if (g 47 (z_ix (g 71 (z_ix x1)))) = (1 : Int32) then (if (g 80 (z_ix x1)) = 0 then (0 : Int32) else (if (g 74 (z_ix x1)) = 0 then (0 : Int32) else (if q_hd g (1 : Int32) (g 70 (z_ix x1)) (g 72 (z_ix x1)) (-4 : Int32) = (-4 : Int32) then (if q_hd g (0 : Int32) (g 70 (z_ix x1)) (g 72 (z_ix x1)) (-4 : Int32) = (-4 : Int32) then (0 : Int32) else (if (0 : Int64) ≤ ((if (((x2.toInt64 * (g 48 (z_ix (g 71 (z_ix x1)))).toInt64) * (g 82 (z_ix x1)).toInt64) / ((g 80 (z_ix x1)).toInt64 * (g 81 (z_ix x1)).toInt64)) ≤ (100000 : Int64) then (((x2.toInt64 * (g 48 (z_ix (g 71 (z_ix x1)))).toInt64) * (g 82 (z_ix x1)).toInt64) / ((g 80 (z_ix x1)).toInt64 * (g 81 (z_ix x1)).toInt64)) else (100000 : Int64)) - (g 77 (z_ix x1)).toInt64) then ((((if (((x2.toInt64 * (g 48 (z_ix (g 71 (z_ix x1)))).toInt64) * (g 82 (z_ix x1)).toInt64) / ((g 80 (z_ix x1)).toInt64 * (g 81 (z_ix x1)).toInt64)) ≤ (100000 : Int64) then (((x2.toInt64 * (g 48 (z_ix (g 71 (z_ix x1)))).toInt64) * (g 82 (z_ix x1)).toInt64) / ((g 80 (z_ix x1)).toInt64 * (g 81 (z_ix x1)).toInt64)) else (100000 : Int64)) - (g 77 (z_ix x1)).toInt64) * (g 78 (z_ix x1)).toInt64) / (q_hd g (0 : Int32) (g 70 (z_ix x1)) (g 72 (z_ix x1)) (-4 : Int32)).toInt64).toInt32 else (0 : Int32))) else (q_hd g (1 : Int32) (g 70 (z_ix x1)) (g 72 (z_ix x1)) (-4 : Int32) * (g 74 (z_ix x1)))))) else (0 : Int32))
def O_202 (x1 : Int32) (x2 : Int32) (g : zG) : Prop := (0 ≤ x1.toInt ∧ x1.toInt < 60) ∧ (0 ≤ x1.toInt ∧ x1.toInt < 60) ∧ (0 ≤ (g 71 (z_ix x1)).toInt ∧ (g 71 (z_ix x1)).toInt < 12) ∧ (((g 47 (z_ix (g 71 (z_ix x1)))) = (1 : Int32)) → 0 ≤ x1.toInt ∧ x1.toInt < 60) ∧ (((g 47 (z_ix (g 71 (z_ix x1)))) = (1 : Int32)) → ¬ ((g 80 (z_ix x1)) = 0) → 0 ≤ x1.toInt ∧ x1.toInt < 60) ∧ (((g 47 (z_ix (g 71 (z_ix x1)))) = (1 : Int32)) → ¬ ((g 80 (z_ix x1)) = 0) → ¬ ((g 74 (z_ix x1)) = 0) → 0 ≤ x1.toInt ∧ x1.toInt < 60) ∧ (((g 47 (z_ix (g 71 (z_ix x1)))) = (1 : Int32)) → ¬ ((g 80 (z_ix x1)) = 0) → ¬ ((g 74 (z_ix x1)) = 0) → Cn g) ∧ (((g 47 (z_ix (g 71 (z_ix x1)))) = (1 : Int32)) → ¬ ((g 80 (z_ix x1)) = 0) → ¬ ((g 74 (z_ix x1)) = 0) → 0 ≤ x1.toInt ∧ x1.toInt < 60) ∧ (((g 47 (z_ix (g 71 (z_ix x1)))) = (1 : Int32)) → ¬ ((g 80 (z_ix x1)) = 0) → ¬ ((g 74 (z_ix x1)) = 0) → Cn g) ∧ (((g 47 (z_ix (g 71 (z_ix x1)))) = (1 : Int32)) → ¬ ((g 80 (z_ix x1)) = 0) → ¬ ((g 74 (z_ix x1)) = 0) → (q_hd g (1 : Int32) (g 70 (z_ix x1)) (g 72 (z_ix x1)) (-4 : Int32) = (-4 : Int32)) → 0 ≤ x1.toInt ∧ x1.toInt < 60) ∧ (((g 47 (z_ix (g 71 (z_ix x1)))) = (1 : Int32)) → ¬ ((g 80 (z_ix x1)) = 0) → ¬ ((g 74 (z_ix x1)) = 0) → (q_hd g (1 : Int32) (g 70 (z_ix x1)) (g 72 (z_ix x1)) (-4 : Int32) = (-4 : Int32)) → 0 ≤ (g 71 (z_ix x1)).toInt ∧ (g 71 (z_ix x1)).toInt < 12) ∧ (((g 47 (z_ix (g 71 (z_ix x1)))) = (1 : Int32)) → ¬ ((g 80 (z_ix x1)) = 0) → ¬ ((g 74 (z_ix x1)) = 0) → (q_hd g (1 : Int32) (g 70 (z_ix x1)) (g 72 (z_ix x1)) (-4 : Int32) = (-4 : Int32)) → 0 ≤ x1.toInt ∧ x1.toInt < 60) ∧ (((g 47 (z_ix (g 71 (z_ix x1)))) = (1 : Int32)) → ¬ ((g 80 (z_ix x1)) = 0) → ¬ ((g 74 (z_ix x1)) = 0) → (q_hd g (1 : Int32) (g 70 (z_ix x1)) (g 72 (z_ix x1)) (-4 : Int32) = (-4 : Int32)) → 0 ≤ x1.toInt ∧ x1.toInt < 60) ∧ (((g 47 (z_ix (g 71 (z_ix x1)))) = (1 : Int32)) → ¬ ((g 80 (z_ix x1)) = 0) → ¬ ((g 74 (z_ix x1)) = 0) → (q_hd g (1 : Int32) (g 70 (z_ix x1)) (g 72 (z_ix x1)) (-4 : Int32) = (-4 : Int32)) → 0 ≤ x1.toInt ∧ x1.toInt < 60) ∧ (((g 47 (z_ix (g 71 (z_ix x1)))) = (1 : Int32)) → ¬ ((g 80 (z_ix x1)) = 0) → ¬ ((g 74 (z_ix x1)) = 0) → (q_hd g (1 : Int32) (g 70 (z_ix x1)) (g 72 (z_ix x1)) (-4 : Int32) = (-4 : Int32)) → ¬ ((g 80 (z_ix x1)).toInt64 * (g 81 (z_ix x1)).toInt64) = 0) ∧ (((g 47 (z_ix (g 71 (z_ix x1)))) = (1 : Int32)) → ¬ ((g 80 (z_ix x1)) = 0) → ¬ ((g 74 (z_ix x1)) = 0) → (q_hd g (1 : Int32) (g 70 (z_ix x1)) (g 72 (z_ix x1)) (-4 : Int32) = (-4 : Int32)) → 0 ≤ x1.toInt ∧ x1.toInt < 60) ∧ (((g 47 (z_ix (g 71 (z_ix x1)))) = (1 : Int32)) → ¬ ((g 80 (z_ix x1)) = 0) → ¬ ((g 74 (z_ix x1)) = 0) → (q_hd g (1 : Int32) (g 70 (z_ix x1)) (g 72 (z_ix x1)) (-4 : Int32) = (-4 : Int32)) → ¬ (q_hd g (0 : Int32) (g 70 (z_ix x1)) (g 72 (z_ix x1)) (-4 : Int32) = (-4 : Int32)) → ((0 : Int64) ≤ ((if (((x2.toInt64 * (g 48 (z_ix (g 71 (z_ix x1)))).toInt64) * (g 82 (z_ix x1)).toInt64) / ((g 80 (z_ix x1)).toInt64 * (g 81 (z_ix x1)).toInt64)) ≤ (100000 : Int64) then (((x2.toInt64 * (g 48 (z_ix (g 71 (z_ix x1)))).toInt64) * (g 82 (z_ix x1)).toInt64) / ((g 80 (z_ix x1)).toInt64 * (g 81 (z_ix x1)).toInt64)) else (100000 : Int64)) - (g 77 (z_ix x1)).toInt64)) → 0 ≤ x1.toInt ∧ x1.toInt < 60) ∧ (((g 47 (z_ix (g 71 (z_ix x1)))) = (1 : Int32)) → ¬ ((g 80 (z_ix x1)) = 0) → ¬ ((g 74 (z_ix x1)) = 0) → (q_hd g (1 : Int32) (g 70 (z_ix x1)) (g 72 (z_ix x1)) (-4 : Int32) = (-4 : Int32)) → ¬ (q_hd g (0 : Int32) (g 70 (z_ix x1)) (g 72 (z_ix x1)) (-4 : Int32) = (-4 : Int32)) → ((0 : Int64) ≤ ((if (((x2.toInt64 * (g 48 (z_ix (g 71 (z_ix x1)))).toInt64) * (g 82 (z_ix x1)).toInt64) / ((g 80 (z_ix x1)).toInt64 * (g 81 (z_ix x1)).toInt64)) ≤ (100000 : Int64) then (((x2.toInt64 * (g 48 (z_ix (g 71 (z_ix x1)))).toInt64) * (g 82 (z_ix x1)).toInt64) / ((g 80 (z_ix x1)).toInt64 * (g 81 (z_ix x1)).toInt64)) else (100000 : Int64)) - (g 77 (z_ix x1)).toInt64)) → ¬ (q_hd g (0 : Int32) (g 70 (z_ix x1)) (g 72 (z_ix x1)) (-4 : Int32)).toInt64 = 0) ∧ (((g 47 (z_ix (g 71 (z_ix x1)))) = (1 : Int32)) → ¬ ((g 80 (z_ix x1)) = 0) → ¬ ((g 74 (z_ix x1)) = 0) → ¬ (q_hd g (1 : Int32) (g 70 (z_ix x1)) (g 72 (z_ix x1)) (-4 : Int32) = (-4 : Int32)) → 0 ≤ x1.toInt ∧ x1.toInt < 60)
theorem C_202 (x1 : Int32) (x2 : Int32) (g : zG) (o : O_202 x1 x2 g) {Q : Int32 → zG → Prop} (q : Q (v_202 x1 x2 g) g) : MK z_pI 202 [.ref 27, .int x1, .int x2] g Q := by
  unfold O_202 at o
  unfold v_202 at q
  obtain ⟨O0, O1, O2, O3, O4, O5, O6, O7, O8, O9, O10, O11, O12, O13, O14, O15, O16, O17, O18⟩ := o
  refine X_202 x1 x2 g ?_
  refine ⟨O0, ?_⟩
  refine ⟨O1, ?_⟩
  refine ⟨O2, ?_⟩
  refine z_ifd (fun c1_3 => ?_) (fun c1_3 => ?_)
  · rw [if_pos c1_3] at q
    refine ⟨O3 c1_3, ?_⟩
    refine z_ifd (fun c2_6 => ?_) (fun c2_6 => ?_)
    · rw [if_pos c2_6] at q
      exact q
    · rw [if_neg c2_6] at q
      refine ⟨O4 c1_3 c2_6, ?_⟩
      refine z_ifd (fun c3_11 => ?_) (fun c3_11 => ?_)
      · rw [if_pos c3_11] at q
        exact q
      · rw [if_neg c3_11] at q
        refine ⟨O5 c1_3 c2_6 c3_11, ?_⟩
        refine ⟨O6 c1_3 c2_6 c3_11, ?_⟩
        refine ⟨O7 c1_3 c2_6 c3_11, ?_⟩
        refine ⟨O8 c1_3 c2_6 c3_11, ?_⟩
        refine z_ifd (fun c4_19 => ?_) (fun c4_19 => ?_)
        · rw [if_pos c4_19] at q
          refine ⟨O9 c1_3 c2_6 c3_11 c4_19, ?_⟩
          refine ⟨O10 c1_3 c2_6 c3_11 c4_19, ?_⟩
          refine ⟨O11 c1_3 c2_6 c3_11 c4_19, ?_⟩
          refine ⟨O12 c1_3 c2_6 c3_11 c4_19, ?_⟩
          refine ⟨O13 c1_3 c2_6 c3_11 c4_19, ?_⟩
          refine ⟨O14 c1_3 c2_6 c3_11 c4_19, ?_⟩
          intro m_ em_; subst em_
          refine ⟨O15 c1_3 c2_6 c3_11 c4_19, ?_⟩
          refine ⟨O16 c1_3 c2_6 c3_11 c4_19, ?_⟩
          refine ⟨O17 c1_3 c2_6 c3_11 c4_19, ?_⟩
          intro m_ em_; subst em_
          exact q
        · rw [if_neg c4_19] at q
          refine ⟨O18 c1_3 c2_6 c3_11 c4_19, ?_⟩
          exact q
  · rw [if_neg c1_3] at q
    exact q
set_option maxRecDepth 20000 in
theorem X_204 (x1 : Int32) (x2 : Int32) (g : zG) {Q : Int32 → zG → Prop} (H : MG z_pI 204 5 [some (.ref 27), some (.int x1), some (.int x2), some (.int (0 : Int32)), some (.int (0 : Int32))] [] g Q) : MK z_pI 204 [.ref 27, .int x1, .int x2] g Q := by
  refine m_K (L := [some (.ref 27), some (.int x1), some (.int x2), none, none]) rfl ?_
  refine m_n 4 (pc' := 5) (L' := [some (.ref 27), some (.int x1), some (.int x2), some (.int (0 : Int32)), some (.int (0 : Int32))]) (S' := []) (fun _ => rfl) ?_
  exact H
set_option maxRecDepth 20000 in
theorem X_204_5 (y1 : Int32) (y2 : Int32) (y3 : Int32) (y4 : Int32) (g : zG) {Q : Int32 → zG → Prop} (H : if (g 27 55) ≤ y4 then (Q y3 g) else ((0 ≤ y4.toInt ∧ y4.toInt < 60) ∧ (if (g 70 (z_ix y4)) = y1 then ((0 ≤ y4.toInt ∧ y4.toInt < 60) ∧ (if y2 < (g 72 (z_ix y4)) then (MG z_pI 204 5 [some (.ref 27), some (.int y1), some (.int y2), some (.int (y3 + (0 : Int32))), some (.int (y4 + (1 : Int32)))] [] g Q) else ((0 ≤ y4.toInt ∧ y4.toInt < 60) ∧ (O_202 y4 (g 75 (z_ix y4)) g) ∧ MG z_pI 204 5 [some (.ref 27), some (.int y1), some (.int y2), some (.int (y3 + (v_202 y4 (g 75 (z_ix y4)) g))), some (.int (y4 + (1 : Int32)))] [] g Q))) else (MG z_pI 204 5 [some (.ref 27), some (.int y1), some (.int y2), some (.int (y3 + (0 : Int32))), some (.int (y4 + (1 : Int32)))] [] g Q)))) : MG z_pI 204 5 [some (.ref 27), some (.int y1), some (.int y2), some (.int y3), some (.int y4)] [] g Q := by
  refine m_n 2 (pc' := 8) (L' := [some (.ref 27), some (.int y1), some (.int y2), some (.int y3), some (.int y4)]) (S' := [.ref 27, .int y4]) (fun _ => rfl) ?_
  refine m_gI rfl ?_
  refine m_b (c := (g 27 55) ≤ y4) (pc' := 62) (L' := [some (.ref 27), some (.int y1), some (.int y2), some (.int y3), some (.int y4)]) (S' := []) (pc2 := 14) (L2 := [some (.ref 27), some (.int y1), some (.int y2), some (.int y3), some (.int y4)]) (S2 := []) rfl (fun _ => rfl) (fun hc => ?_) (fun hc => ?_)
  · have hc := hc
    rw [if_pos hc] at H
    refine m_n 1 (pc' := 63) (L' := [some (.ref 27), some (.int y1), some (.int y2), some (.int y3), some (.int y4)]) (S' := [.int y3]) (fun _ => rfl) ?_
    exact m_r rfl rfl rfl H
  · have hc := hc
    rw [if_neg hc] at H
    refine m_n 2 (pc' := 16) (L' := [some (.ref 27), some (.int y1), some (.int y2), some (.int y3), some (.int y4)]) (S' := [.ref 27, .int y3]) (fun _ => rfl) ?_
    refine m_gR (q := 70) rfl (by decide) ?_
    refine m_n 1 (pc' := 21) (L' := [some (.ref 27), some (.int y1), some (.int y2), some (.int y3), some (.int y4)]) (S' := [.int y4, .ref 70, .int y3]) (fun _ => rfl) ?_
    obtain ⟨o1, H⟩ := H
    refine m_ia 60 rfl rfl o1 ?_
    refine m_n 1 (pc' := 23) (L' := [some (.ref 27), some (.int y1), some (.int y2), some (.int y3), some (.int y4)]) (S' := [.int y1, .int (g 70 (z_ix y4)), .int y3]) (fun _ => rfl) ?_
    refine m_b (c := (g 70 (z_ix y4)) = y1) (pc' := 26) (L' := [some (.ref 27), some (.int y1), some (.int y2), some (.int y3), some (.int y4)]) (S' := [.int y3]) (pc2 := 53) (L2 := [some (.ref 27), some (.int y1), some (.int y2), some (.int y3), some (.int y4)]) (S2 := [.int y3]) rfl (fun _ => rfl) (fun hc => ?_) (fun hc => ?_)
    · have hc := hc
      rw [if_pos hc] at H
      refine m_n 1 (pc' := 27) (L' := [some (.ref 27), some (.int y1), some (.int y2), some (.int y3), some (.int y4)]) (S' := [.ref 27, .int y3]) (fun _ => rfl) ?_
      refine m_gR (q := 72) rfl (by decide) ?_
      refine m_n 1 (pc' := 32) (L' := [some (.ref 27), some (.int y1), some (.int y2), some (.int y3), some (.int y4)]) (S' := [.int y4, .ref 72, .int y3]) (fun _ => rfl) ?_
      obtain ⟨o2, H⟩ := H
      refine m_ia 60 rfl rfl o2 ?_
      refine m_n 1 (pc' := 34) (L' := [some (.ref 27), some (.int y1), some (.int y2), some (.int y3), some (.int y4)]) (S' := [.int y2, .int (g 72 (z_ix y4)), .int y3]) (fun _ => rfl) ?_
      refine m_b (c := y2 < (g 72 (z_ix y4))) (pc' := 53) (L' := [some (.ref 27), some (.int y1), some (.int y2), some (.int y3), some (.int y4)]) (S' := [.int y3]) (pc2 := 37) (L2 := [some (.ref 27), some (.int y1), some (.int y2), some (.int y3), some (.int y4)]) (S2 := [.int y3]) rfl (fun _ => rfl) (fun hc => ?_) (fun hc => ?_)
      · have hc := hc
        rw [if_pos hc] at H
        refine m_n 5 (pc' := 5) (L' := [some (.ref 27), some (.int y1), some (.int y2), some (.int (y3 + (0 : Int32))), some (.int (y4 + (1 : Int32)))]) (S' := []) (fun _ => rfl) ?_
        exact H
      · have hc := hc
        rw [if_neg hc] at H
        refine m_n 3 (pc' := 41) (L' := [some (.ref 27), some (.int y1), some (.int y2), some (.int y3), some (.int y4)]) (S' := [.ref 27, .int y4, .ref 27, .int y3]) (fun _ => rfl) ?_
        refine m_gR (q := 75) rfl (by decide) ?_
        refine m_n 1 (pc' := 46) (L' := [some (.ref 27), some (.int y1), some (.int y2), some (.int y3), some (.int y4)]) (S' := [.int y4, .ref 75, .int y4, .ref 27, .int y3]) (fun _ => rfl) ?_
        obtain ⟨o3, H⟩ := H
        refine m_ia 60 rfl rfl o3 ?_
        refine m_cI 202 3 rfl rfl rfl (A := [.ref 27, .int y4, .int (g 75 (z_ix y4))]) rfl rfl (Or.inr ⟨rfl, _, rfl⟩) (rest := [.int y3]) rfl rfl rfl ?_
        obtain ⟨o4, H⟩ := H
        refine C_202 y4 (g 75 (z_ix y4)) g o4 ?_
        refine m_n 5 (pc' := 5) (L' := [some (.ref 27), some (.int y1), some (.int y2), some (.int (y3 + (v_202 y4 (g 75 (z_ix y4)) g))), some (.int (y4 + (1 : Int32)))]) (S' := []) (fun _ => rfl) ?_
        exact H
    · have hc := hc
      rw [if_neg hc] at H
      refine m_n 5 (pc' := 5) (L' := [some (.ref 27), some (.int y1), some (.int y2), some (.int (y3 + (0 : Int32))), some (.int (y4 + (1 : Int32)))]) (S' := []) (fun _ => rfl) ?_
      exact H
set_option maxRecDepth 20000 in
theorem X_205 (x1 : Int32) (g : zG) {Q : Int32 → zG → Prop} (H : MG z_pI 205 4 [some (.ref 27), some (.int x1), some (.int (0 : Int32)), some (.int (0 : Int32))] [] g Q) : MK z_pI 205 [.ref 27, .int x1] g Q := by
  refine m_K (L := [some (.ref 27), some (.int x1), none, none]) rfl ?_
  refine m_n 4 (pc' := 4) (L' := [some (.ref 27), some (.int x1), some (.int (0 : Int32)), some (.int (0 : Int32))]) (S' := []) (fun _ => rfl) ?_
  exact H
set_option maxRecDepth 20000 in
theorem X_205_4 (y1 : Int32) (y2 : Int32) (y3 : Int32) (g : zG) {Q : Int32 → zG → Prop} (H : if (g 27 55) ≤ y3 then (Q (0 : Int32) g) else ((0 ≤ y3.toInt ∧ y3.toInt < 60) ∧ (if (g 70 (z_ix y3)) = y1 then ((0 ≤ y3.toInt ∧ y3.toInt < 60) ∧ (O_202 y3 (g 75 (z_ix y3)) g) ∧ (0 ≤ y1.toInt ∧ y1.toInt < 6) ∧ (if (y2 + (v_202 y3 (g 75 (z_ix y3)) g)) ≤ (g 34 (z_ix y1)) then (MG z_pI 205 4 [some (.ref 27), some (.int y1), some (.int (y2 + (v_202 y3 (g 75 (z_ix y3)) g))), some (.int (y3 + (1 : Int32)))] [] g Q) else ((0 ≤ y3.toInt ∧ y3.toInt < 60) ∧ Q ((g 27 0) - (g 72 (z_ix y3))) g))) else (MG z_pI 205 4 [some (.ref 27), some (.int y1), some (.int y2), some (.int (y3 + (1 : Int32)))] [] g Q)))) : MG z_pI 205 4 [some (.ref 27), some (.int y1), some (.int y2), some (.int y3)] [] g Q := by
  refine m_n 2 (pc' := 6) (L' := [some (.ref 27), some (.int y1), some (.int y2), some (.int y3)]) (S' := [.ref 27, .int y3]) (fun _ => rfl) ?_
  refine m_gI rfl ?_
  refine m_b (c := (g 27 55) ≤ y3) (pc' := 64) (L' := [some (.ref 27), some (.int y1), some (.int y2), some (.int y3)]) (S' := []) (pc2 := 12) (L2 := [some (.ref 27), some (.int y1), some (.int y2), some (.int y3)]) (S2 := []) rfl (fun _ => rfl) (fun hc => ?_) (fun hc => ?_)
  · have hc := hc
    rw [if_pos hc] at H
    refine m_n 1 (pc' := 65) (L' := [some (.ref 27), some (.int y1), some (.int y2), some (.int y3)]) (S' := [.int (0 : Int32)]) (fun _ => rfl) ?_
    exact m_r rfl rfl rfl H
  · have hc := hc
    rw [if_neg hc] at H
    refine m_n 1 (pc' := 13) (L' := [some (.ref 27), some (.int y1), some (.int y2), some (.int y3)]) (S' := [.ref 27]) (fun _ => rfl) ?_
    refine m_gR (q := 70) rfl (by decide) ?_
    refine m_n 1 (pc' := 17) (L' := [some (.ref 27), some (.int y1), some (.int y2), some (.int y3)]) (S' := [.int y3, .ref 70]) (fun _ => rfl) ?_
    obtain ⟨o1, H⟩ := H
    refine m_ia 60 rfl rfl o1 ?_
    refine m_n 1 (pc' := 19) (L' := [some (.ref 27), some (.int y1), some (.int y2), some (.int y3)]) (S' := [.int y1, .int (g 70 (z_ix y3))]) (fun _ => rfl) ?_
    refine m_b (c := (g 70 (z_ix y3)) = y1) (pc' := 22) (L' := [some (.ref 27), some (.int y1), some (.int y2), some (.int y3)]) (S' := []) (pc2 := 58) (L2 := [some (.ref 27), some (.int y1), some (.int y2), some (.int y3)]) (S2 := []) rfl (fun _ => rfl) (fun hc => ?_) (fun hc => ?_)
    · have hc := hc
      rw [if_pos hc] at H
      refine m_n 4 (pc' := 26) (L' := [some (.ref 27), some (.int y1), some (.int y2), some (.int y3)]) (S' := [.ref 27, .int y3, .ref 27, .int y2]) (fun _ => rfl) ?_
      refine m_gR (q := 75) rfl (by decide) ?_
      refine m_n 1 (pc' := 30) (L' := [some (.ref 27), some (.int y1), some (.int y2), some (.int y3)]) (S' := [.int y3, .ref 75, .int y3, .ref 27, .int y2]) (fun _ => rfl) ?_
      obtain ⟨o2, H⟩ := H
      refine m_ia 60 rfl rfl o2 ?_
      refine m_cI 202 3 rfl rfl rfl (A := [.ref 27, .int y3, .int (g 75 (z_ix y3))]) rfl rfl (Or.inr ⟨rfl, _, rfl⟩) (rest := [.int y2]) rfl rfl rfl ?_
      obtain ⟨o3, H⟩ := H
      refine C_202 y3 (g 75 (z_ix y3)) g o3 ?_
      refine m_n 4 (pc' := 38) (L' := [some (.ref 27), some (.int y1), some (.int (y2 + (v_202 y3 (g 75 (z_ix y3)) g))), some (.int y3)]) (S' := [.ref 27, .int (y2 + (v_202 y3 (g 75 (z_ix y3)) g))]) (fun _ => rfl) ?_
      refine m_gR (q := 34) rfl (by decide) ?_
      refine m_n 1 (pc' := 42) (L' := [some (.ref 27), some (.int y1), some (.int (y2 + (v_202 y3 (g 75 (z_ix y3)) g))), some (.int y3)]) (S' := [.int y1, .ref 34, .int (y2 + (v_202 y3 (g 75 (z_ix y3)) g))]) (fun _ => rfl) ?_
      obtain ⟨o4, H⟩ := H
      refine m_ia 6 rfl rfl o4 ?_
      refine m_b (c := (y2 + (v_202 y3 (g 75 (z_ix y3)) g)) ≤ (g 34 (z_ix y1))) (pc' := 58) (L' := [some (.ref 27), some (.int y1), some (.int (y2 + (v_202 y3 (g 75 (z_ix y3)) g))), some (.int y3)]) (S' := []) (pc2 := 46) (L2 := [some (.ref 27), some (.int y1), some (.int (y2 + (v_202 y3 (g 75 (z_ix y3)) g))), some (.int y3)]) (S2 := []) rfl (fun _ => rfl) (fun hc => ?_) (fun hc => ?_)
      · have hc := hc
        rw [if_pos hc] at H
        refine m_n 2 (pc' := 4) (L' := [some (.ref 27), some (.int y1), some (.int (y2 + (v_202 y3 (g 75 (z_ix y3)) g))), some (.int (y3 + (1 : Int32)))]) (S' := []) (fun _ => rfl) ?_
        exact H
      · have hc := hc
        rw [if_neg hc] at H
        refine m_n 1 (pc' := 47) (L' := [some (.ref 27), some (.int y1), some (.int (y2 + (v_202 y3 (g 75 (z_ix y3)) g))), some (.int y3)]) (S' := [.ref 27]) (fun _ => rfl) ?_
        refine m_gI rfl ?_
        refine m_n 1 (pc' := 51) (L' := [some (.ref 27), some (.int y1), some (.int (y2 + (v_202 y3 (g 75 (z_ix y3)) g))), some (.int y3)]) (S' := [.ref 27, .int (g 27 0)]) (fun _ => rfl) ?_
        refine m_gR (q := 72) rfl (by decide) ?_
        refine m_n 1 (pc' := 55) (L' := [some (.ref 27), some (.int y1), some (.int (y2 + (v_202 y3 (g 75 (z_ix y3)) g))), some (.int y3)]) (S' := [.int y3, .ref 72, .int (g 27 0)]) (fun _ => rfl) ?_
        obtain ⟨o5, H⟩ := H
        refine m_ia 60 rfl rfl o5 ?_
        refine m_n 1 (pc' := 57) (L' := [some (.ref 27), some (.int y1), some (.int (y2 + (v_202 y3 (g 75 (z_ix y3)) g))), some (.int y3)]) (S' := [.int ((g 27 0) - (g 72 (z_ix y3)))]) (fun _ => rfl) ?_
        exact m_r rfl rfl rfl H
    · have hc := hc
      rw [if_neg hc] at H
      refine m_n 2 (pc' := 4) (L' := [some (.ref 27), some (.int y1), some (.int y2), some (.int (y3 + (1 : Int32)))]) (S' := []) (fun _ => rfl) ?_
      exact H
set_option maxRecDepth 20000 in
theorem X_211 (x1 : Int32) (g : zG) {Q : Int32 → zG → Prop} (H : MG z_pI 211 4 [some (.ref 27), some (.int x1), some (.int (0 : Int32)), some (.int (0 : Int32))] [] g Q) : MK z_pI 211 [.ref 27, .int x1] g Q := by
  refine m_K (L := [some (.ref 27), some (.int x1), none, none]) rfl ?_
  refine m_n 4 (pc' := 4) (L' := [some (.ref 27), some (.int x1), some (.int (0 : Int32)), some (.int (0 : Int32))]) (S' := []) (fun _ => rfl) ?_
  exact H
set_option maxRecDepth 20000 in
theorem X_211_4 (y1 : Int32) (y2 : Int32) (y3 : Int32) (g : zG) {Q : Int32 → zG → Prop} (H : if (8 : Int32) ≤ y3 then (Q y2 g) else ((Cn g) ∧ (∀ m3 : Int32, m3 = (if q_hd g (4 : Int32) y3 y1 (0 : Int32) ≤ y1 then (0 : Int32) else ((1 : Int32) <<< (y3 &&& 31))) → MG z_pI 211 4 [some (.ref 27), some (.int y1), some (.int (y2 ||| m3)), some (.int (y3 + (1 : Int32)))] [] g Q))) : MG z_pI 211 4 [some (.ref 27), some (.int y1), some (.int y2), some (.int y3)] [] g Q := by
  refine m_n 2 (pc' := 7) (L' := [some (.ref 27), some (.int y1), some (.int y2), some (.int y3)]) (S' := [.int (8 : Int32), .int y3]) (fun _ => rfl) ?_
  refine m_b (c := (8 : Int32) ≤ y3) (pc' := 38) (L' := [some (.ref 27), some (.int y1), some (.int y2), some (.int y3)]) (S' := []) (pc2 := 10) (L2 := [some (.ref 27), some (.int y1), some (.int y2), some (.int y3)]) (S2 := []) rfl (fun _ => rfl) (fun hc => ?_) (fun hc => ?_)
  · have hc := hc
    rw [if_pos hc] at H
    refine m_n 1 (pc' := 39) (L' := [some (.ref 27), some (.int y1), some (.int y2), some (.int y3)]) (S' := [.int y2]) (fun _ => rfl) ?_
    exact m_r rfl rfl rfl H
  · have hc := hc
    rw [if_neg hc] at H
    refine m_n 6 (pc' := 16) (L' := [some (.ref 27), some (.int y1), some (.int y2), some (.int y3)]) (S' := [.int (0 : Int32), .int y1, .int y3, .int (4 : Int32), .ref 27, .int y2]) (fun _ => rfl) ?_
    refine m_cI 198 5 rfl rfl rfl (A := [.ref 27, .int (4 : Int32), .int y3, .int y1, .int (0 : Int32)]) rfl rfl (Or.inr ⟨rfl, _, rfl⟩) (rest := [.int y2]) rfl rfl rfl ?_
    obtain ⟨o1, H⟩ := H
    refine c_holds (4 : Int32) y3 y1 (0 : Int32) g o1 ?_
    refine m_n 1 (pc' := 20) (L' := [some (.ref 27), some (.int y1), some (.int y2), some (.int y3)]) (S' := [.int y1, .int (q_hd g (4 : Int32) y3 y1 (0 : Int32)), .int y2]) (fun _ => rfl) ?_
    obtain ⟨m3, em3⟩ : ∃ m : Int32, m = (if q_hd g (4 : Int32) y3 y1 (0 : Int32) ≤ y1 then (0 : Int32) else ((1 : Int32) <<< (y3 &&& 31))) := ⟨_, rfl⟩
    have H := H m3 em3
    have hj4 : MG z_pI 211 30 [some (.ref 27), some (.int y1), some (.int y2), some (.int y3)] [.int m3, .int y2] g Q := by
      refine m_n 4 (pc' := 4) (L' := [some (.ref 27), some (.int y1), some (.int (y2 ||| m3)), some (.int (y3 + (1 : Int32)))]) (S' := []) (fun _ => rfl) ?_
      exact H
    refine m_b (c := q_hd g (4 : Int32) y3 y1 (0 : Int32) ≤ y1) (pc' := 29) (L' := [some (.ref 27), some (.int y1), some (.int y2), some (.int y3)]) (S' := [.int y2]) (pc2 := 23) (L2 := [some (.ref 27), some (.int y1), some (.int y2), some (.int y3)]) (S2 := [.int y2]) rfl (fun _ => rfl) (fun hc => ?_) (fun hc => ?_)
    · have c2 := hc
      refine m_n 1 (pc' := 30) (L' := [some (.ref 27), some (.int y1), some (.int y2), some (.int y3)]) (S' := [.int (0 : Int32), .int y2]) (fun _ => rfl) ?_
      rw [(em3.trans (by rw [if_pos c2]) : m3 = (0 : Int32))] at hj4
      exact hj4
    · have c2 := hc
      refine m_n 4 (pc' := 30) (L' := [some (.ref 27), some (.int y1), some (.int y2), some (.int y3)]) (S' := [.int ((1 : Int32) <<< (y3 &&& 31)), .int y2]) (fun _ => rfl) ?_
      rw [(em3.trans (by rw [if_neg c2]) : m3 = ((1 : Int32) <<< (y3 &&& 31)))] at hj4
      exact hj4
