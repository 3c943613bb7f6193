def So (g : zG) : Prop := Cn g ∧ ∀ k s, k < q_n g 55 → O_202 (Int32.ofNat k) s g
def Sl (g : zG) (x : Int32) : Prop := So g ∧ (0 ≤ x.toInt ∧ x.toInt < 6)

set_option maxRecDepth 20000 in
theorem X_206 (x1 : Int32) (x2 : Int32) (g : zG) {Q : Int32 → zG → Prop} (H : if (0 : Int32) ≤ x1 ∧ x1 ≤ ((g 27 1) - (1 : Int32)) then (if (0 : Int32) ≤ x2 ∧ x2 ≤ (99999 : Int32) then ((0 ≤ x1.toInt ∧ x1.toInt < 6) ∧ (0 ≤ x1.toInt ∧ x1.toInt < 6) ∧ (So (z_up2 g 34 (z_ix x1) ((g 34 (z_ix x1)) + x2))) ∧ (0 ≤ x1.toInt ∧ x1.toInt < 6) ∧ Q (q_ou (z_up2 g 34 (z_ix x1) ((g 34 (z_ix x1)) + x2)) x1 (60 : Int32) - ((z_up2 g 34 (z_ix x1) ((g 34 (z_ix x1)) + x2)) 34 (z_ix x1))) (z_up2 g 34 (z_ix x1) ((g 34 (z_ix x1)) + x2))) else (Q (-1000000 : Int32) g)) else (Q (-1000000 : Int32) g)) : MK z_pI 206 [.ref 27, .int x1, .int x2] g Q := by
  refine m_K (L := [some (.ref 27), some (.int x1), some (.int x2)]) rfl ?_
  refine m_n 2 (pc' := 2) (L' := [some (.ref 27), some (.int x1), some (.int x2)]) (S' := [.int x1, .ref 27]) (fun _ => rfl) ?_
  refine m_cI 163 2 rfl rfl rfl (A := [.ref 27, .int x1]) rfl rfl (Or.inr ⟨rfl, _, rfl⟩) (rest := []) rfl rfl rfl ?_
  refine X_163 x1 g ?_
  refine m_b (c := z_bt ((0 : Int32) ≤ x1 ∧ x1 ≤ ((g 27 1) - (1 : Int32))) = 0) (pc' := 20) (L' := [some (.ref 27), some (.int x1), some (.int x2)]) (S' := []) (pc2 := 8) (L2 := [some (.ref 27), some (.int x1), some (.int x2)]) (S2 := []) rfl (fun _ => rfl) (fun hc => ?_) (fun hc => ?_)
  · have hc := z_bt_0.mp hc
    rw [if_neg hc] at H
    refine m_n 1 (pc' := 23) (L' := [some (.ref 27), some (.int x1), some (.int x2)]) (S' := [.int (-1000000 : Int32)]) (fun _ => rfl) ?_
    exact m_r rfl rfl rfl H
  · have hc := Decidable.not_not.mp (fun q => hc (z_bt_0.mpr q))
    rw [if_pos hc] at H
    refine m_n 4 (pc' := 14) (L' := [some (.ref 27), some (.int x1), some (.int x2)]) (S' := [.long (99999 : Int64), .long (0 : Int64), .long x2.toInt64]) (fun _ => rfl) ?_
    refine m_cI 161 3 rfl rfl rfl (A := [.long x2.toInt64, .long (0 : Int64), .long (99999 : Int64)]) rfl rfl (Or.inl rfl) (rest := []) rfl rfl rfl ?_
    refine c_inJ x2 (0 : Int32) (99999 : Int32) g rfl rfl rfl ?_
    refine m_b (c := z_bt ((0 : Int32) ≤ x2 ∧ x2 ≤ (99999 : Int32)) = 0) (pc' := 20) (L' := [some (.ref 27), some (.int x1), some (.int x2)]) (S' := []) (pc2 := 24) (L2 := [some (.ref 27), some (.int x1), some (.int x2)]) (S2 := []) rfl (fun _ => rfl) (fun hc => ?_) (fun hc => ?_)
    · have hc := z_bt_0.mp hc
      rw [if_neg hc] at H
      refine m_n 1 (pc' := 23) (L' := [some (.ref 27), some (.int x1), some (.int x2)]) (S' := [.int (-1000000 : Int32)]) (fun _ => rfl) ?_
      exact m_r rfl rfl rfl H
    · have hc := Decidable.not_not.mp (fun q => hc (z_bt_0.mpr q))
      rw [if_pos hc] at H
      refine m_n 1 (pc' := 25) (L' := [some (.ref 27), some (.int x1), some (.int x2)]) (S' := [.ref 27]) (fun _ => rfl) ?_
      refine m_gR (q := 34) rfl (by decide) ?_
      refine m_n 2 (pc' := 30) (L' := [some (.ref 27), some (.int x1), some (.int x2)]) (S' := [.int x1, .ref 34, .int x1, .ref 34]) (fun _ => rfl) ?_
      obtain ⟨o1, H⟩ := H
      refine m_ia 6 rfl rfl o1 ?_
      refine m_n 2 (pc' := 33) (L' := [some (.ref 27), some (.int x1), some (.int x2)]) (S' := [.int ((g 34 (z_ix x1)) + x2), .int x1, .ref 34]) (fun _ => rfl) ?_
      obtain ⟨o2, H⟩ := H
      refine m_is 6 rfl rfl rfl o2 ?_
      refine m_n 3 (pc' := 38) (L' := [some (.ref 27), some (.int x1), some (.int x2)]) (S' := [.int (60 : Int32), .int x1, .ref 27]) (fun _ => rfl) ?_
      refine m_cI 204 3 rfl rfl rfl (A := [.ref 27, .int x1, .int (60 : Int32)]) rfl rfl (Or.inr ⟨rfl, _, rfl⟩) (rest := []) rfl rfl rfl ?_
      obtain ⟨o3, H⟩ := H
      refine c_owedUpTo x1 (60 : Int32) (z_up2 g 34 (z_ix x1) ((g 34 (z_ix x1)) + x2)) o3 ?_
      refine m_n 1 (pc' := 42) (L' := [some (.ref 27), some (.int x1), some (.int x2)]) (S' := [.ref 27, .int (q_ou (z_up2 g 34 (z_ix x1) ((g 34 (z_ix x1)) + x2)) x1 (60 : Int32))]) (fun _ => rfl) ?_
      refine m_gR (q := 34) rfl (by decide) ?_
      refine m_n 1 (pc' := 46) (L' := [some (.ref 27), some (.int x1), some (.int x2)]) (S' := [.int x1, .ref 34, .int (q_ou (z_up2 g 34 (z_ix x1) ((g 34 (z_ix x1)) + x2)) x1 (60 : Int32))]) (fun _ => rfl) ?_
      obtain ⟨o4, H⟩ := H
      refine m_ia 6 rfl rfl o4 ?_
      refine m_n 1 (pc' := 48) (L' := [some (.ref 27), some (.int x1), some (.int x2)]) (S' := [.int (q_ou (z_up2 g 34 (z_ix x1) ((g 34 (z_ix x1)) + x2)) x1 (60 : Int32) - ((z_up2 g 34 (z_ix x1) ((g 34 (z_ix x1)) + x2)) 34 (z_ix x1)))]) (fun _ => rfl) ?_
      exact m_r rfl rfl rfl H
set_option maxRecDepth 20000 in
theorem X_207 (x1 : Int32) (x2 : Int32) (g : zG) {Q : Int32 → zG → Prop} (H : if (0 : Int32) ≤ x1 ∧ x1 ≤ ((g 27 1) - (1 : Int32)) then (MG z_pI 207 18 [some (.ref 27), some (.int x1), some (.int x2), some (.int (0 : Int32)), some (.int (0 : Int32)), some (.int (0 : Int32))] [] g Q) else (Q (-1 : Int32) g)) : MK z_pI 207 [.ref 27, .int x1, .int x2] g Q := by
  refine m_K (L := [some (.ref 27), some (.int x1), some (.int x2), none, none, none]) rfl ?_
  refine m_n 2 (pc' := 2) (L' := [some (.ref 27), some (.int x1), some (.int x2), none, none, none]) (S' := [.int x1, .ref 27]) (fun _ => rfl) ?_
  refine m_cI 163 2 rfl rfl rfl (A := [.ref 27, .int x1]) rfl rfl (Or.inr ⟨rfl, _, rfl⟩) (rest := []) rfl rfl rfl ?_
  refine X_163 x1 g ?_
  refine m_b (c := z_bt ((0 : Int32) ≤ x1 ∧ x1 ≤ ((g 27 1) - (1 : Int32))) = 0) (pc' := 8) (L' := [some (.ref 27), some (.int x1), some (.int x2), none, none, none]) (S' := []) (pc2 := 10) (L2 := [some (.ref 27), some (.int x1), some (.int x2), none, none, none]) (S2 := []) rfl (fun _ => rfl) (fun hc => ?_) (fun hc => ?_)
  · have hc := z_bt_0.mp hc
    rw [if_neg hc] at H
    refine m_n 1 (pc' := 9) (L' := [some (.ref 27), some (.int x1), some (.int x2), none, none, none]) (S' := [.int (-1 : Int32)]) (fun _ => rfl) ?_
    exact m_r rfl rfl rfl H
  · have hc := Decidable.not_not.mp (fun q => hc (z_bt_0.mpr q))
    rw [if_pos hc] at H
    refine m_n 6 (pc' := 18) (L' := [some (.ref 27), some (.int x1), some (.int x2), some (.int (0 : Int32)), some (.int (0 : Int32)), some (.int (0 : Int32))]) (S' := []) (fun _ => rfl) ?_
    exact H
set_option maxRecDepth 20000 in
theorem X_207_18 (y1 : Int32) (y2 : Int32) (y3 : Int32) (y4 : Int32) (y5 : Int32) (g : zG) {Q : Int32 → zG → Prop} (H : if (g 27 55) ≤ y5 then ((So g) ∧ (if y2 = (0 : Int32) then (Q (q_ou g y1 (60 : Int32)) g) else (if y2 = (1 : Int32) then (Q y3 g) else (if y2 = (2 : Int32) then ((0 ≤ y1.toInt ∧ y1.toInt < 6) ∧ Q (g 34 (z_ix y1)) g) else (if y2 = (3 : Int32) then ((0 ≤ y1.toInt ∧ y1.toInt < 6) ∧ (((g 34 (z_ix y1)) ≤ q_ou g y1 (60 : Int32)) → 0 ≤ y1.toInt ∧ y1.toInt < 6) ∧ (∀ m10 : Int32, m10 = (if (g 34 (z_ix y1)) ≤ q_ou g y1 (60 : Int32) then (q_ou g y1 (60 : Int32) - (g 34 (z_ix y1))) else (0 : Int32)) → Q m10 g)) else (if y2 = (4 : Int32) then ((Sl g y1) ∧ Q (q_le g y1) g) else (if y2 = (5 : Int32) then (Q y4 g) else (Q (-1 : Int32) g)))))))) else ((0 ≤ y5.toInt ∧ y5.toInt < 60) ∧ (if (g 70 (z_ix y5)) = y1 then ((0 ≤ y5.toInt ∧ y5.toInt < 60) ∧ (O_202 y5 (g 76 (z_ix y5)) g) ∧ (0 ≤ y5.toInt ∧ y5.toInt < 60) ∧ MG z_pI 207 18 [some (.ref 27), some (.int y1), some (.int y2), some (.int (y3 + (v_202 y5 (g 76 (z_ix y5)) g))), some (.int (y4 + z_bt ((g 70 (z_ix y5)) = y1))), some (.int (y5 + (1 : Int32)))] [] g Q) else ((0 ≤ y5.toInt ∧ y5.toInt < 60) ∧ MG z_pI 207 18 [some (.ref 27), some (.int y1), some (.int y2), some (.int (y3 + (0 : Int32))), some (.int (y4 + z_bt ((g 70 (z_ix y5)) = y1))), some (.int (y5 + (1 : Int32)))] [] g Q)))) : MG z_pI 207 18 [some (.ref 27), some (.int y1), some (.int y2), some (.int y3), some (.int y4), some (.int y5)] [] g Q := by
  refine m_n 2 (pc' := 21) (L' := [some (.ref 27), some (.int y1), some (.int y2), some (.int y3), some (.int y4), some (.int y5)]) (S' := [.ref 27, .int y5]) (fun _ => rfl) ?_
  refine m_gI rfl ?_
  refine m_b (c := (g 27 55) ≤ y5) (pc' := 85) (L' := [some (.ref 27), some (.int y1), some (.int y2), some (.int y3), some (.int y4), some (.int y5)]) (S' := []) (pc2 := 27) (L2 := [some (.ref 27), some (.int y1), some (.int y2), some (.int y3), some (.int y4), some (.int y5)]) (S2 := []) rfl (fun _ => rfl) (fun hc => ?_) (fun hc => ?_)
  · have hc := hc
    rw [if_pos hc] at H
    refine m_n 3 (pc' := 89) (L' := [some (.ref 27), some (.int y1), some (.int y2), some (.int y3), some (.int y4), some (.int y5)]) (S' := [.int (60 : Int32), .int y1, .ref 27]) (fun _ => rfl) ?_
    refine m_cI 204 3 rfl rfl rfl (A := [.ref 27, .int y1, .int (60 : Int32)]) rfl rfl (Or.inr ⟨rfl, _, rfl⟩) (rest := []) rfl rfl rfl ?_
    obtain ⟨o1, H⟩ := H
    refine c_owedUpTo y1 (60 : Int32) g o1 ?_
    refine m_n 2 (pc' := 95) (L' := [some (.ref 27), some (.int y1), some (.int y2), some (.int y3), some (.int y4), some (.int (q_ou g y1 (60 : Int32)))]) (S' := [.int y2]) (fun _ => rfl) ?_
    by_cases w2 : y2 = (0 : Int32)
    · rw [if_pos w2] at H
      refine m_sw (pc' := 132) rfl (congrArg (z_tgt 95) (z_swT (k := (0 : Int32)) w2 rfl)) ?_
      refine m_n 1 (pc' := 134) (L' := [some (.ref 27), some (.int y1), some (.int y2), some (.int y3), some (.int y4), some (.int (q_ou g y1 (60 : Int32)))]) (S' := [.int (q_ou g y1 (60 : Int32))]) (fun _ => rfl) ?_
      exact m_r rfl rfl rfl H
    rw [if_neg w2] at H
    by_cases w3 : y2 = (1 : Int32)
    · rw [if_pos w3] at H
      refine m_sw (pc' := 135) rfl (congrArg (z_tgt 95) (z_swN (k := (0 : Int32)) w2 rfl (z_swT (k := (1 : Int32)) w3 rfl))) ?_
      refine m_n 1 (pc' := 136) (L' := [some (.ref 27), some (.int y1), some (.int y2), some (.int y3), some (.int y4), some (.int (q_ou g y1 (60 : Int32)))]) (S' := [.int y3]) (fun _ => rfl) ?_
      exact m_r rfl rfl rfl H
    rw [if_neg w3] at H
    by_cases w4 : y2 = (2 : Int32)
    · rw [if_pos w4] at H
      refine m_sw (pc' := 137) rfl (congrArg (z_tgt 95) (z_swN (k := (0 : Int32)) w2 rfl (z_swN (k := (1 : Int32)) w3 rfl (z_swT (k := (2 : Int32)) w4 rfl)))) ?_
      refine m_n 1 (pc' := 138) (L' := [some (.ref 27), some (.int y1), some (.int y2), some (.int y3), some (.int y4), some (.int (q_ou g y1 (60 : Int32)))]) (S' := [.ref 27]) (fun _ => rfl) ?_
      refine m_gR (q := 34) rfl (by decide) ?_
      refine m_n 1 (pc' := 142) (L' := [some (.ref 27), some (.int y1), some (.int y2), some (.int y3), some (.int y4), some (.int (q_ou g y1 (60 : Int32)))]) (S' := [.int y1, .ref 34]) (fun _ => rfl) ?_
      obtain ⟨o5, H⟩ := H
      refine m_ia 6 rfl rfl o5 ?_
      exact m_r rfl rfl rfl H
    rw [if_neg w4] at H
    by_cases w6 : y2 = (3 : Int32)
    · rw [if_pos w6] at H
      refine m_sw (pc' := 144) rfl (congrArg (z_tgt 95) (z_swN (k := (0 : Int32)) w2 rfl (z_swN (k := (1 : Int32)) w3 rfl (z_swN (k := (2 : Int32)) w4 rfl (z_swT (k := (3 : Int32)) w6 rfl))))) ?_
      refine m_n 2 (pc' := 147) (L' := [some (.ref 27), some (.int y1), some (.int y2), some (.int y3), some (.int y4), some (.int (q_ou g y1 (60 : Int32)))]) (S' := [.ref 27, .int (q_ou g y1 (60 : Int32))]) (fun _ => rfl) ?_
      refine m_gR (q := 34) rfl (by decide) ?_
      refine m_n 1 (pc' := 151) (L' := [some (.ref 27), some (.int y1), some (.int y2), some (.int y3), some (.int y4), some (.int (q_ou g y1 (60 : Int32)))]) (S' := [.int y1, .ref 34, .int (q_ou g y1 (60 : Int32))]) (fun _ => rfl) ?_
      obtain ⟨o7, H⟩ := H
      refine m_ia 6 rfl rfl o7 ?_
      obtain ⟨o9, H⟩ := H
      obtain ⟨m10, em10⟩ : ∃ m : Int32, m = (if (g 34 (z_ix y1)) ≤ q_ou g y1 (60 : Int32) then (q_ou g y1 (60 : Int32) - (g 34 (z_ix y1))) else (0 : Int32)) := ⟨_, rfl⟩
      have H := H m10 em10
      have hj11 : MG z_pI 207 168 [some (.ref 27), some (.int y1), some (.int y2), some (.int y3), some (.int y4), some (.int (q_ou g y1 (60 : Int32)))] [.int m10] g Q := by
        exact m_r rfl rfl rfl H
      refine m_b (c := (g 34 (z_ix y1)) ≤ q_ou g y1 (60 : Int32)) (pc' := 159) (L' := [some (.ref 27), some (.int y1), some (.int y2), some (.int y3), some (.int y4), some (.int (q_ou g y1 (60 : Int32)))]) (S' := []) (pc2 := 155) (L2 := [some (.ref 27), some (.int y1), some (.int y2), some (.int y3), some (.int y4), some (.int (q_ou g y1 (60 : Int32)))]) (S2 := []) rfl (fun _ => rfl) (fun hc => ?_) (fun hc => ?_)
      · have c8 := hc
        refine m_n 2 (pc' := 162) (L' := [some (.ref 27), some (.int y1), some (.int y2), some (.int y3), some (.int y4), some (.int (q_ou g y1 (60 : Int32)))]) (S' := [.ref 27, .int (q_ou g y1 (60 : Int32))]) (fun _ => rfl) ?_
        refine m_gR (q := 34) rfl (by decide) ?_
        refine m_n 1 (pc' := 166) (L' := [some (.ref 27), some (.int y1), some (.int y2), some (.int y3), some (.int y4), some (.int (q_ou g y1 (60 : Int32)))]) (S' := [.int y1, .ref 34, .int (q_ou g y1 (60 : Int32))]) (fun _ => rfl) ?_
        refine m_ia 6 rfl rfl (o9 c8) ?_
        refine m_n 1 (pc' := 168) (L' := [some (.ref 27), some (.int y1), some (.int y2), some (.int y3), some (.int y4), some (.int (q_ou g y1 (60 : Int32)))]) (S' := [.int (q_ou g y1 (60 : Int32) - (g 34 (z_ix y1)))]) (fun _ => rfl) ?_
        rw [(em10.trans (by rw [if_pos c8]) : m10 = (q_ou g y1 (60 : Int32) - (g 34 (z_ix y1))))] at hj11
        exact hj11
      · have c8 := hc
        refine m_n 2 (pc' := 168) (L' := [some (.ref 27), some (.int y1), some (.int y2), some (.int y3), some (.int y4), some (.int (q_ou g y1 (60 : Int32)))]) (S' := [.int (0 : Int32)]) (fun _ => rfl) ?_
        rw [(em10.trans (by rw [if_neg c8]) : m10 = (0 : Int32))] at hj11
        exact hj11
    rw [if_neg w6] at H
    by_cases w12 : y2 = (4 : Int32)
    · rw [if_pos w12] at H
      refine m_sw (pc' := 169) rfl (congrArg (z_tgt 95) (z_swN (k := (0 : Int32)) w2 rfl (z_swN (k := (1 : Int32)) w3 rfl (z_swN (k := (2 : Int32)) w4 rfl (z_swN (k := (3 : Int32)) w6 rfl (z_swT (k := (4 : Int32)) w12 rfl)))))) ?_
      refine m_n 2 (pc' := 171) (L' := [some (.ref 27), some (.int y1), some (.int y2), some (.int y3), some (.int y4), some (.int (q_ou g y1 (60 : Int32)))]) (S' := [.int y1, .ref 27]) (fun _ => rfl) ?_
      refine m_cI 205 2 rfl rfl rfl (A := [.ref 27, .int y1]) rfl rfl (Or.inr ⟨rfl, _, rfl⟩) (rest := []) rfl rfl rfl ?_
      obtain ⟨o13, H⟩ := H
      refine c_lateOf y1 g o13 ?_
      exact m_r rfl rfl rfl H
    rw [if_neg w12] at H
    by_cases w14 : y2 = (5 : Int32)
    · rw [if_pos w14] at H
      refine m_sw (pc' := 175) rfl (congrArg (z_tgt 95) (z_swN (k := (0 : Int32)) w2 rfl (z_swN (k := (1 : Int32)) w3 rfl (z_swN (k := (2 : Int32)) w4 rfl (z_swN (k := (3 : Int32)) w6 rfl (z_swN (k := (4 : Int32)) w12 rfl (z_swT (k := (5 : Int32)) w14 rfl))))))) ?_
      refine m_n 1 (pc' := 177) (L' := [some (.ref 27), some (.int y1), some (.int y2), some (.int y3), some (.int y4), some (.int (q_ou g y1 (60 : Int32)))]) (S' := [.int y4]) (fun _ => rfl) ?_
      exact m_r rfl rfl rfl H
    rw [if_neg w14] at H
    refine m_sw (pc' := 178) rfl (congrArg (z_tgt 95) (z_swN (k := (0 : Int32)) w2 rfl (z_swN (k := (1 : Int32)) w3 rfl (z_swN (k := (2 : Int32)) w4 rfl (z_swN (k := (3 : Int32)) w6 rfl (z_swN (k := (4 : Int32)) w12 rfl (z_swN (k := (5 : Int32)) w14 rfl rfl))))))) ?_
    refine m_n 1 (pc' := 179) (L' := [some (.ref 27), some (.int y1), some (.int y2), some (.int y3), some (.int y4), some (.int (q_ou g y1 (60 : Int32)))]) (S' := [.int (-1 : Int32)]) (fun _ => rfl) ?_
    exact m_r rfl rfl rfl H
  · have hc := hc
    rw [if_neg hc] at H
    refine m_n 2 (pc' := 29) (L' := [some (.ref 27), some (.int y1), some (.int y2), some (.int y3), some (.int y4), some (.int y5)]) (S' := [.ref 27, .int y3]) (fun _ => rfl) ?_
    refine m_gR (q := 70) rfl (by decide) ?_
    refine m_n 1 (pc' := 34) (L' := [some (.ref 27), some (.int y1), some (.int y2), some (.int y3), some (.int y4), some (.int y5)]) (S' := [.int y5, .ref 70, .int y3]) (fun _ => rfl) ?_
    obtain ⟨o15, H⟩ := H
    refine m_ia 60 rfl rfl o15 ?_
    refine m_n 1 (pc' := 36) (L' := [some (.ref 27), some (.int y1), some (.int y2), some (.int y3), some (.int y4), some (.int y5)]) (S' := [.int y1, .int (g 70 (z_ix y5)), .int y3]) (fun _ => rfl) ?_
    refine m_b (c := (g 70 (z_ix y5)) = y1) (pc' := 39) (L' := [some (.ref 27), some (.int y1), some (.int y2), some (.int y3), some (.int y4), some (.int y5)]) (S' := [.int y3]) (pc2 := 55) (L2 := [some (.ref 27), some (.int y1), some (.int y2), some (.int y3), some (.int y4), some (.int y5)]) (S2 := [.int y3]) rfl (fun _ => rfl) (fun hc => ?_) (fun hc => ?_)
    · have hc := hc
      rw [if_pos hc] at H
      refine m_n 3 (pc' := 43) (L' := [some (.ref 27), some (.int y1), some (.int y2), some (.int y3), some (.int y4), some (.int y5)]) (S' := [.ref 27, .int y5, .ref 27, .int y3]) (fun _ => rfl) ?_
      refine m_gR (q := 76) rfl (by decide) ?_
      refine m_n 1 (pc' := 48) (L' := [some (.ref 27), some (.int y1), some (.int y2), some (.int y3), some (.int y4), some (.int y5)]) (S' := [.int y5, .ref 76, .int y5, .ref 27, .int y3]) (fun _ => rfl) ?_
      obtain ⟨o16, H⟩ := H
      refine m_ia 60 rfl rfl o16 ?_
      refine m_cI 202 3 rfl rfl rfl (A := [.ref 27, .int y5, .int (g 76 (z_ix y5))]) rfl rfl (Or.inr ⟨rfl, _, rfl⟩) (rest := [.int y3]) rfl rfl rfl ?_
      obtain ⟨o17, H⟩ := H
      refine C_202 y5 (g 76 (z_ix y5)) g o17 ?_
      refine m_n 5 (pc' := 61) (L' := [some (.ref 27), some (.int y1), some (.int y2), some (.int (y3 + (v_202 y5 (g 76 (z_ix y5)) g))), some (.int y4), some (.int y5)]) (S' := [.ref 27, .int y4]) (fun _ => rfl) ?_
      refine m_gR (q := 70) rfl (by decide) ?_
      refine m_n 1 (pc' := 66) (L' := [some (.ref 27), some (.int y1), some (.int y2), some (.int (y3 + (v_202 y5 (g 76 (z_ix y5)) g))), some (.int y4), some (.int y5)]) (S' := [.int y5, .ref 70, .int y4]) (fun _ => rfl) ?_
      obtain ⟨o18, H⟩ := H
      refine m_ia 60 rfl rfl o18 ?_
      refine m_n 1 (pc' := 68) (L' := [some (.ref 27), some (.int y1), some (.int y2), some (.int (y3 + (v_202 y5 (g 76 (z_ix y5)) g))), some (.int y4), some (.int y5)]) (S' := [.int y1, .int (g 70 (z_ix y5)), .int y4]) (fun _ => rfl) ?_
      have hj20 : MG z_pI 207 76 [some (.ref 27), some (.int y1), some (.int y2), some (.int (y3 + (v_202 y5 (g 76 (z_ix y5)) g))), some (.int y4), some (.int y5)] [.int (z_bt ((g 70 (z_ix y5)) = y1)), .int y4] g Q := by
        refine m_n 4 (pc' := 18) (L' := [some (.ref 27), some (.int y1), some (.int y2), some (.int (y3 + (v_202 y5 (g 76 (z_ix y5)) g))), some (.int (y4 + z_bt ((g 70 (z_ix y5)) = y1))), some (.int (y5 + (1 : Int32)))]) (S' := []) (fun _ => rfl) ?_
        exact H
      refine m_b (c := (g 70 (z_ix y5)) = y1) (pc' := 71) (L' := [some (.ref 27), some (.int y1), some (.int y2), some (.int (y3 + (v_202 y5 (g 76 (z_ix y5)) g))), some (.int y4), some (.int y5)]) (S' := [.int y4]) (pc2 := 75) (L2 := [some (.ref 27), some (.int y1), some (.int y2), some (.int (y3 + (v_202 y5 (g 76 (z_ix y5)) g))), some (.int y4), some (.int y5)]) (S2 := [.int y4]) rfl (fun _ => rfl) (fun hc => ?_) (fun hc => ?_)
      · have c19 := hc
        refine m_n 2 (pc' := 76) (L' := [some (.ref 27), some (.int y1), some (.int y2), some (.int (y3 + (v_202 y5 (g 76 (z_ix y5)) g))), some (.int y4), some (.int y5)]) (S' := [.int (1 : Int32), .int y4]) (fun _ => rfl) ?_
        rw [show z_bt ((g 70 (z_ix y5)) = y1) = 1 from z_bt_1.mpr (c19)] at hj20
        exact hj20
      · have c19 := hc
        refine m_n 1 (pc' := 76) (L' := [some (.ref 27), some (.int y1), some (.int y2), some (.int (y3 + (v_202 y5 (g 76 (z_ix y5)) g))), some (.int y4), some (.int y5)]) (S' := [.int (0 : Int32), .int y4]) (fun _ => rfl) ?_
        rw [show z_bt ((g 70 (z_ix y5)) = y1) = 0 from z_bt_0.mpr (c19)] at hj20
        exact hj20
    · have hc := hc
      rw [if_neg hc] at H
      refine m_n 5 (pc' := 61) (L' := [some (.ref 27), some (.int y1), some (.int y2), some (.int (y3 + (0 : Int32))), some (.int y4), some (.int y5)]) (S' := [.ref 27, .int y4]) (fun _ => rfl) ?_
      refine m_gR (q := 70) rfl (by decide) ?_
      refine m_n 1 (pc' := 66) (L' := [some (.ref 27), some (.int y1), some (.int y2), some (.int (y3 + (0 : Int32))), some (.int y4), some (.int y5)]) (S' := [.int y5, .ref 70, .int y4]) (fun _ => rfl) ?_
      obtain ⟨o21, H⟩ := H
      refine m_ia 60 rfl rfl o21 ?_
      refine m_n 1 (pc' := 68) (L' := [some (.ref 27), some (.int y1), some (.int y2), some (.int (y3 + (0 : Int32))), some (.int y4), some (.int y5)]) (S' := [.int y1, .int (g 70 (z_ix y5)), .int y4]) (fun _ => rfl) ?_
      have hj23 : MG z_pI 207 76 [some (.ref 27), some (.int y1), some (.int y2), some (.int (y3 + (0 : Int32))), some (.int y4), some (.int y5)] [.int (z_bt ((g 70 (z_ix y5)) = y1)), .int y4] g Q := by
        refine m_n 4 (pc' := 18) (L' := [some (.ref 27), some (.int y1), some (.int y2), some (.int (y3 + (0 : Int32))), some (.int (y4 + z_bt ((g 70 (z_ix y5)) = y1))), some (.int (y5 + (1 : Int32)))]) (S' := []) (fun _ => rfl) ?_
        exact H
      refine m_b (c := (g 70 (z_ix y5)) = y1) (pc' := 71) (L' := [some (.ref 27), some (.int y1), some (.int y2), some (.int (y3 + (0 : Int32))), some (.int y4), some (.int y5)]) (S' := [.int y4]) (pc2 := 75) (L2 := [some (.ref 27), some (.int y1), some (.int y2), some (.int (y3 + (0 : Int32))), some (.int y4), some (.int y5)]) (S2 := [.int y4]) rfl (fun _ => rfl) (fun hc => ?_) (fun hc => ?_)
      · have c22 := hc
        refine m_n 2 (pc' := 76) (L' := [some (.ref 27), some (.int y1), some (.int y2), some (.int (y3 + (0 : Int32))), some (.int y4), some (.int y5)]) (S' := [.int (1 : Int32), .int y4]) (fun _ => rfl) ?_
        rw [show z_bt ((g 70 (z_ix y5)) = y1) = 1 from z_bt_1.mpr (c22)] at hj23
        exact hj23
      · have c22 := hc
        refine m_n 1 (pc' := 76) (L' := [some (.ref 27), some (.int y1), some (.int y2), some (.int (y3 + (0 : Int32))), some (.int y4), some (.int y5)]) (S' := [.int (0 : Int32), .int y4]) (fun _ => rfl) ?_
        rw [show z_bt ((g 70 (z_ix y5)) = y1) = 0 from z_bt_0.mpr (c22)] at hj23
        exact hj23
set_option maxRecDepth 20000 in
theorem X_208 (x1 : Int32) (x2 : Int32) (g : zG) {Q : Int32 → zG → Prop} (H : if (0 : Int32) ≤ x1 ∧ x1 ≤ ((g 27 1) - (1 : Int32)) then (if (0 : Int32) ≤ x2 ∧ x2 ≤ (60 : Int32) then ((So g) ∧ Q (q_ou g x1 x2) g) else (Q (-1 : Int32) g)) else (Q (-1 : Int32) g)) : MK z_pI 208 [.ref 27, .int x1, .int x2] g Q := by
  refine m_K (L := [some (.ref 27), some (.int x1), some (.int x2)]) rfl ?_
  refine m_n 2 (pc' := 2) (L' := [some (.ref 27), some (.int x1), some (.int x2)]) (S' := [.int x1, .ref 27]) (fun _ => rfl) ?_
  refine m_cI 163 2 rfl rfl rfl (A := [.ref 27, .int x1]) rfl rfl (Or.inr ⟨rfl, _, rfl⟩) (rest := []) rfl rfl rfl ?_
  refine X_163 x1 g ?_
  refine m_b (c := z_bt ((0 : Int32) ≤ x1 ∧ x1 ≤ ((g 27 1) - (1 : Int32))) = 0) (pc' := 29) (L' := [some (.ref 27), some (.int x1), some (.int x2)]) (S' := []) (pc2 := 8) (L2 := [some (.ref 27), some (.int x1), some (.int x2)]) (S2 := []) rfl (fun _ => rfl) (fun hc => ?_) (fun hc => ?_)
  · have hc := z_bt_0.mp hc
    rw [if_neg hc] at H
    refine m_n 1 (pc' := 30) (L' := [some (.ref 27), some (.int x1), some (.int x2)]) (S' := [.int (-1 : Int32)]) (fun _ => rfl) ?_
    exact m_r rfl rfl rfl H
  · have hc := Decidable.not_not.mp (fun q => hc (z_bt_0.mpr q))
    rw [if_pos hc] at H
    refine m_n 4 (pc' := 14) (L' := [some (.ref 27), some (.int x1), some (.int x2)]) (S' := [.long (60 : Int64), .long (0 : Int64), .long x2.toInt64]) (fun _ => rfl) ?_
    refine m_cI 161 3 rfl rfl rfl (A := [.long x2.toInt64, .long (0 : Int64), .long (60 : Int64)]) rfl rfl (Or.inl rfl) (rest := []) rfl rfl rfl ?_
    refine c_inJ x2 (0 : Int32) (60 : Int32) g rfl rfl rfl ?_
    refine m_b (c := z_bt ((0 : Int32) ≤ x2 ∧ x2 ≤ (60 : Int32)) = 0) (pc' := 29) (L' := [some (.ref 27), some (.int x1), some (.int x2)]) (S' := []) (pc2 := 20) (L2 := [some (.ref 27), some (.int x1), some (.int x2)]) (S2 := []) rfl (fun _ => rfl) (fun hc => ?_) (fun hc => ?_)
    · have hc := z_bt_0.mp hc
      rw [if_neg hc] at H
      refine m_n 1 (pc' := 30) (L' := [some (.ref 27), some (.int x1), some (.int x2)]) (S' := [.int (-1 : Int32)]) (fun _ => rfl) ?_
      exact m_r rfl rfl rfl H
    · have hc := Decidable.not_not.mp (fun q => hc (z_bt_0.mpr q))
      rw [if_pos hc] at H
      refine m_n 3 (pc' := 23) (L' := [some (.ref 27), some (.int x1), some (.int x2)]) (S' := [.int x2, .int x1, .ref 27]) (fun _ => rfl) ?_
      refine m_cI 204 3 rfl rfl rfl (A := [.ref 27, .int x1, .int x2]) rfl rfl (Or.inr ⟨rfl, _, rfl⟩) (rest := []) rfl rfl rfl ?_
      obtain ⟨o1, H⟩ := H
      refine c_owedUpTo x1 x2 g o1 ?_
      refine m_n 1 (pc' := 30) (L' := [some (.ref 27), some (.int x1), some (.int x2)]) (S' := [.int (q_ou g x1 x2)]) (fun _ => rfl) ?_
      exact m_r rfl rfl rfl H
set_option maxRecDepth 20000 in
theorem X_209 (x1 : Int32) (g : zG) {Q : Int32 → zG → Prop} (H : if (0 : Int32) ≤ x1 ∧ x1 ≤ ((g 27 1) - (1 : Int32)) then ((Cn g) ∧ (if s_no (q_wk g x1) = (-4 : Int32) then (Q (-2 : Int32) g) else ((0 ≤ (s_no (q_wk g x1)).toInt ∧ (s_no (q_wk g x1)).toInt < 12) ∧ (if (g 47 (z_ix (s_no (q_wk g x1)))) = (1 : Int32) then ((Sl g x1) ∧ (Cn g) ∧ (if q_hd g (2 : Int32) x1 (g 27 0) (3 : Int32) ≤ q_le g x1 then ((0 ≤ (s_no (q_wk g x1)).toInt ∧ (s_no (q_wk g x1)).toInt < 12) ∧ Q (s_no (q_wk g x1)) (z_up2 g 55 (z_ix (s_no (q_wk g x1))) (1 : Int32))) else (Q (-2 : Int32) g))) else (Q (-2 : Int32) g))))) else (Q (-1 : Int32) g)) : MK z_pI 209 [.ref 27, .int x1] g Q := by
  refine m_K (L := [some (.ref 27), some (.int x1), none]) rfl ?_
  refine m_n 2 (pc' := 2) (L' := [some (.ref 27), some (.int x1), none]) (S' := [.int x1, .ref 27]) (fun _ => rfl) ?_
  refine m_cI 163 2 rfl rfl rfl (A := [.ref 27, .int x1]) rfl rfl (Or.inr ⟨rfl, _, rfl⟩) (rest := []) rfl rfl rfl ?_
  refine X_163 x1 g ?_
  refine m_b (c := z_bt ((0 : Int32) ≤ x1 ∧ x1 ≤ ((g 27 1) - (1 : Int32))) = 0) (pc' := 8) (L' := [some (.ref 27), some (.int x1), none]) (S' := []) (pc2 := 10) (L2 := [some (.ref 27), some (.int x1), none]) (S2 := []) rfl (fun _ => rfl) (fun hc => ?_) (fun hc => ?_)
  · have hc := z_bt_0.mp hc
    rw [if_neg hc] at H
    refine m_n 1 (pc' := 9) (L' := [some (.ref 27), some (.int x1), none]) (S' := [.int (-1 : Int32)]) (fun _ => rfl) ?_
    exact m_r rfl rfl rfl H
  · have hc := Decidable.not_not.mp (fun q => hc (z_bt_0.mpr q))
    rw [if_pos hc] at H
    refine m_n 2 (pc' := 12) (L' := [some (.ref 27), some (.int x1), none]) (S' := [.int x1, .ref 27]) (fun _ => rfl) ?_
    refine m_cI 170 2 rfl rfl rfl (A := [.ref 27, .int x1]) rfl rfl (Or.inr ⟨rfl, _, rfl⟩) (rest := []) rfl rfl rfl ?_
    obtain ⟨o1, H⟩ := H
    refine c_working x1 g o1 ?_
    refine m_n 3 (pc' := 19) (L' := [some (.ref 27), some (.int x1), some (.int (s_no (q_wk g x1)))]) (S' := [.int (-4 : Int32), .int (s_no (q_wk g x1))]) (fun _ => rfl) ?_
    refine m_b (c := s_no (q_wk g x1) = (-4 : Int32)) (pc' := 51) (L' := [some (.ref 27), some (.int x1), some (.int (s_no (q_wk g x1)))]) (S' := []) (pc2 := 22) (L2 := [some (.ref 27), some (.int x1), some (.int (s_no (q_wk g x1)))]) (S2 := []) rfl (fun _ => rfl) (fun hc => ?_) (fun hc => ?_)
    · have hc := hc
      rw [if_pos hc] at H
      refine m_n 1 (pc' := 53) (L' := [some (.ref 27), some (.int x1), some (.int (s_no (q_wk g x1)))]) (S' := [.int (-2 : Int32)]) (fun _ => rfl) ?_
      exact m_r rfl rfl rfl H
    · have hc := hc
      rw [if_neg hc] at H
      refine m_n 1 (pc' := 23) (L' := [some (.ref 27), some (.int x1), some (.int (s_no (q_wk g x1)))]) (S' := [.ref 27]) (fun _ => rfl) ?_
      refine m_gR (q := 47) rfl (by decide) ?_
      refine m_n 1 (pc' := 27) (L' := [some (.ref 27), some (.int x1), some (.int (s_no (q_wk g x1)))]) (S' := [.int (s_no (q_wk g x1)), .ref 47]) (fun _ => rfl) ?_
      obtain ⟨o2, H⟩ := H
      refine m_ia 12 rfl rfl o2 ?_
      refine m_n 1 (pc' := 29) (L' := [some (.ref 27), some (.int x1), some (.int (s_no (q_wk g x1)))]) (S' := [.int (1 : Int32), .int (g 47 (z_ix (s_no (q_wk g x1))))]) (fun _ => rfl) ?_
      refine m_b (c := (g 47 (z_ix (s_no (q_wk g x1)))) = (1 : Int32)) (pc' := 32) (L' := [some (.ref 27), some (.int x1), some (.int (s_no (q_wk g x1)))]) (S' := []) (pc2 := 51) (L2 := [some (.ref 27), some (.int x1), some (.int (s_no (q_wk g x1)))]) (S2 := []) rfl (fun _ => rfl) (fun hc => ?_) (fun hc => ?_)
      · have hc := hc
        rw [if_pos hc] at H
        refine m_n 2 (pc' := 34) (L' := [some (.ref 27), some (.int x1), some (.int (s_no (q_wk g x1)))]) (S' := [.int x1, .ref 27]) (fun _ => rfl) ?_
        refine m_cI 205 2 rfl rfl rfl (A := [.ref 27, .int x1]) rfl rfl (Or.inr ⟨rfl, _, rfl⟩) (rest := []) rfl rfl rfl ?_
        obtain ⟨o3, H⟩ := H
        refine c_lateOf x1 g o3 ?_
        refine m_n 4 (pc' := 41) (L' := [some (.ref 27), some (.int x1), some (.int (s_no (q_wk g x1)))]) (S' := [.ref 27, .int x1, .int (2 : Int32), .ref 27, .int (q_le g x1)]) (fun _ => rfl) ?_
        refine m_gI rfl ?_
        refine m_n 1 (pc' := 45) (L' := [some (.ref 27), some (.int x1), some (.int (s_no (q_wk g x1)))]) (S' := [.int (3 : Int32), .int (g 27 0), .int x1, .int (2 : Int32), .ref 27, .int (q_le g x1)]) (fun _ => rfl) ?_
        refine m_cI 198 5 rfl rfl rfl (A := [.ref 27, .int (2 : Int32), .int x1, .int (g 27 0), .int (3 : Int32)]) rfl rfl (Or.inr ⟨rfl, _, rfl⟩) (rest := [.int (q_le g x1)]) rfl rfl rfl ?_
        obtain ⟨o4, H⟩ := H
        refine c_holds (2 : Int32) x1 (g 27 0) (3 : Int32) g o4 ?_
        refine m_b (c := q_hd g (2 : Int32) x1 (g 27 0) (3 : Int32) ≤ q_le g x1) (pc' := 54) (L' := [some (.ref 27), some (.int x1), some (.int (s_no (q_wk g x1)))]) (S' := []) (pc2 := 51) (L2 := [some (.ref 27), some (.int x1), some (.int (s_no (q_wk g x1)))]) (S2 := []) rfl (fun _ => rfl) (fun hc => ?_) (fun hc => ?_)
        · have hc := hc
          rw [if_pos hc] at H
          refine m_n 1 (pc' := 55) (L' := [some (.ref 27), some (.int x1), some (.int (s_no (q_wk g x1)))]) (S' := [.ref 27]) (fun _ => rfl) ?_
          refine m_gR (q := 55) rfl (by decide) ?_
          refine m_n 2 (pc' := 60) (L' := [some (.ref 27), some (.int x1), some (.int (s_no (q_wk g x1)))]) (S' := [.int (1 : Int32), .int (s_no (q_wk g x1)), .ref 55]) (fun _ => rfl) ?_
          obtain ⟨o5, H⟩ := H
          refine m_zs 12 rfl rfl rfl o5 (by decide) ?_
          refine m_n 1 (pc' := 62) (L' := [some (.ref 27), some (.int x1), some (.int (s_no (q_wk g x1)))]) (S' := [.int (s_no (q_wk g x1))]) (fun _ => rfl) ?_
          exact m_r rfl rfl rfl H
        · have hc := hc
          rw [if_neg hc] at H
          refine m_n 1 (pc' := 53) (L' := [some (.ref 27), some (.int x1), some (.int (s_no (q_wk g x1)))]) (S' := [.int (-2 : Int32)]) (fun _ => rfl) ?_
          exact m_r rfl rfl rfl H
      · have hc := hc
        rw [if_neg hc] at H
        refine m_n 1 (pc' := 53) (L' := [some (.ref 27), some (.int x1), some (.int (s_no (q_wk g x1)))]) (S' := [.int (-2 : Int32)]) (fun _ => rfl) ?_
        exact m_r rfl rfl rfl H
set_option maxRecDepth 20000 in
theorem X_210 (x1 : Int32) (g : zG) {Q : Int32 → zG → Prop} (H : if (0 : Int32) ≤ x1 ∧ x1 ≤ ((g 27 20) - (1 : Int32)) then ((0 ≤ x1.toInt ∧ x1.toInt < 12) ∧ (0 ≤ x1.toInt ∧ x1.toInt < 12) ∧ (if (g 55 (z_ix x1)) = 0 then (Q (-2 : Int32) g) else ((Cn g) ∧ (if s_no (q_lt g (g 46 (z_ix x1))) = x1 then ((So g) ∧ (0 ≤ (g 46 (z_ix x1)).toInt ∧ (g 46 (z_ix x1)).toInt < 6) ∧ (if q_ou g (g 46 (z_ix x1)) (60 : Int32) ≤ (g 34 (z_ix (g 46 (z_ix x1)))) then ((0 ≤ x1.toInt ∧ x1.toInt < 12) ∧ Q (1 : Int32) (z_up2 g 55 (z_ix x1) (0 : Int32))) else (Q (-2 : Int32) g))) else (Q (-2 : Int32) g))))) else (Q (-1 : Int32) g)) : MK z_pI 210 [.ref 27, .int x1] g Q := by
  refine m_K (L := [some (.ref 27), some (.int x1), none]) rfl ?_
  refine m_n 2 (pc' := 2) (L' := [some (.ref 27), some (.int x1), none]) (S' := [.int x1, .ref 27]) (fun _ => rfl) ?_
  refine m_cI 164 2 rfl rfl rfl (A := [.ref 27, .int x1]) rfl rfl (Or.inr ⟨rfl, _, rfl⟩) (rest := []) rfl rfl rfl ?_
  refine X_164 x1 g ?_
  refine m_b (c := z_bt ((0 : Int32) ≤ x1 ∧ x1 ≤ ((g 27 20) - (1 : Int32))) = 0) (pc' := 8) (L' := [some (.ref 27), some (.int x1), none]) (S' := []) (pc2 := 10) (L2 := [some (.ref 27), some (.int x1), none]) (S2 := []) rfl (fun _ => rfl) (fun hc => ?_) (fun hc => ?_)
  · have hc := z_bt_0.mp hc
    rw [if_neg hc] at H
    refine m_n 1 (pc' := 9) (L' := [some (.ref 27), some (.int x1), none]) (S' := [.int (-1 : Int32)]) (fun _ => rfl) ?_
    exact m_r rfl rfl rfl H
  · have hc := Decidable.not_not.mp (fun q => hc (z_bt_0.mpr q))
    rw [if_pos hc] at H
    refine m_n 1 (pc' := 11) (L' := [some (.ref 27), some (.int x1), none]) (S' := [.ref 27]) (fun _ => rfl) ?_
    refine m_gR (q := 46) rfl (by decide) ?_
    refine m_n 1 (pc' := 15) (L' := [some (.ref 27), some (.int x1), none]) (S' := [.int x1, .ref 46]) (fun _ => rfl) ?_
    obtain ⟨o1, H⟩ := H
    refine m_ia 12 rfl rfl o1 ?_
    refine m_n 2 (pc' := 18) (L' := [some (.ref 27), some (.int x1), some (.int (g 46 (z_ix x1)))]) (S' := [.ref 27]) (fun _ => rfl) ?_
    refine m_gR (q := 55) rfl (by decide) ?_
    refine m_n 1 (pc' := 22) (L' := [some (.ref 27), some (.int x1), some (.int (g 46 (z_ix x1)))]) (S' := [.int x1, .ref 55]) (fun _ => rfl) ?_
    obtain ⟨o2, H⟩ := H
    refine m_za 12 rfl rfl o2 ?_
    refine m_b (c := (g 55 (z_ix x1)) = 0) (pc' := 51) (L' := [some (.ref 27), some (.int x1), some (.int (g 46 (z_ix x1)))]) (S' := []) (pc2 := 26) (L2 := [some (.ref 27), some (.int x1), some (.int (g 46 (z_ix x1)))]) (S2 := []) rfl (fun _ => rfl) (fun hc => ?_) (fun hc => ?_)
    · have hc := hc
      rw [if_pos hc] at H
      refine m_n 1 (pc' := 53) (L' := [some (.ref 27), some (.int x1), some (.int (g 46 (z_ix x1)))]) (S' := [.int (-2 : Int32)]) (fun _ => rfl) ?_
      exact m_r rfl rfl rfl H
    · have hc := hc
      rw [if_neg hc] at H
      refine m_n 2 (pc' := 28) (L' := [some (.ref 27), some (.int x1), some (.int (g 46 (z_ix x1)))]) (S' := [.int (g 46 (z_ix x1)), .ref 27]) (fun _ => rfl) ?_
      refine m_cI 169 2 rfl rfl rfl (A := [.ref 27, .int (g 46 (z_ix x1))]) rfl rfl (Or.inr ⟨rfl, _, rfl⟩) (rest := []) rfl rfl rfl ?_
      obtain ⟨o3, H⟩ := H
      refine c_latest (g 46 (z_ix x1)) g o3 ?_
      refine m_n 1 (pc' := 32) (L' := [some (.ref 27), some (.int x1), some (.int (g 46 (z_ix x1)))]) (S' := [.int x1, .int (s_no (q_lt g (g 46 (z_ix x1))))]) (fun _ => rfl) ?_
      refine m_b (c := s_no (q_lt g (g 46 (z_ix x1))) = x1) (pc' := 35) (L' := [some (.ref 27), some (.int x1), some (.int (g 46 (z_ix x1)))]) (S' := []) (pc2 := 51) (L2 := [some (.ref 27), some (.int x1), some (.int (g 46 (z_ix x1)))]) (S2 := []) rfl (fun _ => rfl) (fun hc => ?_) (fun hc => ?_)
      · have hc := hc
        rw [if_pos hc] at H
        refine m_n 3 (pc' := 39) (L' := [some (.ref 27), some (.int x1), some (.int (g 46 (z_ix x1)))]) (S' := [.int (60 : Int32), .int (g 46 (z_ix x1)), .ref 27]) (fun _ => rfl) ?_
        refine m_cI 204 3 rfl rfl rfl (A := [.ref 27, .int (g 46 (z_ix x1)), .int (60 : Int32)]) rfl rfl (Or.inr ⟨rfl, _, rfl⟩) (rest := []) rfl rfl rfl ?_
        obtain ⟨o4, H⟩ := H
        refine c_owedUpTo (g 46 (z_ix x1)) (60 : Int32) g o4 ?_
        refine m_n 1 (pc' := 43) (L' := [some (.ref 27), some (.int x1), some (.int (g 46 (z_ix x1)))]) (S' := [.ref 27, .int (q_ou g (g 46 (z_ix x1)) (60 : Int32))]) (fun _ => rfl) ?_
        refine m_gR (q := 34) rfl (by decide) ?_
        refine m_n 1 (pc' := 47) (L' := [some (.ref 27), some (.int x1), some (.int (g 46 (z_ix x1)))]) (S' := [.int (g 46 (z_ix x1)), .ref 34, .int (q_ou g (g 46 (z_ix x1)) (60 : Int32))]) (fun _ => rfl) ?_
        obtain ⟨o5, H⟩ := H
        refine m_ia 6 rfl rfl o5 ?_
        refine m_b (c := q_ou g (g 46 (z_ix x1)) (60 : Int32) ≤ (g 34 (z_ix (g 46 (z_ix x1))))) (pc' := 54) (L' := [some (.ref 27), some (.int x1), some (.int (g 46 (z_ix x1)))]) (S' := []) (pc2 := 51) (L2 := [some (.ref 27), some (.int x1), some (.int (g 46 (z_ix x1)))]) (S2 := []) rfl (fun _ => rfl) (fun hc => ?_) (fun hc => ?_)
        · have hc := hc
          rw [if_pos hc] at H
          refine m_n 1 (pc' := 55) (L' := [some (.ref 27), some (.int x1), some (.int (g 46 (z_ix x1)))]) (S' := [.ref 27]) (fun _ => rfl) ?_
          refine m_gR (q := 55) rfl (by decide) ?_
          refine m_n 2 (pc' := 60) (L' := [some (.ref 27), some (.int x1), some (.int (g 46 (z_ix x1)))]) (S' := [.int (0 : Int32), .int x1, .ref 55]) (fun _ => rfl) ?_
          obtain ⟨o6, H⟩ := H
          refine m_zs 12 rfl rfl rfl o6 (by decide) ?_
          refine m_n 1 (pc' := 62) (L' := [some (.ref 27), some (.int x1), some (.int (g 46 (z_ix x1)))]) (S' := [.int (1 : Int32)]) (fun _ => rfl) ?_
          exact m_r rfl rfl rfl H
        · have hc := hc
          rw [if_neg hc] at H
          refine m_n 1 (pc' := 53) (L' := [some (.ref 27), some (.int x1), some (.int (g 46 (z_ix x1)))]) (S' := [.int (-2 : Int32)]) (fun _ => rfl) ?_
          exact m_r rfl rfl rfl H
      · have hc := hc
        rw [if_neg hc] at H
        refine m_n 1 (pc' := 53) (L' := [some (.ref 27), some (.int x1), some (.int (g 46 (z_ix x1)))]) (S' := [.int (-2 : Int32)]) (fun _ => rfl) ?_
        exact m_r rfl rfl rfl H
set_option maxRecDepth 20000 in
theorem X_212 (x1 : Int32) (x2 : Int32) (x3 : Int32) (g : zG) {Q : Int32 → zG → Prop} (H : if (0 : Int32) ≤ x1 ∧ x1 ≤ ((g 27 20) - (1 : Int32)) then (if (0 : Int32) ≤ x2 ∧ x2 ≤ (60 : Int32) then (if (0 : Int32) ≤ x3 ∧ x3 ≤ (1 : Int32) then ((Cn g) ∧ (0 ≤ x1.toInt ∧ x1.toInt < 12) ∧ (if x3 = 0 then (Q (q_tp g x2 &&& (g 51 (z_ix x1))) g) else ((Cn g) ∧ (0 ≤ x1.toInt ∧ x1.toInt < 12) ∧ Q (z_bt (((g 47 (z_ix x1)) = (2 : Int32)) ∧ (((q_wi g x2 = 0) ∧ (¬ (q_tp g x2 = 0) ∧ ((q_tp g x2 &&& (g 51 (z_ix x1))) = q_tp g x2))) ∨ (¬ (q_wi g x2 = 0) ∧ (¬ ((q_tp g x2 &&& (g 51 (z_ix x1))) = 0)))))) g))) else (Q (-1 : Int32) g)) else (Q (-1 : Int32) g)) else (Q (-1 : Int32) g)) : MK z_pI 212 [.ref 27, .int x1, .int x2, .int x3] g Q := by
  refine m_K (L := [some (.ref 27), some (.int x1), some (.int x2), some (.int x3), none, none, none]) rfl ?_
  refine m_n 2 (pc' := 2) (L' := [some (.ref 27), some (.int x1), some (.int x2), some (.int x3), none, none, none]) (S' := [.int x1, .ref 27]) (fun _ => rfl) ?_
  refine m_cI 164 2 rfl rfl rfl (A := [.ref 27, .int x1]) rfl rfl (Or.inr ⟨rfl, _, rfl⟩) (rest := []) rfl rfl rfl ?_
  refine X_164 x1 g ?_
  refine m_b (c := z_bt ((0 : Int32) ≤ x1 ∧ x1 ≤ ((g 27 20) - (1 : Int32))) = 0) (pc' := 30) (L' := [some (.ref 27), some (.int x1), some (.int x2), some (.int x3), none, none, none]) (S' := []) (pc2 := 8) (L2 := [some (.ref 27), some (.int x1), some (.int x2), some (.int x3), none, none, none]) (S2 := []) rfl (fun _ => rfl) (fun hc => ?_) (fun hc => ?_)
  · have hc := z_bt_0.mp hc
    rw [if_neg hc] at H
    refine m_n 1 (pc' := 31) (L' := [some (.ref 27), some (.int x1), some (.int x2), some (.int x3), none, none, none]) (S' := [.int (-1 : Int32)]) (fun _ => rfl) ?_
    exact m_r rfl rfl rfl H
  · have hc := Decidable.not_not.mp (fun q => hc (z_bt_0.mpr q))
    rw [if_pos hc] at H
    refine m_n 4 (pc' := 14) (L' := [some (.ref 27), some (.int x1), some (.int x2), some (.int x3), none, none, none]) (S' := [.long (60 : Int64), .long (0 : Int64), .long x2.toInt64]) (fun _ => rfl) ?_
    refine m_cI 161 3 rfl rfl rfl (A := [.long x2.toInt64, .long (0 : Int64), .long (60 : Int64)]) rfl rfl (Or.inl rfl) (rest := []) rfl rfl rfl ?_
    refine c_inJ x2 (0 : Int32) (60 : Int32) g rfl rfl rfl ?_
    refine m_b (c := z_bt ((0 : Int32) ≤ x2 ∧ x2 ≤ (60 : Int32)) = 0) (pc' := 30) (L' := [some (.ref 27), some (.int x1), some (.int x2), some (.int x3), none, none, none]) (S' := []) (pc2 := 20) (L2 := [some (.ref 27), some (.int x1), some (.int x2), some (.int x3), none, none, none]) (S2 := []) rfl (fun _ => rfl) (fun hc => ?_) (fun hc => ?_)
    · have hc := z_bt_0.mp hc
      rw [if_neg hc] at H
      refine m_n 1 (pc' := 31) (L' := [some (.ref 27), some (.int x1), some (.int x2), some (.int x3), none, none, none]) (S' := [.int (-1 : Int32)]) (fun _ => rfl) ?_
      exact m_r rfl rfl rfl H
    · have hc := Decidable.not_not.mp (fun q => hc (z_bt_0.mpr q))
      rw [if_pos hc] at H
      refine m_n 4 (pc' := 24) (L' := [some (.ref 27), some (.int x1), some (.int x2), some (.int x3), none, none, none]) (S' := [.long (1 : Int64), .long (0 : Int64), .long x3.toInt64]) (fun _ => rfl) ?_
      refine m_cI 161 3 rfl rfl rfl (A := [.long x3.toInt64, .long (0 : Int64), .long (1 : Int64)]) rfl rfl (Or.inl rfl) (rest := []) rfl rfl rfl ?_
      refine c_inJ x3 (0 : Int32) (1 : Int32) g rfl rfl rfl ?_
      refine m_b (c := z_bt ((0 : Int32) ≤ x3 ∧ x3 ≤ (1 : Int32)) = 0) (pc' := 30) (L' := [some (.ref 27), some (.int x1), some (.int x2), some (.int x3), none, none, none]) (S' := []) (pc2 := 32) (L2 := [some (.ref 27), some (.int x1), some (.int x2), some (.int x3), none, none, none]) (S2 := []) rfl (fun _ => rfl) (fun hc => ?_) (fun hc => ?_)
      · have hc := z_bt_0.mp hc
        rw [if_neg hc] at H
        refine m_n 1 (pc' := 31) (L' := [some (.ref 27), some (.int x1), some (.int x2), some (.int x3), none, none, none]) (S' := [.int (-1 : Int32)]) (fun _ => rfl) ?_
        exact m_r rfl rfl rfl H
      · have hc := Decidable.not_not.mp (fun q => hc (z_bt_0.mpr q))
        rw [if_pos hc] at H
        refine m_n 2 (pc' := 34) (L' := [some (.ref 27), some (.int x1), some (.int x2), some (.int x3), none, none, none]) (S' := [.int x2, .ref 27]) (fun _ => rfl) ?_
        refine m_cI 211 2 rfl rfl rfl (A := [.ref 27, .int x2]) rfl rfl (Or.inr ⟨rfl, _, rfl⟩) (rest := []) rfl rfl rfl ?_
        obtain ⟨o1, H⟩ := H
        refine c_theirParts x2 g o1 ?_
        refine m_n 3 (pc' := 42) (L' := [some (.ref 27), some (.int x1), some (.int x2), some (.int x3), some (.int (q_tp g x2)), none, none]) (S' := [.ref 27, .int (q_tp g x2)]) (fun _ => rfl) ?_
        refine m_gR (q := 51) rfl (by decide) ?_
        refine m_n 1 (pc' := 46) (L' := [some (.ref 27), some (.int x1), some (.int x2), some (.int x3), some (.int (q_tp g x2)), none, none]) (S' := [.int x1, .ref 51, .int (q_tp g x2)]) (fun _ => rfl) ?_
        obtain ⟨o2, H⟩ := H
        refine m_ia 12 rfl rfl o2 ?_
        refine m_n 3 (pc' := 51) (L' := [some (.ref 27), some (.int x1), some (.int x2), some (.int x3), some (.int (q_tp g x2)), some (.int (q_tp g x2 &&& (g 51 (z_ix x1)))), none]) (S' := [.int x3]) (fun _ => rfl) ?_
        refine m_b (c := x3 = 0) (pc' := 54) (L' := [some (.ref 27), some (.int x1), some (.int x2), some (.int x3), some (.int (q_tp g x2)), some (.int (q_tp g x2 &&& (g 51 (z_ix x1)))), none]) (S' := []) (pc2 := 57) (L2 := [some (.ref 27), some (.int x1), some (.int x2), some (.int x3), some (.int (q_tp g x2)), some (.int (q_tp g x2 &&& (g 51 (z_ix x1)))), none]) (S2 := []) rfl (fun _ => rfl) (fun hc => ?_) (fun hc => ?_)
        · have hc := hc
          rw [if_pos hc] at H
          refine m_n 1 (pc' := 56) (L' := [some (.ref 27), some (.int x1), some (.int x2), some (.int x3), some (.int (q_tp g x2)), some (.int (q_tp g x2 &&& (g 51 (z_ix x1)))), none]) (S' := [.int (q_tp g x2 &&& (g 51 (z_ix x1)))]) (fun _ => rfl) ?_
          exact m_r rfl rfl rfl H
        · have hc := hc
          rw [if_neg hc] at H
          refine m_n 2 (pc' := 59) (L' := [some (.ref 27), some (.int x1), some (.int x2), some (.int x3), some (.int (q_tp g x2)), some (.int (q_tp g x2 &&& (g 51 (z_ix x1)))), none]) (S' := [.int x2, .ref 27]) (fun _ => rfl) ?_
          refine m_cI 199 2 rfl rfl rfl (A := [.ref 27, .int x2]) rfl rfl (Or.inr ⟨rfl, _, rfl⟩) (rest := []) rfl rfl rfl ?_
          obtain ⟨o3, H⟩ := H
          refine c_isWide x2 g o3 ?_
          have hj8 : MG z_pI 212 95 [some (.ref 27), some (.int x1), some (.int x2), some (.int x3), some (.int (q_tp g x2)), some (.int (q_tp g x2 &&& (g 51 (z_ix x1)))), none] [.int (z_bt (((q_wi g x2 = 0) ∧ (¬ (q_tp g x2 = 0) ∧ ((q_tp g x2 &&& (g 51 (z_ix x1))) = q_tp g x2))) ∨ (¬ (q_wi g x2 = 0) ∧ (¬ ((q_tp g x2 &&& (g 51 (z_ix x1))) = 0)))))] g Q := by
            refine m_n 2 (pc' := 98) (L' := [some (.ref 27), some (.int x1), some (.int x2), some (.int x3), some (.int (q_tp g x2)), some (.int (q_tp g x2 &&& (g 51 (z_ix x1)))), some (.int (z_bt (((q_wi g x2 = 0) ∧ (¬ (q_tp g x2 = 0) ∧ ((q_tp g x2 &&& (g 51 (z_ix x1))) = q_tp g x2))) ∨ (¬ (q_wi g x2 = 0) ∧ (¬ ((q_tp g x2 &&& (g 51 (z_ix x1))) = 0))))))]) (S' := [.ref 27]) (fun _ => rfl) ?_
            refine m_gR (q := 47) rfl (by decide) ?_
            refine m_n 1 (pc' := 102) (L' := [some (.ref 27), some (.int x1), some (.int x2), some (.int x3), some (.int (q_tp g x2)), some (.int (q_tp g x2 &&& (g 51 (z_ix x1)))), some (.int (z_bt (((q_wi g x2 = 0) ∧ (¬ (q_tp g x2 = 0) ∧ ((q_tp g x2 &&& (g 51 (z_ix x1))) = q_tp g x2))) ∨ (¬ (q_wi g x2 = 0) ∧ (¬ ((q_tp g x2 &&& (g 51 (z_ix x1))) = 0))))))]) (S' := [.int x1, .ref 47]) (fun _ => rfl) ?_
            obtain ⟨o9, H⟩ := H
            refine m_ia 12 rfl rfl o9 ?_
            refine m_n 1 (pc' := 104) (L' := [some (.ref 27), some (.int x1), some (.int x2), some (.int x3), some (.int (q_tp g x2)), some (.int (q_tp g x2 &&& (g 51 (z_ix x1)))), some (.int (z_bt (((q_wi g x2 = 0) ∧ (¬ (q_tp g x2 = 0) ∧ ((q_tp g x2 &&& (g 51 (z_ix x1))) = q_tp g x2))) ∨ (¬ (q_wi g x2 = 0) ∧ (¬ ((q_tp g x2 &&& (g 51 (z_ix x1))) = 0))))))]) (S' := [.int (2 : Int32), .int (g 47 (z_ix x1))]) (fun _ => rfl) ?_
            have hj12 : MG z_pI 212 117 [some (.ref 27), some (.int x1), some (.int x2), some (.int x3), some (.int (q_tp g x2)), some (.int (q_tp g x2 &&& (g 51 (z_ix x1)))), some (.int (z_bt (((q_wi g x2 = 0) ∧ (¬ (q_tp g x2 = 0) ∧ ((q_tp g x2 &&& (g 51 (z_ix x1))) = q_tp g x2))) ∨ (¬ (q_wi g x2 = 0) ∧ (¬ ((q_tp g x2 &&& (g 51 (z_ix x1))) = 0))))))] [.int (z_bt (((g 47 (z_ix x1)) = (2 : Int32)) ∧ (((q_wi g x2 = 0) ∧ (¬ (q_tp g x2 = 0) ∧ ((q_tp g x2 &&& (g 51 (z_ix x1))) = q_tp g x2))) ∨ (¬ (q_wi g x2 = 0) ∧ (¬ ((q_tp g x2 &&& (g 51 (z_ix x1))) = 0))))))] g Q := by
              exact m_r rfl rfl rfl H
            refine m_b (c := (g 47 (z_ix x1)) = (2 : Int32)) (pc' := 107) (L' := [some (.ref 27), some (.int x1), some (.int x2), some (.int x3), some (.int (q_tp g x2)), some (.int (q_tp g x2 &&& (g 51 (z_ix x1)))), some (.int (z_bt (((q_wi g x2 = 0) ∧ (¬ (q_tp g x2 = 0) ∧ ((q_tp g x2 &&& (g 51 (z_ix x1))) = q_tp g x2))) ∨ (¬ (q_wi g x2 = 0) ∧ (¬ ((q_tp g x2 &&& (g 51 (z_ix x1))) = 0))))))]) (S' := []) (pc2 := 116) (L2 := [some (.ref 27), some (.int x1), some (.int x2), some (.int x3), some (.int (q_tp g x2)), some (.int (q_tp g x2 &&& (g 51 (z_ix x1)))), some (.int (z_bt (((q_wi g x2 = 0) ∧ (¬ (q_tp g x2 = 0) ∧ ((q_tp g x2 &&& (g 51 (z_ix x1))) = q_tp g x2))) ∨ (¬ (q_wi g x2 = 0) ∧ (¬ ((q_tp g x2 &&& (g 51 (z_ix x1))) = 0))))))]) (S2 := []) rfl (fun _ => rfl) (fun hc => ?_) (fun hc => ?_)
            · have c10 := hc
              refine m_n 1 (pc' := 109) (L' := [some (.ref 27), some (.int x1), some (.int x2), some (.int x3), some (.int (q_tp g x2)), some (.int (q_tp g x2 &&& (g 51 (z_ix x1)))), some (.int (z_bt (((q_wi g x2 = 0) ∧ (¬ (q_tp g x2 = 0) ∧ ((q_tp g x2 &&& (g 51 (z_ix x1))) = q_tp g x2))) ∨ (¬ (q_wi g x2 = 0) ∧ (¬ ((q_tp g x2 &&& (g 51 (z_ix x1))) = 0))))))]) (S' := [.int (z_bt (((q_wi g x2 = 0) ∧ (¬ (q_tp g x2 = 0) ∧ ((q_tp g x2 &&& (g 51 (z_ix x1))) = q_tp g x2))) ∨ (¬ (q_wi g x2 = 0) ∧ (¬ ((q_tp g x2 &&& (g 51 (z_ix x1))) = 0)))))]) (fun _ => rfl) ?_
              refine m_b (c := z_bt (((q_wi g x2 = 0) ∧ (¬ (q_tp g x2 = 0) ∧ ((q_tp g x2 &&& (g 51 (z_ix x1))) = q_tp g x2))) ∨ (¬ (q_wi g x2 = 0) ∧ (¬ ((q_tp g x2 &&& (g 51 (z_ix x1))) = 0)))) = 0) (pc' := 116) (L' := [some (.ref 27), some (.int x1), some (.int x2), some (.int x3), some (.int (q_tp g x2)), some (.int (q_tp g x2 &&& (g 51 (z_ix x1)))), some (.int (z_bt (((q_wi g x2 = 0) ∧ (¬ (q_tp g x2 = 0) ∧ ((q_tp g x2 &&& (g 51 (z_ix x1))) = q_tp g x2))) ∨ (¬ (q_wi g x2 = 0) ∧ (¬ ((q_tp g x2 &&& (g 51 (z_ix x1))) = 0))))))]) (S' := []) (pc2 := 112) (L2 := [some (.ref 27), some (.int x1), some (.int x2), some (.int x3), some (.int (q_tp g x2)), some (.int (q_tp g x2 &&& (g 51 (z_ix x1)))), some (.int (z_bt (((q_wi g x2 = 0) ∧ (¬ (q_tp g x2 = 0) ∧ ((q_tp g x2 &&& (g 51 (z_ix x1))) = q_tp g x2))) ∨ (¬ (q_wi g x2 = 0) ∧ (¬ ((q_tp g x2 &&& (g 51 (z_ix x1))) = 0))))))]) (S2 := []) rfl (fun _ => rfl) (fun hc => ?_) (fun hc => ?_)
              · have c11 := z_bt_0.mp hc
                refine m_n 1 (pc' := 117) (L' := [some (.ref 27), some (.int x1), some (.int x2), some (.int x3), some (.int (q_tp g x2)), some (.int (q_tp g x2 &&& (g 51 (z_ix x1)))), some (.int (z_bt (((q_wi g x2 = 0) ∧ (¬ (q_tp g x2 = 0) ∧ ((q_tp g x2 &&& (g 51 (z_ix x1))) = q_tp g x2))) ∨ (¬ (q_wi g x2 = 0) ∧ (¬ ((q_tp g x2 &&& (g 51 (z_ix x1))) = 0))))))]) (S' := [.int (0 : Int32)]) (fun _ => rfl) ?_
                rw [show z_bt (((g 47 (z_ix x1)) = (2 : Int32)) ∧ (((q_wi g x2 = 0) ∧ (¬ (q_tp g x2 = 0) ∧ ((q_tp g x2 &&& (g 51 (z_ix x1))) = q_tp g x2))) ∨ (¬ (q_wi g x2 = 0) ∧ (¬ ((q_tp g x2 &&& (g 51 (z_ix x1))) = 0))))) = 0 from z_bt_0.mpr ((fun q => c11 q.2))] at hj12
                exact hj12
              · have c11 := Decidable.not_not.mp (fun q => hc (z_bt_0.mpr q))
                refine m_n 2 (pc' := 117) (L' := [some (.ref 27), some (.int x1), some (.int x2), some (.int x3), some (.int (q_tp g x2)), some (.int (q_tp g x2 &&& (g 51 (z_ix x1)))), some (.int (z_bt (((q_wi g x2 = 0) ∧ (¬ (q_tp g x2 = 0) ∧ ((q_tp g x2 &&& (g 51 (z_ix x1))) = q_tp g x2))) ∨ (¬ (q_wi g x2 = 0) ∧ (¬ ((q_tp g x2 &&& (g 51 (z_ix x1))) = 0))))))]) (S' := [.int (1 : Int32)]) (fun _ => rfl) ?_
                rw [show z_bt (((g 47 (z_ix x1)) = (2 : Int32)) ∧ (((q_wi g x2 = 0) ∧ (¬ (q_tp g x2 = 0) ∧ ((q_tp g x2 &&& (g 51 (z_ix x1))) = q_tp g x2))) ∨ (¬ (q_wi g x2 = 0) ∧ (¬ ((q_tp g x2 &&& (g 51 (z_ix x1))) = 0))))) = 1 from z_bt_1.mpr (⟨c10, c11⟩)] at hj12
                exact hj12
            · have c10 := hc
              refine m_n 1 (pc' := 117) (L' := [some (.ref 27), some (.int x1), some (.int x2), some (.int x3), some (.int (q_tp g x2)), some (.int (q_tp g x2 &&& (g 51 (z_ix x1)))), some (.int (z_bt (((q_wi g x2 = 0) ∧ (¬ (q_tp g x2 = 0) ∧ ((q_tp g x2 &&& (g 51 (z_ix x1))) = q_tp g x2))) ∨ (¬ (q_wi g x2 = 0) ∧ (¬ ((q_tp g x2 &&& (g 51 (z_ix x1))) = 0))))))]) (S' := [.int (0 : Int32)]) (fun _ => rfl) ?_
              rw [show z_bt (((g 47 (z_ix x1)) = (2 : Int32)) ∧ (((q_wi g x2 = 0) ∧ (¬ (q_tp g x2 = 0) ∧ ((q_tp g x2 &&& (g 51 (z_ix x1))) = q_tp g x2))) ∨ (¬ (q_wi g x2 = 0) ∧ (¬ ((q_tp g x2 &&& (g 51 (z_ix x1))) = 0))))) = 0 from z_bt_0.mpr ((fun q => c10 q.1))] at hj12
              exact hj12
          refine m_b (c := q_wi g x2 = 0) (pc' := 78) (L' := [some (.ref 27), some (.int x1), some (.int x2), some (.int x3), some (.int (q_tp g x2)), some (.int (q_tp g x2 &&& (g 51 (z_ix x1)))), none]) (S' := []) (pc2 := 65) (L2 := [some (.ref 27), some (.int x1), some (.int x2), some (.int x3), some (.int (q_tp g x2)), some (.int (q_tp g x2 &&& (g 51 (z_ix x1)))), none]) (S2 := []) rfl (fun _ => rfl) (fun hc => ?_) (fun hc => ?_)
          · have c4 := hc
            refine m_n 1 (pc' := 80) (L' := [some (.ref 27), some (.int x1), some (.int x2), some (.int x3), some (.int (q_tp g x2)), some (.int (q_tp g x2 &&& (g 51 (z_ix x1)))), none]) (S' := [.int (q_tp g x2)]) (fun _ => rfl) ?_
            refine m_b (c := q_tp g x2 = 0) (pc' := 94) (L' := [some (.ref 27), some (.int x1), some (.int x2), some (.int x3), some (.int (q_tp g x2)), some (.int (q_tp g x2 &&& (g 51 (z_ix x1)))), none]) (S' := []) (pc2 := 83) (L2 := [some (.ref 27), some (.int x1), some (.int x2), some (.int x3), some (.int (q_tp g x2)), some (.int (q_tp g x2 &&& (g 51 (z_ix x1)))), none]) (S2 := []) rfl (fun _ => rfl) (fun hc => ?_) (fun hc => ?_)
            · have c5 := hc
              refine m_n 1 (pc' := 95) (L' := [some (.ref 27), some (.int x1), some (.int x2), some (.int x3), some (.int (q_tp g x2)), some (.int (q_tp g x2 &&& (g 51 (z_ix x1)))), none]) (S' := [.int (0 : Int32)]) (fun _ => rfl) ?_
              rw [show z_bt (((q_wi g x2 = 0) ∧ (¬ (q_tp g x2 = 0) ∧ ((q_tp g x2 &&& (g 51 (z_ix x1))) = q_tp g x2))) ∨ (¬ (q_wi g x2 = 0) ∧ (¬ ((q_tp g x2 &&& (g 51 (z_ix x1))) = 0)))) = 0 from z_bt_0.mpr ((fun z => z.elim (fun q => (fun q => q.1 c5) q.2) (fun q => q.1 c4)))] at hj8
              exact hj8
            · have c5 := hc
              refine m_n 2 (pc' := 87) (L' := [some (.ref 27), some (.int x1), some (.int x2), some (.int x3), some (.int (q_tp g x2)), some (.int (q_tp g x2 &&& (g 51 (z_ix x1)))), none]) (S' := [.int (q_tp g x2), .int (q_tp g x2 &&& (g 51 (z_ix x1)))]) (fun _ => rfl) ?_
              refine m_b (c := (q_tp g x2 &&& (g 51 (z_ix x1))) = q_tp g x2) (pc' := 90) (L' := [some (.ref 27), some (.int x1), some (.int x2), some (.int x3), some (.int (q_tp g x2)), some (.int (q_tp g x2 &&& (g 51 (z_ix x1)))), none]) (S' := []) (pc2 := 94) (L2 := [some (.ref 27), some (.int x1), some (.int x2), some (.int x3), some (.int (q_tp g x2)), some (.int (q_tp g x2 &&& (g 51 (z_ix x1)))), none]) (S2 := []) rfl (fun _ => rfl) (fun hc => ?_) (fun hc => ?_)
              · have c6 := hc
                refine m_n 2 (pc' := 95) (L' := [some (.ref 27), some (.int x1), some (.int x2), some (.int x3), some (.int (q_tp g x2)), some (.int (q_tp g x2 &&& (g 51 (z_ix x1)))), none]) (S' := [.int (1 : Int32)]) (fun _ => rfl) ?_
                rw [show z_bt (((q_wi g x2 = 0) ∧ (¬ (q_tp g x2 = 0) ∧ ((q_tp g x2 &&& (g 51 (z_ix x1))) = q_tp g x2))) ∨ (¬ (q_wi g x2 = 0) ∧ (¬ ((q_tp g x2 &&& (g 51 (z_ix x1))) = 0)))) = 1 from z_bt_1.mpr ((Or.inl ⟨c4, ⟨c5, c6⟩⟩))] at hj8
                exact hj8
              · have c6 := hc
                refine m_n 1 (pc' := 95) (L' := [some (.ref 27), some (.int x1), some (.int x2), some (.int x3), some (.int (q_tp g x2)), some (.int (q_tp g x2 &&& (g 51 (z_ix x1)))), none]) (S' := [.int (0 : Int32)]) (fun _ => rfl) ?_
                rw [show z_bt (((q_wi g x2 = 0) ∧ (¬ (q_tp g x2 = 0) ∧ ((q_tp g x2 &&& (g 51 (z_ix x1))) = q_tp g x2))) ∨ (¬ (q_wi g x2 = 0) ∧ (¬ ((q_tp g x2 &&& (g 51 (z_ix x1))) = 0)))) = 0 from z_bt_0.mpr ((fun z => z.elim (fun q => (fun q => c6 q.2) q.2) (fun q => q.1 c4)))] at hj8
                exact hj8
          · have c4 := hc
            refine m_n 1 (pc' := 67) (L' := [some (.ref 27), some (.int x1), some (.int x2), some (.int x3), some (.int (q_tp g x2)), some (.int (q_tp g x2 &&& (g 51 (z_ix x1)))), none]) (S' := [.int (q_tp g x2 &&& (g 51 (z_ix x1)))]) (fun _ => rfl) ?_
            refine m_b (c := (q_tp g x2 &&& (g 51 (z_ix x1))) = 0) (pc' := 74) (L' := [some (.ref 27), some (.int x1), some (.int x2), some (.int x3), some (.int (q_tp g x2)), some (.int (q_tp g x2 &&& (g 51 (z_ix x1)))), none]) (S' := []) (pc2 := 70) (L2 := [some (.ref 27), some (.int x1), some (.int x2), some (.int x3), some (.int (q_tp g x2)), some (.int (q_tp g x2 &&& (g 51 (z_ix x1)))), none]) (S2 := []) rfl (fun _ => rfl) (fun hc => ?_) (fun hc => ?_)
            · have c7 := hc
              refine m_n 2 (pc' := 95) (L' := [some (.ref 27), some (.int x1), some (.int x2), some (.int x3), some (.int (q_tp g x2)), some (.int (q_tp g x2 &&& (g 51 (z_ix x1)))), none]) (S' := [.int (0 : Int32)]) (fun _ => rfl) ?_
              rw [show z_bt (((q_wi g x2 = 0) ∧ (¬ (q_tp g x2 = 0) ∧ ((q_tp g x2 &&& (g 51 (z_ix x1))) = q_tp g x2))) ∨ (¬ (q_wi g x2 = 0) ∧ (¬ ((q_tp g x2 &&& (g 51 (z_ix x1))) = 0)))) = 0 from z_bt_0.mpr ((fun z => z.elim (fun q => c4 q.1) (fun q => (fun q => q c7) q.2)))] at hj8
              exact hj8
            · have c7 := hc
              refine m_n 2 (pc' := 95) (L' := [some (.ref 27), some (.int x1), some (.int x2), some (.int x3), some (.int (q_tp g x2)), some (.int (q_tp g x2 &&& (g 51 (z_ix x1)))), none]) (S' := [.int (1 : Int32)]) (fun _ => rfl) ?_
              rw [show z_bt (((q_wi g x2 = 0) ∧ (¬ (q_tp g x2 = 0) ∧ ((q_tp g x2 &&& (g 51 (z_ix x1))) = q_tp g x2))) ∨ (¬ (q_wi g x2 = 0) ∧ (¬ ((q_tp g x2 &&& (g 51 (z_ix x1))) = 0)))) = 1 from z_bt_1.mpr ((Or.inr ⟨c4, c7⟩))] at hj8
              exact hj8
