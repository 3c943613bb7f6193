set_option maxRecDepth 20000 in
theorem X_100 (x1 : Int32) (x2 : Int32) (x3 : Int32) (h : zH) (W : CW h)  {Q : Int32 → zH → Prop} (H : ∃ v1 : Option Nat, KV z_pA 148 [.ref 0, .int x1] h v1 ∧ (∀ b_, v1 = some b_ → z_tg h b_ = 4) ∧ ((v1 = none → Q (-1 : Int32) h) ∧ (∀ b5, v1 = some b5 → if (0 : Int32) ≤ x2 ∧ x2 ≤ (11 : Int32) then (if (0 : Int32) ≤ x3 ∧ x3 ≤ (999 : Int32) then ((0 ≤ x2.toInt ∧ x2.toInt < 12) ∧ (0 ≤ x2.toInt ∧ x2.toInt < 12) ∧ Q (z_iv h (b5 + 1) (z_ix x2)) (z_sI h (b5 + 1) (z_ix x2) x3)) else (Q (-1 : Int32) h)) else (Q (-1 : Int32) h)))) : KK z_pI 100 [.ref 0, .int x1, .int x2, .int x3] h Q := by
  refine k_K (L := [some (.ref 0), some (.int x1), some (.int x2), some (.int x3), none, none]) rfl ?_
  refine k_n 2 (pc' := 2) (L' := [some (.ref 0), some (.int x1), some (.int x2), some (.int x3), none, none]) (S' := [.int x1, .ref 0]) (h' := h) rfl ?_
  refine k_cA 148 2 "SavedThird$Mine" rfl rfl rfl (A := [.ref 0, .int x1]) rfl rfl (z_rok_ref W.t0) (rest := []) rfl rfl (by decide) ?_
  obtain ⟨v1, k2, tv3, H⟩ := H
  refine k_P k2 ?_
  obtain hb4 | ⟨b5, hb4⟩ := z_opt (v1)
  · have H := H.1 hb4
    refine k_oN hb4 ?_
    refine k_n 4 (pc' := 30) (L' := [some (.ref 0), some (.int x1), some (.int x2), some (.int x3), some (.null), none]) (S' := [.int (-1 : Int32)]) (h' := h) rfl ?_
    exact k_r rfl rfl rfl H
  · have H := H.2 b5 hb4
    have t6 : z_tg h b5 = 4 := tv3 _ hb4
    refine k_oS hb4 ?_
    refine k_n 6 (pc' := 16) (L' := [some (.ref 0), some (.int x1), some (.int x2), some (.int x3), some (.ref b5), none]) (S' := [.int (11 : Int32), .int (0 : Int32), .int x2]) (h' := h) rfl ?_
    refine k_cI 135 3 rfl rfl rfl (A := [.int x2, .int (0 : Int32), .int (11 : Int32)]) rfl rfl rfl (rest := []) rfl (z_tyI rfl rfl) ?_
    refine c_within x2 (0 : Int32) (11 : Int32) h ?_
    refine k_b (g := z_bt ((0 : Int32) ≤ x2 ∧ x2 ≤ (11 : Int32)) = 0) (pc' := 29) (L' := [some (.ref 0), some (.int x1), some (.int x2), some (.int x3), some (.ref b5), none]) (S' := []) (pc2 := 22) (L2 := [some (.ref 0), some (.int x1), some (.int x2), some (.int x3), some (.ref b5), none]) (S2 := []) (h' := h) (h2 := h) rfl rfl (fun hc => ?_) (fun hc => ?_)
    · have hc := z_bt_0.mp hc
      rw [if_neg hc] at H
      refine k_n 1 (pc' := 30) (L' := [some (.ref 0), some (.int x1), some (.int x2), some (.int x3), some (.ref b5), none]) (S' := [.int (-1 : Int32)]) (h' := h) rfl ?_
      exact k_r rfl rfl rfl H
    · have hc := Decidable.not_not.mp (fun q => hc (z_bt_0.mpr q))
      rw [if_pos hc] at H
      refine k_n 1 (pc' := 23) (L' := [some (.ref 0), some (.int x1), some (.int x2), some (.int x3), some (.ref b5), none]) (S' := [.int x3]) (h' := h) rfl ?_
      refine k_cI 140 1 rfl rfl rfl (A := [.int x3]) rfl rfl rfl (rest := []) rfl (z_tyI rfl rfl) ?_
      refine C_140 x3 h    ?_
      refine k_b (g := z_bt ((0 : Int32) ≤ x3 ∧ x3 ≤ (999 : Int32)) = 0) (pc' := 29) (L' := [some (.ref 0), some (.int x1), some (.int x2), some (.int x3), some (.ref b5), none]) (S' := []) (pc2 := 31) (L2 := [some (.ref 0), some (.int x1), some (.int x2), some (.int x3), some (.ref b5), none]) (S2 := []) (h' := h) (h2 := h) rfl rfl (fun hc => ?_) (fun hc => ?_)
      · have hc := z_bt_0.mp hc
        rw [if_neg hc] at H
        refine k_n 1 (pc' := 30) (L' := [some (.ref 0), some (.int x1), some (.int x2), some (.int x3), some (.ref b5), none]) (S' := [.int (-1 : Int32)]) (h' := h) rfl ?_
        exact k_r rfl rfl rfl H
      · have hc := Decidable.not_not.mp (fun q => hc (z_bt_0.mpr q))
        rw [if_pos hc] at H
        refine k_n 1 (pc' := 33) (L' := [some (.ref 0), some (.int x1), some (.int x2), some (.int x3), some (.ref b5), none]) (S' := [.ref b5]) (h' := h) rfl ?_
        refine k_gS (b := (b5 + 1)) rfl t6 (W.reOf (t := 4) (j := 2) (o := 1) (n := 12) (by decide) t6).1 ?_
        refine k_n 1 (pc' := 37) (L' := [some (.ref 0), some (.int x1), some (.int x2), some (.int x3), some (.ref b5), none]) (S' := [.int x2, .ref (b5 + 1)]) (h' := h) rfl ?_
        obtain ⟨o7, H⟩ := H
        refine k_ia (c := 0) (n := 12) rfl (CW.tyOf (t := 4) (t' := 100) W (j := 2) t6 (W.reOf (t := 4) (j := 2) (o := 1) (n := 12) (by decide) t6).1 (by decide) rfl) (W.reOf (t := 4) (j := 2) (o := 1) (n := 12) (by decide) t6).2 o7 ?_
        refine k_n 2 (pc' := 42) (L' := [some (.ref 0), some (.int x1), some (.int x2), some (.int x3), some (.ref b5), some (.int (z_iv h (b5 + 1) (z_ix x2)))]) (S' := [.ref b5]) (h' := h) rfl ?_
        refine k_gS (b := (b5 + 1)) rfl t6 (W.reOf (t := 4) (j := 2) (o := 1) (n := 12) (by decide) t6).1 ?_
        refine k_n 2 (pc' := 47) (L' := [some (.ref 0), some (.int x1), some (.int x2), some (.int x3), some (.ref b5), some (.int (z_iv h (b5 + 1) (z_ix x2)))]) (S' := [.int x3, .int x2, .ref (b5 + 1)]) (h' := h) rfl ?_
        obtain ⟨o8, H⟩ := H
        refine k_is (n := 12) rfl (CW.tyOf (t := 4) (t' := 100) W (j := 2) t6 (W.reOf (t := 4) (j := 2) (o := 1) (n := 12) (by decide) t6).1 (by decide) rfl) (W.reOf (t := 4) (j := 2) (o := 1) (n := 12) (by decide) t6).2 o8 ?_
        refine k_n 1 (pc' := 50) (L' := [some (.ref 0), some (.int x1), some (.int x2), some (.int x3), some (.ref b5), some (.int (z_iv h (b5 + 1) (z_ix x2)))]) (S' := [.int (z_iv h (b5 + 1) (z_ix x2))]) (h' := (z_sI h (b5 + 1) (z_ix x2) x3)) rfl ?_
        exact k_r rfl rfl rfl H
set_option maxRecDepth 20000 in
theorem X_101 (x1 : Int32) (x2 : Int32) (x3 : Int32) (h : zH) (W : CW h)  {Q : Int32 → zH → Prop} (H : ∃ v1 : Option Nat, KV z_pA 148 [.ref 0, .int x1] h v1 ∧ (∀ b_, v1 = some b_ → z_tg h b_ = 4) ∧ ((v1 = none → Q (-1 : Int32) h) ∧ (∀ b5, v1 = some b5 → if x2 = 0 then (if (1 : Int32) ≤ x3 ∧ x3 ≤ (300 : Int32) then (Q (z_iv h b5 5) (z_sI h b5 5 x3)) else (if x2 = (1 : Int32) then (if (1 : Int32) ≤ x3 ∧ x3 ≤ (99 : Int32) then (Q (z_iv h b5 6) (z_sI h b5 6 x3)) else (Q (-1 : Int32) h)) else (Q (-1 : Int32) h))) else (if x2 = (1 : Int32) then (if (1 : Int32) ≤ x3 ∧ x3 ≤ (99 : Int32) then (Q (z_iv h b5 6) (z_sI h b5 6 x3)) else (Q (-1 : Int32) h)) else (Q (-1 : Int32) h))))) : KK z_pI 101 [.ref 0, .int x1, .int x2, .int x3] h Q := by
  refine k_K (L := [some (.ref 0), some (.int x1), some (.int x2), some (.int x3), none, none]) rfl ?_
  refine k_n 2 (pc' := 2) (L' := [some (.ref 0), some (.int x1), some (.int x2), some (.int x3), none, none]) (S' := [.int x1, .ref 0]) (h' := h) rfl ?_
  refine k_cA 148 2 "SavedThird$Mine" rfl rfl rfl (A := [.ref 0, .int x1]) rfl rfl (z_rok_ref W.t0) (rest := []) rfl rfl (by decide) ?_
  obtain ⟨v1, k2, tv3, H⟩ := H
  refine k_P k2 ?_
  obtain hb4 | ⟨b5, hb4⟩ := z_opt (v1)
  · have H := H.1 hb4
    refine k_oN hb4 ?_
    refine k_n 4 (pc' := 13) (L' := [some (.ref 0), some (.int x1), some (.int x2), some (.int x3), some (.null), none]) (S' := [.int (-1 : Int32)]) (h' := h) rfl ?_
    exact k_r rfl rfl rfl H
  · have H := H.2 b5 hb4
    have t6 : z_tg h b5 = 4 := tv3 _ hb4
    refine k_oS hb4 ?_
    refine k_n 4 (pc' := 15) (L' := [some (.ref 0), some (.int x1), some (.int x2), some (.int x3), some (.ref b5), none]) (S' := [.int x2]) (h' := h) rfl ?_
    refine k_b (g := x2 = 0) (pc' := 18) (L' := [some (.ref 0), some (.int x1), some (.int x2), some (.int x3), some (.ref b5), none]) (S' := []) (pc2 := 41) (L2 := [some (.ref 0), some (.int x1), some (.int x2), some (.int x3), some (.ref b5), none]) (S2 := []) (h' := h) (h2 := h) rfl rfl (fun hc => ?_) (fun hc => ?_)
    · have hc := hc
      rw [if_pos hc] at H
      refine k_n 1 (pc' := 19) (L' := [some (.ref 0), some (.int x1), some (.int x2), some (.int x3), some (.ref b5), none]) (S' := [.int x3]) (h' := h) rfl ?_
      refine k_cI 136 1 rfl rfl rfl (A := [.int x3]) rfl rfl rfl (rest := []) rfl (z_tyI rfl rfl) ?_
      refine C_136 x3 h    ?_
      refine k_b (g := z_bt ((1 : Int32) ≤ x3 ∧ x3 ≤ (300 : Int32)) = 0) (pc' := 41) (L' := [some (.ref 0), some (.int x1), some (.int x2), some (.int x3), some (.ref b5), none]) (S' := []) (pc2 := 25) (L2 := [some (.ref 0), some (.int x1), some (.int x2), some (.int x3), some (.ref b5), none]) (S2 := []) (h' := h) (h2 := h) rfl rfl (fun hc => ?_) (fun hc => ?_)
      · have hc := z_bt_0.mp hc
        rw [if_neg hc] at H
        refine k_n 2 (pc' := 43) (L' := [some (.ref 0), some (.int x1), some (.int x2), some (.int x3), some (.ref b5), none]) (S' := [.int (1 : Int32), .int x2]) (h' := h) rfl ?_
        refine k_b (g := x2 = (1 : Int32)) (pc' := 46) (L' := [some (.ref 0), some (.int x1), some (.int x2), some (.int x3), some (.ref b5), none]) (S' := []) (pc2 := 69) (L2 := [some (.ref 0), some (.int x1), some (.int x2), some (.int x3), some (.ref b5), none]) (S2 := []) (h' := h) (h2 := h) rfl rfl (fun hc => ?_) (fun hc => ?_)
        · have hc := hc
          rw [if_pos hc] at H
          refine k_n 1 (pc' := 47) (L' := [some (.ref 0), some (.int x1), some (.int x2), some (.int x3), some (.ref b5), none]) (S' := [.int x3]) (h' := h) rfl ?_
          refine k_cI 137 1 rfl rfl rfl (A := [.int x3]) rfl rfl rfl (rest := []) rfl (z_tyI rfl rfl) ?_
          refine C_137 x3 h    ?_
          refine k_b (g := z_bt ((1 : Int32) ≤ x3 ∧ x3 ≤ (99 : Int32)) = 0) (pc' := 69) (L' := [some (.ref 0), some (.int x1), some (.int x2), some (.int x3), some (.ref b5), none]) (S' := []) (pc2 := 53) (L2 := [some (.ref 0), some (.int x1), some (.int x2), some (.int x3), some (.ref b5), none]) (S2 := []) (h' := h) (h2 := h) rfl rfl (fun hc => ?_) (fun hc => ?_)
          · have hc := z_bt_0.mp hc
            rw [if_neg hc] at H
            refine k_n 1 (pc' := 70) (L' := [some (.ref 0), some (.int x1), some (.int x2), some (.int x3), some (.ref b5), none]) (S' := [.int (-1 : Int32)]) (h' := h) rfl ?_
            exact k_r rfl rfl rfl H
          · have hc := Decidable.not_not.mp (fun q => hc (z_bt_0.mpr q))
            rw [if_pos hc] at H
            refine k_n 1 (pc' := 55) (L' := [some (.ref 0), some (.int x1), some (.int x2), some (.int x3), some (.ref b5), none]) (S' := [.ref b5]) (h' := h) rfl ?_
            refine k_gI rfl rfl t6 ?_
            refine k_n 3 (pc' := 63) (L' := [some (.ref 0), some (.int x1), some (.int x2), some (.int x3), some (.ref b5), some (.int (z_iv h b5 6))]) (S' := [.int x3, .ref b5]) (h' := h) rfl ?_
            refine k_pI rfl t6 ?_
            refine k_n 1 (pc' := 68) (L' := [some (.ref 0), some (.int x1), some (.int x2), some (.int x3), some (.ref b5), some (.int (z_iv h b5 6))]) (S' := [.int (z_iv h b5 6)]) (h' := (z_sI h b5 6 x3)) rfl ?_
            exact k_r rfl rfl rfl H
        · have hc := hc
          rw [if_neg hc] at H
          refine k_n 1 (pc' := 70) (L' := [some (.ref 0), some (.int x1), some (.int x2), some (.int x3), some (.ref b5), none]) (S' := [.int (-1 : Int32)]) (h' := h) rfl ?_
          exact k_r rfl rfl rfl H
      · have hc := Decidable.not_not.mp (fun q => hc (z_bt_0.mpr q))
        rw [if_pos hc] at H
        refine k_n 1 (pc' := 27) (L' := [some (.ref 0), some (.int x1), some (.int x2), some (.int x3), some (.ref b5), none]) (S' := [.ref b5]) (h' := h) rfl ?_
        refine k_gI rfl rfl t6 ?_
        refine k_n 3 (pc' := 35) (L' := [some (.ref 0), some (.int x1), some (.int x2), some (.int x3), some (.ref b5), some (.int (z_iv h b5 5))]) (S' := [.int x3, .ref b5]) (h' := h) rfl ?_
        refine k_pI rfl t6 ?_
        refine k_n 1 (pc' := 40) (L' := [some (.ref 0), some (.int x1), some (.int x2), some (.int x3), some (.ref b5), some (.int (z_iv h b5 5))]) (S' := [.int (z_iv h b5 5)]) (h' := (z_sI h b5 5 x3)) rfl ?_
        exact k_r rfl rfl rfl H
    · have hc := hc
      rw [if_neg hc] at H
      refine k_n 2 (pc' := 43) (L' := [some (.ref 0), some (.int x1), some (.int x2), some (.int x3), some (.ref b5), none]) (S' := [.int (1 : Int32), .int x2]) (h' := h) rfl ?_
      refine k_b (g := x2 = (1 : Int32)) (pc' := 46) (L' := [some (.ref 0), some (.int x1), some (.int x2), some (.int x3), some (.ref b5), none]) (S' := []) (pc2 := 69) (L2 := [some (.ref 0), some (.int x1), some (.int x2), some (.int x3), some (.ref b5), none]) (S2 := []) (h' := h) (h2 := h) rfl rfl (fun hc => ?_) (fun hc => ?_)
      · have hc := hc
        rw [if_pos hc] at H
        refine k_n 1 (pc' := 47) (L' := [some (.ref 0), some (.int x1), some (.int x2), some (.int x3), some (.ref b5), none]) (S' := [.int x3]) (h' := h) rfl ?_
        refine k_cI 137 1 rfl rfl rfl (A := [.int x3]) rfl rfl rfl (rest := []) rfl (z_tyI rfl rfl) ?_
        refine C_137 x3 h    ?_
        refine k_b (g := z_bt ((1 : Int32) ≤ x3 ∧ x3 ≤ (99 : Int32)) = 0) (pc' := 69) (L' := [some (.ref 0), some (.int x1), some (.int x2), some (.int x3), some (.ref b5), none]) (S' := []) (pc2 := 53) (L2 := [some (.ref 0), some (.int x1), some (.int x2), some (.int x3), some (.ref b5), none]) (S2 := []) (h' := h) (h2 := h) rfl rfl (fun hc => ?_) (fun hc => ?_)
        · have hc := z_bt_0.mp hc
          rw [if_neg hc] at H
          refine k_n 1 (pc' := 70) (L' := [some (.ref 0), some (.int x1), some (.int x2), some (.int x3), some (.ref b5), none]) (S' := [.int (-1 : Int32)]) (h' := h) rfl ?_
          exact k_r rfl rfl rfl H
        · have hc := Decidable.not_not.mp (fun q => hc (z_bt_0.mpr q))
          rw [if_pos hc] at H
          refine k_n 1 (pc' := 55) (L' := [some (.ref 0), some (.int x1), some (.int x2), some (.int x3), some (.ref b5), none]) (S' := [.ref b5]) (h' := h) rfl ?_
          refine k_gI rfl rfl t6 ?_
          refine k_n 3 (pc' := 63) (L' := [some (.ref 0), some (.int x1), some (.int x2), some (.int x3), some (.ref b5), some (.int (z_iv h b5 6))]) (S' := [.int x3, .ref b5]) (h' := h) rfl ?_
          refine k_pI rfl t6 ?_
          refine k_n 1 (pc' := 68) (L' := [some (.ref 0), some (.int x1), some (.int x2), some (.int x3), some (.ref b5), some (.int (z_iv h b5 6))]) (S' := [.int (z_iv h b5 6)]) (h' := (z_sI h b5 6 x3)) rfl ?_
          exact k_r rfl rfl rfl H
      · have hc := hc
        rw [if_neg hc] at H
        refine k_n 1 (pc' := 70) (L' := [some (.ref 0), some (.int x1), some (.int x2), some (.int x3), some (.ref b5), none]) (S' := [.int (-1 : Int32)]) (h' := h) rfl ?_
        exact k_r rfl rfl rfl H
set_option maxRecDepth 20000 in
theorem X_103 (x1 : Int32) (x2 : Int32) (h : zH) (W : CW h)  {Q : Int32 → zH → Prop} (H : ∃ v1 : Option Nat, KV z_pA 149 [.ref 0, .int x1] h v1 ∧ (∀ b_, v1 = some b_ → z_tg h b_ = 3) ∧ ((v1 = none → Q (-1 : Int32) h) ∧ (∀ b5, v1 = some b5 → if x2 = (0 : Int32) then (Q (z_iv h b5 5) h) else (if x2 = (1 : Int32) then (Q (z_iv h b5 0) h) else (if x2 = (2 : Int32) then (Q (z_iv h b5 1) h) else (if x2 = (3 : Int32) then (Q (z_iv h b5 2) h) else (if x2 = (4 : Int32) then (Q (z_iv h b5 3) h) else (if x2 = (5 : Int32) then (Q (z_iv h b5 4) h) else (if x2 = (6 : Int32) then (Q (z_iv h b5 7) h) else (if x2 = (7 : Int32) then (Q (z_iv h b5 8) h) else (if x2 = (8 : Int32) then (Q (z_bt (¬ ((z_iv h b5 9) = 0))) h) else (if x2 = (9 : Int32) then (∃ v17 : Int32, KV z_pI 151 [.ref 0, .ref b5] h v17 ∧ Q (z_bt (¬ (v17 = 0))) h) else (if x2 = (10 : Int32) then (Q (z_bt (¬ ((z_iv h b5 10) = 0))) h) else (if x2 = (11 : Int32) then (Q (z_iv h b5 11) h) else (if x2 = (12 : Int32) then (Q (z_iv h b5 12) h) else (Q (-1 : Int32) h)))))))))))))))) : KK z_pI 103 [.ref 0, .int x1, .int x2] h Q := by
  refine k_K (L := [some (.ref 0), some (.int x1), some (.int x2), none]) rfl ?_
  refine k_n 2 (pc' := 2) (L' := [some (.ref 0), some (.int x1), some (.int x2), none]) (S' := [.int x1, .ref 0]) (h' := h) rfl ?_
  refine k_cA 149 2 "SavedThird$Engine" rfl rfl rfl (A := [.ref 0, .int x1]) rfl rfl (z_rok_ref W.t0) (rest := []) rfl rfl (by decide) ?_
  obtain ⟨v1, k2, tv3, H⟩ := H
  refine k_P k2 ?_
  obtain hb4 | ⟨b5, hb4⟩ := z_opt (v1)
  · have H := H.1 hb4
    refine k_oN hb4 ?_
    refine k_n 4 (pc' := 11) (L' := [some (.ref 0), some (.int x1), some (.int x2), some (.null)]) (S' := [.int (-1 : Int32)]) (h' := h) rfl ?_
    exact k_r rfl rfl rfl H
  · have H := H.2 b5 hb4
    have t6 : z_tg h b5 = 3 := tv3 _ hb4
    refine k_oS hb4 ?_
    refine k_n 4 (pc' := 13) (L' := [some (.ref 0), some (.int x1), some (.int x2), some (.ref b5)]) (S' := [.int x2]) (h' := h) rfl ?_
    by_cases w7 : x2 = (0 : Int32)
    · rw [if_pos w7] at H
      refine k_sw (pc' := 80) rfl (congrArg (z_tgt 13) (z_swT (k := (0 : Int32)) w7 rfl)) ?_
      refine k_n 1 (pc' := 81) (L' := [some (.ref 0), some (.int x1), some (.int x2), some (.ref b5)]) (S' := [.ref b5]) (h' := h) rfl ?_
      refine k_gI rfl rfl t6 ?_
      exact k_r rfl rfl rfl H
    rw [if_neg w7] at H
    by_cases w8 : x2 = (1 : Int32)
    · rw [if_pos w8] at H
      refine k_sw (pc' := 85) rfl (congrArg (z_tgt 13) (z_swN (k := (0 : Int32)) w7 rfl (z_swT (k := (1 : Int32)) w8 rfl))) ?_
      refine k_n 1 (pc' := 86) (L' := [some (.ref 0), some (.int x1), some (.int x2), some (.ref b5)]) (S' := [.ref b5]) (h' := h) rfl ?_
      refine k_gI rfl rfl t6 ?_
      exact k_r rfl rfl rfl H
    rw [if_neg w8] at H
    by_cases w9 : x2 = (2 : Int32)
    · rw [if_pos w9] at H
      refine k_sw (pc' := 90) rfl (congrArg (z_tgt 13) (z_swN (k := (0 : Int32)) w7 rfl (z_swN (k := (1 : Int32)) w8 rfl (z_swT (k := (2 : Int32)) w9 rfl)))) ?_
      refine k_n 1 (pc' := 91) (L' := [some (.ref 0), some (.int x1), some (.int x2), some (.ref b5)]) (S' := [.ref b5]) (h' := h) rfl ?_
      refine k_gI rfl rfl t6 ?_
      exact k_r rfl rfl rfl H
    rw [if_neg w9] at H
    by_cases w10 : x2 = (3 : Int32)
    · rw [if_pos w10] at H
      refine k_sw (pc' := 95) rfl (congrArg (z_tgt 13) (z_swN (k := (0 : Int32)) w7 rfl (z_swN (k := (1 : Int32)) w8 rfl (z_swN (k := (2 : Int32)) w9 rfl (z_swT (k := (3 : Int32)) w10 rfl))))) ?_
      refine k_n 1 (pc' := 96) (L' := [some (.ref 0), some (.int x1), some (.int x2), some (.ref b5)]) (S' := [.ref b5]) (h' := h) rfl ?_
      refine k_gI rfl rfl t6 ?_
      exact k_r rfl rfl rfl H
    rw [if_neg w10] at H
    by_cases w11 : x2 = (4 : Int32)
    · rw [if_pos w11] at H
      refine k_sw (pc' := 100) rfl (congrArg (z_tgt 13) (z_swN (k := (0 : Int32)) w7 rfl (z_swN (k := (1 : Int32)) w8 rfl (z_swN (k := (2 : Int32)) w9 rfl (z_swN (k := (3 : Int32)) w10 rfl (z_swT (k := (4 : Int32)) w11 rfl)))))) ?_
      refine k_n 1 (pc' := 101) (L' := [some (.ref 0), some (.int x1), some (.int x2), some (.ref b5)]) (S' := [.ref b5]) (h' := h) rfl ?_
      refine k_gI rfl rfl t6 ?_
      exact k_r rfl rfl rfl H
    rw [if_neg w11] at H
    by_cases w12 : x2 = (5 : Int32)
    · rw [if_pos w12] at H
      refine k_sw (pc' := 105) rfl (congrArg (z_tgt 13) (z_swN (k := (0 : Int32)) w7 rfl (z_swN (k := (1 : Int32)) w8 rfl (z_swN (k := (2 : Int32)) w9 rfl (z_swN (k := (3 : Int32)) w10 rfl (z_swN (k := (4 : Int32)) w11 rfl (z_swT (k := (5 : Int32)) w12 rfl))))))) ?_
      refine k_n 1 (pc' := 106) (L' := [some (.ref 0), some (.int x1), some (.int x2), some (.ref b5)]) (S' := [.ref b5]) (h' := h) rfl ?_
      refine k_gI rfl rfl t6 ?_
      exact k_r rfl rfl rfl H
    rw [if_neg w12] at H
    by_cases w13 : x2 = (6 : Int32)
    · rw [if_pos w13] at H
      refine k_sw (pc' := 110) rfl (congrArg (z_tgt 13) (z_swN (k := (0 : Int32)) w7 rfl (z_swN (k := (1 : Int32)) w8 rfl (z_swN (k := (2 : Int32)) w9 rfl (z_swN (k := (3 : Int32)) w10 rfl (z_swN (k := (4 : Int32)) w11 rfl (z_swN (k := (5 : Int32)) w12 rfl (z_swT (k := (6 : Int32)) w13 rfl)))))))) ?_
      refine k_n 1 (pc' := 111) (L' := [some (.ref 0), some (.int x1), some (.int x2), some (.ref b5)]) (S' := [.ref b5]) (h' := h) rfl ?_
      refine k_gI rfl rfl t6 ?_
      exact k_r rfl rfl rfl H
    rw [if_neg w13] at H
    by_cases w14 : x2 = (7 : Int32)
    · rw [if_pos w14] at H
      refine k_sw (pc' := 115) rfl (congrArg (z_tgt 13) (z_swN (k := (0 : Int32)) w7 rfl (z_swN (k := (1 : Int32)) w8 rfl (z_swN (k := (2 : Int32)) w9 rfl (z_swN (k := (3 : Int32)) w10 rfl (z_swN (k := (4 : Int32)) w11 rfl (z_swN (k := (5 : Int32)) w12 rfl (z_swN (k := (6 : Int32)) w13 rfl (z_swT (k := (7 : Int32)) w14 rfl))))))))) ?_
      refine k_n 1 (pc' := 116) (L' := [some (.ref 0), some (.int x1), some (.int x2), some (.ref b5)]) (S' := [.ref b5]) (h' := h) rfl ?_
      refine k_gI rfl rfl t6 ?_
      exact k_r rfl rfl rfl H
    rw [if_neg w14] at H
    by_cases w15 : x2 = (8 : Int32)
    · rw [if_pos w15] at H
      refine k_sw (pc' := 120) rfl (congrArg (z_tgt 13) (z_swN (k := (0 : Int32)) w7 rfl (z_swN (k := (1 : Int32)) w8 rfl (z_swN (k := (2 : Int32)) w9 rfl (z_swN (k := (3 : Int32)) w10 rfl (z_swN (k := (4 : Int32)) w11 rfl (z_swN (k := (5 : Int32)) w12 rfl (z_swN (k := (6 : Int32)) w13 rfl (z_swN (k := (7 : Int32)) w14 rfl (z_swT (k := (8 : Int32)) w15 rfl)))))))))) ?_
      refine k_n 1 (pc' := 121) (L' := [some (.ref 0), some (.int x1), some (.int x2), some (.ref b5)]) (S' := [.ref b5]) (h' := h) rfl ?_
      refine k_gI rfl rfl t6 ?_
      refine k_cI 145 1 rfl rfl rfl (A := [.int (z_iv h b5 9)]) rfl rfl rfl (rest := []) rfl (z_tyI rfl rfl) ?_
      refine C_145 (z_iv h b5 9) h    ?_
      exact k_r rfl rfl rfl H
    rw [if_neg w15] at H
    by_cases w16 : x2 = (9 : Int32)
    · rw [if_pos w16] at H
      refine k_sw (pc' := 128) rfl (congrArg (z_tgt 13) (z_swN (k := (0 : Int32)) w7 rfl (z_swN (k := (1 : Int32)) w8 rfl (z_swN (k := (2 : Int32)) w9 rfl (z_swN (k := (3 : Int32)) w10 rfl (z_swN (k := (4 : Int32)) w11 rfl (z_swN (k := (5 : Int32)) w12 rfl (z_swN (k := (6 : Int32)) w13 rfl (z_swN (k := (7 : Int32)) w14 rfl (z_swN (k := (8 : Int32)) w15 rfl (z_swT (k := (9 : Int32)) w16 rfl))))))))))) ?_
      refine k_n 2 (pc' := 130) (L' := [some (.ref 0), some (.int x1), some (.int x2), some (.ref b5)]) (S' := [.ref b5, .ref 0]) (h' := h) rfl ?_
      refine k_cI 151 2 rfl rfl rfl (A := [.ref 0, .ref b5]) rfl rfl (z_rok_ref W.t0) (rest := []) rfl (z_tyI rfl rfl) ?_
      obtain ⟨v17, k18, H⟩ := H
      refine k_P k18 ?_
      refine k_cI 145 1 rfl rfl rfl (A := [.int v17]) rfl rfl rfl (rest := []) rfl (z_tyI rfl rfl) ?_
      refine C_145 v17 h    ?_
      exact k_r rfl rfl rfl H
    rw [if_neg w16] at H
    by_cases w19 : x2 = (10 : Int32)
    · rw [if_pos w19] at H
      refine k_sw (pc' := 137) rfl (congrArg (z_tgt 13) (z_swN (k := (0 : Int32)) w7 rfl (z_swN (k := (1 : Int32)) w8 rfl (z_swN (k := (2 : Int32)) w9 rfl (z_swN (k := (3 : Int32)) w10 rfl (z_swN (k := (4 : Int32)) w11 rfl (z_swN (k := (5 : Int32)) w12 rfl (z_swN (k := (6 : Int32)) w13 rfl (z_swN (k := (7 : Int32)) w14 rfl (z_swN (k := (8 : Int32)) w15 rfl (z_swN (k := (9 : Int32)) w16 rfl (z_swT (k := (10 : Int32)) w19 rfl)))))))))))) ?_
      refine k_n 1 (pc' := 138) (L' := [some (.ref 0), some (.int x1), some (.int x2), some (.ref b5)]) (S' := [.ref b5]) (h' := h) rfl ?_
      refine k_gI rfl rfl t6 ?_
      refine k_cI 145 1 rfl rfl rfl (A := [.int (z_iv h b5 10)]) rfl rfl rfl (rest := []) rfl (z_tyI rfl rfl) ?_
      refine C_145 (z_iv h b5 10) h    ?_
      exact k_r rfl rfl rfl H
    rw [if_neg w19] at H
    by_cases w20 : x2 = (11 : Int32)
    · rw [if_pos w20] at H
      refine k_sw (pc' := 145) rfl (congrArg (z_tgt 13) (z_swN (k := (0 : Int32)) w7 rfl (z_swN (k := (1 : Int32)) w8 rfl (z_swN (k := (2 : Int32)) w9 rfl (z_swN (k := (3 : Int32)) w10 rfl (z_swN (k := (4 : Int32)) w11 rfl (z_swN (k := (5 : Int32)) w12 rfl (z_swN (k := (6 : Int32)) w13 rfl (z_swN (k := (7 : Int32)) w14 rfl (z_swN (k := (8 : Int32)) w15 rfl (z_swN (k := (9 : Int32)) w16 rfl (z_swN (k := (10 : Int32)) w19 rfl (z_swT (k := (11 : Int32)) w20 rfl))))))))))))) ?_
      refine k_n 1 (pc' := 146) (L' := [some (.ref 0), some (.int x1), some (.int x2), some (.ref b5)]) (S' := [.ref b5]) (h' := h) rfl ?_
      refine k_gI rfl rfl t6 ?_
      exact k_r rfl rfl rfl H
    rw [if_neg w20] at H
    by_cases w21 : x2 = (12 : Int32)
    · rw [if_pos w21] at H
      refine k_sw (pc' := 150) rfl (congrArg (z_tgt 13) (z_swN (k := (0 : Int32)) w7 rfl (z_swN (k := (1 : Int32)) w8 rfl (z_swN (k := (2 : Int32)) w9 rfl (z_swN (k := (3 : Int32)) w10 rfl (z_swN (k := (4 : Int32)) w11 rfl (z_swN (k := (5 : Int32)) w12 rfl (z_swN (k := (6 : Int32)) w13 rfl (z_swN (k := (7 : Int32)) w14 rfl (z_swN (k := (8 : Int32)) w15 rfl (z_swN (k := (9 : Int32)) w16 rfl (z_swN (k := (10 : Int32)) w19 rfl (z_swN (k := (11 : Int32)) w20 rfl (z_swT (k := (12 : Int32)) w21 rfl)))))))))))))) ?_
      refine k_n 1 (pc' := 151) (L' := [some (.ref 0), some (.int x1), some (.int x2), some (.ref b5)]) (S' := [.ref b5]) (h' := h) rfl ?_
      refine k_gI rfl rfl t6 ?_
      exact k_r rfl rfl rfl H
    rw [if_neg w21] at H
    refine k_sw (pc' := 155) rfl (congrArg (z_tgt 13) (z_swN (k := (0 : Int32)) w7 rfl (z_swN (k := (1 : Int32)) w8 rfl (z_swN (k := (2 : Int32)) w9 rfl (z_swN (k := (3 : Int32)) w10 rfl (z_swN (k := (4 : Int32)) w11 rfl (z_swN (k := (5 : Int32)) w12 rfl (z_swN (k := (6 : Int32)) w13 rfl (z_swN (k := (7 : Int32)) w14 rfl (z_swN (k := (8 : Int32)) w15 rfl (z_swN (k := (9 : Int32)) w16 rfl (z_swN (k := (10 : Int32)) w19 rfl (z_swN (k := (11 : Int32)) w20 rfl (z_swN (k := (12 : Int32)) w21 rfl rfl)))))))))))))) ?_
    refine k_n 1 (pc' := 156) (L' := [some (.ref 0), some (.int x1), some (.int x2), some (.ref b5)]) (S' := [.int (-1 : Int32)]) (h' := h) rfl ?_
    exact k_r rfl rfl rfl H
set_option maxRecDepth 20000 in
theorem X_104 (x1 : Int32) (x2 : Int32) (h : zH) (W : CW h)  {Q : Int32 → zH → Prop} (H : ∃ v1 : Option Nat, KV z_pA 149 [.ref 0, .int x1] h v1 ∧ (∀ b_, v1 = some b_ → z_tg h b_ = 3) ∧ ((v1 = none → Q (-1 : Int32) h) ∧ (∀ b5, v1 = some b5 → (x2 = 0 ∨ x2 = 1) ∧ Q (z_bt (¬ ((z_iv h b5 9) = 0))) (z_sI h b5 9 x2)))) : KK z_pI 104 [.ref 0, .int x1, .int x2] h Q := by
  refine k_K (L := [some (.ref 0), some (.int x1), some (.int x2), none, none]) rfl ?_
  refine k_n 2 (pc' := 2) (L' := [some (.ref 0), some (.int x1), some (.int x2), none, none]) (S' := [.int x1, .ref 0]) (h' := h) rfl ?_
  refine k_cA 149 2 "SavedThird$Engine" rfl rfl rfl (A := [.ref 0, .int x1]) rfl rfl (z_rok_ref W.t0) (rest := []) rfl rfl (by decide) ?_
  obtain ⟨v1, k2, tv3, H⟩ := H
  refine k_P k2 ?_
  obtain hb4 | ⟨b5, hb4⟩ := z_opt (v1)
  · have H := H.1 hb4
    refine k_oN hb4 ?_
    refine k_n 4 (pc' := 11) (L' := [some (.ref 0), some (.int x1), some (.int x2), some (.null), none]) (S' := [.int (-1 : Int32)]) (h' := h) rfl ?_
    exact k_r rfl rfl rfl H
  · have H := H.2 b5 hb4
    have t6 : z_tg h b5 = 3 := tv3 _ hb4
    refine k_oS hb4 ?_
    refine k_n 4 (pc' := 13) (L' := [some (.ref 0), some (.int x1), some (.int x2), some (.ref b5), none]) (S' := [.ref b5]) (h' := h) rfl ?_
    refine k_gI rfl rfl t6 ?_
    refine k_n 3 (pc' := 20) (L' := [some (.ref 0), some (.int x1), some (.int x2), some (.ref b5), some (.int (z_iv h b5 9))]) (S' := [.int x2, .ref b5]) (h' := h) rfl ?_
    obtain ⟨o7, H⟩ := H
    refine k_pZ rfl t6 o7 ?_
    refine k_n 1 (pc' := 25) (L' := [some (.ref 0), some (.int x1), some (.int x2), some (.ref b5), some (.int (z_iv h b5 9))]) (S' := [.int (z_iv h b5 9)]) (h' := (z_sI h b5 9 x2)) rfl ?_
    refine k_cI 145 1 rfl rfl rfl (A := [.int (z_iv h b5 9)]) rfl rfl rfl (rest := []) rfl (z_tyI rfl rfl) ?_
    refine C_145 (z_iv h b5 9) (z_sI h b5 9 x2)    ?_
    exact k_r rfl rfl rfl H
set_option maxRecDepth 20000 in
theorem X_105 (x1 : Int32) (h : zH) (W : CW h)  {Q : Int32 → zH → Prop} (H : ∃ v1 : Option Nat, KV z_pA 149 [.ref 0, .int x1] h v1 ∧ (∀ b_, v1 = some b_ → z_tg h b_ = 3) ∧ ((v1 = none → Q (-1 : Int32) h) ∧ (∀ b5, v1 = some b5 → Q (z_iv h b5 7) (z_sI h b5 7 (0 : Int32))))) : KK z_pI 105 [.ref 0, .int x1] h Q := by
  refine k_K (L := [some (.ref 0), some (.int x1), none, none]) rfl ?_
  refine k_n 2 (pc' := 2) (L' := [some (.ref 0), some (.int x1), none, none]) (S' := [.int x1, .ref 0]) (h' := h) rfl ?_
  refine k_cA 149 2 "SavedThird$Engine" rfl rfl rfl (A := [.ref 0, .int x1]) rfl rfl (z_rok_ref W.t0) (rest := []) rfl rfl (by decide) ?_
  obtain ⟨v1, k2, tv3, H⟩ := H
  refine k_P k2 ?_
  obtain hb4 | ⟨b5, hb4⟩ := z_opt (v1)
  · have H := H.1 hb4
    refine k_oN hb4 ?_
    refine k_n 4 (pc' := 11) (L' := [some (.ref 0), some (.int x1), some (.null), none]) (S' := [.int (-1 : Int32)]) (h' := h) rfl ?_
    exact k_r rfl rfl rfl H
  · have H := H.2 b5 hb4
    have t6 : z_tg h b5 = 3 := tv3 _ hb4
    refine k_oS hb4 ?_
    refine k_n 4 (pc' := 13) (L' := [some (.ref 0), some (.int x1), some (.ref b5), none]) (S' := [.ref b5]) (h' := h) rfl ?_
    refine k_gI rfl rfl t6 ?_
    refine k_n 3 (pc' := 19) (L' := [some (.ref 0), some (.int x1), some (.ref b5), some (.int (z_iv h b5 7))]) (S' := [.int (0 : Int32), .ref b5]) (h' := h) rfl ?_
    refine k_pI rfl t6 ?_
    refine k_n 1 (pc' := 23) (L' := [some (.ref 0), some (.int x1), some (.ref b5), some (.int (z_iv h b5 7))]) (S' := [.int (z_iv h b5 7)]) (h' := (z_sI h b5 7 (0 : Int32))) rfl ?_
    exact k_r rfl rfl rfl H
set_option maxRecDepth 20000 in
theorem X_107 (x1 : Int32) (x2 : Int32) (x3 : Int32) (h : zH) (W : CW h)  {Q : Int32 → zH → Prop} (H : ∃ v1 : Option Nat, KV z_pA 148 [.ref 0, .int x1] h v1 ∧ (∀ b_, v1 = some b_ → z_tg h b_ = 4) ∧ ((v1 = none → Q (-1 : Int32) h) ∧ (∀ b5, v1 = some b5 → if (0 : Int32) ≤ x2 ∧ x2 ≤ ((z_iv h 0 11) - (1 : Int32)) then (if (0 : Int32) ≤ x3 ∧ x3 ≤ (5 : Int32) then (∃ v7 : Int32, KV z_pI 49 [.ref b5, .int x2, .int x3] h v7 ∧ Q v7 h) else (Q (-1 : Int32) h)) else (Q (-1 : Int32) h)))) : KK z_pI 107 [.ref 0, .int x1, .int x2, .int x3] h Q := by
  refine k_K (L := [some (.ref 0), some (.int x1), some (.int x2), some (.int x3), none]) rfl ?_
  refine k_n 2 (pc' := 2) (L' := [some (.ref 0), some (.int x1), some (.int x2), some (.int x3), none]) (S' := [.int x1, .ref 0]) (h' := h) rfl ?_
  refine k_cA 148 2 "SavedThird$Mine" rfl rfl rfl (A := [.ref 0, .int x1]) rfl rfl (z_rok_ref W.t0) (rest := []) rfl rfl (by decide) ?_
  obtain ⟨v1, k2, tv3, H⟩ := H
  refine k_P k2 ?_
  obtain hb4 | ⟨b5, hb4⟩ := z_opt (v1)
  · have H := H.1 hb4
    refine k_oN hb4 ?_
    refine k_n 4 (pc' := 36) (L' := [some (.ref 0), some (.int x1), some (.int x2), some (.int x3), some (.null)]) (S' := [.int (-1 : Int32)]) (h' := h) rfl ?_
    exact k_r rfl rfl rfl H
  · have H := H.2 b5 hb4
    have t6 : z_tg h b5 = 4 := tv3 _ hb4
    refine k_oS hb4 ?_
    refine k_n 6 (pc' := 15) (L' := [some (.ref 0), some (.int x1), some (.int x2), some (.int x3), some (.ref b5)]) (S' := [.ref 0, .int (0 : Int32), .int x2]) (h' := h) rfl ?_
    refine k_gI rfl rfl W.t0 ?_
    refine k_n 2 (pc' := 20) (L' := [some (.ref 0), some (.int x1), some (.int x2), some (.int x3), some (.ref b5)]) (S' := [.int ((z_iv h 0 11) - (1 : Int32)), .int (0 : Int32), .int x2]) (h' := h) rfl ?_
    refine k_cI 135 3 rfl rfl rfl (A := [.int x2, .int (0 : Int32), .int ((z_iv h 0 11) - (1 : Int32))]) rfl rfl rfl (rest := []) rfl (z_tyI rfl rfl) ?_
    refine c_within x2 (0 : Int32) ((z_iv h 0 11) - (1 : Int32)) h ?_
    refine k_b (g := z_bt ((0 : Int32) ≤ x2 ∧ x2 ≤ ((z_iv h 0 11) - (1 : Int32))) = 0) (pc' := 35) (L' := [some (.ref 0), some (.int x1), some (.int x2), some (.int x3), some (.ref b5)]) (S' := []) (pc2 := 26) (L2 := [some (.ref 0), some (.int x1), some (.int x2), some (.int x3), some (.ref b5)]) (S2 := []) (h' := h) (h2 := h) rfl rfl (fun hc => ?_) (fun hc => ?_)
    · have hc := z_bt_0.mp hc
      rw [if_neg hc] at H
      refine k_n 1 (pc' := 36) (L' := [some (.ref 0), some (.int x1), some (.int x2), some (.int x3), some (.ref b5)]) (S' := [.int (-1 : Int32)]) (h' := h) rfl ?_
      exact k_r rfl rfl rfl H
    · have hc := Decidable.not_not.mp (fun q => hc (z_bt_0.mpr q))
      rw [if_pos hc] at H
      refine k_n 3 (pc' := 29) (L' := [some (.ref 0), some (.int x1), some (.int x2), some (.int x3), some (.ref b5)]) (S' := [.int (5 : Int32), .int (0 : Int32), .int x3]) (h' := h) rfl ?_
      refine k_cI 135 3 rfl rfl rfl (A := [.int x3, .int (0 : Int32), .int (5 : Int32)]) rfl rfl rfl (rest := []) rfl (z_tyI rfl rfl) ?_
      refine c_within x3 (0 : Int32) (5 : Int32) h ?_
      refine k_b (g := z_bt ((0 : Int32) ≤ x3 ∧ x3 ≤ (5 : Int32)) = 0) (pc' := 35) (L' := [some (.ref 0), some (.int x1), some (.int x2), some (.int x3), some (.ref b5)]) (S' := []) (pc2 := 37) (L2 := [some (.ref 0), some (.int x1), some (.int x2), some (.int x3), some (.ref b5)]) (S2 := []) (h' := h) (h2 := h) rfl rfl (fun hc => ?_) (fun hc => ?_)
      · have hc := z_bt_0.mp hc
        rw [if_neg hc] at H
        refine k_n 1 (pc' := 36) (L' := [some (.ref 0), some (.int x1), some (.int x2), some (.int x3), some (.ref b5)]) (S' := [.int (-1 : Int32)]) (h' := h) rfl ?_
        exact k_r rfl rfl rfl H
      · have hc := Decidable.not_not.mp (fun q => hc (z_bt_0.mpr q))
        rw [if_pos hc] at H
        refine k_n 3 (pc' := 41) (L' := [some (.ref 0), some (.int x1), some (.int x2), some (.int x3), some (.ref b5)]) (S' := [.int x3, .int x2, .ref b5]) (h' := h) rfl ?_
        refine k_cI 49 3 rfl rfl rfl (A := [.ref b5, .int x2, .int x3]) rfl rfl (z_rok_ref t6) (rest := []) rfl (z_tyI rfl rfl) ?_
        obtain ⟨v7, k8, H⟩ := H
        refine k_P k8 ?_
        exact k_r rfl rfl rfl H
set_option maxRecDepth 20000 in
theorem X_109 (x1 : Int32) (x2 : Int32) (x3 : Int32) (x4 : Int32) (h : zH) (W : CW h)  {Q : Int32 → zH → Prop} (H : ∃ v1 : Option Nat, KV z_pA 148 [.ref 0, .int x1] h v1 ∧ (∀ b_, v1 = some b_ → z_tg h b_ = 4) ∧ ((v1 = none → Q (-1 : Int32) h) ∧ (∀ b5, v1 = some b5 → if (1 : Int32) ≤ x2 ∧ x2 ≤ (9999 : Int32) then (if (1 : Int32) ≤ x3 ∧ x3 ≤ (99 : Int32) then (if (1 : Int32) ≤ x4 ∧ x4 ≤ (9999 : Int32) then ((z_rv (z_sR (z_sI (z_sI (z_sI (z_sI (z_nw h 10 0 4) (z_nx h) 0 x2) (z_nx h) 1 x3) (z_nx h) 2 x4) (z_nx h) 3 (z_iv h b5 5)) b5 9 (some (z_nx h))) b5 9 = none → False) ∧ (∀ b12, z_rv (z_sR (z_sI (z_sI (z_sI (z_sI (z_nw h 10 0 4) (z_nx h) 0 x2) (z_nx h) 1 x3) (z_nx h) 2 x4) (z_nx h) 3 (z_iv h b5 5)) b5 9 (some (z_nx h))) b5 9 = some b12 → ∃ v14 : Int32, KV z_pI 95 [.ref b12, .int (1000 : Int32), .int x3] (z_sR (z_sI (z_sI (z_sI (z_sI (z_nw h 10 0 4) (z_nx h) 0 x2) (z_nx h) 1 x3) (z_nx h) 2 x4) (z_nx h) 3 (z_iv h b5 5)) b5 9 (some (z_nx h))) v14 ∧ Q v14 (z_sR (z_sI (z_sI (z_sI (z_sI (z_nw h 10 0 4) (z_nx h) 0 x2) (z_nx h) 1 x3) (z_nx h) 2 x4) (z_nx h) 3 (z_iv h b5 5)) b5 9 (some (z_nx h))))) else (Q (-1 : Int32) h)) else (Q (-1 : Int32) h)) else (Q (-1 : Int32) h)))) : KK z_pI 109 [.ref 0, .int x1, .int x2, .int x3, .int x4] h Q := by
  refine k_K (L := [some (.ref 0), some (.int x1), some (.int x2), some (.int x3), some (.int x4), none]) rfl ?_
  refine k_n 2 (pc' := 2) (L' := [some (.ref 0), some (.int x1), some (.int x2), some (.int x3), some (.int x4), none]) (S' := [.int x1, .ref 0]) (h' := h) rfl ?_
  refine k_cA 148 2 "SavedThird$Mine" rfl rfl rfl (A := [.ref 0, .int x1]) rfl rfl (z_rok_ref W.t0) (rest := []) rfl rfl (by decide) ?_
  obtain ⟨v1, k2, tv3, H⟩ := H
  refine k_P k2 ?_
  obtain hb4 | ⟨b5, hb4⟩ := z_opt (v1)
  · have H := H.1 hb4
    refine k_oN hb4 ?_
    refine k_n 4 (pc' := 35) (L' := [some (.ref 0), some (.int x1), some (.int x2), some (.int x3), some (.int x4), some (.null)]) (S' := [.int (-1 : Int32)]) (h' := h) rfl ?_
    exact k_r rfl rfl rfl H
  · have H := H.2 b5 hb4
    have t6 : z_tg h b5 = 4 := tv3 _ hb4
    refine k_oS hb4 ?_
    refine k_n 4 (pc' := 13) (L' := [some (.ref 0), some (.int x1), some (.int x2), some (.int x3), some (.int x4), some (.ref b5)]) (S' := [.int x2]) (h' := h) rfl ?_
    refine k_cI 139 1 rfl rfl rfl (A := [.int x2]) rfl rfl rfl (rest := []) rfl (z_tyI rfl rfl) ?_
    refine C_139 x2 h    ?_
    refine k_b (g := z_bt ((1 : Int32) ≤ x2 ∧ x2 ≤ (9999 : Int32)) = 0) (pc' := 34) (L' := [some (.ref 0), some (.int x1), some (.int x2), some (.int x3), some (.int x4), some (.ref b5)]) (S' := []) (pc2 := 19) (L2 := [some (.ref 0), some (.int x1), some (.int x2), some (.int x3), some (.int x4), some (.ref b5)]) (S2 := []) (h' := h) (h2 := h) rfl rfl (fun hc => ?_) (fun hc => ?_)
    · have hc := z_bt_0.mp hc
      rw [if_neg hc] at H
      refine k_n 1 (pc' := 35) (L' := [some (.ref 0), some (.int x1), some (.int x2), some (.int x3), some (.int x4), some (.ref b5)]) (S' := [.int (-1 : Int32)]) (h' := h) rfl ?_
      exact k_r rfl rfl rfl H
    · have hc := Decidable.not_not.mp (fun q => hc (z_bt_0.mpr q))
      rw [if_pos hc] at H
      refine k_n 1 (pc' := 20) (L' := [some (.ref 0), some (.int x1), some (.int x2), some (.int x3), some (.int x4), some (.ref b5)]) (S' := [.int x3]) (h' := h) rfl ?_
      refine k_cI 138 1 rfl rfl rfl (A := [.int x3]) rfl rfl rfl (rest := []) rfl (z_tyI rfl rfl) ?_
      refine C_138 x3 h    ?_
      refine k_b (g := z_bt ((1 : Int32) ≤ x3 ∧ x3 ≤ (99 : Int32)) = 0) (pc' := 34) (L' := [some (.ref 0), some (.int x1), some (.int x2), some (.int x3), some (.int x4), some (.ref b5)]) (S' := []) (pc2 := 26) (L2 := [some (.ref 0), some (.int x1), some (.int x2), some (.int x3), some (.int x4), some (.ref b5)]) (S2 := []) (h' := h) (h2 := h) rfl rfl (fun hc => ?_) (fun hc => ?_)
      · have hc := z_bt_0.mp hc
        rw [if_neg hc] at H
        refine k_n 1 (pc' := 35) (L' := [some (.ref 0), some (.int x1), some (.int x2), some (.int x3), some (.int x4), some (.ref b5)]) (S' := [.int (-1 : Int32)]) (h' := h) rfl ?_
        exact k_r rfl rfl rfl H
      · have hc := Decidable.not_not.mp (fun q => hc (z_bt_0.mpr q))
        rw [if_pos hc] at H
        refine k_n 1 (pc' := 28) (L' := [some (.ref 0), some (.int x1), some (.int x2), some (.int x3), some (.int x4), some (.ref b5)]) (S' := [.int x4]) (h' := h) rfl ?_
        refine k_cI 139 1 rfl rfl rfl (A := [.int x4]) rfl rfl rfl (rest := []) rfl (z_tyI rfl rfl) ?_
        refine C_139 x4 h    ?_
        refine k_b (g := z_bt ((1 : Int32) ≤ x4 ∧ x4 ≤ (9999 : Int32)) = 0) (pc' := 34) (L' := [some (.ref 0), some (.int x1), some (.int x2), some (.int x3), some (.int x4), some (.ref b5)]) (S' := []) (pc2 := 36) (L2 := [some (.ref 0), some (.int x1), some (.int x2), some (.int x3), some (.int x4), some (.ref b5)]) (S2 := []) (h' := h) (h2 := h) rfl rfl (fun hc => ?_) (fun hc => ?_)
        · have hc := z_bt_0.mp hc
          rw [if_neg hc] at H
          refine k_n 1 (pc' := 35) (L' := [some (.ref 0), some (.int x1), some (.int x2), some (.int x3), some (.int x4), some (.ref b5)]) (S' := [.int (-1 : Int32)]) (h' := h) rfl ?_
          exact k_r rfl rfl rfl H
        · have hc := Decidable.not_not.mp (fun q => hc (z_bt_0.mpr q))
          rw [if_pos hc] at H
          refine k_n 1 (pc' := 38) (L' := [some (.ref 0), some (.int x1), some (.int x2), some (.int x3), some (.int x4), some (.ref b5)]) (S' := [.ref b5]) (h' := h) rfl ?_
          refine k_n 1 (pc' := 41) (L' := [some (.ref 0), some (.int x1), some (.int x2), some (.int x3), some (.int x4), some (.ref b5)]) (S' := [.ref (z_nx h), .ref b5]) (h' := (z_nw h 10 0 4)) rfl ?_
          have t7 : z_tg (z_nw h 10 0 4) 0 = 11 := CW.keep W W.t0 (by decide)
          have t8 : z_tg (z_nw h 10 0 4) b5 = 4 := CW.keep W t6 (by decide)
          have t9 : z_tg (z_nw h 10 0 4) b5 = 4 := CW.keep W t6 (by decide)
          have t10 : z_tg (z_nw h 10 0 4) (z_nx h) = 10 := z_nw_at
          refine k_n 5 (pc' := 48) (L' := [some (.ref 0), some (.int x1), some (.int x2), some (.int x3), some (.int x4), some (.ref b5)]) (S' := [.ref b5, .int x4, .int x3, .int x2, .ref (z_nx h), .ref (z_nx h), .ref b5]) (h' := (z_nw h 10 0 4)) rfl ?_
          refine k_gV rfl rfl t8 (v_nn W t6 (by decide) rfl) ?_
          refine k_cV 94 5 rfl rfl rfl (A := [.ref (z_nx h), .int x2, .int x3, .int x4, .int (z_iv h b5 5)]) rfl rfl (z_rok_ref t10) (rest := [.ref (z_nx h), .ref b5]) rfl rfl ?_
          refine X_94 (z_nx h) x2 x3 x4 (z_iv h b5 5) (z_nw h 10 0 4) (CW.nw W (by decide)) t10 ?_
          refine k_pR rfl (z_tgI (z_tgI (z_tgI (z_tgI t9)))) ?_
          refine k_n 1 (pc' := 59) (L' := [some (.ref 0), some (.int x1), some (.int x2), some (.int x3), some (.int x4), some (.ref b5)]) (S' := [.ref b5]) (h' := (z_sR (z_sI (z_sI (z_sI (z_sI (z_nw h 10 0 4) (z_nx h) 0 x2) (z_nx h) 1 x3) (z_nx h) 2 x4) (z_nx h) 3 (z_iv h b5 5)) b5 9 (some (z_nx h)))) rfl ?_
          obtain hb11 | ⟨b12, hb11⟩ := z_opt (z_rv (z_sR (z_sI (z_sI (z_sI (z_sI (z_nw h 10 0 4) (z_nx h) 0 x2) (z_nx h) 1 x3) (z_nx h) 2 x4) (z_nx h) 3 (z_iv h b5 5)) b5 9 (some (z_nx h))) b5 9)
          · have H := H.1 hb11
            refine k_gN rfl (z_tgR (z_tgI (z_tgI (z_tgI (z_tgI t8))))) hb11 ?_
            refine k_n 2 (pc' := 66) (L' := [some (.ref 0), some (.int x1), some (.int x2), some (.int x3), some (.int x4), some (.ref b5)]) (S' := [.int x3, .int (1000 : Int32), .null]) (h' := (z_sR (z_sI (z_sI (z_sI (z_sI (z_nw h 10 0 4) (z_nx h) 0 x2) (z_nx h) 1 x3) (z_nx h) 2 x4) (z_nx h) 3 (z_iv h b5 5)) b5 9 (some (z_nx h)))) rfl ?_
            exact H.elim
          · have H := H.2 b12 hb11
            have t13 : z_tg (z_sR (z_sI (z_sI (z_sI (z_sI (z_nw h 10 0 4) (z_nx h) 0 x2) (z_nx h) 1 x3) (z_nx h) 2 x4) (z_nx h) 3 (z_iv h b5 5)) b5 9 (some (z_nx h))) b12 = 10 := (CW.tyOf (t := 4) (t' := 10) (CW.sR (CW.sI (CW.sI (CW.sI (CW.sI (CW.nw W (by decide)))))) (z_tgI (z_tgI (z_tgI (z_tgI t9)))) (j := 9) rfl (fun _ q_ => by cases q_; exact (z_tgI (z_tgI (z_tgI (z_tgI t10))))) (by decide)) (z_tgR (z_tgI (z_tgI (z_tgI (z_tgI t8))))) hb11 (by decide) rfl)
            refine k_gS rfl (z_tgR (z_tgI (z_tgI (z_tgI (z_tgI t8))))) hb11 ?_
            refine k_n 2 (pc' := 66) (L' := [some (.ref 0), some (.int x1), some (.int x2), some (.int x3), some (.int x4), some (.ref b5)]) (S' := [.int x3, .int (1000 : Int32), .ref b12]) (h' := (z_sR (z_sI (z_sI (z_sI (z_sI (z_nw h 10 0 4) (z_nx h) 0 x2) (z_nx h) 1 x3) (z_nx h) 2 x4) (z_nx h) 3 (z_iv h b5 5)) b5 9 (some (z_nx h)))) rfl ?_
            refine k_cI 95 3 rfl rfl rfl (A := [.ref b12, .int (1000 : Int32), .int x3]) rfl rfl (z_rok_ref t13) (rest := []) rfl (z_tyI rfl rfl) ?_
            obtain ⟨v14, k15, H⟩ := H
            refine k_P k15 ?_
            exact k_r rfl rfl rfl H
set_option maxRecDepth 20000 in
theorem X_111 (x1 : Int32) (h : zH) (W : CW h)  {Q : Int32 → zH → Prop} (H : if (0 : Int32) ≤ x1 ∧ x1 ≤ (z_iv h 6 1) then (Q (z_iv h 6 1) (z_sI h 6 1 x1)) else (Q (-1 : Int32) h)) : KK z_pI 111 [.ref 0, .int x1] h Q := by
  refine k_K (L := [some (.ref 0), some (.int x1), none]) rfl ?_
  refine k_n 3 (pc' := 3) (L' := [some (.ref 0), some (.int x1), none]) (S' := [.ref 0, .int (0 : Int32), .int x1]) (h' := h) rfl ?_
  refine k_gS (b := 6) rfl W.t0 (W.abOf (t := 11) (j := 5) (o := 6) (n := 0) (by decide) W.t0).1 ?_
  refine k_gI rfl rfl (CW.tyOf (t := 11) (t' := 9) W (j := 5) W.t0 (W.abOf (t := 11) (j := 5) (o := 6) (n := 0) (by decide) W.t0).1 (by decide) rfl) ?_
  refine k_cI 135 3 rfl rfl rfl (A := [.int x1, .int (0 : Int32), .int (z_iv h 6 1)]) rfl rfl rfl (rest := []) rfl (z_tyI rfl rfl) ?_
  refine c_within x1 (0 : Int32) (z_iv h 6 1) h ?_
  refine k_b (g := z_bt ((0 : Int32) ≤ x1 ∧ x1 ≤ (z_iv h 6 1)) = 0) (pc' := 15) (L' := [some (.ref 0), some (.int x1), none]) (S' := []) (pc2 := 17) (L2 := [some (.ref 0), some (.int x1), none]) (S2 := []) (h' := h) (h2 := h) rfl rfl (fun hc => ?_) (fun hc => ?_)
  · have hc := z_bt_0.mp hc
    rw [if_neg hc] at H
    refine k_n 1 (pc' := 16) (L' := [some (.ref 0), some (.int x1), none]) (S' := [.int (-1 : Int32)]) (h' := h) rfl ?_
    exact k_r rfl rfl rfl H
  · have hc := Decidable.not_not.mp (fun q => hc (z_bt_0.mpr q))
    rw [if_pos hc] at H
    refine k_n 1 (pc' := 18) (L' := [some (.ref 0), some (.int x1), none]) (S' := [.ref 0]) (h' := h) rfl ?_
    refine k_gS (b := 6) rfl W.t0 (W.abOf (t := 11) (j := 5) (o := 6) (n := 0) (by decide) W.t0).1 ?_
    refine k_gI rfl rfl (CW.tyOf (t := 11) (t' := 9) W (j := 5) W.t0 (W.abOf (t := 11) (j := 5) (o := 6) (n := 0) (by decide) W.t0).1 (by decide) rfl) ?_
    refine k_n 2 (pc' := 26) (L' := [some (.ref 0), some (.int x1), some (.int (z_iv h 6 1))]) (S' := [.ref 0]) (h' := h) rfl ?_
    refine k_gS (b := 6) rfl W.t0 (W.abOf (t := 11) (j := 5) (o := 6) (n := 0) (by decide) W.t0).1 ?_
    refine k_n 1 (pc' := 30) (L' := [some (.ref 0), some (.int x1), some (.int (z_iv h 6 1))]) (S' := [.int x1, .ref 6]) (h' := h) rfl ?_
    refine k_pI rfl (CW.tyOf (t := 11) (t' := 9) W (j := 5) W.t0 (W.abOf (t := 11) (j := 5) (o := 6) (n := 0) (by decide) W.t0).1 (by decide) rfl) ?_
    refine k_n 1 (pc' := 34) (L' := [some (.ref 0), some (.int x1), some (.int (z_iv h 6 1))]) (S' := [.int (z_iv h 6 1)]) (h' := (z_sI h 6 1 x1)) rfl ?_
    exact k_r rfl rfl rfl H
set_option maxRecDepth 20000 in
theorem X_113  (h : zH) (W : CW h)  {Q : Int32 → zH → Prop} (H : Q (z_iv h 8 0) h) : KK z_pI 113 [.ref 0] h Q := by
  refine k_K (L := [some (.ref 0)]) rfl ?_
  refine k_n 1 (pc' := 1) (L' := [some (.ref 0)]) (S' := [.ref 0]) (h' := h) rfl ?_
  refine k_gS (b := 8) rfl W.t0 (W.abOf (t := 11) (j := 6) (o := 8) (n := 0) (by decide) W.t0).1 ?_
  refine k_gI rfl rfl (CW.tyOf (t := 11) (t' := 7) W (j := 6) W.t0 (W.abOf (t := 11) (j := 6) (o := 8) (n := 0) (by decide) W.t0).1 (by decide) rfl) ?_
  exact k_r rfl rfl rfl H
set_option maxRecDepth 20000 in
theorem X_133  (h : zH) (W : CW h)  {Q : Int32 → zH → Prop} (H : Q (z_iv h 0 15) h) : KK z_pI 133 [.ref 0] h Q := by
  refine k_K (L := [some (.ref 0)]) rfl ?_
  refine k_n 1 (pc' := 1) (L' := [some (.ref 0)]) (S' := [.ref 0]) (h' := h) rfl ?_
  refine k_gI rfl rfl W.t0 ?_
  exact k_r rfl rfl rfl H
set_option maxRecDepth 20000 in
theorem X_123 (x1 : Int32) (x2 : Int32) (x3 : Int32) (h : zH) (W : CW h)  {Q : Int32 → zH → Prop} (H : ∃ v1 : Option Nat, KV z_pA 148 [.ref 0, .int x1] h v1 ∧ (∀ b_, v1 = some b_ → z_tg h b_ = 4) ∧ ((v1 = none → Q (-1 : Int32) h) ∧ (∀ b5, v1 = some b5 → if (0 : Int32) ≤ x2 ∧ x2 ≤ (7 : Int32) then (if (0 : Int32) ≤ x3 ∧ x3 ≤ (99 : Int32) then ((0 ≤ x2.toInt ∧ x2.toInt < 8) ∧ (0 ≤ x2.toInt ∧ x2.toInt < 8) ∧ Q (z_iv h (b5 + 2) (z_ix x2)) (z_sI h (b5 + 2) (z_ix x2) x3)) else (Q (-1 : Int32) h)) else (Q (-1 : Int32) h)))) : KK z_pI 123 [.ref 0, .int x1, .int x2, .int x3] h Q := by
  refine k_K (L := [some (.ref 0), some (.int x1), some (.int x2), some (.int x3), none, none]) rfl ?_
  refine k_n 2 (pc' := 2) (L' := [some (.ref 0), some (.int x1), some (.int x2), some (.int x3), none, none]) (S' := [.int x1, .ref 0]) (h' := h) rfl ?_
  refine k_cA 148 2 "SavedThird$Mine" rfl rfl rfl (A := [.ref 0, .int x1]) rfl rfl (z_rok_ref W.t0) (rest := []) rfl rfl (by decide) ?_
  obtain ⟨v1, k2, tv3, H⟩ := H
  refine k_P k2 ?_
  obtain hb4 | ⟨b5, hb4⟩ := z_opt (v1)
  · have H := H.1 hb4
    refine k_oN hb4 ?_
    refine k_n 4 (pc' := 30) (L' := [some (.ref 0), some (.int x1), some (.int x2), some (.int x3), some (.null), none]) (S' := [.int (-1 : Int32)]) (h' := h) rfl ?_
    exact k_r rfl rfl rfl H
  · have H := H.2 b5 hb4
    have t6 : z_tg h b5 = 4 := tv3 _ hb4
    refine k_oS hb4 ?_
    refine k_n 4 (pc' := 13) (L' := [some (.ref 0), some (.int x1), some (.int x2), some (.int x3), some (.ref b5), none]) (S' := [.int x2]) (h' := h) rfl ?_
    refine k_cI 141 1 rfl rfl rfl (A := [.int x2]) rfl rfl rfl (rest := []) rfl (z_tyI rfl rfl) ?_
    refine C_141 x2 h    ?_
    refine k_b (g := z_bt ((0 : Int32) ≤ x2 ∧ x2 ≤ (7 : Int32)) = 0) (pc' := 29) (L' := [some (.ref 0), some (.int x1), some (.int x2), some (.int x3), some (.ref b5), none]) (S' := []) (pc2 := 19) (L2 := [some (.ref 0), some (.int x1), some (.int x2), some (.int x3), some (.ref b5), none]) (S2 := []) (h' := h) (h2 := h) rfl rfl (fun hc => ?_) (fun hc => ?_)
    · have hc := z_bt_0.mp hc
      rw [if_neg hc] at H
      refine k_n 1 (pc' := 30) (L' := [some (.ref 0), some (.int x1), some (.int x2), some (.int x3), some (.ref b5), none]) (S' := [.int (-1 : Int32)]) (h' := h) rfl ?_
      exact k_r rfl rfl rfl H
    · have hc := Decidable.not_not.mp (fun q => hc (z_bt_0.mpr q))
      rw [if_pos hc] at H
      refine k_n 3 (pc' := 23) (L' := [some (.ref 0), some (.int x1), some (.int x2), some (.int x3), some (.ref b5), none]) (S' := [.int (99 : Int32), .int (0 : Int32), .int x3]) (h' := h) rfl ?_
      refine k_cI 135 3 rfl rfl rfl (A := [.int x3, .int (0 : Int32), .int (99 : Int32)]) rfl rfl rfl (rest := []) rfl (z_tyI rfl rfl) ?_
      refine c_within x3 (0 : Int32) (99 : Int32) h ?_
      refine k_b (g := z_bt ((0 : Int32) ≤ x3 ∧ x3 ≤ (99 : Int32)) = 0) (pc' := 29) (L' := [some (.ref 0), some (.int x1), some (.int x2), some (.int x3), some (.ref b5), none]) (S' := []) (pc2 := 31) (L2 := [some (.ref 0), some (.int x1), some (.int x2), some (.int x3), some (.ref b5), none]) (S2 := []) (h' := h) (h2 := h) rfl rfl (fun hc => ?_) (fun hc => ?_)
      · have hc := z_bt_0.mp hc
        rw [if_neg hc] at H
        refine k_n 1 (pc' := 30) (L' := [some (.ref 0), some (.int x1), some (.int x2), some (.int x3), some (.ref b5), none]) (S' := [.int (-1 : Int32)]) (h' := h) rfl ?_
        exact k_r rfl rfl rfl H
      · have hc := Decidable.not_not.mp (fun q => hc (z_bt_0.mpr q))
        rw [if_pos hc] at H
        refine k_n 1 (pc' := 33) (L' := [some (.ref 0), some (.int x1), some (.int x2), some (.int x3), some (.ref b5), none]) (S' := [.ref b5]) (h' := h) rfl ?_
        refine k_gS (b := (b5 + 2)) rfl t6 (W.reOf (t := 4) (j := 3) (o := 2) (n := 8) (by decide) t6).1 ?_
        refine k_n 1 (pc' := 37) (L' := [some (.ref 0), some (.int x1), some (.int x2), some (.int x3), some (.ref b5), none]) (S' := [.int x2, .ref (b5 + 2)]) (h' := h) rfl ?_
        obtain ⟨o7, H⟩ := H
        refine k_ia (c := 0) (n := 8) rfl (CW.tyOf (t := 4) (t' := 100) W (j := 3) t6 (W.reOf (t := 4) (j := 3) (o := 2) (n := 8) (by decide) t6).1 (by decide) rfl) (W.reOf (t := 4) (j := 3) (o := 2) (n := 8) (by decide) t6).2 o7 ?_
        refine k_n 2 (pc' := 42) (L' := [some (.ref 0), some (.int x1), some (.int x2), some (.int x3), some (.ref b5), some (.int (z_iv h (b5 + 2) (z_ix x2)))]) (S' := [.ref b5]) (h' := h) rfl ?_
        refine k_gS (b := (b5 + 2)) rfl t6 (W.reOf (t := 4) (j := 3) (o := 2) (n := 8) (by decide) t6).1 ?_
        refine k_n 2 (pc' := 47) (L' := [some (.ref 0), some (.int x1), some (.int x2), some (.int x3), some (.ref b5), some (.int (z_iv h (b5 + 2) (z_ix x2)))]) (S' := [.int x3, .int x2, .ref (b5 + 2)]) (h' := h) rfl ?_
        obtain ⟨o8, H⟩ := H
        refine k_is (n := 8) rfl (CW.tyOf (t := 4) (t' := 100) W (j := 3) t6 (W.reOf (t := 4) (j := 3) (o := 2) (n := 8) (by decide) t6).1 (by decide) rfl) (W.reOf (t := 4) (j := 3) (o := 2) (n := 8) (by decide) t6).2 o8 ?_
        refine k_n 1 (pc' := 50) (L' := [some (.ref 0), some (.int x1), some (.int x2), some (.int x3), some (.ref b5), some (.int (z_iv h (b5 + 2) (z_ix x2)))]) (S' := [.int (z_iv h (b5 + 2) (z_ix x2))]) (h' := (z_sI h (b5 + 2) (z_ix x2) x3)) rfl ?_
        exact k_r rfl rfl rfl H
set_option maxRecDepth 20000 in
theorem X_131 (x1 : Int32) (x2 : Int32) (x3 : Int32) (h : zH) (W : CW h)  {Q : Int32 → zH → Prop} (H : if (0 : Int32) ≤ x1 ∧ x1 ≤ (3 : Int32) then ((0 ≤ x1.toInt ∧ x1.toInt < 4) ∧ ((z_rv h 4 (z_ix x1) = none → Q (-11 : Int32) h) ∧ (∀ b3, z_rv h 4 (z_ix x1) = some b3 → if (0 : Int32) ≤ x2 ∧ x2 ≤ ((Int32.ofNat (z_ln h (b3 + 1))) - (1 : Int32)) then (if (0 : Int32) ≤ x2 ∧ x2 ≤ ((Int32.ofNat (z_ln h (b3 + 1))) - (1 : Int32)) then (∀ m6 : Int32, m6 = (if (z_iv h b3 0) = 0 then x3.toInt8.toInt32 else (if (z_iv h b3 0) = (1 : Int32) then x3.toInt16.toInt32 else x3)) → (0 ≤ x2.toInt ∧ x2.toInt < ((z_ln h (b3 + 1)) : Int)) ∧ Q (1 : Int32) (z_sI h (b3 + 1) (z_ix x2) m6)) else (Q (1 : Int32) h)) else (Q (-12 : Int32) h)))) else (Q (-1 : Int32) h)) : KK z_pI 131 [.ref 0, .int x1, .int x2, .int x3] h Q := by
  refine k_K (L := [some (.ref 0), some (.int x1), some (.int x2), some (.int x3), none]) rfl ?_
  refine k_n 1 (pc' := 1) (L' := [some (.ref 0), some (.int x1), some (.int x2), some (.int x3), none]) (S' := [.int x1]) (h' := h) rfl ?_
  refine k_cI 142 1 rfl rfl rfl (A := [.int x1]) rfl rfl rfl (rest := []) rfl (z_tyI rfl rfl) ?_
  refine C_142 x1 h    ?_
  refine k_b (g := z_bt ((0 : Int32) ≤ x1 ∧ x1 ≤ (3 : Int32)) = 0) (pc' := 7) (L' := [some (.ref 0), some (.int x1), some (.int x2), some (.int x3), none]) (S' := []) (pc2 := 9) (L2 := [some (.ref 0), some (.int x1), some (.int x2), some (.int x3), none]) (S2 := []) (h' := h) (h2 := h) rfl rfl (fun hc => ?_) (fun hc => ?_)
  · have hc := z_bt_0.mp hc
    rw [if_neg hc] at H
    refine k_n 1 (pc' := 8) (L' := [some (.ref 0), some (.int x1), some (.int x2), some (.int x3), none]) (S' := [.int (-1 : Int32)]) (h' := h) rfl ?_
    exact k_r rfl rfl rfl H
  · have hc := Decidable.not_not.mp (fun q => hc (z_bt_0.mpr q))
    rw [if_pos hc] at H
    refine k_n 1 (pc' := 10) (L' := [some (.ref 0), some (.int x1), some (.int x2), some (.int x3), none]) (S' := [.ref 0]) (h' := h) rfl ?_
    refine k_gS (b := 4) rfl W.t0 (W.abOf (t := 11) (j := 3) (o := 4) (n := 4) (by decide) W.t0).1 ?_
    refine k_n 1 (pc' := 14) (L' := [some (.ref 0), some (.int x1), some (.int x2), some (.int x3), none]) (S' := [.int x1, .ref 4]) (h' := h) rfl ?_
    obtain ⟨o1, H⟩ := H
    obtain hb2 | ⟨b3, hb2⟩ := z_opt (z_rv h 4 (z_ix x1))
    · have H := H.1 hb2
      refine k_aN rfl (CW.tyOf (t := 11) (t' := 105) W (j := 3) W.t0 (W.abOf (t := 11) (j := 3) (o := 4) (n := 4) (by decide) W.t0).1 (by decide) rfl) rfl (W.abOf (t := 11) (j := 3) (o := 4) (n := 4) (by decide) W.t0).2 o1 hb2 ?_
      refine k_n 4 (pc' := 24) (L' := [some (.ref 0), some (.int x1), some (.int x2), some (.int x3), some (.null)]) (S' := [.int (-11 : Int32)]) (h' := h) rfl ?_
      exact k_r rfl rfl rfl H
    · have H := H.2 b3 hb2
      have t4 : z_tg h b3 = 8 := (CW.tyOf (t := 105) (t' := 8) W (CW.tyOf (t := 11) (t' := 105) W (j := 3) W.t0 (W.abOf (t := 11) (j := 3) (o := 4) (n := 4) (by decide) W.t0).1 (by decide) rfl) hb2 (by decide) rfl)
      refine k_aS rfl (CW.tyOf (t := 11) (t' := 105) W (j := 3) W.t0 (W.abOf (t := 11) (j := 3) (o := 4) (n := 4) (by decide) W.t0).1 (by decide) rfl) rfl (W.abOf (t := 11) (j := 3) (o := 4) (n := 4) (by decide) W.t0).2 o1 hb2 ?_
      refine k_n 5 (pc' := 28) (L' := [some (.ref 0), some (.int x1), some (.int x2), some (.int x3), some (.ref b3)]) (S' := [.int x2, .ref b3]) (h' := h) rfl ?_
      refine k_cI 88 2 rfl rfl rfl (A := [.ref b3, .int x2]) rfl rfl (z_rok_ref t4) (rest := []) rfl (z_tyI rfl rfl) ?_
      refine C_88 b3 x2 h W t4  ?_
      refine k_b (g := z_bt ((0 : Int32) ≤ x2 ∧ x2 ≤ ((Int32.ofNat (z_ln h (b3 + 1))) - (1 : Int32))) = 0) (pc' := 34) (L' := [some (.ref 0), some (.int x1), some (.int x2), some (.int x3), some (.ref b3)]) (S' := []) (pc2 := 37) (L2 := [some (.ref 0), some (.int x1), some (.int x2), some (.int x3), some (.ref b3)]) (S2 := []) (h' := h) (h2 := h) rfl rfl (fun hc => ?_) (fun hc => ?_)
      · have hc := z_bt_0.mp hc
        rw [if_neg hc] at H
        refine k_n 1 (pc' := 36) (L' := [some (.ref 0), some (.int x1), some (.int x2), some (.int x3), some (.ref b3)]) (S' := [.int (-12 : Int32)]) (h' := h) rfl ?_
        exact k_r rfl rfl rfl H
      · have hc := Decidable.not_not.mp (fun q => hc (z_bt_0.mpr q))
        rw [if_pos hc] at H
        refine k_n 3 (pc' := 41) (L' := [some (.ref 0), some (.int x1), some (.int x2), some (.int x3), some (.ref b3)]) (S' := [.int x3, .int x2, .ref b3]) (h' := h) rfl ?_
        refine k_cV 89 3 rfl rfl rfl (A := [.ref b3, .int x2, .int x3]) rfl rfl (z_rok_ref t4) (rest := []) rfl rfl ?_
        refine X_89 b3 x2 x3 h W t4 ?_
        by_cases c5 : (0 : Int32) ≤ x2 ∧ x2 ≤ ((Int32.ofNat (z_ln h (b3 + 1))) - (1 : Int32))
        · rw [if_pos c5] at H ⊢
          intro m6 em6
          have H := H m6 em6
          obtain ⟨o7, H⟩ := H
          refine ⟨o7, ?_⟩
          refine k_n 1 (pc' := 45) (L' := [some (.ref 0), some (.int x1), some (.int x2), some (.int x3), some (.ref b3)]) (S' := [.int (1 : Int32)]) (h' := (z_sI h (b3 + 1) (z_ix x2) m6)) rfl ?_
          exact k_r rfl rfl rfl H
        · rw [if_neg c5] at H ⊢
          refine k_n 1 (pc' := 45) (L' := [some (.ref 0), some (.int x1), some (.int x2), some (.int x3), some (.ref b3)]) (S' := [.int (1 : Int32)]) (h' := h) rfl ?_
          exact k_r rfl rfl rfl H
set_option maxRecDepth 20000 in
theorem X_99 (x1 : Int32) (x2 : Int32) (x3 : Int32) (x4 : Int32) (h : zH) (W : CW h)  {Q : Int32 → zH → Prop} (H : if (0 : Int32) ≤ x1 ∧ x1 ≤ (99 : Int32) then (if (0 : Int32) ≤ x2 ∧ x2 ≤ (99 : Int32) then (if (1 : Int32) ≤ x3 ∧ x3 ≤ (300 : Int32) then (if (1 : Int32) ≤ x4 ∧ x4 ≤ (99 : Int32) then (if (z_iv h 0 12) < 0 then (Q (-3 : Int32) h) else (if (z_iv h 0 12) < (6 : Int32) then (KK z_pV 43 [.ref (z_nx h), .int x1, .int x2, .int x3, .int x4] (z_nw h 4 0 11) (fun _ h_ => KG z_pI 99 76 [some (.ref 0), some (.int x1), some (.int x2), some (.int x3), some (.int x4)] [.ref (z_nx h), .int (z_iv h 0 12), .ref 1] h_ Q)) else (Q (-3 : Int32) h))) else (Q (-1 : Int32) h)) else (Q (-1 : Int32) h)) else (Q (-1 : Int32) h)) else (Q (-1 : Int32) h)) : KK z_pI 99 [.ref 0, .int x1, .int x2, .int x3, .int x4] h Q := by
  refine k_K (L := [some (.ref 0), some (.int x1), some (.int x2), some (.int x3), some (.int x4)]) rfl ?_
  refine k_n 3 (pc' := 4) (L' := [some (.ref 0), some (.int x1), some (.int x2), some (.int x3), some (.int x4)]) (S' := [.int (99 : Int32), .int (0 : Int32), .int x1]) (h' := h) rfl ?_
  refine k_cI 135 3 rfl rfl rfl (A := [.int x1, .int (0 : Int32), .int (99 : Int32)]) rfl rfl rfl (rest := []) rfl (z_tyI rfl rfl) ?_
  refine c_within x1 (0 : Int32) (99 : Int32) h ?_
  refine k_b (g := z_bt ((0 : Int32) ≤ x1 ∧ x1 ≤ (99 : Int32)) = 0) (pc' := 35) (L' := [some (.ref 0), some (.int x1), some (.int x2), some (.int x3), some (.int x4)]) (S' := []) (pc2 := 10) (L2 := [some (.ref 0), some (.int x1), some (.int x2), some (.int x3), some (.int x4)]) (S2 := []) (h' := h) (h2 := h) rfl rfl (fun hc => ?_) (fun hc => ?_)
  · have hc := z_bt_0.mp hc
    rw [if_neg hc] at H
    refine k_n 1 (pc' := 36) (L' := [some (.ref 0), some (.int x1), some (.int x2), some (.int x3), some (.int x4)]) (S' := [.int (-1 : Int32)]) (h' := h) rfl ?_
    exact k_r rfl rfl rfl H
  · have hc := Decidable.not_not.mp (fun q => hc (z_bt_0.mpr q))
    rw [if_pos hc] at H
    refine k_n 3 (pc' := 14) (L' := [some (.ref 0), some (.int x1), some (.int x2), some (.int x3), some (.int x4)]) (S' := [.int (99 : Int32), .int (0 : Int32), .int x2]) (h' := h) rfl ?_
    refine k_cI 135 3 rfl rfl rfl (A := [.int x2, .int (0 : Int32), .int (99 : Int32)]) rfl rfl rfl (rest := []) rfl (z_tyI rfl rfl) ?_
    refine c_within x2 (0 : Int32) (99 : Int32) h ?_
    refine k_b (g := z_bt ((0 : Int32) ≤ x2 ∧ x2 ≤ (99 : Int32)) = 0) (pc' := 35) (L' := [some (.ref 0), some (.int x1), some (.int x2), some (.int x3), some (.int x4)]) (S' := []) (pc2 := 20) (L2 := [some (.ref 0), some (.int x1), some (.int x2), some (.int x3), some (.int x4)]) (S2 := []) (h' := h) (h2 := h) rfl rfl (fun hc => ?_) (fun hc => ?_)
    · have hc := z_bt_0.mp hc
      rw [if_neg hc] at H
      refine k_n 1 (pc' := 36) (L' := [some (.ref 0), some (.int x1), some (.int x2), some (.int x3), some (.int x4)]) (S' := [.int (-1 : Int32)]) (h' := h) rfl ?_
      exact k_r rfl rfl rfl H
    · have hc := Decidable.not_not.mp (fun q => hc (z_bt_0.mpr q))
      rw [if_pos hc] at H
      refine k_n 1 (pc' := 21) (L' := [some (.ref 0), some (.int x1), some (.int x2), some (.int x3), some (.int x4)]) (S' := [.int x3]) (h' := h) rfl ?_
      refine k_cI 136 1 rfl rfl rfl (A := [.int x3]) rfl rfl rfl (rest := []) rfl (z_tyI rfl rfl) ?_
      refine C_136 x3 h    ?_
      refine k_b (g := z_bt ((1 : Int32) ≤ x3 ∧ x3 ≤ (300 : Int32)) = 0) (pc' := 35) (L' := [some (.ref 0), some (.int x1), some (.int x2), some (.int x3), some (.int x4)]) (S' := []) (pc2 := 27) (L2 := [some (.ref 0), some (.int x1), some (.int x2), some (.int x3), some (.int x4)]) (S2 := []) (h' := h) (h2 := h) rfl rfl (fun hc => ?_) (fun hc => ?_)
      · have hc := z_bt_0.mp hc
        rw [if_neg hc] at H
        refine k_n 1 (pc' := 36) (L' := [some (.ref 0), some (.int x1), some (.int x2), some (.int x3), some (.int x4)]) (S' := [.int (-1 : Int32)]) (h' := h) rfl ?_
        exact k_r rfl rfl rfl H
      · have hc := Decidable.not_not.mp (fun q => hc (z_bt_0.mpr q))
        rw [if_pos hc] at H
        refine k_n 1 (pc' := 29) (L' := [some (.ref 0), some (.int x1), some (.int x2), some (.int x3), some (.int x4)]) (S' := [.int x4]) (h' := h) rfl ?_
        refine k_cI 137 1 rfl rfl rfl (A := [.int x4]) rfl rfl rfl (rest := []) rfl (z_tyI rfl rfl) ?_
        refine C_137 x4 h    ?_
        refine k_b (g := z_bt ((1 : Int32) ≤ x4 ∧ x4 ≤ (99 : Int32)) = 0) (pc' := 35) (L' := [some (.ref 0), some (.int x1), some (.int x2), some (.int x3), some (.int x4)]) (S' := []) (pc2 := 37) (L2 := [some (.ref 0), some (.int x1), some (.int x2), some (.int x3), some (.int x4)]) (S2 := []) (h' := h) (h2 := h) rfl rfl (fun hc => ?_) (fun hc => ?_)
        · have hc := z_bt_0.mp hc
          rw [if_neg hc] at H
          refine k_n 1 (pc' := 36) (L' := [some (.ref 0), some (.int x1), some (.int x2), some (.int x3), some (.int x4)]) (S' := [.int (-1 : Int32)]) (h' := h) rfl ?_
          exact k_r rfl rfl rfl H
        · have hc := Decidable.not_not.mp (fun q => hc (z_bt_0.mpr q))
          rw [if_pos hc] at H
          refine k_n 1 (pc' := 38) (L' := [some (.ref 0), some (.int x1), some (.int x2), some (.int x3), some (.int x4)]) (S' := [.ref 0]) (h' := h) rfl ?_
          refine k_gI rfl rfl W.t0 ?_
          refine k_b (g := (z_iv h 0 12) < 0) (pc' := 53) (L' := [some (.ref 0), some (.int x1), some (.int x2), some (.int x3), some (.int x4)]) (S' := []) (pc2 := 44) (L2 := [some (.ref 0), some (.int x1), some (.int x2), some (.int x3), some (.int x4)]) (S2 := []) (h' := h) (h2 := h) rfl rfl (fun hc => ?_) (fun hc => ?_)
          · have hc := hc
            rw [if_pos hc] at H
            refine k_n 1 (pc' := 55) (L' := [some (.ref 0), some (.int x1), some (.int x2), some (.int x3), some (.int x4)]) (S' := [.int (-3 : Int32)]) (h' := h) rfl ?_
            exact k_r rfl rfl rfl H
          · have hc := hc
            rw [if_neg hc] at H
            refine k_n 1 (pc' := 45) (L' := [some (.ref 0), some (.int x1), some (.int x2), some (.int x3), some (.int x4)]) (S' := [.ref 0]) (h' := h) rfl ?_
            refine k_gI rfl rfl W.t0 ?_
            refine k_n 1 (pc' := 50) (L' := [some (.ref 0), some (.int x1), some (.int x2), some (.int x3), some (.int x4)]) (S' := [.int (6 : Int32), .int (z_iv h 0 12)]) (h' := h) rfl ?_
            refine k_b (g := (z_iv h 0 12) < (6 : Int32)) (pc' := 56) (L' := [some (.ref 0), some (.int x1), some (.int x2), some (.int x3), some (.int x4)]) (S' := []) (pc2 := 53) (L2 := [some (.ref 0), some (.int x1), some (.int x2), some (.int x3), some (.int x4)]) (S2 := []) (h' := h) (h2 := h) rfl rfl (fun hc => ?_) (fun hc => ?_)
            · have hc := hc
              rw [if_pos hc] at H
              refine k_n 1 (pc' := 57) (L' := [some (.ref 0), some (.int x1), some (.int x2), some (.int x3), some (.int x4)]) (S' := [.ref 0]) (h' := h) rfl ?_
              refine k_gS (b := 1) rfl W.t0 (W.abOf (t := 11) (j := 0) (o := 1) (n := 6) (by decide) W.t0).1 ?_
              refine k_n 1 (pc' := 61) (L' := [some (.ref 0), some (.int x1), some (.int x2), some (.int x3), some (.int x4)]) (S' := [.ref 0, .ref 1]) (h' := h) rfl ?_
              refine k_gI rfl rfl W.t0 ?_
              refine k_n 1 (pc' := 67) (L' := [some (.ref 0), some (.int x1), some (.int x2), some (.int x3), some (.int x4)]) (S' := [.ref (z_nx h), .int (z_iv h 0 12), .ref 1]) (h' := (z_nw h 4 0 11)) rfl ?_
              have t1 : z_tg (z_nw h 4 0 11) 0 = 11 := CW.keep W W.t0 (by decide)
              have t2 : z_tg (z_nw h 4 0 11) 1 = 102 := CW.keep W (CW.tyOf (t := 11) (t' := 102) W (j := 0) W.t0 (W.abOf (t := 11) (j := 0) (o := 1) (n := 6) (by decide) W.t0).1 (by decide) rfl) (by decide)
              have t3 : z_tg (z_nw h 4 0 11) (z_nx h) = 4 := z_nw_at
              refine k_n 5 (pc' := 73) (L' := [some (.ref 0), some (.int x1), some (.int x2), some (.int x3), some (.int x4)]) (S' := [.int x4, .int x3, .int x2, .int x1, .ref (z_nx h), .ref (z_nx h), .int (z_iv h 0 12), .ref 1]) (h' := (z_nw h 4 0 11)) rfl ?_
              refine k_cV 43 5 rfl rfl rfl (A := [.ref (z_nx h), .int x1, .int x2, .int x3, .int x4]) rfl rfl (z_rok_ref t3) (rest := [.ref (z_nx h), .int (z_iv h 0 12), .ref 1]) rfl rfl ?_
              exact H
            · have hc := hc
              rw [if_neg hc] at H
              refine k_n 1 (pc' := 55) (L' := [some (.ref 0), some (.int x1), some (.int x2), some (.int x3), some (.int x4)]) (S' := [.int (-3 : Int32)]) (h' := h) rfl ?_
              exact k_r rfl rfl rfl H
set_option maxRecDepth 20000 in
theorem X_99_76 (y1 : Int32) (y2 : Int32) (y3 : Int32) (y4 : Int32) (b0 : Nat) (s1 : Int32) (h : zH) (W : CW h) (Tb0 : z_tg h b0 = 4) (Tb2 : z_tg h 1 = 102) (Nb2 : z_ln h 1 = 6) {Q : Int32 → zH → Prop} (H : (0 ≤ s1.toInt ∧ s1.toInt < 6) ∧ Q (((z_iv h 0 12) + (1 : Int32)) - (1 : Int32)) (z_sI (z_sR h 1 (z_ix s1) (some b0)) 0 12 ((z_iv h 0 12) + (1 : Int32)))) : KG z_pI 99 76 [some (.ref 0), some (.int y1), some (.int y2), some (.int y3), some (.int y4)] [.ref b0, .int s1, .ref 1] h Q := by
  obtain ⟨o4, H⟩ := H
  refine k_as rfl Tb2 rfl Nb2 o4 Tb0 ?_
  refine k_n 2 (pc' := 79) (L' := [some (.ref 0), some (.int y1), some (.int y2), some (.int y3), some (.int y4)]) (S' := [.ref 0, .ref 0]) (h' := (z_sR h 1 (z_ix s1) (some b0))) rfl ?_
  refine k_gV rfl rfl (z_tgR W.t0) (v_sR rfl) ?_
  refine k_n 2 (pc' := 84) (L' := [some (.ref 0), some (.int y1), some (.int y2), some (.int y3), some (.int y4)]) (S' := [.int ((z_iv h 0 12) + (1 : Int32)), .ref 0]) (h' := (z_sR h 1 (z_ix s1) (some b0))) rfl ?_
  refine k_pI rfl (z_tgR W.t0) ?_
  refine k_n 1 (pc' := 88) (L' := [some (.ref 0), some (.int y1), some (.int y2), some (.int y3), some (.int y4)]) (S' := [.ref 0]) (h' := (z_sI (z_sR h 1 (z_ix s1) (some b0)) 0 12 ((z_iv h 0 12) + (1 : Int32)))) rfl ?_
  refine k_gV rfl rfl (z_tgI (z_tgR W.t0)) v_at ?_
  refine k_n 2 (pc' := 93) (L' := [some (.ref 0), some (.int y1), some (.int y2), some (.int y3), some (.int y4)]) (S' := [.int (((z_iv h 0 12) + (1 : Int32)) - (1 : Int32))]) (h' := (z_sI (z_sR h 1 (z_ix s1) (some b0)) 0 12 ((z_iv h 0 12) + (1 : Int32)))) rfl ?_
  exact k_r rfl rfl rfl H
set_option maxRecDepth 20000 in
theorem X_102 (x1 : Int32) (x2 : Int32) (x3 : Int32) (x4 : Int32) (x5 : Int32) (x6 : Int32) (h : zH) (W : CW h)  {Q : Int32 → zH → Prop} (H : ∃ v1 : Option Nat, KV z_pA 148 [.ref 0, .int x1] h v1 ∧ (∀ b_, v1 = some b_ → z_tg h b_ = 4) ∧ ((v1 = none → Q (-1 : Int32) h) ∧ (∀ b5, v1 = some b5 → if (0 : Int32) ≤ x2 ∧ x2 ≤ (2 : Int32) then (if (1 : Int32) ≤ x3 ∧ x3 ≤ (99 : Int32) then (if (1 : Int32) ≤ x4 ∧ x4 ≤ (9999 : Int32) then (if (1 : Int32) ≤ x5 ∧ x5 ≤ (9999 : Int32) then (if (0 : Int32) ≤ x6 ∧ x6 ≤ (255 : Int32) then (if (z_iv h 0 13) < 0 then (Q (-3 : Int32) h) else (if (z_iv h 0 13) < (12 : Int32) then ((0 ≤ (z_iv h 0 13).toInt ∧ (z_iv h 0 13).toInt < 12) ∧ Q (((z_iv h 0 13) + (1 : Int32)) - (1 : Int32)) (z_sI (z_sR (z_sR (z_sI (z_sI (z_sI (z_sI (z_sI (z_sI (z_sI (z_sI (z_nw h 3 0 16) (z_nx h) 0 x2) (z_nx h) 1 x3) (z_nx h) 2 x4) (z_nx h) 3 x5) (z_nx h) 4 x6) (z_nx h) 5 x1) (z_nx h) 6 (z_iv h 0 13)) (z_nx h) 13 (z_iv h 0 11)) b5 10 (some (z_nx h))) 2 (z_ix (z_iv h 0 13)) (some (z_nx h))) 0 13 ((z_iv h 0 13) + (1 : Int32)))) else (Q (-3 : Int32) h))) else (Q (-1 : Int32) h)) else (Q (-1 : Int32) h)) else (Q (-1 : Int32) h)) else (Q (-1 : Int32) h)) else (Q (-1 : Int32) h)))) : KK z_pI 102 [.ref 0, .int x1, .int x2, .int x3, .int x4, .int x5, .int x6] h Q := by
  refine k_K (L := [some (.ref 0), some (.int x1), some (.int x2), some (.int x3), some (.int x4), some (.int x5), some (.int x6), none, none]) rfl ?_
  refine k_n 2 (pc' := 2) (L' := [some (.ref 0), some (.int x1), some (.int x2), some (.int x3), some (.int x4), some (.int x5), some (.int x6), none, none]) (S' := [.int x1, .ref 0]) (h' := h) rfl ?_
  refine k_cA 148 2 "SavedThird$Mine" rfl rfl rfl (A := [.ref 0, .int x1]) rfl rfl (z_rok_ref W.t0) (rest := []) rfl rfl (by decide) ?_
  obtain ⟨v1, k2, tv3, H⟩ := H
  refine k_P k2 ?_
  obtain hb4 | ⟨b5, hb4⟩ := z_opt (v1)
  · have H := H.1 hb4
    refine k_oN hb4 ?_
    refine k_n 4 (pc' := 57) (L' := [some (.ref 0), some (.int x1), some (.int x2), some (.int x3), some (.int x4), some (.int x5), some (.int x6), some (.null), none]) (S' := [.int (-1 : Int32)]) (h' := h) rfl ?_
    exact k_r rfl rfl rfl H
  · have H := H.2 b5 hb4
    have t6 : z_tg h b5 = 4 := tv3 _ hb4
    refine k_oS hb4 ?_
    refine k_n 6 (pc' := 15) (L' := [some (.ref 0), some (.int x1), some (.int x2), some (.int x3), some (.int x4), some (.int x5), some (.int x6), some (.ref b5), none]) (S' := [.int (2 : Int32), .int (0 : Int32), .int x2]) (h' := h) rfl ?_
    refine k_cI 135 3 rfl rfl rfl (A := [.int x2, .int (0 : Int32), .int (2 : Int32)]) rfl rfl rfl (rest := []) rfl (z_tyI rfl rfl) ?_
    refine c_within x2 (0 : Int32) (2 : Int32) h ?_
    refine k_b (g := z_bt ((0 : Int32) ≤ x2 ∧ x2 ≤ (2 : Int32)) = 0) (pc' := 56) (L' := [some (.ref 0), some (.int x1), some (.int x2), some (.int x3), some (.int x4), some (.int x5), some (.int x6), some (.ref b5), none]) (S' := []) (pc2 := 21) (L2 := [some (.ref 0), some (.int x1), some (.int x2), some (.int x3), some (.int x4), some (.int x5), some (.int x6), some (.ref b5), none]) (S2 := []) (h' := h) (h2 := h) rfl rfl (fun hc => ?_) (fun hc => ?_)
    · have hc := z_bt_0.mp hc
      rw [if_neg hc] at H
      refine k_n 1 (pc' := 57) (L' := [some (.ref 0), some (.int x1), some (.int x2), some (.int x3), some (.int x4), some (.int x5), some (.int x6), some (.ref b5), none]) (S' := [.int (-1 : Int32)]) (h' := h) rfl ?_
      exact k_r rfl rfl rfl H
    · have hc := Decidable.not_not.mp (fun q => hc (z_bt_0.mpr q))
      rw [if_pos hc] at H
      refine k_n 1 (pc' := 22) (L' := [some (.ref 0), some (.int x1), some (.int x2), some (.int x3), some (.int x4), some (.int x5), some (.int x6), some (.ref b5), none]) (S' := [.int x3]) (h' := h) rfl ?_
      refine k_cI 138 1 rfl rfl rfl (A := [.int x3]) rfl rfl rfl (rest := []) rfl (z_tyI rfl rfl) ?_
      refine C_138 x3 h    ?_
      refine k_b (g := z_bt ((1 : Int32) ≤ x3 ∧ x3 ≤ (99 : Int32)) = 0) (pc' := 56) (L' := [some (.ref 0), some (.int x1), some (.int x2), some (.int x3), some (.int x4), some (.int x5), some (.int x6), some (.ref b5), none]) (S' := []) (pc2 := 28) (L2 := [some (.ref 0), some (.int x1), some (.int x2), some (.int x3), some (.int x4), some (.int x5), some (.int x6), some (.ref b5), none]) (S2 := []) (h' := h) (h2 := h) rfl rfl (fun hc => ?_) (fun hc => ?_)
      · have hc := z_bt_0.mp hc
        rw [if_neg hc] at H
        refine k_n 1 (pc' := 57) (L' := [some (.ref 0), some (.int x1), some (.int x2), some (.int x3), some (.int x4), some (.int x5), some (.int x6), some (.ref b5), none]) (S' := [.int (-1 : Int32)]) (h' := h) rfl ?_
        exact k_r rfl rfl rfl H
      · have hc := Decidable.not_not.mp (fun q => hc (z_bt_0.mpr q))
        rw [if_pos hc] at H
        refine k_n 1 (pc' := 30) (L' := [some (.ref 0), some (.int x1), some (.int x2), some (.int x3), some (.int x4), some (.int x5), some (.int x6), some (.ref b5), none]) (S' := [.int x4]) (h' := h) rfl ?_
        refine k_cI 139 1 rfl rfl rfl (A := [.int x4]) rfl rfl rfl (rest := []) rfl (z_tyI rfl rfl) ?_
        refine C_139 x4 h    ?_
        refine k_b (g := z_bt ((1 : Int32) ≤ x4 ∧ x4 ≤ (9999 : Int32)) = 0) (pc' := 56) (L' := [some (.ref 0), some (.int x1), some (.int x2), some (.int x3), some (.int x4), some (.int x5), some (.int x6), some (.ref b5), none]) (S' := []) (pc2 := 36) (L2 := [some (.ref 0), some (.int x1), some (.int x2), some (.int x3), some (.int x4), some (.int x5), some (.int x6), some (.ref b5), none]) (S2 := []) (h' := h) (h2 := h) rfl rfl (fun hc => ?_) (fun hc => ?_)
        · have hc := z_bt_0.mp hc
          rw [if_neg hc] at H
          refine k_n 1 (pc' := 57) (L' := [some (.ref 0), some (.int x1), some (.int x2), some (.int x3), some (.int x4), some (.int x5), some (.int x6), some (.ref b5), none]) (S' := [.int (-1 : Int32)]) (h' := h) rfl ?_
          exact k_r rfl rfl rfl H
        · have hc := Decidable.not_not.mp (fun q => hc (z_bt_0.mpr q))
          rw [if_pos hc] at H
          refine k_n 1 (pc' := 38) (L' := [some (.ref 0), some (.int x1), some (.int x2), some (.int x3), some (.int x4), some (.int x5), some (.int x6), some (.ref b5), none]) (S' := [.int x5]) (h' := h) rfl ?_
          refine k_cI 139 1 rfl rfl rfl (A := [.int x5]) rfl rfl rfl (rest := []) rfl (z_tyI rfl rfl) ?_
          refine C_139 x5 h    ?_
          refine k_b (g := z_bt ((1 : Int32) ≤ x5 ∧ x5 ≤ (9999 : Int32)) = 0) (pc' := 56) (L' := [some (.ref 0), some (.int x1), some (.int x2), some (.int x3), some (.int x4), some (.int x5), some (.int x6), some (.ref b5), none]) (S' := []) (pc2 := 44) (L2 := [some (.ref 0), some (.int x1), some (.int x2), some (.int x3), some (.int x4), some (.int x5), some (.int x6), some (.ref b5), none]) (S2 := []) (h' := h) (h2 := h) rfl rfl (fun hc => ?_) (fun hc => ?_)
          · have hc := z_bt_0.mp hc
            rw [if_neg hc] at H
            refine k_n 1 (pc' := 57) (L' := [some (.ref 0), some (.int x1), some (.int x2), some (.int x3), some (.int x4), some (.int x5), some (.int x6), some (.ref b5), none]) (S' := [.int (-1 : Int32)]) (h' := h) rfl ?_
            exact k_r rfl rfl rfl H
          · have hc := Decidable.not_not.mp (fun q => hc (z_bt_0.mpr q))
            rw [if_pos hc] at H
            refine k_n 3 (pc' := 50) (L' := [some (.ref 0), some (.int x1), some (.int x2), some (.int x3), some (.int x4), some (.int x5), some (.int x6), some (.ref b5), none]) (S' := [.int (255 : Int32), .int (0 : Int32), .int x6]) (h' := h) rfl ?_
            refine k_cI 135 3 rfl rfl rfl (A := [.int x6, .int (0 : Int32), .int (255 : Int32)]) rfl rfl rfl (rest := []) rfl (z_tyI rfl rfl) ?_
            refine c_within x6 (0 : Int32) (255 : Int32) h ?_
            refine k_b (g := z_bt ((0 : Int32) ≤ x6 ∧ x6 ≤ (255 : Int32)) = 0) (pc' := 56) (L' := [some (.ref 0), some (.int x1), some (.int x2), some (.int x3), some (.int x4), some (.int x5), some (.int x6), some (.ref b5), none]) (S' := []) (pc2 := 58) (L2 := [some (.ref 0), some (.int x1), some (.int x2), some (.int x3), some (.int x4), some (.int x5), some (.int x6), some (.ref b5), none]) (S2 := []) (h' := h) (h2 := h) rfl rfl (fun hc => ?_) (fun hc => ?_)
            · have hc := z_bt_0.mp hc
              rw [if_neg hc] at H
              refine k_n 1 (pc' := 57) (L' := [some (.ref 0), some (.int x1), some (.int x2), some (.int x3), some (.int x4), some (.int x5), some (.int x6), some (.ref b5), none]) (S' := [.int (-1 : Int32)]) (h' := h) rfl ?_
              exact k_r rfl rfl rfl H
            · have hc := Decidable.not_not.mp (fun q => hc (z_bt_0.mpr q))
              rw [if_pos hc] at H
              refine k_n 1 (pc' := 59) (L' := [some (.ref 0), some (.int x1), some (.int x2), some (.int x3), some (.int x4), some (.int x5), some (.int x6), some (.ref b5), none]) (S' := [.ref 0]) (h' := h) rfl ?_
              refine k_gI rfl rfl W.t0 ?_
              refine k_b (g := (z_iv h 0 13) < 0) (pc' := 74) (L' := [some (.ref 0), some (.int x1), some (.int x2), some (.int x3), some (.int x4), some (.int x5), some (.int x6), some (.ref b5), none]) (S' := []) (pc2 := 65) (L2 := [some (.ref 0), some (.int x1), some (.int x2), some (.int x3), some (.int x4), some (.int x5), some (.int x6), some (.ref b5), none]) (S2 := []) (h' := h) (h2 := h) rfl rfl (fun hc => ?_) (fun hc => ?_)
              · have hc := hc
                rw [if_pos hc] at H
                refine k_n 1 (pc' := 76) (L' := [some (.ref 0), some (.int x1), some (.int x2), some (.int x3), some (.int x4), some (.int x5), some (.int x6), some (.ref b5), none]) (S' := [.int (-3 : Int32)]) (h' := h) rfl ?_
                exact k_r rfl rfl rfl H
              · have hc := hc
                rw [if_neg hc] at H
                refine k_n 1 (pc' := 66) (L' := [some (.ref 0), some (.int x1), some (.int x2), some (.int x3), some (.int x4), some (.int x5), some (.int x6), some (.ref b5), none]) (S' := [.ref 0]) (h' := h) rfl ?_
                refine k_gI rfl rfl W.t0 ?_
                refine k_n 1 (pc' := 71) (L' := [some (.ref 0), some (.int x1), some (.int x2), some (.int x3), some (.int x4), some (.int x5), some (.int x6), some (.ref b5), none]) (S' := [.int (12 : Int32), .int (z_iv h 0 13)]) (h' := h) rfl ?_
                refine k_b (g := (z_iv h 0 13) < (12 : Int32)) (pc' := 77) (L' := [some (.ref 0), some (.int x1), some (.int x2), some (.int x3), some (.int x4), some (.int x5), some (.int x6), some (.ref b5), none]) (S' := []) (pc2 := 74) (L2 := [some (.ref 0), some (.int x1), some (.int x2), some (.int x3), some (.int x4), some (.int x5), some (.int x6), some (.ref b5), none]) (S2 := []) (h' := h) (h2 := h) rfl rfl (fun hc => ?_) (fun hc => ?_)
                · have hc := hc
                  rw [if_pos hc] at H
                  refine k_n 1 (pc' := 80) (L' := [some (.ref 0), some (.int x1), some (.int x2), some (.int x3), some (.int x4), some (.int x5), some (.int x6), some (.ref b5), none]) (S' := [.ref (z_nx h)]) (h' := (z_nw h 3 0 16)) rfl ?_
                  have t7 : z_tg (z_nw h 3 0 16) 0 = 11 := CW.keep W W.t0 (by decide)
                  have t8 : z_tg (z_nw h 3 0 16) b5 = 4 := CW.keep W t6 (by decide)
                  have t9 : z_tg (z_nw h 3 0 16) (z_nx h) = 3 := z_nw_at
                  refine k_n 6 (pc' := 89) (L' := [some (.ref 0), some (.int x1), some (.int x2), some (.int x3), some (.int x4), some (.int x5), some (.int x6), some (.ref b5), none]) (S' := [.int x6, .int x5, .int x4, .int x3, .int x2, .ref (z_nx h), .ref (z_nx h)]) (h' := (z_nw h 3 0 16)) rfl ?_
                  refine k_cV 36 6 rfl rfl rfl (A := [.ref (z_nx h), .int x2, .int x3, .int x4, .int x5, .int x6]) rfl rfl (z_rok_ref t9) (rest := [.ref (z_nx h)]) rfl rfl ?_
                  refine X_36 (z_nx h) x2 x3 x4 x5 x6 (z_nw h 3 0 16) (CW.nw W (by decide)) t9 ?_
                  refine k_n 4 (pc' := 98) (L' := [some (.ref 0), some (.int x1), some (.int x2), some (.int x3), some (.int x4), some (.int x5), some (.int x6), some (.ref b5), some (.ref (z_nx h))]) (S' := [.ref 0, .int x1, .ref (z_nx h)]) (h' := (z_sI (z_sI (z_sI (z_sI (z_sI (z_nw h 3 0 16) (z_nx h) 0 x2) (z_nx h) 1 x3) (z_nx h) 2 x4) (z_nx h) 3 x5) (z_nx h) 4 x6)) rfl ?_
                  refine k_gV rfl rfl (z_tgI (z_tgI (z_tgI (z_tgI (z_tgI t7))))) (v_nt (z_tgI (z_tgI (z_tgI (z_tgI t7)))) (z_tgI (z_tgI (z_tgI (z_tgI t9)))) (by decide) (v_nt (z_tgI (z_tgI (z_tgI t7))) (z_tgI (z_tgI (z_tgI t9))) (by decide) (v_nt (z_tgI (z_tgI t7)) (z_tgI (z_tgI t9)) (by decide) (v_nt (z_tgI t7) (z_tgI t9) (by decide) (v_nt t7 t9 (by decide) (v_nn W W.t0 (by decide) rfl)))))) ?_
                  refine k_n 1 (pc' := 102) (L' := [some (.ref 0), some (.int x1), some (.int x2), some (.int x3), some (.int x4), some (.int x5), some (.int x6), some (.ref b5), some (.ref (z_nx h))]) (S' := [.ref 0, .int (z_iv h 0 13), .int x1, .ref (z_nx h)]) (h' := (z_sI (z_sI (z_sI (z_sI (z_sI (z_nw h 3 0 16) (z_nx h) 0 x2) (z_nx h) 1 x3) (z_nx h) 2 x4) (z_nx h) 3 x5) (z_nx h) 4 x6)) rfl ?_
                  refine k_gV rfl rfl (z_tgI (z_tgI (z_tgI (z_tgI (z_tgI t7))))) (v_nt (z_tgI (z_tgI (z_tgI (z_tgI t7)))) (z_tgI (z_tgI (z_tgI (z_tgI t9)))) (by decide) (v_nt (z_tgI (z_tgI (z_tgI t7))) (z_tgI (z_tgI (z_tgI t9))) (by decide) (v_nt (z_tgI (z_tgI t7)) (z_tgI (z_tgI t9)) (by decide) (v_nt (z_tgI t7) (z_tgI t9) (by decide) (v_nt t7 t9 (by decide) (v_nn W W.t0 (by decide) rfl)))))) ?_
                  refine k_cV 37 4 rfl rfl rfl (A := [.ref (z_nx h), .int x1, .int (z_iv h 0 13), .int (z_iv h 0 11)]) rfl rfl (z_rok_ref (z_tgI (z_tgI (z_tgI (z_tgI (z_tgI t9)))))) (rest := []) rfl rfl ?_
                  refine X_37 (z_nx h) x1 (z_iv h 0 13) (z_iv h 0 11) (z_sI (z_sI (z_sI (z_sI (z_sI (z_nw h 3 0 16) (z_nx h) 0 x2) (z_nx h) 1 x3) (z_nx h) 2 x4) (z_nx h) 3 x5) (z_nx h) 4 x6) (CW.sI (CW.sI (CW.sI (CW.sI (CW.sI (CW.nw W (by decide))))))) (z_tgI (z_tgI (z_tgI (z_tgI (z_tgI t9))))) ?_
                  refine k_n 2 (pc' := 112) (L' := [some (.ref 0), some (.int x1), some (.int x2), some (.int x3), some (.int x4), some (.int x5), some (.int x6), some (.ref b5), some (.ref (z_nx h))]) (S' := [.ref (z_nx h), .ref b5]) (h' := (z_sI (z_sI (z_sI (z_sI (z_sI (z_sI (z_sI (z_sI (z_nw h 3 0 16) (z_nx h) 0 x2) (z_nx h) 1 x3) (z_nx h) 2 x4) (z_nx h) 3 x5) (z_nx h) 4 x6) (z_nx h) 5 x1) (z_nx h) 6 (z_iv h 0 13)) (z_nx h) 13 (z_iv h 0 11))) rfl ?_
                  refine k_pR rfl (z_tgI (z_tgI (z_tgI (z_tgI (z_tgI (z_tgI (z_tgI (z_tgI t8)))))))) ?_
                  refine k_n 1 (pc' := 116) (L' := [some (.ref 0), some (.int x1), some (.int x2), some (.int x3), some (.int x4), some (.int x5), some (.int x6), some (.ref b5), some (.ref (z_nx h))]) (S' := [.ref 0]) (h' := (z_sR (z_sI (z_sI (z_sI (z_sI (z_sI (z_sI (z_sI (z_sI (z_nw h 3 0 16) (z_nx h) 0 x2) (z_nx h) 1 x3) (z_nx h) 2 x4) (z_nx h) 3 x5) (z_nx h) 4 x6) (z_nx h) 5 x1) (z_nx h) 6 (z_iv h 0 13)) (z_nx h) 13 (z_iv h 0 11)) b5 10 (some (z_nx h)))) rfl ?_
                  refine k_gS (b := 2) rfl (z_tgR (z_tgI (z_tgI (z_tgI (z_tgI (z_tgI (z_tgI (z_tgI (z_tgI t7))))))))) ((CW.sR (CW.sI (CW.sI (CW.sI (CW.sI (CW.sI (CW.sI (CW.sI (CW.sI (CW.nw W (by decide)))))))))) (z_tgI (z_tgI (z_tgI (z_tgI (z_tgI (z_tgI (z_tgI (z_tgI t8)))))))) (j := 10) rfl (fun _ q_ => by cases q_; exact (z_tgI (z_tgI (z_tgI (z_tgI (z_tgI (z_tgI (z_tgI (z_tgI t9))))))))) (by decide)).abOf (t := 11) (j := 1) (o := 2) (n := 12) (by decide) (z_tgR (z_tgI (z_tgI (z_tgI (z_tgI (z_tgI (z_tgI (z_tgI (z_tgI t7)))))))))).1 ?_
                  refine k_n 1 (pc' := 120) (L' := [some (.ref 0), some (.int x1), some (.int x2), some (.int x3), some (.int x4), some (.int x5), some (.int x6), some (.ref b5), some (.ref (z_nx h))]) (S' := [.ref 0, .ref 2]) (h' := (z_sR (z_sI (z_sI (z_sI (z_sI (z_sI (z_sI (z_sI (z_sI (z_nw h 3 0 16) (z_nx h) 0 x2) (z_nx h) 1 x3) (z_nx h) 2 x4) (z_nx h) 3 x5) (z_nx h) 4 x6) (z_nx h) 5 x1) (z_nx h) 6 (z_iv h 0 13)) (z_nx h) 13 (z_iv h 0 11)) b5 10 (some (z_nx h)))) rfl ?_
                  refine k_gV rfl rfl (z_tgR (z_tgI (z_tgI (z_tgI (z_tgI (z_tgI (z_tgI (z_tgI (z_tgI t7))))))))) (v_sR (v_nt (z_tgI (z_tgI (z_tgI (z_tgI (z_tgI (z_tgI (z_tgI t7))))))) (z_tgI (z_tgI (z_tgI (z_tgI (z_tgI (z_tgI (z_tgI t9))))))) (by decide) (v_nt (z_tgI (z_tgI (z_tgI (z_tgI (z_tgI (z_tgI t7)))))) (z_tgI (z_tgI (z_tgI (z_tgI (z_tgI (z_tgI t9)))))) (by decide) (v_nt (z_tgI (z_tgI (z_tgI (z_tgI (z_tgI t7))))) (z_tgI (z_tgI (z_tgI (z_tgI (z_tgI t9))))) (by decide) (v_nt (z_tgI (z_tgI (z_tgI (z_tgI t7)))) (z_tgI (z_tgI (z_tgI (z_tgI t9)))) (by decide) (v_nt (z_tgI (z_tgI (z_tgI t7))) (z_tgI (z_tgI (z_tgI t9))) (by decide) (v_nt (z_tgI (z_tgI t7)) (z_tgI (z_tgI t9)) (by decide) (v_nt (z_tgI t7) (z_tgI t9) (by decide) (v_nt t7 t9 (by decide) (v_nn W W.t0 (by decide) rfl)))))))))) ?_
                  refine k_n 1 (pc' := 125) (L' := [some (.ref 0), some (.int x1), some (.int x2), some (.int x3), some (.int x4), some (.int x5), some (.int x6), some (.ref b5), some (.ref (z_nx h))]) (S' := [.ref (z_nx h), .int (z_iv h 0 13), .ref 2]) (h' := (z_sR (z_sI (z_sI (z_sI (z_sI (z_sI (z_sI (z_sI (z_sI (z_nw h 3 0 16) (z_nx h) 0 x2) (z_nx h) 1 x3) (z_nx h) 2 x4) (z_nx h) 3 x5) (z_nx h) 4 x6) (z_nx h) 5 x1) (z_nx h) 6 (z_iv h 0 13)) (z_nx h) 13 (z_iv h 0 11)) b5 10 (some (z_nx h)))) rfl ?_
                  obtain ⟨o10, H⟩ := H
                  refine k_as rfl (CW.tyOf (t := 11) (t' := 103) (CW.sR (CW.sI (CW.sI (CW.sI (CW.sI (CW.sI (CW.sI (CW.sI (CW.sI (CW.nw W (by decide)))))))))) (z_tgI (z_tgI (z_tgI (z_tgI (z_tgI (z_tgI (z_tgI (z_tgI t8)))))))) (j := 10) rfl (fun _ q_ => by cases q_; exact (z_tgI (z_tgI (z_tgI (z_tgI (z_tgI (z_tgI (z_tgI (z_tgI t9))))))))) (by decide)) (j := 1) (z_tgR (z_tgI (z_tgI (z_tgI (z_tgI (z_tgI (z_tgI (z_tgI (z_tgI t7))))))))) ((CW.sR (CW.sI (CW.sI (CW.sI (CW.sI (CW.sI (CW.sI (CW.sI (CW.sI (CW.nw W (by decide)))))))))) (z_tgI (z_tgI (z_tgI (z_tgI (z_tgI (z_tgI (z_tgI (z_tgI t8)))))))) (j := 10) rfl (fun _ q_ => by cases q_; exact (z_tgI (z_tgI (z_tgI (z_tgI (z_tgI (z_tgI (z_tgI (z_tgI t9))))))))) (by decide)).abOf (t := 11) (j := 1) (o := 2) (n := 12) (by decide) (z_tgR (z_tgI (z_tgI (z_tgI (z_tgI (z_tgI (z_tgI (z_tgI (z_tgI t7)))))))))).1 (by decide) rfl) rfl ((CW.sR (CW.sI (CW.sI (CW.sI (CW.sI (CW.sI (CW.sI (CW.sI (CW.sI (CW.nw W (by decide)))))))))) (z_tgI (z_tgI (z_tgI (z_tgI (z_tgI (z_tgI (z_tgI (z_tgI t8)))))))) (j := 10) rfl (fun _ q_ => by cases q_; exact (z_tgI (z_tgI (z_tgI (z_tgI (z_tgI (z_tgI (z_tgI (z_tgI t9))))))))) (by decide)).abOf (t := 11) (j := 1) (o := 2) (n := 12) (by decide) (z_tgR (z_tgI (z_tgI (z_tgI (z_tgI (z_tgI (z_tgI (z_tgI (z_tgI t7)))))))))).2 o10 (z_tgR (z_tgI (z_tgI (z_tgI (z_tgI (z_tgI (z_tgI (z_tgI (z_tgI t9))))))))) ?_
                  refine k_n 2 (pc' := 128) (L' := [some (.ref 0), some (.int x1), some (.int x2), some (.int x3), some (.int x4), some (.int x5), some (.int x6), some (.ref b5), some (.ref (z_nx h))]) (S' := [.ref 0, .ref 0]) (h' := (z_sR (z_sR (z_sI (z_sI (z_sI (z_sI (z_sI (z_sI (z_sI (z_sI (z_nw h 3 0 16) (z_nx h) 0 x2) (z_nx h) 1 x3) (z_nx h) 2 x4) (z_nx h) 3 x5) (z_nx h) 4 x6) (z_nx h) 5 x1) (z_nx h) 6 (z_iv h 0 13)) (z_nx h) 13 (z_iv h 0 11)) b5 10 (some (z_nx h))) 2 (z_ix (z_iv h 0 13)) (some (z_nx h)))) rfl ?_
                  refine k_gV rfl rfl (z_tgR (z_tgR (z_tgI (z_tgI (z_tgI (z_tgI (z_tgI (z_tgI (z_tgI (z_tgI t7)))))))))) (v_sR (v_sR (v_nt (z_tgI (z_tgI (z_tgI (z_tgI (z_tgI (z_tgI (z_tgI t7))))))) (z_tgI (z_tgI (z_tgI (z_tgI (z_tgI (z_tgI (z_tgI t9))))))) (by decide) (v_nt (z_tgI (z_tgI (z_tgI (z_tgI (z_tgI (z_tgI t7)))))) (z_tgI (z_tgI (z_tgI (z_tgI (z_tgI (z_tgI t9)))))) (by decide) (v_nt (z_tgI (z_tgI (z_tgI (z_tgI (z_tgI t7))))) (z_tgI (z_tgI (z_tgI (z_tgI (z_tgI t9))))) (by decide) (v_nt (z_tgI (z_tgI (z_tgI (z_tgI t7)))) (z_tgI (z_tgI (z_tgI (z_tgI t9)))) (by decide) (v_nt (z_tgI (z_tgI (z_tgI t7))) (z_tgI (z_tgI (z_tgI t9))) (by decide) (v_nt (z_tgI (z_tgI t7)) (z_tgI (z_tgI t9)) (by decide) (v_nt (z_tgI t7) (z_tgI t9) (by decide) (v_nt t7 t9 (by decide) (v_nn W W.t0 (by decide) rfl))))))))))) ?_
                  refine k_n 2 (pc' := 133) (L' := [some (.ref 0), some (.int x1), some (.int x2), some (.int x3), some (.int x4), some (.int x5), some (.int x6), some (.ref b5), some (.ref (z_nx h))]) (S' := [.int ((z_iv h 0 13) + (1 : Int32)), .ref 0]) (h' := (z_sR (z_sR (z_sI (z_sI (z_sI (z_sI (z_sI (z_sI (z_sI (z_sI (z_nw h 3 0 16) (z_nx h) 0 x2) (z_nx h) 1 x3) (z_nx h) 2 x4) (z_nx h) 3 x5) (z_nx h) 4 x6) (z_nx h) 5 x1) (z_nx h) 6 (z_iv h 0 13)) (z_nx h) 13 (z_iv h 0 11)) b5 10 (some (z_nx h))) 2 (z_ix (z_iv h 0 13)) (some (z_nx h)))) rfl ?_
                  refine k_pI rfl (z_tgR (z_tgR (z_tgI (z_tgI (z_tgI (z_tgI (z_tgI (z_tgI (z_tgI (z_tgI t7)))))))))) ?_
                  refine k_n 1 (pc' := 137) (L' := [some (.ref 0), some (.int x1), some (.int x2), some (.int x3), some (.int x4), some (.int x5), some (.int x6), some (.ref b5), some (.ref (z_nx h))]) (S' := [.ref 0]) (h' := (z_sI (z_sR (z_sR (z_sI (z_sI (z_sI (z_sI (z_sI (z_sI (z_sI (z_sI (z_nw h 3 0 16) (z_nx h) 0 x2) (z_nx h) 1 x3) (z_nx h) 2 x4) (z_nx h) 3 x5) (z_nx h) 4 x6) (z_nx h) 5 x1) (z_nx h) 6 (z_iv h 0 13)) (z_nx h) 13 (z_iv h 0 11)) b5 10 (some (z_nx h))) 2 (z_ix (z_iv h 0 13)) (some (z_nx h))) 0 13 ((z_iv h 0 13) + (1 : Int32)))) rfl ?_
                  refine k_gV rfl rfl (z_tgI (z_tgR (z_tgR (z_tgI (z_tgI (z_tgI (z_tgI (z_tgI (z_tgI (z_tgI (z_tgI t7))))))))))) v_at ?_
                  refine k_n 2 (pc' := 142) (L' := [some (.ref 0), some (.int x1), some (.int x2), some (.int x3), some (.int x4), some (.int x5), some (.int x6), some (.ref b5), some (.ref (z_nx h))]) (S' := [.int (((z_iv h 0 13) + (1 : Int32)) - (1 : Int32))]) (h' := (z_sI (z_sR (z_sR (z_sI (z_sI (z_sI (z_sI (z_sI (z_sI (z_sI (z_sI (z_nw h 3 0 16) (z_nx h) 0 x2) (z_nx h) 1 x3) (z_nx h) 2 x4) (z_nx h) 3 x5) (z_nx h) 4 x6) (z_nx h) 5 x1) (z_nx h) 6 (z_iv h 0 13)) (z_nx h) 13 (z_iv h 0 11)) b5 10 (some (z_nx h))) 2 (z_ix (z_iv h 0 13)) (some (z_nx h))) 0 13 ((z_iv h 0 13) + (1 : Int32)))) rfl ?_
                  exact k_r rfl rfl rfl H
                · have hc := hc
                  rw [if_neg hc] at H
                  refine k_n 1 (pc' := 76) (L' := [some (.ref 0), some (.int x1), some (.int x2), some (.int x3), some (.int x4), some (.int x5), some (.int x6), some (.ref b5), none]) (S' := [.int (-3 : Int32)]) (h' := h) rfl ?_
                  exact k_r rfl rfl rfl H
set_option maxRecDepth 20000 in
theorem X_130 (x1 : Int32) (x2 : Int32) (x3 : Int32) (h : zH) (W : CW h)  {Q : Int32 → zH → Prop} (H : if (0 : Int32) ≤ x1 ∧ x1 ≤ (3 : Int32) then (if (0 : Int32) ≤ x2 ∧ x2 ≤ (2 : Int32) then (if x3 ≤ (48 : Int32) then (if 0 ≤ x3 then (KK z_pV 87 [.ref (z_nx h), .int x2, .int x3] (z_nw h 8 0 2) (fun _ h_ => KG z_pI 130 43 [some (.ref 0), some (.int x1), some (.int x2), some (.int x3)] [.ref (z_nx h), .int x1, .ref 4] h_ Q)) else (Q (-14 : Int32) h)) else (Q (-1 : Int32) h)) else (Q (-1 : Int32) h)) else (Q (-1 : Int32) h)) : KK z_pI 130 [.ref 0, .int x1, .int x2, .int x3] h Q := by
  refine k_K (L := [some (.ref 0), some (.int x1), some (.int x2), some (.int x3)]) rfl ?_
  refine k_n 1 (pc' := 1) (L' := [some (.ref 0), some (.int x1), some (.int x2), some (.int x3)]) (S' := [.int x1]) (h' := h) rfl ?_
  refine k_cI 142 1 rfl rfl rfl (A := [.int x1]) rfl rfl rfl (rest := []) rfl (z_tyI rfl rfl) ?_
  refine C_142 x1 h    ?_
  refine k_b (g := z_bt ((0 : Int32) ≤ x1 ∧ x1 ≤ (3 : Int32)) = 0) (pc' := 20) (L' := [some (.ref 0), some (.int x1), some (.int x2), some (.int x3)]) (S' := []) (pc2 := 7) (L2 := [some (.ref 0), some (.int x1), some (.int x2), some (.int x3)]) (S2 := []) (h' := h) (h2 := h) rfl rfl (fun hc => ?_) (fun hc => ?_)
  · have hc := z_bt_0.mp hc
    rw [if_neg hc] at H
    refine k_n 1 (pc' := 21) (L' := [some (.ref 0), some (.int x1), some (.int x2), some (.int x3)]) (S' := [.int (-1 : Int32)]) (h' := h) rfl ?_
    exact k_r rfl rfl rfl H
  · have hc := Decidable.not_not.mp (fun q => hc (z_bt_0.mpr q))
    rw [if_pos hc] at H
    refine k_n 1 (pc' := 8) (L' := [some (.ref 0), some (.int x1), some (.int x2), some (.int x3)]) (S' := [.int x2]) (h' := h) rfl ?_
    refine k_cI 143 1 rfl rfl rfl (A := [.int x2]) rfl rfl rfl (rest := []) rfl (z_tyI rfl rfl) ?_
    refine C_143 x2 h    ?_
    refine k_b (g := z_bt ((0 : Int32) ≤ x2 ∧ x2 ≤ (2 : Int32)) = 0) (pc' := 20) (L' := [some (.ref 0), some (.int x1), some (.int x2), some (.int x3)]) (S' := []) (pc2 := 14) (L2 := [some (.ref 0), some (.int x1), some (.int x2), some (.int x3)]) (S2 := []) (h' := h) (h2 := h) rfl rfl (fun hc => ?_) (fun hc => ?_)
    · have hc := z_bt_0.mp hc
      rw [if_neg hc] at H
      refine k_n 1 (pc' := 21) (L' := [some (.ref 0), some (.int x1), some (.int x2), some (.int x3)]) (S' := [.int (-1 : Int32)]) (h' := h) rfl ?_
      exact k_r rfl rfl rfl H
    · have hc := Decidable.not_not.mp (fun q => hc (z_bt_0.mpr q))
      rw [if_pos hc] at H
      refine k_n 2 (pc' := 17) (L' := [some (.ref 0), some (.int x1), some (.int x2), some (.int x3)]) (S' := [.int (48 : Int32), .int x3]) (h' := h) rfl ?_
      refine k_b (g := x3 ≤ (48 : Int32)) (pc' := 22) (L' := [some (.ref 0), some (.int x1), some (.int x2), some (.int x3)]) (S' := []) (pc2 := 20) (L2 := [some (.ref 0), some (.int x1), some (.int x2), some (.int x3)]) (S2 := []) (h' := h) (h2 := h) rfl rfl (fun hc => ?_) (fun hc => ?_)
      · have hc := hc
        rw [if_pos hc] at H
        refine k_n 1 (pc' := 23) (L' := [some (.ref 0), some (.int x1), some (.int x2), some (.int x3)]) (S' := [.int x3]) (h' := h) rfl ?_
        refine k_b (g := 0 ≤ x3) (pc' := 29) (L' := [some (.ref 0), some (.int x1), some (.int x2), some (.int x3)]) (S' := []) (pc2 := 26) (L2 := [some (.ref 0), some (.int x1), some (.int x2), some (.int x3)]) (S2 := []) (h' := h) (h2 := h) rfl rfl (fun hc => ?_) (fun hc => ?_)
        · have hc := hc
          rw [if_pos hc] at H
          refine k_n 1 (pc' := 30) (L' := [some (.ref 0), some (.int x1), some (.int x2), some (.int x3)]) (S' := [.ref 0]) (h' := h) rfl ?_
          refine k_gS (b := 4) rfl W.t0 (W.abOf (t := 11) (j := 3) (o := 4) (n := 4) (by decide) W.t0).1 ?_
          refine k_n 1 (pc' := 34) (L' := [some (.ref 0), some (.int x1), some (.int x2), some (.int x3)]) (S' := [.int x1, .ref 4]) (h' := h) rfl ?_
          refine k_n 1 (pc' := 37) (L' := [some (.ref 0), some (.int x1), some (.int x2), some (.int x3)]) (S' := [.ref (z_nx h), .int x1, .ref 4]) (h' := (z_nw h 8 0 2)) rfl ?_
          have t1 : z_tg (z_nw h 8 0 2) 0 = 11 := CW.keep W W.t0 (by decide)
          have t2 : z_tg (z_nw h 8 0 2) 4 = 105 := CW.keep W (CW.tyOf (t := 11) (t' := 105) W (j := 3) W.t0 (W.abOf (t := 11) (j := 3) (o := 4) (n := 4) (by decide) W.t0).1 (by decide) rfl) (by decide)
          have t3 : z_tg (z_nw h 8 0 2) (z_nx h) = 8 := z_nw_at
          refine k_n 3 (pc' := 40) (L' := [some (.ref 0), some (.int x1), some (.int x2), some (.int x3)]) (S' := [.int x3, .int x2, .ref (z_nx h), .ref (z_nx h), .int x1, .ref 4]) (h' := (z_nw h 8 0 2)) rfl ?_
          refine k_cV 87 3 rfl rfl rfl (A := [.ref (z_nx h), .int x2, .int x3]) rfl rfl (z_rok_ref t3) (rest := [.ref (z_nx h), .int x1, .ref 4]) rfl rfl ?_
          exact H
        · have hc := hc
          rw [if_neg hc] at H
          refine k_n 1 (pc' := 28) (L' := [some (.ref 0), some (.int x1), some (.int x2), some (.int x3)]) (S' := [.int (-14 : Int32)]) (h' := h) rfl ?_
          exact k_r rfl rfl rfl H
      · have hc := hc
        rw [if_neg hc] at H
        refine k_n 1 (pc' := 21) (L' := [some (.ref 0), some (.int x1), some (.int x2), some (.int x3)]) (S' := [.int (-1 : Int32)]) (h' := h) rfl ?_
        exact k_r rfl rfl rfl H
set_option maxRecDepth 20000 in
theorem X_130_43 (y1 : Int32) (y2 : Int32) (y3 : Int32) (b0 : Nat) (s1 : Int32) (h : zH) (W : CW h) (Tb0 : z_tg h b0 = 8) (Tb2 : z_tg h 4 = 105) (Nb2 : z_ln h 4 = 4) {Q : Int32 → zH → Prop} (H : (0 ≤ s1.toInt ∧ s1.toInt < 4) ∧ Q (1 : Int32) (z_sR h 4 (z_ix s1) (some b0))) : KG z_pI 130 43 [some (.ref 0), some (.int y1), some (.int y2), some (.int y3)] [.ref b0, .int s1, .ref 4] h Q := by
  obtain ⟨o4, H⟩ := H
  refine k_as rfl Tb2 rfl Nb2 o4 Tb0 ?_
  refine k_n 1 (pc' := 45) (L' := [some (.ref 0), some (.int y1), some (.int y2), some (.int y3)]) (S' := [.int (1 : Int32)]) (h' := (z_sR h 4 (z_ix s1) (some b0))) rfl ?_
  exact k_r rfl rfl rfl H
set_option maxRecDepth 20000 in
theorem X_108 (x1 : Int32) (x2 : Int32) (h : zH) (W : CW h)  {Q : Int32 → zH → Prop} (H : ∃ v1 : Option Nat, KV z_pA 148 [.ref 0, .int x1] h v1 ∧ (∀ b_, v1 = some b_ → z_tg h b_ = 4) ∧ ((v1 = none → Q (-1 : Int32) h) ∧ (∀ b5, v1 = some b5 → ∃ v7 : Option Nat, KV z_pA 44 [.ref b5] h v7 ∧ (∀ b_, v7 = some b_ → z_tg h b_ = 3) ∧ ((v7 = none → if x2 = (0 : Int32) then (Q (z_iv h b5 5) h) else (if x2 = (1 : Int32) then (Q (z_iv h b5 6) h) else (if x2 = (2 : Int32) then (Q (-4 : Int32) h) else (if x2 = (3 : Int32) then (Q (-4 : Int32) h) else (if x2 = (4 : Int32) then (Q (z_iv h b5 7) h) else (if x2 = (5 : Int32) then (∃ v19 : Int32, KV z_pI 46 [.ref b5, .int (z_iv h 0 11)] h v19 ∧ Q v19 h) else (Q (-1 : Int32) h))))))) ∧ (∀ b11, v7 = some b11 → if x2 = (0 : Int32) then (Q (z_iv h b5 5) h) else (if x2 = (1 : Int32) then (Q (z_iv h b5 6) h) else (if x2 = (2 : Int32) then (Q (z_iv h b11 6) h) else (if x2 = (3 : Int32) then (∃ v25 : Int32, KV z_pI 45 [.ref b5, .int (z_iv h 0 11)] h v25 ∧ (∃ v27 : Int32, KV z_pI 39 [.ref b11, .int v25, .int (z_iv h b5 5)] h v27 ∧ Q v27 h)) else (if x2 = (4 : Int32) then (Q (z_iv h b5 7) h) else (if x2 = (5 : Int32) then (∃ v31 : Int32, KV z_pI 46 [.ref b5, .int (z_iv h 0 11)] h v31 ∧ Q v31 h) else (Q (-1 : Int32) h))))))))))) : KK z_pI 108 [.ref 0, .int x1, .int x2] h Q := by
  refine k_K (L := [some (.ref 0), some (.int x1), some (.int x2), none, none]) rfl ?_
  refine k_n 2 (pc' := 2) (L' := [some (.ref 0), some (.int x1), some (.int x2), none, none]) (S' := [.int x1, .ref 0]) (h' := h) rfl ?_
  refine k_cA 148 2 "SavedThird$Mine" rfl rfl rfl (A := [.ref 0, .int x1]) rfl rfl (z_rok_ref W.t0) (rest := []) rfl rfl (by decide) ?_
  obtain ⟨v1, k2, tv3, H⟩ := H
  refine k_P k2 ?_
  obtain hb4 | ⟨b5, hb4⟩ := z_opt (v1)
  · have H := H.1 hb4
    refine k_oN hb4 ?_
    refine k_n 4 (pc' := 11) (L' := [some (.ref 0), some (.int x1), some (.int x2), some (.null), none]) (S' := [.int (-1 : Int32)]) (h' := h) rfl ?_
    exact k_r rfl rfl rfl H
  · have H := H.2 b5 hb4
    have t6 : z_tg h b5 = 4 := tv3 _ hb4
    refine k_oS hb4 ?_
    refine k_n 4 (pc' := 13) (L' := [some (.ref 0), some (.int x1), some (.int x2), some (.ref b5), none]) (S' := [.ref b5]) (h' := h) rfl ?_
    refine k_cA 44 1 "SavedThird$Engine" rfl rfl rfl (A := [.ref b5]) rfl rfl (z_rok_ref t6) (rest := []) rfl rfl (by decide) ?_
    obtain ⟨v7, k8, tv9, H⟩ := H
    refine k_P k8 ?_
    obtain hb10 | ⟨b11, hb10⟩ := z_opt (v7)
    · have H := H.1 hb10
      refine k_oN hb10 ?_
      refine k_n 2 (pc' := 19) (L' := [some (.ref 0), some (.int x1), some (.int x2), some (.ref b5), some (.null)]) (S' := [.int x2]) (h' := h) rfl ?_
      by_cases w13 : x2 = (0 : Int32)
      · rw [if_pos w13] at H
        refine k_sw (pc' := 56) rfl (congrArg (z_tgt 19) (z_swT (k := (0 : Int32)) w13 rfl)) ?_
        refine k_n 1 (pc' := 57) (L' := [some (.ref 0), some (.int x1), some (.int x2), some (.ref b5), some (.null)]) (S' := [.ref b5]) (h' := h) rfl ?_
        refine k_gI rfl rfl t6 ?_
        exact k_r rfl rfl rfl H
      rw [if_neg w13] at H
      by_cases w14 : x2 = (1 : Int32)
      · rw [if_pos w14] at H
        refine k_sw (pc' := 61) rfl (congrArg (z_tgt 19) (z_swN (k := (0 : Int32)) w13 rfl (z_swT (k := (1 : Int32)) w14 rfl))) ?_
        refine k_n 1 (pc' := 62) (L' := [some (.ref 0), some (.int x1), some (.int x2), some (.ref b5), some (.null)]) (S' := [.ref b5]) (h' := h) rfl ?_
        refine k_gI rfl rfl t6 ?_
        exact k_r rfl rfl rfl H
      rw [if_neg w14] at H
      by_cases w15 : x2 = (2 : Int32)
      · rw [if_pos w15] at H
        refine k_sw (pc' := 66) rfl (congrArg (z_tgt 19) (z_swN (k := (0 : Int32)) w13 rfl (z_swN (k := (1 : Int32)) w14 rfl (z_swT (k := (2 : Int32)) w15 rfl)))) ?_
        refine k_n 4 (pc' := 81) (L' := [some (.ref 0), some (.int x1), some (.int x2), some (.ref b5), some (.null)]) (S' := [.int (-4 : Int32)]) (h' := h) rfl ?_
        exact k_r rfl rfl rfl H
      rw [if_neg w15] at H
      by_cases w16 : x2 = (3 : Int32)
      · rw [if_pos w16] at H
        refine k_sw (pc' := 82) rfl (congrArg (z_tgt 19) (z_swN (k := (0 : Int32)) w13 rfl (z_swN (k := (1 : Int32)) w14 rfl (z_swN (k := (2 : Int32)) w15 rfl (z_swT (k := (3 : Int32)) w16 rfl))))) ?_
        refine k_n 4 (pc' := 109) (L' := [some (.ref 0), some (.int x1), some (.int x2), some (.ref b5), some (.null)]) (S' := [.int (-4 : Int32)]) (h' := h) rfl ?_
        exact k_r rfl rfl rfl H
      rw [if_neg w16] at H
      by_cases w17 : x2 = (4 : Int32)
      · rw [if_pos w17] at H
        refine k_sw (pc' := 110) rfl (congrArg (z_tgt 19) (z_swN (k := (0 : Int32)) w13 rfl (z_swN (k := (1 : Int32)) w14 rfl (z_swN (k := (2 : Int32)) w15 rfl (z_swN (k := (3 : Int32)) w16 rfl (z_swT (k := (4 : Int32)) w17 rfl)))))) ?_
        refine k_n 1 (pc' := 111) (L' := [some (.ref 0), some (.int x1), some (.int x2), some (.ref b5), some (.null)]) (S' := [.ref b5]) (h' := h) rfl ?_
        refine k_gI rfl rfl t6 ?_
        exact k_r rfl rfl rfl H
      rw [if_neg w17] at H
      by_cases w18 : x2 = (5 : Int32)
      · rw [if_pos w18] at H
        refine k_sw (pc' := 115) rfl (congrArg (z_tgt 19) (z_swN (k := (0 : Int32)) w13 rfl (z_swN (k := (1 : Int32)) w14 rfl (z_swN (k := (2 : Int32)) w15 rfl (z_swN (k := (3 : Int32)) w16 rfl (z_swN (k := (4 : Int32)) w17 rfl (z_swT (k := (5 : Int32)) w18 rfl))))))) ?_
        refine k_n 2 (pc' := 117) (L' := [some (.ref 0), some (.int x1), some (.int x2), some (.ref b5), some (.null)]) (S' := [.ref 0, .ref b5]) (h' := h) rfl ?_
        refine k_gI rfl rfl W.t0 ?_
        refine k_cI 46 2 rfl rfl rfl (A := [.ref b5, .int (z_iv h 0 11)]) rfl rfl (z_rok_ref t6) (rest := []) rfl (z_tyI rfl rfl) ?_
        obtain ⟨v19, k20, H⟩ := H
        refine k_P k20 ?_
        exact k_r rfl rfl rfl H
      rw [if_neg w18] at H
      refine k_sw (pc' := 124) rfl (congrArg (z_tgt 19) (z_swN (k := (0 : Int32)) w13 rfl (z_swN (k := (1 : Int32)) w14 rfl (z_swN (k := (2 : Int32)) w15 rfl (z_swN (k := (3 : Int32)) w16 rfl (z_swN (k := (4 : Int32)) w17 rfl (z_swN (k := (5 : Int32)) w18 rfl rfl))))))) ?_
      refine k_n 1 (pc' := 125) (L' := [some (.ref 0), some (.int x1), some (.int x2), some (.ref b5), some (.null)]) (S' := [.int (-1 : Int32)]) (h' := h) rfl ?_
      exact k_r rfl rfl rfl H
    · have H := H.2 b11 hb10
      have t12 : z_tg h b11 = 3 := tv9 _ hb10
      refine k_oS hb10 ?_
      refine k_n 2 (pc' := 19) (L' := [some (.ref 0), some (.int x1), some (.int x2), some (.ref b5), some (.ref b11)]) (S' := [.int x2]) (h' := h) rfl ?_
      by_cases w21 : x2 = (0 : Int32)
      · rw [if_pos w21] at H
        refine k_sw (pc' := 56) rfl (congrArg (z_tgt 19) (z_swT (k := (0 : Int32)) w21 rfl)) ?_
        refine k_n 1 (pc' := 57) (L' := [some (.ref 0), some (.int x1), some (.int x2), some (.ref b5), some (.ref b11)]) (S' := [.ref b5]) (h' := h) rfl ?_
        refine k_gI rfl rfl t6 ?_
        exact k_r rfl rfl rfl H
      rw [if_neg w21] at H
      by_cases w22 : x2 = (1 : Int32)
      · rw [if_pos w22] at H
        refine k_sw (pc' := 61) rfl (congrArg (z_tgt 19) (z_swN (k := (0 : Int32)) w21 rfl (z_swT (k := (1 : Int32)) w22 rfl))) ?_
        refine k_n 1 (pc' := 62) (L' := [some (.ref 0), some (.int x1), some (.int x2), some (.ref b5), some (.ref b11)]) (S' := [.ref b5]) (h' := h) rfl ?_
        refine k_gI rfl rfl t6 ?_
        exact k_r rfl rfl rfl H
      rw [if_neg w22] at H
      by_cases w23 : x2 = (2 : Int32)
      · rw [if_pos w23] at H
        refine k_sw (pc' := 66) rfl (congrArg (z_tgt 19) (z_swN (k := (0 : Int32)) w21 rfl (z_swN (k := (1 : Int32)) w22 rfl (z_swT (k := (2 : Int32)) w23 rfl)))) ?_
        refine k_n 3 (pc' := 78) (L' := [some (.ref 0), some (.int x1), some (.int x2), some (.ref b5), some (.ref b11)]) (S' := [.ref b11]) (h' := h) rfl ?_
        refine k_gI rfl rfl t12 ?_
        exact k_r rfl rfl rfl H
      rw [if_neg w23] at H
      by_cases w24 : x2 = (3 : Int32)
      · rw [if_pos w24] at H
        refine k_sw (pc' := 82) rfl (congrArg (z_tgt 19) (z_swN (k := (0 : Int32)) w21 rfl (z_swN (k := (1 : Int32)) w22 rfl (z_swN (k := (2 : Int32)) w23 rfl (z_swT (k := (3 : Int32)) w24 rfl))))) ?_
        refine k_n 5 (pc' := 96) (L' := [some (.ref 0), some (.int x1), some (.int x2), some (.ref b5), some (.ref b11)]) (S' := [.ref 0, .ref b5, .ref b11]) (h' := h) rfl ?_
        refine k_gI rfl rfl W.t0 ?_
        refine k_cI 45 2 rfl rfl rfl (A := [.ref b5, .int (z_iv h 0 11)]) rfl rfl (z_rok_ref t6) (rest := [.ref b11]) rfl (z_tyI rfl rfl) ?_
        obtain ⟨v25, k26, H⟩ := H
        refine k_P k26 ?_
        refine k_n 1 (pc' := 103) (L' := [some (.ref 0), some (.int x1), some (.int x2), some (.ref b5), some (.ref b11)]) (S' := [.ref b5, .int v25, .ref b11]) (h' := h) rfl ?_
        refine k_gI rfl rfl t6 ?_
        refine k_cI 39 3 rfl rfl rfl (A := [.ref b11, .int v25, .int (z_iv h b5 5)]) rfl rfl (z_rok_ref t12) (rest := []) rfl (z_tyI rfl rfl) ?_
        obtain ⟨v27, k28, H⟩ := H
        refine k_P k28 ?_
        exact k_r rfl rfl rfl H
      rw [if_neg w24] at H
      by_cases w29 : x2 = (4 : Int32)
      · rw [if_pos w29] at H
        refine k_sw (pc' := 110) rfl (congrArg (z_tgt 19) (z_swN (k := (0 : Int32)) w21 rfl (z_swN (k := (1 : Int32)) w22 rfl (z_swN (k := (2 : Int32)) w23 rfl (z_swN (k := (3 : Int32)) w24 rfl (z_swT (k := (4 : Int32)) w29 rfl)))))) ?_
        refine k_n 1 (pc' := 111) (L' := [some (.ref 0), some (.int x1), some (.int x2), some (.ref b5), some (.ref b11)]) (S' := [.ref b5]) (h' := h) rfl ?_
        refine k_gI rfl rfl t6 ?_
        exact k_r rfl rfl rfl H
      rw [if_neg w29] at H
      by_cases w30 : x2 = (5 : Int32)
      · rw [if_pos w30] at H
        refine k_sw (pc' := 115) rfl (congrArg (z_tgt 19) (z_swN (k := (0 : Int32)) w21 rfl (z_swN (k := (1 : Int32)) w22 rfl (z_swN (k := (2 : Int32)) w23 rfl (z_swN (k := (3 : Int32)) w24 rfl (z_swN (k := (4 : Int32)) w29 rfl (z_swT (k := (5 : Int32)) w30 rfl))))))) ?_
        refine k_n 2 (pc' := 117) (L' := [some (.ref 0), some (.int x1), some (.int x2), some (.ref b5), some (.ref b11)]) (S' := [.ref 0, .ref b5]) (h' := h) rfl ?_
        refine k_gI rfl rfl W.t0 ?_
        refine k_cI 46 2 rfl rfl rfl (A := [.ref b5, .int (z_iv h 0 11)]) rfl rfl (z_rok_ref t6) (rest := []) rfl (z_tyI rfl rfl) ?_
        obtain ⟨v31, k32, H⟩ := H
        refine k_P k32 ?_
        exact k_r rfl rfl rfl H
      rw [if_neg w30] at H
      refine k_sw (pc' := 124) rfl (congrArg (z_tgt 19) (z_swN (k := (0 : Int32)) w21 rfl (z_swN (k := (1 : Int32)) w22 rfl (z_swN (k := (2 : Int32)) w23 rfl (z_swN (k := (3 : Int32)) w24 rfl (z_swN (k := (4 : Int32)) w29 rfl (z_swN (k := (5 : Int32)) w30 rfl rfl))))))) ?_
      refine k_n 1 (pc' := 125) (L' := [some (.ref 0), some (.int x1), some (.int x2), some (.ref b5), some (.ref b11)]) (S' := [.int (-1 : Int32)]) (h' := h) rfl ?_
      exact k_r rfl rfl rfl H
set_option maxRecDepth 20000 in
theorem X_159 (x1 : Nat) (x2 : Int32) (x3 : Nat) (h : zH) (W : CW h) (T1 : z_tg h x1 = 8) (T3 : z_tg h x3 = 4) {Q : Int32 → zH → Prop} (H : KG z_pI 159 6 [some (.ref 0), some (.ref x1), some (.int x2), some (.ref x3), some (.int (0 : Int32)), some (.int (0 : Int32)), none] [] h Q) : KK z_pI 159 [.ref 0, .ref x1, .int x2, .ref x3] h Q := by
  refine k_K (L := [some (.ref 0), some (.ref x1), some (.int x2), some (.ref x3), none, none, none]) rfl ?_
  refine k_n 4 (pc' := 6) (L' := [some (.ref 0), some (.ref x1), some (.int x2), some (.ref x3), some (.int (0 : Int32)), some (.int (0 : Int32)), none]) (S' := []) (h' := h) rfl ?_
  exact H
set_option maxRecDepth 20000 in
theorem X_159_6 (a1 : Nat) (y2 : Int32) (a3 : Nat) (y4 : Int32) (y5 : Int32) (u6 : Option Value) (h : zH) (W : CW h) (Ta1 : z_tg h a1 = 8) (Ta3 : z_tg h a3 = 4) {Q : Int32 → zH → Prop} (H : if (12 : Int32) ≤ y5 then ((¬ 5 = (a3 + 1) ∧ (0 ≤ (0 : Int32).toInt ∧ 0 ≤ (0 : Int32).toInt ∧ 0 ≤ y4.toInt ∧ (0 : Int32).toInt + y4.toInt ≤ 12 ∧ (0 : Int32).toInt + y4.toInt ≤ 12)) ∧ (∀ m3 : Int32, m3 = (if (12 : Int32) ≤ y4 then (0 : Int32) else (2 : Int32)) → Q y4 (z_sI (z_sW h (a3 + 1) (va_cpy (z_iv h 5) (z_iv h (a3 + 1)) (z_ix (0 : Int32)) (z_ix (0 : Int32)) (z_ix y4))) 0 15 m3))) else (if (0 : Int32) ≤ (y2 + y5) ∧ (y2 + y5) ≤ ((Int32.ofNat (z_ln h (a1 + 1))) - (1 : Int32)) then ((((0 : Int32) ≤ (y2 + y5) ∧ (y2 + y5) ≤ ((Int32.ofNat (z_ln h (a1 + 1))) - (1 : Int32))) → 0 ≤ (y2 + y5).toInt ∧ (y2 + y5).toInt < ((z_ln h (a1 + 1)) : Int)) ∧ (if (0 : Int32) ≤ (if (0 : Int32) ≤ (y2 + y5) ∧ (y2 + y5) ≤ ((Int32.ofNat (z_ln h (a1 + 1))) - (1 : Int32)) then (z_iv h (a1 + 1) (z_ix (y2 + y5))) else (0 : Int32)) ∧ (if (0 : Int32) ≤ (y2 + y5) ∧ (y2 + y5) ≤ ((Int32.ofNat (z_ln h (a1 + 1))) - (1 : Int32)) then (z_iv h (a1 + 1) (z_ix (y2 + y5))) else (0 : Int32)) ≤ (999 : Int32) then ((0 ≤ y5.toInt ∧ y5.toInt < 12) ∧ KG z_pI 159 6 [some (.ref 0), some (.ref a1), some (.int y2), some (.ref a3), some (.int (y4 + (1 : Int32))), some (.int (y5 + (1 : Int32))), some (.int (if (0 : Int32) ≤ (y2 + y5) ∧ (y2 + y5) ≤ ((Int32.ofNat (z_ln h (a1 + 1))) - (1 : Int32)) then (z_iv h (a1 + 1) (z_ix (y2 + y5))) else (0 : Int32)))] [] (z_sI h 5 (z_ix y5) (if (0 : Int32) ≤ (y2 + y5) ∧ (y2 + y5) ≤ ((Int32.ofNat (z_ln h (a1 + 1))) - (1 : Int32)) then (z_iv h (a1 + 1) (z_ix (y2 + y5))) else (0 : Int32))) Q) else (Q ((-20 : Int32) - y5) h))) else ((¬ 5 = (a3 + 1) ∧ (0 ≤ (0 : Int32).toInt ∧ 0 ≤ (0 : Int32).toInt ∧ 0 ≤ y4.toInt ∧ (0 : Int32).toInt + y4.toInt ≤ 12 ∧ (0 : Int32).toInt + y4.toInt ≤ 12)) ∧ (∀ m7 : Int32, m7 = (if (12 : Int32) ≤ y4 then (0 : Int32) else (2 : Int32)) → Q y4 (z_sI (z_sW h (a3 + 1) (va_cpy (z_iv h 5) (z_iv h (a3 + 1)) (z_ix (0 : Int32)) (z_ix (0 : Int32)) (z_ix y4))) 0 15 m7))))) : KG z_pI 159 6 [some (.ref 0), some (.ref a1), some (.int y2), some (.ref a3), some (.int y4), some (.int y5), u6] [] h Q := by
  refine k_n 2 (pc' := 10) (L' := [some (.ref 0), some (.ref a1), some (.int y2), some (.ref a3), some (.int y4), some (.int y5), u6]) (S' := [.int (12 : Int32), .int y5]) (h' := h) rfl ?_
  refine k_b (g := (12 : Int32) ≤ y5) (pc' := 66) (L' := [some (.ref 0), some (.ref a1), some (.int y2), some (.ref a3), some (.int y4), some (.int y5), u6]) (S' := []) (pc2 := 13) (L2 := [some (.ref 0), some (.ref a1), some (.int y2), some (.ref a3), some (.int y4), some (.int y5), u6]) (S2 := []) (h' := h) (h2 := h) rfl rfl (fun hc => ?_) (fun hc => ?_)
  · have hc := hc
    rw [if_pos hc] at H
    refine k_n 1 (pc' := 67) (L' := [some (.ref 0), some (.ref a1), some (.int y2), some (.ref a3), some (.int y4), some (.int y5), u6]) (S' := [.ref 0]) (h' := h) rfl ?_
    refine k_gS (b := 5) rfl W.t0 (W.abOf (t := 11) (j := 4) (o := 5) (n := 12) (by decide) W.t0).1 ?_
    refine k_n 2 (pc' := 72) (L' := [some (.ref 0), some (.ref a1), some (.int y2), some (.ref a3), some (.int y4), some (.int y5), u6]) (S' := [.ref a3, .int (0 : Int32), .ref 5]) (h' := h) rfl ?_
    refine k_gS (b := (a3 + 1)) rfl Ta3 (W.reOf (t := 4) (j := 2) (o := 1) (n := 12) (by decide) Ta3).1 ?_
    refine k_n 2 (pc' := 78) (L' := [some (.ref 0), some (.ref a1), some (.int y2), some (.ref a3), some (.int y4), some (.int y5), u6]) (S' := [.int y4, .int (0 : Int32), .ref (a3 + 1), .int (0 : Int32), .ref 5]) (h' := h) rfl ?_
    obtain ⟨o1, H⟩ := H
    refine k_cp rfl (CW.tyOf (t := 11) (t' := 100) W (j := 4) W.t0 (W.abOf (t := 11) (j := 4) (o := 5) (n := 12) (by decide) W.t0).1 (by decide) rfl) (CW.tyOf (t := 4) (t' := 100) W (j := 2) Ta3 (W.reOf (t := 4) (j := 2) (o := 1) (n := 12) (by decide) Ta3).1 (by decide) rfl) o1.1 (W.abOf (t := 11) (j := 4) (o := 5) (n := 12) (by decide) W.t0).2 (W.reOf (t := 4) (j := 2) (o := 1) (n := 12) (by decide) Ta3).2 o1.2 ?_
    refine k_n 3 (pc' := 86) (L' := [some (.ref 0), some (.ref a1), some (.int y2), some (.ref a3), some (.int y4), some (.int y5), u6]) (S' := [.int (12 : Int32), .int y4, .ref 0]) (h' := (z_sW h (a3 + 1) (va_cpy (z_iv h 5) (z_iv h (a3 + 1)) (z_ix (0 : Int32)) (z_ix (0 : Int32)) (z_ix y4)))) rfl ?_
    obtain ⟨m3, em3⟩ : ∃ m : Int32, m = (if (12 : Int32) ≤ y4 then (0 : Int32) else (2 : Int32)) := ⟨_, rfl⟩
    have H := H m3 em3
    have hj4 : KG z_pI 159 94 [some (.ref 0), some (.ref a1), some (.int y2), some (.ref a3), some (.int y4), some (.int y5), u6] [.int m3, .ref 0] (z_sW h (a3 + 1) (va_cpy (z_iv h 5) (z_iv h (a3 + 1)) (z_ix (0 : Int32)) (z_ix (0 : Int32)) (z_ix y4))) Q := by
      refine k_pI rfl (z_tgW W.t0) ?_
      refine k_n 1 (pc' := 99) (L' := [some (.ref 0), some (.ref a1), some (.int y2), some (.ref a3), some (.int y4), some (.int y5), u6]) (S' := [.int y4]) (h' := (z_sI (z_sW h (a3 + 1) (va_cpy (z_iv h 5) (z_iv h (a3 + 1)) (z_ix (0 : Int32)) (z_ix (0 : Int32)) (z_ix y4))) 0 15 m3)) rfl ?_
      exact k_r rfl rfl rfl H
    refine k_b (g := (12 : Int32) ≤ y4) (pc' := 93) (L' := [some (.ref 0), some (.ref a1), some (.int y2), some (.ref a3), some (.int y4), some (.int y5), u6]) (S' := [.ref 0]) (pc2 := 89) (L2 := [some (.ref 0), some (.ref a1), some (.int y2), some (.ref a3), some (.int y4), some (.int y5), u6]) (S2 := [.ref 0]) (h' := (z_sW h (a3 + 1) (va_cpy (z_iv h 5) (z_iv h (a3 + 1)) (z_ix (0 : Int32)) (z_ix (0 : Int32)) (z_ix y4)))) (h2 := (z_sW h (a3 + 1) (va_cpy (z_iv h 5) (z_iv h (a3 + 1)) (z_ix (0 : Int32)) (z_ix (0 : Int32)) (z_ix y4)))) rfl rfl (fun hc => ?_) (fun hc => ?_)
    · have c2 := hc
      refine k_n 1 (pc' := 94) (L' := [some (.ref 0), some (.ref a1), some (.int y2), some (.ref a3), some (.int y4), some (.int y5), u6]) (S' := [.int (0 : Int32), .ref 0]) (h' := (z_sW h (a3 + 1) (va_cpy (z_iv h 5) (z_iv h (a3 + 1)) (z_ix (0 : Int32)) (z_ix (0 : Int32)) (z_ix y4)))) rfl ?_
      rw [(em3.trans (by rw [if_pos c2]) : m3 = (0 : Int32))] at hj4
      exact hj4
    · have c2 := hc
      refine k_n 2 (pc' := 94) (L' := [some (.ref 0), some (.ref a1), some (.int y2), some (.ref a3), some (.int y4), some (.int y5), u6]) (S' := [.int (2 : Int32), .ref 0]) (h' := (z_sW h (a3 + 1) (va_cpy (z_iv h 5) (z_iv h (a3 + 1)) (z_ix (0 : Int32)) (z_ix (0 : Int32)) (z_ix y4)))) rfl ?_
      rw [(em3.trans (by rw [if_neg c2]) : m3 = (2 : Int32))] at hj4
      exact hj4
  · have hc := hc
    rw [if_neg hc] at H
    refine k_n 4 (pc' := 18) (L' := [some (.ref 0), some (.ref a1), some (.int y2), some (.ref a3), some (.int y4), some (.int y5), u6]) (S' := [.int (y2 + y5), .ref a1]) (h' := h) rfl ?_
    refine k_cI 88 2 rfl rfl rfl (A := [.ref a1, .int (y2 + y5)]) rfl rfl (z_rok_ref Ta1) (rest := []) rfl (z_tyI rfl rfl) ?_
    refine C_88 a1 (y2 + y5) h W Ta1  ?_
    refine k_b (g := z_bt ((0 : Int32) ≤ (y2 + y5) ∧ (y2 + y5) ≤ ((Int32.ofNat (z_ln h (a1 + 1))) - (1 : Int32))) = 0) (pc' := 66) (L' := [some (.ref 0), some (.ref a1), some (.int y2), some (.ref a3), some (.int y4), some (.int y5), u6]) (S' := []) (pc2 := 24) (L2 := [some (.ref 0), some (.ref a1), some (.int y2), some (.ref a3), some (.int y4), some (.int y5), u6]) (S2 := []) (h' := h) (h2 := h) rfl rfl (fun hc => ?_) (fun hc => ?_)
    · have hc := z_bt_0.mp hc
      rw [if_neg hc] at H
      refine k_n 1 (pc' := 67) (L' := [some (.ref 0), some (.ref a1), some (.int y2), some (.ref a3), some (.int y4), some (.int y5), u6]) (S' := [.ref 0]) (h' := h) rfl ?_
      refine k_gS (b := 5) rfl W.t0 (W.abOf (t := 11) (j := 4) (o := 5) (n := 12) (by decide) W.t0).1 ?_
      refine k_n 2 (pc' := 72) (L' := [some (.ref 0), some (.ref a1), some (.int y2), some (.ref a3), some (.int y4), some (.int y5), u6]) (S' := [.ref a3, .int (0 : Int32), .ref 5]) (h' := h) rfl ?_
      refine k_gS (b := (a3 + 1)) rfl Ta3 (W.reOf (t := 4) (j := 2) (o := 1) (n := 12) (by decide) Ta3).1 ?_
      refine k_n 2 (pc' := 78) (L' := [some (.ref 0), some (.ref a1), some (.int y2), some (.ref a3), some (.int y4), some (.int y5), u6]) (S' := [.int y4, .int (0 : Int32), .ref (a3 + 1), .int (0 : Int32), .ref 5]) (h' := h) rfl ?_
      obtain ⟨o5, H⟩ := H
      refine k_cp rfl (CW.tyOf (t := 11) (t' := 100) W (j := 4) W.t0 (W.abOf (t := 11) (j := 4) (o := 5) (n := 12) (by decide) W.t0).1 (by decide) rfl) (CW.tyOf (t := 4) (t' := 100) W (j := 2) Ta3 (W.reOf (t := 4) (j := 2) (o := 1) (n := 12) (by decide) Ta3).1 (by decide) rfl) o5.1 (W.abOf (t := 11) (j := 4) (o := 5) (n := 12) (by decide) W.t0).2 (W.reOf (t := 4) (j := 2) (o := 1) (n := 12) (by decide) Ta3).2 o5.2 ?_
      refine k_n 3 (pc' := 86) (L' := [some (.ref 0), some (.ref a1), some (.int y2), some (.ref a3), some (.int y4), some (.int y5), u6]) (S' := [.int (12 : Int32), .int y4, .ref 0]) (h' := (z_sW h (a3 + 1) (va_cpy (z_iv h 5) (z_iv h (a3 + 1)) (z_ix (0 : Int32)) (z_ix (0 : Int32)) (z_ix y4)))) rfl ?_
      obtain ⟨m7, em7⟩ : ∃ m : Int32, m = (if (12 : Int32) ≤ y4 then (0 : Int32) else (2 : Int32)) := ⟨_, rfl⟩
      have H := H m7 em7
      have hj8 : KG z_pI 159 94 [some (.ref 0), some (.ref a1), some (.int y2), some (.ref a3), some (.int y4), some (.int y5), u6] [.int m7, .ref 0] (z_sW h (a3 + 1) (va_cpy (z_iv h 5) (z_iv h (a3 + 1)) (z_ix (0 : Int32)) (z_ix (0 : Int32)) (z_ix y4))) Q := by
        refine k_pI rfl (z_tgW W.t0) ?_
        refine k_n 1 (pc' := 99) (L' := [some (.ref 0), some (.ref a1), some (.int y2), some (.ref a3), some (.int y4), some (.int y5), u6]) (S' := [.int y4]) (h' := (z_sI (z_sW h (a3 + 1) (va_cpy (z_iv h 5) (z_iv h (a3 + 1)) (z_ix (0 : Int32)) (z_ix (0 : Int32)) (z_ix y4))) 0 15 m7)) rfl ?_
        exact k_r rfl rfl rfl H
      refine k_b (g := (12 : Int32) ≤ y4) (pc' := 93) (L' := [some (.ref 0), some (.ref a1), some (.int y2), some (.ref a3), some (.int y4), some (.int y5), u6]) (S' := [.ref 0]) (pc2 := 89) (L2 := [some (.ref 0), some (.ref a1), some (.int y2), some (.ref a3), some (.int y4), some (.int y5), u6]) (S2 := [.ref 0]) (h' := (z_sW h (a3 + 1) (va_cpy (z_iv h 5) (z_iv h (a3 + 1)) (z_ix (0 : Int32)) (z_ix (0 : Int32)) (z_ix y4)))) (h2 := (z_sW h (a3 + 1) (va_cpy (z_iv h 5) (z_iv h (a3 + 1)) (z_ix (0 : Int32)) (z_ix (0 : Int32)) (z_ix y4)))) rfl rfl (fun hc => ?_) (fun hc => ?_)
      · have c6 := hc
        refine k_n 1 (pc' := 94) (L' := [some (.ref 0), some (.ref a1), some (.int y2), some (.ref a3), some (.int y4), some (.int y5), u6]) (S' := [.int (0 : Int32), .ref 0]) (h' := (z_sW h (a3 + 1) (va_cpy (z_iv h 5) (z_iv h (a3 + 1)) (z_ix (0 : Int32)) (z_ix (0 : Int32)) (z_ix y4)))) rfl ?_
        rw [(em7.trans (by rw [if_pos c6]) : m7 = (0 : Int32))] at hj8
        exact hj8
      · have c6 := hc
        refine k_n 2 (pc' := 94) (L' := [some (.ref 0), some (.ref a1), some (.int y2), some (.ref a3), some (.int y4), some (.int y5), u6]) (S' := [.int (2 : Int32), .ref 0]) (h' := (z_sW h (a3 + 1) (va_cpy (z_iv h 5) (z_iv h (a3 + 1)) (z_ix (0 : Int32)) (z_ix (0 : Int32)) (z_ix y4)))) rfl ?_
        rw [(em7.trans (by rw [if_neg c6]) : m7 = (2 : Int32))] at hj8
        exact hj8
    · have hc := Decidable.not_not.mp (fun q => hc (z_bt_0.mpr q))
      rw [if_pos hc] at H
      refine k_n 4 (pc' := 29) (L' := [some (.ref 0), some (.ref a1), some (.int y2), some (.ref a3), some (.int y4), some (.int y5), u6]) (S' := [.int (y2 + y5), .ref a1]) (h' := h) rfl ?_
      refine k_cI 90 2 rfl rfl rfl (A := [.ref a1, .int (y2 + y5)]) rfl rfl (z_rok_ref Ta1) (rest := []) rfl (z_tyI rfl rfl) ?_
      obtain ⟨o9, H⟩ := H
      refine C_90 a1 (y2 + y5) h W Ta1 o9 ?_
      refine k_n 2 (pc' := 36) (L' := [some (.ref 0), some (.ref a1), some (.int y2), some (.ref a3), some (.int y4), some (.int y5), some (.int (if (0 : Int32) ≤ (y2 + y5) ∧ (y2 + y5) ≤ ((Int32.ofNat (z_ln h (a1 + 1))) - (1 : Int32)) then (z_iv h (a1 + 1) (z_ix (y2 + y5))) else (0 : Int32)))]) (S' := [.int (if (0 : Int32) ≤ (y2 + y5) ∧ (y2 + y5) ≤ ((Int32.ofNat (z_ln h (a1 + 1))) - (1 : Int32)) then (z_iv h (a1 + 1) (z_ix (y2 + y5))) else (0 : Int32))]) (h' := h) rfl ?_
      refine k_cI 140 1 rfl rfl rfl (A := [.int (if (0 : Int32) ≤ (y2 + y5) ∧ (y2 + y5) ≤ ((Int32.ofNat (z_ln h (a1 + 1))) - (1 : Int32)) then (z_iv h (a1 + 1) (z_ix (y2 + y5))) else (0 : Int32))]) rfl rfl rfl (rest := []) rfl (z_tyI rfl rfl) ?_
      refine C_140 (if (0 : Int32) ≤ (y2 + y5) ∧ (y2 + y5) ≤ ((Int32.ofNat (z_ln h (a1 + 1))) - (1 : Int32)) then (z_iv h (a1 + 1) (z_ix (y2 + y5))) else (0 : Int32)) h    ?_
      refine k_b (g := z_bt ((0 : Int32) ≤ (if (0 : Int32) ≤ (y2 + y5) ∧ (y2 + y5) ≤ ((Int32.ofNat (z_ln h (a1 + 1))) - (1 : Int32)) then (z_iv h (a1 + 1) (z_ix (y2 + y5))) else (0 : Int32)) ∧ (if (0 : Int32) ≤ (y2 + y5) ∧ (y2 + y5) ≤ ((Int32.ofNat (z_ln h (a1 + 1))) - (1 : Int32)) then (z_iv h (a1 + 1) (z_ix (y2 + y5))) else (0 : Int32)) ≤ (999 : Int32)) = 0) (pc' := 42) (L' := [some (.ref 0), some (.ref a1), some (.int y2), some (.ref a3), some (.int y4), some (.int y5), some (.int (if (0 : Int32) ≤ (y2 + y5) ∧ (y2 + y5) ≤ ((Int32.ofNat (z_ln h (a1 + 1))) - (1 : Int32)) then (z_iv h (a1 + 1) (z_ix (y2 + y5))) else (0 : Int32)))]) (S' := []) (pc2 := 48) (L2 := [some (.ref 0), some (.ref a1), some (.int y2), some (.ref a3), some (.int y4), some (.int y5), some (.int (if (0 : Int32) ≤ (y2 + y5) ∧ (y2 + y5) ≤ ((Int32.ofNat (z_ln h (a1 + 1))) - (1 : Int32)) then (z_iv h (a1 + 1) (z_ix (y2 + y5))) else (0 : Int32)))]) (S2 := []) (h' := h) (h2 := h) rfl rfl (fun hc => ?_) (fun hc => ?_)
      · have hc := z_bt_0.mp hc
        rw [if_neg hc] at H
        refine k_n 3 (pc' := 47) (L' := [some (.ref 0), some (.ref a1), some (.int y2), some (.ref a3), some (.int y4), some (.int y5), some (.int (if (0 : Int32) ≤ (y2 + y5) ∧ (y2 + y5) ≤ ((Int32.ofNat (z_ln h (a1 + 1))) - (1 : Int32)) then (z_iv h (a1 + 1) (z_ix (y2 + y5))) else (0 : Int32)))]) (S' := [.int ((-20 : Int32) - y5)]) (h' := h) rfl ?_
        exact k_r rfl rfl rfl H
      · have hc := Decidable.not_not.mp (fun q => hc (z_bt_0.mpr q))
        rw [if_pos hc] at H
        refine k_n 1 (pc' := 49) (L' := [some (.ref 0), some (.ref a1), some (.int y2), some (.ref a3), some (.int y4), some (.int y5), some (.int (if (0 : Int32) ≤ (y2 + y5) ∧ (y2 + y5) ≤ ((Int32.ofNat (z_ln h (a1 + 1))) - (1 : Int32)) then (z_iv h (a1 + 1) (z_ix (y2 + y5))) else (0 : Int32)))]) (S' := [.ref 0]) (h' := h) rfl ?_
        refine k_gS (b := 5) rfl W.t0 (W.abOf (t := 11) (j := 4) (o := 5) (n := 12) (by decide) W.t0).1 ?_
        refine k_n 2 (pc' := 56) (L' := [some (.ref 0), some (.ref a1), some (.int y2), some (.ref a3), some (.int y4), some (.int y5), some (.int (if (0 : Int32) ≤ (y2 + y5) ∧ (y2 + y5) ≤ ((Int32.ofNat (z_ln h (a1 + 1))) - (1 : Int32)) then (z_iv h (a1 + 1) (z_ix (y2 + y5))) else (0 : Int32)))]) (S' := [.int (if (0 : Int32) ≤ (y2 + y5) ∧ (y2 + y5) ≤ ((Int32.ofNat (z_ln h (a1 + 1))) - (1 : Int32)) then (z_iv h (a1 + 1) (z_ix (y2 + y5))) else (0 : Int32)), .int y5, .ref 5]) (h' := h) rfl ?_
        obtain ⟨o10, H⟩ := H
        refine k_is (n := 12) rfl (CW.tyOf (t := 11) (t' := 100) W (j := 4) W.t0 (W.abOf (t := 11) (j := 4) (o := 5) (n := 12) (by decide) W.t0).1 (by decide) rfl) (W.abOf (t := 11) (j := 4) (o := 5) (n := 12) (by decide) W.t0).2 o10 ?_
        refine k_n 3 (pc' := 6) (L' := [some (.ref 0), some (.ref a1), some (.int y2), some (.ref a3), some (.int (y4 + (1 : Int32))), some (.int (y5 + (1 : Int32))), some (.int (if (0 : Int32) ≤ (y2 + y5) ∧ (y2 + y5) ≤ ((Int32.ofNat (z_ln h (a1 + 1))) - (1 : Int32)) then (z_iv h (a1 + 1) (z_ix (y2 + y5))) else (0 : Int32)))]) (S' := []) (h' := (z_sI h 5 (z_ix y5) (if (0 : Int32) ≤ (y2 + y5) ∧ (y2 + y5) ≤ ((Int32.ofNat (z_ln h (a1 + 1))) - (1 : Int32)) then (z_iv h (a1 + 1) (z_ix (y2 + y5))) else (0 : Int32)))) rfl ?_
        exact H
set_option maxRecDepth 20000 in
theorem X_132 (x1 : Int32) (x2 : Int32) (x3 : Int32) (x4 : Int32) (h : zH) (W : CW h)  {Q : Int32 → zH → Prop} (H : ∃ v1 : Option Nat, KV z_pA 148 [.ref 0, .int x1] h v1 ∧ (∀ b_, v1 = some b_ → z_tg h b_ = 4) ∧ ((v1 = none → Q (-1 : Int32) h) ∧ (∀ b5, v1 = some b5 → if (0 : Int32) ≤ x2 ∧ x2 ≤ (3 : Int32) then (if (0 : Int32) ≤ x3 ∧ x3 ≤ (2 : Int32) then ((0 ≤ x2.toInt ∧ x2.toInt < 4) ∧ ((z_rv h 4 (z_ix x2) = none → Q (0 : Int32) (z_sI h 0 15 (1 : Int32))) ∧ (∀ b9, z_rv h 4 (z_ix x2) = some b9 → if (z_iv h b9 0) = x3 then (KK z_pI 159 [.ref 0, .ref b9, .int x4, .ref b5] h (fun r13 h11 => Sh h h11 ∧ Q r13 h11)) else (Q (0 : Int32) (z_sI h 0 15 (3 : Int32)))))) else (Q (-1 : Int32) h)) else (Q (-1 : Int32) h)))) : KK z_pI 132 [.ref 0, .int x1, .int x2, .int x3, .int x4] h Q := by
  refine k_K (L := [some (.ref 0), some (.int x1), some (.int x2), some (.int x3), some (.int x4), none, none]) rfl ?_
  refine k_n 2 (pc' := 2) (L' := [some (.ref 0), some (.int x1), some (.int x2), some (.int x3), some (.int x4), none, none]) (S' := [.int x1, .ref 0]) (h' := h) rfl ?_
  refine k_cA 148 2 "SavedThird$Mine" rfl rfl rfl (A := [.ref 0, .int x1]) rfl rfl (z_rok_ref W.t0) (rest := []) rfl rfl (by decide) ?_
  obtain ⟨v1, k2, tv3, H⟩ := H
  refine k_P k2 ?_
  obtain hb4 | ⟨b5, hb4⟩ := z_opt (v1)
  · have H := H.1 hb4
    refine k_oN hb4 ?_
    refine k_n 4 (pc' := 27) (L' := [some (.ref 0), some (.int x1), some (.int x2), some (.int x3), some (.int x4), some (.null), none]) (S' := [.int (-1 : Int32)]) (h' := h) rfl ?_
    exact k_r rfl rfl rfl H
  · have H := H.2 b5 hb4
    have t6 : z_tg h b5 = 4 := tv3 _ hb4
    refine k_oS hb4 ?_
    refine k_n 4 (pc' := 13) (L' := [some (.ref 0), some (.int x1), some (.int x2), some (.int x3), some (.int x4), some (.ref b5), none]) (S' := [.int x2]) (h' := h) rfl ?_
    refine k_cI 142 1 rfl rfl rfl (A := [.int x2]) rfl rfl rfl (rest := []) rfl (z_tyI rfl rfl) ?_
    refine C_142 x2 h    ?_
    refine k_b (g := z_bt ((0 : Int32) ≤ x2 ∧ x2 ≤ (3 : Int32)) = 0) (pc' := 26) (L' := [some (.ref 0), some (.int x1), some (.int x2), some (.int x3), some (.int x4), some (.ref b5), none]) (S' := []) (pc2 := 19) (L2 := [some (.ref 0), some (.int x1), some (.int x2), some (.int x3), some (.int x4), some (.ref b5), none]) (S2 := []) (h' := h) (h2 := h) rfl rfl (fun hc => ?_) (fun hc => ?_)
    · have hc := z_bt_0.mp hc
      rw [if_neg hc] at H
      refine k_n 1 (pc' := 27) (L' := [some (.ref 0), some (.int x1), some (.int x2), some (.int x3), some (.int x4), some (.ref b5), none]) (S' := [.int (-1 : Int32)]) (h' := h) rfl ?_
      exact k_r rfl rfl rfl H
    · have hc := Decidable.not_not.mp (fun q => hc (z_bt_0.mpr q))
      rw [if_pos hc] at H
      refine k_n 1 (pc' := 20) (L' := [some (.ref 0), some (.int x1), some (.int x2), some (.int x3), some (.int x4), some (.ref b5), none]) (S' := [.int x3]) (h' := h) rfl ?_
      refine k_cI 143 1 rfl rfl rfl (A := [.int x3]) rfl rfl rfl (rest := []) rfl (z_tyI rfl rfl) ?_
      refine C_143 x3 h    ?_
      refine k_b (g := z_bt ((0 : Int32) ≤ x3 ∧ x3 ≤ (2 : Int32)) = 0) (pc' := 26) (L' := [some (.ref 0), some (.int x1), some (.int x2), some (.int x3), some (.int x4), some (.ref b5), none]) (S' := []) (pc2 := 28) (L2 := [some (.ref 0), some (.int x1), some (.int x2), some (.int x3), some (.int x4), some (.ref b5), none]) (S2 := []) (h' := h) (h2 := h) rfl rfl (fun hc => ?_) (fun hc => ?_)
      · have hc := z_bt_0.mp hc
        rw [if_neg hc] at H
        refine k_n 1 (pc' := 27) (L' := [some (.ref 0), some (.int x1), some (.int x2), some (.int x3), some (.int x4), some (.ref b5), none]) (S' := [.int (-1 : Int32)]) (h' := h) rfl ?_
        exact k_r rfl rfl rfl H
      · have hc := Decidable.not_not.mp (fun q => hc (z_bt_0.mpr q))
        rw [if_pos hc] at H
        refine k_n 1 (pc' := 29) (L' := [some (.ref 0), some (.int x1), some (.int x2), some (.int x3), some (.int x4), some (.ref b5), none]) (S' := [.ref 0]) (h' := h) rfl ?_
        refine k_gS (b := 4) rfl W.t0 (W.abOf (t := 11) (j := 3) (o := 4) (n := 4) (by decide) W.t0).1 ?_
        refine k_n 1 (pc' := 33) (L' := [some (.ref 0), some (.int x1), some (.int x2), some (.int x3), some (.int x4), some (.ref b5), none]) (S' := [.int x2, .ref 4]) (h' := h) rfl ?_
        obtain ⟨o7, H⟩ := H
        obtain hb8 | ⟨b9, hb8⟩ := z_opt (z_rv h 4 (z_ix x2))
        · have H := H.1 hb8
          refine k_aN rfl (CW.tyOf (t := 11) (t' := 105) W (j := 3) W.t0 (W.abOf (t := 11) (j := 3) (o := 4) (n := 4) (by decide) W.t0).1 (by decide) rfl) rfl (W.abOf (t := 11) (j := 3) (o := 4) (n := 4) (by decide) W.t0).2 o7 hb8 ?_
          refine k_n 5 (pc' := 43) (L' := [some (.ref 0), some (.int x1), some (.int x2), some (.int x3), some (.int x4), some (.ref b5), some (.null)]) (S' := [.int (1 : Int32), .ref 0]) (h' := h) rfl ?_
          refine k_pI rfl W.t0 ?_
          refine k_n 1 (pc' := 47) (L' := [some (.ref 0), some (.int x1), some (.int x2), some (.int x3), some (.int x4), some (.ref b5), some (.null)]) (S' := [.int (0 : Int32)]) (h' := (z_sI h 0 15 (1 : Int32))) rfl ?_
          exact k_r rfl rfl rfl H
        · have H := H.2 b9 hb8
          have t10 : z_tg h b9 = 8 := (CW.tyOf (t := 105) (t' := 8) W (CW.tyOf (t := 11) (t' := 105) W (j := 3) W.t0 (W.abOf (t := 11) (j := 3) (o := 4) (n := 4) (by decide) W.t0).1 (by decide) rfl) hb8 (by decide) rfl)
          refine k_aS rfl (CW.tyOf (t := 11) (t' := 105) W (j := 3) W.t0 (W.abOf (t := 11) (j := 3) (o := 4) (n := 4) (by decide) W.t0).1 (by decide) rfl) rfl (W.abOf (t := 11) (j := 3) (o := 4) (n := 4) (by decide) W.t0).2 o7 hb8 ?_
          refine k_n 4 (pc' := 50) (L' := [some (.ref 0), some (.int x1), some (.int x2), some (.int x3), some (.int x4), some (.ref b5), some (.ref b9)]) (S' := [.ref b9]) (h' := h) rfl ?_
          refine k_gI rfl rfl t10 ?_
          refine k_n 1 (pc' := 54) (L' := [some (.ref 0), some (.int x1), some (.int x2), some (.int x3), some (.int x4), some (.ref b5), some (.ref b9)]) (S' := [.int x3, .int (z_iv h b9 0)]) (h' := h) rfl ?_
          refine k_b (g := (z_iv h b9 0) = x3) (pc' := 64) (L' := [some (.ref 0), some (.int x1), some (.int x2), some (.int x3), some (.int x4), some (.ref b5), some (.ref b9)]) (S' := []) (pc2 := 57) (L2 := [some (.ref 0), some (.int x1), some (.int x2), some (.int x3), some (.int x4), some (.ref b5), some (.ref b9)]) (S2 := []) (h' := h) (h2 := h) rfl rfl (fun hc => ?_) (fun hc => ?_)
          · have hc := hc
            rw [if_pos hc] at H
            refine k_n 4 (pc' := 71) (L' := [some (.ref 0), some (.int x1), some (.int x2), some (.int x3), some (.int x4), some (.ref b5), some (.ref b9)]) (S' := [.ref b5, .int x4, .ref b9, .ref 0]) (h' := h) rfl ?_
            refine k_cI 159 4 rfl rfl rfl (A := [.ref 0, .ref b9, .int x4, .ref b5]) rfl rfl (z_rok_ref W.t0) (rest := []) rfl (z_tyI rfl rfl) ?_
            refine H.mono (fun r13 h11 H => ?_)
            obtain ⟨E12, H⟩ := H
            exact k_r rfl rfl rfl H
          · have hc := hc
            rw [if_neg hc] at H
            refine k_n 2 (pc' := 59) (L' := [some (.ref 0), some (.int x1), some (.int x2), some (.int x3), some (.int x4), some (.ref b5), some (.ref b9)]) (S' := [.int (3 : Int32), .ref 0]) (h' := h) rfl ?_
            refine k_pI rfl W.t0 ?_
            refine k_n 1 (pc' := 63) (L' := [some (.ref 0), some (.int x1), some (.int x2), some (.int x3), some (.int x4), some (.ref b5), some (.ref b9)]) (S' := [.int (0 : Int32)]) (h' := (z_sI h 0 15 (3 : Int32))) rfl ?_
            exact k_r rfl rfl rfl H
set_option maxRecDepth 20000 in
theorem X_154  (h : zH) (W : CW h)  {Q : Int32 → zH → Prop} (H : KG z_pI 154 4 [some (.ref 0), some (.int (0 : Int32)), some (.int (0 : Int32)), none] [] h Q) : KK z_pI 154 [.ref 0] h Q := by
  refine k_K (L := [some (.ref 0), none, none, none]) rfl ?_
  refine k_n 4 (pc' := 4) (L' := [some (.ref 0), some (.int (0 : Int32)), some (.int (0 : Int32)), none]) (S' := []) (h' := h) rfl ?_
  exact H
set_option maxRecDepth 20000 in
theorem X_154_4 (y1 : Int32) (y2 : Int32) (u3 : Option Value) (h : zH) (W : CW h)  {Q : Int32 → zH → Prop} (H : if (12 : Int32) ≤ y2 then (Q y1 h) else (∃ v1 : Option Nat, KV z_pA 149 [.ref 0, .int y2] h v1 ∧ (∀ b_, v1 = some b_ → z_tg h b_ = 3) ∧ ((v1 = none → KG z_pI 154 4 [some (.ref 0), some (.int y1), some (.int (y2 + (1 : Int32))), some (.null)] [] h Q) ∧ (∀ b5, v1 = some b5 → KG z_pI 154 4 [some (.ref 0), some (.int (y1 + (z_iv h b5 12))), some (.int (y2 + (1 : Int32))), some (.ref b5)] [] h Q)))) : KG z_pI 154 4 [some (.ref 0), some (.int y1), some (.int y2), u3] [] h Q := by
  refine k_n 2 (pc' := 7) (L' := [some (.ref 0), some (.int y1), some (.int y2), u3]) (S' := [.int (12 : Int32), .int y2]) (h' := h) rfl ?_
  refine k_b (g := (12 : Int32) ≤ y2) (pc' := 33) (L' := [some (.ref 0), some (.int y1), some (.int y2), u3]) (S' := []) (pc2 := 10) (L2 := [some (.ref 0), some (.int y1), some (.int y2), u3]) (S2 := []) (h' := h) (h2 := h) rfl rfl (fun hc => ?_) (fun hc => ?_)
  · have hc := hc
    rw [if_pos hc] at H
    refine k_n 1 (pc' := 34) (L' := [some (.ref 0), some (.int y1), some (.int y2), u3]) (S' := [.int y1]) (h' := h) rfl ?_
    exact k_r rfl rfl rfl H
  · have hc := hc
    rw [if_neg hc] at H
    refine k_n 2 (pc' := 12) (L' := [some (.ref 0), some (.int y1), some (.int y2), u3]) (S' := [.int y2, .ref 0]) (h' := h) rfl ?_
    refine k_cA 149 2 "SavedThird$Engine" rfl rfl rfl (A := [.ref 0, .int y2]) rfl rfl (z_rok_ref W.t0) (rest := []) rfl rfl (by decide) ?_
    obtain ⟨v1, k2, tv3, H⟩ := H
    refine k_P k2 ?_
    obtain hb4 | ⟨b5, hb4⟩ := z_opt (v1)
    · have H := H.1 hb4
      refine k_oN hb4 ?_
      refine k_n 5 (pc' := 4) (L' := [some (.ref 0), some (.int y1), some (.int (y2 + (1 : Int32))), some (.null)]) (S' := []) (h' := h) rfl ?_
      exact H
    · have H := H.2 b5 hb4
      have t6 : z_tg h b5 = 3 := tv3 _ hb4
      refine k_oS hb4 ?_
      refine k_n 5 (pc' := 22) (L' := [some (.ref 0), some (.int y1), some (.int y2), some (.ref b5)]) (S' := [.ref b5, .int y1]) (h' := h) rfl ?_
      refine k_gI rfl rfl t6 ?_
      refine k_n 4 (pc' := 4) (L' := [some (.ref 0), some (.int (y1 + (z_iv h b5 12))), some (.int (y2 + (1 : Int32))), some (.ref b5)]) (S' := []) (h' := h) rfl ?_
      exact H
set_option maxRecDepth 20000 in
theorem X_153  (h : zH) (W : CW h)  {Q : Int32 → zH → Prop} (H : KG z_pI 153 4 [some (.ref 0), some (.int (0 : Int32)), some (.int (0 : Int32)), none] [] h Q) : KK z_pI 153 [.ref 0] h Q := by
  refine k_K (L := [some (.ref 0), none, none, none]) rfl ?_
  refine k_n 4 (pc' := 4) (L' := [some (.ref 0), some (.int (0 : Int32)), some (.int (0 : Int32)), none]) (S' := []) (h' := h) rfl ?_
  exact H
set_option maxRecDepth 20000 in
theorem X_153_4 (y1 : Int32) (y2 : Int32) (u3 : Option Value) (h : zH) (W : CW h)  {Q : Int32 → zH → Prop} (H : if (12 : Int32) ≤ y2 then (Q y1 h) else (∃ v1 : Option Nat, KV z_pA 149 [.ref 0, .int y2] h v1 ∧ (∀ b_, v1 = some b_ → z_tg h b_ = 3) ∧ ((v1 = none → KG z_pI 153 4 [some (.ref 0), some (.int y1), some (.int (y2 + (1 : Int32))), some (.null)] [] h Q) ∧ (∀ b5, v1 = some b5 → ∀ m8 : Int32, m8 = (if (z_iv h b5 10) = 0 then y1 else (y1 + (1 : Int32))) → KG z_pI 153 4 [some (.ref 0), some (.int m8), some (.int (y2 + (1 : Int32))), some (.ref b5)] [] h Q)))) : KG z_pI 153 4 [some (.ref 0), some (.int y1), some (.int y2), u3] [] h Q := by
  refine k_n 2 (pc' := 7) (L' := [some (.ref 0), some (.int y1), some (.int y2), u3]) (S' := [.int (12 : Int32), .int y2]) (h' := h) rfl ?_
  refine k_b (g := (12 : Int32) ≤ y2) (pc' := 36) (L' := [some (.ref 0), some (.int y1), some (.int y2), u3]) (S' := []) (pc2 := 10) (L2 := [some (.ref 0), some (.int y1), some (.int y2), u3]) (S2 := []) (h' := h) (h2 := h) rfl rfl (fun hc => ?_) (fun hc => ?_)
  · have hc := hc
    rw [if_pos hc] at H
    refine k_n 1 (pc' := 37) (L' := [some (.ref 0), some (.int y1), some (.int y2), u3]) (S' := [.int y1]) (h' := h) rfl ?_
    exact k_r rfl rfl rfl H
  · have hc := hc
    rw [if_neg hc] at H
    refine k_n 2 (pc' := 12) (L' := [some (.ref 0), some (.int y1), some (.int y2), u3]) (S' := [.int y2, .ref 0]) (h' := h) rfl ?_
    refine k_cA 149 2 "SavedThird$Engine" rfl rfl rfl (A := [.ref 0, .int y2]) rfl rfl (z_rok_ref W.t0) (rest := []) rfl rfl (by decide) ?_
    obtain ⟨v1, k2, tv3, H⟩ := H
    refine k_P k2 ?_
    obtain hb4 | ⟨b5, hb4⟩ := z_opt (v1)
    · have H := H.1 hb4
      refine k_oN hb4 ?_
      refine k_n 5 (pc' := 4) (L' := [some (.ref 0), some (.int y1), some (.int (y2 + (1 : Int32))), some (.null)]) (S' := []) (h' := h) rfl ?_
      exact H
    · have H := H.2 b5 hb4
      have t6 : z_tg h b5 = 3 := tv3 _ hb4
      refine k_oS hb4 ?_
      refine k_n 4 (pc' := 21) (L' := [some (.ref 0), some (.int y1), some (.int y2), some (.ref b5)]) (S' := [.ref b5]) (h' := h) rfl ?_
      refine k_gI rfl rfl t6 ?_
      obtain ⟨m8, em8⟩ : ∃ m : Int32, m = (if (z_iv h b5 10) = 0 then y1 else (y1 + (1 : Int32))) := ⟨_, rfl⟩
      have H := H m8 em8
      have hj9 : KG z_pI 153 30 [some (.ref 0), some (.int m8), some (.int y2), some (.ref b5)] [] h Q := by
        refine k_n 2 (pc' := 4) (L' := [some (.ref 0), some (.int m8), some (.int (y2 + (1 : Int32))), some (.ref b5)]) (S' := []) (h' := h) rfl ?_
        exact H
      refine k_b (g := (z_iv h b5 10) = 0) (pc' := 30) (L' := [some (.ref 0), some (.int y1), some (.int y2), some (.ref b5)]) (S' := []) (pc2 := 27) (L2 := [some (.ref 0), some (.int y1), some (.int y2), some (.ref b5)]) (S2 := []) (h' := h) (h2 := h) rfl rfl (fun hc => ?_) (fun hc => ?_)
      · have c7 := hc
        rw [(em8.trans (by rw [if_pos c7]) : m8 = y1)] at hj9
        exact hj9
      · have c7 := hc
        refine k_n 1 (pc' := 30) (L' := [some (.ref 0), some (.int (y1 + (1 : Int32))), some (.int y2), some (.ref b5)]) (S' := []) (h' := h) rfl ?_
        rw [(em8.trans (by rw [if_neg c7]) : m8 = (y1 + (1 : Int32)))] at hj9
        exact hj9
set_option maxRecDepth 20000 in
theorem X_152  (h : zH) (W : CW h)  {Q : Int32 → zH → Prop} (H : KG z_pI 152 4 [some (.ref 0), some (.int (0 : Int32)), some (.int (0 : Int32)), none] [] h Q) : KK z_pI 152 [.ref 0] h Q := by
  refine k_K (L := [some (.ref 0), none, none, none]) rfl ?_
  refine k_n 4 (pc' := 4) (L' := [some (.ref 0), some (.int (0 : Int32)), some (.int (0 : Int32)), none]) (S' := []) (h' := h) rfl ?_
  exact H
set_option maxRecDepth 20000 in
theorem X_152_4 (y1 : Int32) (y2 : Int32) (u3 : Option Value) (h : zH) (W : CW h)  {Q : Int32 → zH → Prop} (H : if (12 : Int32) ≤ y2 then (Q y1 h) else (∃ v1 : Option Nat, KV z_pA 149 [.ref 0, .int y2] h v1 ∧ (∀ b_, v1 = some b_ → z_tg h b_ = 3) ∧ ((v1 = none → KG z_pI 152 4 [some (.ref 0), some (.int y1), some (.int (y2 + (1 : Int32))), some (.null)] [] h Q) ∧ (∀ b5, v1 = some b5 → ∃ v7 : Int32, KV z_pI 151 [.ref 0, .ref b5] h v7 ∧ (∀ m10 : Int32, m10 = (if v7 = 0 then y1 else (y1 + (1 : Int32))) → KG z_pI 152 4 [some (.ref 0), some (.int m10), some (.int (y2 + (1 : Int32))), some (.ref b5)] [] h Q))))) : KG z_pI 152 4 [some (.ref 0), some (.int y1), some (.int y2), u3] [] h Q := by
  refine k_n 2 (pc' := 7) (L' := [some (.ref 0), some (.int y1), some (.int y2), u3]) (S' := [.int (12 : Int32), .int y2]) (h' := h) rfl ?_
  refine k_b (g := (12 : Int32) ≤ y2) (pc' := 37) (L' := [some (.ref 0), some (.int y1), some (.int y2), u3]) (S' := []) (pc2 := 10) (L2 := [some (.ref 0), some (.int y1), some (.int y2), u3]) (S2 := []) (h' := h) (h2 := h) rfl rfl (fun hc => ?_) (fun hc => ?_)
  · have hc := hc
    rw [if_pos hc] at H
    refine k_n 1 (pc' := 38) (L' := [some (.ref 0), some (.int y1), some (.int y2), u3]) (S' := [.int y1]) (h' := h) rfl ?_
    exact k_r rfl rfl rfl H
  · have hc := hc
    rw [if_neg hc] at H
    refine k_n 2 (pc' := 12) (L' := [some (.ref 0), some (.int y1), some (.int y2), u3]) (S' := [.int y2, .ref 0]) (h' := h) rfl ?_
    refine k_cA 149 2 "SavedThird$Engine" rfl rfl rfl (A := [.ref 0, .int y2]) rfl rfl (z_rok_ref W.t0) (rest := []) rfl rfl (by decide) ?_
    obtain ⟨v1, k2, tv3, H⟩ := H
    refine k_P k2 ?_
    obtain hb4 | ⟨b5, hb4⟩ := z_opt (v1)
    · have H := H.1 hb4
      refine k_oN hb4 ?_
      refine k_n 5 (pc' := 4) (L' := [some (.ref 0), some (.int y1), some (.int (y2 + (1 : Int32))), some (.null)]) (S' := []) (h' := h) rfl ?_
      exact H
    · have H := H.2 b5 hb4
      have t6 : z_tg h b5 = 3 := tv3 _ hb4
      refine k_oS hb4 ?_
      refine k_n 5 (pc' := 22) (L' := [some (.ref 0), some (.int y1), some (.int y2), some (.ref b5)]) (S' := [.ref b5, .ref 0]) (h' := h) rfl ?_
      refine k_cI 151 2 rfl rfl rfl (A := [.ref 0, .ref b5]) rfl rfl (z_rok_ref W.t0) (rest := []) rfl (z_tyI rfl rfl) ?_
      obtain ⟨v7, k8, H⟩ := H
      refine k_P k8 ?_
      obtain ⟨m10, em10⟩ : ∃ m : Int32, m = (if v7 = 0 then y1 else (y1 + (1 : Int32))) := ⟨_, rfl⟩
      have H := H m10 em10
      have hj11 : KG z_pI 152 31 [some (.ref 0), some (.int m10), some (.int y2), some (.ref b5)] [] h Q := by
        refine k_n 2 (pc' := 4) (L' := [some (.ref 0), some (.int m10), some (.int (y2 + (1 : Int32))), some (.ref b5)]) (S' := []) (h' := h) rfl ?_
        exact H
      refine k_b (g := v7 = 0) (pc' := 31) (L' := [some (.ref 0), some (.int y1), some (.int y2), some (.ref b5)]) (S' := []) (pc2 := 28) (L2 := [some (.ref 0), some (.int y1), some (.int y2), some (.ref b5)]) (S2 := []) (h' := h) (h2 := h) rfl rfl (fun hc => ?_) (fun hc => ?_)
      · have c9 := hc
        rw [(em10.trans (by rw [if_pos c9]) : m10 = y1)] at hj11
        exact hj11
      · have c9 := hc
        refine k_n 1 (pc' := 31) (L' := [some (.ref 0), some (.int (y1 + (1 : Int32))), some (.int y2), some (.ref b5)]) (S' := []) (h' := h) rfl ?_
        rw [(em10.trans (by rw [if_neg c9]) : m10 = (y1 + (1 : Int32)))] at hj11
        exact hj11
set_option maxRecDepth 20000 in
theorem X_155 (x1 : Int32) (h : zH) (W : CW h)  {Q : Int32 → zH → Prop} (H : KG z_pI 155 4 [some (.ref 0), some (.int x1), some (.int (0 : Int32)), some (.int (0 : Int32)), none] [] h Q) : KK z_pI 155 [.ref 0, .int x1] h Q := by
  refine k_K (L := [some (.ref 0), some (.int x1), none, none, none]) rfl ?_
  refine k_n 4 (pc' := 4) (L' := [some (.ref 0), some (.int x1), some (.int (0 : Int32)), some (.int (0 : Int32)), none]) (S' := []) (h' := h) rfl ?_
  exact H
set_option maxRecDepth 20000 in
theorem X_155_4 (y1 : Int32) (y2 : Int32) (y3 : Int32) (u4 : Option Value) (h : zH) (W : CW h)  {Q : Int32 → zH → Prop} (H : if (60 : Int32) ≤ y3 then (Q y2 h) else (∃ v1 : Option Nat, KV z_pA 150 [.ref 0, .int y3] h v1 ∧ (∀ b_, v1 = some b_ → z_tg h b_ = 5) ∧ ((v1 = none → KG z_pI 155 4 [some (.ref 0), some (.int y1), some (.int y2), some (.int (y3 + (1 : Int32))), some (.null)] [] h Q) ∧ (∀ b5, v1 = some b5 → (z_rv h b5 0 = none → False) ∧ (∀ b8, z_rv h b5 0 = some b8 → ∀ m11 : Int32, m11 = (if (z_iv h b8 5) = y1 then (y2 + (1 : Int32)) else y2) → KG z_pI 155 4 [some (.ref 0), some (.int y1), some (.int m11), some (.int (y3 + (1 : Int32))), some (.ref b5)] [] h Q))))) : KG z_pI 155 4 [some (.ref 0), some (.int y1), some (.int y2), some (.int y3), u4] [] h Q := by
  refine k_n 2 (pc' := 7) (L' := [some (.ref 0), some (.int y1), some (.int y2), some (.int y3), u4]) (S' := [.int (60 : Int32), .int y3]) (h' := h) rfl ?_
  refine k_b (g := (60 : Int32) ≤ y3) (pc' := 43) (L' := [some (.ref 0), some (.int y1), some (.int y2), some (.int y3), u4]) (S' := []) (pc2 := 10) (L2 := [some (.ref 0), some (.int y1), some (.int y2), some (.int y3), u4]) (S2 := []) (h' := h) (h2 := h) rfl rfl (fun hc => ?_) (fun hc => ?_)
  · have hc := hc
    rw [if_pos hc] at H
    refine k_n 1 (pc' := 44) (L' := [some (.ref 0), some (.int y1), some (.int y2), some (.int y3), u4]) (S' := [.int y2]) (h' := h) rfl ?_
    exact k_r rfl rfl rfl H
  · have hc := hc
    rw [if_neg hc] at H
    refine k_n 2 (pc' := 12) (L' := [some (.ref 0), some (.int y1), some (.int y2), some (.int y3), u4]) (S' := [.int y3, .ref 0]) (h' := h) rfl ?_
    refine k_cA 150 2 "SavedThird$Reading" rfl rfl rfl (A := [.ref 0, .int y3]) rfl rfl (z_rok_ref W.t0) (rest := []) rfl rfl (by decide) ?_
    obtain ⟨v1, k2, tv3, H⟩ := H
    refine k_P k2 ?_
    obtain hb4 | ⟨b5, hb4⟩ := z_opt (v1)
    · have H := H.1 hb4
      refine k_oN hb4 ?_
      refine k_n 5 (pc' := 4) (L' := [some (.ref 0), some (.int y1), some (.int y2), some (.int (y3 + (1 : Int32))), some (.null)]) (S' := []) (h' := h) rfl ?_
      exact H
    · have H := H.2 b5 hb4
      have t6 : z_tg h b5 = 5 := tv3 _ hb4
      refine k_oS hb4 ?_
      refine k_n 4 (pc' := 24) (L' := [some (.ref 0), some (.int y1), some (.int y2), some (.int y3), some (.ref b5)]) (S' := [.ref b5]) (h' := h) rfl ?_
      obtain hb7 | ⟨b8, hb7⟩ := z_opt (z_rv h b5 0)
      · have H := H.1 hb7
        refine k_gN rfl t6 hb7 ?_
        exact H.elim
      · have H := H.2 b8 hb7
        have t9 : z_tg h b8 = 3 := (CW.tyOf (t := 5) (t' := 3) W t6 hb7 (by decide) rfl)
        refine k_gS rfl t6 hb7 ?_
        refine k_gI rfl rfl t9 ?_
        refine k_n 1 (pc' := 31) (L' := [some (.ref 0), some (.int y1), some (.int y2), some (.int y3), some (.ref b5)]) (S' := [.int y1, .int (z_iv h b8 5)]) (h' := h) rfl ?_
        obtain ⟨m11, em11⟩ : ∃ m : Int32, m = (if (z_iv h b8 5) = y1 then (y2 + (1 : Int32)) else y2) := ⟨_, rfl⟩
        have H := H m11 em11
        have hj12 : KG z_pI 155 37 [some (.ref 0), some (.int y1), some (.int m11), some (.int y3), some (.ref b5)] [] h Q := by
          refine k_n 2 (pc' := 4) (L' := [some (.ref 0), some (.int y1), some (.int m11), some (.int (y3 + (1 : Int32))), some (.ref b5)]) (S' := []) (h' := h) rfl ?_
          exact H
        refine k_b (g := (z_iv h b8 5) = y1) (pc' := 34) (L' := [some (.ref 0), some (.int y1), some (.int y2), some (.int y3), some (.ref b5)]) (S' := []) (pc2 := 37) (L2 := [some (.ref 0), some (.int y1), some (.int y2), some (.int y3), some (.ref b5)]) (S2 := []) (h' := h) (h2 := h) rfl rfl (fun hc => ?_) (fun hc => ?_)
        · have c10 := hc
          refine k_n 1 (pc' := 37) (L' := [some (.ref 0), some (.int y1), some (.int (y2 + (1 : Int32))), some (.int y3), some (.ref b5)]) (S' := []) (h' := h) rfl ?_
          rw [(em11.trans (by rw [if_pos c10]) : m11 = (y2 + (1 : Int32)))] at hj12
          exact hj12
        · have c10 := hc
          rw [(em11.trans (by rw [if_neg c10]) : m11 = y2)] at hj12
          exact hj12
set_option maxRecDepth 20000 in
theorem X_134 (x1 : Int32) (h : zH) (W : CW h)  {Q : Int32 → zH → Prop} (H : if x1 = (0 : Int32) then (Q (z_iv h 0 11) h) else (if x1 = (1 : Int32) then (Q (z_iv h 0 12) h) else (if x1 = (2 : Int32) then (Q (z_iv h 0 13) h) else (if x1 = (3 : Int32) then (∃ v5 : Int32, KV z_pI 152 [.ref 0] h v5 ∧ Q v5 h) else (if x1 = (4 : Int32) then (∃ v8 : Int32, KV z_pI 153 [.ref 0] h v8 ∧ Q v8 h) else (if x1 = (5 : Int32) then (Q (z_iv h 0 14) h) else (if x1 = (6 : Int32) then ((z_rv h 0 9 = none → False) ∧ (∀ b13, z_rv h 0 9 = some b13 → Q (z_iv h b13 5) h)) else (if x1 = (7 : Int32) then (∃ v16 : Int32, KV z_pI 154 [.ref 0] h v16 ∧ Q v16 h) else (if x1 = (8 : Int32) then (Q (z_iv h 6 1) h) else (if x1 = (9 : Int32) then ((z_rv h 4 (z_ix (0 : Int32)) = none → Q (-4 : Int32) h) ∧ (∀ b21, z_rv h 4 (z_ix (0 : Int32)) = some b21 → Q (Int32.ofNat (z_ln h (b21 + 1))) h)) else (Q (-1 : Int32) h))))))))))) : KK z_pI 134 [.ref 0, .int x1] h Q := by
  refine k_K (L := [some (.ref 0), some (.int x1)]) rfl ?_
  refine k_n 1 (pc' := 1) (L' := [some (.ref 0), some (.int x1)]) (S' := [.int x1]) (h' := h) rfl ?_
  by_cases w1 : x1 = (0 : Int32)
  · rw [if_pos w1] at H
    refine k_sw (pc' := 56) rfl (congrArg (z_tgt 1) (z_swT (k := (0 : Int32)) w1 rfl)) ?_
    refine k_n 1 (pc' := 57) (L' := [some (.ref 0), some (.int x1)]) (S' := [.ref 0]) (h' := h) rfl ?_
    refine k_gI rfl rfl W.t0 ?_
    exact k_r rfl rfl rfl H
  rw [if_neg w1] at H
  by_cases w2 : x1 = (1 : Int32)
  · rw [if_pos w2] at H
    refine k_sw (pc' := 61) rfl (congrArg (z_tgt 1) (z_swN (k := (0 : Int32)) w1 rfl (z_swT (k := (1 : Int32)) w2 rfl))) ?_
    refine k_n 1 (pc' := 62) (L' := [some (.ref 0), some (.int x1)]) (S' := [.ref 0]) (h' := h) rfl ?_
    refine k_gI rfl rfl W.t0 ?_
    exact k_r rfl rfl rfl H
  rw [if_neg w2] at H
  by_cases w3 : x1 = (2 : Int32)
  · rw [if_pos w3] at H
    refine k_sw (pc' := 66) rfl (congrArg (z_tgt 1) (z_swN (k := (0 : Int32)) w1 rfl (z_swN (k := (1 : Int32)) w2 rfl (z_swT (k := (2 : Int32)) w3 rfl)))) ?_
    refine k_n 1 (pc' := 67) (L' := [some (.ref 0), some (.int x1)]) (S' := [.ref 0]) (h' := h) rfl ?_
    refine k_gI rfl rfl W.t0 ?_
    exact k_r rfl rfl rfl H
  rw [if_neg w3] at H
  by_cases w4 : x1 = (3 : Int32)
  · rw [if_pos w4] at H
    refine k_sw (pc' := 71) rfl (congrArg (z_tgt 1) (z_swN (k := (0 : Int32)) w1 rfl (z_swN (k := (1 : Int32)) w2 rfl (z_swN (k := (2 : Int32)) w3 rfl (z_swT (k := (3 : Int32)) w4 rfl))))) ?_
    refine k_n 1 (pc' := 72) (L' := [some (.ref 0), some (.int x1)]) (S' := [.ref 0]) (h' := h) rfl ?_
    refine k_cI 152 1 rfl rfl rfl (A := [.ref 0]) rfl rfl (z_rok_ref W.t0) (rest := []) rfl (z_tyI rfl rfl) ?_
    obtain ⟨v5, k6, H⟩ := H
    refine k_P k6 ?_
    exact k_r rfl rfl rfl H
  rw [if_neg w4] at H
  by_cases w7 : x1 = (4 : Int32)
  · rw [if_pos w7] at H
    refine k_sw (pc' := 76) rfl (congrArg (z_tgt 1) (z_swN (k := (0 : Int32)) w1 rfl (z_swN (k := (1 : Int32)) w2 rfl (z_swN (k := (2 : Int32)) w3 rfl (z_swN (k := (3 : Int32)) w4 rfl (z_swT (k := (4 : Int32)) w7 rfl)))))) ?_
    refine k_n 1 (pc' := 77) (L' := [some (.ref 0), some (.int x1)]) (S' := [.ref 0]) (h' := h) rfl ?_
    refine k_cI 153 1 rfl rfl rfl (A := [.ref 0]) rfl rfl (z_rok_ref W.t0) (rest := []) rfl (z_tyI rfl rfl) ?_
    obtain ⟨v8, k9, H⟩ := H
    refine k_P k9 ?_
    exact k_r rfl rfl rfl H
  rw [if_neg w7] at H
  by_cases w10 : x1 = (5 : Int32)
  · rw [if_pos w10] at H
    refine k_sw (pc' := 81) rfl (congrArg (z_tgt 1) (z_swN (k := (0 : Int32)) w1 rfl (z_swN (k := (1 : Int32)) w2 rfl (z_swN (k := (2 : Int32)) w3 rfl (z_swN (k := (3 : Int32)) w4 rfl (z_swN (k := (4 : Int32)) w7 rfl (z_swT (k := (5 : Int32)) w10 rfl))))))) ?_
    refine k_n 1 (pc' := 82) (L' := [some (.ref 0), some (.int x1)]) (S' := [.ref 0]) (h' := h) rfl ?_
    refine k_gI rfl rfl W.t0 ?_
    exact k_r rfl rfl rfl H
  rw [if_neg w10] at H
  by_cases w11 : x1 = (6 : Int32)
  · rw [if_pos w11] at H
    refine k_sw (pc' := 86) rfl (congrArg (z_tgt 1) (z_swN (k := (0 : Int32)) w1 rfl (z_swN (k := (1 : Int32)) w2 rfl (z_swN (k := (2 : Int32)) w3 rfl (z_swN (k := (3 : Int32)) w4 rfl (z_swN (k := (4 : Int32)) w7 rfl (z_swN (k := (5 : Int32)) w10 rfl (z_swT (k := (6 : Int32)) w11 rfl)))))))) ?_
    refine k_n 1 (pc' := 87) (L' := [some (.ref 0), some (.int x1)]) (S' := [.ref 0]) (h' := h) rfl ?_
    obtain hb12 | ⟨b13, hb12⟩ := z_opt (z_rv h 0 9)
    · have H := H.1 hb12
      refine k_gN rfl W.t0 hb12 ?_
      exact H.elim
    · have H := H.2 b13 hb12
      have t14 : z_tg h b13 = 1 := (CW.tyOf (t := 11) (t' := 1) W W.t0 hb12 (by decide) rfl)
      refine k_gS rfl W.t0 hb12 ?_
      refine k_gI rfl rfl t14 ?_
      exact k_r rfl rfl rfl H
  rw [if_neg w11] at H
  by_cases w15 : x1 = (7 : Int32)
  · rw [if_pos w15] at H
    refine k_sw (pc' := 94) rfl (congrArg (z_tgt 1) (z_swN (k := (0 : Int32)) w1 rfl (z_swN (k := (1 : Int32)) w2 rfl (z_swN (k := (2 : Int32)) w3 rfl (z_swN (k := (3 : Int32)) w4 rfl (z_swN (k := (4 : Int32)) w7 rfl (z_swN (k := (5 : Int32)) w10 rfl (z_swN (k := (6 : Int32)) w11 rfl (z_swT (k := (7 : Int32)) w15 rfl))))))))) ?_
    refine k_n 1 (pc' := 95) (L' := [some (.ref 0), some (.int x1)]) (S' := [.ref 0]) (h' := h) rfl ?_
    refine k_cI 154 1 rfl rfl rfl (A := [.ref 0]) rfl rfl (z_rok_ref W.t0) (rest := []) rfl (z_tyI rfl rfl) ?_
    obtain ⟨v16, k17, H⟩ := H
    refine k_P k17 ?_
    exact k_r rfl rfl rfl H
  rw [if_neg w15] at H
  by_cases w18 : x1 = (8 : Int32)
  · rw [if_pos w18] at H
    refine k_sw (pc' := 99) rfl (congrArg (z_tgt 1) (z_swN (k := (0 : Int32)) w1 rfl (z_swN (k := (1 : Int32)) w2 rfl (z_swN (k := (2 : Int32)) w3 rfl (z_swN (k := (3 : Int32)) w4 rfl (z_swN (k := (4 : Int32)) w7 rfl (z_swN (k := (5 : Int32)) w10 rfl (z_swN (k := (6 : Int32)) w11 rfl (z_swN (k := (7 : Int32)) w15 rfl (z_swT (k := (8 : Int32)) w18 rfl)))))))))) ?_
    refine k_n 1 (pc' := 100) (L' := [some (.ref 0), some (.int x1)]) (S' := [.ref 0]) (h' := h) rfl ?_
    refine k_gS (b := 6) rfl W.t0 (W.abOf (t := 11) (j := 5) (o := 6) (n := 0) (by decide) W.t0).1 ?_
    refine k_gI rfl rfl (CW.tyOf (t := 11) (t' := 9) W (j := 5) W.t0 (W.abOf (t := 11) (j := 5) (o := 6) (n := 0) (by decide) W.t0).1 (by decide) rfl) ?_
    exact k_r rfl rfl rfl H
  rw [if_neg w18] at H
  by_cases w19 : x1 = (9 : Int32)
  · rw [if_pos w19] at H
    refine k_sw (pc' := 107) rfl (congrArg (z_tgt 1) (z_swN (k := (0 : Int32)) w1 rfl (z_swN (k := (1 : Int32)) w2 rfl (z_swN (k := (2 : Int32)) w3 rfl (z_swN (k := (3 : Int32)) w4 rfl (z_swN (k := (4 : Int32)) w7 rfl (z_swN (k := (5 : Int32)) w10 rfl (z_swN (k := (6 : Int32)) w11 rfl (z_swN (k := (7 : Int32)) w15 rfl (z_swN (k := (8 : Int32)) w18 rfl (z_swT (k := (9 : Int32)) w19 rfl))))))))))) ?_
    refine k_n 1 (pc' := 108) (L' := [some (.ref 0), some (.int x1)]) (S' := [.ref 0]) (h' := h) rfl ?_
    refine k_gS (b := 4) rfl W.t0 (W.abOf (t := 11) (j := 3) (o := 4) (n := 4) (by decide) W.t0).1 ?_
    refine k_n 1 (pc' := 112) (L' := [some (.ref 0), some (.int x1)]) (S' := [.int (0 : Int32), .ref 4]) (h' := h) rfl ?_
    obtain hb20 | ⟨b21, hb20⟩ := z_opt (z_rv h 4 (z_ix (0 : Int32)))
    · have H := H.1 hb20
      refine k_aN rfl (CW.tyOf (t := 11) (t' := 105) W (j := 3) W.t0 (W.abOf (t := 11) (j := 3) (o := 4) (n := 4) (by decide) W.t0).1 (by decide) rfl) rfl (W.abOf (t := 11) (j := 3) (o := 4) (n := 4) (by decide) W.t0).2 (by decide) hb20 ?_
      refine k_n 3 (pc' := 131) (L' := [some (.ref 0), some (.int x1)]) (S' := [.int (-4 : Int32)]) (h' := h) rfl ?_
      exact k_r rfl rfl rfl H
    · have H := H.2 b21 hb20
      have t22 : z_tg h b21 = 8 := (CW.tyOf (t := 105) (t' := 8) W (CW.tyOf (t := 11) (t' := 105) W (j := 3) W.t0 (W.abOf (t := 11) (j := 3) (o := 4) (n := 4) (by decide) W.t0).1 (by decide) rfl) hb20 (by decide) rfl)
      refine k_aS rfl (CW.tyOf (t := 11) (t' := 105) W (j := 3) W.t0 (W.abOf (t := 11) (j := 3) (o := 4) (n := 4) (by decide) W.t0).1 (by decide) rfl) rfl (W.abOf (t := 11) (j := 3) (o := 4) (n := 4) (by decide) W.t0).2 (by decide) hb20 ?_
      refine k_n 2 (pc' := 122) (L' := [some (.ref 0), some (.int x1)]) (S' := [.ref 0]) (h' := h) rfl ?_
      refine k_gS (b := 4) rfl W.t0 (W.abOf (t := 11) (j := 3) (o := 4) (n := 4) (by decide) W.t0).1 ?_
      refine k_n 1 (pc' := 126) (L' := [some (.ref 0), some (.int x1)]) (S' := [.int (0 : Int32), .ref 4]) (h' := h) rfl ?_
      refine k_aS rfl (CW.tyOf (t := 11) (t' := 105) W (j := 3) W.t0 (W.abOf (t := 11) (j := 3) (o := 4) (n := 4) (by decide) W.t0).1 (by decide) rfl) rfl (W.abOf (t := 11) (j := 3) (o := 4) (n := 4) (by decide) W.t0).2 (by decide) hb20 ?_
      refine k_gS (b := (b21 + 1)) rfl t22 (W.sh b21 t22).1 ?_
      refine k_ln (n := (z_ln h (b21 + 1))) rfl (CW.tyOf (t := 8) (t' := 100) W (j := 1) t22 (W.sh b21 t22).1 (by decide) rfl) rfl rfl ?_
      exact k_r rfl rfl rfl H
  rw [if_neg w19] at H
  refine k_sw (pc' := 132) rfl (congrArg (z_tgt 1) (z_swN (k := (0 : Int32)) w1 rfl (z_swN (k := (1 : Int32)) w2 rfl (z_swN (k := (2 : Int32)) w3 rfl (z_swN (k := (3 : Int32)) w4 rfl (z_swN (k := (4 : Int32)) w7 rfl (z_swN (k := (5 : Int32)) w10 rfl (z_swN (k := (6 : Int32)) w11 rfl (z_swN (k := (7 : Int32)) w15 rfl (z_swN (k := (8 : Int32)) w18 rfl (z_swN (k := (9 : Int32)) w19 rfl rfl))))))))))) ?_
  refine k_n 1 (pc' := 133) (L' := [some (.ref 0), some (.int x1)]) (S' := [.int (-1 : Int32)]) (h' := h) rfl ?_
  exact k_r rfl rfl rfl H
set_option maxRecDepth 20000 in
theorem X_106  (h : zH) (W : CW h)  {Q : Int32 → zH → Prop} (H : if (z_iv h 0 11) < (60 : Int32) then (KG z_pI 106 16 [some (.ref 0), some (.int (0 : Int32)), some (.int (0 : Int32)), none] [] h Q) else (Q (-3 : Int32) h)) : KK z_pI 106 [.ref 0] h Q := by
  refine k_K (L := [some (.ref 0), none, none, none]) rfl ?_
  refine k_n 1 (pc' := 1) (L' := [some (.ref 0), none, none, none]) (S' := [.ref 0]) (h' := h) rfl ?_
  refine k_gI rfl rfl W.t0 ?_
  refine k_n 1 (pc' := 6) (L' := [some (.ref 0), none, none, none]) (S' := [.int (60 : Int32), .int (z_iv h 0 11)]) (h' := h) rfl ?_
  refine k_b (g := (z_iv h 0 11) < (60 : Int32)) (pc' := 12) (L' := [some (.ref 0), none, none, none]) (S' := []) (pc2 := 9) (L2 := [some (.ref 0), none, none, none]) (S2 := []) (h' := h) (h2 := h) rfl rfl (fun hc => ?_) (fun hc => ?_)
  · have hc := hc
    rw [if_pos hc] at H
    refine k_n 4 (pc' := 16) (L' := [some (.ref 0), some (.int (0 : Int32)), some (.int (0 : Int32)), none]) (S' := []) (h' := h) rfl ?_
    exact H
  · have hc := hc
    rw [if_neg hc] at H
    refine k_n 1 (pc' := 11) (L' := [some (.ref 0), none, none, none]) (S' := [.int (-3 : Int32)]) (h' := h) rfl ?_
    exact k_r rfl rfl rfl H
set_option maxRecDepth 20000 in
theorem X_106_16 (y1 : Int32) (y2 : Int32) (u3 : Option Value) (h : zH) (W : CW h)  {Q : Int32 → zH → Prop} (H : if (6 : Int32) ≤ y2 then (Q y1 (z_sI h 0 11 ((z_iv h 0 11) + (1 : Int32)))) else (∃ v1 : Option Nat, KV z_pA 148 [.ref 0, .int y2] h v1 ∧ (∀ b_, v1 = some b_ → z_tg h b_ = 4) ∧ ((v1 = none → KG z_pI 106 16 [some (.ref 0), some (.int y1), some (.int (y2 + (1 : Int32))), some (.null)] [] h Q) ∧ (∀ b5, v1 = some b5 → KK z_pI 47 [.ref b5, .int (z_iv h 0 11)] h (fun r9 h7 => Sh h h7 ∧ (∀ m11 : Int32, m11 = (if r9 = 0 then y1 else (y1 + (1 : Int32))) → KG z_pI 106 16 [some (.ref 0), some (.int m11), some (.int (y2 + (1 : Int32))), some (.ref b5)] [] h7 Q)))))) : KG z_pI 106 16 [some (.ref 0), some (.int y1), some (.int y2), u3] [] h Q := by
  refine k_n 2 (pc' := 19) (L' := [some (.ref 0), some (.int y1), some (.int y2), u3]) (S' := [.int (6 : Int32), .int y2]) (h' := h) rfl ?_
  refine k_b (g := (6 : Int32) ≤ y2) (pc' := 52) (L' := [some (.ref 0), some (.int y1), some (.int y2), u3]) (S' := []) (pc2 := 22) (L2 := [some (.ref 0), some (.int y1), some (.int y2), u3]) (S2 := []) (h' := h) (h2 := h) rfl rfl (fun hc => ?_) (fun hc => ?_)
  · have hc := hc
    rw [if_pos hc] at H
    refine k_n 2 (pc' := 54) (L' := [some (.ref 0), some (.int y1), some (.int y2), u3]) (S' := [.ref 0, .ref 0]) (h' := h) rfl ?_
    refine k_gI rfl rfl W.t0 ?_
    refine k_n 2 (pc' := 59) (L' := [some (.ref 0), some (.int y1), some (.int y2), u3]) (S' := [.int ((z_iv h 0 11) + (1 : Int32)), .ref 0]) (h' := h) rfl ?_
    refine k_pI rfl W.t0 ?_
    refine k_n 1 (pc' := 63) (L' := [some (.ref 0), some (.int y1), some (.int y2), u3]) (S' := [.int y1]) (h' := (z_sI h 0 11 ((z_iv h 0 11) + (1 : Int32)))) rfl ?_
    exact k_r rfl rfl rfl H
  · have hc := hc
    rw [if_neg hc] at H
    refine k_n 2 (pc' := 24) (L' := [some (.ref 0), some (.int y1), some (.int y2), u3]) (S' := [.int y2, .ref 0]) (h' := h) rfl ?_
    refine k_cA 148 2 "SavedThird$Mine" rfl rfl rfl (A := [.ref 0, .int y2]) rfl rfl (z_rok_ref W.t0) (rest := []) rfl rfl (by decide) ?_
    obtain ⟨v1, k2, tv3, H⟩ := H
    refine k_P k2 ?_
    obtain hb4 | ⟨b5, hb4⟩ := z_opt (v1)
    · have H := H.1 hb4
      refine k_oN hb4 ?_
      refine k_n 5 (pc' := 16) (L' := [some (.ref 0), some (.int y1), some (.int (y2 + (1 : Int32))), some (.null)]) (S' := []) (h' := h) rfl ?_
      exact H
    · have H := H.2 b5 hb4
      have t6 : z_tg h b5 = 4 := tv3 _ hb4
      refine k_oS hb4 ?_
      refine k_n 5 (pc' := 34) (L' := [some (.ref 0), some (.int y1), some (.int y2), some (.ref b5)]) (S' := [.ref 0, .ref b5]) (h' := h) rfl ?_
      refine k_gI rfl rfl W.t0 ?_
      refine k_cI 47 2 rfl rfl rfl (A := [.ref b5, .int (z_iv h 0 11)]) rfl rfl (z_rok_ref t6) (rest := []) rfl (z_tyI rfl rfl) ?_
      refine H.mono (fun r9 h7 H => ?_)
      obtain ⟨E8, H⟩ := H
      obtain ⟨m11, em11⟩ : ∃ m : Int32, m = (if r9 = 0 then y1 else (y1 + (1 : Int32))) := ⟨_, rfl⟩
      have H := H m11 em11
      have hj12 : KG z_pI 106 46 [some (.ref 0), some (.int m11), some (.int y2), some (.ref b5)] [] h7 Q := by
        refine k_n 2 (pc' := 16) (L' := [some (.ref 0), some (.int m11), some (.int (y2 + (1 : Int32))), some (.ref b5)]) (S' := []) (h' := h7) rfl ?_
        exact H
      refine k_b (g := r9 = 0) (pc' := 46) (L' := [some (.ref 0), some (.int y1), some (.int y2), some (.ref b5)]) (S' := []) (pc2 := 43) (L2 := [some (.ref 0), some (.int y1), some (.int y2), some (.ref b5)]) (S2 := []) (h' := h7) (h2 := h7) rfl rfl (fun hc => ?_) (fun hc => ?_)
      · have c10 := hc
        rw [(em11.trans (by rw [if_pos c10]) : m11 = y1)] at hj12
        exact hj12
      · have c10 := hc
        refine k_n 1 (pc' := 46) (L' := [some (.ref 0), some (.int (y1 + (1 : Int32))), some (.int y2), some (.ref b5)]) (S' := []) (h' := h7) rfl ?_
        rw [(em11.trans (by rw [if_neg c10]) : m11 = (y1 + (1 : Int32)))] at hj12
        exact hj12
set_option maxRecDepth 20000 in
theorem X_114 (x1 : Int32) (x2 : Int32) (x3 : Int32) (h : zH) (W : CW h)  {Q : Int32 → zH → Prop} (H : if (0 : Int32) ≤ x1 ∧ x1 ≤ (5 : Int32) then (if (0 : Int32) ≤ x2 ∧ x2 ≤ (60 : Int32) then (if (10 : Int32) ≤ x3 ∧ x3 ≤ (17 : Int32) then ((z_rv h 0 9 = none → False) ∧ (∀ b32, z_rv h 0 9 = some b32 → ∃ v34 : Int32, KV z_pI 26 [.ref b32, .int (x3 - (10 : Int32)), .int x2] h v34 ∧ Q v34 h)) else (if x3 = (0 : Int32) then ((z_rv h 0 9 = none → False) ∧ (∀ b3, z_rv h 0 9 = some b3 → ∃ v5 : Int32, KV z_pI 22 [.ref b3, .int x1, .int x2] h v5 ∧ Q v5 h)) else (if x3 = (1 : Int32) then ((z_rv h 0 9 = none → False) ∧ (∀ b9, z_rv h 0 9 = some b9 → ∃ v11 : Int32, KV z_pI 23 [.ref b9, .int x1, .int x2] h v11 ∧ Q v11 h)) else (if x3 = (2 : Int32) then ((z_rv h 0 9 = none → False) ∧ (∀ b15, z_rv h 0 9 = some b15 → ∃ v17 : Int32, KV z_pI 24 [.ref b15, .int x1, .int x2] h v17 ∧ Q v17 h)) else (if x3 = (3 : Int32) then ((z_rv h 0 9 = none → False) ∧ (∀ b21, z_rv h 0 9 = some b21 → ∃ v23 : Int32, KV z_pI 25 [.ref b21, .int x1, .int x2] h v23 ∧ Q v23 h)) else (if x3 = (4 : Int32) then ((z_rv h 0 9 = none → False) ∧ (∀ b27, z_rv h 0 9 = some b27 → ∃ v29 : Int32, KV z_pI 27 [.ref b27, .int x2] h v29 ∧ Q (z_bt (¬ (v29 = 0))) h)) else (Q (-1 : Int32) h))))))) else (Q (-1 : Int32) h)) else (Q (-1 : Int32) h)) : KK z_pI 114 [.ref 0, .int x1, .int x2, .int x3] h Q := by
  refine k_K (L := [some (.ref 0), some (.int x1), some (.int x2), some (.int x3)]) rfl ?_
  refine k_n 3 (pc' := 3) (L' := [some (.ref 0), some (.int x1), some (.int x2), some (.int x3)]) (S' := [.int (5 : Int32), .int (0 : Int32), .int x1]) (h' := h) rfl ?_
  refine k_cI 135 3 rfl rfl rfl (A := [.int x1, .int (0 : Int32), .int (5 : Int32)]) rfl rfl rfl (rest := []) rfl (z_tyI rfl rfl) ?_
  refine c_within x1 (0 : Int32) (5 : Int32) h ?_
  refine k_b (g := z_bt ((0 : Int32) ≤ x1 ∧ x1 ≤ (5 : Int32)) = 0) (pc' := 19) (L' := [some (.ref 0), some (.int x1), some (.int x2), some (.int x3)]) (S' := []) (pc2 := 9) (L2 := [some (.ref 0), some (.int x1), some (.int x2), some (.int x3)]) (S2 := []) (h' := h) (h2 := h) rfl rfl (fun hc => ?_) (fun hc => ?_)
  · have hc := z_bt_0.mp hc
    rw [if_neg hc] at H
    refine k_n 1 (pc' := 20) (L' := [some (.ref 0), some (.int x1), some (.int x2), some (.int x3)]) (S' := [.int (-1 : Int32)]) (h' := h) rfl ?_
    exact k_r rfl rfl rfl H
  · have hc := Decidable.not_not.mp (fun q => hc (z_bt_0.mpr q))
    rw [if_pos hc] at H
    refine k_n 3 (pc' := 13) (L' := [some (.ref 0), some (.int x1), some (.int x2), some (.int x3)]) (S' := [.int (60 : Int32), .int (0 : Int32), .int x2]) (h' := h) rfl ?_
    refine k_cI 135 3 rfl rfl rfl (A := [.int x2, .int (0 : Int32), .int (60 : Int32)]) rfl rfl rfl (rest := []) rfl (z_tyI rfl rfl) ?_
    refine c_within x2 (0 : Int32) (60 : Int32) h ?_
    refine k_b (g := z_bt ((0 : Int32) ≤ x2 ∧ x2 ≤ (60 : Int32)) = 0) (pc' := 19) (L' := [some (.ref 0), some (.int x1), some (.int x2), some (.int x3)]) (S' := []) (pc2 := 21) (L2 := [some (.ref 0), some (.int x1), some (.int x2), some (.int x3)]) (S2 := []) (h' := h) (h2 := h) rfl rfl (fun hc => ?_) (fun hc => ?_)
    · have hc := z_bt_0.mp hc
      rw [if_neg hc] at H
      refine k_n 1 (pc' := 20) (L' := [some (.ref 0), some (.int x1), some (.int x2), some (.int x3)]) (S' := [.int (-1 : Int32)]) (h' := h) rfl ?_
      exact k_r rfl rfl rfl H
    · have hc := Decidable.not_not.mp (fun q => hc (z_bt_0.mpr q))
      rw [if_pos hc] at H
      refine k_n 3 (pc' := 26) (L' := [some (.ref 0), some (.int x1), some (.int x2), some (.int x3)]) (S' := [.int (17 : Int32), .int (10 : Int32), .int x3]) (h' := h) rfl ?_
      refine k_cI 135 3 rfl rfl rfl (A := [.int x3, .int (10 : Int32), .int (17 : Int32)]) rfl rfl rfl (rest := []) rfl (z_tyI rfl rfl) ?_
      refine c_within x3 (10 : Int32) (17 : Int32) h ?_
      refine k_b (g := z_bt ((10 : Int32) ≤ x3 ∧ x3 ≤ (17 : Int32)) = 0) (pc' := 45) (L' := [some (.ref 0), some (.int x1), some (.int x2), some (.int x3)]) (S' := []) (pc2 := 32) (L2 := [some (.ref 0), some (.int x1), some (.int x2), some (.int x3)]) (S2 := []) (h' := h) (h2 := h) rfl rfl (fun hc => ?_) (fun hc => ?_)
      · have hc := z_bt_0.mp hc
        rw [if_neg hc] at H
        refine k_n 1 (pc' := 46) (L' := [some (.ref 0), some (.int x1), some (.int x2), some (.int x3)]) (S' := [.int x3]) (h' := h) rfl ?_
        by_cases w1 : x3 = (0 : Int32)
        · rw [if_pos w1] at H
          refine k_sw (pc' := 80) rfl (congrArg (z_tgt 46) (z_swT (k := (0 : Int32)) w1 rfl)) ?_
          refine k_n 1 (pc' := 81) (L' := [some (.ref 0), some (.int x1), some (.int x2), some (.int x3)]) (S' := [.ref 0]) (h' := h) rfl ?_
          obtain hb2 | ⟨b3, hb2⟩ := z_opt (z_rv h 0 9)
          · have H := H.1 hb2
            refine k_gN rfl W.t0 hb2 ?_
            refine k_n 2 (pc' := 86) (L' := [some (.ref 0), some (.int x1), some (.int x2), some (.int x3)]) (S' := [.int x2, .int x1, .null]) (h' := h) rfl ?_
            exact H.elim
          · have H := H.2 b3 hb2
            have t4 : z_tg h b3 = 1 := (CW.tyOf (t := 11) (t' := 1) W W.t0 hb2 (by decide) rfl)
            refine k_gS rfl W.t0 hb2 ?_
            refine k_n 2 (pc' := 86) (L' := [some (.ref 0), some (.int x1), some (.int x2), some (.int x3)]) (S' := [.int x2, .int x1, .ref b3]) (h' := h) rfl ?_
            refine k_cI 22 3 rfl rfl rfl (A := [.ref b3, .int x1, .int x2]) rfl rfl (z_rok_ref t4) (rest := []) rfl (z_tyI rfl rfl) ?_
            obtain ⟨v5, k6, H⟩ := H
            refine k_P k6 ?_
            exact k_r rfl rfl rfl H
        rw [if_neg w1] at H
        by_cases w7 : x3 = (1 : Int32)
        · rw [if_pos w7] at H
          refine k_sw (pc' := 90) rfl (congrArg (z_tgt 46) (z_swN (k := (0 : Int32)) w1 rfl (z_swT (k := (1 : Int32)) w7 rfl))) ?_
          refine k_n 1 (pc' := 91) (L' := [some (.ref 0), some (.int x1), some (.int x2), some (.int x3)]) (S' := [.ref 0]) (h' := h) rfl ?_
          obtain hb8 | ⟨b9, hb8⟩ := z_opt (z_rv h 0 9)
          · have H := H.1 hb8
            refine k_gN rfl W.t0 hb8 ?_
            refine k_n 2 (pc' := 96) (L' := [some (.ref 0), some (.int x1), some (.int x2), some (.int x3)]) (S' := [.int x2, .int x1, .null]) (h' := h) rfl ?_
            exact H.elim
          · have H := H.2 b9 hb8
            have t10 : z_tg h b9 = 1 := (CW.tyOf (t := 11) (t' := 1) W W.t0 hb8 (by decide) rfl)
            refine k_gS rfl W.t0 hb8 ?_
            refine k_n 2 (pc' := 96) (L' := [some (.ref 0), some (.int x1), some (.int x2), some (.int x3)]) (S' := [.int x2, .int x1, .ref b9]) (h' := h) rfl ?_
            refine k_cI 23 3 rfl rfl rfl (A := [.ref b9, .int x1, .int x2]) rfl rfl (z_rok_ref t10) (rest := []) rfl (z_tyI rfl rfl) ?_
            obtain ⟨v11, k12, H⟩ := H
            refine k_P k12 ?_
            exact k_r rfl rfl rfl H
        rw [if_neg w7] at H
        by_cases w13 : x3 = (2 : Int32)
        · rw [if_pos w13] at H
          refine k_sw (pc' := 100) rfl (congrArg (z_tgt 46) (z_swN (k := (0 : Int32)) w1 rfl (z_swN (k := (1 : Int32)) w7 rfl (z_swT (k := (2 : Int32)) w13 rfl)))) ?_
          refine k_n 1 (pc' := 101) (L' := [some (.ref 0), some (.int x1), some (.int x2), some (.int x3)]) (S' := [.ref 0]) (h' := h) rfl ?_
          obtain hb14 | ⟨b15, hb14⟩ := z_opt (z_rv h 0 9)
          · have H := H.1 hb14
            refine k_gN rfl W.t0 hb14 ?_
            refine k_n 2 (pc' := 106) (L' := [some (.ref 0), some (.int x1), some (.int x2), some (.int x3)]) (S' := [.int x2, .int x1, .null]) (h' := h) rfl ?_
            exact H.elim
          · have H := H.2 b15 hb14
            have t16 : z_tg h b15 = 1 := (CW.tyOf (t := 11) (t' := 1) W W.t0 hb14 (by decide) rfl)
            refine k_gS rfl W.t0 hb14 ?_
            refine k_n 2 (pc' := 106) (L' := [some (.ref 0), some (.int x1), some (.int x2), some (.int x3)]) (S' := [.int x2, .int x1, .ref b15]) (h' := h) rfl ?_
            refine k_cI 24 3 rfl rfl rfl (A := [.ref b15, .int x1, .int x2]) rfl rfl (z_rok_ref t16) (rest := []) rfl (z_tyI rfl rfl) ?_
            obtain ⟨v17, k18, H⟩ := H
            refine k_P k18 ?_
            exact k_r rfl rfl rfl H
        rw [if_neg w13] at H
        by_cases w19 : x3 = (3 : Int32)
        · rw [if_pos w19] at H
          refine k_sw (pc' := 110) rfl (congrArg (z_tgt 46) (z_swN (k := (0 : Int32)) w1 rfl (z_swN (k := (1 : Int32)) w7 rfl (z_swN (k := (2 : Int32)) w13 rfl (z_swT (k := (3 : Int32)) w19 rfl))))) ?_
          refine k_n 1 (pc' := 111) (L' := [some (.ref 0), some (.int x1), some (.int x2), some (.int x3)]) (S' := [.ref 0]) (h' := h) rfl ?_
          obtain hb20 | ⟨b21, hb20⟩ := z_opt (z_rv h 0 9)
          · have H := H.1 hb20
            refine k_gN rfl W.t0 hb20 ?_
            refine k_n 2 (pc' := 116) (L' := [some (.ref 0), some (.int x1), some (.int x2), some (.int x3)]) (S' := [.int x2, .int x1, .null]) (h' := h) rfl ?_
            exact H.elim
          · have H := H.2 b21 hb20
            have t22 : z_tg h b21 = 1 := (CW.tyOf (t := 11) (t' := 1) W W.t0 hb20 (by decide) rfl)
            refine k_gS rfl W.t0 hb20 ?_
            refine k_n 2 (pc' := 116) (L' := [some (.ref 0), some (.int x1), some (.int x2), some (.int x3)]) (S' := [.int x2, .int x1, .ref b21]) (h' := h) rfl ?_
            refine k_cI 25 3 rfl rfl rfl (A := [.ref b21, .int x1, .int x2]) rfl rfl (z_rok_ref t22) (rest := []) rfl (z_tyI rfl rfl) ?_
            obtain ⟨v23, k24, H⟩ := H
            refine k_P k24 ?_
            exact k_r rfl rfl rfl H
        rw [if_neg w19] at H
        by_cases w25 : x3 = (4 : Int32)
        · rw [if_pos w25] at H
          refine k_sw (pc' := 120) rfl (congrArg (z_tgt 46) (z_swN (k := (0 : Int32)) w1 rfl (z_swN (k := (1 : Int32)) w7 rfl (z_swN (k := (2 : Int32)) w13 rfl (z_swN (k := (3 : Int32)) w19 rfl (z_swT (k := (4 : Int32)) w25 rfl)))))) ?_
          refine k_n 1 (pc' := 121) (L' := [some (.ref 0), some (.int x1), some (.int x2), some (.int x3)]) (S' := [.ref 0]) (h' := h) rfl ?_
          obtain hb26 | ⟨b27, hb26⟩ := z_opt (z_rv h 0 9)
          · have H := H.1 hb26
            refine k_gN rfl W.t0 hb26 ?_
            refine k_n 1 (pc' := 125) (L' := [some (.ref 0), some (.int x1), some (.int x2), some (.int x3)]) (S' := [.int x2, .null]) (h' := h) rfl ?_
            exact H.elim
          · have H := H.2 b27 hb26
            have t28 : z_tg h b27 = 1 := (CW.tyOf (t := 11) (t' := 1) W W.t0 hb26 (by decide) rfl)
            refine k_gS rfl W.t0 hb26 ?_
            refine k_n 1 (pc' := 125) (L' := [some (.ref 0), some (.int x1), some (.int x2), some (.int x3)]) (S' := [.int x2, .ref b27]) (h' := h) rfl ?_
            refine k_cI 27 2 rfl rfl rfl (A := [.ref b27, .int x2]) rfl rfl (z_rok_ref t28) (rest := []) rfl (z_tyI rfl rfl) ?_
            obtain ⟨v29, k30, H⟩ := H
            refine k_P k30 ?_
            refine k_cI 145 1 rfl rfl rfl (A := [.int v29]) rfl rfl rfl (rest := []) rfl (z_tyI rfl rfl) ?_
            refine C_145 v29 h    ?_
            exact k_r rfl rfl rfl H
        rw [if_neg w25] at H
        refine k_sw (pc' := 132) rfl (congrArg (z_tgt 46) (z_swN (k := (0 : Int32)) w1 rfl (z_swN (k := (1 : Int32)) w7 rfl (z_swN (k := (2 : Int32)) w13 rfl (z_swN (k := (3 : Int32)) w19 rfl (z_swN (k := (4 : Int32)) w25 rfl rfl)))))) ?_
        refine k_n 1 (pc' := 133) (L' := [some (.ref 0), some (.int x1), some (.int x2), some (.int x3)]) (S' := [.int (-1 : Int32)]) (h' := h) rfl ?_
        exact k_r rfl rfl rfl H
      · have hc := Decidable.not_not.mp (fun q => hc (z_bt_0.mpr q))
        rw [if_pos hc] at H
        refine k_n 1 (pc' := 33) (L' := [some (.ref 0), some (.int x1), some (.int x2), some (.int x3)]) (S' := [.ref 0]) (h' := h) rfl ?_
        obtain hb31 | ⟨b32, hb31⟩ := z_opt (z_rv h 0 9)
        · have H := H.1 hb31
          refine k_gN rfl W.t0 hb31 ?_
          refine k_n 4 (pc' := 41) (L' := [some (.ref 0), some (.int x1), some (.int x2), some (.int x3)]) (S' := [.int x2, .int (x3 - (10 : Int32)), .null]) (h' := h) rfl ?_
          exact H.elim
        · have H := H.2 b32 hb31
          have t33 : z_tg h b32 = 1 := (CW.tyOf (t := 11) (t' := 1) W W.t0 hb31 (by decide) rfl)
          refine k_gS rfl W.t0 hb31 ?_
          refine k_n 4 (pc' := 41) (L' := [some (.ref 0), some (.int x1), some (.int x2), some (.int x3)]) (S' := [.int x2, .int (x3 - (10 : Int32)), .ref b32]) (h' := h) rfl ?_
          refine k_cI 26 3 rfl rfl rfl (A := [.ref b32, .int (x3 - (10 : Int32)), .int x2]) rfl rfl (z_rok_ref t33) (rest := []) rfl (z_tyI rfl rfl) ?_
          obtain ⟨v34, k35, H⟩ := H
          refine k_P k35 ?_
          exact k_r rfl rfl rfl H
set_option maxRecDepth 20000 in
theorem X_115 (x1 : Int32) (h : zH) (W : CW h)  {Q : Int32 → zH → Prop} (H : ∃ v1 : Option Nat, KV z_pA 148 [.ref 0, .int x1] h v1 ∧ (∀ b_, v1 = some b_ → z_tg h b_ = 4) ∧ ((v1 = none → Q (-1 : Int32) h) ∧ (∀ b5, v1 = some b5 → ∃ v7 : Option Nat, KV z_pA 44 [.ref b5] h v7 ∧ (∀ b_, v7 = some b_ → z_tg h b_ = 3) ∧ ((v7 = none → Q (-2 : Int32) h) ∧ (∀ b11, v7 = some b11 → if (z_iv h 0 14) < 0 then (Q (-3 : Int32) h) else (if (z_iv h 0 14) < (60 : Int32) then (KK z_pV 54 [.ref (z_nx h), .ref b5, .ref b11, .int (z_iv h 0 11)] (z_nw h 5 0 10) (fun _ h_ => KG z_pI 115 64 [some (.ref 0), some (.int x1), some (.ref b5), some (.ref b11)] [.ref (z_nx h), .int (z_iv h 0 14), .ref 3] h_ Q)) else (Q (-3 : Int32) h))))))) : KK z_pI 115 [.ref 0, .int x1] h Q := by
  refine k_K (L := [some (.ref 0), some (.int x1), none, none]) rfl ?_
  refine k_n 2 (pc' := 2) (L' := [some (.ref 0), some (.int x1), none, none]) (S' := [.int x1, .ref 0]) (h' := h) rfl ?_
  refine k_cA 148 2 "SavedThird$Mine" rfl rfl rfl (A := [.ref 0, .int x1]) rfl rfl (z_rok_ref W.t0) (rest := []) rfl rfl (by decide) ?_
  obtain ⟨v1, k2, tv3, H⟩ := H
  refine k_P k2 ?_
  obtain hb4 | ⟨b5, hb4⟩ := z_opt (v1)
  · have H := H.1 hb4
    refine k_oN hb4 ?_
    refine k_n 4 (pc' := 11) (L' := [some (.ref 0), some (.int x1), some (.null), none]) (S' := [.int (-1 : Int32)]) (h' := h) rfl ?_
    exact k_r rfl rfl rfl H
  · have H := H.2 b5 hb4
    have t6 : z_tg h b5 = 4 := tv3 _ hb4
    refine k_oS hb4 ?_
    refine k_n 4 (pc' := 13) (L' := [some (.ref 0), some (.int x1), some (.ref b5), none]) (S' := [.ref b5]) (h' := h) rfl ?_
    refine k_cA 44 1 "SavedThird$Engine" rfl rfl rfl (A := [.ref b5]) rfl rfl (z_rok_ref t6) (rest := []) rfl rfl (by decide) ?_
    obtain ⟨v7, k8, tv9, H⟩ := H
    refine k_P k8 ?_
    obtain hb10 | ⟨b11, hb10⟩ := z_opt (v7)
    · have H := H.1 hb10
      refine k_oN hb10 ?_
      refine k_n 4 (pc' := 23) (L' := [some (.ref 0), some (.int x1), some (.ref b5), some (.null)]) (S' := [.int (-2 : Int32)]) (h' := h) rfl ?_
      exact k_r rfl rfl rfl H
    · have H := H.2 b11 hb10
      have t12 : z_tg h b11 = 3 := tv9 _ hb10
      refine k_oS hb10 ?_
      refine k_n 4 (pc' := 25) (L' := [some (.ref 0), some (.int x1), some (.ref b5), some (.ref b11)]) (S' := [.ref 0]) (h' := h) rfl ?_
      refine k_gI rfl rfl W.t0 ?_
      refine k_b (g := (z_iv h 0 14) < 0) (pc' := 40) (L' := [some (.ref 0), some (.int x1), some (.ref b5), some (.ref b11)]) (S' := []) (pc2 := 31) (L2 := [some (.ref 0), some (.int x1), some (.ref b5), some (.ref b11)]) (S2 := []) (h' := h) (h2 := h) rfl rfl (fun hc => ?_) (fun hc => ?_)
      · have hc := hc
        rw [if_pos hc] at H
        refine k_n 1 (pc' := 42) (L' := [some (.ref 0), some (.int x1), some (.ref b5), some (.ref b11)]) (S' := [.int (-3 : Int32)]) (h' := h) rfl ?_
        exact k_r rfl rfl rfl H
      · have hc := hc
        rw [if_neg hc] at H
        refine k_n 1 (pc' := 32) (L' := [some (.ref 0), some (.int x1), some (.ref b5), some (.ref b11)]) (S' := [.ref 0]) (h' := h) rfl ?_
        refine k_gI rfl rfl W.t0 ?_
        refine k_n 1 (pc' := 37) (L' := [some (.ref 0), some (.int x1), some (.ref b5), some (.ref b11)]) (S' := [.int (60 : Int32), .int (z_iv h 0 14)]) (h' := h) rfl ?_
        refine k_b (g := (z_iv h 0 14) < (60 : Int32)) (pc' := 43) (L' := [some (.ref 0), some (.int x1), some (.ref b5), some (.ref b11)]) (S' := []) (pc2 := 40) (L2 := [some (.ref 0), some (.int x1), some (.ref b5), some (.ref b11)]) (S2 := []) (h' := h) (h2 := h) rfl rfl (fun hc => ?_) (fun hc => ?_)
        · have hc := hc
          rw [if_pos hc] at H
          refine k_n 1 (pc' := 44) (L' := [some (.ref 0), some (.int x1), some (.ref b5), some (.ref b11)]) (S' := [.ref 0]) (h' := h) rfl ?_
          refine k_gS (b := 3) rfl W.t0 (W.abOf (t := 11) (j := 2) (o := 3) (n := 60) (by decide) W.t0).1 ?_
          refine k_n 1 (pc' := 48) (L' := [some (.ref 0), some (.int x1), some (.ref b5), some (.ref b11)]) (S' := [.ref 0, .ref 3]) (h' := h) rfl ?_
          refine k_gI rfl rfl W.t0 ?_
          refine k_n 1 (pc' := 54) (L' := [some (.ref 0), some (.int x1), some (.ref b5), some (.ref b11)]) (S' := [.ref (z_nx h), .int (z_iv h 0 14), .ref 3]) (h' := (z_nw h 5 0 10)) rfl ?_
          have t13 : z_tg (z_nw h 5 0 10) 0 = 11 := CW.keep W W.t0 (by decide)
          have t14 : z_tg (z_nw h 5 0 10) b5 = 4 := CW.keep W t6 (by decide)
          have t15 : z_tg (z_nw h 5 0 10) b11 = 3 := CW.keep W t12 (by decide)
          have t16 : z_tg (z_nw h 5 0 10) 3 = 104 := CW.keep W (CW.tyOf (t := 11) (t' := 104) W (j := 2) W.t0 (W.abOf (t := 11) (j := 2) (o := 3) (n := 60) (by decide) W.t0).1 (by decide) rfl) (by decide)
          have t17 : z_tg (z_nw h 5 0 10) (z_nx h) = 5 := z_nw_at
          refine k_n 4 (pc' := 58) (L' := [some (.ref 0), some (.int x1), some (.ref b5), some (.ref b11)]) (S' := [.ref 0, .ref b11, .ref b5, .ref (z_nx h), .ref (z_nx h), .int (z_iv h 0 14), .ref 3]) (h' := (z_nw h 5 0 10)) rfl ?_
          refine k_gV rfl rfl t13 (v_nn W W.t0 (by decide) rfl) ?_
          refine k_cV 54 4 rfl rfl rfl (A := [.ref (z_nx h), .ref b5, .ref b11, .int (z_iv h 0 11)]) rfl rfl (z_rok_ref t17) (rest := [.ref (z_nx h), .int (z_iv h 0 14), .ref 3]) rfl rfl ?_
          exact H
        · have hc := hc
          rw [if_neg hc] at H
          refine k_n 1 (pc' := 42) (L' := [some (.ref 0), some (.int x1), some (.ref b5), some (.ref b11)]) (S' := [.int (-3 : Int32)]) (h' := h) rfl ?_
          exact k_r rfl rfl rfl H
set_option maxRecDepth 20000 in
theorem X_115_64 (y1 : Int32) (a2 : Nat) (a3 : Nat) (b0 : Nat) (s1 : Int32) (h : zH) (W : CW h) (Ta2 : z_tg h a2 = 4) (Ta3 : z_tg h a3 = 3) (Tb0 : z_tg h b0 = 5) (Tb2 : z_tg h 3 = 104) (Nb2 : z_ln h 3 = 60) {Q : Int32 → zH → Prop} (H : (0 ≤ s1.toInt ∧ s1.toInt < 60) ∧ Q (((z_iv h 0 14) + (1 : Int32)) - (1 : Int32)) (z_sI (z_sI (z_sI (z_sI (z_sR h 3 (z_ix s1) (some b0)) a3 13 (z_iv h 0 11)) a3 14 (z_iv (z_sR h 3 (z_ix s1) (some b0)) a3 8)) a3 15 (z_iv (z_sR h 3 (z_ix s1) (some b0)) a3 12)) 0 14 ((z_iv h 0 14) + (1 : Int32)))) : KG z_pI 115 64 [some (.ref 0), some (.int y1), some (.ref a2), some (.ref a3)] [.ref b0, .int s1, .ref 3] h Q := by
  obtain ⟨o18, H⟩ := H
  refine k_as rfl Tb2 rfl Nb2 o18 Tb0 ?_
  refine k_n 2 (pc' := 67) (L' := [some (.ref 0), some (.int y1), some (.ref a2), some (.ref a3)]) (S' := [.ref 0, .ref a3]) (h' := (z_sR h 3 (z_ix s1) (some b0))) rfl ?_
  refine k_gV rfl rfl (z_tgR W.t0) (v_sR rfl) ?_
  refine k_cV 38 2 rfl rfl rfl (A := [.ref a3, .int (z_iv h 0 11)]) rfl rfl (z_rok_ref (z_tgR Ta3)) (rest := []) rfl rfl ?_
  refine X_38 a3 (z_iv h 0 11) (z_sR h 3 (z_ix s1) (some b0)) (CW.sR W Tb2 (j := z_ix s1) rfl (fun _ q_ => by cases q_; exact Tb0) (show ¬ (5 : Nat) = 0 by decide)) (z_tgR Ta3) ?_
  refine k_n 2 (pc' := 75) (L' := [some (.ref 0), some (.int y1), some (.ref a2), some (.ref a3)]) (S' := [.ref 0, .ref 0]) (h' := (z_sI (z_sI (z_sI (z_sR h 3 (z_ix s1) (some b0)) a3 13 (z_iv h 0 11)) a3 14 (z_iv (z_sR h 3 (z_ix s1) (some b0)) a3 8)) a3 15 (z_iv (z_sR h 3 (z_ix s1) (some b0)) a3 12))) rfl ?_
  refine k_gV rfl rfl (z_tgI (z_tgI (z_tgI (z_tgR W.t0)))) (v_nt (z_tgI (z_tgI (z_tgR W.t0))) (z_tgI (z_tgI (z_tgR Ta3))) (by decide) (v_nt (z_tgI (z_tgR W.t0)) (z_tgI (z_tgR Ta3)) (by decide) (v_nt (z_tgR W.t0) (z_tgR Ta3) (by decide) (v_sR rfl)))) ?_
  refine k_n 2 (pc' := 80) (L' := [some (.ref 0), some (.int y1), some (.ref a2), some (.ref a3)]) (S' := [.int ((z_iv h 0 14) + (1 : Int32)), .ref 0]) (h' := (z_sI (z_sI (z_sI (z_sR h 3 (z_ix s1) (some b0)) a3 13 (z_iv h 0 11)) a3 14 (z_iv (z_sR h 3 (z_ix s1) (some b0)) a3 8)) a3 15 (z_iv (z_sR h 3 (z_ix s1) (some b0)) a3 12))) rfl ?_
  refine k_pI rfl (z_tgI (z_tgI (z_tgI (z_tgR W.t0)))) ?_
  refine k_n 1 (pc' := 84) (L' := [some (.ref 0), some (.int y1), some (.ref a2), some (.ref a3)]) (S' := [.ref 0]) (h' := (z_sI (z_sI (z_sI (z_sI (z_sR h 3 (z_ix s1) (some b0)) a3 13 (z_iv h 0 11)) a3 14 (z_iv (z_sR h 3 (z_ix s1) (some b0)) a3 8)) a3 15 (z_iv (z_sR h 3 (z_ix s1) (some b0)) a3 12)) 0 14 ((z_iv h 0 14) + (1 : Int32)))) rfl ?_
  refine k_gV rfl rfl (z_tgI (z_tgI (z_tgI (z_tgI (z_tgR W.t0))))) v_at ?_
  refine k_n 2 (pc' := 89) (L' := [some (.ref 0), some (.int y1), some (.ref a2), some (.ref a3)]) (S' := [.int (((z_iv h 0 14) + (1 : Int32)) - (1 : Int32))]) (h' := (z_sI (z_sI (z_sI (z_sI (z_sR h 3 (z_ix s1) (some b0)) a3 13 (z_iv h 0 11)) a3 14 (z_iv (z_sR h 3 (z_ix s1) (some b0)) a3 8)) a3 15 (z_iv (z_sR h 3 (z_ix s1) (some b0)) a3 12)) 0 14 ((z_iv h 0 14) + (1 : Int32)))) rfl ?_
  exact k_r rfl rfl rfl H
set_option maxRecDepth 20000 in
theorem X_116 (x1 : Int32) (x2 : Int32) (h : zH) (W : CW h)  {Q : Int32 → zH → Prop} (H : ∃ v1 : Option Nat, KV z_pA 150 [.ref 0, .int x1] h v1 ∧ (∀ b_, v1 = some b_ → z_tg h b_ = 5) ∧ ((v1 = none → Q (-1 : Int32) h) ∧ (∀ b5, v1 = some b5 → if x2 = (0 : Int32) then ((z_rv h b5 0 = none → False) ∧ (∀ b9, z_rv h b5 0 = some b9 → Q (z_iv h b9 6) h)) else (if x2 = (1 : Int32) then (Q (z_iv h b5 2) h) else (if x2 = (2 : Int32) then (Q (z_iv h b5 3) h) else (if x2 = (3 : Int32) then (Q (z_iv h b5 4) h) else (if x2 = (4 : Int32) then (Q (z_iv h b5 5) h) else (if x2 = (5 : Int32) then (Q (z_iv h b5 6) h) else (if x2 = (6 : Int32) then (Q (z_iv h b5 7) h) else (if x2 = (7 : Int32) then ((z_rv h 0 9 = none → ∃ v21 : Int32, KV z_pI 55 [.ref b5, .int (z_iv h b5 5), .null] h v21 ∧ Q v21 h) ∧ (∀ b19, z_rv h 0 9 = some b19 → ∃ v23 : Int32, KV z_pI 55 [.ref b5, .int (z_iv h b5 5), .ref b19] h v23 ∧ Q v23 h)) else (if x2 = (8 : Int32) then ((z_rv h 0 9 = none → ∃ v29 : Int32, KV z_pI 55 [.ref b5, .int (z_iv h b5 6), .null] h v29 ∧ Q v29 h) ∧ (∀ b27, z_rv h 0 9 = some b27 → ∃ v31 : Int32, KV z_pI 55 [.ref b5, .int (z_iv h b5 6), .ref b27] h v31 ∧ Q v31 h)) else (if x2 = (9 : Int32) then ((z_rv h 0 9 = none → ∃ v37 : Int32, KV z_pI 56 [.ref b5, .null] h v37 ∧ Q (z_bt (¬ (v37 = 0))) h) ∧ (∀ b35, z_rv h 0 9 = some b35 → ∃ v39 : Int32, KV z_pI 56 [.ref b5, .ref b35] h v39 ∧ Q (z_bt (¬ (v39 = 0))) h)) else (Q (-1 : Int32) h))))))))))))) : KK z_pI 116 [.ref 0, .int x1, .int x2] h Q := by
  refine k_K (L := [some (.ref 0), some (.int x1), some (.int x2), none]) rfl ?_
  refine k_n 2 (pc' := 2) (L' := [some (.ref 0), some (.int x1), some (.int x2), none]) (S' := [.int x1, .ref 0]) (h' := h) rfl ?_
  refine k_cA 150 2 "SavedThird$Reading" rfl rfl rfl (A := [.ref 0, .int x1]) rfl rfl (z_rok_ref W.t0) (rest := []) rfl rfl (by decide) ?_
  obtain ⟨v1, k2, tv3, H⟩ := H
  refine k_P k2 ?_
  obtain hb4 | ⟨b5, hb4⟩ := z_opt (v1)
  · have H := H.1 hb4
    refine k_oN hb4 ?_
    refine k_n 4 (pc' := 11) (L' := [some (.ref 0), some (.int x1), some (.int x2), some (.null)]) (S' := [.int (-1 : Int32)]) (h' := h) rfl ?_
    exact k_r rfl rfl rfl H
  · have H := H.2 b5 hb4
    have t6 : z_tg h b5 = 5 := tv3 _ hb4
    refine k_oS hb4 ?_
    refine k_n 4 (pc' := 13) (L' := [some (.ref 0), some (.int x1), some (.int x2), some (.ref b5)]) (S' := [.int x2]) (h' := h) rfl ?_
    by_cases w7 : x2 = (0 : Int32)
    · rw [if_pos w7] at H
      refine k_sw (pc' := 68) rfl (congrArg (z_tgt 13) (z_swT (k := (0 : Int32)) w7 rfl)) ?_
      refine k_n 1 (pc' := 69) (L' := [some (.ref 0), some (.int x1), some (.int x2), some (.ref b5)]) (S' := [.ref b5]) (h' := h) rfl ?_
      obtain hb8 | ⟨b9, hb8⟩ := z_opt (z_rv h b5 0)
      · have H := H.1 hb8
        refine k_gN rfl t6 hb8 ?_
        exact H.elim
      · have H := H.2 b9 hb8
        have t10 : z_tg h b9 = 3 := (CW.tyOf (t := 5) (t' := 3) W t6 hb8 (by decide) rfl)
        refine k_gS rfl t6 hb8 ?_
        refine k_gI rfl rfl t10 ?_
        exact k_r rfl rfl rfl H
    rw [if_neg w7] at H
    by_cases w11 : x2 = (1 : Int32)
    · rw [if_pos w11] at H
      refine k_sw (pc' := 76) rfl (congrArg (z_tgt 13) (z_swN (k := (0 : Int32)) w7 rfl (z_swT (k := (1 : Int32)) w11 rfl))) ?_
      refine k_n 1 (pc' := 77) (L' := [some (.ref 0), some (.int x1), some (.int x2), some (.ref b5)]) (S' := [.ref b5]) (h' := h) rfl ?_
      refine k_gI rfl rfl t6 ?_
      exact k_r rfl rfl rfl H
    rw [if_neg w11] at H
    by_cases w12 : x2 = (2 : Int32)
    · rw [if_pos w12] at H
      refine k_sw (pc' := 81) rfl (congrArg (z_tgt 13) (z_swN (k := (0 : Int32)) w7 rfl (z_swN (k := (1 : Int32)) w11 rfl (z_swT (k := (2 : Int32)) w12 rfl)))) ?_
      refine k_n 1 (pc' := 82) (L' := [some (.ref 0), some (.int x1), some (.int x2), some (.ref b5)]) (S' := [.ref b5]) (h' := h) rfl ?_
      refine k_gI rfl rfl t6 ?_
      exact k_r rfl rfl rfl H
    rw [if_neg w12] at H
    by_cases w13 : x2 = (3 : Int32)
    · rw [if_pos w13] at H
      refine k_sw (pc' := 86) rfl (congrArg (z_tgt 13) (z_swN (k := (0 : Int32)) w7 rfl (z_swN (k := (1 : Int32)) w11 rfl (z_swN (k := (2 : Int32)) w12 rfl (z_swT (k := (3 : Int32)) w13 rfl))))) ?_
      refine k_n 1 (pc' := 87) (L' := [some (.ref 0), some (.int x1), some (.int x2), some (.ref b5)]) (S' := [.ref b5]) (h' := h) rfl ?_
      refine k_gI rfl rfl t6 ?_
      exact k_r rfl rfl rfl H
    rw [if_neg w13] at H
    by_cases w14 : x2 = (4 : Int32)
    · rw [if_pos w14] at H
      refine k_sw (pc' := 91) rfl (congrArg (z_tgt 13) (z_swN (k := (0 : Int32)) w7 rfl (z_swN (k := (1 : Int32)) w11 rfl (z_swN (k := (2 : Int32)) w12 rfl (z_swN (k := (3 : Int32)) w13 rfl (z_swT (k := (4 : Int32)) w14 rfl)))))) ?_
      refine k_n 1 (pc' := 92) (L' := [some (.ref 0), some (.int x1), some (.int x2), some (.ref b5)]) (S' := [.ref b5]) (h' := h) rfl ?_
      refine k_gI rfl rfl t6 ?_
      exact k_r rfl rfl rfl H
    rw [if_neg w14] at H
    by_cases w15 : x2 = (5 : Int32)
    · rw [if_pos w15] at H
      refine k_sw (pc' := 96) rfl (congrArg (z_tgt 13) (z_swN (k := (0 : Int32)) w7 rfl (z_swN (k := (1 : Int32)) w11 rfl (z_swN (k := (2 : Int32)) w12 rfl (z_swN (k := (3 : Int32)) w13 rfl (z_swN (k := (4 : Int32)) w14 rfl (z_swT (k := (5 : Int32)) w15 rfl))))))) ?_
      refine k_n 1 (pc' := 97) (L' := [some (.ref 0), some (.int x1), some (.int x2), some (.ref b5)]) (S' := [.ref b5]) (h' := h) rfl ?_
      refine k_gI rfl rfl t6 ?_
      exact k_r rfl rfl rfl H
    rw [if_neg w15] at H
    by_cases w16 : x2 = (6 : Int32)
    · rw [if_pos w16] at H
      refine k_sw (pc' := 101) rfl (congrArg (z_tgt 13) (z_swN (k := (0 : Int32)) w7 rfl (z_swN (k := (1 : Int32)) w11 rfl (z_swN (k := (2 : Int32)) w12 rfl (z_swN (k := (3 : Int32)) w13 rfl (z_swN (k := (4 : Int32)) w14 rfl (z_swN (k := (5 : Int32)) w15 rfl (z_swT (k := (6 : Int32)) w16 rfl)))))))) ?_
      refine k_n 1 (pc' := 102) (L' := [some (.ref 0), some (.int x1), some (.int x2), some (.ref b5)]) (S' := [.ref b5]) (h' := h) rfl ?_
      refine k_gI rfl rfl t6 ?_
      exact k_r rfl rfl rfl H
    rw [if_neg w16] at H
    by_cases w17 : x2 = (7 : Int32)
    · rw [if_pos w17] at H
      refine k_sw (pc' := 106) rfl (congrArg (z_tgt 13) (z_swN (k := (0 : Int32)) w7 rfl (z_swN (k := (1 : Int32)) w11 rfl (z_swN (k := (2 : Int32)) w12 rfl (z_swN (k := (3 : Int32)) w13 rfl (z_swN (k := (4 : Int32)) w14 rfl (z_swN (k := (5 : Int32)) w15 rfl (z_swN (k := (6 : Int32)) w16 rfl (z_swT (k := (7 : Int32)) w17 rfl))))))))) ?_
      refine k_n 2 (pc' := 108) (L' := [some (.ref 0), some (.int x1), some (.int x2), some (.ref b5)]) (S' := [.ref b5, .ref b5]) (h' := h) rfl ?_
      refine k_gI rfl rfl t6 ?_
      refine k_n 1 (pc' := 112) (L' := [some (.ref 0), some (.int x1), some (.int x2), some (.ref b5)]) (S' := [.ref 0, .int (z_iv h b5 5), .ref b5]) (h' := h) rfl ?_
      obtain hb18 | ⟨b19, hb18⟩ := z_opt (z_rv h 0 9)
      · have H := H.1 hb18
        refine k_gN rfl W.t0 hb18 ?_
        refine k_cI 55 3 rfl rfl rfl (A := [.ref b5, .int (z_iv h b5 5), .null]) rfl rfl (z_rok_ref t6) (rest := []) rfl (z_tyI rfl rfl) ?_
        obtain ⟨v21, k22, H⟩ := H
        refine k_P k22 ?_
        exact k_r rfl rfl rfl H
      · have H := H.2 b19 hb18
        have t20 : z_tg h b19 = 1 := (CW.tyOf (t := 11) (t' := 1) W W.t0 hb18 (by decide) rfl)
        refine k_gS rfl W.t0 hb18 ?_
        refine k_cI 55 3 rfl rfl rfl (A := [.ref b5, .int (z_iv h b5 5), .ref b19]) rfl rfl (z_rok_ref t6) (rest := []) rfl (z_tyI rfl rfl) ?_
        obtain ⟨v23, k24, H⟩ := H
        refine k_P k24 ?_
        exact k_r rfl rfl rfl H
    rw [if_neg w17] at H
    by_cases w25 : x2 = (8 : Int32)
    · rw [if_pos w25] at H
      refine k_sw (pc' := 119) rfl (congrArg (z_tgt 13) (z_swN (k := (0 : Int32)) w7 rfl (z_swN (k := (1 : Int32)) w11 rfl (z_swN (k := (2 : Int32)) w12 rfl (z_swN (k := (3 : Int32)) w13 rfl (z_swN (k := (4 : Int32)) w14 rfl (z_swN (k := (5 : Int32)) w15 rfl (z_swN (k := (6 : Int32)) w16 rfl (z_swN (k := (7 : Int32)) w17 rfl (z_swT (k := (8 : Int32)) w25 rfl)))))))))) ?_
      refine k_n 2 (pc' := 121) (L' := [some (.ref 0), some (.int x1), some (.int x2), some (.ref b5)]) (S' := [.ref b5, .ref b5]) (h' := h) rfl ?_
      refine k_gI rfl rfl t6 ?_
      refine k_n 1 (pc' := 125) (L' := [some (.ref 0), some (.int x1), some (.int x2), some (.ref b5)]) (S' := [.ref 0, .int (z_iv h b5 6), .ref b5]) (h' := h) rfl ?_
      obtain hb26 | ⟨b27, hb26⟩ := z_opt (z_rv h 0 9)
      · have H := H.1 hb26
        refine k_gN rfl W.t0 hb26 ?_
        refine k_cI 55 3 rfl rfl rfl (A := [.ref b5, .int (z_iv h b5 6), .null]) rfl rfl (z_rok_ref t6) (rest := []) rfl (z_tyI rfl rfl) ?_
        obtain ⟨v29, k30, H⟩ := H
        refine k_P k30 ?_
        exact k_r rfl rfl rfl H
      · have H := H.2 b27 hb26
        have t28 : z_tg h b27 = 1 := (CW.tyOf (t := 11) (t' := 1) W W.t0 hb26 (by decide) rfl)
        refine k_gS rfl W.t0 hb26 ?_
        refine k_cI 55 3 rfl rfl rfl (A := [.ref b5, .int (z_iv h b5 6), .ref b27]) rfl rfl (z_rok_ref t6) (rest := []) rfl (z_tyI rfl rfl) ?_
        obtain ⟨v31, k32, H⟩ := H
        refine k_P k32 ?_
        exact k_r rfl rfl rfl H
    rw [if_neg w25] at H
    by_cases w33 : x2 = (9 : Int32)
    · rw [if_pos w33] at H
      refine k_sw (pc' := 132) rfl (congrArg (z_tgt 13) (z_swN (k := (0 : Int32)) w7 rfl (z_swN (k := (1 : Int32)) w11 rfl (z_swN (k := (2 : Int32)) w12 rfl (z_swN (k := (3 : Int32)) w13 rfl (z_swN (k := (4 : Int32)) w14 rfl (z_swN (k := (5 : Int32)) w15 rfl (z_swN (k := (6 : Int32)) w16 rfl (z_swN (k := (7 : Int32)) w17 rfl (z_swN (k := (8 : Int32)) w25 rfl (z_swT (k := (9 : Int32)) w33 rfl))))))))))) ?_
      refine k_n 2 (pc' := 134) (L' := [some (.ref 0), some (.int x1), some (.int x2), some (.ref b5)]) (S' := [.ref 0, .ref b5]) (h' := h) rfl ?_
      obtain hb34 | ⟨b35, hb34⟩ := z_opt (z_rv h 0 9)
      · have H := H.1 hb34
        refine k_gN rfl W.t0 hb34 ?_
        refine k_cI 56 2 rfl rfl rfl (A := [.ref b5, .null]) rfl rfl (z_rok_ref t6) (rest := []) rfl (z_tyI rfl rfl) ?_
        obtain ⟨v37, k38, H⟩ := H
        refine k_P k38 ?_
        refine k_cI 145 1 rfl rfl rfl (A := [.int v37]) rfl rfl rfl (rest := []) rfl (z_tyI rfl rfl) ?_
        refine C_145 v37 h    ?_
        exact k_r rfl rfl rfl H
      · have H := H.2 b35 hb34
        have t36 : z_tg h b35 = 1 := (CW.tyOf (t := 11) (t' := 1) W W.t0 hb34 (by decide) rfl)
        refine k_gS rfl W.t0 hb34 ?_
        refine k_cI 56 2 rfl rfl rfl (A := [.ref b5, .ref b35]) rfl rfl (z_rok_ref t6) (rest := []) rfl (z_tyI rfl rfl) ?_
        obtain ⟨v39, k40, H⟩ := H
        refine k_P k40 ?_
        refine k_cI 145 1 rfl rfl rfl (A := [.int v39]) rfl rfl rfl (rest := []) rfl (z_tyI rfl rfl) ?_
        refine C_145 v39 h    ?_
        exact k_r rfl rfl rfl H
    rw [if_neg w33] at H
    refine k_sw (pc' := 144) rfl (congrArg (z_tgt 13) (z_swN (k := (0 : Int32)) w7 rfl (z_swN (k := (1 : Int32)) w11 rfl (z_swN (k := (2 : Int32)) w12 rfl (z_swN (k := (3 : Int32)) w13 rfl (z_swN (k := (4 : Int32)) w14 rfl (z_swN (k := (5 : Int32)) w15 rfl (z_swN (k := (6 : Int32)) w16 rfl (z_swN (k := (7 : Int32)) w17 rfl (z_swN (k := (8 : Int32)) w25 rfl (z_swN (k := (9 : Int32)) w33 rfl rfl))))))))))) ?_
    refine k_n 1 (pc' := 145) (L' := [some (.ref 0), some (.int x1), some (.int x2), some (.ref b5)]) (S' := [.int (-1 : Int32)]) (h' := h) rfl ?_
    exact k_r rfl rfl rfl H
set_option maxRecDepth 20000 in
theorem X_156 (x1 : Int32) (x2 : Int32) (x3 : Int32) (h : zH) (W : CW h)  {Q : Int32 → zH → Prop} (H : KG z_pI 156 6 [some (.ref 0), some (.int x1), some (.int x2), some (.int x3), some (.int (0 : Int32)), some (.int (0 : Int32)), none] [] h Q) : KK z_pI 156 [.ref 0, .int x1, .int x2, .int x3] h Q := by
  refine k_K (L := [some (.ref 0), some (.int x1), some (.int x2), some (.int x3), none, none, none]) rfl ?_
  refine k_n 4 (pc' := 6) (L' := [some (.ref 0), some (.int x1), some (.int x2), some (.int x3), some (.int (0 : Int32)), some (.int (0 : Int32)), none]) (S' := []) (h' := h) rfl ?_
  exact H
set_option maxRecDepth 20000 in
theorem X_156_6 (y1 : Int32) (y2 : Int32) (y3 : Int32) (y4 : Int32) (y5 : Int32) (u6 : Option Value) (h : zH) (W : CW h)  {Q : Int32 → zH → Prop} (H : if (60 : Int32) ≤ y5 then (Q y4 h) else (∃ v1 : Option Nat, KV z_pA 150 [.ref 0, .int y5] h v1 ∧ (∀ b_, v1 = some b_ → z_tg h b_ = 5) ∧ ((v1 = none → KG z_pI 156 6 [some (.ref 0), some (.int y1), some (.int y2), some (.int y3), some (.int y4), some (.int (y5 + (1 : Int32))), some (.null)] [] h Q) ∧ (∀ b5, v1 = some b5 → (z_rv h b5 0 = none → False) ∧ (∀ b8, z_rv h b5 0 = some b8 → if (z_iv h b8 5) = y1 then (if y2 < (z_iv h b5 2) then (KG z_pI 156 6 [some (.ref 0), some (.int y1), some (.int y2), some (.int y3), some (.int y4), some (.int (y5 + (1 : Int32))), some (.ref b5)] [] h Q) else (∀ m11 : Int32, m11 = (if y3 = 0 then (z_iv h b5 5) else (z_iv h b5 6)) → (z_rv h 0 9 = none → ∃ v16 : Int32, KV z_pI 55 [.ref b5, .int m11, .null] h v16 ∧ KG z_pI 156 6 [some (.ref 0), some (.int y1), some (.int y2), some (.int y3), some (.int (y4 + v16)), some (.int (y5 + (1 : Int32))), some (.ref b5)] [] h Q) ∧ (∀ b14, z_rv h 0 9 = some b14 → ∃ v18 : Int32, KV z_pI 55 [.ref b5, .int m11, .ref b14] h v18 ∧ KG z_pI 156 6 [some (.ref 0), some (.int y1), some (.int y2), some (.int y3), some (.int (y4 + v18)), some (.int (y5 + (1 : Int32))), some (.ref b5)] [] h Q))) else (KG z_pI 156 6 [some (.ref 0), some (.int y1), some (.int y2), some (.int y3), some (.int y4), some (.int (y5 + (1 : Int32))), some (.ref b5)] [] h Q)))))) : KG z_pI 156 6 [some (.ref 0), some (.int y1), some (.int y2), some (.int y3), some (.int y4), some (.int y5), u6] [] h Q := by
  refine k_n 2 (pc' := 10) (L' := [some (.ref 0), some (.int y1), some (.int y2), some (.int y3), some (.int y4), some (.int y5), u6]) (S' := [.int (60 : Int32), .int y5]) (h' := h) rfl ?_
  refine k_b (g := (60 : Int32) ≤ y5) (pc' := 84) (L' := [some (.ref 0), some (.int y1), some (.int y2), some (.int y3), some (.int y4), some (.int y5), u6]) (S' := []) (pc2 := 13) (L2 := [some (.ref 0), some (.int y1), some (.int y2), some (.int y3), some (.int y4), some (.int y5), u6]) (S2 := []) (h' := h) (h2 := h) rfl rfl (fun hc => ?_) (fun hc => ?_)
  · have hc := hc
    rw [if_pos hc] at H
    refine k_n 1 (pc' := 86) (L' := [some (.ref 0), some (.int y1), some (.int y2), some (.int y3), some (.int y4), some (.int y5), u6]) (S' := [.int y4]) (h' := h) rfl ?_
    exact k_r rfl rfl rfl H
  · have hc := hc
    rw [if_neg hc] at H
    refine k_n 2 (pc' := 16) (L' := [some (.ref 0), some (.int y1), some (.int y2), some (.int y3), some (.int y4), some (.int y5), u6]) (S' := [.int y5, .ref 0]) (h' := h) rfl ?_
    refine k_cA 150 2 "SavedThird$Reading" rfl rfl rfl (A := [.ref 0, .int y5]) rfl rfl (z_rok_ref W.t0) (rest := []) rfl rfl (by decide) ?_
    obtain ⟨v1, k2, tv3, H⟩ := H
    refine k_P k2 ?_
    obtain hb4 | ⟨b5, hb4⟩ := z_opt (v1)
    · have H := H.1 hb4
      refine k_oN hb4 ?_
      refine k_n 5 (pc' := 6) (L' := [some (.ref 0), some (.int y1), some (.int y2), some (.int y3), some (.int y4), some (.int (y5 + (1 : Int32))), some (.null)]) (S' := []) (h' := h) rfl ?_
      exact H
    · have H := H.2 b5 hb4
      have t6 : z_tg h b5 = 5 := tv3 _ hb4
      refine k_oS hb4 ?_
      refine k_n 4 (pc' := 28) (L' := [some (.ref 0), some (.int y1), some (.int y2), some (.int y3), some (.int y4), some (.int y5), some (.ref b5)]) (S' := [.ref b5]) (h' := h) rfl ?_
      obtain hb7 | ⟨b8, hb7⟩ := z_opt (z_rv h b5 0)
      · have H := H.1 hb7
        refine k_gN rfl t6 hb7 ?_
        exact H.elim
      · have H := H.2 b8 hb7
        have t9 : z_tg h b8 = 3 := (CW.tyOf (t := 5) (t' := 3) W t6 hb7 (by decide) rfl)
        refine k_gS rfl t6 hb7 ?_
        refine k_gI rfl rfl t9 ?_
        refine k_n 1 (pc' := 35) (L' := [some (.ref 0), some (.int y1), some (.int y2), some (.int y3), some (.int y4), some (.int y5), some (.ref b5)]) (S' := [.int y1, .int (z_iv h b8 5)]) (h' := h) rfl ?_
        refine k_b (g := (z_iv h b8 5) = y1) (pc' := 38) (L' := [some (.ref 0), some (.int y1), some (.int y2), some (.int y3), some (.int y4), some (.int y5), some (.ref b5)]) (S' := []) (pc2 := 78) (L2 := [some (.ref 0), some (.int y1), some (.int y2), some (.int y3), some (.int y4), some (.int y5), some (.ref b5)]) (S2 := []) (h' := h) (h2 := h) rfl rfl (fun hc => ?_) (fun hc => ?_)
        · have hc := hc
          rw [if_pos hc] at H
          refine k_n 1 (pc' := 40) (L' := [some (.ref 0), some (.int y1), some (.int y2), some (.int y3), some (.int y4), some (.int y5), some (.ref b5)]) (S' := [.ref b5]) (h' := h) rfl ?_
          refine k_gI rfl rfl t6 ?_
          refine k_n 1 (pc' := 44) (L' := [some (.ref 0), some (.int y1), some (.int y2), some (.int y3), some (.int y4), some (.int y5), some (.ref b5)]) (S' := [.int y2, .int (z_iv h b5 2)]) (h' := h) rfl ?_
          refine k_b (g := y2 < (z_iv h b5 2)) (pc' := 78) (L' := [some (.ref 0), some (.int y1), some (.int y2), some (.int y3), some (.int y4), some (.int y5), some (.ref b5)]) (S' := []) (pc2 := 47) (L2 := [some (.ref 0), some (.int y1), some (.int y2), some (.int y3), some (.int y4), some (.int y5), some (.ref b5)]) (S2 := []) (h' := h) (h2 := h) rfl rfl (fun hc => ?_) (fun hc => ?_)
          · have hc := hc
            rw [if_pos hc] at H
            refine k_n 2 (pc' := 6) (L' := [some (.ref 0), some (.int y1), some (.int y2), some (.int y3), some (.int y4), some (.int (y5 + (1 : Int32))), some (.ref b5)]) (S' := []) (h' := h) rfl ?_
            exact H
          · have hc := hc
            rw [if_neg hc] at H
            refine k_n 3 (pc' := 52) (L' := [some (.ref 0), some (.int y1), some (.int y2), some (.int y3), some (.int y4), some (.int y5), some (.ref b5)]) (S' := [.int y3, .ref b5, .int y4]) (h' := h) rfl ?_
            obtain ⟨m11, em11⟩ : ∃ m : Int32, m = (if y3 = 0 then (z_iv h b5 5) else (z_iv h b5 6)) := ⟨_, rfl⟩
            have H := H m11 em11
            have hj12 : KG z_pI 156 68 [some (.ref 0), some (.int y1), some (.int y2), some (.int y3), some (.int y4), some (.int y5), some (.ref b5)] [.int m11, .ref b5, .int y4] h Q := by
              refine k_n 1 (pc' := 69) (L' := [some (.ref 0), some (.int y1), some (.int y2), some (.int y3), some (.int y4), some (.int y5), some (.ref b5)]) (S' := [.ref 0, .int m11, .ref b5, .int y4]) (h' := h) rfl ?_
              obtain hb13 | ⟨b14, hb13⟩ := z_opt (z_rv h 0 9)
              · have H := H.1 hb13
                refine k_gN rfl W.t0 hb13 ?_
                refine k_cI 55 3 rfl rfl rfl (A := [.ref b5, .int m11, .null]) rfl rfl (z_rok_ref t6) (rest := [.int y4]) rfl (z_tyI rfl rfl) ?_
                obtain ⟨v16, k17, H⟩ := H
                refine k_P k17 ?_
                refine k_n 4 (pc' := 6) (L' := [some (.ref 0), some (.int y1), some (.int y2), some (.int y3), some (.int (y4 + v16)), some (.int (y5 + (1 : Int32))), some (.ref b5)]) (S' := []) (h' := h) rfl ?_
                exact H
              · have H := H.2 b14 hb13
                have t15 : z_tg h b14 = 1 := (CW.tyOf (t := 11) (t' := 1) W W.t0 hb13 (by decide) rfl)
                refine k_gS rfl W.t0 hb13 ?_
                refine k_cI 55 3 rfl rfl rfl (A := [.ref b5, .int m11, .ref b14]) rfl rfl (z_rok_ref t6) (rest := [.int y4]) rfl (z_tyI rfl rfl) ?_
                obtain ⟨v18, k19, H⟩ := H
                refine k_P k19 ?_
                refine k_n 4 (pc' := 6) (L' := [some (.ref 0), some (.int y1), some (.int y2), some (.int y3), some (.int (y4 + v18)), some (.int (y5 + (1 : Int32))), some (.ref b5)]) (S' := []) (h' := h) rfl ?_
                exact H
            refine k_b (g := y3 = 0) (pc' := 63) (L' := [some (.ref 0), some (.int y1), some (.int y2), some (.int y3), some (.int y4), some (.int y5), some (.ref b5)]) (S' := [.ref b5, .int y4]) (pc2 := 55) (L2 := [some (.ref 0), some (.int y1), some (.int y2), some (.int y3), some (.int y4), some (.int y5), some (.ref b5)]) (S2 := [.ref b5, .int y4]) (h' := h) (h2 := h) rfl rfl (fun hc => ?_) (fun hc => ?_)
            · have c10 := hc
              refine k_n 1 (pc' := 65) (L' := [some (.ref 0), some (.int y1), some (.int y2), some (.int y3), some (.int y4), some (.int y5), some (.ref b5)]) (S' := [.ref b5, .ref b5, .int y4]) (h' := h) rfl ?_
              refine k_gI rfl rfl t6 ?_
              rw [(em11.trans (by rw [if_pos c10]) : m11 = (z_iv h b5 5))] at hj12
              exact hj12
            · have c10 := hc
              refine k_n 1 (pc' := 57) (L' := [some (.ref 0), some (.int y1), some (.int y2), some (.int y3), some (.int y4), some (.int y5), some (.ref b5)]) (S' := [.ref b5, .ref b5, .int y4]) (h' := h) rfl ?_
              refine k_gI rfl rfl t6 ?_
              refine k_n 1 (pc' := 68) (L' := [some (.ref 0), some (.int y1), some (.int y2), some (.int y3), some (.int y4), some (.int y5), some (.ref b5)]) (S' := [.int (z_iv h b5 6), .ref b5, .int y4]) (h' := h) rfl ?_
              rw [(em11.trans (by rw [if_neg c10]) : m11 = (z_iv h b5 6))] at hj12
              exact hj12
        · have hc := hc
          rw [if_neg hc] at H
          refine k_n 2 (pc' := 6) (L' := [some (.ref 0), some (.int y1), some (.int y2), some (.int y3), some (.int y4), some (.int (y5 + (1 : Int32))), some (.ref b5)]) (S' := []) (h' := h) rfl ?_
          exact H
set_option maxRecDepth 20000 in
theorem X_158 (x1 : Int32) (x2 : Nat) (h : zH) (W : CW h) (T2 : z_tg h x2 = 4) {Q : Int32 → zH → Prop} (H : KG z_pI 158 5 [some (.ref 0), some (.int x1), some (.ref x2), some (.int (0 : Int32)), some (.int (0 : Int32)), none] [] h Q) : KK z_pI 158 [.ref 0, .int x1, .ref x2] h Q := by
  refine k_K (L := [some (.ref 0), some (.int x1), some (.ref x2), none, none, none]) rfl ?_
  refine k_n 4 (pc' := 5) (L' := [some (.ref 0), some (.int x1), some (.ref x2), some (.int (0 : Int32)), some (.int (0 : Int32)), none]) (S' := []) (h' := h) rfl ?_
  exact H
set_option maxRecDepth 20000 in
theorem X_158_5 (y1 : Int32) (a2 : Nat) (y3 : Int32) (y4 : Int32) (u5 : Option Value) (h : zH) (W : CW h) (Ta2 : z_tg h a2 = 4) {Q : Int32 → zH → Prop} (H : if (60 : Int32) ≤ y4 then (Q (0 : Int32) h) else (∃ v1 : Option Nat, KV z_pA 150 [.ref 0, .int y4] h v1 ∧ (∀ b_, v1 = some b_ → z_tg h b_ = 5) ∧ ((v1 = none → KG z_pI 158 5 [some (.ref 0), some (.int y1), some (.ref a2), some (.int y3), some (.int (y4 + (1 : Int32))), some (.null)] [] h Q) ∧ (∀ b5, v1 = some b5 → (z_rv h b5 0 = none → False) ∧ (∀ b8, z_rv h b5 0 = some b8 → if (z_iv h b8 5) = y1 then ((z_rv h 0 9 = none → ∃ v13 : Int32, KV z_pI 55 [.ref b5, .int (z_iv h b5 5), .null] h v13 ∧ (if (y3 + v13) ≤ (z_iv h a2 8) then (KG z_pI 158 5 [some (.ref 0), some (.int y1), some (.ref a2), some (.int (y3 + v13)), some (.int (y4 + (1 : Int32))), some (.ref b5)] [] h Q) else (Q ((z_iv h 0 11) - (z_iv h b5 2)) h))) ∧ (∀ b11, z_rv h 0 9 = some b11 → ∃ v15 : Int32, KV z_pI 55 [.ref b5, .int (z_iv h b5 5), .ref b11] h v15 ∧ (if (y3 + v15) ≤ (z_iv h a2 8) then (KG z_pI 158 5 [some (.ref 0), some (.int y1), some (.ref a2), some (.int (y3 + v15)), some (.int (y4 + (1 : Int32))), some (.ref b5)] [] h Q) else (Q ((z_iv h 0 11) - (z_iv h b5 2)) h)))) else (KG z_pI 158 5 [some (.ref 0), some (.int y1), some (.ref a2), some (.int y3), some (.int (y4 + (1 : Int32))), some (.ref b5)] [] h Q)))))) : KG z_pI 158 5 [some (.ref 0), some (.int y1), some (.ref a2), some (.int y3), some (.int y4), u5] [] h Q := by
  refine k_n 2 (pc' := 9) (L' := [some (.ref 0), some (.int y1), some (.ref a2), some (.int y3), some (.int y4), u5]) (S' := [.int (60 : Int32), .int y4]) (h' := h) rfl ?_
  refine k_b (g := (60 : Int32) ≤ y4) (pc' := 79) (L' := [some (.ref 0), some (.int y1), some (.ref a2), some (.int y3), some (.int y4), u5]) (S' := []) (pc2 := 12) (L2 := [some (.ref 0), some (.int y1), some (.ref a2), some (.int y3), some (.int y4), u5]) (S2 := []) (h' := h) (h2 := h) rfl rfl (fun hc => ?_) (fun hc => ?_)
  · have hc := hc
    rw [if_pos hc] at H
    refine k_n 1 (pc' := 80) (L' := [some (.ref 0), some (.int y1), some (.ref a2), some (.int y3), some (.int y4), u5]) (S' := [.int (0 : Int32)]) (h' := h) rfl ?_
    exact k_r rfl rfl rfl H
  · have hc := hc
    rw [if_neg hc] at H
    refine k_n 2 (pc' := 15) (L' := [some (.ref 0), some (.int y1), some (.ref a2), some (.int y3), some (.int y4), u5]) (S' := [.int y4, .ref 0]) (h' := h) rfl ?_
    refine k_cA 150 2 "SavedThird$Reading" rfl rfl rfl (A := [.ref 0, .int y4]) rfl rfl (z_rok_ref W.t0) (rest := []) rfl rfl (by decide) ?_
    obtain ⟨v1, k2, tv3, H⟩ := H
    refine k_P k2 ?_
    obtain hb4 | ⟨b5, hb4⟩ := z_opt (v1)
    · have H := H.1 hb4
      refine k_oN hb4 ?_
      refine k_n 5 (pc' := 5) (L' := [some (.ref 0), some (.int y1), some (.ref a2), some (.int y3), some (.int (y4 + (1 : Int32))), some (.null)]) (S' := []) (h' := h) rfl ?_
      exact H
    · have H := H.2 b5 hb4
      have t6 : z_tg h b5 = 5 := tv3 _ hb4
      refine k_oS hb4 ?_
      refine k_n 4 (pc' := 27) (L' := [some (.ref 0), some (.int y1), some (.ref a2), some (.int y3), some (.int y4), some (.ref b5)]) (S' := [.ref b5]) (h' := h) rfl ?_
      obtain hb7 | ⟨b8, hb7⟩ := z_opt (z_rv h b5 0)
      · have H := H.1 hb7
        refine k_gN rfl t6 hb7 ?_
        exact H.elim
      · have H := H.2 b8 hb7
        have t9 : z_tg h b8 = 3 := (CW.tyOf (t := 5) (t' := 3) W t6 hb7 (by decide) rfl)
        refine k_gS rfl t6 hb7 ?_
        refine k_gI rfl rfl t9 ?_
        refine k_n 1 (pc' := 34) (L' := [some (.ref 0), some (.int y1), some (.ref a2), some (.int y3), some (.int y4), some (.ref b5)]) (S' := [.int y1, .int (z_iv h b8 5)]) (h' := h) rfl ?_
        refine k_b (g := (z_iv h b8 5) = y1) (pc' := 37) (L' := [some (.ref 0), some (.int y1), some (.ref a2), some (.int y3), some (.int y4), some (.ref b5)]) (S' := []) (pc2 := 73) (L2 := [some (.ref 0), some (.int y1), some (.ref a2), some (.int y3), some (.int y4), some (.ref b5)]) (S2 := []) (h' := h) (h2 := h) rfl rfl (fun hc => ?_) (fun hc => ?_)
        · have hc := hc
          rw [if_pos hc] at H
          refine k_n 3 (pc' := 42) (L' := [some (.ref 0), some (.int y1), some (.ref a2), some (.int y3), some (.int y4), some (.ref b5)]) (S' := [.ref b5, .ref b5, .int y3]) (h' := h) rfl ?_
          refine k_gI rfl rfl t6 ?_
          refine k_n 1 (pc' := 46) (L' := [some (.ref 0), some (.int y1), some (.ref a2), some (.int y3), some (.int y4), some (.ref b5)]) (S' := [.ref 0, .int (z_iv h b5 5), .ref b5, .int y3]) (h' := h) rfl ?_
          obtain hb10 | ⟨b11, hb10⟩ := z_opt (z_rv h 0 9)
          · have H := H.1 hb10
            refine k_gN rfl W.t0 hb10 ?_
            refine k_cI 55 3 rfl rfl rfl (A := [.ref b5, .int (z_iv h b5 5), .null]) rfl rfl (z_rok_ref t6) (rest := [.int y3]) rfl (z_tyI rfl rfl) ?_
            obtain ⟨v13, k14, H⟩ := H
            refine k_P k14 ?_
            refine k_n 4 (pc' := 56) (L' := [some (.ref 0), some (.int y1), some (.ref a2), some (.int (y3 + v13)), some (.int y4), some (.ref b5)]) (S' := [.ref a2, .int (y3 + v13)]) (h' := h) rfl ?_
            refine k_gI rfl rfl Ta2 ?_
            refine k_b (g := (y3 + v13) ≤ (z_iv h a2 8)) (pc' := 73) (L' := [some (.ref 0), some (.int y1), some (.ref a2), some (.int (y3 + v13)), some (.int y4), some (.ref b5)]) (S' := []) (pc2 := 62) (L2 := [some (.ref 0), some (.int y1), some (.ref a2), some (.int (y3 + v13)), some (.int y4), some (.ref b5)]) (S2 := []) (h' := h) (h2 := h) rfl rfl (fun hc => ?_) (fun hc => ?_)
            · have hc := hc
              rw [if_pos hc] at H
              refine k_n 2 (pc' := 5) (L' := [some (.ref 0), some (.int y1), some (.ref a2), some (.int (y3 + v13)), some (.int (y4 + (1 : Int32))), some (.ref b5)]) (S' := []) (h' := h) rfl ?_
              exact H
            · have hc := hc
              rw [if_neg hc] at H
              refine k_n 1 (pc' := 63) (L' := [some (.ref 0), some (.int y1), some (.ref a2), some (.int (y3 + v13)), some (.int y4), some (.ref b5)]) (S' := [.ref 0]) (h' := h) rfl ?_
              refine k_gI rfl rfl W.t0 ?_
              refine k_n 1 (pc' := 68) (L' := [some (.ref 0), some (.int y1), some (.ref a2), some (.int (y3 + v13)), some (.int y4), some (.ref b5)]) (S' := [.ref b5, .int (z_iv h 0 11)]) (h' := h) rfl ?_
              refine k_gI rfl rfl t6 ?_
              refine k_n 1 (pc' := 72) (L' := [some (.ref 0), some (.int y1), some (.ref a2), some (.int (y3 + v13)), some (.int y4), some (.ref b5)]) (S' := [.int ((z_iv h 0 11) - (z_iv h b5 2))]) (h' := h) rfl ?_
              exact k_r rfl rfl rfl H
          · have H := H.2 b11 hb10
            have t12 : z_tg h b11 = 1 := (CW.tyOf (t := 11) (t' := 1) W W.t0 hb10 (by decide) rfl)
            refine k_gS rfl W.t0 hb10 ?_
            refine k_cI 55 3 rfl rfl rfl (A := [.ref b5, .int (z_iv h b5 5), .ref b11]) rfl rfl (z_rok_ref t6) (rest := [.int y3]) rfl (z_tyI rfl rfl) ?_
            obtain ⟨v15, k16, H⟩ := H
            refine k_P k16 ?_
            refine k_n 4 (pc' := 56) (L' := [some (.ref 0), some (.int y1), some (.ref a2), some (.int (y3 + v15)), some (.int y4), some (.ref b5)]) (S' := [.ref a2, .int (y3 + v15)]) (h' := h) rfl ?_
            refine k_gI rfl rfl Ta2 ?_
            refine k_b (g := (y3 + v15) ≤ (z_iv h a2 8)) (pc' := 73) (L' := [some (.ref 0), some (.int y1), some (.ref a2), some (.int (y3 + v15)), some (.int y4), some (.ref b5)]) (S' := []) (pc2 := 62) (L2 := [some (.ref 0), some (.int y1), some (.ref a2), some (.int (y3 + v15)), some (.int y4), some (.ref b5)]) (S2 := []) (h' := h) (h2 := h) rfl rfl (fun hc => ?_) (fun hc => ?_)
            · have hc := hc
              rw [if_pos hc] at H
              refine k_n 2 (pc' := 5) (L' := [some (.ref 0), some (.int y1), some (.ref a2), some (.int (y3 + v15)), some (.int (y4 + (1 : Int32))), some (.ref b5)]) (S' := []) (h' := h) rfl ?_
              exact H
            · have hc := hc
              rw [if_neg hc] at H
              refine k_n 1 (pc' := 63) (L' := [some (.ref 0), some (.int y1), some (.ref a2), some (.int (y3 + v15)), some (.int y4), some (.ref b5)]) (S' := [.ref 0]) (h' := h) rfl ?_
              refine k_gI rfl rfl W.t0 ?_
              refine k_n 1 (pc' := 68) (L' := [some (.ref 0), some (.int y1), some (.ref a2), some (.int (y3 + v15)), some (.int y4), some (.ref b5)]) (S' := [.ref b5, .int (z_iv h 0 11)]) (h' := h) rfl ?_
              refine k_gI rfl rfl t6 ?_
              refine k_n 1 (pc' := 72) (L' := [some (.ref 0), some (.int y1), some (.ref a2), some (.int (y3 + v15)), some (.int y4), some (.ref b5)]) (S' := [.int ((z_iv h 0 11) - (z_iv h b5 2))]) (h' := h) rfl ?_
              exact k_r rfl rfl rfl H
        · have hc := hc
          rw [if_neg hc] at H
          refine k_n 2 (pc' := 5) (L' := [some (.ref 0), some (.int y1), some (.ref a2), some (.int y3), some (.int (y4 + (1 : Int32))), some (.ref b5)]) (S' := []) (h' := h) rfl ?_
          exact H
set_option maxRecDepth 20000 in
theorem X_157 (x1 : Int32) (x2 : Nat) (h : zH) (W : CW h) (T2 : z_tg h x2 = 4) {Q : Int32 → zH → Prop} (H : ∃ v1 : Int32, KV z_pI 156 [.ref 0, .int x1, .int (60 : Int32), .int (0 : Int32)] h v1 ∧ Q (v1 - (z_iv h x2 8)) h) : KK z_pI 157 [.ref 0, .int x1, .ref x2] h Q := by
  refine k_K (L := [some (.ref 0), some (.int x1), some (.ref x2)]) rfl ?_
  refine k_n 4 (pc' := 5) (L' := [some (.ref 0), some (.int x1), some (.ref x2)]) (S' := [.int (0 : Int32), .int (60 : Int32), .int x1, .ref 0]) (h' := h) rfl ?_
  refine k_cI 156 4 rfl rfl rfl (A := [.ref 0, .int x1, .int (60 : Int32), .int (0 : Int32)]) rfl rfl (z_rok_ref W.t0) (rest := []) rfl (z_tyI rfl rfl) ?_
  obtain ⟨v1, k2, H⟩ := H
  refine k_P k2 ?_
  refine k_n 1 (pc' := 9) (L' := [some (.ref 0), some (.int x1), some (.ref x2)]) (S' := [.ref x2, .int v1]) (h' := h) rfl ?_
  refine k_gI rfl rfl T2 ?_
  refine k_n 1 (pc' := 13) (L' := [some (.ref 0), some (.int x1), some (.ref x2)]) (S' := [.int (v1 - (z_iv h x2 8))]) (h' := h) rfl ?_
  exact k_r rfl rfl rfl H
set_option maxRecDepth 20000 in
theorem X_117 (x1 : Int32) (x2 : Int32) (h : zH) (W : CW h)  {Q : Int32 → zH → Prop} (H : ∃ v1 : Option Nat, KV z_pA 148 [.ref 0, .int x1] h v1 ∧ (∀ b_, v1 = some b_ → z_tg h b_ = 4) ∧ ((v1 = none → Q (-1000000 : Int32) h) ∧ (∀ b5, v1 = some b5 → if (0 : Int32) ≤ x2 ∧ x2 ≤ (99999 : Int32) then (∃ v7 : Int32, KV z_pI 157 [.ref 0, .int x1, .ref b5] (z_sI h b5 8 ((z_iv h b5 8) + x2)) v7 ∧ Q v7 (z_sI h b5 8 ((z_iv h b5 8) + x2))) else (Q (-1000000 : Int32) h)))) : KK z_pI 117 [.ref 0, .int x1, .int x2] h Q := by
  refine k_K (L := [some (.ref 0), some (.int x1), some (.int x2), none]) rfl ?_
  refine k_n 2 (pc' := 2) (L' := [some (.ref 0), some (.int x1), some (.int x2), none]) (S' := [.int x1, .ref 0]) (h' := h) rfl ?_
  refine k_cA 148 2 "SavedThird$Mine" rfl rfl rfl (A := [.ref 0, .int x1]) rfl rfl (z_rok_ref W.t0) (rest := []) rfl rfl (by decide) ?_
  obtain ⟨v1, k2, tv3, H⟩ := H
  refine k_P k2 ?_
  obtain hb4 | ⟨b5, hb4⟩ := z_opt (v1)
  · have H := H.1 hb4
    refine k_oN hb4 ?_
    refine k_n 4 (pc' := 24) (L' := [some (.ref 0), some (.int x1), some (.int x2), some (.null)]) (S' := [.int (-1000000 : Int32)]) (h' := h) rfl ?_
    exact k_r rfl rfl rfl H
  · have H := H.2 b5 hb4
    have t6 : z_tg h b5 = 4 := tv3 _ hb4
    refine k_oS hb4 ?_
    refine k_n 6 (pc' := 15) (L' := [some (.ref 0), some (.int x1), some (.int x2), some (.ref b5)]) (S' := [.int (99999 : Int32), .int (0 : Int32), .int x2]) (h' := h) rfl ?_
    refine k_cI 135 3 rfl rfl rfl (A := [.int x2, .int (0 : Int32), .int (99999 : Int32)]) rfl rfl rfl (rest := []) rfl (z_tyI rfl rfl) ?_
    refine c_within x2 (0 : Int32) (99999 : Int32) h ?_
    refine k_b (g := z_bt ((0 : Int32) ≤ x2 ∧ x2 ≤ (99999 : Int32)) = 0) (pc' := 21) (L' := [some (.ref 0), some (.int x1), some (.int x2), some (.ref b5)]) (S' := []) (pc2 := 25) (L2 := [some (.ref 0), some (.int x1), some (.int x2), some (.ref b5)]) (S2 := []) (h' := h) (h2 := h) rfl rfl (fun hc => ?_) (fun hc => ?_)
    · have hc := z_bt_0.mp hc
      rw [if_neg hc] at H
      refine k_n 1 (pc' := 24) (L' := [some (.ref 0), some (.int x1), some (.int x2), some (.ref b5)]) (S' := [.int (-1000000 : Int32)]) (h' := h) rfl ?_
      exact k_r rfl rfl rfl H
    · have hc := Decidable.not_not.mp (fun q => hc (z_bt_0.mpr q))
      rw [if_pos hc] at H
      refine k_n 2 (pc' := 27) (L' := [some (.ref 0), some (.int x1), some (.int x2), some (.ref b5)]) (S' := [.ref b5, .ref b5]) (h' := h) rfl ?_
      refine k_gI rfl rfl t6 ?_
      refine k_n 2 (pc' := 32) (L' := [some (.ref 0), some (.int x1), some (.int x2), some (.ref b5)]) (S' := [.int ((z_iv h b5 8) + x2), .ref b5]) (h' := h) rfl ?_
      refine k_pI rfl t6 ?_
      refine k_n 3 (pc' := 38) (L' := [some (.ref 0), some (.int x1), some (.int x2), some (.ref b5)]) (S' := [.ref b5, .int x1, .ref 0]) (h' := (z_sI h b5 8 ((z_iv h b5 8) + x2))) rfl ?_
      refine k_cI 157 3 rfl rfl rfl (A := [.ref 0, .int x1, .ref b5]) rfl rfl (z_rok_ref (z_tgI W.t0)) (rest := []) rfl (z_tyI rfl rfl) ?_
      obtain ⟨v7, k8, H⟩ := H
      refine k_P k8 ?_
      exact k_r rfl rfl rfl H
set_option maxRecDepth 20000 in
theorem X_118 (x1 : Int32) (x2 : Int32) (h : zH) (W : CW h)  {Q : Int32 → zH → Prop} (H : ∃ v1 : Option Nat, KV z_pA 148 [.ref 0, .int x1] h v1 ∧ (∀ b_, v1 = some b_ → z_tg h b_ = 4) ∧ ((v1 = none → Q (-1 : Int32) h) ∧ (∀ b5, v1 = some b5 → if x2 = (0 : Int32) then (∃ v8 : Int32, KV z_pI 156 [.ref 0, .int x1, .int (60 : Int32), .int (0 : Int32)] h v8 ∧ Q v8 h) else (if x2 = (1 : Int32) then (∃ v11 : Int32, KV z_pI 156 [.ref 0, .int x1, .int (60 : Int32), .int (1 : Int32)] h v11 ∧ Q v11 h) else (if x2 = (2 : Int32) then (Q (z_iv h b5 8) h) else (if x2 = (3 : Int32) then (∃ v15 : Int32, KV z_pI 157 [.ref 0, .int x1, .ref b5] h v15 ∧ Q (if (0 : Int32) < v15 then v15 else (0 : Int32)) h) else (if x2 = (4 : Int32) then (∃ v18 : Int32, KV z_pI 158 [.ref 0, .int x1, .ref b5] h v18 ∧ Q v18 h) else (if x2 = (5 : Int32) then (∃ v21 : Int32, KV z_pI 155 [.ref 0, .int x1] h v21 ∧ Q v21 h) else (Q (-1 : Int32) h))))))))) : KK z_pI 118 [.ref 0, .int x1, .int x2] h Q := by
  refine k_K (L := [some (.ref 0), some (.int x1), some (.int x2), none]) rfl ?_
  refine k_n 2 (pc' := 2) (L' := [some (.ref 0), some (.int x1), some (.int x2), none]) (S' := [.int x1, .ref 0]) (h' := h) rfl ?_
  refine k_cA 148 2 "SavedThird$Mine" rfl rfl rfl (A := [.ref 0, .int x1]) rfl rfl (z_rok_ref W.t0) (rest := []) rfl rfl (by decide) ?_
  obtain ⟨v1, k2, tv3, H⟩ := H
  refine k_P k2 ?_
  obtain hb4 | ⟨b5, hb4⟩ := z_opt (v1)
  · have H := H.1 hb4
    refine k_oN hb4 ?_
    refine k_n 4 (pc' := 11) (L' := [some (.ref 0), some (.int x1), some (.int x2), some (.null)]) (S' := [.int (-1 : Int32)]) (h' := h) rfl ?_
    exact k_r rfl rfl rfl H
  · have H := H.2 b5 hb4
    have t6 : z_tg h b5 = 4 := tv3 _ hb4
    refine k_oS hb4 ?_
    refine k_n 4 (pc' := 13) (L' := [some (.ref 0), some (.int x1), some (.int x2), some (.ref b5)]) (S' := [.int x2]) (h' := h) rfl ?_
    by_cases w7 : x2 = (0 : Int32)
    · rw [if_pos w7] at H
      refine k_sw (pc' := 52) rfl (congrArg (z_tgt 13) (z_swT (k := (0 : Int32)) w7 rfl)) ?_
      refine k_n 4 (pc' := 57) (L' := [some (.ref 0), some (.int x1), some (.int x2), some (.ref b5)]) (S' := [.int (0 : Int32), .int (60 : Int32), .int x1, .ref 0]) (h' := h) rfl ?_
      refine k_cI 156 4 rfl rfl rfl (A := [.ref 0, .int x1, .int (60 : Int32), .int (0 : Int32)]) rfl rfl (z_rok_ref W.t0) (rest := []) rfl (z_tyI rfl rfl) ?_
      obtain ⟨v8, k9, H⟩ := H
      refine k_P k9 ?_
      exact k_r rfl rfl rfl H
    rw [if_neg w7] at H
    by_cases w10 : x2 = (1 : Int32)
    · rw [if_pos w10] at H
      refine k_sw (pc' := 61) rfl (congrArg (z_tgt 13) (z_swN (k := (0 : Int32)) w7 rfl (z_swT (k := (1 : Int32)) w10 rfl))) ?_
      refine k_n 4 (pc' := 66) (L' := [some (.ref 0), some (.int x1), some (.int x2), some (.ref b5)]) (S' := [.int (1 : Int32), .int (60 : Int32), .int x1, .ref 0]) (h' := h) rfl ?_
      refine k_cI 156 4 rfl rfl rfl (A := [.ref 0, .int x1, .int (60 : Int32), .int (1 : Int32)]) rfl rfl (z_rok_ref W.t0) (rest := []) rfl (z_tyI rfl rfl) ?_
      obtain ⟨v11, k12, H⟩ := H
      refine k_P k12 ?_
      exact k_r rfl rfl rfl H
    rw [if_neg w10] at H
    by_cases w13 : x2 = (2 : Int32)
    · rw [if_pos w13] at H
      refine k_sw (pc' := 70) rfl (congrArg (z_tgt 13) (z_swN (k := (0 : Int32)) w7 rfl (z_swN (k := (1 : Int32)) w10 rfl (z_swT (k := (2 : Int32)) w13 rfl)))) ?_
      refine k_n 1 (pc' := 71) (L' := [some (.ref 0), some (.int x1), some (.int x2), some (.ref b5)]) (S' := [.ref b5]) (h' := h) rfl ?_
      refine k_gI rfl rfl t6 ?_
      exact k_r rfl rfl rfl H
    rw [if_neg w13] at H
    by_cases w14 : x2 = (3 : Int32)
    · rw [if_pos w14] at H
      refine k_sw (pc' := 75) rfl (congrArg (z_tgt 13) (z_swN (k := (0 : Int32)) w7 rfl (z_swN (k := (1 : Int32)) w10 rfl (z_swN (k := (2 : Int32)) w13 rfl (z_swT (k := (3 : Int32)) w14 rfl))))) ?_
      refine k_n 4 (pc' := 79) (L' := [some (.ref 0), some (.int x1), some (.int x2), some (.ref b5)]) (S' := [.ref b5, .int x1, .ref 0, .int (0 : Int32)]) (h' := h) rfl ?_
      refine k_cI 157 3 rfl rfl rfl (A := [.ref 0, .int x1, .ref b5]) rfl rfl (z_rok_ref W.t0) (rest := [.int (0 : Int32)]) rfl (z_tyI rfl rfl) ?_
      obtain ⟨v15, k16, H⟩ := H
      refine k_P k16 ?_
      refine k_cI 12 2 rfl rfl rfl (A := [.int (0 : Int32), .int v15]) rfl rfl rfl (rest := []) rfl (z_tyI rfl rfl) ?_
      refine C_12 (0 : Int32) v15 h    ?_
      exact k_r rfl rfl rfl H
    rw [if_neg w14] at H
    by_cases w17 : x2 = (4 : Int32)
    · rw [if_pos w17] at H
      refine k_sw (pc' := 86) rfl (congrArg (z_tgt 13) (z_swN (k := (0 : Int32)) w7 rfl (z_swN (k := (1 : Int32)) w10 rfl (z_swN (k := (2 : Int32)) w13 rfl (z_swN (k := (3 : Int32)) w14 rfl (z_swT (k := (4 : Int32)) w17 rfl)))))) ?_
      refine k_n 3 (pc' := 89) (L' := [some (.ref 0), some (.int x1), some (.int x2), some (.ref b5)]) (S' := [.ref b5, .int x1, .ref 0]) (h' := h) rfl ?_
      refine k_cI 158 3 rfl rfl rfl (A := [.ref 0, .int x1, .ref b5]) rfl rfl (z_rok_ref W.t0) (rest := []) rfl (z_tyI rfl rfl) ?_
      obtain ⟨v18, k19, H⟩ := H
      refine k_P k19 ?_
      exact k_r rfl rfl rfl H
    rw [if_neg w17] at H
    by_cases w20 : x2 = (5 : Int32)
    · rw [if_pos w20] at H
      refine k_sw (pc' := 93) rfl (congrArg (z_tgt 13) (z_swN (k := (0 : Int32)) w7 rfl (z_swN (k := (1 : Int32)) w10 rfl (z_swN (k := (2 : Int32)) w13 rfl (z_swN (k := (3 : Int32)) w14 rfl (z_swN (k := (4 : Int32)) w17 rfl (z_swT (k := (5 : Int32)) w20 rfl))))))) ?_
      refine k_n 2 (pc' := 95) (L' := [some (.ref 0), some (.int x1), some (.int x2), some (.ref b5)]) (S' := [.int x1, .ref 0]) (h' := h) rfl ?_
      refine k_cI 155 2 rfl rfl rfl (A := [.ref 0, .int x1]) rfl rfl (z_rok_ref W.t0) (rest := []) rfl (z_tyI rfl rfl) ?_
      obtain ⟨v21, k22, H⟩ := H
      refine k_P k22 ?_
      exact k_r rfl rfl rfl H
    rw [if_neg w20] at H
    refine k_sw (pc' := 99) rfl (congrArg (z_tgt 13) (z_swN (k := (0 : Int32)) w7 rfl (z_swN (k := (1 : Int32)) w10 rfl (z_swN (k := (2 : Int32)) w13 rfl (z_swN (k := (3 : Int32)) w14 rfl (z_swN (k := (4 : Int32)) w17 rfl (z_swN (k := (5 : Int32)) w20 rfl rfl))))))) ?_
    refine k_n 1 (pc' := 100) (L' := [some (.ref 0), some (.int x1), some (.int x2), some (.ref b5)]) (S' := [.int (-1 : Int32)]) (h' := h) rfl ?_
    exact k_r rfl rfl rfl H
set_option maxRecDepth 20000 in
theorem X_119 (x1 : Int32) (x2 : Int32) (h : zH) (W : CW h)  {Q : Int32 → zH → Prop} (H : ∃ v1 : Option Nat, KV z_pA 148 [.ref 0, .int x1] h v1 ∧ (∀ b_, v1 = some b_ → z_tg h b_ = 4) ∧ ((v1 = none → Q (-1 : Int32) h) ∧ (∀ b5, v1 = some b5 → if (0 : Int32) ≤ x2 ∧ x2 ≤ (60 : Int32) then (∃ v7 : Int32, KV z_pI 156 [.ref 0, .int x1, .int x2, .int (0 : Int32)] h v7 ∧ Q v7 h) else (Q (-1 : Int32) h)))) : KK z_pI 119 [.ref 0, .int x1, .int x2] h Q := by
  refine k_K (L := [some (.ref 0), some (.int x1), some (.int x2)]) rfl ?_
  refine k_n 2 (pc' := 2) (L' := [some (.ref 0), some (.int x1), some (.int x2)]) (S' := [.int x1, .ref 0]) (h' := h) rfl ?_
  refine k_cA 148 2 "SavedThird$Mine" rfl rfl rfl (A := [.ref 0, .int x1]) rfl rfl (z_rok_ref W.t0) (rest := []) rfl rfl (by decide) ?_
  obtain ⟨v1, k2, tv3, H⟩ := H
  refine k_P k2 ?_
  obtain hb4 | ⟨b5, hb4⟩ := z_opt (v1)
  · have H := H.1 hb4
    refine k_oN hb4 ?_
    refine k_n 2 (pc' := 19) (L' := [some (.ref 0), some (.int x1), some (.int x2)]) (S' := [.int (-1 : Int32)]) (h' := h) rfl ?_
    exact k_r rfl rfl rfl H
  · have H := H.2 b5 hb4
    have t6 : z_tg h b5 = 4 := tv3 _ hb4
    refine k_oS hb4 ?_
    refine k_n 4 (pc' := 12) (L' := [some (.ref 0), some (.int x1), some (.int x2)]) (S' := [.int (60 : Int32), .int (0 : Int32), .int x2]) (h' := h) rfl ?_
    refine k_cI 135 3 rfl rfl rfl (A := [.int x2, .int (0 : Int32), .int (60 : Int32)]) rfl rfl rfl (rest := []) rfl (z_tyI rfl rfl) ?_
    refine c_within x2 (0 : Int32) (60 : Int32) h ?_
    refine k_b (g := z_bt ((0 : Int32) ≤ x2 ∧ x2 ≤ (60 : Int32)) = 0) (pc' := 18) (L' := [some (.ref 0), some (.int x1), some (.int x2)]) (S' := []) (pc2 := 20) (L2 := [some (.ref 0), some (.int x1), some (.int x2)]) (S2 := []) (h' := h) (h2 := h) rfl rfl (fun hc => ?_) (fun hc => ?_)
    · have hc := z_bt_0.mp hc
      rw [if_neg hc] at H
      refine k_n 1 (pc' := 19) (L' := [some (.ref 0), some (.int x1), some (.int x2)]) (S' := [.int (-1 : Int32)]) (h' := h) rfl ?_
      exact k_r rfl rfl rfl H
    · have hc := Decidable.not_not.mp (fun q => hc (z_bt_0.mpr q))
      rw [if_pos hc] at H
      refine k_n 4 (pc' := 24) (L' := [some (.ref 0), some (.int x1), some (.int x2)]) (S' := [.int (0 : Int32), .int x2, .int x1, .ref 0]) (h' := h) rfl ?_
      refine k_cI 156 4 rfl rfl rfl (A := [.ref 0, .int x1, .int x2, .int (0 : Int32)]) rfl rfl (z_rok_ref W.t0) (rest := []) rfl (z_tyI rfl rfl) ?_
      obtain ⟨v7, k8, H⟩ := H
      refine k_P k8 ?_
      exact k_r rfl rfl rfl H
set_option maxRecDepth 20000 in
theorem X_120 (x1 : Int32) (h : zH) (W : CW h)  {Q : Int32 → zH → Prop} (H : ∃ v1 : Option Nat, KV z_pA 148 [.ref 0, .int x1] h v1 ∧ (∀ b_, v1 = some b_ → z_tg h b_ = 4) ∧ ((v1 = none → Q (-1 : Int32) h) ∧ (∀ b5, v1 = some b5 → ∃ v7 : Option Nat, KV z_pA 44 [.ref b5] h v7 ∧ (∀ b_, v7 = some b_ → z_tg h b_ = 3) ∧ ((v7 = none → Q (-2 : Int32) h) ∧ (∀ b11, v7 = some b11 → if (z_iv h b11 0) = (1 : Int32) then (∃ v13 : Int32, KV z_pI 158 [.ref 0, .int x1, .ref b5] h v13 ∧ ((z_rv h 0 9 = none → False) ∧ (∀ b16, z_rv h 0 9 = some b16 → ∃ v18 : Int32, KV z_pI 24 [.ref b16, .int x1, .int (z_iv h 0 11)] h v18 ∧ (if v18 ≤ v13 then (Q (z_iv h b11 6) (z_sI h b11 10 (1 : Int32))) else (Q (-2 : Int32) h))))) else (Q (-2 : Int32) h)))))) : KK z_pI 120 [.ref 0, .int x1] h Q := by
  refine k_K (L := [some (.ref 0), some (.int x1), none, none]) rfl ?_
  refine k_n 2 (pc' := 2) (L' := [some (.ref 0), some (.int x1), none, none]) (S' := [.int x1, .ref 0]) (h' := h) rfl ?_
  refine k_cA 148 2 "SavedThird$Mine" rfl rfl rfl (A := [.ref 0, .int x1]) rfl rfl (z_rok_ref W.t0) (rest := []) rfl rfl (by decide) ?_
  obtain ⟨v1, k2, tv3, H⟩ := H
  refine k_P k2 ?_
  obtain hb4 | ⟨b5, hb4⟩ := z_opt (v1)
  · have H := H.1 hb4
    refine k_oN hb4 ?_
    refine k_n 4 (pc' := 11) (L' := [some (.ref 0), some (.int x1), some (.null), none]) (S' := [.int (-1 : Int32)]) (h' := h) rfl ?_
    exact k_r rfl rfl rfl H
  · have H := H.2 b5 hb4
    have t6 : z_tg h b5 = 4 := tv3 _ hb4
    refine k_oS hb4 ?_
    refine k_n 4 (pc' := 13) (L' := [some (.ref 0), some (.int x1), some (.ref b5), none]) (S' := [.ref b5]) (h' := h) rfl ?_
    refine k_cA 44 1 "SavedThird$Engine" rfl rfl rfl (A := [.ref b5]) rfl rfl (z_rok_ref t6) (rest := []) rfl rfl (by decide) ?_
    obtain ⟨v7, k8, tv9, H⟩ := H
    refine k_P k8 ?_
    obtain hb10 | ⟨b11, hb10⟩ := z_opt (v7)
    · have H := H.1 hb10
      refine k_oN hb10 ?_
      refine k_n 4 (pc' := 52) (L' := [some (.ref 0), some (.int x1), some (.ref b5), some (.null)]) (S' := [.int (-2 : Int32)]) (h' := h) rfl ?_
      exact k_r rfl rfl rfl H
    · have H := H.2 b11 hb10
      have t12 : z_tg h b11 = 3 := tv9 _ hb10
      refine k_oS hb10 ?_
      refine k_n 4 (pc' := 22) (L' := [some (.ref 0), some (.int x1), some (.ref b5), some (.ref b11)]) (S' := [.ref b11]) (h' := h) rfl ?_
      refine k_gI rfl rfl t12 ?_
      refine k_n 1 (pc' := 26) (L' := [some (.ref 0), some (.int x1), some (.ref b5), some (.ref b11)]) (S' := [.int (1 : Int32), .int (z_iv h b11 0)]) (h' := h) rfl ?_
      refine k_b (g := (z_iv h b11 0) = (1 : Int32)) (pc' := 29) (L' := [some (.ref 0), some (.int x1), some (.ref b5), some (.ref b11)]) (S' := []) (pc2 := 50) (L2 := [some (.ref 0), some (.int x1), some (.ref b5), some (.ref b11)]) (S2 := []) (h' := h) (h2 := h) rfl rfl (fun hc => ?_) (fun hc => ?_)
      · have hc := hc
        rw [if_pos hc] at H
        refine k_n 3 (pc' := 32) (L' := [some (.ref 0), some (.int x1), some (.ref b5), some (.ref b11)]) (S' := [.ref b5, .int x1, .ref 0]) (h' := h) rfl ?_
        refine k_cI 158 3 rfl rfl rfl (A := [.ref 0, .int x1, .ref b5]) rfl rfl (z_rok_ref W.t0) (rest := []) rfl (z_tyI rfl rfl) ?_
        obtain ⟨v13, k14, H⟩ := H
        refine k_P k14 ?_
        refine k_n 1 (pc' := 36) (L' := [some (.ref 0), some (.int x1), some (.ref b5), some (.ref b11)]) (S' := [.ref 0, .int v13]) (h' := h) rfl ?_
        obtain hb15 | ⟨b16, hb15⟩ := z_opt (z_rv h 0 9)
        · have H := H.1 hb15
          refine k_gN rfl W.t0 hb15 ?_
          refine k_n 2 (pc' := 41) (L' := [some (.ref 0), some (.int x1), some (.ref b5), some (.ref b11)]) (S' := [.ref 0, .int x1, .null, .int v13]) (h' := h) rfl ?_
          refine k_gI rfl rfl W.t0 ?_
          exact H.elim
        · have H := H.2 b16 hb15
          have t17 : z_tg h b16 = 1 := (CW.tyOf (t := 11) (t' := 1) W W.t0 hb15 (by decide) rfl)
          refine k_gS rfl W.t0 hb15 ?_
          refine k_n 2 (pc' := 41) (L' := [some (.ref 0), some (.int x1), some (.ref b5), some (.ref b11)]) (S' := [.ref 0, .int x1, .ref b16, .int v13]) (h' := h) rfl ?_
          refine k_gI rfl rfl W.t0 ?_
          refine k_cI 24 3 rfl rfl rfl (A := [.ref b16, .int x1, .int (z_iv h 0 11)]) rfl rfl (z_rok_ref t17) (rest := [.int v13]) rfl (z_tyI rfl rfl) ?_
          obtain ⟨v18, k19, H⟩ := H
          refine k_P k19 ?_
          refine k_b (g := v18 ≤ v13) (pc' := 53) (L' := [some (.ref 0), some (.int x1), some (.ref b5), some (.ref b11)]) (S' := []) (pc2 := 50) (L2 := [some (.ref 0), some (.int x1), some (.ref b5), some (.ref b11)]) (S2 := []) (h' := h) (h2 := h) rfl rfl (fun hc => ?_) (fun hc => ?_)
          · have hc := hc
            rw [if_pos hc] at H
            refine k_n 2 (pc' := 55) (L' := [some (.ref 0), some (.int x1), some (.ref b5), some (.ref b11)]) (S' := [.int (1 : Int32), .ref b11]) (h' := h) rfl ?_
            refine k_pZ rfl t12 (by decide) ?_
            refine k_n 1 (pc' := 59) (L' := [some (.ref 0), some (.int x1), some (.ref b5), some (.ref b11)]) (S' := [.ref b11]) (h' := (z_sI h b11 10 (1 : Int32))) rfl ?_
            refine k_gV rfl rfl (z_tgI t12) (v_nj (by decide) rfl) ?_
            exact k_r rfl rfl rfl H
          · have hc := hc
            rw [if_neg hc] at H
            refine k_n 1 (pc' := 52) (L' := [some (.ref 0), some (.int x1), some (.ref b5), some (.ref b11)]) (S' := [.int (-2 : Int32)]) (h' := h) rfl ?_
            exact k_r rfl rfl rfl H
      · have hc := hc
        rw [if_neg hc] at H
        refine k_n 1 (pc' := 52) (L' := [some (.ref 0), some (.int x1), some (.ref b5), some (.ref b11)]) (S' := [.int (-2 : Int32)]) (h' := h) rfl ?_
        exact k_r rfl rfl rfl H
set_option maxRecDepth 20000 in
theorem X_121 (x1 : Int32) (h : zH) (W : CW h)  {Q : Int32 → zH → Prop} (H : ∃ v1 : Option Nat, KV z_pA 149 [.ref 0, .int x1] h v1 ∧ (∀ b_, v1 = some b_ → z_tg h b_ = 3) ∧ ((v1 = none → Q (-1 : Int32) h) ∧ (∀ b5, v1 = some b5 → ∃ v7 : Option Nat, KV z_pA 148 [.ref 0, .int (z_iv h b5 5)] h v7 ∧ (∀ b_, v7 = some b_ → z_tg h b_ = 4) ∧ ((v7 = none → Q (-2 : Int32) h) ∧ (∀ b11, v7 = some b11 → if (z_iv h b5 10) = 0 then (Q (-2 : Int32) h) else ((z_rv h b11 10 = none → Q (-2 : Int32) h) ∧ (∀ b14, z_rv h b11 10 = some b14 → if b14 = b5 then (∃ v16 : Int32, KV z_pI 157 [.ref 0, .int (z_iv h b5 5), .ref b11] h v16 ∧ (if v16 ≤ 0 then (Q (1 : Int32) (z_sI h b5 10 (0 : Int32))) else (Q (-2 : Int32) h))) else (Q (-2 : Int32) h)))))))) : KK z_pI 121 [.ref 0, .int x1] h Q := by
  refine k_K (L := [some (.ref 0), some (.int x1), none, none]) rfl ?_
  refine k_n 2 (pc' := 2) (L' := [some (.ref 0), some (.int x1), none, none]) (S' := [.int x1, .ref 0]) (h' := h) rfl ?_
  refine k_cA 149 2 "SavedThird$Engine" rfl rfl rfl (A := [.ref 0, .int x1]) rfl rfl (z_rok_ref W.t0) (rest := []) rfl rfl (by decide) ?_
  obtain ⟨v1, k2, tv3, H⟩ := H
  refine k_P k2 ?_
  obtain hb4 | ⟨b5, hb4⟩ := z_opt (v1)
  · have H := H.1 hb4
    refine k_oN hb4 ?_
    refine k_n 4 (pc' := 11) (L' := [some (.ref 0), some (.int x1), some (.null), none]) (S' := [.int (-1 : Int32)]) (h' := h) rfl ?_
    exact k_r rfl rfl rfl H
  · have H := H.2 b5 hb4
    have t6 : z_tg h b5 = 3 := tv3 _ hb4
    refine k_oS hb4 ?_
    refine k_n 5 (pc' := 14) (L' := [some (.ref 0), some (.int x1), some (.ref b5), none]) (S' := [.ref b5, .ref 0]) (h' := h) rfl ?_
    refine k_gI rfl rfl t6 ?_
    refine k_cA 148 2 "SavedThird$Mine" rfl rfl rfl (A := [.ref 0, .int (z_iv h b5 5)]) rfl rfl (z_rok_ref W.t0) (rest := []) rfl rfl (by decide) ?_
    obtain ⟨v7, k8, tv9, H⟩ := H
    refine k_P k8 ?_
    obtain hb10 | ⟨b11, hb10⟩ := z_opt (v7)
    · have H := H.1 hb10
      refine k_oN hb10 ?_
      refine k_n 4 (pc' := 54) (L' := [some (.ref 0), some (.int x1), some (.ref b5), some (.null)]) (S' := [.int (-2 : Int32)]) (h' := h) rfl ?_
      exact k_r rfl rfl rfl H
    · have H := H.2 b11 hb10
      have t12 : z_tg h b11 = 4 := tv9 _ hb10
      refine k_oS hb10 ?_
      refine k_n 4 (pc' := 26) (L' := [some (.ref 0), some (.int x1), some (.ref b5), some (.ref b11)]) (S' := [.ref b5]) (h' := h) rfl ?_
      refine k_gI rfl rfl t6 ?_
      refine k_b (g := (z_iv h b5 10) = 0) (pc' := 52) (L' := [some (.ref 0), some (.int x1), some (.ref b5), some (.ref b11)]) (S' := []) (pc2 := 32) (L2 := [some (.ref 0), some (.int x1), some (.ref b5), some (.ref b11)]) (S2 := []) (h' := h) (h2 := h) rfl rfl (fun hc => ?_) (fun hc => ?_)
      · have hc := hc
        rw [if_pos hc] at H
        refine k_n 1 (pc' := 54) (L' := [some (.ref 0), some (.int x1), some (.ref b5), some (.ref b11)]) (S' := [.int (-2 : Int32)]) (h' := h) rfl ?_
        exact k_r rfl rfl rfl H
      · have hc := hc
        rw [if_neg hc] at H
        refine k_n 1 (pc' := 33) (L' := [some (.ref 0), some (.int x1), some (.ref b5), some (.ref b11)]) (S' := [.ref b11]) (h' := h) rfl ?_
        obtain hb13 | ⟨b14, hb13⟩ := z_opt (z_rv h b11 10)
        · have H := H.1 hb13
          refine k_gN rfl t12 hb13 ?_
          refine k_n 3 (pc' := 54) (L' := [some (.ref 0), some (.int x1), some (.ref b5), some (.ref b11)]) (S' := [.int (-2 : Int32)]) (h' := h) rfl ?_
          exact k_r rfl rfl rfl H
        · have H := H.2 b14 hb13
          have t15 : z_tg h b14 = 3 := (CW.tyOf (t := 4) (t' := 3) W t12 hb13 (by decide) rfl)
          refine k_gS rfl t12 hb13 ?_
          refine k_n 1 (pc' := 37) (L' := [some (.ref 0), some (.int x1), some (.ref b5), some (.ref b11)]) (S' := [.ref b5, .ref b14]) (h' := h) rfl ?_
          refine k_b (g := b14 = b5) (pc' := 40) (L' := [some (.ref 0), some (.int x1), some (.ref b5), some (.ref b11)]) (S' := []) (pc2 := 52) (L2 := [some (.ref 0), some (.int x1), some (.ref b5), some (.ref b11)]) (S2 := []) (h' := h) (h2 := h) rfl rfl (fun hc => ?_) (fun hc => ?_)
          · rw [if_pos hc] at H
            refine k_n 2 (pc' := 42) (L' := [some (.ref 0), some (.int x1), some (.ref b5), some (.ref b11)]) (S' := [.ref b5, .ref 0]) (h' := h) rfl ?_
            refine k_gI rfl rfl t6 ?_
            refine k_n 1 (pc' := 46) (L' := [some (.ref 0), some (.int x1), some (.ref b5), some (.ref b11)]) (S' := [.ref b11, .int (z_iv h b5 5), .ref 0]) (h' := h) rfl ?_
            refine k_cI 157 3 rfl rfl rfl (A := [.ref 0, .int (z_iv h b5 5), .ref b11]) rfl rfl (z_rok_ref W.t0) (rest := []) rfl (z_tyI rfl rfl) ?_
            obtain ⟨v16, k17, H⟩ := H
            refine k_P k17 ?_
            refine k_b (g := v16 ≤ 0) (pc' := 55) (L' := [some (.ref 0), some (.int x1), some (.ref b5), some (.ref b11)]) (S' := []) (pc2 := 52) (L2 := [some (.ref 0), some (.int x1), some (.ref b5), some (.ref b11)]) (S2 := []) (h' := h) (h2 := h) rfl rfl (fun hc => ?_) (fun hc => ?_)
            · have hc := hc
              rw [if_pos hc] at H
              refine k_n 2 (pc' := 57) (L' := [some (.ref 0), some (.int x1), some (.ref b5), some (.ref b11)]) (S' := [.int (0 : Int32), .ref b5]) (h' := h) rfl ?_
              refine k_pZ rfl t6 (by decide) ?_
              refine k_n 1 (pc' := 61) (L' := [some (.ref 0), some (.int x1), some (.ref b5), some (.ref b11)]) (S' := [.int (1 : Int32)]) (h' := (z_sI h b5 10 (0 : Int32))) rfl ?_
              exact k_r rfl rfl rfl H
            · have hc := hc
              rw [if_neg hc] at H
              refine k_n 1 (pc' := 54) (L' := [some (.ref 0), some (.int x1), some (.ref b5), some (.ref b11)]) (S' := [.int (-2 : Int32)]) (h' := h) rfl ?_
              exact k_r rfl rfl rfl H
          · rw [if_neg hc] at H
            refine k_n 1 (pc' := 54) (L' := [some (.ref 0), some (.int x1), some (.ref b5), some (.ref b11)]) (S' := [.int (-2 : Int32)]) (h' := h) rfl ?_
            exact k_r rfl rfl rfl H
set_option maxRecDepth 20000 in
theorem X_122 (x1 : Int32) (x2 : Int32) (x3 : Int32) (h : zH) (W : CW h)  {Q : Int32 → zH → Prop} (H : ∃ v1 : Option Nat, KV z_pA 149 [.ref 0, .int x1] h v1 ∧ (∀ b_, v1 = some b_ → z_tg h b_ = 3) ∧ ((v1 = none → Q (-1 : Int32) h) ∧ (∀ b5, v1 = some b5 → if (0 : Int32) ≤ x2 ∧ x2 ≤ (60 : Int32) then (if (0 : Int32) ≤ x3 ∧ x3 ≤ (1 : Int32) then ((z_rv h 0 9 = none → False) ∧ (∀ b8, z_rv h 0 9 = some b8 → ∃ v10 : Int32, KV z_pI 28 [.ref b8, .int x2] h v10 ∧ (if x3 = 0 then (Q ((z_iv h b5 4) &&& v10) h) else (∃ v12 : Int32, KV z_pI 27 [.ref b8, .int x2] h v12 ∧ (∃ v14 : Int32, KV z_pI 42 [.ref b5, .int v10, .int v12] h v14 ∧ Q (z_bt (¬ (v14 = 0))) h))))) else (Q (-1 : Int32) h)) else (Q (-1 : Int32) h)))) : KK z_pI 122 [.ref 0, .int x1, .int x2, .int x3] h Q := by
  refine k_K (L := [some (.ref 0), some (.int x1), some (.int x2), some (.int x3), none, none]) rfl ?_
  refine k_n 2 (pc' := 2) (L' := [some (.ref 0), some (.int x1), some (.int x2), some (.int x3), none, none]) (S' := [.int x1, .ref 0]) (h' := h) rfl ?_
  refine k_cA 149 2 "SavedThird$Engine" rfl rfl rfl (A := [.ref 0, .int x1]) rfl rfl (z_rok_ref W.t0) (rest := []) rfl rfl (by decide) ?_
  obtain ⟨v1, k2, tv3, H⟩ := H
  refine k_P k2 ?_
  obtain hb4 | ⟨b5, hb4⟩ := z_opt (v1)
  · have H := H.1 hb4
    refine k_oN hb4 ?_
    refine k_n 4 (pc' := 32) (L' := [some (.ref 0), some (.int x1), some (.int x2), some (.int x3), some (.null), none]) (S' := [.int (-1 : Int32)]) (h' := h) rfl ?_
    exact k_r rfl rfl rfl H
  · have H := H.2 b5 hb4
    have t6 : z_tg h b5 = 3 := tv3 _ hb4
    refine k_oS hb4 ?_
    refine k_n 6 (pc' := 16) (L' := [some (.ref 0), some (.int x1), some (.int x2), some (.int x3), some (.ref b5), none]) (S' := [.int (60 : Int32), .int (0 : Int32), .int x2]) (h' := h) rfl ?_
    refine k_cI 135 3 rfl rfl rfl (A := [.int x2, .int (0 : Int32), .int (60 : Int32)]) rfl rfl rfl (rest := []) rfl (z_tyI rfl rfl) ?_
    refine c_within x2 (0 : Int32) (60 : Int32) h ?_
    refine k_b (g := z_bt ((0 : Int32) ≤ x2 ∧ x2 ≤ (60 : Int32)) = 0) (pc' := 31) (L' := [some (.ref 0), some (.int x1), some (.int x2), some (.int x3), some (.ref b5), none]) (S' := []) (pc2 := 22) (L2 := [some (.ref 0), some (.int x1), some (.int x2), some (.int x3), some (.ref b5), none]) (S2 := []) (h' := h) (h2 := h) rfl rfl (fun hc => ?_) (fun hc => ?_)
    · have hc := z_bt_0.mp hc
      rw [if_neg hc] at H
      refine k_n 1 (pc' := 32) (L' := [some (.ref 0), some (.int x1), some (.int x2), some (.int x3), some (.ref b5), none]) (S' := [.int (-1 : Int32)]) (h' := h) rfl ?_
      exact k_r rfl rfl rfl H
    · have hc := Decidable.not_not.mp (fun q => hc (z_bt_0.mpr q))
      rw [if_pos hc] at H
      refine k_n 3 (pc' := 25) (L' := [some (.ref 0), some (.int x1), some (.int x2), some (.int x3), some (.ref b5), none]) (S' := [.int (1 : Int32), .int (0 : Int32), .int x3]) (h' := h) rfl ?_
      refine k_cI 135 3 rfl rfl rfl (A := [.int x3, .int (0 : Int32), .int (1 : Int32)]) rfl rfl rfl (rest := []) rfl (z_tyI rfl rfl) ?_
      refine c_within x3 (0 : Int32) (1 : Int32) h ?_
      refine k_b (g := z_bt ((0 : Int32) ≤ x3 ∧ x3 ≤ (1 : Int32)) = 0) (pc' := 31) (L' := [some (.ref 0), some (.int x1), some (.int x2), some (.int x3), some (.ref b5), none]) (S' := []) (pc2 := 33) (L2 := [some (.ref 0), some (.int x1), some (.int x2), some (.int x3), some (.ref b5), none]) (S2 := []) (h' := h) (h2 := h) rfl rfl (fun hc => ?_) (fun hc => ?_)
      · have hc := z_bt_0.mp hc
        rw [if_neg hc] at H
        refine k_n 1 (pc' := 32) (L' := [some (.ref 0), some (.int x1), some (.int x2), some (.int x3), some (.ref b5), none]) (S' := [.int (-1 : Int32)]) (h' := h) rfl ?_
        exact k_r rfl rfl rfl H
      · have hc := Decidable.not_not.mp (fun q => hc (z_bt_0.mpr q))
        rw [if_pos hc] at H
        refine k_n 1 (pc' := 34) (L' := [some (.ref 0), some (.int x1), some (.int x2), some (.int x3), some (.ref b5), none]) (S' := [.ref 0]) (h' := h) rfl ?_
        obtain hb7 | ⟨b8, hb7⟩ := z_opt (z_rv h 0 9)
        · have H := H.1 hb7
          refine k_gN rfl W.t0 hb7 ?_
          refine k_n 1 (pc' := 38) (L' := [some (.ref 0), some (.int x1), some (.int x2), some (.int x3), some (.ref b5), none]) (S' := [.int x2, .null]) (h' := h) rfl ?_
          exact H.elim
        · have H := H.2 b8 hb7
          have t9 : z_tg h b8 = 1 := (CW.tyOf (t := 11) (t' := 1) W W.t0 hb7 (by decide) rfl)
          refine k_gS rfl W.t0 hb7 ?_
          refine k_n 1 (pc' := 38) (L' := [some (.ref 0), some (.int x1), some (.int x2), some (.int x3), some (.ref b5), none]) (S' := [.int x2, .ref b8]) (h' := h) rfl ?_
          refine k_cI 28 2 rfl rfl rfl (A := [.ref b8, .int x2]) rfl rfl (z_rok_ref t9) (rest := []) rfl (z_tyI rfl rfl) ?_
          obtain ⟨v10, k11, H⟩ := H
          refine k_P k11 ?_
          refine k_n 2 (pc' := 44) (L' := [some (.ref 0), some (.int x1), some (.int x2), some (.int x3), some (.ref b5), some (.int v10)]) (S' := [.int x3]) (h' := h) rfl ?_
          refine k_b (g := x3 = 0) (pc' := 47) (L' := [some (.ref 0), some (.int x1), some (.int x2), some (.int x3), some (.ref b5), some (.int v10)]) (S' := []) (pc2 := 56) (L2 := [some (.ref 0), some (.int x1), some (.int x2), some (.int x3), some (.ref b5), some (.int v10)]) (S2 := []) (h' := h) (h2 := h) rfl rfl (fun hc => ?_) (fun hc => ?_)
          · have hc := hc
            rw [if_pos hc] at H
            refine k_n 1 (pc' := 49) (L' := [some (.ref 0), some (.int x1), some (.int x2), some (.int x3), some (.ref b5), some (.int v10)]) (S' := [.ref b5]) (h' := h) rfl ?_
            refine k_gI rfl rfl t6 ?_
            refine k_n 2 (pc' := 55) (L' := [some (.ref 0), some (.int x1), some (.int x2), some (.int x3), some (.ref b5), some (.int v10)]) (S' := [.int ((z_iv h b5 4) &&& v10)]) (h' := h) rfl ?_
            exact k_r rfl rfl rfl H
          · have hc := hc
            rw [if_neg hc] at H
            refine k_n 3 (pc' := 61) (L' := [some (.ref 0), some (.int x1), some (.int x2), some (.int x3), some (.ref b5), some (.int v10)]) (S' := [.ref 0, .int v10, .ref b5]) (h' := h) rfl ?_
            refine k_gS rfl W.t0 hb7 ?_
            refine k_n 1 (pc' := 65) (L' := [some (.ref 0), some (.int x1), some (.int x2), some (.int x3), some (.ref b5), some (.int v10)]) (S' := [.int x2, .ref b8, .int v10, .ref b5]) (h' := h) rfl ?_
            refine k_cI 27 2 rfl rfl rfl (A := [.ref b8, .int x2]) rfl rfl (z_rok_ref t9) (rest := [.int v10, .ref b5]) rfl (z_tyI rfl rfl) ?_
            obtain ⟨v12, k13, H⟩ := H
            refine k_P k13 ?_
            refine k_cI 42 3 rfl rfl rfl (A := [.ref b5, .int v10, .int v12]) rfl rfl (z_rok_ref t6) (rest := []) rfl (z_tyI rfl rfl) ?_
            obtain ⟨v14, k15, H⟩ := H
            refine k_P k15 ?_
            refine k_cI 145 1 rfl rfl rfl (A := [.int v14]) rfl rfl rfl (rest := []) rfl (z_tyI rfl rfl) ?_
            refine C_145 v14 h    ?_
            exact k_r rfl rfl rfl H
set_option maxRecDepth 20000 in
theorem X_124 (x1 : Int32) (x2 : Int32) (x3 : Int32) (h : zH) (W : CW h)  {Q : Int32 → zH → Prop} (H : ∃ v1 : Option Nat, KV z_pA 148 [.ref 0, .int x1] h v1 ∧ (∀ b_, v1 = some b_ → z_tg h b_ = 4) ∧ ((v1 = none → Q (-1 : Int32) h) ∧ (∀ b5, v1 = some b5 → if (0 : Int32) ≤ x2 ∧ x2 ≤ (999999 : Int32) then (if (0 : Int32) ≤ x3 ∧ x3 ≤ (7 : Int32) then (∃ v7 : Int32, KV z_pI 50 [.ref b5] h v7 ∧ (if v7 = 0 then (Q (-4 : Int32) h) else (∃ v9 : Int32, KV z_pI 51 [.ref b5, .int x3, .int x2, .int v7] h v9 ∧ Q v9 h))) else (Q (-1 : Int32) h)) else (Q (-1 : Int32) h)))) : KK z_pI 124 [.ref 0, .int x1, .int x2, .int x3] h Q := by
  refine k_K (L := [some (.ref 0), some (.int x1), some (.int x2), some (.int x3), none, none]) rfl ?_
  refine k_n 2 (pc' := 2) (L' := [some (.ref 0), some (.int x1), some (.int x2), some (.int x3), none, none]) (S' := [.int x1, .ref 0]) (h' := h) rfl ?_
  refine k_cA 148 2 "SavedThird$Mine" rfl rfl rfl (A := [.ref 0, .int x1]) rfl rfl (z_rok_ref W.t0) (rest := []) rfl rfl (by decide) ?_
  obtain ⟨v1, k2, tv3, H⟩ := H
  refine k_P k2 ?_
  obtain hb4 | ⟨b5, hb4⟩ := z_opt (v1)
  · have H := H.1 hb4
    refine k_oN hb4 ?_
    refine k_n 4 (pc' := 31) (L' := [some (.ref 0), some (.int x1), some (.int x2), some (.int x3), some (.null), none]) (S' := [.int (-1 : Int32)]) (h' := h) rfl ?_
    exact k_r rfl rfl rfl H
  · have H := H.2 b5 hb4
    have t6 : z_tg h b5 = 4 := tv3 _ hb4
    refine k_oS hb4 ?_
    refine k_n 6 (pc' := 17) (L' := [some (.ref 0), some (.int x1), some (.int x2), some (.int x3), some (.ref b5), none]) (S' := [.int (999999 : Int32), .int (0 : Int32), .int x2]) (h' := h) rfl ?_
    refine k_cI 135 3 rfl rfl rfl (A := [.int x2, .int (0 : Int32), .int (999999 : Int32)]) rfl rfl rfl (rest := []) rfl (z_tyI rfl rfl) ?_
    refine c_within x2 (0 : Int32) (999999 : Int32) h ?_
    refine k_b (g := z_bt ((0 : Int32) ≤ x2 ∧ x2 ≤ (999999 : Int32)) = 0) (pc' := 30) (L' := [some (.ref 0), some (.int x1), some (.int x2), some (.int x3), some (.ref b5), none]) (S' := []) (pc2 := 23) (L2 := [some (.ref 0), some (.int x1), some (.int x2), some (.int x3), some (.ref b5), none]) (S2 := []) (h' := h) (h2 := h) rfl rfl (fun hc => ?_) (fun hc => ?_)
    · have hc := z_bt_0.mp hc
      rw [if_neg hc] at H
      refine k_n 1 (pc' := 31) (L' := [some (.ref 0), some (.int x1), some (.int x2), some (.int x3), some (.ref b5), none]) (S' := [.int (-1 : Int32)]) (h' := h) rfl ?_
      exact k_r rfl rfl rfl H
    · have hc := Decidable.not_not.mp (fun q => hc (z_bt_0.mpr q))
      rw [if_pos hc] at H
      refine k_n 1 (pc' := 24) (L' := [some (.ref 0), some (.int x1), some (.int x2), some (.int x3), some (.ref b5), none]) (S' := [.int x3]) (h' := h) rfl ?_
      refine k_cI 141 1 rfl rfl rfl (A := [.int x3]) rfl rfl rfl (rest := []) rfl (z_tyI rfl rfl) ?_
      refine C_141 x3 h    ?_
      refine k_b (g := z_bt ((0 : Int32) ≤ x3 ∧ x3 ≤ (7 : Int32)) = 0) (pc' := 30) (L' := [some (.ref 0), some (.int x1), some (.int x2), some (.int x3), some (.ref b5), none]) (S' := []) (pc2 := 32) (L2 := [some (.ref 0), some (.int x1), some (.int x2), some (.int x3), some (.ref b5), none]) (S2 := []) (h' := h) (h2 := h) rfl rfl (fun hc => ?_) (fun hc => ?_)
      · have hc := z_bt_0.mp hc
        rw [if_neg hc] at H
        refine k_n 1 (pc' := 31) (L' := [some (.ref 0), some (.int x1), some (.int x2), some (.int x3), some (.ref b5), none]) (S' := [.int (-1 : Int32)]) (h' := h) rfl ?_
        exact k_r rfl rfl rfl H
      · have hc := Decidable.not_not.mp (fun q => hc (z_bt_0.mpr q))
        rw [if_pos hc] at H
        refine k_n 1 (pc' := 34) (L' := [some (.ref 0), some (.int x1), some (.int x2), some (.int x3), some (.ref b5), none]) (S' := [.ref b5]) (h' := h) rfl ?_
        refine k_cI 50 1 rfl rfl rfl (A := [.ref b5]) rfl rfl (z_rok_ref t6) (rest := []) rfl (z_tyI rfl rfl) ?_
        obtain ⟨v7, k8, H⟩ := H
        refine k_P k8 ?_
        refine k_n 2 (pc' := 41) (L' := [some (.ref 0), some (.int x1), some (.int x2), some (.int x3), some (.ref b5), some (.int v7)]) (S' := [.int v7]) (h' := h) rfl ?_
        refine k_b (g := v7 = 0) (pc' := 44) (L' := [some (.ref 0), some (.int x1), some (.int x2), some (.int x3), some (.ref b5), some (.int v7)]) (S' := []) (pc2 := 47) (L2 := [some (.ref 0), some (.int x1), some (.int x2), some (.int x3), some (.ref b5), some (.int v7)]) (S2 := []) (h' := h) (h2 := h) rfl rfl (fun hc => ?_) (fun hc => ?_)
        · have hc := hc
          rw [if_pos hc] at H
          refine k_n 1 (pc' := 46) (L' := [some (.ref 0), some (.int x1), some (.int x2), some (.int x3), some (.ref b5), some (.int v7)]) (S' := [.int (-4 : Int32)]) (h' := h) rfl ?_
          exact k_r rfl rfl rfl H
        · have hc := hc
          rw [if_neg hc] at H
          refine k_n 4 (pc' := 53) (L' := [some (.ref 0), some (.int x1), some (.int x2), some (.int x3), some (.ref b5), some (.int v7)]) (S' := [.int v7, .int x2, .int x3, .ref b5]) (h' := h) rfl ?_
          refine k_cI 51 4 rfl rfl rfl (A := [.ref b5, .int x3, .int x2, .int v7]) rfl rfl (z_rok_ref t6) (rest := []) rfl (z_tyI rfl rfl) ?_
          obtain ⟨v9, k10, H⟩ := H
          refine k_P k10 ?_
          exact k_r rfl rfl rfl H
set_option maxRecDepth 20000 in
theorem X_110 (x1 : Int64) (h : zH) (W : CW h)  {Q : Int32 → zH → Prop} (H : KK z_pI 92 [.ref 6, .long x1] h (fun r3 h1 => Sh h h1 ∧ (∀ m5 : Int32, m5 = (if r3 = 0 then (-3 : Int32) else (z_iv h1 6 1)) → Q m5 h1))) : KK z_pI 110 [.ref 0, .long x1] h Q := by
  refine k_K (L := [some (.ref 0), some (.long x1), none]) rfl ?_
  refine k_n 1 (pc' := 1) (L' := [some (.ref 0), some (.long x1), none]) (S' := [.ref 0]) (h' := h) rfl ?_
  refine k_gS (b := 6) rfl W.t0 (W.abOf (t := 11) (j := 5) (o := 6) (n := 0) (by decide) W.t0).1 ?_
  refine k_n 1 (pc' := 5) (L' := [some (.ref 0), some (.long x1), none]) (S' := [.long x1, .ref 6]) (h' := h) rfl ?_
  refine k_cI 92 2 rfl rfl rfl (A := [.ref 6, .long x1]) rfl rfl (z_rok_ref (CW.tyOf (t := 11) (t' := 9) W (j := 5) W.t0 (W.abOf (t := 11) (j := 5) (o := 6) (n := 0) (by decide) W.t0).1 (by decide) rfl)) (rest := []) rfl (z_tyI rfl rfl) ?_
  refine H.mono (fun r3 h1 H => ?_)
  obtain ⟨E2, H⟩ := H
  obtain ⟨m5, em5⟩ : ∃ m : Int32, m = (if r3 = 0 then (-3 : Int32) else (z_iv h1 6 1)) := ⟨_, rfl⟩
  have H := H m5 em5
  have hj6 : KG z_pI 110 23 [some (.ref 0), some (.long x1), none] [.int m5] h1 Q := by
    exact k_r rfl rfl rfl H
  refine k_b (g := r3 = 0) (pc' := 21) (L' := [some (.ref 0), some (.long x1), none]) (S' := []) (pc2 := 11) (L2 := [some (.ref 0), some (.long x1), none]) (S2 := []) (h' := h1) (h2 := h1) rfl rfl (fun hc => ?_) (fun hc => ?_)
  · have c4 := hc
    refine k_n 1 (pc' := 23) (L' := [some (.ref 0), some (.long x1), none]) (S' := [.int (-3 : Int32)]) (h' := h1) rfl ?_
    rw [(em5.trans (by rw [if_pos c4]) : m5 = (-3 : Int32))] at hj6
    exact hj6
  · have c4 := hc
    refine k_n 1 (pc' := 12) (L' := [some (.ref 0), some (.long x1), none]) (S' := [.ref 0]) (h' := h1) rfl ?_
    refine k_gS (b := 6) rfl (Sh.tg E2 W.t0) ((Sh.cw E2 W).abOf (t := 11) (j := 5) (o := 6) (n := 0) (by decide) (Sh.tg E2 W.t0)).1 ?_
    refine k_gI rfl rfl (CW.tyOf (t := 11) (t' := 9) (Sh.cw E2 W) (j := 5) (Sh.tg E2 W.t0) ((Sh.cw E2 W).abOf (t := 11) (j := 5) (o := 6) (n := 0) (by decide) (Sh.tg E2 W.t0)).1 (by decide) rfl) ?_
    refine k_n 1 (pc' := 23) (L' := [some (.ref 0), some (.long x1), none]) (S' := [.int (z_iv h1 6 1)]) (h' := h1) rfl ?_
    rw [(em5.trans (by rw [if_neg c4]) : m5 = (z_iv h1 6 1))] at hj6
    exact hj6
