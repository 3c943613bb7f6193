set_option maxRecDepth 20000 in
theorem X_61 (a0 : Nat) (x1 : Int32) (h : zH) (W : CW h) (T0 : z_tg h a0 = 6) {Q : Unit → zH → Prop} (H : KG z_pV 61 11 [some (.ref a0), some (.int x1), some (.int (1 : Int32)), some (.int (0 : Int32))] [] (z_sI h (a0 + 2) (z_ix (0 : Int32)) x1) Q) : KK z_pV 61 [.ref a0, .int x1] h Q := by
  refine k_K (L := [some (.ref a0), some (.int x1), none, none]) rfl ?_
  refine k_n 1 (pc' := 1) (L' := [some (.ref a0), some (.int x1), none, none]) (S' := [.ref a0]) (h' := h) rfl ?_
  refine k_gS (b := (a0 + 2)) rfl T0 (W.reOf (t := 6) (j := 3) (o := 2) (n := 6) (by decide) T0).1 ?_
  refine k_n 2 (pc' := 6) (L' := [some (.ref a0), some (.int x1), none, none]) (S' := [.int x1, .int (0 : Int32), .ref (a0 + 2)]) (h' := h) rfl ?_
  refine k_is (n := 6) rfl (CW.tyOf (t := 6) (t' := 100) W (j := 3) T0 (W.reOf (t := 6) (j := 3) (o := 2) (n := 6) (by decide) T0).1 (by decide) rfl) (W.reOf (t := 6) (j := 3) (o := 2) (n := 6) (by decide) T0).2 (by decide) ?_
  refine k_n 4 (pc' := 11) (L' := [some (.ref a0), some (.int x1), some (.int (1 : Int32)), some (.int (0 : Int32))]) (S' := []) (h' := (z_sI h (a0 + 2) (z_ix (0 : Int32)) x1)) rfl ?_
  exact H
set_option maxRecDepth 20000 in
theorem X_61_11 (a0 : Nat) (y1 : Int32) (y2 : Int32) (y3 : Int32) (h : zH) (W : CW h) (Ta0 : z_tg h a0 = 6) {Q : Unit → zH → Prop} (H : if (z_iv h a0 6) ≤ y3 then (Q () h) else (if (6 : Int32) ≤ y2 then (Q () h) else (if y3 = y1 then (KG z_pV 61 11 [some (.ref a0), some (.int y1), some (.int y2), some (.int (y3 + (1 : Int32)))] [] h Q) else ((0 ≤ y2.toInt ∧ y2.toInt < 6) ∧ KG z_pV 61 11 [some (.ref a0), some (.int y1), some (.int (y2 + (1 : Int32))), some (.int (y3 + (1 : Int32)))] [] (z_sI h (a0 + 2) (z_ix y2) y3) Q)))) : KG z_pV 61 11 [some (.ref a0), some (.int y1), some (.int y2), some (.int y3)] [] h Q := by
  refine k_n 2 (pc' := 13) (L' := [some (.ref a0), some (.int y1), some (.int y2), some (.int y3)]) (S' := [.ref a0, .int y3]) (h' := h) rfl ?_
  refine k_gI rfl rfl Ta0 ?_
  refine k_b (g := (z_iv h a0 6) ≤ y3) (pc' := 46) (L' := [some (.ref a0), some (.int y1), some (.int y2), some (.int y3)]) (S' := []) (pc2 := 19) (L2 := [some (.ref a0), some (.int y1), some (.int y2), some (.int y3)]) (S2 := []) (h' := h) (h2 := h) rfl rfl (fun hc => ?_) (fun hc => ?_)
  · have hc := hc
    rw [if_pos hc] at H
    exact k_r rfl rfl rfl H
  · have hc := hc
    rw [if_neg hc] at H
    refine k_n 2 (pc' := 22) (L' := [some (.ref a0), some (.int y1), some (.int y2), some (.int y3)]) (S' := [.int (6 : Int32), .int y2]) (h' := h) rfl ?_
    refine k_b (g := (6 : Int32) ≤ y2) (pc' := 46) (L' := [some (.ref a0), some (.int y1), some (.int y2), some (.int y3)]) (S' := []) (pc2 := 25) (L2 := [some (.ref a0), some (.int y1), some (.int y2), some (.int y3)]) (S2 := []) (h' := h) (h2 := h) rfl rfl (fun hc => ?_) (fun hc => ?_)
    · have hc := hc
      rw [if_pos hc] at H
      exact k_r rfl rfl rfl H
    · have hc := hc
      rw [if_neg hc] at H
      refine k_n 2 (pc' := 27) (L' := [some (.ref a0), some (.int y1), some (.int y2), some (.int y3)]) (S' := [.int y1, .int y3]) (h' := h) rfl ?_
      refine k_b (g := y3 = y1) (pc' := 40) (L' := [some (.ref a0), some (.int y1), some (.int y2), some (.int y3)]) (S' := []) (pc2 := 30) (L2 := [some (.ref a0), some (.int y1), some (.int y2), some (.int y3)]) (S2 := []) (h' := h) (h2 := h) rfl rfl (fun hc => ?_) (fun hc => ?_)
      · have hc := hc
        rw [if_pos hc] at H
        refine k_n 2 (pc' := 11) (L' := [some (.ref a0), some (.int y1), some (.int y2), some (.int (y3 + (1 : Int32)))]) (S' := []) (h' := h) rfl ?_
        exact H
      · have hc := hc
        rw [if_neg hc] at H
        refine k_n 1 (pc' := 31) (L' := [some (.ref a0), some (.int y1), some (.int y2), some (.int y3)]) (S' := [.ref a0]) (h' := h) rfl ?_
        refine k_gS (b := (a0 + 2)) rfl Ta0 (W.reOf (t := 6) (j := 3) (o := 2) (n := 6) (by decide) Ta0).1 ?_
        refine k_n 2 (pc' := 36) (L' := [some (.ref a0), some (.int y1), some (.int y2), some (.int y3)]) (S' := [.int y3, .int y2, .ref (a0 + 2)]) (h' := h) rfl ?_
        obtain ⟨o1, H⟩ := H
        refine k_is (n := 6) rfl (CW.tyOf (t := 6) (t' := 100) W (j := 3) Ta0 (W.reOf (t := 6) (j := 3) (o := 2) (n := 6) (by decide) Ta0).1 (by decide) rfl) (W.reOf (t := 6) (j := 3) (o := 2) (n := 6) (by decide) Ta0).2 o1 ?_
        refine k_n 3 (pc' := 11) (L' := [some (.ref a0), some (.int y1), some (.int (y2 + (1 : Int32))), some (.int (y3 + (1 : Int32)))]) (S' := []) (h' := (z_sI h (a0 + 2) (z_ix y2) y3)) rfl ?_
        exact H
set_option maxRecDepth 20000 in
theorem X_64 (a0 : Nat) (x1 : Int32) (x2 : Int32) (h : zH) (W : CW h) (T0 : z_tg h a0 = 6) {Q : Unit → zH → Prop} (H : if (0 : Int32) ≤ x1 ∧ x1 ≤ (5 : Int32) then (if (0 : Int32) ≤ x2 ∧ x2 ≤ (5 : Int32) then ((0 ≤ x1.toInt ∧ x1.toInt < 6) ∧ (0 ≤ x2.toInt ∧ x2.toInt < 6) ∧ (0 ≤ x1.toInt ∧ x1.toInt < 6) ∧ (0 ≤ x2.toInt ∧ x2.toInt < 6) ∧ Q () (z_sI (z_sI h (a0 + 2) (z_ix x1) (z_iv h (a0 + 2) (z_ix x2))) (a0 + 2) (z_ix x2) (z_iv h (a0 + 2) (z_ix x1)))) else (Q () h)) else (Q () h)) : KK z_pV 64 [.ref a0, .int x1, .int x2] h Q := by
  refine k_K (L := [some (.ref a0), some (.int x1), some (.int x2), none]) rfl ?_
  refine k_n 3 (pc' := 3) (L' := [some (.ref a0), some (.int x1), some (.int x2), none]) (S' := [.int (5 : Int32), .int (0 : Int32), .int x1]) (h' := h) rfl ?_
  refine k_cI 135 3 rfl rfl rfl (A := [.int x1, .int (0 : Int32), .int (5 : Int32)]) rfl rfl rfl (rest := []) rfl (z_tyI rfl rfl) ?_
  refine c_within x1 (0 : Int32) (5 : Int32) h ?_
  refine k_b (g := z_bt ((0 : Int32) ≤ x1 ∧ x1 ≤ (5 : Int32)) = 0) (pc' := 44) (L' := [some (.ref a0), some (.int x1), some (.int x2), none]) (S' := []) (pc2 := 9) (L2 := [some (.ref a0), some (.int x1), some (.int x2), none]) (S2 := []) (h' := h) (h2 := h) rfl rfl (fun hc => ?_) (fun hc => ?_)
  · have hc := z_bt_0.mp hc
    rw [if_neg hc] at H
    exact k_r rfl rfl rfl H
  · have hc := Decidable.not_not.mp (fun q => hc (z_bt_0.mpr q))
    rw [if_pos hc] at H
    refine k_n 3 (pc' := 12) (L' := [some (.ref a0), some (.int x1), some (.int x2), none]) (S' := [.int (5 : Int32), .int (0 : Int32), .int x2]) (h' := h) rfl ?_
    refine k_cI 135 3 rfl rfl rfl (A := [.int x2, .int (0 : Int32), .int (5 : Int32)]) rfl rfl rfl (rest := []) rfl (z_tyI rfl rfl) ?_
    refine c_within x2 (0 : Int32) (5 : Int32) h ?_
    refine k_b (g := z_bt ((0 : Int32) ≤ x2 ∧ x2 ≤ (5 : Int32)) = 0) (pc' := 44) (L' := [some (.ref a0), some (.int x1), some (.int x2), none]) (S' := []) (pc2 := 18) (L2 := [some (.ref a0), some (.int x1), some (.int x2), none]) (S2 := []) (h' := h) (h2 := h) rfl rfl (fun hc => ?_) (fun hc => ?_)
    · have hc := z_bt_0.mp hc
      rw [if_neg hc] at H
      exact k_r rfl rfl rfl H
    · have hc := Decidable.not_not.mp (fun q => hc (z_bt_0.mpr q))
      rw [if_pos hc] at H
      refine k_n 1 (pc' := 19) (L' := [some (.ref a0), some (.int x1), some (.int x2), none]) (S' := [.ref a0]) (h' := h) rfl ?_
      refine k_gS (b := (a0 + 2)) rfl T0 (W.reOf (t := 6) (j := 3) (o := 2) (n := 6) (by decide) T0).1 ?_
      refine k_n 1 (pc' := 23) (L' := [some (.ref a0), some (.int x1), some (.int x2), none]) (S' := [.int x1, .ref (a0 + 2)]) (h' := h) rfl ?_
      obtain ⟨o1, H⟩ := H
      refine k_ia (c := 0) (n := 6) rfl (CW.tyOf (t := 6) (t' := 100) W (j := 3) T0 (W.reOf (t := 6) (j := 3) (o := 2) (n := 6) (by decide) T0).1 (by decide) rfl) (W.reOf (t := 6) (j := 3) (o := 2) (n := 6) (by decide) T0).2 o1 ?_
      refine k_n 2 (pc' := 26) (L' := [some (.ref a0), some (.int x1), some (.int x2), some (.int (z_iv h (a0 + 2) (z_ix x1)))]) (S' := [.ref a0]) (h' := h) rfl ?_
      refine k_gS (b := (a0 + 2)) rfl T0 (W.reOf (t := 6) (j := 3) (o := 2) (n := 6) (by decide) T0).1 ?_
      refine k_n 2 (pc' := 31) (L' := [some (.ref a0), some (.int x1), some (.int x2), some (.int (z_iv h (a0 + 2) (z_ix x1)))]) (S' := [.ref a0, .int x1, .ref (a0 + 2)]) (h' := h) rfl ?_
      refine k_gS (b := (a0 + 2)) rfl T0 (W.reOf (t := 6) (j := 3) (o := 2) (n := 6) (by decide) T0).1 ?_
      refine k_n 1 (pc' := 35) (L' := [some (.ref a0), some (.int x1), some (.int x2), some (.int (z_iv h (a0 + 2) (z_ix x1)))]) (S' := [.int x2, .ref (a0 + 2), .int x1, .ref (a0 + 2)]) (h' := h) rfl ?_
      obtain ⟨o2, H⟩ := H
      refine k_ia (c := 0) (n := 6) rfl (CW.tyOf (t := 6) (t' := 100) W (j := 3) T0 (W.reOf (t := 6) (j := 3) (o := 2) (n := 6) (by decide) T0).1 (by decide) rfl) (W.reOf (t := 6) (j := 3) (o := 2) (n := 6) (by decide) T0).2 o2 ?_
      obtain ⟨o3, H⟩ := H
      refine k_is (n := 6) rfl (CW.tyOf (t := 6) (t' := 100) W (j := 3) T0 (W.reOf (t := 6) (j := 3) (o := 2) (n := 6) (by decide) T0).1 (by decide) rfl) (W.reOf (t := 6) (j := 3) (o := 2) (n := 6) (by decide) T0).2 o3 ?_
      refine k_n 1 (pc' := 38) (L' := [some (.ref a0), some (.int x1), some (.int x2), some (.int (z_iv h (a0 + 2) (z_ix x1)))]) (S' := [.ref a0]) (h' := (z_sI h (a0 + 2) (z_ix x1) (z_iv h (a0 + 2) (z_ix x2)))) rfl ?_
      refine k_gS (b := (a0 + 2)) rfl (z_tgI T0) ((CW.sI W).reOf (t := 6) (j := 3) (o := 2) (n := 6) (by decide) (z_tgI T0)).1 ?_
      refine k_n 2 (pc' := 43) (L' := [some (.ref a0), some (.int x1), some (.int x2), some (.int (z_iv h (a0 + 2) (z_ix x1)))]) (S' := [.int (z_iv h (a0 + 2) (z_ix x1)), .int x2, .ref (a0 + 2)]) (h' := (z_sI h (a0 + 2) (z_ix x1) (z_iv h (a0 + 2) (z_ix x2)))) rfl ?_
      obtain ⟨o4, H⟩ := H
      refine k_is (n := 6) rfl (CW.tyOf (t := 6) (t' := 100) (CW.sI W) (j := 3) (z_tgI T0) ((CW.sI W).reOf (t := 6) (j := 3) (o := 2) (n := 6) (by decide) (z_tgI T0)).1 (by decide) rfl) ((CW.sI W).reOf (t := 6) (j := 3) (o := 2) (n := 6) (by decide) (z_tgI T0)).2 o4 ?_
      exact k_r rfl rfl rfl H
set_option maxRecDepth 20000 in
theorem X_65 (a0 : Nat) (x1 : Int32) (h : zH) (W : CW h) (T0 : z_tg h a0 = 6) {Q : Int32 → zH → Prop} (H : if (1 : Int32) ≤ x1 ∧ x1 ≤ (5 : Int32) then ((0 ≤ (x1 - (1 : Int32)).toInt ∧ (x1 - (1 : Int32)).toInt < 6) ∧ (0 ≤ x1.toInt ∧ x1.toInt < 6) ∧ (if (0 : Int32) ≤ (z_iv h (a0 + 2) (z_ix (x1 - (1 : Int32)))) ∧ (z_iv h (a0 + 2) (z_ix (x1 - (1 : Int32)))) ≤ (5 : Int32) then ((((0 : Int32) ≤ (z_iv h (a0 + 2) (z_ix x1)) ∧ (z_iv h (a0 + 2) (z_ix x1)) ≤ (5 : Int32)) → 0 ≤ (((z_iv h (a0 + 2) (z_ix (x1 - (1 : Int32)))) * (6 : Int32)) + (z_iv h (a0 + 2) (z_ix x1))).toInt ∧ (((z_iv h (a0 + 2) (z_ix (x1 - (1 : Int32)))) * (6 : Int32)) + (z_iv h (a0 + 2) (z_ix x1))).toInt < 36) ∧ (∀ m7 : Int32, m7 = (if (0 : Int32) ≤ (z_iv h (a0 + 2) (z_ix x1)) ∧ (z_iv h (a0 + 2) (z_ix x1)) ≤ (5 : Int32) then (z_iv h (a0 + 4) (z_ix (((z_iv h (a0 + 2) (z_ix (x1 - (1 : Int32)))) * (6 : Int32)) + (z_iv h (a0 + 2) (z_ix x1))))) else (0 : Int32)) → Q m7 h)) else (Q (0 : Int32) h))) else (Q (0 : Int32) h)) : KK z_pI 65 [.ref a0, .int x1] h Q := by
  refine k_K (L := [some (.ref a0), some (.int x1), none, none, none]) rfl ?_
  refine k_n 3 (pc' := 3) (L' := [some (.ref a0), some (.int x1), none, none, none]) (S' := [.int (5 : Int32), .int (1 : Int32), .int x1]) (h' := h) rfl ?_
  refine k_cI 135 3 rfl rfl rfl (A := [.int x1, .int (1 : Int32), .int (5 : Int32)]) rfl rfl rfl (rest := []) rfl (z_tyI rfl rfl) ?_
  refine c_within x1 (1 : Int32) (5 : Int32) h ?_
  refine k_b (g := z_bt ((1 : Int32) ≤ x1 ∧ x1 ≤ (5 : Int32)) = 0) (pc' := 9) (L' := [some (.ref a0), some (.int x1), none, none, none]) (S' := []) (pc2 := 11) (L2 := [some (.ref a0), some (.int x1), none, none, none]) (S2 := []) (h' := h) (h2 := h) rfl rfl (fun hc => ?_) (fun hc => ?_)
  · have hc := z_bt_0.mp hc
    rw [if_neg hc] at H
    refine k_n 1 (pc' := 10) (L' := [some (.ref a0), some (.int x1), none, none, none]) (S' := [.int (0 : Int32)]) (h' := h) rfl ?_
    exact k_r rfl rfl rfl H
  · have hc := Decidable.not_not.mp (fun q => hc (z_bt_0.mpr q))
    rw [if_pos hc] at H
    refine k_n 1 (pc' := 12) (L' := [some (.ref a0), some (.int x1), none, none, none]) (S' := [.ref a0]) (h' := h) rfl ?_
    refine k_gS (b := (a0 + 2)) rfl T0 (W.reOf (t := 6) (j := 3) (o := 2) (n := 6) (by decide) T0).1 ?_
    refine k_n 3 (pc' := 18) (L' := [some (.ref a0), some (.int x1), none, none, none]) (S' := [.int (x1 - (1 : Int32)), .ref (a0 + 2)]) (h' := h) rfl ?_
    obtain ⟨o1, H⟩ := H
    refine k_ia (c := 0) (n := 6) rfl (CW.tyOf (t := 6) (t' := 100) W (j := 3) T0 (W.reOf (t := 6) (j := 3) (o := 2) (n := 6) (by decide) T0).1 (by decide) rfl) (W.reOf (t := 6) (j := 3) (o := 2) (n := 6) (by decide) T0).2 o1 ?_
    refine k_n 2 (pc' := 21) (L' := [some (.ref a0), some (.int x1), some (.int (z_iv h (a0 + 2) (z_ix (x1 - (1 : Int32))))), none, none]) (S' := [.ref a0]) (h' := h) rfl ?_
    refine k_gS (b := (a0 + 2)) rfl T0 (W.reOf (t := 6) (j := 3) (o := 2) (n := 6) (by decide) T0).1 ?_
    refine k_n 1 (pc' := 25) (L' := [some (.ref a0), some (.int x1), some (.int (z_iv h (a0 + 2) (z_ix (x1 - (1 : Int32))))), none, none]) (S' := [.int x1, .ref (a0 + 2)]) (h' := h) rfl ?_
    obtain ⟨o2, H⟩ := H
    refine k_ia (c := 0) (n := 6) rfl (CW.tyOf (t := 6) (t' := 100) W (j := 3) T0 (W.reOf (t := 6) (j := 3) (o := 2) (n := 6) (by decide) T0).1 (by decide) rfl) (W.reOf (t := 6) (j := 3) (o := 2) (n := 6) (by decide) T0).2 o2 ?_
    refine k_n 4 (pc' := 30) (L' := [some (.ref a0), some (.int x1), some (.int (z_iv h (a0 + 2) (z_ix (x1 - (1 : Int32))))), some (.int (z_iv h (a0 + 2) (z_ix x1))), none]) (S' := [.int (5 : Int32), .int (0 : Int32), .int (z_iv h (a0 + 2) (z_ix (x1 - (1 : Int32))))]) (h' := h) rfl ?_
    refine k_cI 135 3 rfl rfl rfl (A := [.int (z_iv h (a0 + 2) (z_ix (x1 - (1 : Int32)))), .int (0 : Int32), .int (5 : Int32)]) rfl rfl rfl (rest := []) rfl (z_tyI rfl rfl) ?_
    refine c_within (z_iv h (a0 + 2) (z_ix (x1 - (1 : Int32)))) (0 : Int32) (5 : Int32) h ?_
    refine k_b (g := z_bt ((0 : Int32) ≤ (z_iv h (a0 + 2) (z_ix (x1 - (1 : Int32)))) ∧ (z_iv h (a0 + 2) (z_ix (x1 - (1 : Int32)))) ≤ (5 : Int32)) = 0) (pc' := 49) (L' := [some (.ref a0), some (.int x1), some (.int (z_iv h (a0 + 2) (z_ix (x1 - (1 : Int32))))), some (.int (z_iv h (a0 + 2) (z_ix x1))), none]) (S' := []) (pc2 := 36) (L2 := [some (.ref a0), some (.int x1), some (.int (z_iv h (a0 + 2) (z_ix (x1 - (1 : Int32))))), some (.int (z_iv h (a0 + 2) (z_ix x1))), none]) (S2 := []) (h' := h) (h2 := h) rfl rfl (fun hc => ?_) (fun hc => ?_)
    · have hc := z_bt_0.mp hc
      rw [if_neg hc] at H
      refine k_n 5 (pc' := 72) (L' := [some (.ref a0), some (.int x1), some (.int (z_iv h (a0 + 2) (z_ix (x1 - (1 : Int32))))), some (.int (z_iv h (a0 + 2) (z_ix x1))), some (.int (0 : Int32))]) (S' := [.int (0 : Int32)]) (h' := h) rfl ?_
      exact k_r rfl rfl rfl H
    · have hc := Decidable.not_not.mp (fun q => hc (z_bt_0.mpr q))
      rw [if_pos hc] at H
      refine k_n 3 (pc' := 39) (L' := [some (.ref a0), some (.int x1), some (.int (z_iv h (a0 + 2) (z_ix (x1 - (1 : Int32))))), some (.int (z_iv h (a0 + 2) (z_ix x1))), none]) (S' := [.int (5 : Int32), .int (0 : Int32), .int (z_iv h (a0 + 2) (z_ix x1))]) (h' := h) rfl ?_
      refine k_cI 135 3 rfl rfl rfl (A := [.int (z_iv h (a0 + 2) (z_ix x1)), .int (0 : Int32), .int (5 : Int32)]) rfl rfl rfl (rest := []) rfl (z_tyI rfl rfl) ?_
      refine c_within (z_iv h (a0 + 2) (z_ix x1)) (0 : Int32) (5 : Int32) h ?_
      have hj4 : KG z_pI 65 50 [some (.ref a0), some (.int x1), some (.int (z_iv h (a0 + 2) (z_ix (x1 - (1 : Int32))))), some (.int (z_iv h (a0 + 2) (z_ix x1))), none] [.int (z_bt ((0 : Int32) ≤ (z_iv h (a0 + 2) (z_ix x1)) ∧ (z_iv h (a0 + 2) (z_ix x1)) ≤ (5 : Int32)))] h Q := by
        refine k_n 2 (pc' := 54) (L' := [some (.ref a0), some (.int x1), some (.int (z_iv h (a0 + 2) (z_ix (x1 - (1 : Int32))))), some (.int (z_iv h (a0 + 2) (z_ix x1))), some (.int (z_bt ((0 : Int32) ≤ (z_iv h (a0 + 2) (z_ix x1)) ∧ (z_iv h (a0 + 2) (z_ix x1)) ≤ (5 : Int32))))]) (S' := [.int (z_bt ((0 : Int32) ≤ (z_iv h (a0 + 2) (z_ix x1)) ∧ (z_iv h (a0 + 2) (z_ix x1)) ≤ (5 : Int32)))]) (h' := h) rfl ?_
        obtain ⟨o6, H⟩ := H
        obtain ⟨m7, em7⟩ : ∃ m : Int32, m = (if (0 : Int32) ≤ (z_iv h (a0 + 2) (z_ix x1)) ∧ (z_iv h (a0 + 2) (z_ix x1)) ≤ (5 : Int32) then (z_iv h (a0 + 4) (z_ix (((z_iv h (a0 + 2) (z_ix (x1 - (1 : Int32)))) * (6 : Int32)) + (z_iv h (a0 + 2) (z_ix x1))))) else (0 : Int32)) := ⟨_, rfl⟩
        have H := H m7 em7
        have hj8 : KG z_pI 65 72 [some (.ref a0), some (.int x1), some (.int (z_iv h (a0 + 2) (z_ix (x1 - (1 : Int32))))), some (.int (z_iv h (a0 + 2) (z_ix x1))), some (.int (z_bt ((0 : Int32) ≤ (z_iv h (a0 + 2) (z_ix x1)) ∧ (z_iv h (a0 + 2) (z_ix x1)) ≤ (5 : Int32))))] [.int m7] h Q := by
          exact k_r rfl rfl rfl H
        refine k_b (g := z_bt ((0 : Int32) ≤ (z_iv h (a0 + 2) (z_ix x1)) ∧ (z_iv h (a0 + 2) (z_ix x1)) ≤ (5 : Int32)) = 0) (pc' := 71) (L' := [some (.ref a0), some (.int x1), some (.int (z_iv h (a0 + 2) (z_ix (x1 - (1 : Int32))))), some (.int (z_iv h (a0 + 2) (z_ix x1))), some (.int (z_bt ((0 : Int32) ≤ (z_iv h (a0 + 2) (z_ix x1)) ∧ (z_iv h (a0 + 2) (z_ix x1)) ≤ (5 : Int32))))]) (S' := []) (pc2 := 57) (L2 := [some (.ref a0), some (.int x1), some (.int (z_iv h (a0 + 2) (z_ix (x1 - (1 : Int32))))), some (.int (z_iv h (a0 + 2) (z_ix x1))), some (.int (z_bt ((0 : Int32) ≤ (z_iv h (a0 + 2) (z_ix x1)) ∧ (z_iv h (a0 + 2) (z_ix x1)) ≤ (5 : Int32))))]) (S2 := []) (h' := h) (h2 := h) rfl rfl (fun hc => ?_) (fun hc => ?_)
        · have c5 := z_bt_0.mp hc
          refine k_n 1 (pc' := 72) (L' := [some (.ref a0), some (.int x1), some (.int (z_iv h (a0 + 2) (z_ix (x1 - (1 : Int32))))), some (.int (z_iv h (a0 + 2) (z_ix x1))), some (.int (z_bt ((0 : Int32) ≤ (z_iv h (a0 + 2) (z_ix x1)) ∧ (z_iv h (a0 + 2) (z_ix x1)) ≤ (5 : Int32))))]) (S' := [.int (0 : Int32)]) (h' := h) rfl ?_
          rw [(em7.trans (by rw [if_neg c5]) : m7 = (0 : Int32))] at hj8
          exact hj8
        · have c5 := Decidable.not_not.mp (fun q => hc (z_bt_0.mpr q))
          refine k_n 1 (pc' := 58) (L' := [some (.ref a0), some (.int x1), some (.int (z_iv h (a0 + 2) (z_ix (x1 - (1 : Int32))))), some (.int (z_iv h (a0 + 2) (z_ix x1))), some (.int (z_bt ((0 : Int32) ≤ (z_iv h (a0 + 2) (z_ix x1)) ∧ (z_iv h (a0 + 2) (z_ix x1)) ≤ (5 : Int32))))]) (S' := [.ref a0]) (h' := h) rfl ?_
          refine k_gS (b := (a0 + 4)) rfl T0 (W.reOf (t := 6) (j := 5) (o := 4) (n := 36) (by decide) T0).1 ?_
          refine k_n 5 (pc' := 67) (L' := [some (.ref a0), some (.int x1), some (.int (z_iv h (a0 + 2) (z_ix (x1 - (1 : Int32))))), some (.int (z_iv h (a0 + 2) (z_ix x1))), some (.int (z_bt ((0 : Int32) ≤ (z_iv h (a0 + 2) (z_ix x1)) ∧ (z_iv h (a0 + 2) (z_ix x1)) ≤ (5 : Int32))))]) (S' := [.int (((z_iv h (a0 + 2) (z_ix (x1 - (1 : Int32)))) * (6 : Int32)) + (z_iv h (a0 + 2) (z_ix x1))), .ref (a0 + 4)]) (h' := h) rfl ?_
          refine k_ia (c := 0) (n := 36) rfl (CW.tyOf (t := 6) (t' := 100) W (j := 5) T0 (W.reOf (t := 6) (j := 5) (o := 4) (n := 36) (by decide) T0).1 (by decide) rfl) (W.reOf (t := 6) (j := 5) (o := 4) (n := 36) (by decide) T0).2 (o6 c5) ?_
          refine k_n 1 (pc' := 72) (L' := [some (.ref a0), some (.int x1), some (.int (z_iv h (a0 + 2) (z_ix (x1 - (1 : Int32))))), some (.int (z_iv h (a0 + 2) (z_ix x1))), some (.int (z_bt ((0 : Int32) ≤ (z_iv h (a0 + 2) (z_ix x1)) ∧ (z_iv h (a0 + 2) (z_ix x1)) ≤ (5 : Int32))))]) (S' := [.int (z_iv h (a0 + 4) (z_ix (((z_iv h (a0 + 2) (z_ix (x1 - (1 : Int32)))) * (6 : Int32)) + (z_iv h (a0 + 2) (z_ix x1)))))]) (h' := h) rfl ?_
          rw [(em7.trans (by rw [if_pos c5]) : m7 = (z_iv h (a0 + 4) (z_ix (((z_iv h (a0 + 2) (z_ix (x1 - (1 : Int32)))) * (6 : Int32)) + (z_iv h (a0 + 2) (z_ix x1))))))] at hj8
          exact hj8
      refine k_b (g := z_bt ((0 : Int32) ≤ (z_iv h (a0 + 2) (z_ix x1)) ∧ (z_iv h (a0 + 2) (z_ix x1)) ≤ (5 : Int32)) = 0) (pc' := 49) (L' := [some (.ref a0), some (.int x1), some (.int (z_iv h (a0 + 2) (z_ix (x1 - (1 : Int32))))), some (.int (z_iv h (a0 + 2) (z_ix x1))), none]) (S' := []) (pc2 := 45) (L2 := [some (.ref a0), some (.int x1), some (.int (z_iv h (a0 + 2) (z_ix (x1 - (1 : Int32))))), some (.int (z_iv h (a0 + 2) (z_ix x1))), none]) (S2 := []) (h' := h) (h2 := h) rfl rfl (fun hc => ?_) (fun hc => ?_)
      · have c3 := z_bt_0.mp hc
        refine k_n 1 (pc' := 50) (L' := [some (.ref a0), some (.int x1), some (.int (z_iv h (a0 + 2) (z_ix (x1 - (1 : Int32))))), some (.int (z_iv h (a0 + 2) (z_ix x1))), none]) (S' := [.int (0 : Int32)]) (h' := h) rfl ?_
        rw [show z_bt ((0 : Int32) ≤ (z_iv h (a0 + 2) (z_ix x1)) ∧ (z_iv h (a0 + 2) (z_ix x1)) ≤ (5 : Int32)) = 0 from z_bt_0.mpr (c3)] at hj4
        exact hj4
      · have c3 := Decidable.not_not.mp (fun q => hc (z_bt_0.mpr q))
        refine k_n 2 (pc' := 50) (L' := [some (.ref a0), some (.int x1), some (.int (z_iv h (a0 + 2) (z_ix (x1 - (1 : Int32))))), some (.int (z_iv h (a0 + 2) (z_ix x1))), none]) (S' := [.int (1 : Int32)]) (h' := h) rfl ?_
        rw [show z_bt ((0 : Int32) ≤ (z_iv h (a0 + 2) (z_ix x1)) ∧ (z_iv h (a0 + 2) (z_ix x1)) ≤ (5 : Int32)) = 1 from z_bt_1.mpr (c3)] at hj4
        exact hj4
set_option maxRecDepth 20000 in
theorem X_67 (a0 : Nat) (x1 : Int32) (h : zH) (W : CW h) (T0 : z_tg h a0 = 6) {Q : Int32 → zH → Prop} (H : (¬ (x1 < 0) → ¬ ((z_iv h a0 6) ≤ x1) → ¬ ((6 : Int32) ≤ x1) → 0 ≤ x1.toInt ∧ x1.toInt < 6) ∧ (∀ m5 : Int32, m5 = (if x1 < 0 then (-4 : Int32) else (if (z_iv h a0 6) ≤ x1 then (-4 : Int32) else (if (6 : Int32) ≤ x1 then (-4 : Int32) else (z_iv h (a0 + 1) (z_ix x1))))) → Q m5 h)) : KK z_pI 67 [.ref a0, .int x1] h Q := by
  refine k_K (L := [some (.ref a0), some (.int x1)]) rfl ?_
  refine k_n 1 (pc' := 1) (L' := [some (.ref a0), some (.int x1)]) (S' := [.int x1]) (h' := h) rfl ?_
  obtain ⟨o4, H⟩ := H
  obtain ⟨m5, em5⟩ : ∃ m : Int32, m = (if x1 < 0 then (-4 : Int32) else (if (z_iv h a0 6) ≤ x1 then (-4 : Int32) else (if (6 : Int32) ≤ x1 then (-4 : Int32) else (z_iv h (a0 + 1) (z_ix x1))))) := ⟨_, rfl⟩
  have H := H m5 em5
  have hj6 : KG z_pI 67 29 [some (.ref a0), some (.int x1)] [.int m5] h Q := by
    exact k_r rfl rfl rfl H
  refine k_b (g := x1 < 0) (pc' := 27) (L' := [some (.ref a0), some (.int x1)]) (S' := []) (pc2 := 4) (L2 := [some (.ref a0), some (.int x1)]) (S2 := []) (h' := h) (h2 := h) rfl rfl (fun hc => ?_) (fun hc => ?_)
  · have c1 := hc
    refine k_n 1 (pc' := 29) (L' := [some (.ref a0), some (.int x1)]) (S' := [.int (-4 : Int32)]) (h' := h) rfl ?_
    rw [(em5.trans (by rw [if_pos c1]) : m5 = (-4 : Int32))] at hj6
    exact hj6
  · have c1 := hc
    refine k_n 2 (pc' := 6) (L' := [some (.ref a0), some (.int x1)]) (S' := [.ref a0, .int x1]) (h' := h) rfl ?_
    refine k_gI rfl rfl T0 ?_
    refine k_b (g := (z_iv h a0 6) ≤ x1) (pc' := 27) (L' := [some (.ref a0), some (.int x1)]) (S' := []) (pc2 := 12) (L2 := [some (.ref a0), some (.int x1)]) (S2 := []) (h' := h) (h2 := h) rfl rfl (fun hc => ?_) (fun hc => ?_)
    · have c2 := hc
      refine k_n 1 (pc' := 29) (L' := [some (.ref a0), some (.int x1)]) (S' := [.int (-4 : Int32)]) (h' := h) rfl ?_
      rw [(em5.trans (by rw [if_neg c1, if_pos c2]) : m5 = (-4 : Int32))] at hj6
      exact hj6
    · have c2 := hc
      refine k_n 2 (pc' := 15) (L' := [some (.ref a0), some (.int x1)]) (S' := [.int (6 : Int32), .int x1]) (h' := h) rfl ?_
      refine k_b (g := (6 : Int32) ≤ x1) (pc' := 27) (L' := [some (.ref a0), some (.int x1)]) (S' := []) (pc2 := 18) (L2 := [some (.ref a0), some (.int x1)]) (S2 := []) (h' := h) (h2 := h) rfl rfl (fun hc => ?_) (fun hc => ?_)
      · have c3 := hc
        refine k_n 1 (pc' := 29) (L' := [some (.ref a0), some (.int x1)]) (S' := [.int (-4 : Int32)]) (h' := h) rfl ?_
        rw [(em5.trans (by rw [if_neg c1, if_neg c2, if_pos c3]) : m5 = (-4 : Int32))] at hj6
        exact hj6
      · have c3 := hc
        refine k_n 1 (pc' := 19) (L' := [some (.ref a0), some (.int x1)]) (S' := [.ref a0]) (h' := h) rfl ?_
        refine k_gS (b := (a0 + 1)) rfl T0 (W.reOf (t := 6) (j := 2) (o := 1) (n := 6) (by decide) T0).1 ?_
        refine k_n 1 (pc' := 23) (L' := [some (.ref a0), some (.int x1)]) (S' := [.int x1, .ref (a0 + 1)]) (h' := h) rfl ?_
        refine k_ia (c := 0) (n := 6) rfl (CW.tyOf (t := 6) (t' := 100) W (j := 2) T0 (W.reOf (t := 6) (j := 2) (o := 1) (n := 6) (by decide) T0).1 (by decide) rfl) (W.reOf (t := 6) (j := 2) (o := 1) (n := 6) (by decide) T0).2 (o4 c1 c2 c3) ?_
        refine k_n 1 (pc' := 29) (L' := [some (.ref a0), some (.int x1)]) (S' := [.int (z_iv h (a0 + 1) (z_ix x1))]) (h' := h) rfl ?_
        rw [(em5.trans (by rw [if_neg c1, if_neg c2, if_neg c3]) : m5 = (z_iv h (a0 + 1) (z_ix x1)))] at hj6
        exact hj6
set_option maxRecDepth 20000 in
theorem X_68 (a0 : Nat) (x1 : Int32) (h : zH) (W : CW h) (T0 : z_tg h a0 = 6) {Q : Int32 → zH → Prop} (H : KG z_pI 68 12 [some (.ref a0), some (.int x1), some (.int x1), some (.int (0 : Int32)), some (.int ((z_iv h a0 6) - (1 : Int32))), none, none] [] h Q) : KK z_pI 68 [.ref a0, .int x1] h Q := by
  refine k_K (L := [some (.ref a0), some (.int x1), none, none, none, none, none]) rfl ?_
  refine k_n 5 (pc' := 5) (L' := [some (.ref a0), some (.int x1), some (.int x1), some (.int (0 : Int32)), none, none, none]) (S' := [.ref a0]) (h' := h) rfl ?_
  refine k_gI rfl rfl T0 ?_
  refine k_n 3 (pc' := 12) (L' := [some (.ref a0), some (.int x1), some (.int x1), some (.int (0 : Int32)), some (.int ((z_iv h a0 6) - (1 : Int32))), none, none]) (S' := []) (h' := h) rfl ?_
  exact H
set_option maxRecDepth 20000 in
theorem X_68_12 (a0 : Nat) (y1 : Int32) (y2 : Int32) (y3 : Int32) (y4 : Int32) (u5 : Option Value) (u6 : Option Value) (h : zH) (W : CW h) (Ta0 : z_tg h a0 = 6) {Q : Int32 → zH → Prop} (H : if y4 < 0 then (Q (z_bt (y2 = 0)) h) else (if ¬ ((y2 - y2 / (10 : Int32) * (10 : Int32)) < 0) ∧ (¬ ((z_iv h a0 6) ≤ (y2 - y2 / (10 : Int32) * (10 : Int32))) ∧ (((y3 >>> ((y2 - y2 / (10 : Int32) * (10 : Int32)) &&& 31)) &&& (1 : Int32)) = 0)) then ((0 ≤ y4.toInt ∧ y4.toInt < 6) ∧ KG z_pI 68 12 [some (.ref a0), some (.int y1), some (.int (y2 / (10 : Int32))), some (.int (y3 ||| ((1 : Int32) <<< ((y2 - y2 / (10 : Int32) * (10 : Int32)) &&& 31)))), some (.int (y4 + (-1 : Int32))), some (.int (y2 - y2 / (10 : Int32) * (10 : Int32))), some (.int (z_bt (¬ ((y2 - y2 / (10 : Int32) * (10 : Int32)) < 0) ∧ (¬ ((z_iv h a0 6) ≤ (y2 - y2 / (10 : Int32) * (10 : Int32))) ∧ (((y3 >>> ((y2 - y2 / (10 : Int32) * (10 : Int32)) &&& 31)) &&& (1 : Int32)) = 0)))))] [] (z_sI h (a0 + 2) (z_ix y4) (y2 - y2 / (10 : Int32) * (10 : Int32))) Q) else (Q (0 : Int32) h))) : KG z_pI 68 12 [some (.ref a0), some (.int y1), some (.int y2), some (.int y3), some (.int y4), u5, u6] [] h Q := by
  refine k_n 1 (pc' := 14) (L' := [some (.ref a0), some (.int y1), some (.int y2), some (.int y3), some (.int y4), u5, u6]) (S' := [.int y4]) (h' := h) rfl ?_
  refine k_b (g := y4 < 0) (pc' := 87) (L' := [some (.ref a0), some (.int y1), some (.int y2), some (.int y3), some (.int y4), u5, u6]) (S' := []) (pc2 := 17) (L2 := [some (.ref a0), some (.int y1), some (.int y2), some (.int y3), some (.int y4), u5, u6]) (S2 := []) (h' := h) (h2 := h) rfl rfl (fun hc => ?_) (fun hc => ?_)
  · have hc := hc
    rw [if_pos hc] at H
    refine k_n 1 (pc' := 88) (L' := [some (.ref a0), some (.int y1), some (.int y2), some (.int y3), some (.int y4), u5, u6]) (S' := [.int y2]) (h' := h) rfl ?_
    have hj2 : KG z_pI 68 96 [some (.ref a0), some (.int y1), some (.int y2), some (.int y3), some (.int y4), u5, u6] [.int (z_bt (y2 = 0))] h Q := by
      exact k_r rfl (z_retB z_bt_01) rfl H
    refine k_b (g := y2 = 0) (pc' := 91) (L' := [some (.ref a0), some (.int y1), some (.int y2), some (.int y3), some (.int y4), u5, u6]) (S' := []) (pc2 := 95) (L2 := [some (.ref a0), some (.int y1), some (.int y2), some (.int y3), some (.int y4), u5, u6]) (S2 := []) (h' := h) (h2 := h) rfl rfl (fun hc => ?_) (fun hc => ?_)
    · have c1 := hc
      refine k_n 2 (pc' := 96) (L' := [some (.ref a0), some (.int y1), some (.int y2), some (.int y3), some (.int y4), u5, u6]) (S' := [.int (1 : Int32)]) (h' := h) rfl ?_
      rw [show z_bt (y2 = 0) = 1 from z_bt_1.mpr (c1)] at hj2
      exact hj2
    · have c1 := hc
      refine k_n 1 (pc' := 96) (L' := [some (.ref a0), some (.int y1), some (.int y2), some (.int y3), some (.int y4), u5, u6]) (S' := [.int (0 : Int32)]) (h' := h) rfl ?_
      rw [show z_bt (y2 = 0) = 0 from z_bt_0.mpr (c1)] at hj2
      exact hj2
  · have hc := hc
    rw [if_neg hc] at H
    refine k_n 2 (pc' := 20) (L' := [some (.ref a0), some (.int y1), some (.int y2), some (.int y3), some (.int y4), u5, u6]) (S' := [.int (10 : Int32), .int y2]) (h' := h) rfl ?_
    refine k_d (g := (10 : Int32) = 0) (pc' := 21) (L' := [some (.ref a0), some (.int y1), some (.int y2), some (.int y3), some (.int y4), u5, u6]) (S' := [.int (y2 - y2 / (10 : Int32) * (10 : Int32))]) (h' := h) rfl rfl (by decide) ?_
    refine k_n 3 (pc' := 26) (L' := [some (.ref a0), some (.int y1), some (.int y2), some (.int y3), some (.int y4), some (.int (y2 - y2 / (10 : Int32) * (10 : Int32))), u6]) (S' := [.int (10 : Int32), .int y2]) (h' := h) rfl ?_
    refine k_d (g := (10 : Int32) = 0) (pc' := 27) (L' := [some (.ref a0), some (.int y1), some (.int y2), some (.int y3), some (.int y4), some (.int (y2 - y2 / (10 : Int32) * (10 : Int32))), u6]) (S' := [.int (y2 / (10 : Int32))]) (h' := h) rfl rfl (by decide) ?_
    refine k_n 2 (pc' := 30) (L' := [some (.ref a0), some (.int y1), some (.int (y2 / (10 : Int32))), some (.int y3), some (.int y4), some (.int (y2 - y2 / (10 : Int32) * (10 : Int32))), u6]) (S' := [.int (y2 - y2 / (10 : Int32) * (10 : Int32))]) (h' := h) rfl ?_
    have hj6 : KG z_pI 68 56 [some (.ref a0), some (.int y1), some (.int (y2 / (10 : Int32))), some (.int y3), some (.int y4), some (.int (y2 - y2 / (10 : Int32) * (10 : Int32))), u6] [.int (z_bt (¬ ((y2 - y2 / (10 : Int32) * (10 : Int32)) < 0) ∧ (¬ ((z_iv h a0 6) ≤ (y2 - y2 / (10 : Int32) * (10 : Int32))) ∧ (((y3 >>> ((y2 - y2 / (10 : Int32) * (10 : Int32)) &&& 31)) &&& (1 : Int32)) = 0))))] h Q := by
      refine k_n 2 (pc' := 60) (L' := [some (.ref a0), some (.int y1), some (.int (y2 / (10 : Int32))), some (.int y3), some (.int y4), some (.int (y2 - y2 / (10 : Int32) * (10 : Int32))), some (.int (z_bt (¬ ((y2 - y2 / (10 : Int32) * (10 : Int32)) < 0) ∧ (¬ ((z_iv h a0 6) ≤ (y2 - y2 / (10 : Int32) * (10 : Int32))) ∧ (((y3 >>> ((y2 - y2 / (10 : Int32) * (10 : Int32)) &&& 31)) &&& (1 : Int32)) = 0)))))]) (S' := [.int (z_bt (¬ ((y2 - y2 / (10 : Int32) * (10 : Int32)) < 0) ∧ (¬ ((z_iv h a0 6) ≤ (y2 - y2 / (10 : Int32) * (10 : Int32))) ∧ (((y3 >>> ((y2 - y2 / (10 : Int32) * (10 : Int32)) &&& 31)) &&& (1 : Int32)) = 0))))]) (h' := h) rfl ?_
      refine k_b (g := z_bt (¬ ((y2 - y2 / (10 : Int32) * (10 : Int32)) < 0) ∧ (¬ ((z_iv h a0 6) ≤ (y2 - y2 / (10 : Int32) * (10 : Int32))) ∧ (((y3 >>> ((y2 - y2 / (10 : Int32) * (10 : Int32)) &&& 31)) &&& (1 : Int32)) = 0))) = 0) (pc' := 63) (L' := [some (.ref a0), some (.int y1), some (.int (y2 / (10 : Int32))), some (.int y3), some (.int y4), some (.int (y2 - y2 / (10 : Int32) * (10 : Int32))), some (.int (z_bt (¬ ((y2 - y2 / (10 : Int32) * (10 : Int32)) < 0) ∧ (¬ ((z_iv h a0 6) ≤ (y2 - y2 / (10 : Int32) * (10 : Int32))) ∧ (((y3 >>> ((y2 - y2 / (10 : Int32) * (10 : Int32)) &&& 31)) &&& (1 : Int32)) = 0)))))]) (S' := []) (pc2 := 65) (L2 := [some (.ref a0), some (.int y1), some (.int (y2 / (10 : Int32))), some (.int y3), some (.int y4), some (.int (y2 - y2 / (10 : Int32) * (10 : Int32))), some (.int (z_bt (¬ ((y2 - y2 / (10 : Int32) * (10 : Int32)) < 0) ∧ (¬ ((z_iv h a0 6) ≤ (y2 - y2 / (10 : Int32) * (10 : Int32))) ∧ (((y3 >>> ((y2 - y2 / (10 : Int32) * (10 : Int32)) &&& 31)) &&& (1 : Int32)) = 0)))))]) (S2 := []) (h' := h) (h2 := h) rfl rfl (fun hc => ?_) (fun hc => ?_)
      · have hc := z_bt_0.mp hc
        rw [if_neg hc] at H
        refine k_n 1 (pc' := 64) (L' := [some (.ref a0), some (.int y1), some (.int (y2 / (10 : Int32))), some (.int y3), some (.int y4), some (.int (y2 - y2 / (10 : Int32) * (10 : Int32))), some (.int (z_bt (¬ ((y2 - y2 / (10 : Int32) * (10 : Int32)) < 0) ∧ (¬ ((z_iv h a0 6) ≤ (y2 - y2 / (10 : Int32) * (10 : Int32))) ∧ (((y3 >>> ((y2 - y2 / (10 : Int32) * (10 : Int32)) &&& 31)) &&& (1 : Int32)) = 0)))))]) (S' := [.int (0 : Int32)]) (h' := h) rfl ?_
        exact k_r rfl rfl rfl H
      · have hc := Decidable.not_not.mp (fun q => hc (z_bt_0.mpr q))
        rw [if_pos hc] at H
        refine k_n 7 (pc' := 73) (L' := [some (.ref a0), some (.int y1), some (.int (y2 / (10 : Int32))), some (.int (y3 ||| ((1 : Int32) <<< ((y2 - y2 / (10 : Int32) * (10 : Int32)) &&& 31)))), some (.int y4), some (.int (y2 - y2 / (10 : Int32) * (10 : Int32))), some (.int (z_bt (¬ ((y2 - y2 / (10 : Int32) * (10 : Int32)) < 0) ∧ (¬ ((z_iv h a0 6) ≤ (y2 - y2 / (10 : Int32) * (10 : Int32))) ∧ (((y3 >>> ((y2 - y2 / (10 : Int32) * (10 : Int32)) &&& 31)) &&& (1 : Int32)) = 0)))))]) (S' := [.ref a0]) (h' := h) rfl ?_
        refine k_gS (b := (a0 + 2)) rfl Ta0 (W.reOf (t := 6) (j := 3) (o := 2) (n := 6) (by decide) Ta0).1 ?_
        refine k_n 2 (pc' := 80) (L' := [some (.ref a0), some (.int y1), some (.int (y2 / (10 : Int32))), some (.int (y3 ||| ((1 : Int32) <<< ((y2 - y2 / (10 : Int32) * (10 : Int32)) &&& 31)))), some (.int y4), some (.int (y2 - y2 / (10 : Int32) * (10 : Int32))), some (.int (z_bt (¬ ((y2 - y2 / (10 : Int32) * (10 : Int32)) < 0) ∧ (¬ ((z_iv h a0 6) ≤ (y2 - y2 / (10 : Int32) * (10 : Int32))) ∧ (((y3 >>> ((y2 - y2 / (10 : Int32) * (10 : Int32)) &&& 31)) &&& (1 : Int32)) = 0)))))]) (S' := [.int (y2 - y2 / (10 : Int32) * (10 : Int32)), .int y4, .ref (a0 + 2)]) (h' := h) rfl ?_
        obtain ⟨o7, H⟩ := H
        refine k_is (n := 6) rfl (CW.tyOf (t := 6) (t' := 100) W (j := 3) Ta0 (W.reOf (t := 6) (j := 3) (o := 2) (n := 6) (by decide) Ta0).1 (by decide) rfl) (W.reOf (t := 6) (j := 3) (o := 2) (n := 6) (by decide) Ta0).2 o7 ?_
        refine k_n 2 (pc' := 12) (L' := [some (.ref a0), some (.int y1), some (.int (y2 / (10 : Int32))), some (.int (y3 ||| ((1 : Int32) <<< ((y2 - y2 / (10 : Int32) * (10 : Int32)) &&& 31)))), some (.int (y4 + (-1 : Int32))), some (.int (y2 - y2 / (10 : Int32) * (10 : Int32))), some (.int (z_bt (¬ ((y2 - y2 / (10 : Int32) * (10 : Int32)) < 0) ∧ (¬ ((z_iv h a0 6) ≤ (y2 - y2 / (10 : Int32) * (10 : Int32))) ∧ (((y3 >>> ((y2 - y2 / (10 : Int32) * (10 : Int32)) &&& 31)) &&& (1 : Int32)) = 0)))))]) (S' := []) (h' := (z_sI h (a0 + 2) (z_ix y4) (y2 - y2 / (10 : Int32) * (10 : Int32)))) rfl ?_
        exact H
    refine k_b (g := (y2 - y2 / (10 : Int32) * (10 : Int32)) < 0) (pc' := 55) (L' := [some (.ref a0), some (.int y1), some (.int (y2 / (10 : Int32))), some (.int y3), some (.int y4), some (.int (y2 - y2 / (10 : Int32) * (10 : Int32))), u6]) (S' := []) (pc2 := 33) (L2 := [some (.ref a0), some (.int y1), some (.int (y2 / (10 : Int32))), some (.int y3), some (.int y4), some (.int (y2 - y2 / (10 : Int32) * (10 : Int32))), u6]) (S2 := []) (h' := h) (h2 := h) rfl rfl (fun hc => ?_) (fun hc => ?_)
    · have c3 := hc
      refine k_n 1 (pc' := 56) (L' := [some (.ref a0), some (.int y1), some (.int (y2 / (10 : Int32))), some (.int y3), some (.int y4), some (.int (y2 - y2 / (10 : Int32) * (10 : Int32))), u6]) (S' := [.int (0 : Int32)]) (h' := h) rfl ?_
      rw [show z_bt (¬ ((y2 - y2 / (10 : Int32) * (10 : Int32)) < 0) ∧ (¬ ((z_iv h a0 6) ≤ (y2 - y2 / (10 : Int32) * (10 : Int32))) ∧ (((y3 >>> ((y2 - y2 / (10 : Int32) * (10 : Int32)) &&& 31)) &&& (1 : Int32)) = 0))) = 0 from z_bt_0.mpr ((fun q => q.1 c3))] at hj6
      exact hj6
    · have c3 := hc
      refine k_n 2 (pc' := 36) (L' := [some (.ref a0), some (.int y1), some (.int (y2 / (10 : Int32))), some (.int y3), some (.int y4), some (.int (y2 - y2 / (10 : Int32) * (10 : Int32))), u6]) (S' := [.ref a0, .int (y2 - y2 / (10 : Int32) * (10 : Int32))]) (h' := h) rfl ?_
      refine k_gI rfl rfl Ta0 ?_
      refine k_b (g := (z_iv h a0 6) ≤ (y2 - y2 / (10 : Int32) * (10 : Int32))) (pc' := 55) (L' := [some (.ref a0), some (.int y1), some (.int (y2 / (10 : Int32))), some (.int y3), some (.int y4), some (.int (y2 - y2 / (10 : Int32) * (10 : Int32))), u6]) (S' := []) (pc2 := 42) (L2 := [some (.ref a0), some (.int y1), some (.int (y2 / (10 : Int32))), some (.int y3), some (.int y4), some (.int (y2 - y2 / (10 : Int32) * (10 : Int32))), u6]) (S2 := []) (h' := h) (h2 := h) rfl rfl (fun hc => ?_) (fun hc => ?_)
      · have c4 := hc
        refine k_n 1 (pc' := 56) (L' := [some (.ref a0), some (.int y1), some (.int (y2 / (10 : Int32))), some (.int y3), some (.int y4), some (.int (y2 - y2 / (10 : Int32) * (10 : Int32))), u6]) (S' := [.int (0 : Int32)]) (h' := h) rfl ?_
        rw [show z_bt (¬ ((y2 - y2 / (10 : Int32) * (10 : Int32)) < 0) ∧ (¬ ((z_iv h a0 6) ≤ (y2 - y2 / (10 : Int32) * (10 : Int32))) ∧ (((y3 >>> ((y2 - y2 / (10 : Int32) * (10 : Int32)) &&& 31)) &&& (1 : Int32)) = 0))) = 0 from z_bt_0.mpr ((fun q => (fun q => q.1 c4) q.2))] at hj6
        exact hj6
      · have c4 := hc
        refine k_n 5 (pc' := 48) (L' := [some (.ref a0), some (.int y1), some (.int (y2 / (10 : Int32))), some (.int y3), some (.int y4), some (.int (y2 - y2 / (10 : Int32) * (10 : Int32))), u6]) (S' := [.int ((y3 >>> ((y2 - y2 / (10 : Int32) * (10 : Int32)) &&& 31)) &&& (1 : Int32))]) (h' := h) rfl ?_
        refine k_b (g := ((y3 >>> ((y2 - y2 / (10 : Int32) * (10 : Int32)) &&& 31)) &&& (1 : Int32)) = 0) (pc' := 51) (L' := [some (.ref a0), some (.int y1), some (.int (y2 / (10 : Int32))), some (.int y3), some (.int y4), some (.int (y2 - y2 / (10 : Int32) * (10 : Int32))), u6]) (S' := []) (pc2 := 55) (L2 := [some (.ref a0), some (.int y1), some (.int (y2 / (10 : Int32))), some (.int y3), some (.int y4), some (.int (y2 - y2 / (10 : Int32) * (10 : Int32))), u6]) (S2 := []) (h' := h) (h2 := h) rfl rfl (fun hc => ?_) (fun hc => ?_)
        · have c5 := hc
          refine k_n 2 (pc' := 56) (L' := [some (.ref a0), some (.int y1), some (.int (y2 / (10 : Int32))), some (.int y3), some (.int y4), some (.int (y2 - y2 / (10 : Int32) * (10 : Int32))), u6]) (S' := [.int (1 : Int32)]) (h' := h) rfl ?_
          rw [show z_bt (¬ ((y2 - y2 / (10 : Int32) * (10 : Int32)) < 0) ∧ (¬ ((z_iv h a0 6) ≤ (y2 - y2 / (10 : Int32) * (10 : Int32))) ∧ (((y3 >>> ((y2 - y2 / (10 : Int32) * (10 : Int32)) &&& 31)) &&& (1 : Int32)) = 0))) = 1 from z_bt_1.mpr (⟨c3, ⟨c4, c5⟩⟩)] at hj6
          exact hj6
        · have c5 := hc
          refine k_n 1 (pc' := 56) (L' := [some (.ref a0), some (.int y1), some (.int (y2 / (10 : Int32))), some (.int y3), some (.int y4), some (.int (y2 - y2 / (10 : Int32) * (10 : Int32))), u6]) (S' := [.int (0 : Int32)]) (h' := h) rfl ?_
          rw [show z_bt (¬ ((y2 - y2 / (10 : Int32) * (10 : Int32)) < 0) ∧ (¬ ((z_iv h a0 6) ≤ (y2 - y2 / (10 : Int32) * (10 : Int32))) ∧ (((y3 >>> ((y2 - y2 / (10 : Int32) * (10 : Int32)) &&& 31)) &&& (1 : Int32)) = 0))) = 0 from z_bt_0.mpr ((fun q => (fun q => c5 q.2) q.2))] at hj6
          exact hj6
set_option maxRecDepth 20000 in
theorem X_66 (a0 : Nat) (h : zH) (W : CW h) (T0 : z_tg h a0 = 6) {Q : Int32 → zH → Prop} (H : KG z_pI 66 6 [some (.ref a0), some (.int (0 : Int32)), some (.int (0 : Int32)), some (.int (1 : Int32)), none] [] h Q) : KK z_pI 66 [.ref a0] h Q := by
  refine k_K (L := [some (.ref a0), none, none, none, none]) rfl ?_
  refine k_n 6 (pc' := 6) (L' := [some (.ref a0), some (.int (0 : Int32)), some (.int (0 : Int32)), some (.int (1 : Int32)), none]) (S' := []) (h' := h) rfl ?_
  exact H
set_option maxRecDepth 20000 in
theorem X_66_6 (a0 : Nat) (y1 : Int32) (y2 : Int32) (y3 : Int32) (u4 : Option Value) (h : zH) (W : CW h) (Ta0 : z_tg h a0 = 6) {Q : Int32 → zH → Prop} (H : if (z_iv h a0 6) ≤ y3 then (Q y2 h) else (if (6 : Int32) ≤ y3 then (Q y2 h) else ((0 ≤ y3.toInt ∧ y3.toInt < 6) ∧ (∃ v2 : Int32, KV z_pI 65 [.ref a0, .int y3] h v2 ∧ (((0 : Int32) ≤ (z_iv h (a0 + 2) (z_ix y3)) ∧ (z_iv h (a0 + 2) (z_ix y3)) ≤ (5 : Int32)) → 0 ≤ (z_iv h (a0 + 2) (z_ix y3)).toInt ∧ (z_iv h (a0 + 2) (z_ix y3)).toInt < 6) ∧ (∀ m6 : Int32, m6 = (if (0 : Int32) ≤ (z_iv h (a0 + 2) (z_ix y3)) ∧ (z_iv h (a0 + 2) (z_ix y3)) ≤ (5 : Int32) then ((z_iv h (a0 + 3) (z_ix (z_iv h (a0 + 2) (z_ix y3)))) * (y1 + v2)) else (0 : Int32)) → KG z_pI 66 6 [some (.ref a0), some (.int (y1 + v2)), some (.int (y2 + m6)), some (.int (y3 + (1 : Int32))), some (.int (z_iv h (a0 + 2) (z_ix y3)))] [] h Q))))) : KG z_pI 66 6 [some (.ref a0), some (.int y1), some (.int y2), some (.int y3), u4] [] h Q := by
  refine k_n 2 (pc' := 8) (L' := [some (.ref a0), some (.int y1), some (.int y2), some (.int y3), u4]) (S' := [.ref a0, .int y3]) (h' := h) rfl ?_
  refine k_gI rfl rfl Ta0 ?_
  refine k_b (g := (z_iv h a0 6) ≤ y3) (pc' := 68) (L' := [some (.ref a0), some (.int y1), some (.int y2), some (.int y3), u4]) (S' := []) (pc2 := 14) (L2 := [some (.ref a0), some (.int y1), some (.int y2), some (.int y3), u4]) (S2 := []) (h' := h) (h2 := h) rfl rfl (fun hc => ?_) (fun hc => ?_)
  · have hc := hc
    rw [if_pos hc] at H
    refine k_n 1 (pc' := 69) (L' := [some (.ref a0), some (.int y1), some (.int y2), some (.int y3), u4]) (S' := [.int y2]) (h' := h) rfl ?_
    exact k_r rfl rfl rfl H
  · have hc := hc
    rw [if_neg hc] at H
    refine k_n 2 (pc' := 17) (L' := [some (.ref a0), some (.int y1), some (.int y2), some (.int y3), u4]) (S' := [.int (6 : Int32), .int y3]) (h' := h) rfl ?_
    refine k_b (g := (6 : Int32) ≤ y3) (pc' := 68) (L' := [some (.ref a0), some (.int y1), some (.int y2), some (.int y3), u4]) (S' := []) (pc2 := 20) (L2 := [some (.ref a0), some (.int y1), some (.int y2), some (.int y3), u4]) (S2 := []) (h' := h) (h2 := h) rfl rfl (fun hc => ?_) (fun hc => ?_)
    · have hc := hc
      rw [if_pos hc] at H
      refine k_n 1 (pc' := 69) (L' := [some (.ref a0), some (.int y1), some (.int y2), some (.int y3), u4]) (S' := [.int y2]) (h' := h) rfl ?_
      exact k_r rfl rfl rfl H
    · have hc := hc
      rw [if_neg hc] at H
      refine k_n 1 (pc' := 21) (L' := [some (.ref a0), some (.int y1), some (.int y2), some (.int y3), u4]) (S' := [.ref a0]) (h' := h) rfl ?_
      refine k_gS (b := (a0 + 2)) rfl Ta0 (W.reOf (t := 6) (j := 3) (o := 2) (n := 6) (by decide) Ta0).1 ?_
      refine k_n 1 (pc' := 25) (L' := [some (.ref a0), some (.int y1), some (.int y2), some (.int y3), u4]) (S' := [.int y3, .ref (a0 + 2)]) (h' := h) rfl ?_
      obtain ⟨o1, H⟩ := H
      refine k_ia (c := 0) (n := 6) rfl (CW.tyOf (t := 6) (t' := 100) W (j := 3) Ta0 (W.reOf (t := 6) (j := 3) (o := 2) (n := 6) (by decide) Ta0).1 (by decide) rfl) (W.reOf (t := 6) (j := 3) (o := 2) (n := 6) (by decide) Ta0).2 o1 ?_
      refine k_n 4 (pc' := 31) (L' := [some (.ref a0), some (.int y1), some (.int y2), some (.int y3), some (.int (z_iv h (a0 + 2) (z_ix y3)))]) (S' := [.int y3, .ref a0, .int y1]) (h' := h) rfl ?_
      refine k_cI 65 2 rfl rfl rfl (A := [.ref a0, .int y3]) rfl rfl (z_rok_ref Ta0) (rest := [.int y1]) rfl (z_tyI rfl rfl) ?_
      obtain ⟨v2, k3, H⟩ := H
      refine k_P k3 ?_
      refine k_n 6 (pc' := 41) (L' := [some (.ref a0), some (.int (y1 + v2)), some (.int y2), some (.int y3), some (.int (z_iv h (a0 + 2) (z_ix y3)))]) (S' := [.int (5 : Int32), .int (0 : Int32), .int (z_iv h (a0 + 2) (z_ix y3)), .int y2]) (h' := h) rfl ?_
      refine k_cI 135 3 rfl rfl rfl (A := [.int (z_iv h (a0 + 2) (z_ix y3)), .int (0 : Int32), .int (5 : Int32)]) rfl rfl rfl (rest := [.int y2]) rfl (z_tyI rfl rfl) ?_
      refine c_within (z_iv h (a0 + 2) (z_ix y3)) (0 : Int32) (5 : Int32) h ?_
      obtain ⟨o5, H⟩ := H
      obtain ⟨m6, em6⟩ : ∃ m : Int32, m = (if (0 : Int32) ≤ (z_iv h (a0 + 2) (z_ix y3)) ∧ (z_iv h (a0 + 2) (z_ix y3)) ≤ (5 : Int32) then ((z_iv h (a0 + 3) (z_ix (z_iv h (a0 + 2) (z_ix y3)))) * (y1 + v2)) else (0 : Int32)) := ⟨_, rfl⟩
      have H := H m6 em6
      have hj7 : KG z_pI 66 60 [some (.ref a0), some (.int (y1 + v2)), some (.int y2), some (.int y3), some (.int (z_iv h (a0 + 2) (z_ix y3)))] [.int m6, .int y2] h Q := by
        refine k_n 4 (pc' := 6) (L' := [some (.ref a0), some (.int (y1 + v2)), some (.int (y2 + m6)), some (.int (y3 + (1 : Int32))), some (.int (z_iv h (a0 + 2) (z_ix y3)))]) (S' := []) (h' := h) rfl ?_
        exact H
      refine k_b (g := z_bt ((0 : Int32) ≤ (z_iv h (a0 + 2) (z_ix y3)) ∧ (z_iv h (a0 + 2) (z_ix y3)) ≤ (5 : Int32)) = 0) (pc' := 59) (L' := [some (.ref a0), some (.int (y1 + v2)), some (.int y2), some (.int y3), some (.int (z_iv h (a0 + 2) (z_ix y3)))]) (S' := [.int y2]) (pc2 := 47) (L2 := [some (.ref a0), some (.int (y1 + v2)), some (.int y2), some (.int y3), some (.int (z_iv h (a0 + 2) (z_ix y3)))]) (S2 := [.int y2]) (h' := h) (h2 := h) rfl rfl (fun hc => ?_) (fun hc => ?_)
      · have c4 := z_bt_0.mp hc
        refine k_n 1 (pc' := 60) (L' := [some (.ref a0), some (.int (y1 + v2)), some (.int y2), some (.int y3), some (.int (z_iv h (a0 + 2) (z_ix y3)))]) (S' := [.int (0 : Int32), .int y2]) (h' := h) rfl ?_
        rw [(em6.trans (by rw [if_neg c4]) : m6 = (0 : Int32))] at hj7
        exact hj7
      · have c4 := Decidable.not_not.mp (fun q => hc (z_bt_0.mpr q))
        refine k_n 1 (pc' := 48) (L' := [some (.ref a0), some (.int (y1 + v2)), some (.int y2), some (.int y3), some (.int (z_iv h (a0 + 2) (z_ix y3)))]) (S' := [.ref a0, .int y2]) (h' := h) rfl ?_
        refine k_gS (b := (a0 + 3)) rfl Ta0 (W.reOf (t := 6) (j := 4) (o := 3) (n := 6) (by decide) Ta0).1 ?_
        refine k_n 1 (pc' := 53) (L' := [some (.ref a0), some (.int (y1 + v2)), some (.int y2), some (.int y3), some (.int (z_iv h (a0 + 2) (z_ix y3)))]) (S' := [.int (z_iv h (a0 + 2) (z_ix y3)), .ref (a0 + 3), .int y2]) (h' := h) rfl ?_
        refine k_ia (c := 0) (n := 6) rfl (CW.tyOf (t := 6) (t' := 100) W (j := 4) Ta0 (W.reOf (t := 6) (j := 4) (o := 3) (n := 6) (by decide) Ta0).1 (by decide) rfl) (W.reOf (t := 6) (j := 4) (o := 3) (n := 6) (by decide) Ta0).2 (o5 c4) ?_
        refine k_n 3 (pc' := 60) (L' := [some (.ref a0), some (.int (y1 + v2)), some (.int y2), some (.int y3), some (.int (z_iv h (a0 + 2) (z_ix y3)))]) (S' := [.int ((z_iv h (a0 + 3) (z_ix (z_iv h (a0 + 2) (z_ix y3)))) * (y1 + v2)), .int y2]) (h' := h) rfl ?_
        rw [(em6.trans (by rw [if_pos c4]) : m6 = ((z_iv h (a0 + 3) (z_ix (z_iv h (a0 + 2) (z_ix y3)))) * (y1 + v2)))] at hj7
        exact hj7
set_option maxRecDepth 20000 in
theorem X_63 (a0 : Nat) (h : zH) (W : CW h) (T0 : z_tg h a0 = 6) {Q : Int32 → zH → Prop} (H : KG z_pI 63 7 [some (.ref a0), some (.int ((z_iv h a0 6) - (2 : Int32))), none, none, none] [] h Q) : KK z_pI 63 [.ref a0] h Q := by
  refine k_K (L := [some (.ref a0), none, none, none, none]) rfl ?_
  refine k_n 1 (pc' := 1) (L' := [some (.ref a0), none, none, none, none]) (S' := [.ref a0]) (h' := h) rfl ?_
  refine k_gI rfl rfl T0 ?_
  refine k_n 3 (pc' := 7) (L' := [some (.ref a0), some (.int ((z_iv h a0 6) - (2 : Int32))), none, none, none]) (S' := []) (h' := h) rfl ?_
  exact H
set_option maxRecDepth 20000 in
theorem X_63_7 (a0 : Nat) (y1 : Int32) (u2 : Option Value) (u3 : Option Value) (u4 : Option Value) (h : zH) (W : CW h) (Ta0 : z_tg h a0 = 6) {Q : Int32 → zH → Prop} (H : if y1 < (1 : Int32) then (if (1 : Int32) ≤ y1 then (KG z_pI 63 49 [some (.ref a0), some (.int y1), some (.int ((z_iv h a0 6) - (1 : Int32))), u3, u4] [] h Q) else (Q (0 : Int32) h)) else ((0 ≤ y1.toInt ∧ y1.toInt < 6) ∧ (0 ≤ (y1 + (1 : Int32)).toInt ∧ (y1 + (1 : Int32)).toInt < 6) ∧ (if (z_iv h (a0 + 2) (z_ix y1)) ≤ (z_iv h (a0 + 2) (z_ix (y1 + (1 : Int32)))) then (if (1 : Int32) ≤ y1 then (KG z_pI 63 49 [some (.ref a0), some (.int y1), some (.int ((z_iv h a0 6) - (1 : Int32))), u3, u4] [] h Q) else (Q (0 : Int32) h)) else (KG z_pI 63 7 [some (.ref a0), some (.int (y1 + (-1 : Int32))), u2, u3, u4] [] h Q)))) : KG z_pI 63 7 [some (.ref a0), some (.int y1), u2, u3, u4] [] h Q := by
  refine k_n 2 (pc' := 9) (L' := [some (.ref a0), some (.int y1), u2, u3, u4]) (S' := [.int (1 : Int32), .int y1]) (h' := h) rfl ?_
  refine k_b (g := y1 < (1 : Int32)) (pc' := 35) (L' := [some (.ref a0), some (.int y1), u2, u3, u4]) (S' := []) (pc2 := 12) (L2 := [some (.ref a0), some (.int y1), u2, u3, u4]) (S2 := []) (h' := h) (h2 := h) rfl rfl (fun hc => ?_) (fun hc => ?_)
  · have hc := hc
    rw [if_pos hc] at H
    refine k_n 2 (pc' := 37) (L' := [some (.ref a0), some (.int y1), u2, u3, u4]) (S' := [.int (1 : Int32), .int y1]) (h' := h) rfl ?_
    refine k_b (g := (1 : Int32) ≤ y1) (pc' := 42) (L' := [some (.ref a0), some (.int y1), u2, u3, u4]) (S' := []) (pc2 := 40) (L2 := [some (.ref a0), some (.int y1), u2, u3, u4]) (S2 := []) (h' := h) (h2 := h) rfl rfl (fun hc => ?_) (fun hc => ?_)
    · have hc := hc
      rw [if_pos hc] at H
      refine k_n 1 (pc' := 43) (L' := [some (.ref a0), some (.int y1), u2, u3, u4]) (S' := [.ref a0]) (h' := h) rfl ?_
      refine k_gI rfl rfl Ta0 ?_
      refine k_n 3 (pc' := 49) (L' := [some (.ref a0), some (.int y1), some (.int ((z_iv h a0 6) - (1 : Int32))), u3, u4]) (S' := []) (h' := h) rfl ?_
      exact H
    · have hc := hc
      rw [if_neg hc] at H
      refine k_n 1 (pc' := 41) (L' := [some (.ref a0), some (.int y1), u2, u3, u4]) (S' := [.int (0 : Int32)]) (h' := h) rfl ?_
      exact k_r rfl rfl rfl H
  · have hc := hc
    rw [if_neg hc] at H
    refine k_n 1 (pc' := 13) (L' := [some (.ref a0), some (.int y1), u2, u3, u4]) (S' := [.ref a0]) (h' := h) rfl ?_
    refine k_gS (b := (a0 + 2)) rfl Ta0 (W.reOf (t := 6) (j := 3) (o := 2) (n := 6) (by decide) Ta0).1 ?_
    refine k_n 1 (pc' := 17) (L' := [some (.ref a0), some (.int y1), u2, u3, u4]) (S' := [.int y1, .ref (a0 + 2)]) (h' := h) rfl ?_
    obtain ⟨o1, H⟩ := H
    refine k_ia (c := 0) (n := 6) rfl (CW.tyOf (t := 6) (t' := 100) W (j := 3) Ta0 (W.reOf (t := 6) (j := 3) (o := 2) (n := 6) (by decide) Ta0).1 (by decide) rfl) (W.reOf (t := 6) (j := 3) (o := 2) (n := 6) (by decide) Ta0).2 o1 ?_
    refine k_n 1 (pc' := 19) (L' := [some (.ref a0), some (.int y1), u2, u3, u4]) (S' := [.ref a0, .int (z_iv h (a0 + 2) (z_ix y1))]) (h' := h) rfl ?_
    refine k_gS (b := (a0 + 2)) rfl Ta0 (W.reOf (t := 6) (j := 3) (o := 2) (n := 6) (by decide) Ta0).1 ?_
    refine k_n 3 (pc' := 25) (L' := [some (.ref a0), some (.int y1), u2, u3, u4]) (S' := [.int (y1 + (1 : Int32)), .ref (a0 + 2), .int (z_iv h (a0 + 2) (z_ix y1))]) (h' := h) rfl ?_
    obtain ⟨o2, H⟩ := H
    refine k_ia (c := 0) (n := 6) rfl (CW.tyOf (t := 6) (t' := 100) W (j := 3) Ta0 (W.reOf (t := 6) (j := 3) (o := 2) (n := 6) (by decide) Ta0).1 (by decide) rfl) (W.reOf (t := 6) (j := 3) (o := 2) (n := 6) (by decide) Ta0).2 o2 ?_
    refine k_b (g := (z_iv h (a0 + 2) (z_ix y1)) ≤ (z_iv h (a0 + 2) (z_ix (y1 + (1 : Int32))))) (pc' := 35) (L' := [some (.ref a0), some (.int y1), u2, u3, u4]) (S' := []) (pc2 := 29) (L2 := [some (.ref a0), some (.int y1), u2, u3, u4]) (S2 := []) (h' := h) (h2 := h) rfl rfl (fun hc => ?_) (fun hc => ?_)
    · have hc := hc
      rw [if_pos hc] at H
      refine k_n 2 (pc' := 37) (L' := [some (.ref a0), some (.int y1), u2, u3, u4]) (S' := [.int (1 : Int32), .int y1]) (h' := h) rfl ?_
      refine k_b (g := (1 : Int32) ≤ y1) (pc' := 42) (L' := [some (.ref a0), some (.int y1), u2, u3, u4]) (S' := []) (pc2 := 40) (L2 := [some (.ref a0), some (.int y1), u2, u3, u4]) (S2 := []) (h' := h) (h2 := h) rfl rfl (fun hc => ?_) (fun hc => ?_)
      · have hc := hc
        rw [if_pos hc] at H
        refine k_n 1 (pc' := 43) (L' := [some (.ref a0), some (.int y1), u2, u3, u4]) (S' := [.ref a0]) (h' := h) rfl ?_
        refine k_gI rfl rfl Ta0 ?_
        refine k_n 3 (pc' := 49) (L' := [some (.ref a0), some (.int y1), some (.int ((z_iv h a0 6) - (1 : Int32))), u3, u4]) (S' := []) (h' := h) rfl ?_
        exact H
      · have hc := hc
        rw [if_neg hc] at H
        refine k_n 1 (pc' := 41) (L' := [some (.ref a0), some (.int y1), u2, u3, u4]) (S' := [.int (0 : Int32)]) (h' := h) rfl ?_
        exact k_r rfl rfl rfl H
    · have hc := hc
      rw [if_neg hc] at H
      refine k_n 2 (pc' := 7) (L' := [some (.ref a0), some (.int (y1 + (-1 : Int32))), u2, u3, u4]) (S' := []) (h' := h) rfl ?_
      exact H
set_option maxRecDepth 20000 in
theorem X_63_49 (a0 : Nat) (y1 : Int32) (y2 : Int32) (u3 : Option Value) (u4 : Option Value) (h : zH) (W : CW h) (Ta0 : z_tg h a0 = 6) {Q : Int32 → zH → Prop} (H : if y2 ≤ y1 then (KK z_pV 64 [.ref a0, .int y1, .int y2] h (fun _ h3 => Sh h h3 ∧ KG z_pI 63 93 [some (.ref a0), some (.int y1), some (.int y2), some (.int (y1 + (1 : Int32))), some (.int ((z_iv h3 a0 6) - (1 : Int32)))] [] h3 Q)) else ((0 ≤ y2.toInt ∧ y2.toInt < 6) ∧ (0 ≤ y1.toInt ∧ y1.toInt < 6) ∧ (if (z_iv h (a0 + 2) (z_ix y1)) ≤ (z_iv h (a0 + 2) (z_ix y2)) then (KK z_pV 64 [.ref a0, .int y1, .int y2] h (fun _ h7 => Sh h h7 ∧ KG z_pI 63 93 [some (.ref a0), some (.int y1), some (.int y2), some (.int (y1 + (1 : Int32))), some (.int ((z_iv h7 a0 6) - (1 : Int32)))] [] h7 Q)) else (KG z_pI 63 49 [some (.ref a0), some (.int y1), some (.int (y2 + (-1 : Int32))), u3, u4] [] h Q)))) : KG z_pI 63 49 [some (.ref a0), some (.int y1), some (.int y2), u3, u4] [] h Q := by
  refine k_n 2 (pc' := 51) (L' := [some (.ref a0), some (.int y1), some (.int y2), u3, u4]) (S' := [.int y1, .int y2]) (h' := h) rfl ?_
  refine k_b (g := y2 ≤ y1) (pc' := 75) (L' := [some (.ref a0), some (.int y1), some (.int y2), u3, u4]) (S' := []) (pc2 := 54) (L2 := [some (.ref a0), some (.int y1), some (.int y2), u3, u4]) (S2 := []) (h' := h) (h2 := h) rfl rfl (fun hc => ?_) (fun hc => ?_)
  · have hc := hc
    rw [if_pos hc] at H
    refine k_n 3 (pc' := 78) (L' := [some (.ref a0), some (.int y1), some (.int y2), u3, u4]) (S' := [.int y2, .int y1, .ref a0]) (h' := h) rfl ?_
    refine k_cV 64 3 rfl rfl rfl (A := [.ref a0, .int y1, .int y2]) rfl rfl (z_rok_ref Ta0) (rest := []) rfl rfl ?_
    refine H.mono (fun _ h3 H => ?_)
    obtain ⟨E4, H⟩ := H
    refine k_n 5 (pc' := 86) (L' := [some (.ref a0), some (.int y1), some (.int y2), some (.int (y1 + (1 : Int32))), u4]) (S' := [.ref a0]) (h' := h3) rfl ?_
    refine k_gI rfl rfl (Sh.tg E4 Ta0) ?_
    refine k_n 3 (pc' := 93) (L' := [some (.ref a0), some (.int y1), some (.int y2), some (.int (y1 + (1 : Int32))), some (.int ((z_iv h3 a0 6) - (1 : Int32)))]) (S' := []) (h' := h3) rfl ?_
    exact H
  · have hc := hc
    rw [if_neg hc] at H
    refine k_n 1 (pc' := 55) (L' := [some (.ref a0), some (.int y1), some (.int y2), u3, u4]) (S' := [.ref a0]) (h' := h) rfl ?_
    refine k_gS (b := (a0 + 2)) rfl Ta0 (W.reOf (t := 6) (j := 3) (o := 2) (n := 6) (by decide) Ta0).1 ?_
    refine k_n 1 (pc' := 59) (L' := [some (.ref a0), some (.int y1), some (.int y2), u3, u4]) (S' := [.int y2, .ref (a0 + 2)]) (h' := h) rfl ?_
    obtain ⟨o5, H⟩ := H
    refine k_ia (c := 0) (n := 6) rfl (CW.tyOf (t := 6) (t' := 100) W (j := 3) Ta0 (W.reOf (t := 6) (j := 3) (o := 2) (n := 6) (by decide) Ta0).1 (by decide) rfl) (W.reOf (t := 6) (j := 3) (o := 2) (n := 6) (by decide) Ta0).2 o5 ?_
    refine k_n 1 (pc' := 61) (L' := [some (.ref a0), some (.int y1), some (.int y2), u3, u4]) (S' := [.ref a0, .int (z_iv h (a0 + 2) (z_ix y2))]) (h' := h) rfl ?_
    refine k_gS (b := (a0 + 2)) rfl Ta0 (W.reOf (t := 6) (j := 3) (o := 2) (n := 6) (by decide) Ta0).1 ?_
    refine k_n 1 (pc' := 65) (L' := [some (.ref a0), some (.int y1), some (.int y2), u3, u4]) (S' := [.int y1, .ref (a0 + 2), .int (z_iv h (a0 + 2) (z_ix y2))]) (h' := h) rfl ?_
    obtain ⟨o6, H⟩ := H
    refine k_ia (c := 0) (n := 6) rfl (CW.tyOf (t := 6) (t' := 100) W (j := 3) Ta0 (W.reOf (t := 6) (j := 3) (o := 2) (n := 6) (by decide) Ta0).1 (by decide) rfl) (W.reOf (t := 6) (j := 3) (o := 2) (n := 6) (by decide) Ta0).2 o6 ?_
    refine k_b (g := (z_iv h (a0 + 2) (z_ix y1)) ≤ (z_iv h (a0 + 2) (z_ix y2))) (pc' := 75) (L' := [some (.ref a0), some (.int y1), some (.int y2), u3, u4]) (S' := []) (pc2 := 69) (L2 := [some (.ref a0), some (.int y1), some (.int y2), u3, u4]) (S2 := []) (h' := h) (h2 := h) rfl rfl (fun hc => ?_) (fun hc => ?_)
    · have hc := hc
      rw [if_pos hc] at H
      refine k_n 3 (pc' := 78) (L' := [some (.ref a0), some (.int y1), some (.int y2), u3, u4]) (S' := [.int y2, .int y1, .ref a0]) (h' := h) rfl ?_
      refine k_cV 64 3 rfl rfl rfl (A := [.ref a0, .int y1, .int y2]) rfl rfl (z_rok_ref Ta0) (rest := []) rfl rfl ?_
      refine H.mono (fun _ h7 H => ?_)
      obtain ⟨E8, H⟩ := H
      refine k_n 5 (pc' := 86) (L' := [some (.ref a0), some (.int y1), some (.int y2), some (.int (y1 + (1 : Int32))), u4]) (S' := [.ref a0]) (h' := h7) rfl ?_
      refine k_gI rfl rfl (Sh.tg E8 Ta0) ?_
      refine k_n 3 (pc' := 93) (L' := [some (.ref a0), some (.int y1), some (.int y2), some (.int (y1 + (1 : Int32))), some (.int ((z_iv h7 a0 6) - (1 : Int32)))]) (S' := []) (h' := h7) rfl ?_
      exact H
    · have hc := hc
      rw [if_neg hc] at H
      refine k_n 2 (pc' := 49) (L' := [some (.ref a0), some (.int y1), some (.int (y2 + (-1 : Int32))), u3, u4]) (S' := []) (h' := h) rfl ?_
      exact H
set_option maxRecDepth 20000 in
theorem X_63_93 (a0 : Nat) (y1 : Int32) (y2 : Int32) (y3 : Int32) (y4 : Int32) (h : zH) (W : CW h) (Ta0 : z_tg h a0 = 6) {Q : Int32 → zH → Prop} (H : if y4 ≤ y3 then (Q (1 : Int32) h) else (KK z_pV 64 [.ref a0, .int y3, .int y4] h (fun _ h9 => Sh h h9 ∧ KG z_pI 63 93 [some (.ref a0), some (.int y1), some (.int y2), some (.int (y3 + (1 : Int32))), some (.int (y4 + (-1 : Int32)))] [] h9 Q))) : KG z_pI 63 93 [some (.ref a0), some (.int y1), some (.int y2), some (.int y3), some (.int y4)] [] h Q := by
  refine k_n 2 (pc' := 96) (L' := [some (.ref a0), some (.int y1), some (.int y2), some (.int y3), some (.int y4)]) (S' := [.int y4, .int y3]) (h' := h) rfl ?_
  refine k_b (g := y4 ≤ y3) (pc' := 115) (L' := [some (.ref a0), some (.int y1), some (.int y2), some (.int y3), some (.int y4)]) (S' := []) (pc2 := 99) (L2 := [some (.ref a0), some (.int y1), some (.int y2), some (.int y3), some (.int y4)]) (S2 := []) (h' := h) (h2 := h) rfl rfl (fun hc => ?_) (fun hc => ?_)
  · have hc := hc
    rw [if_pos hc] at H
    refine k_n 1 (pc' := 116) (L' := [some (.ref a0), some (.int y1), some (.int y2), some (.int y3), some (.int y4)]) (S' := [.int (1 : Int32)]) (h' := h) rfl ?_
    exact k_r rfl rfl rfl H
  · have hc := hc
    rw [if_neg hc] at H
    refine k_n 3 (pc' := 103) (L' := [some (.ref a0), some (.int y1), some (.int y2), some (.int y3), some (.int y4)]) (S' := [.int y4, .int y3, .ref a0]) (h' := h) rfl ?_
    refine k_cV 64 3 rfl rfl rfl (A := [.ref a0, .int y3, .int y4]) rfl rfl (z_rok_ref Ta0) (rest := []) rfl rfl ?_
    refine H.mono (fun _ h9 H => ?_)
    obtain ⟨E10, H⟩ := H
    refine k_n 3 (pc' := 93) (L' := [some (.ref a0), some (.int y1), some (.int y2), some (.int (y3 + (1 : Int32))), some (.int (y4 + (-1 : Int32)))]) (S' := []) (h' := h9) rfl ?_
    exact H
set_option maxRecDepth 20000 in
theorem X_62 (a0 : Nat) (h : zH) (W : CW h) (T0 : z_tg h a0 = 6) {Q : Unit → zH → Prop} (H : ∃ v1 : Int32, KV z_pI 66 [.ref a0] h v1 ∧ KG z_pV 62 15 [some (.ref a0), some (.int (1 : Int32))] [] (z_sI (z_sI h a0 0 v1) a0 1 (0 : Int32)) Q) : KK z_pV 62 [.ref a0] h Q := by
  refine k_K (L := [some (.ref a0), none]) rfl ?_
  refine k_n 2 (pc' := 2) (L' := [some (.ref a0), none]) (S' := [.ref a0, .ref a0]) (h' := h) rfl ?_
  refine k_cI 66 1 rfl rfl rfl (A := [.ref a0]) rfl rfl (z_rok_ref T0) (rest := [.ref a0]) rfl (z_tyI rfl rfl) ?_
  obtain ⟨v1, k2, H⟩ := H
  refine k_P k2 ?_
  refine k_pI rfl T0 ?_
  refine k_n 2 (pc' := 10) (L' := [some (.ref a0), none]) (S' := [.int (0 : Int32), .ref a0]) (h' := (z_sI h a0 0 v1)) rfl ?_
  refine k_pI rfl (z_tgI T0) ?_
  refine k_n 2 (pc' := 15) (L' := [some (.ref a0), some (.int (1 : Int32))]) (S' := []) (h' := (z_sI (z_sI h a0 0 v1) a0 1 (0 : Int32))) rfl ?_
  exact H
set_option maxRecDepth 20000 in
theorem X_62_15 (a0 : Nat) (y1 : Int32) (h : zH) (W : CW h) (Ta0 : z_tg h a0 = 6) {Q : Unit → zH → Prop} (H : if (z_iv h a0 6) ≤ y1 then ((¬ (a0 + 2) = (a0 + 1) ∧ (0 ≤ (0 : Int32).toInt ∧ 0 ≤ (0 : Int32).toInt ∧ 0 ≤ (6 : Int32).toInt ∧ (0 : Int32).toInt + (6 : Int32).toInt ≤ 6 ∧ (0 : Int32).toInt + (6 : Int32).toInt ≤ 6)) ∧ Q () (z_sW h (a0 + 1) (va_cpy (z_iv h (a0 + 2)) (z_iv h (a0 + 1)) (z_ix (0 : Int32)) (z_ix (0 : Int32)) (z_ix (6 : Int32))))) else (∃ v4 : Int32, KV z_pI 65 [.ref a0, .int y1] h v4 ∧ KG z_pV 62 15 [some (.ref a0), some (.int (y1 + (1 : Int32)))] [] (z_sI h a0 1 ((z_iv h a0 1) + v4)) Q)) : KG z_pV 62 15 [some (.ref a0), some (.int y1)] [] h Q := by
  refine k_n 2 (pc' := 17) (L' := [some (.ref a0), some (.int y1)]) (S' := [.ref a0, .int y1]) (h' := h) rfl ?_
  refine k_gI rfl rfl Ta0 ?_
  refine k_b (g := (z_iv h a0 6) ≤ y1) (pc' := 43) (L' := [some (.ref a0), some (.int y1)]) (S' := []) (pc2 := 23) (L2 := [some (.ref a0), some (.int y1)]) (S2 := []) (h' := h) (h2 := h) rfl rfl (fun hc => ?_) (fun hc => ?_)
  · have hc := hc
    rw [if_pos hc] at H
    refine k_n 1 (pc' := 44) (L' := [some (.ref a0), some (.int y1)]) (S' := [.ref a0]) (h' := h) rfl ?_
    refine k_gS (b := (a0 + 2)) rfl Ta0 (W.reOf (t := 6) (j := 3) (o := 2) (n := 6) (by decide) Ta0).1 ?_
    refine k_n 2 (pc' := 49) (L' := [some (.ref a0), some (.int y1)]) (S' := [.ref a0, .int (0 : Int32), .ref (a0 + 2)]) (h' := h) rfl ?_
    refine k_gS (b := (a0 + 1)) rfl Ta0 (W.reOf (t := 6) (j := 2) (o := 1) (n := 6) (by decide) Ta0).1 ?_
    refine k_n 2 (pc' := 55) (L' := [some (.ref a0), some (.int y1)]) (S' := [.int (6 : Int32), .int (0 : Int32), .ref (a0 + 1), .int (0 : Int32), .ref (a0 + 2)]) (h' := h) rfl ?_
    obtain ⟨o3, H⟩ := H
    refine k_cp rfl (CW.tyOf (t := 6) (t' := 100) W (j := 3) Ta0 (W.reOf (t := 6) (j := 3) (o := 2) (n := 6) (by decide) Ta0).1 (by decide) rfl) (CW.tyOf (t := 6) (t' := 100) W (j := 2) Ta0 (W.reOf (t := 6) (j := 2) (o := 1) (n := 6) (by decide) Ta0).1 (by decide) rfl) o3.1 (W.reOf (t := 6) (j := 3) (o := 2) (n := 6) (by decide) Ta0).2 (W.reOf (t := 6) (j := 2) (o := 1) (n := 6) (by decide) Ta0).2 o3.2 ?_
    exact k_r rfl rfl rfl H
  · have hc := hc
    rw [if_neg hc] at H
    refine k_n 2 (pc' := 25) (L' := [some (.ref a0), some (.int y1)]) (S' := [.ref a0, .ref a0]) (h' := h) rfl ?_
    refine k_gI rfl rfl Ta0 ?_
    refine k_n 2 (pc' := 30) (L' := [some (.ref a0), some (.int y1)]) (S' := [.int y1, .ref a0, .int (z_iv h a0 1), .ref a0]) (h' := h) rfl ?_
    refine k_cI 65 2 rfl rfl rfl (A := [.ref a0, .int y1]) rfl rfl (z_rok_ref Ta0) (rest := [.int (z_iv h a0 1), .ref a0]) rfl (z_tyI rfl rfl) ?_
    obtain ⟨v4, k5, H⟩ := H
    refine k_P k5 ?_
    refine k_n 1 (pc' := 34) (L' := [some (.ref a0), some (.int y1)]) (S' := [.int ((z_iv h a0 1) + v4), .ref a0]) (h' := h) rfl ?_
    refine k_pI rfl Ta0 ?_
    refine k_n 2 (pc' := 15) (L' := [some (.ref a0), some (.int (y1 + (1 : Int32)))]) (S' := []) (h' := (z_sI h a0 1 ((z_iv h a0 1) + v4))) rfl ?_
    exact H
set_option maxRecDepth 20000 in
theorem X_60 (a0 : Nat) (x1 : Int32) (h : zH) (W : CW h) (T0 : z_tg h a0 = 6) {Q : Unit → zH → Prop} (H : KK z_pV 61 [.ref a0, .int x1] h (fun _ h1 => Sh h h1 ∧ KK z_pV 62 [.ref a0] h1 (fun _ h3 => Sh h1 h3 ∧ KK z_pI 63 [.ref a0] h3 (fun r7 h5 => Sh h3 h5 ∧ KG z_pV 60 16 [some (.ref a0), some (.int x1), some (.int r7), some (.int (1 : Int32))] [] h5 Q)))) : KK z_pV 60 [.ref a0, .int x1] h Q := by
  refine k_K (L := [some (.ref a0), some (.int x1), none, none]) rfl ?_
  refine k_n 2 (pc' := 2) (L' := [some (.ref a0), some (.int x1), none, none]) (S' := [.int x1, .ref a0]) (h' := h) rfl ?_
  refine k_cV 61 2 rfl rfl rfl (A := [.ref a0, .int x1]) rfl rfl (z_rok_ref T0) (rest := []) rfl rfl ?_
  refine H.mono (fun _ h1 H => ?_)
  obtain ⟨E2, H⟩ := H
  refine k_n 1 (pc' := 6) (L' := [some (.ref a0), some (.int x1), none, none]) (S' := [.ref a0]) (h' := h1) rfl ?_
  refine k_cV 62 1 rfl rfl rfl (A := [.ref a0]) rfl rfl (z_rok_ref (Sh.tg E2 T0)) (rest := []) rfl rfl ?_
  refine H.mono (fun _ h3 H => ?_)
  obtain ⟨E4, H⟩ := H
  refine k_n 1 (pc' := 10) (L' := [some (.ref a0), some (.int x1), none, none]) (S' := [.ref a0]) (h' := h3) rfl ?_
  refine k_cI 63 1 rfl rfl rfl (A := [.ref a0]) rfl rfl (z_rok_ref (Sh.tg E4 (Sh.tg E2 T0))) (rest := []) rfl (z_tyI rfl rfl) ?_
  refine H.mono (fun r7 h5 H => ?_)
  obtain ⟨E6, H⟩ := H
  refine k_n 3 (pc' := 16) (L' := [some (.ref a0), some (.int x1), some (.int r7), some (.int (1 : Int32))]) (S' := []) (h' := h5) rfl ?_
  exact H
set_option maxRecDepth 20000 in
theorem X_60_16 (a0 : Nat) (y1 : Int32) (y2 : Int32) (y3 : Int32) (h : zH) (W : CW h) (Ta0 : z_tg h a0 = 6) {Q : Unit → zH → Prop} (H : if y2 = 0 then (Q () h) else (if (120 : Int32) ≤ y3 then (Q () h) else (∃ v8 : Int32, KV z_pI 66 [.ref a0] h v8 ∧ (if (z_iv h a0 0) ≤ v8 then (KK z_pI 63 [.ref a0] h (fun r12 h10 => Sh h h10 ∧ KG z_pV 60 16 [some (.ref a0), some (.int y1), some (.int r12), some (.int (y3 + (1 : Int32)))] [] h10 Q)) else (KK z_pV 62 [.ref a0] h (fun _ h13 => Sh h h13 ∧ KK z_pI 63 [.ref a0] h13 (fun r17 h15 => Sh h13 h15 ∧ KG z_pV 60 16 [some (.ref a0), some (.int y1), some (.int r17), some (.int (y3 + (1 : Int32)))] [] h15 Q))))))) : KG z_pV 60 16 [some (.ref a0), some (.int y1), some (.int y2), some (.int y3)] [] h Q := by
  refine k_n 1 (pc' := 17) (L' := [some (.ref a0), some (.int y1), some (.int y2), some (.int y3)]) (S' := [.int y2]) (h' := h) rfl ?_
  refine k_b (g := y2 = 0) (pc' := 52) (L' := [some (.ref a0), some (.int y1), some (.int y2), some (.int y3)]) (S' := []) (pc2 := 20) (L2 := [some (.ref a0), some (.int y1), some (.int y2), some (.int y3)]) (S2 := []) (h' := h) (h2 := h) rfl rfl (fun hc => ?_) (fun hc => ?_)
  · have hc := hc
    rw [if_pos hc] at H
    exact k_r rfl rfl rfl H
  · have hc := hc
    rw [if_neg hc] at H
    refine k_n 2 (pc' := 23) (L' := [some (.ref a0), some (.int y1), some (.int y2), some (.int y3)]) (S' := [.int (120 : Int32), .int y3]) (h' := h) rfl ?_
    refine k_b (g := (120 : Int32) ≤ y3) (pc' := 52) (L' := [some (.ref a0), some (.int y1), some (.int y2), some (.int y3)]) (S' := []) (pc2 := 26) (L2 := [some (.ref a0), some (.int y1), some (.int y2), some (.int y3)]) (S2 := []) (h' := h) (h2 := h) rfl rfl (fun hc => ?_) (fun hc => ?_)
    · have hc := hc
      rw [if_pos hc] at H
      exact k_r rfl rfl rfl H
    · have hc := hc
      rw [if_neg hc] at H
      refine k_n 1 (pc' := 27) (L' := [some (.ref a0), some (.int y1), some (.int y2), some (.int y3)]) (S' := [.ref a0]) (h' := h) rfl ?_
      refine k_cI 66 1 rfl rfl rfl (A := [.ref a0]) rfl rfl (z_rok_ref Ta0) (rest := []) rfl (z_tyI rfl rfl) ?_
      obtain ⟨v8, k9, H⟩ := H
      refine k_P k9 ?_
      refine k_n 1 (pc' := 31) (L' := [some (.ref a0), some (.int y1), some (.int y2), some (.int y3)]) (S' := [.ref a0, .int v8]) (h' := h) rfl ?_
      refine k_gI rfl rfl Ta0 ?_
      refine k_b (g := (z_iv h a0 0) ≤ v8) (pc' := 41) (L' := [some (.ref a0), some (.int y1), some (.int y2), some (.int y3)]) (S' := []) (pc2 := 37) (L2 := [some (.ref a0), some (.int y1), some (.int y2), some (.int y3)]) (S2 := []) (h' := h) (h2 := h) rfl rfl (fun hc => ?_) (fun hc => ?_)
      · have hc := hc
        rw [if_pos hc] at H
        refine k_n 1 (pc' := 42) (L' := [some (.ref a0), some (.int y1), some (.int y2), some (.int y3)]) (S' := [.ref a0]) (h' := h) rfl ?_
        refine k_cI 63 1 rfl rfl rfl (A := [.ref a0]) rfl rfl (z_rok_ref Ta0) (rest := []) rfl (z_tyI rfl rfl) ?_
        refine H.mono (fun r12 h10 H => ?_)
        obtain ⟨E11, H⟩ := H
        refine k_n 3 (pc' := 16) (L' := [some (.ref a0), some (.int y1), some (.int r12), some (.int (y3 + (1 : Int32)))]) (S' := []) (h' := h10) rfl ?_
        exact H
      · have hc := hc
        rw [if_neg hc] at H
        refine k_n 1 (pc' := 38) (L' := [some (.ref a0), some (.int y1), some (.int y2), some (.int y3)]) (S' := [.ref a0]) (h' := h) rfl ?_
        refine k_cV 62 1 rfl rfl rfl (A := [.ref a0]) rfl rfl (z_rok_ref Ta0) (rest := []) rfl rfl ?_
        refine H.mono (fun _ h13 H => ?_)
        obtain ⟨E14, H⟩ := H
        refine k_n 1 (pc' := 42) (L' := [some (.ref a0), some (.int y1), some (.int y2), some (.int y3)]) (S' := [.ref a0]) (h' := h13) rfl ?_
        refine k_cI 63 1 rfl rfl rfl (A := [.ref a0]) rfl rfl (z_rok_ref (Sh.tg E14 Ta0)) (rest := []) rfl (z_tyI rfl rfl) ?_
        refine H.mono (fun r17 h15 H => ?_)
        obtain ⟨E16, H⟩ := H
        refine k_n 3 (pc' := 16) (L' := [some (.ref a0), some (.int y1), some (.int r17), some (.int (y3 + (1 : Int32)))]) (S' := []) (h' := h15) rfl ?_
        exact H
set_option maxRecDepth 20000 in
theorem X_58 (a0 : Nat) (x1 : Nat) (x2 : Int32) (x3 : Int32) (h : zH) (W : CW h) (T0 : z_tg h a0 = 6) (T1 : z_tg h x1 = 102) (N1 : z_ln h x1 = 6) {Q : Unit → zH → Prop} (H : KG z_pV 58 22 [some (.ref a0), some (.ref x1), some (.int x2), some (.int x3), some (.int (0 : Int32)), none] [] (z_sI h a0 6 (if (0 : Int32) < (if (if (6 : Int32) < (6 : Int32) then (6 : Int32) else (6 : Int32)) < x2 then (if (6 : Int32) < (6 : Int32) then (6 : Int32) else (6 : Int32)) else x2) then (if (if (6 : Int32) < (6 : Int32) then (6 : Int32) else (6 : Int32)) < x2 then (if (6 : Int32) < (6 : Int32) then (6 : Int32) else (6 : Int32)) else x2) else (0 : Int32))) Q) : KK z_pV 58 [.ref a0, .ref x1, .int x2, .int x3] h Q := by
  refine k_K (L := [some (.ref a0), some (.ref x1), some (.int x2), some (.int x3), none, none]) rfl ?_
  refine k_n 4 (pc' := 4) (L' := [some (.ref a0), some (.ref x1), some (.int x2), some (.int x3), none, none]) (S' := [.ref x1, .int x2, .int (0 : Int32), .ref a0]) (h' := h) rfl ?_
  refine k_ln (n := 6) rfl T1 rfl N1 ?_
  refine k_n 1 (pc' := 7) (L' := [some (.ref a0), some (.ref x1), some (.int x2), some (.int x3), none, none]) (S' := [.int (6 : Int32), .int (6 : Int32), .int x2, .int (0 : Int32), .ref a0]) (h' := h) rfl ?_
  refine k_cI 14 2 rfl rfl rfl (A := [.int (6 : Int32), .int (6 : Int32)]) rfl rfl rfl (rest := [.int x2, .int (0 : Int32), .ref a0]) rfl (z_tyI rfl rfl) ?_
  refine C_14 (6 : Int32) (6 : Int32) h    ?_
  refine k_cI 14 2 rfl rfl rfl (A := [.int x2, .int (if (6 : Int32) < (6 : Int32) then (6 : Int32) else (6 : Int32))]) rfl rfl rfl (rest := [.int (0 : Int32), .ref a0]) rfl (z_tyI rfl rfl) ?_
  refine C_14 x2 (if (6 : Int32) < (6 : Int32) then (6 : Int32) else (6 : Int32)) h    ?_
  refine k_cI 12 2 rfl rfl rfl (A := [.int (0 : Int32), .int (if (if (6 : Int32) < (6 : Int32) then (6 : Int32) else (6 : Int32)) < x2 then (if (6 : Int32) < (6 : Int32) then (6 : Int32) else (6 : Int32)) else x2)]) rfl rfl rfl (rest := [.ref a0]) rfl (z_tyI rfl rfl) ?_
  refine C_12 (0 : Int32) (if (if (6 : Int32) < (6 : Int32) then (6 : Int32) else (6 : Int32)) < x2 then (if (6 : Int32) < (6 : Int32) then (6 : Int32) else (6 : Int32)) else x2) h    ?_
  refine k_pI rfl T0 ?_
  refine k_n 2 (pc' := 22) (L' := [some (.ref a0), some (.ref x1), some (.int x2), some (.int x3), some (.int (0 : Int32)), none]) (S' := []) (h' := (z_sI h a0 6 (if (0 : Int32) < (if (if (6 : Int32) < (6 : Int32) then (6 : Int32) else (6 : Int32)) < x2 then (if (6 : Int32) < (6 : Int32) then (6 : Int32) else (6 : Int32)) else x2) then (if (if (6 : Int32) < (6 : Int32) then (6 : Int32) else (6 : Int32)) < x2 then (if (6 : Int32) < (6 : Int32) then (6 : Int32) else (6 : Int32)) else x2) else (0 : Int32)))) rfl ?_
  exact H
set_option maxRecDepth 20000 in
theorem X_58_22 (a0 : Nat) (a1 : Nat) (y2 : Int32) (y3 : Int32) (y4 : Int32) (u5 : Option Value) (h : zH) (W : CW h) (Ta0 : z_tg h a0 = 6) (Ta1 : z_tg h a1 = 102) (Na1 : z_ln h a1 = 6) {Q : Unit → zH → Prop} (H : if (z_iv h a0 6) ≤ y4 then (Q () h) else ((0 ≤ y4.toInt ∧ y4.toInt < 6) ∧ ((z_rv h a1 (z_ix y4) = none → (0 ≤ y4.toInt ∧ y4.toInt < 6) ∧ KG z_pV 58 60 [some (.ref a0), some (.ref a1), some (.int y2), some (.int y3), some (.int y4), some (.int (0 : Int32))] [] (z_sI h (a0 + 3) (z_ix y4) (0 : Int32)) Q) ∧ (∀ b3, z_rv h a1 (z_ix y4) = some b3 → (0 ≤ y4.toInt ∧ y4.toInt < 6) ∧ (∃ v7 : Int32, KV z_pI 46 [.ref b3, .int y3] h v7 ∧ (0 ≤ y4.toInt ∧ y4.toInt < 6) ∧ KG z_pV 58 60 [some (.ref a0), some (.ref a1), some (.int y2), some (.int y3), some (.int y4), some (.int (0 : Int32))] [] (z_sI h (a0 + 3) (z_ix y4) v7) Q))))) : KG z_pV 58 22 [some (.ref a0), some (.ref a1), some (.int y2), some (.int y3), some (.int y4), u5] [] h Q := by
  refine k_n 2 (pc' := 25) (L' := [some (.ref a0), some (.ref a1), some (.int y2), some (.int y3), some (.int y4), u5]) (S' := [.ref a0, .int y4]) (h' := h) rfl ?_
  refine k_gI rfl rfl Ta0 ?_
  refine k_b (g := (z_iv h a0 6) ≤ y4) (pc' := 105) (L' := [some (.ref a0), some (.ref a1), some (.int y2), some (.int y3), some (.int y4), u5]) (S' := []) (pc2 := 31) (L2 := [some (.ref a0), some (.ref a1), some (.int y2), some (.int y3), some (.int y4), u5]) (S2 := []) (h' := h) (h2 := h) rfl rfl (fun hc => ?_) (fun hc => ?_)
  · have hc := hc
    rw [if_pos hc] at H
    exact k_r rfl rfl rfl H
  · have hc := hc
    rw [if_neg hc] at H
    refine k_n 1 (pc' := 32) (L' := [some (.ref a0), some (.ref a1), some (.int y2), some (.int y3), some (.int y4), u5]) (S' := [.ref a0]) (h' := h) rfl ?_
    refine k_gS (b := (a0 + 3)) rfl Ta0 (W.reOf (t := 6) (j := 4) (o := 3) (n := 6) (by decide) Ta0).1 ?_
    refine k_n 3 (pc' := 40) (L' := [some (.ref a0), some (.ref a1), some (.int y2), some (.int y3), some (.int y4), u5]) (S' := [.int y4, .ref a1, .int y4, .ref (a0 + 3)]) (h' := h) rfl ?_
    obtain ⟨o1, H⟩ := H
    obtain hb2 | ⟨b3, hb2⟩ := z_opt (z_rv h a1 (z_ix y4))
    · have H := H.1 hb2
      refine k_aN rfl Ta1 rfl Na1 o1 hb2 ?_
      refine k_n 3 (pc' := 56) (L' := [some (.ref a0), some (.ref a1), some (.int y2), some (.int y3), some (.int y4), u5]) (S' := [.int (0 : Int32), .int y4, .ref (a0 + 3)]) (h' := h) rfl ?_
      obtain ⟨o5, H⟩ := H
      refine k_is (n := 6) rfl (CW.tyOf (t := 6) (t' := 100) W (j := 4) Ta0 (W.reOf (t := 6) (j := 4) (o := 3) (n := 6) (by decide) Ta0).1 (by decide) rfl) (W.reOf (t := 6) (j := 4) (o := 3) (n := 6) (by decide) Ta0).2 o5 ?_
      refine k_n 2 (pc' := 60) (L' := [some (.ref a0), some (.ref a1), some (.int y2), some (.int y3), some (.int y4), some (.int (0 : Int32))]) (S' := []) (h' := (z_sI h (a0 + 3) (z_ix y4) (0 : Int32))) rfl ?_
      exact H
    · have H := H.2 b3 hb2
      have t4 : z_tg h b3 = 4 := (CW.tyOf (t := 102) (t' := 4) W Ta1 hb2 (by decide) rfl)
      refine k_aS rfl Ta1 rfl Na1 o1 hb2 ?_
      refine k_n 3 (pc' := 51) (L' := [some (.ref a0), some (.ref a1), some (.int y2), some (.int y3), some (.int y4), u5]) (S' := [.int y4, .ref a1, .int y4, .ref (a0 + 3)]) (h' := h) rfl ?_
      obtain ⟨o6, H⟩ := H
      refine k_aS rfl Ta1 rfl Na1 o6 hb2 ?_
      refine k_n 1 (pc' := 53) (L' := [some (.ref a0), some (.ref a1), some (.int y2), some (.int y3), some (.int y4), u5]) (S' := [.int y3, .ref b3, .int y4, .ref (a0 + 3)]) (h' := h) rfl ?_
      refine k_cI 46 2 rfl rfl rfl (A := [.ref b3, .int y3]) rfl rfl (z_rok_ref t4) (rest := [.int y4, .ref (a0 + 3)]) rfl (z_tyI rfl rfl) ?_
      obtain ⟨v7, k8, H⟩ := H
      refine k_P k8 ?_
      obtain ⟨o9, H⟩ := H
      refine k_is (n := 6) rfl (CW.tyOf (t := 6) (t' := 100) W (j := 4) Ta0 (W.reOf (t := 6) (j := 4) (o := 3) (n := 6) (by decide) Ta0).1 (by decide) rfl) (W.reOf (t := 6) (j := 4) (o := 3) (n := 6) (by decide) Ta0).2 o9 ?_
      refine k_n 2 (pc' := 60) (L' := [some (.ref a0), some (.ref a1), some (.int y2), some (.int y3), some (.int y4), some (.int (0 : Int32))]) (S' := []) (h' := (z_sI h (a0 + 3) (z_ix y4) v7)) rfl ?_
      exact H
set_option maxRecDepth 20000 in
theorem X_58_60 (a0 : Nat) (a1 : Nat) (y2 : Int32) (y3 : Int32) (y4 : Int32) (y5 : Int32) (h : zH) (W : CW h) (Ta0 : z_tg h a0 = 6) (Ta1 : z_tg h a1 = 102) (Na1 : z_ln h a1 = 6) {Q : Unit → zH → Prop} (H : if (z_iv h a0 6) ≤ y5 then (KG z_pV 58 22 [some (.ref a0), some (.ref a1), some (.int y2), some (.int y3), some (.int (y4 + (1 : Int32))), some (.int y5)] [] h Q) else ((0 ≤ y4.toInt ∧ y4.toInt < 6) ∧ ((z_rv h a1 (z_ix y4) = none → (0 ≤ y5.toInt ∧ y5.toInt < 6) ∧ ((z_rv h a1 (z_ix y5) = none → ∃ v18 : Int32, KV z_pI 59 [.null, .null] h v18 ∧ (0 ≤ ((y4 * (6 : Int32)) + y5).toInt ∧ ((y4 * (6 : Int32)) + y5).toInt < 36) ∧ KG z_pV 58 60 [some (.ref a0), some (.ref a1), some (.int y2), some (.int y3), some (.int y4), some (.int (y5 + (1 : Int32)))] [] (z_sI h (a0 + 4) (z_ix ((y4 * (6 : Int32)) + y5)) v18) Q) ∧ (∀ b16, z_rv h a1 (z_ix y5) = some b16 → ∃ v21 : Int32, KV z_pI 59 [.null, .ref b16] h v21 ∧ (0 ≤ ((y4 * (6 : Int32)) + y5).toInt ∧ ((y4 * (6 : Int32)) + y5).toInt < 36) ∧ KG z_pV 58 60 [some (.ref a0), some (.ref a1), some (.int y2), some (.int y3), some (.int y4), some (.int (y5 + (1 : Int32)))] [] (z_sI h (a0 + 4) (z_ix ((y4 * (6 : Int32)) + y5)) v21) Q))) ∧ (∀ b12, z_rv h a1 (z_ix y4) = some b12 → (0 ≤ y5.toInt ∧ y5.toInt < 6) ∧ ((z_rv h a1 (z_ix y5) = none → ∃ v28 : Int32, KV z_pI 59 [.ref b12, .null] h v28 ∧ (0 ≤ ((y4 * (6 : Int32)) + y5).toInt ∧ ((y4 * (6 : Int32)) + y5).toInt < 36) ∧ KG z_pV 58 60 [some (.ref a0), some (.ref a1), some (.int y2), some (.int y3), some (.int y4), some (.int (y5 + (1 : Int32)))] [] (z_sI h (a0 + 4) (z_ix ((y4 * (6 : Int32)) + y5)) v28) Q) ∧ (∀ b26, z_rv h a1 (z_ix y5) = some b26 → ∃ v31 : Int32, KV z_pI 59 [.ref b12, .ref b26] h v31 ∧ (0 ≤ ((y4 * (6 : Int32)) + y5).toInt ∧ ((y4 * (6 : Int32)) + y5).toInt < 36) ∧ KG z_pV 58 60 [some (.ref a0), some (.ref a1), some (.int y2), some (.int y3), some (.int y4), some (.int (y5 + (1 : Int32)))] [] (z_sI h (a0 + 4) (z_ix ((y4 * (6 : Int32)) + y5)) v31) Q)))))) : KG z_pV 58 60 [some (.ref a0), some (.ref a1), some (.int y2), some (.int y3), some (.int y4), some (.int y5)] [] h Q := by
  refine k_n 2 (pc' := 63) (L' := [some (.ref a0), some (.ref a1), some (.int y2), some (.int y3), some (.int y4), some (.int y5)]) (S' := [.ref a0, .int y5]) (h' := h) rfl ?_
  refine k_gI rfl rfl Ta0 ?_
  refine k_b (g := (z_iv h a0 6) ≤ y5) (pc' := 99) (L' := [some (.ref a0), some (.ref a1), some (.int y2), some (.int y3), some (.int y4), some (.int y5)]) (S' := []) (pc2 := 69) (L2 := [some (.ref a0), some (.ref a1), some (.int y2), some (.int y3), some (.int y4), some (.int y5)]) (S2 := []) (h' := h) (h2 := h) rfl rfl (fun hc => ?_) (fun hc => ?_)
  · have hc := hc
    rw [if_pos hc] at H
    refine k_n 2 (pc' := 22) (L' := [some (.ref a0), some (.ref a1), some (.int y2), some (.int y3), some (.int (y4 + (1 : Int32))), some (.int y5)]) (S' := []) (h' := h) rfl ?_
    exact H
  · have hc := hc
    rw [if_neg hc] at H
    refine k_n 1 (pc' := 70) (L' := [some (.ref a0), some (.ref a1), some (.int y2), some (.int y3), some (.int y4), some (.int y5)]) (S' := [.ref a0]) (h' := h) rfl ?_
    refine k_gS (b := (a0 + 4)) rfl Ta0 (W.reOf (t := 6) (j := 5) (o := 4) (n := 36) (by decide) Ta0).1 ?_
    refine k_n 7 (pc' := 84) (L' := [some (.ref a0), some (.ref a1), some (.int y2), some (.int y3), some (.int y4), some (.int y5)]) (S' := [.int y4, .ref a1, .int ((y4 * (6 : Int32)) + y5), .ref (a0 + 4)]) (h' := h) rfl ?_
    obtain ⟨o10, H⟩ := H
    obtain hb11 | ⟨b12, hb11⟩ := z_opt (z_rv h a1 (z_ix y4))
    · have H := H.1 hb11
      refine k_aN rfl Ta1 rfl Na1 o10 hb11 ?_
      refine k_n 2 (pc' := 88) (L' := [some (.ref a0), some (.ref a1), some (.int y2), some (.int y3), some (.int y4), some (.int y5)]) (S' := [.int y5, .ref a1, .null, .int ((y4 * (6 : Int32)) + y5), .ref (a0 + 4)]) (h' := h) rfl ?_
      obtain ⟨o14, H⟩ := H
      obtain hb15 | ⟨b16, hb15⟩ := z_opt (z_rv h a1 (z_ix y5))
      · have H := H.1 hb15
        refine k_aN rfl Ta1 rfl Na1 o14 hb15 ?_
        refine k_cI 59 2 rfl rfl rfl (A := [.null, .null]) rfl rfl rfl (rest := [.int ((y4 * (6 : Int32)) + y5), .ref (a0 + 4)]) rfl (z_tyI rfl rfl) ?_
        obtain ⟨v18, k19, H⟩ := H
        refine k_P k19 ?_
        obtain ⟨o20, H⟩ := H
        refine k_is (n := 36) rfl (CW.tyOf (t := 6) (t' := 100) W (j := 5) Ta0 (W.reOf (t := 6) (j := 5) (o := 4) (n := 36) (by decide) Ta0).1 (by decide) rfl) (W.reOf (t := 6) (j := 5) (o := 4) (n := 36) (by decide) Ta0).2 o20 ?_
        refine k_n 2 (pc' := 60) (L' := [some (.ref a0), some (.ref a1), some (.int y2), some (.int y3), some (.int y4), some (.int (y5 + (1 : Int32)))]) (S' := []) (h' := (z_sI h (a0 + 4) (z_ix ((y4 * (6 : Int32)) + y5)) v18)) rfl ?_
        exact H
      · have H := H.2 b16 hb15
        have t17 : z_tg h b16 = 4 := (CW.tyOf (t := 102) (t' := 4) W Ta1 hb15 (by decide) rfl)
        refine k_aS rfl Ta1 rfl Na1 o14 hb15 ?_
        refine k_cI 59 2 rfl rfl rfl (A := [.null, .ref b16]) rfl rfl rfl (rest := [.int ((y4 * (6 : Int32)) + y5), .ref (a0 + 4)]) rfl (z_tyI rfl rfl) ?_
        obtain ⟨v21, k22, H⟩ := H
        refine k_P k22 ?_
        obtain ⟨o23, H⟩ := H
        refine k_is (n := 36) rfl (CW.tyOf (t := 6) (t' := 100) W (j := 5) Ta0 (W.reOf (t := 6) (j := 5) (o := 4) (n := 36) (by decide) Ta0).1 (by decide) rfl) (W.reOf (t := 6) (j := 5) (o := 4) (n := 36) (by decide) Ta0).2 o23 ?_
        refine k_n 2 (pc' := 60) (L' := [some (.ref a0), some (.ref a1), some (.int y2), some (.int y3), some (.int y4), some (.int (y5 + (1 : Int32)))]) (S' := []) (h' := (z_sI h (a0 + 4) (z_ix ((y4 * (6 : Int32)) + y5)) v21)) rfl ?_
        exact H
    · have H := H.2 b12 hb11
      have t13 : z_tg h b12 = 4 := (CW.tyOf (t := 102) (t' := 4) W Ta1 hb11 (by decide) rfl)
      refine k_aS rfl Ta1 rfl Na1 o10 hb11 ?_
      refine k_n 2 (pc' := 88) (L' := [some (.ref a0), some (.ref a1), some (.int y2), some (.int y3), some (.int y4), some (.int y5)]) (S' := [.int y5, .ref a1, .ref b12, .int ((y4 * (6 : Int32)) + y5), .ref (a0 + 4)]) (h' := h) rfl ?_
      obtain ⟨o24, H⟩ := H
      obtain hb25 | ⟨b26, hb25⟩ := z_opt (z_rv h a1 (z_ix y5))
      · have H := H.1 hb25
        refine k_aN rfl Ta1 rfl Na1 o24 hb25 ?_
        refine k_cI 59 2 rfl rfl rfl (A := [.ref b12, .null]) rfl rfl rfl (rest := [.int ((y4 * (6 : Int32)) + y5), .ref (a0 + 4)]) rfl (z_tyI rfl rfl) ?_
        obtain ⟨v28, k29, H⟩ := H
        refine k_P k29 ?_
        obtain ⟨o30, H⟩ := H
        refine k_is (n := 36) rfl (CW.tyOf (t := 6) (t' := 100) W (j := 5) Ta0 (W.reOf (t := 6) (j := 5) (o := 4) (n := 36) (by decide) Ta0).1 (by decide) rfl) (W.reOf (t := 6) (j := 5) (o := 4) (n := 36) (by decide) Ta0).2 o30 ?_
        refine k_n 2 (pc' := 60) (L' := [some (.ref a0), some (.ref a1), some (.int y2), some (.int y3), some (.int y4), some (.int (y5 + (1 : Int32)))]) (S' := []) (h' := (z_sI h (a0 + 4) (z_ix ((y4 * (6 : Int32)) + y5)) v28)) rfl ?_
        exact H
      · have H := H.2 b26 hb25
        have t27 : z_tg h b26 = 4 := (CW.tyOf (t := 102) (t' := 4) W Ta1 hb25 (by decide) rfl)
        refine k_aS rfl Ta1 rfl Na1 o24 hb25 ?_
        refine k_cI 59 2 rfl rfl rfl (A := [.ref b12, .ref b26]) rfl rfl rfl (rest := [.int ((y4 * (6 : Int32)) + y5), .ref (a0 + 4)]) rfl (z_tyI rfl rfl) ?_
        obtain ⟨v31, k32, H⟩ := H
        refine k_P k32 ?_
        obtain ⟨o33, H⟩ := H
        refine k_is (n := 36) rfl (CW.tyOf (t := 6) (t' := 100) W (j := 5) Ta0 (W.reOf (t := 6) (j := 5) (o := 4) (n := 36) (by decide) Ta0).1 (by decide) rfl) (W.reOf (t := 6) (j := 5) (o := 4) (n := 36) (by decide) Ta0).2 o33 ?_
        refine k_n 2 (pc' := 60) (L' := [some (.ref a0), some (.ref a1), some (.int y2), some (.int y3), some (.int y4), some (.int (y5 + (1 : Int32)))]) (S' := []) (h' := (z_sI h (a0 + 4) (z_ix ((y4 * (6 : Int32)) + y5)) v31)) rfl ?_
        exact H
set_option maxRecDepth 20000 in
theorem X_128 (x1 : Int32) (x2 : Int32) (h : zH) (W : CW h)  {Q : Int32 → zH → Prop} (H : ∃ v1 : Option Nat, KV z_pA 148 [.ref 0, .int x1] h v1 ∧ (∀ b_, v1 = some b_ → z_tg h b_ = 4) ∧ ((v1 = none → Q (-1 : Int32) h) ∧ (∀ b5, v1 = some b5 → if (10 : Int32) ≤ x2 ∧ x2 ≤ (15 : Int32) then (KK z_pV 58 [.ref 9, .ref 1, .int (z_iv h 0 12), .int (z_iv h 0 11)] h (fun _ h13 => Sh h h13 ∧ KK z_pV 60 [.ref 9, .int x1] h13 (fun _ h15 => Sh h13 h15 ∧ (if x2 = 0 then (Q (z_iv h15 9 0) h15) else (if x2 = (1 : Int32) then (Q (z_iv h15 9 1) h15) else (∃ v17 : Int32, KV z_pI 67 [.ref 9, .int (x2 - (10 : Int32))] h15 v17 ∧ Q v17 h15)))))) else (if (0 : Int32) ≤ x2 ∧ x2 ≤ (1 : Int32) then (KK z_pV 58 [.ref 9, .ref 1, .int (z_iv h 0 12), .int (z_iv h 0 11)] h (fun _ h7 => Sh h h7 ∧ KK z_pV 60 [.ref 9, .int x1] h7 (fun _ h9 => Sh h7 h9 ∧ (if x2 = 0 then (Q (z_iv h9 9 0) h9) else (if x2 = (1 : Int32) then (Q (z_iv h9 9 1) h9) else (∃ v11 : Int32, KV z_pI 67 [.ref 9, .int (x2 - (10 : Int32))] h9 v11 ∧ Q v11 h9)))))) else (Q (-1 : Int32) h))))) : KK z_pI 128 [.ref 0, .int x1, .int x2] h Q := by
  refine k_K (L := [some (.ref 0), some (.int x1), some (.int x2), none]) rfl ?_
  refine k_n 2 (pc' := 2) (L' := [some (.ref 0), some (.int x1), some (.int x2), none]) (S' := [.int x1, .ref 0]) (h' := h) rfl ?_
  refine k_cA 148 2 "SavedThird$Mine" rfl rfl rfl (A := [.ref 0, .int x1]) rfl rfl (z_rok_ref W.t0) (rest := []) rfl rfl (by decide) ?_
  obtain ⟨v1, k2, tv3, H⟩ := H
  refine k_P k2 ?_
  obtain hb4 | ⟨b5, hb4⟩ := z_opt (v1)
  · have H := H.1 hb4
    refine k_oN hb4 ?_
    refine k_n 2 (pc' := 9) (L' := [some (.ref 0), some (.int x1), some (.int x2), none]) (S' := [.int (-1 : Int32)]) (h' := h) rfl ?_
    exact k_r rfl rfl rfl H
  · have H := H.2 b5 hb4
    have t6 : z_tg h b5 = 4 := tv3 _ hb4
    refine k_oS hb4 ?_
    refine k_n 4 (pc' := 15) (L' := [some (.ref 0), some (.int x1), some (.int x2), none]) (S' := [.int (15 : Int32), .int (10 : Int32), .int x2]) (h' := h) rfl ?_
    refine k_cI 135 3 rfl rfl rfl (A := [.int x2, .int (10 : Int32), .int (15 : Int32)]) rfl rfl rfl (rest := []) rfl (z_tyI rfl rfl) ?_
    refine c_within x2 (10 : Int32) (15 : Int32) h ?_
    refine k_n 2 (pc' := 20) (L' := [some (.ref 0), some (.int x1), some (.int x2), some (.int (z_bt ((10 : Int32) ≤ x2 ∧ x2 ≤ (15 : Int32))))]) (S' := [.int (z_bt ((10 : Int32) ≤ x2 ∧ x2 ≤ (15 : Int32)))]) (h' := h) rfl ?_
    refine k_b (g := z_bt ((10 : Int32) ≤ x2 ∧ x2 ≤ (15 : Int32)) = 0) (pc' := 23) (L' := [some (.ref 0), some (.int x1), some (.int x2), some (.int (z_bt ((10 : Int32) ≤ x2 ∧ x2 ≤ (15 : Int32))))]) (S' := []) (pc2 := 34) (L2 := [some (.ref 0), some (.int x1), some (.int x2), some (.int (z_bt ((10 : Int32) ≤ x2 ∧ x2 ≤ (15 : Int32))))]) (S2 := []) (h' := h) (h2 := h) rfl rfl (fun hc => ?_) (fun hc => ?_)
    · have hc := z_bt_0.mp hc
      rw [if_neg hc] at H
      refine k_n 3 (pc' := 26) (L' := [some (.ref 0), some (.int x1), some (.int x2), some (.int (z_bt ((10 : Int32) ≤ x2 ∧ x2 ≤ (15 : Int32))))]) (S' := [.int (1 : Int32), .int (0 : Int32), .int x2]) (h' := h) rfl ?_
      refine k_cI 135 3 rfl rfl rfl (A := [.int x2, .int (0 : Int32), .int (1 : Int32)]) rfl rfl rfl (rest := []) rfl (z_tyI rfl rfl) ?_
      refine c_within x2 (0 : Int32) (1 : Int32) h ?_
      refine k_b (g := z_bt ((0 : Int32) ≤ x2 ∧ x2 ≤ (1 : Int32)) = 0) (pc' := 32) (L' := [some (.ref 0), some (.int x1), some (.int x2), some (.int (z_bt ((10 : Int32) ≤ x2 ∧ x2 ≤ (15 : Int32))))]) (S' := []) (pc2 := 34) (L2 := [some (.ref 0), some (.int x1), some (.int x2), some (.int (z_bt ((10 : Int32) ≤ x2 ∧ x2 ≤ (15 : Int32))))]) (S2 := []) (h' := h) (h2 := h) rfl rfl (fun hc => ?_) (fun hc => ?_)
      · have hc := z_bt_0.mp hc
        rw [if_neg hc] at H
        refine k_n 1 (pc' := 33) (L' := [some (.ref 0), some (.int x1), some (.int x2), some (.int (z_bt ((10 : Int32) ≤ x2 ∧ x2 ≤ (15 : Int32))))]) (S' := [.int (-1 : Int32)]) (h' := h) rfl ?_
        exact k_r rfl rfl rfl H
      · have hc := Decidable.not_not.mp (fun q => hc (z_bt_0.mpr q))
        rw [if_pos hc] at H
        refine k_n 1 (pc' := 35) (L' := [some (.ref 0), some (.int x1), some (.int x2), some (.int (z_bt ((10 : Int32) ≤ x2 ∧ x2 ≤ (15 : Int32))))]) (S' := [.ref 0]) (h' := h) rfl ?_
        refine k_gS (b := 9) rfl W.t0 (W.abOf (t := 11) (j := 7) (o := 9) (n := 0) (by decide) W.t0).1 ?_
        refine k_n 1 (pc' := 39) (L' := [some (.ref 0), some (.int x1), some (.int x2), some (.int (z_bt ((10 : Int32) ≤ x2 ∧ x2 ≤ (15 : Int32))))]) (S' := [.ref 0, .ref 9]) (h' := h) rfl ?_
        refine k_gS (b := 1) rfl W.t0 (W.abOf (t := 11) (j := 0) (o := 1) (n := 6) (by decide) W.t0).1 ?_
        refine k_n 1 (pc' := 43) (L' := [some (.ref 0), some (.int x1), some (.int x2), some (.int (z_bt ((10 : Int32) ≤ x2 ∧ x2 ≤ (15 : Int32))))]) (S' := [.ref 0, .ref 1, .ref 9]) (h' := h) rfl ?_
        refine k_gI rfl rfl W.t0 ?_
        refine k_n 1 (pc' := 47) (L' := [some (.ref 0), some (.int x1), some (.int x2), some (.int (z_bt ((10 : Int32) ≤ x2 ∧ x2 ≤ (15 : Int32))))]) (S' := [.ref 0, .int (z_iv h 0 12), .ref 1, .ref 9]) (h' := h) rfl ?_
        refine k_gI rfl rfl W.t0 ?_
        refine k_cV 58 4 rfl rfl rfl (A := [.ref 9, .ref 1, .int (z_iv h 0 12), .int (z_iv h 0 11)]) rfl rfl (z_rok_ref (CW.tyOf (t := 11) (t' := 6) W (j := 7) W.t0 (W.abOf (t := 11) (j := 7) (o := 9) (n := 0) (by decide) W.t0).1 (by decide) rfl)) (rest := []) rfl rfl ?_
        refine H.mono (fun _ h7 H => ?_)
        obtain ⟨E8, H⟩ := H
        refine k_n 1 (pc' := 54) (L' := [some (.ref 0), some (.int x1), some (.int x2), some (.int (z_bt ((10 : Int32) ≤ x2 ∧ x2 ≤ (15 : Int32))))]) (S' := [.ref 0]) (h' := h7) rfl ?_
        refine k_gS (b := 9) rfl (Sh.tg E8 W.t0) ((Sh.cw E8 W).abOf (t := 11) (j := 7) (o := 9) (n := 0) (by decide) (Sh.tg E8 W.t0)).1 ?_
        refine k_n 1 (pc' := 58) (L' := [some (.ref 0), some (.int x1), some (.int x2), some (.int (z_bt ((10 : Int32) ≤ x2 ∧ x2 ≤ (15 : Int32))))]) (S' := [.int x1, .ref 9]) (h' := h7) rfl ?_
        refine k_cV 60 2 rfl rfl rfl (A := [.ref 9, .int x1]) rfl rfl (z_rok_ref (CW.tyOf (t := 11) (t' := 6) (Sh.cw E8 W) (j := 7) (Sh.tg E8 W.t0) ((Sh.cw E8 W).abOf (t := 11) (j := 7) (o := 9) (n := 0) (by decide) (Sh.tg E8 W.t0)).1 (by decide) rfl)) (rest := []) rfl rfl ?_
        refine H.mono (fun _ h9 H => ?_)
        obtain ⟨E10, H⟩ := H
        refine k_n 1 (pc' := 62) (L' := [some (.ref 0), some (.int x1), some (.int x2), some (.int (z_bt ((10 : Int32) ≤ x2 ∧ x2 ≤ (15 : Int32))))]) (S' := [.int x2]) (h' := h9) rfl ?_
        refine k_b (g := x2 = 0) (pc' := 65) (L' := [some (.ref 0), some (.int x1), some (.int x2), some (.int (z_bt ((10 : Int32) ≤ x2 ∧ x2 ≤ (15 : Int32))))]) (S' := []) (pc2 := 73) (L2 := [some (.ref 0), some (.int x1), some (.int x2), some (.int (z_bt ((10 : Int32) ≤ x2 ∧ x2 ≤ (15 : Int32))))]) (S2 := []) (h' := h9) (h2 := h9) rfl rfl (fun hc => ?_) (fun hc => ?_)
        · have hc := hc
          rw [if_pos hc] at H
          refine k_n 1 (pc' := 66) (L' := [some (.ref 0), some (.int x1), some (.int x2), some (.int (z_bt ((10 : Int32) ≤ x2 ∧ x2 ≤ (15 : Int32))))]) (S' := [.ref 0]) (h' := h9) rfl ?_
          refine k_gS (b := 9) rfl (Sh.tg E10 (Sh.tg E8 W.t0)) ((Sh.cw E10 (Sh.cw E8 W)).abOf (t := 11) (j := 7) (o := 9) (n := 0) (by decide) (Sh.tg E10 (Sh.tg E8 W.t0))).1 ?_
          refine k_gI rfl rfl (CW.tyOf (t := 11) (t' := 6) (Sh.cw E10 (Sh.cw E8 W)) (j := 7) (Sh.tg E10 (Sh.tg E8 W.t0)) ((Sh.cw E10 (Sh.cw E8 W)).abOf (t := 11) (j := 7) (o := 9) (n := 0) (by decide) (Sh.tg E10 (Sh.tg E8 W.t0))).1 (by decide) rfl) ?_
          exact k_r rfl rfl rfl H
        · have hc := hc
          rw [if_neg hc] at H
          refine k_n 2 (pc' := 75) (L' := [some (.ref 0), some (.int x1), some (.int x2), some (.int (z_bt ((10 : Int32) ≤ x2 ∧ x2 ≤ (15 : Int32))))]) (S' := [.int (1 : Int32), .int x2]) (h' := h9) rfl ?_
          refine k_b (g := x2 = (1 : Int32)) (pc' := 78) (L' := [some (.ref 0), some (.int x1), some (.int x2), some (.int (z_bt ((10 : Int32) ≤ x2 ∧ x2 ≤ (15 : Int32))))]) (S' := []) (pc2 := 86) (L2 := [some (.ref 0), some (.int x1), some (.int x2), some (.int (z_bt ((10 : Int32) ≤ x2 ∧ x2 ≤ (15 : Int32))))]) (S2 := []) (h' := h9) (h2 := h9) rfl rfl (fun hc => ?_) (fun hc => ?_)
          · have hc := hc
            rw [if_pos hc] at H
            refine k_n 1 (pc' := 79) (L' := [some (.ref 0), some (.int x1), some (.int x2), some (.int (z_bt ((10 : Int32) ≤ x2 ∧ x2 ≤ (15 : Int32))))]) (S' := [.ref 0]) (h' := h9) rfl ?_
            refine k_gS (b := 9) rfl (Sh.tg E10 (Sh.tg E8 W.t0)) ((Sh.cw E10 (Sh.cw E8 W)).abOf (t := 11) (j := 7) (o := 9) (n := 0) (by decide) (Sh.tg E10 (Sh.tg E8 W.t0))).1 ?_
            refine k_gI rfl rfl (CW.tyOf (t := 11) (t' := 6) (Sh.cw E10 (Sh.cw E8 W)) (j := 7) (Sh.tg E10 (Sh.tg E8 W.t0)) ((Sh.cw E10 (Sh.cw E8 W)).abOf (t := 11) (j := 7) (o := 9) (n := 0) (by decide) (Sh.tg E10 (Sh.tg E8 W.t0))).1 (by decide) rfl) ?_
            exact k_r rfl rfl rfl H
          · have hc := hc
            rw [if_neg hc] at H
            refine k_n 1 (pc' := 87) (L' := [some (.ref 0), some (.int x1), some (.int x2), some (.int (z_bt ((10 : Int32) ≤ x2 ∧ x2 ≤ (15 : Int32))))]) (S' := [.ref 0]) (h' := h9) rfl ?_
            refine k_gS (b := 9) rfl (Sh.tg E10 (Sh.tg E8 W.t0)) ((Sh.cw E10 (Sh.cw E8 W)).abOf (t := 11) (j := 7) (o := 9) (n := 0) (by decide) (Sh.tg E10 (Sh.tg E8 W.t0))).1 ?_
            refine k_n 3 (pc' := 94) (L' := [some (.ref 0), some (.int x1), some (.int x2), some (.int (z_bt ((10 : Int32) ≤ x2 ∧ x2 ≤ (15 : Int32))))]) (S' := [.int (x2 - (10 : Int32)), .ref 9]) (h' := h9) rfl ?_
            refine k_cI 67 2 rfl rfl rfl (A := [.ref 9, .int (x2 - (10 : Int32))]) rfl rfl (z_rok_ref (CW.tyOf (t := 11) (t' := 6) (Sh.cw E10 (Sh.cw E8 W)) (j := 7) (Sh.tg E10 (Sh.tg E8 W.t0)) ((Sh.cw E10 (Sh.cw E8 W)).abOf (t := 11) (j := 7) (o := 9) (n := 0) (by decide) (Sh.tg E10 (Sh.tg E8 W.t0))).1 (by decide) rfl)) (rest := []) rfl (z_tyI rfl rfl) ?_
            obtain ⟨v11, k12, H⟩ := H
            refine k_P k12 ?_
            exact k_r rfl rfl rfl H
    · have hc := Decidable.not_not.mp (fun q => hc (z_bt_0.mpr q))
      rw [if_pos hc] at H
      refine k_n 1 (pc' := 35) (L' := [some (.ref 0), some (.int x1), some (.int x2), some (.int (z_bt ((10 : Int32) ≤ x2 ∧ x2 ≤ (15 : Int32))))]) (S' := [.ref 0]) (h' := h) rfl ?_
      refine k_gS (b := 9) rfl W.t0 (W.abOf (t := 11) (j := 7) (o := 9) (n := 0) (by decide) W.t0).1 ?_
      refine k_n 1 (pc' := 39) (L' := [some (.ref 0), some (.int x1), some (.int x2), some (.int (z_bt ((10 : Int32) ≤ x2 ∧ x2 ≤ (15 : Int32))))]) (S' := [.ref 0, .ref 9]) (h' := h) rfl ?_
      refine k_gS (b := 1) rfl W.t0 (W.abOf (t := 11) (j := 0) (o := 1) (n := 6) (by decide) W.t0).1 ?_
      refine k_n 1 (pc' := 43) (L' := [some (.ref 0), some (.int x1), some (.int x2), some (.int (z_bt ((10 : Int32) ≤ x2 ∧ x2 ≤ (15 : Int32))))]) (S' := [.ref 0, .ref 1, .ref 9]) (h' := h) rfl ?_
      refine k_gI rfl rfl W.t0 ?_
      refine k_n 1 (pc' := 47) (L' := [some (.ref 0), some (.int x1), some (.int x2), some (.int (z_bt ((10 : Int32) ≤ x2 ∧ x2 ≤ (15 : Int32))))]) (S' := [.ref 0, .int (z_iv h 0 12), .ref 1, .ref 9]) (h' := h) rfl ?_
      refine k_gI rfl rfl W.t0 ?_
      refine k_cV 58 4 rfl rfl rfl (A := [.ref 9, .ref 1, .int (z_iv h 0 12), .int (z_iv h 0 11)]) rfl rfl (z_rok_ref (CW.tyOf (t := 11) (t' := 6) W (j := 7) W.t0 (W.abOf (t := 11) (j := 7) (o := 9) (n := 0) (by decide) W.t0).1 (by decide) rfl)) (rest := []) rfl rfl ?_
      refine H.mono (fun _ h13 H => ?_)
      obtain ⟨E14, H⟩ := H
      refine k_n 1 (pc' := 54) (L' := [some (.ref 0), some (.int x1), some (.int x2), some (.int (z_bt ((10 : Int32) ≤ x2 ∧ x2 ≤ (15 : Int32))))]) (S' := [.ref 0]) (h' := h13) rfl ?_
      refine k_gS (b := 9) rfl (Sh.tg E14 W.t0) ((Sh.cw E14 W).abOf (t := 11) (j := 7) (o := 9) (n := 0) (by decide) (Sh.tg E14 W.t0)).1 ?_
      refine k_n 1 (pc' := 58) (L' := [some (.ref 0), some (.int x1), some (.int x2), some (.int (z_bt ((10 : Int32) ≤ x2 ∧ x2 ≤ (15 : Int32))))]) (S' := [.int x1, .ref 9]) (h' := h13) rfl ?_
      refine k_cV 60 2 rfl rfl rfl (A := [.ref 9, .int x1]) rfl rfl (z_rok_ref (CW.tyOf (t := 11) (t' := 6) (Sh.cw E14 W) (j := 7) (Sh.tg E14 W.t0) ((Sh.cw E14 W).abOf (t := 11) (j := 7) (o := 9) (n := 0) (by decide) (Sh.tg E14 W.t0)).1 (by decide) rfl)) (rest := []) rfl rfl ?_
      refine H.mono (fun _ h15 H => ?_)
      obtain ⟨E16, H⟩ := H
      refine k_n 1 (pc' := 62) (L' := [some (.ref 0), some (.int x1), some (.int x2), some (.int (z_bt ((10 : Int32) ≤ x2 ∧ x2 ≤ (15 : Int32))))]) (S' := [.int x2]) (h' := h15) rfl ?_
      refine k_b (g := x2 = 0) (pc' := 65) (L' := [some (.ref 0), some (.int x1), some (.int x2), some (.int (z_bt ((10 : Int32) ≤ x2 ∧ x2 ≤ (15 : Int32))))]) (S' := []) (pc2 := 73) (L2 := [some (.ref 0), some (.int x1), some (.int x2), some (.int (z_bt ((10 : Int32) ≤ x2 ∧ x2 ≤ (15 : Int32))))]) (S2 := []) (h' := h15) (h2 := h15) rfl rfl (fun hc => ?_) (fun hc => ?_)
      · have hc := hc
        rw [if_pos hc] at H
        refine k_n 1 (pc' := 66) (L' := [some (.ref 0), some (.int x1), some (.int x2), some (.int (z_bt ((10 : Int32) ≤ x2 ∧ x2 ≤ (15 : Int32))))]) (S' := [.ref 0]) (h' := h15) rfl ?_
        refine k_gS (b := 9) rfl (Sh.tg E16 (Sh.tg E14 W.t0)) ((Sh.cw E16 (Sh.cw E14 W)).abOf (t := 11) (j := 7) (o := 9) (n := 0) (by decide) (Sh.tg E16 (Sh.tg E14 W.t0))).1 ?_
        refine k_gI rfl rfl (CW.tyOf (t := 11) (t' := 6) (Sh.cw E16 (Sh.cw E14 W)) (j := 7) (Sh.tg E16 (Sh.tg E14 W.t0)) ((Sh.cw E16 (Sh.cw E14 W)).abOf (t := 11) (j := 7) (o := 9) (n := 0) (by decide) (Sh.tg E16 (Sh.tg E14 W.t0))).1 (by decide) rfl) ?_
        exact k_r rfl rfl rfl H
      · have hc := hc
        rw [if_neg hc] at H
        refine k_n 2 (pc' := 75) (L' := [some (.ref 0), some (.int x1), some (.int x2), some (.int (z_bt ((10 : Int32) ≤ x2 ∧ x2 ≤ (15 : Int32))))]) (S' := [.int (1 : Int32), .int x2]) (h' := h15) rfl ?_
        refine k_b (g := x2 = (1 : Int32)) (pc' := 78) (L' := [some (.ref 0), some (.int x1), some (.int x2), some (.int (z_bt ((10 : Int32) ≤ x2 ∧ x2 ≤ (15 : Int32))))]) (S' := []) (pc2 := 86) (L2 := [some (.ref 0), some (.int x1), some (.int x2), some (.int (z_bt ((10 : Int32) ≤ x2 ∧ x2 ≤ (15 : Int32))))]) (S2 := []) (h' := h15) (h2 := h15) rfl rfl (fun hc => ?_) (fun hc => ?_)
        · have hc := hc
          rw [if_pos hc] at H
          refine k_n 1 (pc' := 79) (L' := [some (.ref 0), some (.int x1), some (.int x2), some (.int (z_bt ((10 : Int32) ≤ x2 ∧ x2 ≤ (15 : Int32))))]) (S' := [.ref 0]) (h' := h15) rfl ?_
          refine k_gS (b := 9) rfl (Sh.tg E16 (Sh.tg E14 W.t0)) ((Sh.cw E16 (Sh.cw E14 W)).abOf (t := 11) (j := 7) (o := 9) (n := 0) (by decide) (Sh.tg E16 (Sh.tg E14 W.t0))).1 ?_
          refine k_gI rfl rfl (CW.tyOf (t := 11) (t' := 6) (Sh.cw E16 (Sh.cw E14 W)) (j := 7) (Sh.tg E16 (Sh.tg E14 W.t0)) ((Sh.cw E16 (Sh.cw E14 W)).abOf (t := 11) (j := 7) (o := 9) (n := 0) (by decide) (Sh.tg E16 (Sh.tg E14 W.t0))).1 (by decide) rfl) ?_
          exact k_r rfl rfl rfl H
        · have hc := hc
          rw [if_neg hc] at H
          refine k_n 1 (pc' := 87) (L' := [some (.ref 0), some (.int x1), some (.int x2), some (.int (z_bt ((10 : Int32) ≤ x2 ∧ x2 ≤ (15 : Int32))))]) (S' := [.ref 0]) (h' := h15) rfl ?_
          refine k_gS (b := 9) rfl (Sh.tg E16 (Sh.tg E14 W.t0)) ((Sh.cw E16 (Sh.cw E14 W)).abOf (t := 11) (j := 7) (o := 9) (n := 0) (by decide) (Sh.tg E16 (Sh.tg E14 W.t0))).1 ?_
          refine k_n 3 (pc' := 94) (L' := [some (.ref 0), some (.int x1), some (.int x2), some (.int (z_bt ((10 : Int32) ≤ x2 ∧ x2 ≤ (15 : Int32))))]) (S' := [.int (x2 - (10 : Int32)), .ref 9]) (h' := h15) rfl ?_
          refine k_cI 67 2 rfl rfl rfl (A := [.ref 9, .int (x2 - (10 : Int32))]) rfl rfl (z_rok_ref (CW.tyOf (t := 11) (t' := 6) (Sh.cw E16 (Sh.cw E14 W)) (j := 7) (Sh.tg E16 (Sh.tg E14 W.t0)) ((Sh.cw E16 (Sh.cw E14 W)).abOf (t := 11) (j := 7) (o := 9) (n := 0) (by decide) (Sh.tg E16 (Sh.tg E14 W.t0))).1 (by decide) rfl)) (rest := []) rfl (z_tyI rfl rfl) ?_
          obtain ⟨v17, k18, H⟩ := H
          refine k_P k18 ?_
          exact k_r rfl rfl rfl H
set_option maxRecDepth 20000 in
theorem X_129 (x1 : Int32) (h : zH) (W : CW h)  {Q : Int32 → zH → Prop} (H : if x1 < 0 then (Q (-1 : Int32) h) else (if (z_iv h 0 12) = 0 then (Q (-1 : Int32) h) else (KK z_pV 58 [.ref 9, .ref 1, .int (z_iv h 0 12), .int (z_iv h 0 11)] h (fun _ h1 => Sh h h1 ∧ KK z_pI 68 [.ref 9, .int x1] h1 (fun r5 h3 => Sh h1 h3 ∧ (if r5 = 0 then (Q (-1 : Int32) h3) else (∃ v6 : Int32, KV z_pI 66 [.ref 9] h3 v6 ∧ Q v6 h3))))))) : KK z_pI 129 [.ref 0, .int x1] h Q := by
  refine k_K (L := [some (.ref 0), some (.int x1)]) rfl ?_
  refine k_n 1 (pc' := 1) (L' := [some (.ref 0), some (.int x1)]) (S' := [.int x1]) (h' := h) rfl ?_
  refine k_b (g := x1 < 0) (pc' := 11) (L' := [some (.ref 0), some (.int x1)]) (S' := []) (pc2 := 4) (L2 := [some (.ref 0), some (.int x1)]) (S2 := []) (h' := h) (h2 := h) rfl rfl (fun hc => ?_) (fun hc => ?_)
  · have hc := hc
    rw [if_pos hc] at H
    refine k_n 1 (pc' := 12) (L' := [some (.ref 0), some (.int x1)]) (S' := [.int (-1 : Int32)]) (h' := h) rfl ?_
    exact k_r rfl rfl rfl H
  · have hc := hc
    rw [if_neg hc] at H
    refine k_n 1 (pc' := 5) (L' := [some (.ref 0), some (.int x1)]) (S' := [.ref 0]) (h' := h) rfl ?_
    refine k_gI rfl rfl W.t0 ?_
    refine k_b (g := (z_iv h 0 12) = 0) (pc' := 11) (L' := [some (.ref 0), some (.int x1)]) (S' := []) (pc2 := 13) (L2 := [some (.ref 0), some (.int x1)]) (S2 := []) (h' := h) (h2 := h) rfl rfl (fun hc => ?_) (fun hc => ?_)
    · have hc := hc
      rw [if_pos hc] at H
      refine k_n 1 (pc' := 12) (L' := [some (.ref 0), some (.int x1)]) (S' := [.int (-1 : Int32)]) (h' := h) rfl ?_
      exact k_r rfl rfl rfl H
    · have hc := hc
      rw [if_neg hc] at H
      refine k_n 1 (pc' := 14) (L' := [some (.ref 0), some (.int x1)]) (S' := [.ref 0]) (h' := h) rfl ?_
      refine k_gS (b := 9) rfl W.t0 (W.abOf (t := 11) (j := 7) (o := 9) (n := 0) (by decide) W.t0).1 ?_
      refine k_n 1 (pc' := 18) (L' := [some (.ref 0), some (.int x1)]) (S' := [.ref 0, .ref 9]) (h' := h) rfl ?_
      refine k_gS (b := 1) rfl W.t0 (W.abOf (t := 11) (j := 0) (o := 1) (n := 6) (by decide) W.t0).1 ?_
      refine k_n 1 (pc' := 22) (L' := [some (.ref 0), some (.int x1)]) (S' := [.ref 0, .ref 1, .ref 9]) (h' := h) rfl ?_
      refine k_gI rfl rfl W.t0 ?_
      refine k_n 1 (pc' := 26) (L' := [some (.ref 0), some (.int x1)]) (S' := [.ref 0, .int (z_iv h 0 12), .ref 1, .ref 9]) (h' := h) rfl ?_
      refine k_gI rfl rfl W.t0 ?_
      refine k_cV 58 4 rfl rfl rfl (A := [.ref 9, .ref 1, .int (z_iv h 0 12), .int (z_iv h 0 11)]) rfl rfl (z_rok_ref (CW.tyOf (t := 11) (t' := 6) W (j := 7) W.t0 (W.abOf (t := 11) (j := 7) (o := 9) (n := 0) (by decide) W.t0).1 (by decide) rfl)) (rest := []) rfl rfl ?_
      refine H.mono (fun _ h1 H => ?_)
      obtain ⟨E2, H⟩ := H
      refine k_n 1 (pc' := 33) (L' := [some (.ref 0), some (.int x1)]) (S' := [.ref 0]) (h' := h1) rfl ?_
      refine k_gS (b := 9) rfl (Sh.tg E2 W.t0) ((Sh.cw E2 W).abOf (t := 11) (j := 7) (o := 9) (n := 0) (by decide) (Sh.tg E2 W.t0)).1 ?_
      refine k_n 1 (pc' := 37) (L' := [some (.ref 0), some (.int x1)]) (S' := [.int x1, .ref 9]) (h' := h1) rfl ?_
      refine k_cI 68 2 rfl rfl rfl (A := [.ref 9, .int x1]) rfl rfl (z_rok_ref (CW.tyOf (t := 11) (t' := 6) (Sh.cw E2 W) (j := 7) (Sh.tg E2 W.t0) ((Sh.cw E2 W).abOf (t := 11) (j := 7) (o := 9) (n := 0) (by decide) (Sh.tg E2 W.t0)).1 (by decide) rfl)) (rest := []) rfl (z_tyI rfl rfl) ?_
      refine H.mono (fun r5 h3 H => ?_)
      obtain ⟨E4, H⟩ := H
      refine k_b (g := r5 = 0) (pc' := 53) (L' := [some (.ref 0), some (.int x1)]) (S' := []) (pc2 := 43) (L2 := [some (.ref 0), some (.int x1)]) (S2 := []) (h' := h3) (h2 := h3) rfl rfl (fun hc => ?_) (fun hc => ?_)
      · have hc := hc
        rw [if_pos hc] at H
        refine k_n 1 (pc' := 54) (L' := [some (.ref 0), some (.int x1)]) (S' := [.int (-1 : Int32)]) (h' := h3) rfl ?_
        exact k_r rfl rfl rfl H
      · have hc := hc
        rw [if_neg hc] at H
        refine k_n 1 (pc' := 44) (L' := [some (.ref 0), some (.int x1)]) (S' := [.ref 0]) (h' := h3) rfl ?_
        refine k_gS (b := 9) rfl (Sh.tg E4 (Sh.tg E2 W.t0)) ((Sh.cw E4 (Sh.cw E2 W)).abOf (t := 11) (j := 7) (o := 9) (n := 0) (by decide) (Sh.tg E4 (Sh.tg E2 W.t0))).1 ?_
        refine k_cI 66 1 rfl rfl rfl (A := [.ref 9]) rfl rfl (z_rok_ref (CW.tyOf (t := 11) (t' := 6) (Sh.cw E4 (Sh.cw E2 W)) (j := 7) (Sh.tg E4 (Sh.tg E2 W.t0)) ((Sh.cw E4 (Sh.cw E2 W)).abOf (t := 11) (j := 7) (o := 9) (n := 0) (by decide) (Sh.tg E4 (Sh.tg E2 W.t0))).1 (by decide) rfl)) (rest := []) rfl (z_tyI rfl rfl) ?_
        obtain ⟨v6, k7, H⟩ := H
        refine k_P k7 ?_
        refine k_n 1 (pc' := 54) (L' := [some (.ref 0), some (.int x1)]) (S' := [.int v6]) (h' := h3) rfl ?_
        exact k_r rfl rfl rfl H
