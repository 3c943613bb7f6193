set_option maxRecDepth 20000 in
theorem X_83 (a0 : Nat) (h : zH) (W : CW h) (T0 : z_tg h a0 = 7) {Q : Unit → zH → Prop} (H : KG z_pV 83 5 [some (.ref a0)] [] (z_sI h a0 4 (1 : Int32)) Q) : KK z_pV 83 [.ref a0] h Q := by
  refine k_K (L := [some (.ref a0)]) rfl ?_
  refine k_n 2 (pc' := 2) (L' := [some (.ref a0)]) (S' := [.int (1 : Int32), .ref a0]) (h' := h) rfl ?_
  refine k_pI rfl T0 ?_
  exact H
set_option maxRecDepth 20000 in
theorem X_83_5 (a0 : Nat) (h : zH) (W : CW h) (Ta0 : z_tg h a0 = 7) {Q : Unit → zH → Prop} (H : if (z_iv h 6 1) ≤ (z_iv h a0 6) then (Q () h) else (∃ v1 : Int32, KV z_pI 93 [.ref 6, .int (z_iv h a0 6)] h v1 ∧ (if ¬ (v1 < (97 : Int32)) ∧ (¬ ((122 : Int32) < v1)) then (KG z_pV 83 5 [some (.ref a0)] [] (z_sI h a0 6 ((z_iv h a0 6) + (1 : Int32))) Q) else (Q () h)))) : KG z_pV 83 5 [some (.ref a0)] [] h Q := by
  refine k_n 1 (pc' := 6) (L' := [some (.ref a0)]) (S' := [.ref a0]) (h' := h) rfl ?_
  refine k_gI rfl rfl Ta0 ?_
  refine k_n 1 (pc' := 10) (L' := [some (.ref a0)]) (S' := [.ref a0, .int (z_iv h a0 6)]) (h' := h) rfl ?_
  refine k_gS (b := 6) rfl Ta0 (W.abOf (t := 7) (j := 2) (o := 6) (n := 0) (by decide) Ta0).1 ?_
  refine k_gI rfl rfl (CW.tyOf (t := 7) (t' := 9) W (j := 2) Ta0 (W.abOf (t := 7) (j := 2) (o := 6) (n := 0) (by decide) Ta0).1 (by decide) rfl) ?_
  refine k_b (g := (z_iv h 6 1) ≤ (z_iv h a0 6)) (pc' := 49) (L' := [some (.ref a0)]) (S' := []) (pc2 := 19) (L2 := [some (.ref a0)]) (S2 := []) (h' := h) (h2 := h) rfl rfl (fun hc => ?_) (fun hc => ?_)
  · have hc := hc
    rw [if_pos hc] at H
    exact k_r rfl rfl rfl H
  · have hc := hc
    rw [if_neg hc] at H
    refine k_n 1 (pc' := 20) (L' := [some (.ref a0)]) (S' := [.ref a0]) (h' := h) rfl ?_
    refine k_gS (b := 6) rfl Ta0 (W.abOf (t := 7) (j := 2) (o := 6) (n := 0) (by decide) Ta0).1 ?_
    refine k_n 1 (pc' := 24) (L' := [some (.ref a0)]) (S' := [.ref a0, .ref 6]) (h' := h) rfl ?_
    refine k_gI rfl rfl Ta0 ?_
    refine k_cI 93 2 rfl rfl rfl (A := [.ref 6, .int (z_iv h a0 6)]) rfl rfl (z_rok_ref (CW.tyOf (t := 7) (t' := 9) W (j := 2) Ta0 (W.abOf (t := 7) (j := 2) (o := 6) (n := 0) (by decide) Ta0).1 (by decide) rfl)) (rest := []) rfl (z_tyI rfl rfl) ?_
    obtain ⟨v1, k2, H⟩ := H
    refine k_P k2 ?_
    refine k_cI 85 1 rfl rfl rfl (A := [.int v1]) rfl rfl rfl (rest := []) rfl (z_tyI rfl rfl) ?_
    refine C_85 v1 h    ?_
    refine k_b (g := z_bt (¬ (v1 < (97 : Int32)) ∧ (¬ ((122 : Int32) < v1))) = 0) (pc' := 49) (L' := [some (.ref a0)]) (S' := []) (pc2 := 36) (L2 := [some (.ref a0)]) (S2 := []) (h' := h) (h2 := h) rfl rfl (fun hc => ?_) (fun hc => ?_)
    · have hc := z_bt_0.mp hc
      rw [if_neg hc] at H
      exact k_r rfl rfl rfl H
    · have hc := Decidable.not_not.mp (fun q => hc (z_bt_0.mpr q))
      rw [if_pos hc] at H
      refine k_n 2 (pc' := 38) (L' := [some (.ref a0)]) (S' := [.ref a0, .ref a0]) (h' := h) rfl ?_
      refine k_gI rfl rfl Ta0 ?_
      refine k_n 2 (pc' := 43) (L' := [some (.ref a0)]) (S' := [.int ((z_iv h a0 6) + (1 : Int32)), .ref a0]) (h' := h) rfl ?_
      refine k_pI rfl Ta0 ?_
      refine k_n 1 (pc' := 5) (L' := [some (.ref a0)]) (S' := []) (h' := (z_sI h a0 6 ((z_iv h a0 6) + (1 : Int32)))) rfl ?_
      exact H
set_option maxRecDepth 20000 in
theorem X_84 (a0 : Nat) (h : zH) (W : CW h) (T0 : z_tg h a0 = 7) {Q : Int32 → zH → Prop} (H : KG z_pI 84 10 [some (.ref a0)] [] (z_sI (z_sI h a0 4 (2 : Int32)) a0 7 (0 : Int32)) Q) : KK z_pI 84 [.ref a0] h Q := by
  refine k_K (L := [some (.ref a0)]) rfl ?_
  refine k_n 2 (pc' := 2) (L' := [some (.ref a0)]) (S' := [.int (2 : Int32), .ref a0]) (h' := h) rfl ?_
  refine k_pI rfl T0 ?_
  refine k_n 2 (pc' := 7) (L' := [some (.ref a0)]) (S' := [.int (0 : Int32), .ref a0]) (h' := (z_sI h a0 4 (2 : Int32))) rfl ?_
  refine k_pI rfl (z_tgI T0) ?_
  exact H
set_option maxRecDepth 20000 in
theorem X_84_10 (a0 : Nat) (h : zH) (W : CW h) (Ta0 : z_tg h a0 = 7) {Q : Int32 → zH → Prop} (H : if (z_iv h 6 1) ≤ (z_iv h a0 6) then (Q (1 : Int32) h) else (∃ v1 : Int32, KV z_pI 93 [.ref 6, .int (z_iv h a0 6)] h v1 ∧ (if ¬ (v1 < (48 : Int32)) ∧ (¬ ((57 : Int32) < v1)) then (if ((z_iv h a0 6) - (z_iv h a0 5)) < (4 : Int32) then (∃ v3 : Int32, KV z_pI 93 [.ref 6, .int (z_iv h a0 6)] h v3 ∧ KG z_pI 84 10 [some (.ref a0)] [] (z_sI (z_sI h a0 7 ((((z_iv h a0 7) * (10 : Int32)) + v3) - (48 : Int32))) a0 6 ((z_iv h a0 6) + (1 : Int32))) Q) else (Q (0 : Int32) (z_sI (z_sI h a0 0 (1 : Int32)) a0 1 (z_iv h a0 5)))) else (Q (1 : Int32) h)))) : KG z_pI 84 10 [some (.ref a0)] [] h Q := by
  refine k_n 1 (pc' := 11) (L' := [some (.ref a0)]) (S' := [.ref a0]) (h' := h) rfl ?_
  refine k_gI rfl rfl Ta0 ?_
  refine k_n 1 (pc' := 15) (L' := [some (.ref a0)]) (S' := [.ref a0, .int (z_iv h a0 6)]) (h' := h) rfl ?_
  refine k_gS (b := 6) rfl Ta0 (W.abOf (t := 7) (j := 2) (o := 6) (n := 0) (by decide) Ta0).1 ?_
  refine k_gI rfl rfl (CW.tyOf (t := 7) (t' := 9) W (j := 2) Ta0 (W.abOf (t := 7) (j := 2) (o := 6) (n := 0) (by decide) Ta0).1 (by decide) rfl) ?_
  refine k_b (g := (z_iv h 6 1) ≤ (z_iv h a0 6)) (pc' := 99) (L' := [some (.ref a0)]) (S' := []) (pc2 := 24) (L2 := [some (.ref a0)]) (S2 := []) (h' := h) (h2 := h) rfl rfl (fun hc => ?_) (fun hc => ?_)
  · have hc := hc
    rw [if_pos hc] at H
    refine k_n 1 (pc' := 100) (L' := [some (.ref a0)]) (S' := [.int (1 : Int32)]) (h' := h) rfl ?_
    exact k_r rfl rfl rfl H
  · have hc := hc
    rw [if_neg hc] at H
    refine k_n 1 (pc' := 25) (L' := [some (.ref a0)]) (S' := [.ref a0]) (h' := h) rfl ?_
    refine k_gS (b := 6) rfl Ta0 (W.abOf (t := 7) (j := 2) (o := 6) (n := 0) (by decide) Ta0).1 ?_
    refine k_n 1 (pc' := 29) (L' := [some (.ref a0)]) (S' := [.ref a0, .ref 6]) (h' := h) rfl ?_
    refine k_gI rfl rfl Ta0 ?_
    refine k_cI 93 2 rfl rfl rfl (A := [.ref 6, .int (z_iv h a0 6)]) rfl rfl (z_rok_ref (CW.tyOf (t := 7) (t' := 9) W (j := 2) Ta0 (W.abOf (t := 7) (j := 2) (o := 6) (n := 0) (by decide) Ta0).1 (by decide) rfl)) (rest := []) rfl (z_tyI rfl rfl) ?_
    obtain ⟨v1, k2, H⟩ := H
    refine k_P k2 ?_
    refine k_cI 86 1 rfl rfl rfl (A := [.int v1]) rfl rfl rfl (rest := []) rfl (z_tyI rfl rfl) ?_
    refine C_86 v1 h    ?_
    refine k_b (g := z_bt (¬ (v1 < (48 : Int32)) ∧ (¬ ((57 : Int32) < v1))) = 0) (pc' := 99) (L' := [some (.ref a0)]) (S' := []) (pc2 := 41) (L2 := [some (.ref a0)]) (S2 := []) (h' := h) (h2 := h) rfl rfl (fun hc => ?_) (fun hc => ?_)
    · have hc := z_bt_0.mp hc
      rw [if_neg hc] at H
      refine k_n 1 (pc' := 100) (L' := [some (.ref a0)]) (S' := [.int (1 : Int32)]) (h' := h) rfl ?_
      exact k_r rfl rfl rfl H
    · have hc := Decidable.not_not.mp (fun q => hc (z_bt_0.mpr q))
      rw [if_pos hc] at H
      refine k_n 1 (pc' := 42) (L' := [some (.ref a0)]) (S' := [.ref a0]) (h' := h) rfl ?_
      refine k_gI rfl rfl Ta0 ?_
      refine k_n 1 (pc' := 46) (L' := [some (.ref a0)]) (S' := [.ref a0, .int (z_iv h a0 6)]) (h' := h) rfl ?_
      refine k_gI rfl rfl Ta0 ?_
      refine k_n 2 (pc' := 51) (L' := [some (.ref a0)]) (S' := [.int (4 : Int32), .int ((z_iv h a0 6) - (z_iv h a0 5))]) (h' := h) rfl ?_
      refine k_b (g := ((z_iv h a0 6) - (z_iv h a0 5)) < (4 : Int32)) (pc' := 60) (L' := [some (.ref a0)]) (S' := []) (pc2 := 54) (L2 := [some (.ref a0)]) (S2 := []) (h' := h) (h2 := h) rfl rfl (fun hc => ?_) (fun hc => ?_)
      · have hc := hc
        rw [if_pos hc] at H
        refine k_n 2 (pc' := 62) (L' := [some (.ref a0)]) (S' := [.ref a0, .ref a0]) (h' := h) rfl ?_
        refine k_gI rfl rfl Ta0 ?_
        refine k_n 3 (pc' := 69) (L' := [some (.ref a0)]) (S' := [.ref a0, .int ((z_iv h a0 7) * (10 : Int32)), .ref a0]) (h' := h) rfl ?_
        refine k_gS (b := 6) rfl Ta0 (W.abOf (t := 7) (j := 2) (o := 6) (n := 0) (by decide) Ta0).1 ?_
        refine k_n 1 (pc' := 73) (L' := [some (.ref a0)]) (S' := [.ref a0, .ref 6, .int ((z_iv h a0 7) * (10 : Int32)), .ref a0]) (h' := h) rfl ?_
        refine k_gI rfl rfl Ta0 ?_
        refine k_cI 93 2 rfl rfl rfl (A := [.ref 6, .int (z_iv h a0 6)]) rfl rfl (z_rok_ref (CW.tyOf (t := 7) (t' := 9) W (j := 2) Ta0 (W.abOf (t := 7) (j := 2) (o := 6) (n := 0) (by decide) Ta0).1 (by decide) rfl)) (rest := [.int ((z_iv h a0 7) * (10 : Int32)), .ref a0]) rfl (z_tyI rfl rfl) ?_
        obtain ⟨v3, k4, H⟩ := H
        refine k_P k4 ?_
        refine k_n 3 (pc' := 83) (L' := [some (.ref a0)]) (S' := [.int ((((z_iv h a0 7) * (10 : Int32)) + v3) - (48 : Int32)), .ref a0]) (h' := h) rfl ?_
        refine k_pI rfl Ta0 ?_
        refine k_n 2 (pc' := 88) (L' := [some (.ref a0)]) (S' := [.ref a0, .ref a0]) (h' := (z_sI h a0 7 ((((z_iv h a0 7) * (10 : Int32)) + v3) - (48 : Int32)))) rfl ?_
        refine k_gV rfl rfl (z_tgI Ta0) (v_nj (by decide) rfl) ?_
        refine k_n 2 (pc' := 93) (L' := [some (.ref a0)]) (S' := [.int ((z_iv h a0 6) + (1 : Int32)), .ref a0]) (h' := (z_sI h a0 7 ((((z_iv h a0 7) * (10 : Int32)) + v3) - (48 : Int32)))) rfl ?_
        refine k_pI rfl (z_tgI Ta0) ?_
        refine k_n 1 (pc' := 10) (L' := [some (.ref a0)]) (S' := []) (h' := (z_sI (z_sI h a0 7 ((((z_iv h a0 7) * (10 : Int32)) + v3) - (48 : Int32))) a0 6 ((z_iv h a0 6) + (1 : Int32)))) rfl ?_
        exact H
      · have hc := hc
        rw [if_neg hc] at H
        refine k_n 2 (pc' := 56) (L' := [some (.ref a0)]) (S' := [.int (1 : Int32), .ref a0]) (h' := h) rfl ?_
        refine k_cI 72 2 rfl rfl rfl (A := [.ref a0, .int (1 : Int32)]) rfl rfl (z_rok_ref Ta0) (rest := []) rfl (z_tyI rfl rfl) ?_
        refine X_72 a0 (1 : Int32) h W Ta0 ?_
        exact k_r rfl rfl rfl H
set_option maxRecDepth 20000 in
theorem X_82 (a0 : Nat) (h : zH) (W : CW h) (T0 : z_tg h a0 = 7) {Q : Int32 → zH → Prop} (H : KG z_pI 82 8 [some (.ref a0), none] [] (z_sI h a0 5 (z_iv h a0 6)) Q) : KK z_pI 82 [.ref a0] h Q := by
  refine k_K (L := [some (.ref a0), none]) rfl ?_
  refine k_n 2 (pc' := 2) (L' := [some (.ref a0), none]) (S' := [.ref a0, .ref a0]) (h' := h) rfl ?_
  refine k_gI rfl rfl T0 ?_
  refine k_pI rfl T0 ?_
  exact H
set_option maxRecDepth 20000 in
theorem X_82_8 (a0 : Nat) (u1 : Option Value) (h : zH) (W : CW h) (Ta0 : z_tg h a0 = 7) {Q : Int32 → zH → Prop} (H : if (z_iv h 6 1) ≤ (z_iv h a0 5) then (if (z_iv h a0 5) < (z_iv h 6 1) then (∃ v1 : Int32, KV z_pI 93 [.ref 6, .int (z_iv h a0 5)] (z_sI h a0 6 (z_iv h a0 5)) v1 ∧ (if v1 = (59 : Int32) then (Q (1 : Int32) (z_sI (z_sI (z_sI h a0 6 (z_iv h a0 5)) a0 4 (3 : Int32)) a0 6 ((z_iv h a0 5) + (1 : Int32)))) else (if ¬ (v1 < (97 : Int32)) ∧ (¬ ((122 : Int32) < v1)) then (KK z_pV 83 [.ref a0] (z_sI h a0 6 (z_iv h a0 5)) (fun _ h7 => Sh (z_sI h a0 6 (z_iv h a0 5)) h7 ∧ Q (1 : Int32) h7)) else (if ¬ (v1 < (48 : Int32)) ∧ (¬ ((57 : Int32) < v1)) then (KK z_pI 84 [.ref a0] (z_sI h a0 6 (z_iv h a0 5)) (fun r5 h3 => Sh (z_sI h a0 6 (z_iv h a0 5)) h3 ∧ (r5 = 0 ∨ r5 = 1) ∧ Q r5 h3)) else (Q (0 : Int32) (z_sI (z_sI (z_sI h a0 6 (z_iv h a0 5)) a0 0 (1 : Int32)) a0 1 (z_iv (z_sI h a0 6 (z_iv h a0 5)) a0 5))))))) else (Q (1 : Int32) (z_sI (z_sI h a0 6 (z_iv h a0 5)) a0 4 (0 : Int32)))) else (∃ v9 : Int32, KV z_pI 93 [.ref 6, .int (z_iv h a0 5)] h v9 ∧ (if v9 = (32 : Int32) then (KG z_pI 82 8 [some (.ref a0), u1] [] (z_sI h a0 5 ((z_iv h a0 5) + (1 : Int32))) Q) else (if (z_iv h a0 5) < (z_iv h 6 1) then (∃ v11 : Int32, KV z_pI 93 [.ref 6, .int (z_iv h a0 5)] (z_sI h a0 6 (z_iv h a0 5)) v11 ∧ (if v11 = (59 : Int32) then (Q (1 : Int32) (z_sI (z_sI (z_sI h a0 6 (z_iv h a0 5)) a0 4 (3 : Int32)) a0 6 ((z_iv h a0 5) + (1 : Int32)))) else (if ¬ (v11 < (97 : Int32)) ∧ (¬ ((122 : Int32) < v11)) then (KK z_pV 83 [.ref a0] (z_sI h a0 6 (z_iv h a0 5)) (fun _ h17 => Sh (z_sI h a0 6 (z_iv h a0 5)) h17 ∧ Q (1 : Int32) h17)) else (if ¬ (v11 < (48 : Int32)) ∧ (¬ ((57 : Int32) < v11)) then (KK z_pI 84 [.ref a0] (z_sI h a0 6 (z_iv h a0 5)) (fun r15 h13 => Sh (z_sI h a0 6 (z_iv h a0 5)) h13 ∧ (r15 = 0 ∨ r15 = 1) ∧ Q r15 h13)) else (Q (0 : Int32) (z_sI (z_sI (z_sI h a0 6 (z_iv h a0 5)) a0 0 (1 : Int32)) a0 1 (z_iv (z_sI h a0 6 (z_iv h a0 5)) a0 5))))))) else (Q (1 : Int32) (z_sI (z_sI h a0 6 (z_iv h a0 5)) a0 4 (0 : Int32))))))) : KG z_pI 82 8 [some (.ref a0), u1] [] h Q := by
  refine k_n 1 (pc' := 9) (L' := [some (.ref a0), u1]) (S' := [.ref a0]) (h' := h) rfl ?_
  refine k_gI rfl rfl Ta0 ?_
  refine k_n 1 (pc' := 13) (L' := [some (.ref a0), u1]) (S' := [.ref a0, .int (z_iv h a0 5)]) (h' := h) rfl ?_
  refine k_gS (b := 6) rfl Ta0 (W.abOf (t := 7) (j := 2) (o := 6) (n := 0) (by decide) Ta0).1 ?_
  refine k_gI rfl rfl (CW.tyOf (t := 7) (t' := 9) W (j := 2) Ta0 (W.abOf (t := 7) (j := 2) (o := 6) (n := 0) (by decide) Ta0).1 (by decide) rfl) ?_
  refine k_b (g := (z_iv h 6 1) ≤ (z_iv h a0 5)) (pc' := 51) (L' := [some (.ref a0), u1]) (S' := []) (pc2 := 22) (L2 := [some (.ref a0), u1]) (S2 := []) (h' := h) (h2 := h) rfl rfl (fun hc => ?_) (fun hc => ?_)
  · have hc := hc
    rw [if_pos hc] at H
    refine k_n 2 (pc' := 53) (L' := [some (.ref a0), u1]) (S' := [.ref a0, .ref a0]) (h' := h) rfl ?_
    refine k_gI rfl rfl Ta0 ?_
    refine k_pI rfl Ta0 ?_
    refine k_n 1 (pc' := 60) (L' := [some (.ref a0), u1]) (S' := [.ref a0]) (h' := (z_sI h a0 6 (z_iv h a0 5))) rfl ?_
    refine k_gV rfl rfl (z_tgI Ta0) (v_nj (by decide) rfl) ?_
    refine k_n 1 (pc' := 64) (L' := [some (.ref a0), u1]) (S' := [.ref a0, .int (z_iv h a0 5)]) (h' := (z_sI h a0 6 (z_iv h a0 5))) rfl ?_
    refine k_gS (b := 6) rfl (z_tgI Ta0) ((CW.sI W).abOf (t := 7) (j := 2) (o := 6) (n := 0) (by decide) (z_tgI Ta0)).1 ?_
    refine k_gV rfl rfl (CW.tyOf (t := 7) (t' := 9) (CW.sI W) (j := 2) (z_tgI Ta0) ((CW.sI W).abOf (t := 7) (j := 2) (o := 6) (n := 0) (by decide) (z_tgI Ta0)).1 (by decide) rfl) (v_nt (show z_tg h 6 = 9 from (show z_tg (z_sI h a0 6 (z_iv h a0 5)) 6 = 9 from (CW.tyOf (t := 7) (t' := 9) (CW.sI W) (j := 2) (z_tgI Ta0) ((CW.sI W).abOf (t := 7) (j := 2) (o := 6) (n := 0) (by decide) (z_tgI Ta0)).1 (by decide) rfl))) Ta0 (by decide) rfl) ?_
    refine k_b (g := (z_iv h a0 5) < (z_iv h 6 1)) (pc' := 80) (L' := [some (.ref a0), u1]) (S' := []) (pc2 := 73) (L2 := [some (.ref a0), u1]) (S2 := []) (h' := (z_sI h a0 6 (z_iv h a0 5))) (h2 := (z_sI h a0 6 (z_iv h a0 5))) rfl rfl (fun hc => ?_) (fun hc => ?_)
    · have hc := hc
      rw [if_pos hc] at H
      refine k_n 1 (pc' := 81) (L' := [some (.ref a0), u1]) (S' := [.ref a0]) (h' := (z_sI h a0 6 (z_iv h a0 5))) rfl ?_
      refine k_gS (b := 6) rfl (z_tgI Ta0) ((CW.sI W).abOf (t := 7) (j := 2) (o := 6) (n := 0) (by decide) (z_tgI Ta0)).1 ?_
      refine k_n 1 (pc' := 85) (L' := [some (.ref a0), u1]) (S' := [.ref a0, .ref 6]) (h' := (z_sI h a0 6 (z_iv h a0 5))) rfl ?_
      refine k_gV rfl rfl (z_tgI Ta0) (v_nj (by decide) rfl) ?_
      refine k_cI 93 2 rfl rfl rfl (A := [.ref 6, .int (z_iv h a0 5)]) rfl rfl (z_rok_ref (CW.tyOf (t := 7) (t' := 9) (CW.sI W) (j := 2) (z_tgI Ta0) ((CW.sI W).abOf (t := 7) (j := 2) (o := 6) (n := 0) (by decide) (z_tgI Ta0)).1 (by decide) rfl)) (rest := []) rfl (z_tyI rfl rfl) ?_
      obtain ⟨v1, k2, H⟩ := H
      refine k_P k2 ?_
      refine k_n 3 (pc' := 95) (L' := [some (.ref a0), some (.int v1)]) (S' := [.int (59 : Int32), .int v1]) (h' := (z_sI h a0 6 (z_iv h a0 5))) rfl ?_
      refine k_b (g := v1 = (59 : Int32)) (pc' := 98) (L' := [some (.ref a0), some (.int v1)]) (S' := []) (pc2 := 115) (L2 := [some (.ref a0), some (.int v1)]) (S2 := []) (h' := (z_sI h a0 6 (z_iv h a0 5))) (h2 := (z_sI h a0 6 (z_iv h a0 5))) rfl rfl (fun hc => ?_) (fun hc => ?_)
      · have hc := hc
        rw [if_pos hc] at H
        refine k_n 2 (pc' := 100) (L' := [some (.ref a0), some (.int v1)]) (S' := [.int (3 : Int32), .ref a0]) (h' := (z_sI h a0 6 (z_iv h a0 5))) rfl ?_
        refine k_pI rfl (z_tgI Ta0) ?_
        refine k_n 2 (pc' := 105) (L' := [some (.ref a0), some (.int v1)]) (S' := [.ref a0, .ref a0]) (h' := (z_sI (z_sI h a0 6 (z_iv h a0 5)) a0 4 (3 : Int32))) rfl ?_
        refine k_gV rfl rfl (z_tgI (z_tgI Ta0)) (v_nj (by decide) v_at) ?_
        refine k_n 2 (pc' := 110) (L' := [some (.ref a0), some (.int v1)]) (S' := [.int ((z_iv h a0 5) + (1 : Int32)), .ref a0]) (h' := (z_sI (z_sI h a0 6 (z_iv h a0 5)) a0 4 (3 : Int32))) rfl ?_
        refine k_pI rfl (z_tgI (z_tgI Ta0)) ?_
        refine k_n 1 (pc' := 114) (L' := [some (.ref a0), some (.int v1)]) (S' := [.int (1 : Int32)]) (h' := (z_sI (z_sI (z_sI h a0 6 (z_iv h a0 5)) a0 4 (3 : Int32)) a0 6 ((z_iv h a0 5) + (1 : Int32)))) rfl ?_
        exact k_r rfl rfl rfl H
      · have hc := hc
        rw [if_neg hc] at H
        refine k_n 1 (pc' := 116) (L' := [some (.ref a0), some (.int v1)]) (S' := [.int v1]) (h' := (z_sI h a0 6 (z_iv h a0 5))) rfl ?_
        refine k_cI 85 1 rfl rfl rfl (A := [.int v1]) rfl rfl rfl (rest := []) rfl (z_tyI rfl rfl) ?_
        refine C_85 v1 (z_sI h a0 6 (z_iv h a0 5))    ?_
        refine k_b (g := z_bt (¬ (v1 < (97 : Int32)) ∧ (¬ ((122 : Int32) < v1))) = 0) (pc' := 128) (L' := [some (.ref a0), some (.int v1)]) (S' := []) (pc2 := 122) (L2 := [some (.ref a0), some (.int v1)]) (S2 := []) (h' := (z_sI h a0 6 (z_iv h a0 5))) (h2 := (z_sI h a0 6 (z_iv h a0 5))) rfl rfl (fun hc => ?_) (fun hc => ?_)
        · have hc := z_bt_0.mp hc
          rw [if_neg hc] at H
          refine k_n 1 (pc' := 129) (L' := [some (.ref a0), some (.int v1)]) (S' := [.int v1]) (h' := (z_sI h a0 6 (z_iv h a0 5))) rfl ?_
          refine k_cI 86 1 rfl rfl rfl (A := [.int v1]) rfl rfl rfl (rest := []) rfl (z_tyI rfl rfl) ?_
          refine C_86 v1 (z_sI h a0 6 (z_iv h a0 5))    ?_
          refine k_b (g := z_bt (¬ (v1 < (48 : Int32)) ∧ (¬ ((57 : Int32) < v1))) = 0) (pc' := 142) (L' := [some (.ref a0), some (.int v1)]) (S' := []) (pc2 := 135) (L2 := [some (.ref a0), some (.int v1)]) (S2 := []) (h' := (z_sI h a0 6 (z_iv h a0 5))) (h2 := (z_sI h a0 6 (z_iv h a0 5))) rfl rfl (fun hc => ?_) (fun hc => ?_)
          · have hc := z_bt_0.mp hc
            rw [if_neg hc] at H
            refine k_n 2 (pc' := 144) (L' := [some (.ref a0), some (.int v1)]) (S' := [.int (1 : Int32), .ref a0]) (h' := (z_sI h a0 6 (z_iv h a0 5))) rfl ?_
            refine k_cI 72 2 rfl rfl rfl (A := [.ref a0, .int (1 : Int32)]) rfl rfl (z_rok_ref (z_tgI Ta0)) (rest := []) rfl (z_tyI rfl rfl) ?_
            refine X_72 a0 (1 : Int32) (z_sI h a0 6 (z_iv h a0 5)) (CW.sI W) (z_tgI Ta0) ?_
            exact k_r rfl rfl rfl H
          · have hc := Decidable.not_not.mp (fun q => hc (z_bt_0.mpr q))
            rw [if_pos hc] at H
            refine k_n 1 (pc' := 136) (L' := [some (.ref a0), some (.int v1)]) (S' := [.ref a0]) (h' := (z_sI h a0 6 (z_iv h a0 5))) rfl ?_
            refine k_cI 84 1 rfl rfl rfl (A := [.ref a0]) rfl rfl (z_rok_ref (z_tgI Ta0)) (rest := []) rfl (z_tyI rfl rfl) ?_
            refine H.mono (fun r5 h3 H => ?_)
            obtain ⟨E4, H⟩ := H
            refine k_n 1 (pc' := 147) (L' := [some (.ref a0), some (.int v1)]) (S' := [.int r5]) (h' := h3) rfl ?_
            obtain ⟨o6, H⟩ := H
            exact k_r rfl (z_retB o6) rfl H
        · have hc := Decidable.not_not.mp (fun q => hc (z_bt_0.mpr q))
          rw [if_pos hc] at H
          refine k_n 1 (pc' := 123) (L' := [some (.ref a0), some (.int v1)]) (S' := [.ref a0]) (h' := (z_sI h a0 6 (z_iv h a0 5))) rfl ?_
          refine k_cV 83 1 rfl rfl rfl (A := [.ref a0]) rfl rfl (z_rok_ref (z_tgI Ta0)) (rest := []) rfl rfl ?_
          refine H.mono (fun _ h7 H => ?_)
          obtain ⟨E8, H⟩ := H
          refine k_n 1 (pc' := 127) (L' := [some (.ref a0), some (.int v1)]) (S' := [.int (1 : Int32)]) (h' := h7) rfl ?_
          exact k_r rfl rfl rfl H
    · have hc := hc
      rw [if_neg hc] at H
      refine k_n 2 (pc' := 75) (L' := [some (.ref a0), u1]) (S' := [.int (0 : Int32), .ref a0]) (h' := (z_sI h a0 6 (z_iv h a0 5))) rfl ?_
      refine k_pI rfl (z_tgI Ta0) ?_
      refine k_n 1 (pc' := 79) (L' := [some (.ref a0), u1]) (S' := [.int (1 : Int32)]) (h' := (z_sI (z_sI h a0 6 (z_iv h a0 5)) a0 4 (0 : Int32))) rfl ?_
      exact k_r rfl rfl rfl H
  · have hc := hc
    rw [if_neg hc] at H
    refine k_n 1 (pc' := 23) (L' := [some (.ref a0), u1]) (S' := [.ref a0]) (h' := h) rfl ?_
    refine k_gS (b := 6) rfl Ta0 (W.abOf (t := 7) (j := 2) (o := 6) (n := 0) (by decide) Ta0).1 ?_
    refine k_n 1 (pc' := 27) (L' := [some (.ref a0), u1]) (S' := [.ref a0, .ref 6]) (h' := h) rfl ?_
    refine k_gI rfl rfl Ta0 ?_
    refine k_cI 93 2 rfl rfl rfl (A := [.ref 6, .int (z_iv h a0 5)]) rfl rfl (z_rok_ref (CW.tyOf (t := 7) (t' := 9) W (j := 2) Ta0 (W.abOf (t := 7) (j := 2) (o := 6) (n := 0) (by decide) Ta0).1 (by decide) rfl)) (rest := []) rfl (z_tyI rfl rfl) ?_
    obtain ⟨v9, k10, H⟩ := H
    refine k_P k10 ?_
    refine k_n 1 (pc' := 35) (L' := [some (.ref a0), u1]) (S' := [.int (32 : Int32), .int v9]) (h' := h) rfl ?_
    refine k_b (g := v9 = (32 : Int32)) (pc' := 38) (L' := [some (.ref a0), u1]) (S' := []) (pc2 := 51) (L2 := [some (.ref a0), u1]) (S2 := []) (h' := h) (h2 := h) rfl rfl (fun hc => ?_) (fun hc => ?_)
    · have hc := hc
      rw [if_pos hc] at H
      refine k_n 2 (pc' := 40) (L' := [some (.ref a0), u1]) (S' := [.ref a0, .ref a0]) (h' := h) rfl ?_
      refine k_gI rfl rfl Ta0 ?_
      refine k_n 2 (pc' := 45) (L' := [some (.ref a0), u1]) (S' := [.int ((z_iv h a0 5) + (1 : Int32)), .ref a0]) (h' := h) rfl ?_
      refine k_pI rfl Ta0 ?_
      refine k_n 1 (pc' := 8) (L' := [some (.ref a0), u1]) (S' := []) (h' := (z_sI h a0 5 ((z_iv h a0 5) + (1 : Int32)))) rfl ?_
      exact H
    · have hc := hc
      rw [if_neg hc] at H
      refine k_n 2 (pc' := 53) (L' := [some (.ref a0), u1]) (S' := [.ref a0, .ref a0]) (h' := h) rfl ?_
      refine k_gI rfl rfl Ta0 ?_
      refine k_pI rfl Ta0 ?_
      refine k_n 1 (pc' := 60) (L' := [some (.ref a0), u1]) (S' := [.ref a0]) (h' := (z_sI h a0 6 (z_iv h a0 5))) rfl ?_
      refine k_gV rfl rfl (z_tgI Ta0) (v_nj (by decide) rfl) ?_
      refine k_n 1 (pc' := 64) (L' := [some (.ref a0), u1]) (S' := [.ref a0, .int (z_iv h a0 5)]) (h' := (z_sI h a0 6 (z_iv h a0 5))) rfl ?_
      refine k_gS (b := 6) rfl (z_tgI Ta0) ((CW.sI W).abOf (t := 7) (j := 2) (o := 6) (n := 0) (by decide) (z_tgI Ta0)).1 ?_
      refine k_gV rfl rfl (CW.tyOf (t := 7) (t' := 9) (CW.sI W) (j := 2) (z_tgI Ta0) ((CW.sI W).abOf (t := 7) (j := 2) (o := 6) (n := 0) (by decide) (z_tgI Ta0)).1 (by decide) rfl) (v_nt (show z_tg h 6 = 9 from (show z_tg (z_sI h a0 6 (z_iv h a0 5)) 6 = 9 from (CW.tyOf (t := 7) (t' := 9) (CW.sI W) (j := 2) (z_tgI Ta0) ((CW.sI W).abOf (t := 7) (j := 2) (o := 6) (n := 0) (by decide) (z_tgI Ta0)).1 (by decide) rfl))) Ta0 (by decide) rfl) ?_
      refine k_b (g := (z_iv h a0 5) < (z_iv h 6 1)) (pc' := 80) (L' := [some (.ref a0), u1]) (S' := []) (pc2 := 73) (L2 := [some (.ref a0), u1]) (S2 := []) (h' := (z_sI h a0 6 (z_iv h a0 5))) (h2 := (z_sI h a0 6 (z_iv h a0 5))) rfl rfl (fun hc => ?_) (fun hc => ?_)
      · have hc := hc
        rw [if_pos hc] at H
        refine k_n 1 (pc' := 81) (L' := [some (.ref a0), u1]) (S' := [.ref a0]) (h' := (z_sI h a0 6 (z_iv h a0 5))) rfl ?_
        refine k_gS (b := 6) rfl (z_tgI Ta0) ((CW.sI W).abOf (t := 7) (j := 2) (o := 6) (n := 0) (by decide) (z_tgI Ta0)).1 ?_
        refine k_n 1 (pc' := 85) (L' := [some (.ref a0), u1]) (S' := [.ref a0, .ref 6]) (h' := (z_sI h a0 6 (z_iv h a0 5))) rfl ?_
        refine k_gV rfl rfl (z_tgI Ta0) (v_nj (by decide) rfl) ?_
        refine k_cI 93 2 rfl rfl rfl (A := [.ref 6, .int (z_iv h a0 5)]) rfl rfl (z_rok_ref (CW.tyOf (t := 7) (t' := 9) (CW.sI W) (j := 2) (z_tgI Ta0) ((CW.sI W).abOf (t := 7) (j := 2) (o := 6) (n := 0) (by decide) (z_tgI Ta0)).1 (by decide) rfl)) (rest := []) rfl (z_tyI rfl rfl) ?_
        obtain ⟨v11, k12, H⟩ := H
        refine k_P k12 ?_
        refine k_n 3 (pc' := 95) (L' := [some (.ref a0), some (.int v11)]) (S' := [.int (59 : Int32), .int v11]) (h' := (z_sI h a0 6 (z_iv h a0 5))) rfl ?_
        refine k_b (g := v11 = (59 : Int32)) (pc' := 98) (L' := [some (.ref a0), some (.int v11)]) (S' := []) (pc2 := 115) (L2 := [some (.ref a0), some (.int v11)]) (S2 := []) (h' := (z_sI h a0 6 (z_iv h a0 5))) (h2 := (z_sI h a0 6 (z_iv h a0 5))) rfl rfl (fun hc => ?_) (fun hc => ?_)
        · have hc := hc
          rw [if_pos hc] at H
          refine k_n 2 (pc' := 100) (L' := [some (.ref a0), some (.int v11)]) (S' := [.int (3 : Int32), .ref a0]) (h' := (z_sI h a0 6 (z_iv h a0 5))) rfl ?_
          refine k_pI rfl (z_tgI Ta0) ?_
          refine k_n 2 (pc' := 105) (L' := [some (.ref a0), some (.int v11)]) (S' := [.ref a0, .ref a0]) (h' := (z_sI (z_sI h a0 6 (z_iv h a0 5)) a0 4 (3 : Int32))) rfl ?_
          refine k_gV rfl rfl (z_tgI (z_tgI Ta0)) (v_nj (by decide) v_at) ?_
          refine k_n 2 (pc' := 110) (L' := [some (.ref a0), some (.int v11)]) (S' := [.int ((z_iv h a0 5) + (1 : Int32)), .ref a0]) (h' := (z_sI (z_sI h a0 6 (z_iv h a0 5)) a0 4 (3 : Int32))) rfl ?_
          refine k_pI rfl (z_tgI (z_tgI Ta0)) ?_
          refine k_n 1 (pc' := 114) (L' := [some (.ref a0), some (.int v11)]) (S' := [.int (1 : Int32)]) (h' := (z_sI (z_sI (z_sI h a0 6 (z_iv h a0 5)) a0 4 (3 : Int32)) a0 6 ((z_iv h a0 5) + (1 : Int32)))) rfl ?_
          exact k_r rfl rfl rfl H
        · have hc := hc
          rw [if_neg hc] at H
          refine k_n 1 (pc' := 116) (L' := [some (.ref a0), some (.int v11)]) (S' := [.int v11]) (h' := (z_sI h a0 6 (z_iv h a0 5))) rfl ?_
          refine k_cI 85 1 rfl rfl rfl (A := [.int v11]) rfl rfl rfl (rest := []) rfl (z_tyI rfl rfl) ?_
          refine C_85 v11 (z_sI h a0 6 (z_iv h a0 5))    ?_
          refine k_b (g := z_bt (¬ (v11 < (97 : Int32)) ∧ (¬ ((122 : Int32) < v11))) = 0) (pc' := 128) (L' := [some (.ref a0), some (.int v11)]) (S' := []) (pc2 := 122) (L2 := [some (.ref a0), some (.int v11)]) (S2 := []) (h' := (z_sI h a0 6 (z_iv h a0 5))) (h2 := (z_sI h a0 6 (z_iv h a0 5))) rfl rfl (fun hc => ?_) (fun hc => ?_)
          · have hc := z_bt_0.mp hc
            rw [if_neg hc] at H
            refine k_n 1 (pc' := 129) (L' := [some (.ref a0), some (.int v11)]) (S' := [.int v11]) (h' := (z_sI h a0 6 (z_iv h a0 5))) rfl ?_
            refine k_cI 86 1 rfl rfl rfl (A := [.int v11]) rfl rfl rfl (rest := []) rfl (z_tyI rfl rfl) ?_
            refine C_86 v11 (z_sI h a0 6 (z_iv h a0 5))    ?_
            refine k_b (g := z_bt (¬ (v11 < (48 : Int32)) ∧ (¬ ((57 : Int32) < v11))) = 0) (pc' := 142) (L' := [some (.ref a0), some (.int v11)]) (S' := []) (pc2 := 135) (L2 := [some (.ref a0), some (.int v11)]) (S2 := []) (h' := (z_sI h a0 6 (z_iv h a0 5))) (h2 := (z_sI h a0 6 (z_iv h a0 5))) rfl rfl (fun hc => ?_) (fun hc => ?_)
            · have hc := z_bt_0.mp hc
              rw [if_neg hc] at H
              refine k_n 2 (pc' := 144) (L' := [some (.ref a0), some (.int v11)]) (S' := [.int (1 : Int32), .ref a0]) (h' := (z_sI h a0 6 (z_iv h a0 5))) rfl ?_
              refine k_cI 72 2 rfl rfl rfl (A := [.ref a0, .int (1 : Int32)]) rfl rfl (z_rok_ref (z_tgI Ta0)) (rest := []) rfl (z_tyI rfl rfl) ?_
              refine X_72 a0 (1 : Int32) (z_sI h a0 6 (z_iv h a0 5)) (CW.sI W) (z_tgI Ta0) ?_
              exact k_r rfl rfl rfl H
            · have hc := Decidable.not_not.mp (fun q => hc (z_bt_0.mpr q))
              rw [if_pos hc] at H
              refine k_n 1 (pc' := 136) (L' := [some (.ref a0), some (.int v11)]) (S' := [.ref a0]) (h' := (z_sI h a0 6 (z_iv h a0 5))) rfl ?_
              refine k_cI 84 1 rfl rfl rfl (A := [.ref a0]) rfl rfl (z_rok_ref (z_tgI Ta0)) (rest := []) rfl (z_tyI rfl rfl) ?_
              refine H.mono (fun r15 h13 H => ?_)
              obtain ⟨E14, H⟩ := H
              refine k_n 1 (pc' := 147) (L' := [some (.ref a0), some (.int v11)]) (S' := [.int r15]) (h' := h13) rfl ?_
              obtain ⟨o16, H⟩ := H
              exact k_r rfl (z_retB o16) rfl H
          · have hc := Decidable.not_not.mp (fun q => hc (z_bt_0.mpr q))
            rw [if_pos hc] at H
            refine k_n 1 (pc' := 123) (L' := [some (.ref a0), some (.int v11)]) (S' := [.ref a0]) (h' := (z_sI h a0 6 (z_iv h a0 5))) rfl ?_
            refine k_cV 83 1 rfl rfl rfl (A := [.ref a0]) rfl rfl (z_rok_ref (z_tgI Ta0)) (rest := []) rfl rfl ?_
            refine H.mono (fun _ h17 H => ?_)
            obtain ⟨E18, H⟩ := H
            refine k_n 1 (pc' := 127) (L' := [some (.ref a0), some (.int v11)]) (S' := [.int (1 : Int32)]) (h' := h17) rfl ?_
            exact k_r rfl rfl rfl H
      · have hc := hc
        rw [if_neg hc] at H
        refine k_n 2 (pc' := 75) (L' := [some (.ref a0), u1]) (S' := [.int (0 : Int32), .ref a0]) (h' := (z_sI h a0 6 (z_iv h a0 5))) rfl ?_
        refine k_pI rfl (z_tgI Ta0) ?_
        refine k_n 1 (pc' := 79) (L' := [some (.ref a0), u1]) (S' := [.int (1 : Int32)]) (h' := (z_sI (z_sI h a0 6 (z_iv h a0 5)) a0 4 (0 : Int32))) rfl ?_
        exact k_r rfl rfl rfl H
set_option maxRecDepth 20000 in
theorem X_81 (a0 : Nat) (x1 : Nat) (h : zH) (W : CW h) (T0 : z_tg h a0 = 7) (Y1 : 3 ≤ x1 ∧ x1 < 11) {Q : Int32 → zH → Prop} (H : if (z_iv h a0 4) = (1 : Int32) then (∃ v1 : Int32, KV z_pI 2 [.retAddr x1] h v1 ∧ (if ((z_iv h a0 6) - (z_iv h a0 5)) = v1 then (KG z_pI 81 28 [some (.ref a0), some (.retAddr x1), some (.int (0 : Int32))] [] h Q) else (Q (0 : Int32) h))) else (Q (0 : Int32) h)) : KK z_pI 81 [.ref a0, .retAddr x1] h Q := by
  refine k_K (L := [some (.ref a0), some (.retAddr x1), none]) rfl ?_
  refine k_n 1 (pc' := 1) (L' := [some (.ref a0), some (.retAddr x1), none]) (S' := [.ref a0]) (h' := h) rfl ?_
  refine k_gI rfl rfl T0 ?_
  refine k_n 1 (pc' := 5) (L' := [some (.ref a0), some (.retAddr x1), none]) (S' := [.int (1 : Int32), .int (z_iv h a0 4)]) (h' := h) rfl ?_
  refine k_b (g := (z_iv h a0 4) = (1 : Int32)) (pc' := 8) (L' := [some (.ref a0), some (.retAddr x1), none]) (S' := []) (pc2 := 24) (L2 := [some (.ref a0), some (.retAddr x1), none]) (S2 := []) (h' := h) (h2 := h) rfl rfl (fun hc => ?_) (fun hc => ?_)
  · have hc := hc
    rw [if_pos hc] at H
    refine k_n 1 (pc' := 9) (L' := [some (.ref a0), some (.retAddr x1), none]) (S' := [.ref a0]) (h' := h) rfl ?_
    refine k_gI rfl rfl T0 ?_
    refine k_n 1 (pc' := 13) (L' := [some (.ref a0), some (.retAddr x1), none]) (S' := [.ref a0, .int (z_iv h a0 6)]) (h' := h) rfl ?_
    refine k_gI rfl rfl T0 ?_
    refine k_n 2 (pc' := 18) (L' := [some (.ref a0), some (.retAddr x1), none]) (S' := [.retAddr x1, .int ((z_iv h a0 6) - (z_iv h a0 5))]) (h' := h) rfl ?_
    refine k_cI 2 1 rfl rfl rfl (A := [.retAddr x1]) rfl rfl (z_rok_S Y1) (rest := [.int ((z_iv h a0 6) - (z_iv h a0 5))]) rfl (z_tyI rfl rfl) ?_
    obtain ⟨v1, k2, H⟩ := H
    refine k_P k2 ?_
    refine k_b (g := ((z_iv h a0 6) - (z_iv h a0 5)) = v1) (pc' := 26) (L' := [some (.ref a0), some (.retAddr x1), none]) (S' := []) (pc2 := 24) (L2 := [some (.ref a0), some (.retAddr x1), none]) (S2 := []) (h' := h) (h2 := h) rfl rfl (fun hc => ?_) (fun hc => ?_)
    · have hc := hc
      rw [if_pos hc] at H
      refine k_n 2 (pc' := 28) (L' := [some (.ref a0), some (.retAddr x1), some (.int (0 : Int32))]) (S' := []) (h' := h) rfl ?_
      exact H
    · have hc := hc
      rw [if_neg hc] at H
      refine k_n 1 (pc' := 25) (L' := [some (.ref a0), some (.retAddr x1), none]) (S' := [.int (0 : Int32)]) (h' := h) rfl ?_
      exact k_r rfl rfl rfl H
  · have hc := hc
    rw [if_neg hc] at H
    refine k_n 1 (pc' := 25) (L' := [some (.ref a0), some (.retAddr x1), none]) (S' := [.int (0 : Int32)]) (h' := h) rfl ?_
    exact k_r rfl rfl rfl H
set_option maxRecDepth 20000 in
theorem X_81_28 (a0 : Nat) (x1 : Nat) (y2 : Int32) (h : zH) (W : CW h) (Ta0 : z_tg h a0 = 7) (Y1 : 3 ≤ x1 ∧ x1 < 11) {Q : Int32 → zH → Prop} (H : ∃ v3 : Int32, KV z_pI 2 [.retAddr x1] h v3 ∧ (if v3 ≤ y2 then (Q (1 : Int32) h) else (∃ v5 : Int32, KV z_pI 93 [.ref 6, .int ((z_iv h a0 5) + y2)] h v5 ∧ (∃ v7 : Int32, KV z_pI 3 [.retAddr x1, .int y2] h v7 ∧ (if v5 = v7 then (KG z_pI 81 28 [some (.ref a0), some (.retAddr x1), some (.int (y2 + (1 : Int32)))] [] h Q) else (Q (0 : Int32) h)))))) : KG z_pI 81 28 [some (.ref a0), some (.retAddr x1), some (.int y2)] [] h Q := by
  refine k_n 2 (pc' := 30) (L' := [some (.ref a0), some (.retAddr x1), some (.int y2)]) (S' := [.retAddr x1, .int y2]) (h' := h) rfl ?_
  refine k_cI 2 1 rfl rfl rfl (A := [.retAddr x1]) rfl rfl (z_rok_S Y1) (rest := [.int y2]) rfl (z_tyI rfl rfl) ?_
  obtain ⟨v3, k4, H⟩ := H
  refine k_P k4 ?_
  refine k_b (g := v3 ≤ y2) (pc' := 65) (L' := [some (.ref a0), some (.retAddr x1), some (.int y2)]) (S' := []) (pc2 := 36) (L2 := [some (.ref a0), some (.retAddr x1), some (.int y2)]) (S2 := []) (h' := h) (h2 := h) rfl rfl (fun hc => ?_) (fun hc => ?_)
  · have hc := hc
    rw [if_pos hc] at H
    refine k_n 1 (pc' := 66) (L' := [some (.ref a0), some (.retAddr x1), some (.int y2)]) (S' := [.int (1 : Int32)]) (h' := h) rfl ?_
    exact k_r rfl rfl rfl H
  · have hc := hc
    rw [if_neg hc] at H
    refine k_n 1 (pc' := 37) (L' := [some (.ref a0), some (.retAddr x1), some (.int y2)]) (S' := [.ref a0]) (h' := h) rfl ?_
    refine k_gS (b := 6) rfl Ta0 (W.abOf (t := 7) (j := 2) (o := 6) (n := 0) (by decide) Ta0).1 ?_
    refine k_n 1 (pc' := 41) (L' := [some (.ref a0), some (.retAddr x1), some (.int y2)]) (S' := [.ref a0, .ref 6]) (h' := h) rfl ?_
    refine k_gI rfl rfl Ta0 ?_
    refine k_n 2 (pc' := 46) (L' := [some (.ref a0), some (.retAddr x1), some (.int y2)]) (S' := [.int ((z_iv h a0 5) + y2), .ref 6]) (h' := h) rfl ?_
    refine k_cI 93 2 rfl rfl rfl (A := [.ref 6, .int ((z_iv h a0 5) + y2)]) rfl rfl (z_rok_ref (CW.tyOf (t := 7) (t' := 9) W (j := 2) Ta0 (W.abOf (t := 7) (j := 2) (o := 6) (n := 0) (by decide) Ta0).1 (by decide) rfl)) (rest := []) rfl (z_tyI rfl rfl) ?_
    obtain ⟨v5, k6, H⟩ := H
    refine k_P k6 ?_
    refine k_n 2 (pc' := 51) (L' := [some (.ref a0), some (.retAddr x1), some (.int y2)]) (S' := [.int y2, .retAddr x1, .int v5]) (h' := h) rfl ?_
    refine k_cI 3 2 rfl rfl rfl (A := [.retAddr x1, .int y2]) rfl rfl (z_rok_S Y1) (rest := [.int v5]) rfl (z_tyI rfl rfl) ?_
    obtain ⟨v7, k8, H⟩ := H
    refine k_P k8 ?_
    refine k_b (g := v5 = v7) (pc' := 59) (L' := [some (.ref a0), some (.retAddr x1), some (.int y2)]) (S' := []) (pc2 := 57) (L2 := [some (.ref a0), some (.retAddr x1), some (.int y2)]) (S2 := []) (h' := h) (h2 := h) rfl rfl (fun hc => ?_) (fun hc => ?_)
    · have hc := hc
      rw [if_pos hc] at H
      refine k_n 2 (pc' := 28) (L' := [some (.ref a0), some (.retAddr x1), some (.int (y2 + (1 : Int32)))]) (S' := []) (h' := h) rfl ?_
      exact H
    · have hc := hc
      rw [if_neg hc] at H
      refine k_n 1 (pc' := 58) (L' := [some (.ref a0), some (.retAddr x1), some (.int y2)]) (S' := [.int (0 : Int32)]) (h' := h) rfl ?_
      exact k_r rfl rfl rfl H
set_option maxRecDepth 20000 in
theorem X_80 (x1 : Int32) (h : zH)  {Q : Nat → zH → Prop} (H : if x1 = (0 : Int32) then (Q 4 h) else (if x1 = (1 : Int32) then (Q 5 h) else (if x1 = (2 : Int32) then (Q 6 h) else (if x1 = (3 : Int32) then (Q 7 h) else (if x1 = (4 : Int32) then (Q 8 h) else (if x1 = (5 : Int32) then (Q 9 h) else (Q 10 h))))))) : KK z_pS 80 [.int x1] h Q := by
  refine k_K (L := [some (.int x1)]) rfl ?_
  refine k_n 1 (pc' := 1) (L' := [some (.int x1)]) (S' := [.int x1]) (h' := h) rfl ?_
  by_cases w1 : x1 = (0 : Int32)
  · rw [if_pos w1] at H
    refine k_sw (pc' := 40) rfl (congrArg (z_tgt 1) (z_swT (k := (0 : Int32)) w1 rfl)) ?_
    refine k_n 1 (pc' := 42) (L' := [some (.int x1)]) (S' := [.retAddr 4]) (h' := h) rfl ?_
    exact k_r rfl rfl rfl H
  rw [if_neg w1] at H
  by_cases w2 : x1 = (1 : Int32)
  · rw [if_pos w2] at H
    refine k_sw (pc' := 43) rfl (congrArg (z_tgt 1) (z_swN (k := (0 : Int32)) w1 rfl (z_swT (k := (1 : Int32)) w2 rfl))) ?_
    refine k_n 1 (pc' := 45) (L' := [some (.int x1)]) (S' := [.retAddr 5]) (h' := h) rfl ?_
    exact k_r rfl rfl rfl H
  rw [if_neg w2] at H
  by_cases w3 : x1 = (2 : Int32)
  · rw [if_pos w3] at H
    refine k_sw (pc' := 46) rfl (congrArg (z_tgt 1) (z_swN (k := (0 : Int32)) w1 rfl (z_swN (k := (1 : Int32)) w2 rfl (z_swT (k := (2 : Int32)) w3 rfl)))) ?_
    refine k_n 1 (pc' := 48) (L' := [some (.int x1)]) (S' := [.retAddr 6]) (h' := h) rfl ?_
    exact k_r rfl rfl rfl H
  rw [if_neg w3] at H
  by_cases w4 : x1 = (3 : Int32)
  · rw [if_pos w4] at H
    refine k_sw (pc' := 49) rfl (congrArg (z_tgt 1) (z_swN (k := (0 : Int32)) w1 rfl (z_swN (k := (1 : Int32)) w2 rfl (z_swN (k := (2 : Int32)) w3 rfl (z_swT (k := (3 : Int32)) w4 rfl))))) ?_
    refine k_n 1 (pc' := 51) (L' := [some (.int x1)]) (S' := [.retAddr 7]) (h' := h) rfl ?_
    exact k_r rfl rfl rfl H
  rw [if_neg w4] at H
  by_cases w5 : x1 = (4 : Int32)
  · rw [if_pos w5] at H
    refine k_sw (pc' := 52) rfl (congrArg (z_tgt 1) (z_swN (k := (0 : Int32)) w1 rfl (z_swN (k := (1 : Int32)) w2 rfl (z_swN (k := (2 : Int32)) w3 rfl (z_swN (k := (3 : Int32)) w4 rfl (z_swT (k := (4 : Int32)) w5 rfl)))))) ?_
    refine k_n 1 (pc' := 54) (L' := [some (.int x1)]) (S' := [.retAddr 8]) (h' := h) rfl ?_
    exact k_r rfl rfl rfl H
  rw [if_neg w5] at H
  by_cases w6 : x1 = (5 : Int32)
  · rw [if_pos w6] at H
    refine k_sw (pc' := 55) rfl (congrArg (z_tgt 1) (z_swN (k := (0 : Int32)) w1 rfl (z_swN (k := (1 : Int32)) w2 rfl (z_swN (k := (2 : Int32)) w3 rfl (z_swN (k := (3 : Int32)) w4 rfl (z_swN (k := (4 : Int32)) w5 rfl (z_swT (k := (5 : Int32)) w6 rfl))))))) ?_
    refine k_n 1 (pc' := 57) (L' := [some (.int x1)]) (S' := [.retAddr 9]) (h' := h) rfl ?_
    exact k_r rfl rfl rfl H
  rw [if_neg w6] at H
  refine k_sw (pc' := 58) rfl (congrArg (z_tgt 1) (z_swN (k := (0 : Int32)) w1 rfl (z_swN (k := (1 : Int32)) w2 rfl (z_swN (k := (2 : Int32)) w3 rfl (z_swN (k := (3 : Int32)) w4 rfl (z_swN (k := (4 : Int32)) w5 rfl (z_swN (k := (5 : Int32)) w6 rfl rfl))))))) ?_
  refine k_n 1 (pc' := 60) (L' := [some (.int x1)]) (S' := [.retAddr 10]) (h' := h) rfl ?_
  exact k_r rfl rfl rfl H
set_option maxRecDepth 20000 in
theorem X_79 (a0 : Nat) (h : zH) (W : CW h) (T0 : z_tg h a0 = 7) {Q : Int32 → zH → Prop} (H : KG z_pI 79 2 [some (.ref a0), some (.int (0 : Int32))] [] h Q) : KK z_pI 79 [.ref a0] h Q := by
  refine k_K (L := [some (.ref a0), none]) rfl ?_
  refine k_n 2 (pc' := 2) (L' := [some (.ref a0), some (.int (0 : Int32))]) (S' := []) (h' := h) rfl ?_
  exact H
set_option maxRecDepth 20000 in
theorem X_79_2 (a0 : Nat) (y1 : Int32) (h : zH) (W : CW h) (Ta0 : z_tg h a0 = 7) {Q : Int32 → zH → Prop} (H : if (7 : Int32) ≤ y1 then (Q (-4 : Int32) h) else (∃ v1 : Nat, KV z_pS 80 [.int y1] h v1 ∧ (∃ v3 : Int32, KV z_pI 81 [.ref a0, .retAddr v1] h v3 ∧ (if v3 = 0 then (KG z_pI 79 2 [some (.ref a0), some (.int (y1 + (1 : Int32)))] [] h Q) else (Q y1 h))))) : KG z_pI 79 2 [some (.ref a0), some (.int y1)] [] h Q := by
  refine k_n 2 (pc' := 5) (L' := [some (.ref a0), some (.int y1)]) (S' := [.int (7 : Int32), .int y1]) (h' := h) rfl ?_
  refine k_b (g := (7 : Int32) ≤ y1) (pc' := 27) (L' := [some (.ref a0), some (.int y1)]) (S' := []) (pc2 := 8) (L2 := [some (.ref a0), some (.int y1)]) (S2 := []) (h' := h) (h2 := h) rfl rfl (fun hc => ?_) (fun hc => ?_)
  · have hc := hc
    rw [if_pos hc] at H
    refine k_n 1 (pc' := 29) (L' := [some (.ref a0), some (.int y1)]) (S' := [.int (-4 : Int32)]) (h' := h) rfl ?_
    exact k_r rfl rfl rfl H
  · have hc := hc
    rw [if_neg hc] at H
    refine k_n 2 (pc' := 10) (L' := [some (.ref a0), some (.int y1)]) (S' := [.int y1, .ref a0]) (h' := h) rfl ?_
    refine k_cS 80 1 rfl rfl rfl (A := [.int y1]) rfl rfl rfl (rest := [.ref a0]) rfl rfl ?_
    obtain ⟨v1, k2, H⟩ := H
    refine k_P k2 ?_
    refine k_cI 81 2 rfl rfl rfl (A := [.ref a0, .retAddr v1]) rfl rfl (z_rok_ref Ta0) (rest := []) rfl (z_tyI rfl rfl) ?_
    obtain ⟨v3, k4, H⟩ := H
    refine k_P k4 ?_
    refine k_b (g := v3 = 0) (pc' := 21) (L' := [some (.ref a0), some (.int y1)]) (S' := []) (pc2 := 19) (L2 := [some (.ref a0), some (.int y1)]) (S2 := []) (h' := h) (h2 := h) rfl rfl (fun hc => ?_) (fun hc => ?_)
    · have hc := hc
      rw [if_pos hc] at H
      refine k_n 2 (pc' := 2) (L' := [some (.ref a0), some (.int (y1 + (1 : Int32)))]) (S' := []) (h' := h) rfl ?_
      exact H
    · have hc := hc
      rw [if_neg hc] at H
      refine k_n 1 (pc' := 20) (L' := [some (.ref a0), some (.int y1)]) (S' := [.int y1]) (h' := h) rfl ?_
      exact k_r rfl rfl rfl H
set_option maxRecDepth 20000 in
theorem X_71 (a0 : Nat) (h : zH) (W : CW h) (T0 : z_tg h a0 = 7) {Q : Int32 → zH → Prop} (H : ∃ v1 : Int32, KV z_pI 81 [.ref a0, .retAddr 3] h v1 ∧ (if v1 = 0 then (∃ v3 : Int32, KV z_pI 79 [.ref a0] h v3 ∧ Q (z_bt (¬ (v3 = (-4 : Int32)))) h) else (Q (1 : Int32) h))) : KK z_pI 71 [.ref a0] h Q := by
  refine k_K (L := [some (.ref a0)]) rfl ?_
  refine k_n 2 (pc' := 3) (L' := [some (.ref a0)]) (S' := [.retAddr 3, .ref a0]) (h' := h) rfl ?_
  refine k_cI 81 2 rfl rfl rfl (A := [.ref a0, .retAddr 3]) rfl rfl (z_rok_ref T0) (rest := []) rfl (z_tyI rfl rfl) ?_
  obtain ⟨v1, k2, H⟩ := H
  refine k_P k2 ?_
  refine k_b (g := v1 = 0) (pc' := 9) (L' := [some (.ref a0)]) (S' := []) (pc2 := 18) (L2 := [some (.ref a0)]) (S2 := []) (h' := h) (h2 := h) rfl rfl (fun hc => ?_) (fun hc => ?_)
  · have hc := hc
    rw [if_pos hc] at H
    refine k_n 1 (pc' := 10) (L' := [some (.ref a0)]) (S' := [.ref a0]) (h' := h) rfl ?_
    refine k_cI 79 1 rfl rfl rfl (A := [.ref a0]) rfl rfl (z_rok_ref T0) (rest := []) rfl (z_tyI rfl rfl) ?_
    obtain ⟨v3, k4, H⟩ := H
    refine k_P k4 ?_
    refine k_n 1 (pc' := 15) (L' := [some (.ref a0)]) (S' := [.int (-4 : Int32), .int v3]) (h' := h) rfl ?_
    have hj6 : KG z_pI 71 23 [some (.ref a0)] [.int (z_bt (¬ (v3 = (-4 : Int32))))] h Q := by
      exact k_r rfl (z_retB z_bt_01) rfl H
    refine k_b (g := v3 = (-4 : Int32)) (pc' := 22) (L' := [some (.ref a0)]) (S' := []) (pc2 := 18) (L2 := [some (.ref a0)]) (S2 := []) (h' := h) (h2 := h) rfl rfl (fun hc => ?_) (fun hc => ?_)
    · have c5 := hc
      refine k_n 1 (pc' := 23) (L' := [some (.ref a0)]) (S' := [.int (0 : Int32)]) (h' := h) rfl ?_
      rw [show z_bt (¬ (v3 = (-4 : Int32))) = 0 from z_bt_0.mpr ((fun q => q c5))] at hj6
      exact hj6
    · have c5 := hc
      refine k_n 2 (pc' := 23) (L' := [some (.ref a0)]) (S' := [.int (1 : Int32)]) (h' := h) rfl ?_
      rw [show z_bt (¬ (v3 = (-4 : Int32))) = 1 from z_bt_1.mpr (c5)] at hj6
      exact hj6
  · have hc := hc
    rw [if_neg hc] at H
    refine k_n 2 (pc' := 23) (L' := [some (.ref a0)]) (S' := [.int (1 : Int32)]) (h' := h) rfl ?_
    exact k_r rfl rfl rfl H
set_option maxRecDepth 20000 in
theorem X_75 (a0 : Nat) (x1 : Int32) (h : zH) (W : CW h) (T0 : z_tg h a0 = 7) {Q : Int32 → zH → Prop} (H : if x1 = (4 : Int32) then (∃ v1 : Int32, KV z_pI 93 [.ref 6, .int (z_iv h a0 5)] h v1 ∧ (if (z_iv h a0 4) = (1 : Int32) then (if ((z_iv h a0 6) - (z_iv h a0 5)) = (1 : Int32) then (if (0 : Int32) ≤ (v1 - (97 : Int32)) ∧ (v1 - (97 : Int32)) ≤ (7 : Int32) then (Q (1 : Int32) (z_sI h a0 7 (v1 - (97 : Int32)))) else (Q (0 : Int32) (z_sI (z_sI h a0 0 (2 : Int32)) a0 1 (z_iv h a0 5)))) else (Q (0 : Int32) (z_sI (z_sI h a0 0 (2 : Int32)) a0 1 (z_iv h a0 5)))) else (Q (0 : Int32) (z_sI (z_sI h a0 0 (2 : Int32)) a0 1 (z_iv h a0 5))))) else (KK z_pI 76 [.ref a0, .int (0 : Int32), .int (5 : Int32)] h (fun r5 h3 => Sh h h3 ∧ (r5 = 0 ∨ r5 = 1) ∧ Q r5 h3))) : KK z_pI 75 [.ref a0, .int x1] h Q := by
  refine k_K (L := [some (.ref a0), some (.int x1), none]) rfl ?_
  refine k_n 2 (pc' := 2) (L' := [some (.ref a0), some (.int x1), none]) (S' := [.int (4 : Int32), .int x1]) (h' := h) rfl ?_
  refine k_b (g := x1 = (4 : Int32)) (pc' := 12) (L' := [some (.ref a0), some (.int x1), none]) (S' := []) (pc2 := 5) (L2 := [some (.ref a0), some (.int x1), none]) (S2 := []) (h' := h) (h2 := h) rfl rfl (fun hc => ?_) (fun hc => ?_)
  · have hc := hc
    rw [if_pos hc] at H
    refine k_n 1 (pc' := 13) (L' := [some (.ref a0), some (.int x1), none]) (S' := [.ref a0]) (h' := h) rfl ?_
    refine k_gS (b := 6) rfl T0 (W.abOf (t := 7) (j := 2) (o := 6) (n := 0) (by decide) T0).1 ?_
    refine k_n 1 (pc' := 17) (L' := [some (.ref a0), some (.int x1), none]) (S' := [.ref a0, .ref 6]) (h' := h) rfl ?_
    refine k_gI rfl rfl T0 ?_
    refine k_cI 93 2 rfl rfl rfl (A := [.ref 6, .int (z_iv h a0 5)]) rfl rfl (z_rok_ref (CW.tyOf (t := 7) (t' := 9) W (j := 2) T0 (W.abOf (t := 7) (j := 2) (o := 6) (n := 0) (by decide) T0).1 (by decide) rfl)) (rest := []) rfl (z_tyI rfl rfl) ?_
    obtain ⟨v1, k2, H⟩ := H
    refine k_P k2 ?_
    refine k_n 4 (pc' := 28) (L' := [some (.ref a0), some (.int x1), some (.int (v1 - (97 : Int32)))]) (S' := [.ref a0]) (h' := h) rfl ?_
    refine k_gI rfl rfl T0 ?_
    refine k_n 1 (pc' := 32) (L' := [some (.ref a0), some (.int x1), some (.int (v1 - (97 : Int32)))]) (S' := [.int (1 : Int32), .int (z_iv h a0 4)]) (h' := h) rfl ?_
    refine k_b (g := (z_iv h a0 4) = (1 : Int32)) (pc' := 35) (L' := [some (.ref a0), some (.int x1), some (.int (v1 - (97 : Int32)))]) (S' := []) (pc2 := 58) (L2 := [some (.ref a0), some (.int x1), some (.int (v1 - (97 : Int32)))]) (S2 := []) (h' := h) (h2 := h) rfl rfl (fun hc => ?_) (fun hc => ?_)
    · have hc := hc
      rw [if_pos hc] at H
      refine k_n 1 (pc' := 36) (L' := [some (.ref a0), some (.int x1), some (.int (v1 - (97 : Int32)))]) (S' := [.ref a0]) (h' := h) rfl ?_
      refine k_gI rfl rfl T0 ?_
      refine k_n 1 (pc' := 40) (L' := [some (.ref a0), some (.int x1), some (.int (v1 - (97 : Int32)))]) (S' := [.ref a0, .int (z_iv h a0 6)]) (h' := h) rfl ?_
      refine k_gI rfl rfl T0 ?_
      refine k_n 2 (pc' := 45) (L' := [some (.ref a0), some (.int x1), some (.int (v1 - (97 : Int32)))]) (S' := [.int (1 : Int32), .int ((z_iv h a0 6) - (z_iv h a0 5))]) (h' := h) rfl ?_
      refine k_b (g := ((z_iv h a0 6) - (z_iv h a0 5)) = (1 : Int32)) (pc' := 48) (L' := [some (.ref a0), some (.int x1), some (.int (v1 - (97 : Int32)))]) (S' := []) (pc2 := 58) (L2 := [some (.ref a0), some (.int x1), some (.int (v1 - (97 : Int32)))]) (S2 := []) (h' := h) (h2 := h) rfl rfl (fun hc => ?_) (fun hc => ?_)
      · have hc := hc
        rw [if_pos hc] at H
        refine k_n 3 (pc' := 52) (L' := [some (.ref a0), some (.int x1), some (.int (v1 - (97 : Int32)))]) (S' := [.int (7 : Int32), .int (0 : Int32), .int (v1 - (97 : Int32))]) (h' := h) rfl ?_
        refine k_cI 135 3 rfl rfl rfl (A := [.int (v1 - (97 : Int32)), .int (0 : Int32), .int (7 : Int32)]) rfl rfl rfl (rest := []) rfl (z_tyI rfl rfl) ?_
        refine c_within (v1 - (97 : Int32)) (0 : Int32) (7 : Int32) h ?_
        refine k_b (g := z_bt ((0 : Int32) ≤ (v1 - (97 : Int32)) ∧ (v1 - (97 : Int32)) ≤ (7 : Int32)) = 0) (pc' := 58) (L' := [some (.ref a0), some (.int x1), some (.int (v1 - (97 : Int32)))]) (S' := []) (pc2 := 64) (L2 := [some (.ref a0), some (.int x1), some (.int (v1 - (97 : Int32)))]) (S2 := []) (h' := h) (h2 := h) rfl rfl (fun hc => ?_) (fun hc => ?_)
        · have hc := z_bt_0.mp hc
          rw [if_neg hc] at H
          refine k_n 2 (pc' := 60) (L' := [some (.ref a0), some (.int x1), some (.int (v1 - (97 : Int32)))]) (S' := [.int (2 : Int32), .ref a0]) (h' := h) rfl ?_
          refine k_cI 72 2 rfl rfl rfl (A := [.ref a0, .int (2 : Int32)]) rfl rfl (z_rok_ref T0) (rest := []) rfl (z_tyI rfl rfl) ?_
          refine X_72 a0 (2 : Int32) h W T0 ?_
          exact k_r rfl rfl rfl H
        · have hc := Decidable.not_not.mp (fun q => hc (z_bt_0.mpr q))
          rw [if_pos hc] at H
          refine k_n 2 (pc' := 66) (L' := [some (.ref a0), some (.int x1), some (.int (v1 - (97 : Int32)))]) (S' := [.int (v1 - (97 : Int32)), .ref a0]) (h' := h) rfl ?_
          refine k_pI rfl T0 ?_
          refine k_n 1 (pc' := 70) (L' := [some (.ref a0), some (.int x1), some (.int (v1 - (97 : Int32)))]) (S' := [.int (1 : Int32)]) (h' := (z_sI h a0 7 (v1 - (97 : Int32)))) rfl ?_
          exact k_r rfl rfl rfl H
      · have hc := hc
        rw [if_neg hc] at H
        refine k_n 2 (pc' := 60) (L' := [some (.ref a0), some (.int x1), some (.int (v1 - (97 : Int32)))]) (S' := [.int (2 : Int32), .ref a0]) (h' := h) rfl ?_
        refine k_cI 72 2 rfl rfl rfl (A := [.ref a0, .int (2 : Int32)]) rfl rfl (z_rok_ref T0) (rest := []) rfl (z_tyI rfl rfl) ?_
        refine X_72 a0 (2 : Int32) h W T0 ?_
        exact k_r rfl rfl rfl H
    · have hc := hc
      rw [if_neg hc] at H
      refine k_n 2 (pc' := 60) (L' := [some (.ref a0), some (.int x1), some (.int (v1 - (97 : Int32)))]) (S' := [.int (2 : Int32), .ref a0]) (h' := h) rfl ?_
      refine k_cI 72 2 rfl rfl rfl (A := [.ref a0, .int (2 : Int32)]) rfl rfl (z_rok_ref T0) (rest := []) rfl (z_tyI rfl rfl) ?_
      refine X_72 a0 (2 : Int32) h W T0 ?_
      exact k_r rfl rfl rfl H
  · have hc := hc
    rw [if_neg hc] at H
    refine k_n 3 (pc' := 8) (L' := [some (.ref a0), some (.int x1), none]) (S' := [.int (5 : Int32), .int (0 : Int32), .ref a0]) (h' := h) rfl ?_
    refine k_cI 76 3 rfl rfl rfl (A := [.ref a0, .int (0 : Int32), .int (5 : Int32)]) rfl rfl (z_rok_ref T0) (rest := []) rfl (z_tyI rfl rfl) ?_
    refine H.mono (fun r5 h3 H => ?_)
    obtain ⟨E4, H⟩ := H
    obtain ⟨o6, H⟩ := H
    exact k_r rfl (z_retB o6) rfl H
set_option maxRecDepth 20000 in
theorem X_74 (a0 : Nat) (x1 : Int32) (x2 : Int32) (h : zH) (W : CW h) (T0 : z_tg h a0 = 7) {Q : Int32 → zH → Prop} (H : if x2 = (5 : Int32) then ((z_rv h a0 3 = none → False) ∧ (∀ b2, z_rv h a0 3 = some b2 → ∃ v4 : Int32, KV z_pI 19 [.ref b2, .int x1, .int x2, .int (0 : Int32)] h v4 ∧ (if v4 = 0 then (if (z_iv h b2 5) < 0 then (KK z_pI 82 [.ref a0] h (fun r9 h7 => Sh h h7 ∧ (r9 = 0 ∨ r9 = 1) ∧ Q r9 h7)) else (if (z_iv h b2 5) < (16 : Int32) then ((0 ≤ (z_iv h b2 5).toInt ∧ (z_iv h b2 5).toInt < 16) ∧ (0 ≤ (z_iv h b2 5).toInt ∧ (z_iv h b2 5).toInt < 16) ∧ (¬ (x2 < 0) → ¬ ((7 : Int32) ≤ x2) → 0 ≤ x2.toInt ∧ x2.toInt < 7) ∧ (0 ≤ (z_iv h b2 5).toInt ∧ (z_iv h b2 5).toInt < 16) ∧ (0 ≤ (z_iv h b2 5).toInt ∧ (z_iv h b2 5).toInt < 16) ∧ (0 ≤ (z_iv h b2 5).toInt ∧ (z_iv h b2 5).toInt < 16) ∧ KK z_pI 82 [.ref a0] (z_sI (z_sI (z_sI (z_sI (z_sI (z_sI h (b2 + 1) (z_ix (z_iv h b2 5)) x1) (b2 + 2) (z_ix (z_iv h b2 5)) x2) (b2 + 3) (z_ix (z_iv h b2 5)) (if x2 < 0 then (-4 : Int32) else (if (7 : Int32) ≤ x2 then (-4 : Int32) else ((z_st.getD 0 []).getD (z_ix x2) 0)))) (b2 + 4) (z_ix (z_iv h b2 5)) (0 : Int32)) (b2 + 5) (z_ix (z_iv h b2 5)) (0 : Int32)) b2 5 ((z_iv h b2 5) + (1 : Int32))) (fun r20 h18 => Sh (z_sI (z_sI (z_sI (z_sI (z_sI (z_sI h (b2 + 1) (z_ix (z_iv h b2 5)) x1) (b2 + 2) (z_ix (z_iv h b2 5)) x2) (b2 + 3) (z_ix (z_iv h b2 5)) (if x2 < 0 then (-4 : Int32) else (if (7 : Int32) ≤ x2 then (-4 : Int32) else ((z_st.getD 0 []).getD (z_ix x2) 0)))) (b2 + 4) (z_ix (z_iv h b2 5)) (0 : Int32)) (b2 + 5) (z_ix (z_iv h b2 5)) (0 : Int32)) b2 5 ((z_iv h b2 5) + (1 : Int32))) h18 ∧ (r20 = 0 ∨ r20 = 1) ∧ Q r20 h18)) else (KK z_pI 82 [.ref a0] h (fun r24 h22 => Sh h h22 ∧ (r24 = 0 ∨ r24 = 1) ∧ Q r24 h22)))) else (Q (0 : Int32) (z_sI (z_sI h a0 0 (5 : Int32)) a0 1 (z_iv h a0 5)))))) else (if x2 = (6 : Int32) then ((z_rv h a0 3 = none → False) ∧ (∀ b27, z_rv h a0 3 = some b27 → ∃ v29 : Int32, KV z_pI 19 [.ref b27, .int x1, .int x2, .int (0 : Int32)] h v29 ∧ (if v29 = 0 then (if (z_iv h b27 5) < 0 then (KK z_pI 82 [.ref a0] h (fun r34 h32 => Sh h h32 ∧ (r34 = 0 ∨ r34 = 1) ∧ Q r34 h32)) else (if (z_iv h b27 5) < (16 : Int32) then ((0 ≤ (z_iv h b27 5).toInt ∧ (z_iv h b27 5).toInt < 16) ∧ (0 ≤ (z_iv h b27 5).toInt ∧ (z_iv h b27 5).toInt < 16) ∧ (¬ (x2 < 0) → ¬ ((7 : Int32) ≤ x2) → 0 ≤ x2.toInt ∧ x2.toInt < 7) ∧ (0 ≤ (z_iv h b27 5).toInt ∧ (z_iv h b27 5).toInt < 16) ∧ (0 ≤ (z_iv h b27 5).toInt ∧ (z_iv h b27 5).toInt < 16) ∧ (0 ≤ (z_iv h b27 5).toInt ∧ (z_iv h b27 5).toInt < 16) ∧ KK z_pI 82 [.ref a0] (z_sI (z_sI (z_sI (z_sI (z_sI (z_sI h (b27 + 1) (z_ix (z_iv h b27 5)) x1) (b27 + 2) (z_ix (z_iv h b27 5)) x2) (b27 + 3) (z_ix (z_iv h b27 5)) (if x2 < 0 then (-4 : Int32) else (if (7 : Int32) ≤ x2 then (-4 : Int32) else ((z_st.getD 0 []).getD (z_ix x2) 0)))) (b27 + 4) (z_ix (z_iv h b27 5)) (0 : Int32)) (b27 + 5) (z_ix (z_iv h b27 5)) (0 : Int32)) b27 5 ((z_iv h b27 5) + (1 : Int32))) (fun r45 h43 => Sh (z_sI (z_sI (z_sI (z_sI (z_sI (z_sI h (b27 + 1) (z_ix (z_iv h b27 5)) x1) (b27 + 2) (z_ix (z_iv h b27 5)) x2) (b27 + 3) (z_ix (z_iv h b27 5)) (if x2 < 0 then (-4 : Int32) else (if (7 : Int32) ≤ x2 then (-4 : Int32) else ((z_st.getD 0 []).getD (z_ix x2) 0)))) (b27 + 4) (z_ix (z_iv h b27 5)) (0 : Int32)) (b27 + 5) (z_ix (z_iv h b27 5)) (0 : Int32)) b27 5 ((z_iv h b27 5) + (1 : Int32))) h43 ∧ (r45 = 0 ∨ r45 = 1) ∧ Q r45 h43)) else (KK z_pI 82 [.ref a0] h (fun r49 h47 => Sh h h47 ∧ (r49 = 0 ∨ r49 = 1) ∧ Q r49 h47)))) else (Q (0 : Int32) (z_sI (z_sI h a0 0 (5 : Int32)) a0 1 (z_iv h a0 5)))))) else (KK z_pI 82 [.ref a0] h (fun r53 h51 => Sh h h51 ∧ (if r53 = 0 then (Q (0 : Int32) h51) else (KK z_pI 75 [.ref a0, .int x2] h51 (fun r56 h54 => Sh h51 h54 ∧ (if r56 = 0 then (Q (0 : Int32) h54) else ((z_rv h54 a0 3 = none → False) ∧ (∀ b58, z_rv h54 a0 3 = some b58 → ∃ v60 : Int32, KV z_pI 19 [.ref b58, .int x1, .int x2, .int (z_iv h54 a0 7)] h54 v60 ∧ (if v60 = 0 then (KK z_pI 82 [.ref a0] h54 (fun r64 h62 => Sh h54 h62 ∧ (if r64 = 0 then (Q (0 : Int32) h62) else ((((0 : Int32) ≤ x2 ∧ x2 ≤ ((5 : Int32) - (1 : Int32))) → 0 ≤ x2.toInt ∧ x2.toInt < 5) ∧ (((0 : Int32) ≤ x2 ∧ x2 ≤ ((5 : Int32) - (1 : Int32))) → 0 ≤ x2.toInt ∧ x2.toInt < 5) ∧ KK z_pI 76 [.ref a0, .int (if (0 : Int32) ≤ x2 ∧ x2 ≤ ((5 : Int32) - (1 : Int32)) then ((z_st.getD 1 []).getD (z_ix x2) 0) else (0 : Int32)), .int (if (0 : Int32) ≤ x2 ∧ x2 ≤ ((5 : Int32) - (1 : Int32)) then ((z_st.getD 2 []).getD (z_ix x2) 0) else (0 : Int32))] h62 (fun r69 h67 => Sh h62 h67 ∧ (if r69 = 0 then (Q (0 : Int32) h67) else (if (z_iv h67 b58 5) < 0 then (KK z_pI 82 [.ref a0] h67 (fun r73 h71 => Sh h67 h71 ∧ (r73 = 0 ∨ r73 = 1) ∧ Q r73 h71)) else (if (z_iv h67 b58 5) < (16 : Int32) then ((0 ≤ (z_iv h67 b58 5).toInt ∧ (z_iv h67 b58 5).toInt < 16) ∧ (0 ≤ (z_iv h67 b58 5).toInt ∧ (z_iv h67 b58 5).toInt < 16) ∧ (¬ (x2 < 0) → ¬ ((7 : Int32) ≤ x2) → 0 ≤ x2.toInt ∧ x2.toInt < 7) ∧ (0 ≤ (z_iv h67 b58 5).toInt ∧ (z_iv h67 b58 5).toInt < 16) ∧ (0 ≤ (z_iv h67 b58 5).toInt ∧ (z_iv h67 b58 5).toInt < 16) ∧ (0 ≤ (z_iv h67 b58 5).toInt ∧ (z_iv h67 b58 5).toInt < 16) ∧ KK z_pI 82 [.ref a0] (z_sI (z_sI (z_sI (z_sI (z_sI (z_sI h67 (b58 + 1) (z_ix (z_iv h67 b58 5)) x1) (b58 + 2) (z_ix (z_iv h67 b58 5)) x2) (b58 + 3) (z_ix (z_iv h67 b58 5)) (if x2 < 0 then (-4 : Int32) else (if (7 : Int32) ≤ x2 then (-4 : Int32) else ((z_st.getD 0 []).getD (z_ix x2) 0)))) (b58 + 4) (z_ix (z_iv h67 b58 5)) (z_iv h54 a0 7)) (b58 + 5) (z_ix (z_iv h67 b58 5)) (z_iv h67 a0 7)) b58 5 ((z_iv h67 b58 5) + (1 : Int32))) (fun r84 h82 => Sh (z_sI (z_sI (z_sI (z_sI (z_sI (z_sI h67 (b58 + 1) (z_ix (z_iv h67 b58 5)) x1) (b58 + 2) (z_ix (z_iv h67 b58 5)) x2) (b58 + 3) (z_ix (z_iv h67 b58 5)) (if x2 < 0 then (-4 : Int32) else (if (7 : Int32) ≤ x2 then (-4 : Int32) else ((z_st.getD 0 []).getD (z_ix x2) 0)))) (b58 + 4) (z_ix (z_iv h67 b58 5)) (z_iv h54 a0 7)) (b58 + 5) (z_ix (z_iv h67 b58 5)) (z_iv h67 a0 7)) b58 5 ((z_iv h67 b58 5) + (1 : Int32))) h82 ∧ (r84 = 0 ∨ r84 = 1) ∧ Q r84 h82)) else (KK z_pI 82 [.ref a0] h67 (fun r88 h86 => Sh h67 h86 ∧ (r88 = 0 ∨ r88 = 1) ∧ Q r88 h86)))))))))) else (Q (0 : Int32) (z_sI (z_sI h54 a0 0 (5 : Int32)) a0 1 (z_iv h54 a0 5)))))))))))))) : KK z_pI 74 [.ref a0, .int x1, .int x2] h Q := by
  refine k_K (L := [some (.ref a0), some (.int x1), some (.int x2), none]) rfl ?_
  refine k_n 2 (pc' := 2) (L' := [some (.ref a0), some (.int x1), some (.int x2), none]) (S' := [.int (5 : Int32), .int x2]) (h' := h) rfl ?_
  refine k_b (g := x2 = (5 : Int32)) (pc' := 11) (L' := [some (.ref a0), some (.int x1), some (.int x2), none]) (S' := []) (pc2 := 5) (L2 := [some (.ref a0), some (.int x1), some (.int x2), none]) (S2 := []) (h' := h) (h2 := h) rfl rfl (fun hc => ?_) (fun hc => ?_)
  · have hc := hc
    rw [if_pos hc] at H
    refine k_n 1 (pc' := 12) (L' := [some (.ref a0), some (.int x1), some (.int x2), none]) (S' := [.ref a0]) (h' := h) rfl ?_
    obtain hb1 | ⟨b2, hb1⟩ := z_opt (z_rv h a0 3)
    · have H := H.1 hb1
      refine k_gN rfl T0 hb1 ?_
      refine k_n 3 (pc' := 18) (L' := [some (.ref a0), some (.int x1), some (.int x2), none]) (S' := [.int (0 : Int32), .int x2, .int x1, .null]) (h' := h) rfl ?_
      exact H.elim
    · have H := H.2 b2 hb1
      have t3 : z_tg h b2 = 1 := (CW.tyOf (t := 7) (t' := 1) W T0 hb1 (by decide) rfl)
      refine k_gS rfl T0 hb1 ?_
      refine k_n 3 (pc' := 18) (L' := [some (.ref a0), some (.int x1), some (.int x2), none]) (S' := [.int (0 : Int32), .int x2, .int x1, .ref b2]) (h' := h) rfl ?_
      refine k_cI 19 4 rfl rfl rfl (A := [.ref b2, .int x1, .int x2, .int (0 : Int32)]) rfl rfl (z_rok_ref t3) (rest := []) rfl (z_tyI rfl rfl) ?_
      obtain ⟨v4, k5, H⟩ := H
      refine k_P k5 ?_
      refine k_b (g := v4 = 0) (pc' := 30) (L' := [some (.ref a0), some (.int x1), some (.int x2), none]) (S' := []) (pc2 := 24) (L2 := [some (.ref a0), some (.int x1), some (.int x2), none]) (S2 := []) (h' := h) (h2 := h) rfl rfl (fun hc => ?_) (fun hc => ?_)
      · have hc := hc
        rw [if_pos hc] at H
        refine k_n 1 (pc' := 31) (L' := [some (.ref a0), some (.int x1), some (.int x2), none]) (S' := [.ref a0]) (h' := h) rfl ?_
        refine k_gS rfl T0 hb1 ?_
        refine k_n 4 (pc' := 38) (L' := [some (.ref a0), some (.int x1), some (.int x2), none]) (S' := [.int (0 : Int32), .int (0 : Int32), .int x2, .int x1, .ref b2]) (h' := h) rfl ?_
        refine k_cV 17 5 rfl rfl rfl (A := [.ref b2, .int x1, .int x2, .int (0 : Int32), .int (0 : Int32)]) rfl rfl (z_rok_ref t3) (rest := []) rfl rfl ?_
        refine X_17 b2 x1 x2 (0 : Int32) (0 : Int32) h W t3 ?_
        by_cases c6 : (z_iv h b2 5) < 0
        · rw [if_pos c6] at H ⊢
          refine k_n 1 (pc' := 42) (L' := [some (.ref a0), some (.int x1), some (.int x2), none]) (S' := [.ref a0]) (h' := h) rfl ?_
          refine k_cI 82 1 rfl rfl rfl (A := [.ref a0]) rfl rfl (z_rok_ref T0) (rest := []) rfl (z_tyI rfl rfl) ?_
          refine H.mono (fun r9 h7 H => ?_)
          obtain ⟨E8, H⟩ := H
          obtain ⟨o10, H⟩ := H
          exact k_r rfl (z_retB o10) rfl H
        · rw [if_neg c6] at H ⊢
          by_cases c11 : (z_iv h b2 5) < (16 : Int32)
          · rw [if_pos c11] at H ⊢
            obtain ⟨o12, H⟩ := H
            refine ⟨o12, ?_⟩
            obtain ⟨o13, H⟩ := H
            refine ⟨o13, ?_⟩
            obtain ⟨o14, H⟩ := H
            refine ⟨o14, ?_⟩
            obtain ⟨o15, H⟩ := H
            refine ⟨o15, ?_⟩
            obtain ⟨o16, H⟩ := H
            refine ⟨o16, ?_⟩
            obtain ⟨o17, H⟩ := H
            refine ⟨o17, ?_⟩
            refine k_n 1 (pc' := 42) (L' := [some (.ref a0), some (.int x1), some (.int x2), none]) (S' := [.ref a0]) (h' := (z_sI (z_sI (z_sI (z_sI (z_sI (z_sI h (b2 + 1) (z_ix (z_iv h b2 5)) x1) (b2 + 2) (z_ix (z_iv h b2 5)) x2) (b2 + 3) (z_ix (z_iv h b2 5)) (if x2 < 0 then (-4 : Int32) else (if (7 : Int32) ≤ x2 then (-4 : Int32) else ((z_st.getD 0 []).getD (z_ix x2) 0)))) (b2 + 4) (z_ix (z_iv h b2 5)) (0 : Int32)) (b2 + 5) (z_ix (z_iv h b2 5)) (0 : Int32)) b2 5 ((z_iv h b2 5) + (1 : Int32)))) rfl ?_
            refine k_cI 82 1 rfl rfl rfl (A := [.ref a0]) rfl rfl (z_rok_ref (z_tgI (z_tgI (z_tgI (z_tgI (z_tgI (z_tgI T0))))))) (rest := []) rfl (z_tyI rfl rfl) ?_
            refine H.mono (fun r20 h18 H => ?_)
            obtain ⟨E19, H⟩ := H
            obtain ⟨o21, H⟩ := H
            exact k_r rfl (z_retB o21) rfl H
          · rw [if_neg c11] at H ⊢
            refine k_n 1 (pc' := 42) (L' := [some (.ref a0), some (.int x1), some (.int x2), none]) (S' := [.ref a0]) (h' := h) rfl ?_
            refine k_cI 82 1 rfl rfl rfl (A := [.ref a0]) rfl rfl (z_rok_ref T0) (rest := []) rfl (z_tyI rfl rfl) ?_
            refine H.mono (fun r24 h22 H => ?_)
            obtain ⟨E23, H⟩ := H
            obtain ⟨o25, H⟩ := H
            exact k_r rfl (z_retB o25) rfl H
      · have hc := hc
        rw [if_neg hc] at H
        refine k_n 2 (pc' := 26) (L' := [some (.ref a0), some (.int x1), some (.int x2), none]) (S' := [.int (5 : Int32), .ref a0]) (h' := h) rfl ?_
        refine k_cI 72 2 rfl rfl rfl (A := [.ref a0, .int (5 : Int32)]) rfl rfl (z_rok_ref T0) (rest := []) rfl (z_tyI rfl rfl) ?_
        refine X_72 a0 (5 : Int32) h W T0 ?_
        exact k_r rfl rfl rfl H
  · have hc := hc
    rw [if_neg hc] at H
    refine k_n 2 (pc' := 8) (L' := [some (.ref a0), some (.int x1), some (.int x2), none]) (S' := [.int (6 : Int32), .int x2]) (h' := h) rfl ?_
    refine k_b (g := x2 = (6 : Int32)) (pc' := 11) (L' := [some (.ref a0), some (.int x1), some (.int x2), none]) (S' := []) (pc2 := 46) (L2 := [some (.ref a0), some (.int x1), some (.int x2), none]) (S2 := []) (h' := h) (h2 := h) rfl rfl (fun hc => ?_) (fun hc => ?_)
    · have hc := hc
      rw [if_pos hc] at H
      refine k_n 1 (pc' := 12) (L' := [some (.ref a0), some (.int x1), some (.int x2), none]) (S' := [.ref a0]) (h' := h) rfl ?_
      obtain hb26 | ⟨b27, hb26⟩ := z_opt (z_rv h a0 3)
      · have H := H.1 hb26
        refine k_gN rfl T0 hb26 ?_
        refine k_n 3 (pc' := 18) (L' := [some (.ref a0), some (.int x1), some (.int x2), none]) (S' := [.int (0 : Int32), .int x2, .int x1, .null]) (h' := h) rfl ?_
        exact H.elim
      · have H := H.2 b27 hb26
        have t28 : z_tg h b27 = 1 := (CW.tyOf (t := 7) (t' := 1) W T0 hb26 (by decide) rfl)
        refine k_gS rfl T0 hb26 ?_
        refine k_n 3 (pc' := 18) (L' := [some (.ref a0), some (.int x1), some (.int x2), none]) (S' := [.int (0 : Int32), .int x2, .int x1, .ref b27]) (h' := h) rfl ?_
        refine k_cI 19 4 rfl rfl rfl (A := [.ref b27, .int x1, .int x2, .int (0 : Int32)]) rfl rfl (z_rok_ref t28) (rest := []) rfl (z_tyI rfl rfl) ?_
        obtain ⟨v29, k30, H⟩ := H
        refine k_P k30 ?_
        refine k_b (g := v29 = 0) (pc' := 30) (L' := [some (.ref a0), some (.int x1), some (.int x2), none]) (S' := []) (pc2 := 24) (L2 := [some (.ref a0), some (.int x1), some (.int x2), none]) (S2 := []) (h' := h) (h2 := h) rfl rfl (fun hc => ?_) (fun hc => ?_)
        · have hc := hc
          rw [if_pos hc] at H
          refine k_n 1 (pc' := 31) (L' := [some (.ref a0), some (.int x1), some (.int x2), none]) (S' := [.ref a0]) (h' := h) rfl ?_
          refine k_gS rfl T0 hb26 ?_
          refine k_n 4 (pc' := 38) (L' := [some (.ref a0), some (.int x1), some (.int x2), none]) (S' := [.int (0 : Int32), .int (0 : Int32), .int x2, .int x1, .ref b27]) (h' := h) rfl ?_
          refine k_cV 17 5 rfl rfl rfl (A := [.ref b27, .int x1, .int x2, .int (0 : Int32), .int (0 : Int32)]) rfl rfl (z_rok_ref t28) (rest := []) rfl rfl ?_
          refine X_17 b27 x1 x2 (0 : Int32) (0 : Int32) h W t28 ?_
          by_cases c31 : (z_iv h b27 5) < 0
          · rw [if_pos c31] at H ⊢
            refine k_n 1 (pc' := 42) (L' := [some (.ref a0), some (.int x1), some (.int x2), none]) (S' := [.ref a0]) (h' := h) rfl ?_
            refine k_cI 82 1 rfl rfl rfl (A := [.ref a0]) rfl rfl (z_rok_ref T0) (rest := []) rfl (z_tyI rfl rfl) ?_
            refine H.mono (fun r34 h32 H => ?_)
            obtain ⟨E33, H⟩ := H
            obtain ⟨o35, H⟩ := H
            exact k_r rfl (z_retB o35) rfl H
          · rw [if_neg c31] at H ⊢
            by_cases c36 : (z_iv h b27 5) < (16 : Int32)
            · rw [if_pos c36] at H ⊢
              obtain ⟨o37, H⟩ := H
              refine ⟨o37, ?_⟩
              obtain ⟨o38, H⟩ := H
              refine ⟨o38, ?_⟩
              obtain ⟨o39, H⟩ := H
              refine ⟨o39, ?_⟩
              obtain ⟨o40, H⟩ := H
              refine ⟨o40, ?_⟩
              obtain ⟨o41, H⟩ := H
              refine ⟨o41, ?_⟩
              obtain ⟨o42, H⟩ := H
              refine ⟨o42, ?_⟩
              refine k_n 1 (pc' := 42) (L' := [some (.ref a0), some (.int x1), some (.int x2), none]) (S' := [.ref a0]) (h' := (z_sI (z_sI (z_sI (z_sI (z_sI (z_sI h (b27 + 1) (z_ix (z_iv h b27 5)) x1) (b27 + 2) (z_ix (z_iv h b27 5)) x2) (b27 + 3) (z_ix (z_iv h b27 5)) (if x2 < 0 then (-4 : Int32) else (if (7 : Int32) ≤ x2 then (-4 : Int32) else ((z_st.getD 0 []).getD (z_ix x2) 0)))) (b27 + 4) (z_ix (z_iv h b27 5)) (0 : Int32)) (b27 + 5) (z_ix (z_iv h b27 5)) (0 : Int32)) b27 5 ((z_iv h b27 5) + (1 : Int32)))) rfl ?_
              refine k_cI 82 1 rfl rfl rfl (A := [.ref a0]) rfl rfl (z_rok_ref (z_tgI (z_tgI (z_tgI (z_tgI (z_tgI (z_tgI T0))))))) (rest := []) rfl (z_tyI rfl rfl) ?_
              refine H.mono (fun r45 h43 H => ?_)
              obtain ⟨E44, H⟩ := H
              obtain ⟨o46, H⟩ := H
              exact k_r rfl (z_retB o46) rfl H
            · rw [if_neg c36] at H ⊢
              refine k_n 1 (pc' := 42) (L' := [some (.ref a0), some (.int x1), some (.int x2), none]) (S' := [.ref a0]) (h' := h) rfl ?_
              refine k_cI 82 1 rfl rfl rfl (A := [.ref a0]) rfl rfl (z_rok_ref T0) (rest := []) rfl (z_tyI rfl rfl) ?_
              refine H.mono (fun r49 h47 H => ?_)
              obtain ⟨E48, H⟩ := H
              obtain ⟨o50, H⟩ := H
              exact k_r rfl (z_retB o50) rfl H
        · have hc := hc
          rw [if_neg hc] at H
          refine k_n 2 (pc' := 26) (L' := [some (.ref a0), some (.int x1), some (.int x2), none]) (S' := [.int (5 : Int32), .ref a0]) (h' := h) rfl ?_
          refine k_cI 72 2 rfl rfl rfl (A := [.ref a0, .int (5 : Int32)]) rfl rfl (z_rok_ref T0) (rest := []) rfl (z_tyI rfl rfl) ?_
          refine X_72 a0 (5 : Int32) h W T0 ?_
          exact k_r rfl rfl rfl H
    · have hc := hc
      rw [if_neg hc] at H
      refine k_n 1 (pc' := 47) (L' := [some (.ref a0), some (.int x1), some (.int x2), none]) (S' := [.ref a0]) (h' := h) rfl ?_
      refine k_cI 82 1 rfl rfl rfl (A := [.ref a0]) rfl rfl (z_rok_ref T0) (rest := []) rfl (z_tyI rfl rfl) ?_
      refine H.mono (fun r53 h51 H => ?_)
      obtain ⟨E52, H⟩ := H
      refine k_b (g := r53 = 0) (pc' := 61) (L' := [some (.ref a0), some (.int x1), some (.int x2), none]) (S' := []) (pc2 := 53) (L2 := [some (.ref a0), some (.int x1), some (.int x2), none]) (S2 := []) (h' := h51) (h2 := h51) rfl rfl (fun hc => ?_) (fun hc => ?_)
      · have hc := hc
        rw [if_pos hc] at H
        refine k_n 1 (pc' := 62) (L' := [some (.ref a0), some (.int x1), some (.int x2), none]) (S' := [.int (0 : Int32)]) (h' := h51) rfl ?_
        exact k_r rfl rfl rfl H
      · have hc := hc
        rw [if_neg hc] at H
        refine k_n 2 (pc' := 55) (L' := [some (.ref a0), some (.int x1), some (.int x2), none]) (S' := [.int x2, .ref a0]) (h' := h51) rfl ?_
        refine k_cI 75 2 rfl rfl rfl (A := [.ref a0, .int x2]) rfl rfl (z_rok_ref (Sh.tg E52 T0)) (rest := []) rfl (z_tyI rfl rfl) ?_
        refine H.mono (fun r56 h54 H => ?_)
        obtain ⟨E55, H⟩ := H
        refine k_b (g := r56 = 0) (pc' := 61) (L' := [some (.ref a0), some (.int x1), some (.int x2), none]) (S' := []) (pc2 := 63) (L2 := [some (.ref a0), some (.int x1), some (.int x2), none]) (S2 := []) (h' := h54) (h2 := h54) rfl rfl (fun hc => ?_) (fun hc => ?_)
        · have hc := hc
          rw [if_pos hc] at H
          refine k_n 1 (pc' := 62) (L' := [some (.ref a0), some (.int x1), some (.int x2), none]) (S' := [.int (0 : Int32)]) (h' := h54) rfl ?_
          exact k_r rfl rfl rfl H
        · have hc := hc
          rw [if_neg hc] at H
          refine k_n 1 (pc' := 64) (L' := [some (.ref a0), some (.int x1), some (.int x2), none]) (S' := [.ref a0]) (h' := h54) rfl ?_
          refine k_gI rfl rfl (Sh.tg E55 (Sh.tg E52 T0)) ?_
          refine k_n 2 (pc' := 69) (L' := [some (.ref a0), some (.int x1), some (.int x2), some (.int (z_iv h54 a0 7))]) (S' := [.ref a0]) (h' := h54) rfl ?_
          obtain hb57 | ⟨b58, hb57⟩ := z_opt (z_rv h54 a0 3)
          · have H := H.1 hb57
            refine k_gN rfl (Sh.tg E55 (Sh.tg E52 T0)) hb57 ?_
            refine k_n 3 (pc' := 75) (L' := [some (.ref a0), some (.int x1), some (.int x2), some (.int (z_iv h54 a0 7))]) (S' := [.int (z_iv h54 a0 7), .int x2, .int x1, .null]) (h' := h54) rfl ?_
            exact H.elim
          · have H := H.2 b58 hb57
            have t59 : z_tg h54 b58 = 1 := (CW.tyOf (t := 7) (t' := 1) (Sh.cw E55 (Sh.cw E52 W)) (Sh.tg E55 (Sh.tg E52 T0)) hb57 (by decide) rfl)
            refine k_gS rfl (Sh.tg E55 (Sh.tg E52 T0)) hb57 ?_
            refine k_n 3 (pc' := 75) (L' := [some (.ref a0), some (.int x1), some (.int x2), some (.int (z_iv h54 a0 7))]) (S' := [.int (z_iv h54 a0 7), .int x2, .int x1, .ref b58]) (h' := h54) rfl ?_
            refine k_cI 19 4 rfl rfl rfl (A := [.ref b58, .int x1, .int x2, .int (z_iv h54 a0 7)]) rfl rfl (z_rok_ref t59) (rest := []) rfl (z_tyI rfl rfl) ?_
            obtain ⟨v60, k61, H⟩ := H
            refine k_P k61 ?_
            refine k_b (g := v60 = 0) (pc' := 87) (L' := [some (.ref a0), some (.int x1), some (.int x2), some (.int (z_iv h54 a0 7))]) (S' := []) (pc2 := 81) (L2 := [some (.ref a0), some (.int x1), some (.int x2), some (.int (z_iv h54 a0 7))]) (S2 := []) (h' := h54) (h2 := h54) rfl rfl (fun hc => ?_) (fun hc => ?_)
            · have hc := hc
              rw [if_pos hc] at H
              refine k_n 1 (pc' := 88) (L' := [some (.ref a0), some (.int x1), some (.int x2), some (.int (z_iv h54 a0 7))]) (S' := [.ref a0]) (h' := h54) rfl ?_
              refine k_cI 82 1 rfl rfl rfl (A := [.ref a0]) rfl rfl (z_rok_ref (Sh.tg E55 (Sh.tg E52 T0))) (rest := []) rfl (z_tyI rfl rfl) ?_
              refine H.mono (fun r64 h62 H => ?_)
              obtain ⟨E63, H⟩ := H
              refine k_b (g := r64 = 0) (pc' := 109) (L' := [some (.ref a0), some (.int x1), some (.int x2), some (.int (z_iv h54 a0 7))]) (S' := []) (pc2 := 94) (L2 := [some (.ref a0), some (.int x1), some (.int x2), some (.int (z_iv h54 a0 7))]) (S2 := []) (h' := h62) (h2 := h62) rfl rfl (fun hc => ?_) (fun hc => ?_)
              · have hc := hc
                rw [if_pos hc] at H
                refine k_n 1 (pc' := 110) (L' := [some (.ref a0), some (.int x1), some (.int x2), some (.int (z_iv h54 a0 7))]) (S' := [.int (0 : Int32)]) (h' := h62) rfl ?_
                exact k_r rfl rfl rfl H
              · have hc := hc
                rw [if_neg hc] at H
                refine k_n 2 (pc' := 96) (L' := [some (.ref a0), some (.int x1), some (.int x2), some (.int (z_iv h54 a0 7))]) (S' := [.int x2, .ref a0]) (h' := h62) rfl ?_
                refine k_cI 77 1 rfl rfl rfl (A := [.int x2]) rfl rfl rfl (rest := [.ref a0]) rfl (z_tyI rfl rfl) ?_
                obtain ⟨o65, H⟩ := H
                refine C_77 x2 h62   o65 ?_
                refine k_n 1 (pc' := 100) (L' := [some (.ref a0), some (.int x1), some (.int x2), some (.int (z_iv h54 a0 7))]) (S' := [.int x2, .int (if (0 : Int32) ≤ x2 ∧ x2 ≤ ((5 : Int32) - (1 : Int32)) then ((z_st.getD 1 []).getD (z_ix x2) 0) else (0 : Int32)), .ref a0]) (h' := h62) rfl ?_
                refine k_cI 78 1 rfl rfl rfl (A := [.int x2]) rfl rfl rfl (rest := [.int (if (0 : Int32) ≤ x2 ∧ x2 ≤ ((5 : Int32) - (1 : Int32)) then ((z_st.getD 1 []).getD (z_ix x2) 0) else (0 : Int32)), .ref a0]) rfl (z_tyI rfl rfl) ?_
                obtain ⟨o66, H⟩ := H
                refine C_78 x2 h62   o66 ?_
                refine k_cI 76 3 rfl rfl rfl (A := [.ref a0, .int (if (0 : Int32) ≤ x2 ∧ x2 ≤ ((5 : Int32) - (1 : Int32)) then ((z_st.getD 1 []).getD (z_ix x2) 0) else (0 : Int32)), .int (if (0 : Int32) ≤ x2 ∧ x2 ≤ ((5 : Int32) - (1 : Int32)) then ((z_st.getD 2 []).getD (z_ix x2) 0) else (0 : Int32))]) rfl rfl (z_rok_ref (Sh.tg E63 (Sh.tg E55 (Sh.tg E52 T0)))) (rest := []) rfl (z_tyI rfl rfl) ?_
                refine H.mono (fun r69 h67 H => ?_)
                obtain ⟨E68, H⟩ := H
                refine k_b (g := r69 = 0) (pc' := 109) (L' := [some (.ref a0), some (.int x1), some (.int x2), some (.int (z_iv h54 a0 7))]) (S' := []) (pc2 := 111) (L2 := [some (.ref a0), some (.int x1), some (.int x2), some (.int (z_iv h54 a0 7))]) (S2 := []) (h' := h67) (h2 := h67) rfl rfl (fun hc => ?_) (fun hc => ?_)
                · have hc := hc
                  rw [if_pos hc] at H
                  refine k_n 1 (pc' := 110) (L' := [some (.ref a0), some (.int x1), some (.int x2), some (.int (z_iv h54 a0 7))]) (S' := [.int (0 : Int32)]) (h' := h67) rfl ?_
                  exact k_r rfl rfl rfl H
                · have hc := hc
                  rw [if_neg hc] at H
                  refine k_n 1 (pc' := 112) (L' := [some (.ref a0), some (.int x1), some (.int x2), some (.int (z_iv h54 a0 7))]) (S' := [.ref a0]) (h' := h67) rfl ?_
                  refine k_gS rfl (Sh.tg E68 (Sh.tg E63 (Sh.tg E55 (Sh.tg E52 T0)))) (Sh.rv E68 (Sh.rv E63 hb57)) ?_
                  refine k_n 4 (pc' := 119) (L' := [some (.ref a0), some (.int x1), some (.int x2), some (.int (z_iv h54 a0 7))]) (S' := [.ref a0, .int (z_iv h54 a0 7), .int x2, .int x1, .ref b58]) (h' := h67) rfl ?_
                  refine k_gI rfl rfl (Sh.tg E68 (Sh.tg E63 (Sh.tg E55 (Sh.tg E52 T0)))) ?_
                  refine k_cV 17 5 rfl rfl rfl (A := [.ref b58, .int x1, .int x2, .int (z_iv h54 a0 7), .int (z_iv h67 a0 7)]) rfl rfl (z_rok_ref (Sh.tg E68 (Sh.tg E63 t59))) (rest := []) rfl rfl ?_
                  refine X_17 b58 x1 x2 (z_iv h54 a0 7) (z_iv h67 a0 7) h67 (Sh.cw E68 (Sh.cw E63 (Sh.cw E55 (Sh.cw E52 W)))) (Sh.tg E68 (Sh.tg E63 t59)) ?_
                  by_cases c70 : (z_iv h67 b58 5) < 0
                  · rw [if_pos c70] at H ⊢
                    refine k_n 1 (pc' := 126) (L' := [some (.ref a0), some (.int x1), some (.int x2), some (.int (z_iv h54 a0 7))]) (S' := [.ref a0]) (h' := h67) rfl ?_
                    refine k_cI 82 1 rfl rfl rfl (A := [.ref a0]) rfl rfl (z_rok_ref (Sh.tg E68 (Sh.tg E63 (Sh.tg E55 (Sh.tg E52 T0))))) (rest := []) rfl (z_tyI rfl rfl) ?_
                    refine H.mono (fun r73 h71 H => ?_)
                    obtain ⟨E72, H⟩ := H
                    obtain ⟨o74, H⟩ := H
                    exact k_r rfl (z_retB o74) rfl H
                  · rw [if_neg c70] at H ⊢
                    by_cases c75 : (z_iv h67 b58 5) < (16 : Int32)
                    · rw [if_pos c75] at H ⊢
                      obtain ⟨o76, H⟩ := H
                      refine ⟨o76, ?_⟩
                      obtain ⟨o77, H⟩ := H
                      refine ⟨o77, ?_⟩
                      obtain ⟨o78, H⟩ := H
                      refine ⟨o78, ?_⟩
                      obtain ⟨o79, H⟩ := H
                      refine ⟨o79, ?_⟩
                      obtain ⟨o80, H⟩ := H
                      refine ⟨o80, ?_⟩
                      obtain ⟨o81, H⟩ := H
                      refine ⟨o81, ?_⟩
                      refine k_n 1 (pc' := 126) (L' := [some (.ref a0), some (.int x1), some (.int x2), some (.int (z_iv h54 a0 7))]) (S' := [.ref a0]) (h' := (z_sI (z_sI (z_sI (z_sI (z_sI (z_sI h67 (b58 + 1) (z_ix (z_iv h67 b58 5)) x1) (b58 + 2) (z_ix (z_iv h67 b58 5)) x2) (b58 + 3) (z_ix (z_iv h67 b58 5)) (if x2 < 0 then (-4 : Int32) else (if (7 : Int32) ≤ x2 then (-4 : Int32) else ((z_st.getD 0 []).getD (z_ix x2) 0)))) (b58 + 4) (z_ix (z_iv h67 b58 5)) (z_iv h54 a0 7)) (b58 + 5) (z_ix (z_iv h67 b58 5)) (z_iv h67 a0 7)) b58 5 ((z_iv h67 b58 5) + (1 : Int32)))) rfl ?_
                      refine k_cI 82 1 rfl rfl rfl (A := [.ref a0]) rfl rfl (z_rok_ref (z_tgI (z_tgI (z_tgI (z_tgI (z_tgI (z_tgI (Sh.tg E68 (Sh.tg E63 (Sh.tg E55 (Sh.tg E52 T0))))))))))) (rest := []) rfl (z_tyI rfl rfl) ?_
                      refine H.mono (fun r84 h82 H => ?_)
                      obtain ⟨E83, H⟩ := H
                      obtain ⟨o85, H⟩ := H
                      exact k_r rfl (z_retB o85) rfl H
                    · rw [if_neg c75] at H ⊢
                      refine k_n 1 (pc' := 126) (L' := [some (.ref a0), some (.int x1), some (.int x2), some (.int (z_iv h54 a0 7))]) (S' := [.ref a0]) (h' := h67) rfl ?_
                      refine k_cI 82 1 rfl rfl rfl (A := [.ref a0]) rfl rfl (z_rok_ref (Sh.tg E68 (Sh.tg E63 (Sh.tg E55 (Sh.tg E52 T0))))) (rest := []) rfl (z_tyI rfl rfl) ?_
                      refine H.mono (fun r88 h86 H => ?_)
                      obtain ⟨E87, H⟩ := H
                      obtain ⟨o89, H⟩ := H
                      exact k_r rfl (z_retB o89) rfl H
            · have hc := hc
              rw [if_neg hc] at H
              refine k_n 2 (pc' := 83) (L' := [some (.ref a0), some (.int x1), some (.int x2), some (.int (z_iv h54 a0 7))]) (S' := [.int (5 : Int32), .ref a0]) (h' := h54) rfl ?_
              refine k_cI 72 2 rfl rfl rfl (A := [.ref a0, .int (5 : Int32)]) rfl rfl (z_rok_ref (Sh.tg E55 (Sh.tg E52 T0))) (rest := []) rfl (z_tyI rfl rfl) ?_
              refine X_72 a0 (5 : Int32) h54 (Sh.cw E55 (Sh.cw E52 W)) (Sh.tg E55 (Sh.tg E52 T0)) ?_
              exact k_r rfl rfl rfl H
set_option maxRecDepth 20000 in
theorem X_73 (a0 : Nat) (h : zH) (W : CW h) (T0 : z_tg h a0 = 7) {Q : Int32 → zH → Prop} (H : ∃ v1 : Int32, KV z_pI 81 [.ref a0, .retAddr 3] h v1 ∧ (if v1 = 0 then (∃ v3 : Int32, KV z_pI 79 [.ref a0] h v3 ∧ (if v3 = (-4 : Int32) then (Q (0 : Int32) (z_sI (z_sI h a0 0 (2 : Int32)) a0 1 (z_iv h a0 5))) else (KK z_pI 74 [.ref a0, .int (0 : Int32), .int v3] h (fun r7 h5 => Sh h h5 ∧ (if r7 = 0 then (Q (0 : Int32) h5) else (if (z_iv h5 a0 4) = (3 : Int32) then (KK z_pI 82 [.ref a0] h5 (fun r10 h8 => Sh h5 h8 ∧ (r10 = 0 ∨ r10 = 1) ∧ Q r10 h8)) else (Q (0 : Int32) (z_sI (z_sI h5 a0 0 (2 : Int32)) a0 1 (z_iv h5 a0 5))))))))) else (KK z_pI 82 [.ref a0] h (fun r14 h12 => Sh h h12 ∧ (if r14 = 0 then (Q (0 : Int32) h12) else (KK z_pI 76 [.ref a0, .int (0 : Int32), .int (59 : Int32)] h12 (fun r17 h15 => Sh h12 h15 ∧ (if r17 = 0 then (Q (0 : Int32) h15) else (KK z_pI 82 [.ref a0] h15 (fun r20 h18 => Sh h15 h18 ∧ (if r20 = 0 then (Q (0 : Int32) h18) else (∃ v21 : Int32, KV z_pI 79 [.ref a0] h18 v21 ∧ (if v21 = (-4 : Int32) then (Q (0 : Int32) (z_sI (z_sI h18 a0 0 (2 : Int32)) a0 1 (z_iv h18 a0 5))) else (KK z_pI 74 [.ref a0, .int (z_iv h15 a0 7), .int v21] h18 (fun r25 h23 => Sh h18 h23 ∧ (if r25 = 0 then (Q (0 : Int32) h23) else (if (z_iv h23 a0 4) = (3 : Int32) then (KK z_pI 82 [.ref a0] h23 (fun r28 h26 => Sh h23 h26 ∧ (r28 = 0 ∨ r28 = 1) ∧ Q r28 h26)) else (Q (0 : Int32) (z_sI (z_sI h23 a0 0 (2 : Int32)) a0 1 (z_iv h23 a0 5)))))))))))))))))))) : KK z_pI 73 [.ref a0] h Q := by
  refine k_K (L := [some (.ref a0), none, none]) rfl ?_
  refine k_n 4 (pc' := 5) (L' := [some (.ref a0), some (.int (0 : Int32)), none]) (S' := [.retAddr 3, .ref a0]) (h' := h) rfl ?_
  refine k_cI 81 2 rfl rfl rfl (A := [.ref a0, .retAddr 3]) rfl rfl (z_rok_ref T0) (rest := []) rfl (z_tyI rfl rfl) ?_
  obtain ⟨v1, k2, H⟩ := H
  refine k_P k2 ?_
  refine k_b (g := v1 = 0) (pc' := 44) (L' := [some (.ref a0), some (.int (0 : Int32)), none]) (S' := []) (pc2 := 11) (L2 := [some (.ref a0), some (.int (0 : Int32)), none]) (S2 := []) (h' := h) (h2 := h) rfl rfl (fun hc => ?_) (fun hc => ?_)
  · have hc := hc
    rw [if_pos hc] at H
    refine k_n 1 (pc' := 45) (L' := [some (.ref a0), some (.int (0 : Int32)), none]) (S' := [.ref a0]) (h' := h) rfl ?_
    refine k_cI 79 1 rfl rfl rfl (A := [.ref a0]) rfl rfl (z_rok_ref T0) (rest := []) rfl (z_tyI rfl rfl) ?_
    obtain ⟨v3, k4, H⟩ := H
    refine k_P k4 ?_
    refine k_n 3 (pc' := 52) (L' := [some (.ref a0), some (.int (0 : Int32)), some (.int v3)]) (S' := [.int (-4 : Int32), .int v3]) (h' := h) rfl ?_
    refine k_b (g := v3 = (-4 : Int32)) (pc' := 55) (L' := [some (.ref a0), some (.int (0 : Int32)), some (.int v3)]) (S' := []) (pc2 := 61) (L2 := [some (.ref a0), some (.int (0 : Int32)), some (.int v3)]) (S2 := []) (h' := h) (h2 := h) rfl rfl (fun hc => ?_) (fun hc => ?_)
    · have hc := hc
      rw [if_pos hc] at H
      refine k_n 2 (pc' := 57) (L' := [some (.ref a0), some (.int (0 : Int32)), some (.int v3)]) (S' := [.int (2 : Int32), .ref a0]) (h' := h) rfl ?_
      refine k_cI 72 2 rfl rfl rfl (A := [.ref a0, .int (2 : Int32)]) rfl rfl (z_rok_ref T0) (rest := []) rfl (z_tyI rfl rfl) ?_
      refine X_72 a0 (2 : Int32) h W T0 ?_
      exact k_r rfl rfl rfl H
    · have hc := hc
      rw [if_neg hc] at H
      refine k_n 3 (pc' := 64) (L' := [some (.ref a0), some (.int (0 : Int32)), some (.int v3)]) (S' := [.int v3, .int (0 : Int32), .ref a0]) (h' := h) rfl ?_
      refine k_cI 74 3 rfl rfl rfl (A := [.ref a0, .int (0 : Int32), .int v3]) rfl rfl (z_rok_ref T0) (rest := []) rfl (z_tyI rfl rfl) ?_
      refine H.mono (fun r7 h5 H => ?_)
      obtain ⟨E6, H⟩ := H
      refine k_b (g := r7 = 0) (pc' := 70) (L' := [some (.ref a0), some (.int (0 : Int32)), some (.int v3)]) (S' := []) (pc2 := 72) (L2 := [some (.ref a0), some (.int (0 : Int32)), some (.int v3)]) (S2 := []) (h' := h5) (h2 := h5) rfl rfl (fun hc => ?_) (fun hc => ?_)
      · have hc := hc
        rw [if_pos hc] at H
        refine k_n 1 (pc' := 71) (L' := [some (.ref a0), some (.int (0 : Int32)), some (.int v3)]) (S' := [.int (0 : Int32)]) (h' := h5) rfl ?_
        exact k_r rfl rfl rfl H
      · have hc := hc
        rw [if_neg hc] at H
        refine k_n 1 (pc' := 73) (L' := [some (.ref a0), some (.int (0 : Int32)), some (.int v3)]) (S' := [.ref a0]) (h' := h5) rfl ?_
        refine k_gI rfl rfl (Sh.tg E6 T0) ?_
        refine k_n 1 (pc' := 77) (L' := [some (.ref a0), some (.int (0 : Int32)), some (.int v3)]) (S' := [.int (3 : Int32), .int (z_iv h5 a0 4)]) (h' := h5) rfl ?_
        refine k_b (g := (z_iv h5 a0 4) = (3 : Int32)) (pc' := 80) (L' := [some (.ref a0), some (.int (0 : Int32)), some (.int v3)]) (S' := []) (pc2 := 87) (L2 := [some (.ref a0), some (.int (0 : Int32)), some (.int v3)]) (S2 := []) (h' := h5) (h2 := h5) rfl rfl (fun hc => ?_) (fun hc => ?_)
        · have hc := hc
          rw [if_pos hc] at H
          refine k_n 1 (pc' := 81) (L' := [some (.ref a0), some (.int (0 : Int32)), some (.int v3)]) (S' := [.ref a0]) (h' := h5) rfl ?_
          refine k_cI 82 1 rfl rfl rfl (A := [.ref a0]) rfl rfl (z_rok_ref (Sh.tg E6 T0)) (rest := []) rfl (z_tyI rfl rfl) ?_
          refine H.mono (fun r10 h8 H => ?_)
          obtain ⟨E9, H⟩ := H
          refine k_n 1 (pc' := 92) (L' := [some (.ref a0), some (.int (0 : Int32)), some (.int v3)]) (S' := [.int r10]) (h' := h8) rfl ?_
          obtain ⟨o11, H⟩ := H
          exact k_r rfl (z_retB o11) rfl H
        · have hc := hc
          rw [if_neg hc] at H
          refine k_n 2 (pc' := 89) (L' := [some (.ref a0), some (.int (0 : Int32)), some (.int v3)]) (S' := [.int (2 : Int32), .ref a0]) (h' := h5) rfl ?_
          refine k_cI 72 2 rfl rfl rfl (A := [.ref a0, .int (2 : Int32)]) rfl rfl (z_rok_ref (Sh.tg E6 T0)) (rest := []) rfl (z_tyI rfl rfl) ?_
          refine X_72 a0 (2 : Int32) h5 (Sh.cw E6 W) (Sh.tg E6 T0) ?_
          exact k_r rfl rfl rfl H
  · have hc := hc
    rw [if_neg hc] at H
    refine k_n 1 (pc' := 12) (L' := [some (.ref a0), some (.int (0 : Int32)), none]) (S' := [.ref a0]) (h' := h) rfl ?_
    refine k_cI 82 1 rfl rfl rfl (A := [.ref a0]) rfl rfl (z_rok_ref T0) (rest := []) rfl (z_tyI rfl rfl) ?_
    refine H.mono (fun r14 h12 H => ?_)
    obtain ⟨E13, H⟩ := H
    refine k_b (g := r14 = 0) (pc' := 28) (L' := [some (.ref a0), some (.int (0 : Int32)), none]) (S' := []) (pc2 := 18) (L2 := [some (.ref a0), some (.int (0 : Int32)), none]) (S2 := []) (h' := h12) (h2 := h12) rfl rfl (fun hc => ?_) (fun hc => ?_)
    · have hc := hc
      rw [if_pos hc] at H
      refine k_n 1 (pc' := 29) (L' := [some (.ref a0), some (.int (0 : Int32)), none]) (S' := [.int (0 : Int32)]) (h' := h12) rfl ?_
      exact k_r rfl rfl rfl H
    · have hc := hc
      rw [if_neg hc] at H
      refine k_n 3 (pc' := 22) (L' := [some (.ref a0), some (.int (0 : Int32)), none]) (S' := [.int (59 : Int32), .int (0 : Int32), .ref a0]) (h' := h12) rfl ?_
      refine k_cI 76 3 rfl rfl rfl (A := [.ref a0, .int (0 : Int32), .int (59 : Int32)]) rfl rfl (z_rok_ref (Sh.tg E13 T0)) (rest := []) rfl (z_tyI rfl rfl) ?_
      refine H.mono (fun r17 h15 H => ?_)
      obtain ⟨E16, H⟩ := H
      refine k_b (g := r17 = 0) (pc' := 28) (L' := [some (.ref a0), some (.int (0 : Int32)), none]) (S' := []) (pc2 := 30) (L2 := [some (.ref a0), some (.int (0 : Int32)), none]) (S2 := []) (h' := h15) (h2 := h15) rfl rfl (fun hc => ?_) (fun hc => ?_)
      · have hc := hc
        rw [if_pos hc] at H
        refine k_n 1 (pc' := 29) (L' := [some (.ref a0), some (.int (0 : Int32)), none]) (S' := [.int (0 : Int32)]) (h' := h15) rfl ?_
        exact k_r rfl rfl rfl H
      · have hc := hc
        rw [if_neg hc] at H
        refine k_n 1 (pc' := 31) (L' := [some (.ref a0), some (.int (0 : Int32)), none]) (S' := [.ref a0]) (h' := h15) rfl ?_
        refine k_gI rfl rfl (Sh.tg E16 (Sh.tg E13 T0)) ?_
        refine k_n 2 (pc' := 36) (L' := [some (.ref a0), some (.int (z_iv h15 a0 7)), none]) (S' := [.ref a0]) (h' := h15) rfl ?_
        refine k_cI 82 1 rfl rfl rfl (A := [.ref a0]) rfl rfl (z_rok_ref (Sh.tg E16 (Sh.tg E13 T0))) (rest := []) rfl (z_tyI rfl rfl) ?_
        refine H.mono (fun r20 h18 H => ?_)
        obtain ⟨E19, H⟩ := H
        refine k_b (g := r20 = 0) (pc' := 42) (L' := [some (.ref a0), some (.int (z_iv h15 a0 7)), none]) (S' := []) (pc2 := 44) (L2 := [some (.ref a0), some (.int (z_iv h15 a0 7)), none]) (S2 := []) (h' := h18) (h2 := h18) rfl rfl (fun hc => ?_) (fun hc => ?_)
        · have hc := hc
          rw [if_pos hc] at H
          refine k_n 1 (pc' := 43) (L' := [some (.ref a0), some (.int (z_iv h15 a0 7)), none]) (S' := [.int (0 : Int32)]) (h' := h18) rfl ?_
          exact k_r rfl rfl rfl H
        · have hc := hc
          rw [if_neg hc] at H
          refine k_n 1 (pc' := 45) (L' := [some (.ref a0), some (.int (z_iv h15 a0 7)), none]) (S' := [.ref a0]) (h' := h18) rfl ?_
          refine k_cI 79 1 rfl rfl rfl (A := [.ref a0]) rfl rfl (z_rok_ref (Sh.tg E19 (Sh.tg E16 (Sh.tg E13 T0)))) (rest := []) rfl (z_tyI rfl rfl) ?_
          obtain ⟨v21, k22, H⟩ := H
          refine k_P k22 ?_
          refine k_n 3 (pc' := 52) (L' := [some (.ref a0), some (.int (z_iv h15 a0 7)), some (.int v21)]) (S' := [.int (-4 : Int32), .int v21]) (h' := h18) rfl ?_
          refine k_b (g := v21 = (-4 : Int32)) (pc' := 55) (L' := [some (.ref a0), some (.int (z_iv h15 a0 7)), some (.int v21)]) (S' := []) (pc2 := 61) (L2 := [some (.ref a0), some (.int (z_iv h15 a0 7)), some (.int v21)]) (S2 := []) (h' := h18) (h2 := h18) rfl rfl (fun hc => ?_) (fun hc => ?_)
          · have hc := hc
            rw [if_pos hc] at H
            refine k_n 2 (pc' := 57) (L' := [some (.ref a0), some (.int (z_iv h15 a0 7)), some (.int v21)]) (S' := [.int (2 : Int32), .ref a0]) (h' := h18) rfl ?_
            refine k_cI 72 2 rfl rfl rfl (A := [.ref a0, .int (2 : Int32)]) rfl rfl (z_rok_ref (Sh.tg E19 (Sh.tg E16 (Sh.tg E13 T0)))) (rest := []) rfl (z_tyI rfl rfl) ?_
            refine X_72 a0 (2 : Int32) h18 (Sh.cw E19 (Sh.cw E16 (Sh.cw E13 W))) (Sh.tg E19 (Sh.tg E16 (Sh.tg E13 T0))) ?_
            exact k_r rfl rfl rfl H
          · have hc := hc
            rw [if_neg hc] at H
            refine k_n 3 (pc' := 64) (L' := [some (.ref a0), some (.int (z_iv h15 a0 7)), some (.int v21)]) (S' := [.int v21, .int (z_iv h15 a0 7), .ref a0]) (h' := h18) rfl ?_
            refine k_cI 74 3 rfl rfl rfl (A := [.ref a0, .int (z_iv h15 a0 7), .int v21]) rfl rfl (z_rok_ref (Sh.tg E19 (Sh.tg E16 (Sh.tg E13 T0)))) (rest := []) rfl (z_tyI rfl rfl) ?_
            refine H.mono (fun r25 h23 H => ?_)
            obtain ⟨E24, H⟩ := H
            refine k_b (g := r25 = 0) (pc' := 70) (L' := [some (.ref a0), some (.int (z_iv h15 a0 7)), some (.int v21)]) (S' := []) (pc2 := 72) (L2 := [some (.ref a0), some (.int (z_iv h15 a0 7)), some (.int v21)]) (S2 := []) (h' := h23) (h2 := h23) rfl rfl (fun hc => ?_) (fun hc => ?_)
            · have hc := hc
              rw [if_pos hc] at H
              refine k_n 1 (pc' := 71) (L' := [some (.ref a0), some (.int (z_iv h15 a0 7)), some (.int v21)]) (S' := [.int (0 : Int32)]) (h' := h23) rfl ?_
              exact k_r rfl rfl rfl H
            · have hc := hc
              rw [if_neg hc] at H
              refine k_n 1 (pc' := 73) (L' := [some (.ref a0), some (.int (z_iv h15 a0 7)), some (.int v21)]) (S' := [.ref a0]) (h' := h23) rfl ?_
              refine k_gI rfl rfl (Sh.tg E24 (Sh.tg E19 (Sh.tg E16 (Sh.tg E13 T0)))) ?_
              refine k_n 1 (pc' := 77) (L' := [some (.ref a0), some (.int (z_iv h15 a0 7)), some (.int v21)]) (S' := [.int (3 : Int32), .int (z_iv h23 a0 4)]) (h' := h23) rfl ?_
              refine k_b (g := (z_iv h23 a0 4) = (3 : Int32)) (pc' := 80) (L' := [some (.ref a0), some (.int (z_iv h15 a0 7)), some (.int v21)]) (S' := []) (pc2 := 87) (L2 := [some (.ref a0), some (.int (z_iv h15 a0 7)), some (.int v21)]) (S2 := []) (h' := h23) (h2 := h23) rfl rfl (fun hc => ?_) (fun hc => ?_)
              · have hc := hc
                rw [if_pos hc] at H
                refine k_n 1 (pc' := 81) (L' := [some (.ref a0), some (.int (z_iv h15 a0 7)), some (.int v21)]) (S' := [.ref a0]) (h' := h23) rfl ?_
                refine k_cI 82 1 rfl rfl rfl (A := [.ref a0]) rfl rfl (z_rok_ref (Sh.tg E24 (Sh.tg E19 (Sh.tg E16 (Sh.tg E13 T0))))) (rest := []) rfl (z_tyI rfl rfl) ?_
                refine H.mono (fun r28 h26 H => ?_)
                obtain ⟨E27, H⟩ := H
                refine k_n 1 (pc' := 92) (L' := [some (.ref a0), some (.int (z_iv h15 a0 7)), some (.int v21)]) (S' := [.int r28]) (h' := h26) rfl ?_
                obtain ⟨o29, H⟩ := H
                exact k_r rfl (z_retB o29) rfl H
              · have hc := hc
                rw [if_neg hc] at H
                refine k_n 2 (pc' := 89) (L' := [some (.ref a0), some (.int (z_iv h15 a0 7)), some (.int v21)]) (S' := [.int (2 : Int32), .ref a0]) (h' := h23) rfl ?_
                refine k_cI 72 2 rfl rfl rfl (A := [.ref a0, .int (2 : Int32)]) rfl rfl (z_rok_ref (Sh.tg E24 (Sh.tg E19 (Sh.tg E16 (Sh.tg E13 T0))))) (rest := []) rfl (z_tyI rfl rfl) ?_
                refine X_72 a0 (2 : Int32) h23 (Sh.cw E24 (Sh.cw E19 (Sh.cw E16 (Sh.cw E13 W)))) (Sh.tg E24 (Sh.tg E19 (Sh.tg E16 (Sh.tg E13 T0)))) ?_
                exact k_r rfl rfl rfl H
set_option maxRecDepth 20000 in
theorem X_70 (a0 : Nat) (x1 : Nat) (h : zH) (W : CW h) (T0 : z_tg h a0 = 7) (T1 : z_tg h x1 = 1) {Q : Int32 → zH → Prop} (H : (z_rv (z_sR h a0 3 (some x1)) a0 3 = none → False) ∧ (∀ b2, z_rv (z_sR h a0 3 (some x1)) a0 3 = some b2 → KK z_pI 82 [.ref a0] (z_sI (z_sI (z_sI (z_sI (z_sR h a0 3 (some x1)) b2 5 (0 : Int32)) a0 6 (0 : Int32)) a0 0 (0 : Int32)) a0 1 (0 : Int32)) (fun r6 h4 => Sh (z_sI (z_sI (z_sI (z_sI (z_sR h a0 3 (some x1)) b2 5 (0 : Int32)) a0 6 (0 : Int32)) a0 0 (0 : Int32)) a0 1 (0 : Int32)) h4 ∧ (if r6 = 0 then (Q (0 : Int32) h4) else (KG z_pI 70 39 [some (.ref a0), some (.ref x1), some (.int (0 : Int32))] [] h4 Q))))) : KK z_pI 70 [.ref a0, .ref x1] h Q := by
  refine k_K (L := [some (.ref a0), some (.ref x1), none]) rfl ?_
  refine k_n 2 (pc' := 2) (L' := [some (.ref a0), some (.ref x1), none]) (S' := [.ref x1, .ref a0]) (h' := h) rfl ?_
  refine k_pR rfl T0 ?_
  refine k_n 1 (pc' := 6) (L' := [some (.ref a0), some (.ref x1), none]) (S' := [.ref a0]) (h' := (z_sR h a0 3 (some x1))) rfl ?_
  obtain hb1 | ⟨b2, hb1⟩ := z_opt (z_rv (z_sR h a0 3 (some x1)) a0 3)
  · have H := H.1 hb1
    refine k_gN rfl (z_tgR T0) hb1 ?_
    refine k_n 1 (pc' := 10) (L' := [some (.ref a0), some (.ref x1), none]) (S' := [.int (0 : Int32), .null]) (h' := (z_sR h a0 3 (some x1))) rfl ?_
    exact H.elim
  · have H := H.2 b2 hb1
    have t3 : z_tg (z_sR h a0 3 (some x1)) b2 = 1 := (CW.tyOf (t := 7) (t' := 1) (CW.sR W T0 (j := 3) rfl (fun _ q_ => by cases q_; exact T1) (by decide)) (z_tgR T0) hb1 (by decide) rfl)
    refine k_gS rfl (z_tgR T0) hb1 ?_
    refine k_n 1 (pc' := 10) (L' := [some (.ref a0), some (.ref x1), none]) (S' := [.int (0 : Int32), .ref b2]) (h' := (z_sR h a0 3 (some x1))) rfl ?_
    refine k_pI rfl t3 ?_
    refine k_n 2 (pc' := 15) (L' := [some (.ref a0), some (.ref x1), none]) (S' := [.int (0 : Int32), .ref a0]) (h' := (z_sI (z_sR h a0 3 (some x1)) b2 5 (0 : Int32))) rfl ?_
    refine k_pI rfl (z_tgI (z_tgR T0)) ?_
    refine k_n 2 (pc' := 20) (L' := [some (.ref a0), some (.ref x1), none]) (S' := [.int (0 : Int32), .ref a0]) (h' := (z_sI (z_sI (z_sR h a0 3 (some x1)) b2 5 (0 : Int32)) a0 6 (0 : Int32))) rfl ?_
    refine k_pI rfl (z_tgI (z_tgI (z_tgR T0))) ?_
    refine k_n 2 (pc' := 25) (L' := [some (.ref a0), some (.ref x1), none]) (S' := [.int (0 : Int32), .ref a0]) (h' := (z_sI (z_sI (z_sI (z_sR h a0 3 (some x1)) b2 5 (0 : Int32)) a0 6 (0 : Int32)) a0 0 (0 : Int32))) rfl ?_
    refine k_pI rfl (z_tgI (z_tgI (z_tgI (z_tgR T0)))) ?_
    refine k_n 1 (pc' := 29) (L' := [some (.ref a0), some (.ref x1), none]) (S' := [.ref a0]) (h' := (z_sI (z_sI (z_sI (z_sI (z_sR h a0 3 (some x1)) b2 5 (0 : Int32)) a0 6 (0 : Int32)) a0 0 (0 : Int32)) a0 1 (0 : Int32))) rfl ?_
    refine k_cI 82 1 rfl rfl rfl (A := [.ref a0]) rfl rfl (z_rok_ref (z_tgI (z_tgI (z_tgI (z_tgI (z_tgR T0)))))) (rest := []) rfl (z_tyI rfl rfl) ?_
    refine H.mono (fun r6 h4 H => ?_)
    obtain ⟨E5, H⟩ := H
    refine k_b (g := r6 = 0) (pc' := 35) (L' := [some (.ref a0), some (.ref x1), none]) (S' := []) (pc2 := 37) (L2 := [some (.ref a0), some (.ref x1), none]) (S2 := []) (h' := h4) (h2 := h4) rfl rfl (fun hc => ?_) (fun hc => ?_)
    · have hc := hc
      rw [if_pos hc] at H
      refine k_n 1 (pc' := 36) (L' := [some (.ref a0), some (.ref x1), none]) (S' := [.int (0 : Int32)]) (h' := h4) rfl ?_
      exact k_r rfl rfl rfl H
    · have hc := hc
      rw [if_neg hc] at H
      refine k_n 2 (pc' := 39) (L' := [some (.ref a0), some (.ref x1), some (.int (0 : Int32))]) (S' := []) (h' := h4) rfl ?_
      exact H
set_option maxRecDepth 20000 in
theorem X_70_39 (a0 : Nat) (a1 : Nat) (y2 : Int32) (h : zH) (W : CW h) (Ta0 : z_tg h a0 = 7) (Ta1 : z_tg h a1 = 1) {Q : Int32 → zH → Prop} (H : if (16 : Int32) ≤ y2 then (if (z_iv h a0 4) = 0 then (Q (1 : Int32) h) else (∃ v7 : Int32, KV z_pI 71 [.ref a0] h v7 ∧ (∀ m10 : Int32, m10 = (if v7 = 0 then (2 : Int32) else (4 : Int32)) → Q (0 : Int32) (z_sI (z_sI h a0 0 m10) a0 1 (z_iv h a0 5))))) else (if (z_iv h a0 4) = 0 then (Q (1 : Int32) h) else (KK z_pI 73 [.ref a0] h (fun r14 h12 => Sh h h12 ∧ (if r14 = 0 then (Q (0 : Int32) h12) else (KG z_pI 70 39 [some (.ref a0), some (.ref a1), some (.int (y2 + (1 : Int32)))] [] h12 Q)))))) : KG z_pI 70 39 [some (.ref a0), some (.ref a1), some (.int y2)] [] h Q := by
  refine k_n 2 (pc' := 42) (L' := [some (.ref a0), some (.ref a1), some (.int y2)]) (S' := [.int (16 : Int32), .int y2]) (h' := h) rfl ?_
  refine k_b (g := (16 : Int32) ≤ y2) (pc' := 69) (L' := [some (.ref a0), some (.ref a1), some (.int y2)]) (S' := []) (pc2 := 45) (L2 := [some (.ref a0), some (.ref a1), some (.int y2)]) (S2 := []) (h' := h) (h2 := h) rfl rfl (fun hc => ?_) (fun hc => ?_)
  · have hc := hc
    rw [if_pos hc] at H
    refine k_n 1 (pc' := 70) (L' := [some (.ref a0), some (.ref a1), some (.int y2)]) (S' := [.ref a0]) (h' := h) rfl ?_
    refine k_gI rfl rfl Ta0 ?_
    refine k_b (g := (z_iv h a0 4) = 0) (pc' := 95) (L' := [some (.ref a0), some (.ref a1), some (.int y2)]) (S' := []) (pc2 := 76) (L2 := [some (.ref a0), some (.ref a1), some (.int y2)]) (S2 := []) (h' := h) (h2 := h) rfl rfl (fun hc => ?_) (fun hc => ?_)
    · have hc := hc
      rw [if_pos hc] at H
      refine k_n 2 (pc' := 100) (L' := [some (.ref a0), some (.ref a1), some (.int y2)]) (S' := [.int (1 : Int32)]) (h' := h) rfl ?_
      exact k_r rfl rfl rfl H
    · have hc := hc
      rw [if_neg hc] at H
      refine k_n 2 (pc' := 78) (L' := [some (.ref a0), some (.ref a1), some (.int y2)]) (S' := [.ref a0, .ref a0]) (h' := h) rfl ?_
      refine k_cI 71 1 rfl rfl rfl (A := [.ref a0]) rfl rfl (z_rok_ref Ta0) (rest := [.ref a0]) rfl (z_tyI rfl rfl) ?_
      obtain ⟨v7, k8, H⟩ := H
      refine k_P k8 ?_
      obtain ⟨m10, em10⟩ : ∃ m : Int32, m = (if v7 = 0 then (2 : Int32) else (4 : Int32)) := ⟨_, rfl⟩
      have H := H m10 em10
      have hj11 : KG z_pI 70 89 [some (.ref a0), some (.ref a1), some (.int y2)] [.int m10, .ref a0] h Q := by
        refine k_cI 72 2 rfl rfl rfl (A := [.ref a0, .int m10]) rfl rfl (z_rok_ref Ta0) (rest := []) rfl (z_tyI rfl rfl) ?_
        refine X_72 a0 m10 h W Ta0 ?_
        refine k_n 2 (pc' := 100) (L' := [some (.ref a0), some (.ref a1), some (.int y2)]) (S' := [.int (0 : Int32)]) (h' := (z_sI (z_sI h a0 0 m10) a0 1 (z_iv h a0 5))) rfl ?_
        exact k_r rfl rfl rfl H
      refine k_b (g := v7 = 0) (pc' := 88) (L' := [some (.ref a0), some (.ref a1), some (.int y2)]) (S' := [.ref a0]) (pc2 := 84) (L2 := [some (.ref a0), some (.ref a1), some (.int y2)]) (S2 := [.ref a0]) (h' := h) (h2 := h) rfl rfl (fun hc => ?_) (fun hc => ?_)
      · have c9 := hc
        refine k_n 1 (pc' := 89) (L' := [some (.ref a0), some (.ref a1), some (.int y2)]) (S' := [.int (2 : Int32), .ref a0]) (h' := h) rfl ?_
        rw [(em10.trans (by rw [if_pos c9]) : m10 = (2 : Int32))] at hj11
        exact hj11
      · have c9 := hc
        refine k_n 2 (pc' := 89) (L' := [some (.ref a0), some (.ref a1), some (.int y2)]) (S' := [.int (4 : Int32), .ref a0]) (h' := h) rfl ?_
        rw [(em10.trans (by rw [if_neg c9]) : m10 = (4 : Int32))] at hj11
        exact hj11
  · have hc := hc
    rw [if_neg hc] at H
    refine k_n 1 (pc' := 46) (L' := [some (.ref a0), some (.ref a1), some (.int y2)]) (S' := [.ref a0]) (h' := h) rfl ?_
    refine k_gI rfl rfl Ta0 ?_
    refine k_b (g := (z_iv h a0 4) = 0) (pc' := 52) (L' := [some (.ref a0), some (.ref a1), some (.int y2)]) (S' := []) (pc2 := 54) (L2 := [some (.ref a0), some (.ref a1), some (.int y2)]) (S2 := []) (h' := h) (h2 := h) rfl rfl (fun hc => ?_) (fun hc => ?_)
    · have hc := hc
      rw [if_pos hc] at H
      refine k_n 1 (pc' := 53) (L' := [some (.ref a0), some (.ref a1), some (.int y2)]) (S' := [.int (1 : Int32)]) (h' := h) rfl ?_
      exact k_r rfl rfl rfl H
    · have hc := hc
      rw [if_neg hc] at H
      refine k_n 1 (pc' := 55) (L' := [some (.ref a0), some (.ref a1), some (.int y2)]) (S' := [.ref a0]) (h' := h) rfl ?_
      refine k_cI 73 1 rfl rfl rfl (A := [.ref a0]) rfl rfl (z_rok_ref Ta0) (rest := []) rfl (z_tyI rfl rfl) ?_
      refine H.mono (fun r14 h12 H => ?_)
      obtain ⟨E13, H⟩ := H
      refine k_b (g := r14 = 0) (pc' := 61) (L' := [some (.ref a0), some (.ref a1), some (.int y2)]) (S' := []) (pc2 := 63) (L2 := [some (.ref a0), some (.ref a1), some (.int y2)]) (S2 := []) (h' := h12) (h2 := h12) rfl rfl (fun hc => ?_) (fun hc => ?_)
      · have hc := hc
        rw [if_pos hc] at H
        refine k_n 1 (pc' := 62) (L' := [some (.ref a0), some (.ref a1), some (.int y2)]) (S' := [.int (0 : Int32)]) (h' := h12) rfl ?_
        exact k_r rfl rfl rfl H
      · have hc := hc
        rw [if_neg hc] at H
        refine k_n 2 (pc' := 39) (L' := [some (.ref a0), some (.ref a1), some (.int (y2 + (1 : Int32)))]) (S' := []) (h' := h12) rfl ?_
        exact H
set_option maxRecDepth 20000 in
theorem X_112  (h : zH) (W : CW h)  {Q : Int32 → zH → Prop} (H : (z_rv h 0 10 = none → KK z_pI 70 [.ref 8, .null] h (fun r_ h_ => KG z_pI 112 11 [some (.ref 0), none, none] [.int r_] h_ Q)) ∧ (∀ b2, z_rv h 0 10 = some b2 → KK z_pI 70 [.ref 8, .ref b2] h (fun r_ h_ => KG z_pI 112 11 [some (.ref 0), none, none] [.int r_] h_ Q))) : KK z_pI 112 [.ref 0] h Q := by
  refine k_K (L := [some (.ref 0), none, none]) rfl ?_
  refine k_n 1 (pc' := 1) (L' := [some (.ref 0), none, none]) (S' := [.ref 0]) (h' := h) rfl ?_
  refine k_gS (b := 8) rfl W.t0 (W.abOf (t := 11) (j := 6) (o := 8) (n := 0) (by decide) W.t0).1 ?_
  refine k_n 1 (pc' := 5) (L' := [some (.ref 0), none, none]) (S' := [.ref 0, .ref 8]) (h' := h) rfl ?_
  obtain hb1 | ⟨b2, hb1⟩ := z_opt (z_rv h 0 10)
  · have H := H.1 hb1
    refine k_gN rfl W.t0 hb1 ?_
    refine k_cI 70 2 rfl rfl rfl (A := [.ref 8, .null]) rfl rfl (z_rok_ref (CW.tyOf (t := 11) (t' := 7) W (j := 6) W.t0 (W.abOf (t := 11) (j := 6) (o := 8) (n := 0) (by decide) W.t0).1 (by decide) rfl)) (rest := []) rfl (z_tyI rfl rfl) ?_
    exact H
  · have H := H.2 b2 hb1
    have t3 : z_tg h b2 = 1 := (CW.tyOf (t := 11) (t' := 1) W W.t0 hb1 (by decide) rfl)
    refine k_gS rfl W.t0 hb1 ?_
    refine k_cI 70 2 rfl rfl rfl (A := [.ref 8, .ref b2]) rfl rfl (z_rok_ref (CW.tyOf (t := 11) (t' := 7) W (j := 6) W.t0 (W.abOf (t := 11) (j := 6) (o := 8) (n := 0) (by decide) W.t0).1 (by decide) rfl)) (rest := []) rfl (z_tyI rfl rfl) ?_
    exact H
set_option maxRecDepth 20000 in
theorem X_112_11 (u1 : Option Value) (u2 : Option Value) (s0 : Int32) (h : zH) (W : CW h)  {Q : Int32 → zH → Prop} (H : if s0 = 0 then (Q ((-10 : Int32) - (z_iv h 8 1)) (z_sI h 6 1 (0 : Int32))) else ((z_rv (z_sI h 6 1 (0 : Int32)) 0 9 = none → (z_rv (z_sI h 6 1 (0 : Int32)) 0 10 = none → (z_rv (z_sR (z_sR (z_sI h 6 1 (0 : Int32)) 0 9 none) 0 10 none) 0 9 = none → False) ∧ (∀ b11, z_rv (z_sR (z_sR (z_sI h 6 1 (0 : Int32)) 0 9 none) 0 10 none) 0 9 = some b11 → Q (z_iv h b11 5) (z_sR (z_sR (z_sI h 6 1 (0 : Int32)) 0 9 none) 0 10 none))) ∧ (∀ b8, z_rv (z_sI h 6 1 (0 : Int32)) 0 10 = some b8 → (z_rv (z_sR (z_sR (z_sI h 6 1 (0 : Int32)) 0 9 (some b8)) 0 10 none) 0 9 = none → False) ∧ (∀ b14, z_rv (z_sR (z_sR (z_sI h 6 1 (0 : Int32)) 0 9 (some b8)) 0 10 none) 0 9 = some b14 → Q (z_iv h b14 5) (z_sR (z_sR (z_sI h 6 1 (0 : Int32)) 0 9 (some b8)) 0 10 none)))) ∧ (∀ b5, z_rv (z_sI h 6 1 (0 : Int32)) 0 9 = some b5 → (z_rv (z_sI h 6 1 (0 : Int32)) 0 10 = none → (z_rv (z_sR (z_sR (z_sI h 6 1 (0 : Int32)) 0 9 none) 0 10 (some b5)) 0 9 = none → False) ∧ (∀ b20, z_rv (z_sR (z_sR (z_sI h 6 1 (0 : Int32)) 0 9 none) 0 10 (some b5)) 0 9 = some b20 → Q (z_iv h b20 5) (z_sR (z_sR (z_sI h 6 1 (0 : Int32)) 0 9 none) 0 10 (some b5)))) ∧ (∀ b17, z_rv (z_sI h 6 1 (0 : Int32)) 0 10 = some b17 → (z_rv (z_sR (z_sR (z_sI h 6 1 (0 : Int32)) 0 9 (some b17)) 0 10 (some b5)) 0 9 = none → False) ∧ (∀ b23, z_rv (z_sR (z_sR (z_sI h 6 1 (0 : Int32)) 0 9 (some b17)) 0 10 (some b5)) 0 9 = some b23 → Q (z_iv h b23 5) (z_sR (z_sR (z_sI h 6 1 (0 : Int32)) 0 9 (some b17)) 0 10 (some b5))))))) : KG z_pI 112 11 [some (.ref 0), u1, u2] [.int s0] h Q := by
  refine k_n 2 (pc' := 13) (L' := [some (.ref 0), some (.int s0), u2]) (S' := [.ref 0]) (h' := h) rfl ?_
  refine k_gS (b := 6) rfl W.t0 (W.abOf (t := 11) (j := 5) (o := 6) (n := 0) (by decide) W.t0).1 ?_
  refine k_n 1 (pc' := 17) (L' := [some (.ref 0), some (.int s0), u2]) (S' := [.int (0 : Int32), .ref 6]) (h' := h) rfl ?_
  refine k_pI rfl (CW.tyOf (t := 11) (t' := 9) W (j := 5) W.t0 (W.abOf (t := 11) (j := 5) (o := 6) (n := 0) (by decide) W.t0).1 (by decide) rfl) ?_
  refine k_n 1 (pc' := 21) (L' := [some (.ref 0), some (.int s0), u2]) (S' := [.int s0]) (h' := (z_sI h 6 1 (0 : Int32))) rfl ?_
  refine k_b (g := s0 = 0) (pc' := 24) (L' := [some (.ref 0), some (.int s0), u2]) (S' := []) (pc2 := 35) (L2 := [some (.ref 0), some (.int s0), u2]) (S2 := []) (h' := (z_sI h 6 1 (0 : Int32))) (h2 := (z_sI h 6 1 (0 : Int32))) rfl rfl (fun hc => ?_) (fun hc => ?_)
  · have hc := hc
    rw [if_pos hc] at H
    refine k_n 2 (pc' := 27) (L' := [some (.ref 0), some (.int s0), u2]) (S' := [.ref 0, .int (-10 : Int32)]) (h' := (z_sI h 6 1 (0 : Int32))) rfl ?_
    refine k_gS (b := 8) rfl (z_tgI W.t0) ((CW.sI W).abOf (t := 11) (j := 6) (o := 8) (n := 0) (by decide) (z_tgI W.t0)).1 ?_
    refine k_gV rfl rfl (CW.tyOf (t := 11) (t' := 7) (CW.sI W) (j := 6) (z_tgI W.t0) ((CW.sI W).abOf (t := 11) (j := 6) (o := 8) (n := 0) (by decide) (z_tgI W.t0)).1 (by decide) rfl) (v_na (by decide) rfl) ?_
    refine k_n 1 (pc' := 34) (L' := [some (.ref 0), some (.int s0), u2]) (S' := [.int ((-10 : Int32) - (z_iv h 8 1))]) (h' := (z_sI h 6 1 (0 : Int32))) rfl ?_
    exact k_r rfl rfl rfl H
  · have hc := hc
    rw [if_neg hc] at H
    refine k_n 1 (pc' := 36) (L' := [some (.ref 0), some (.int s0), u2]) (S' := [.ref 0]) (h' := (z_sI h 6 1 (0 : Int32))) rfl ?_
    obtain hb4 | ⟨b5, hb4⟩ := z_opt (z_rv (z_sI h 6 1 (0 : Int32)) 0 9)
    · have H := H.1 hb4
      refine k_gN rfl (z_tgI W.t0) hb4 ?_
      refine k_n 3 (pc' := 42) (L' := [some (.ref 0), some (.int s0), some (.null)]) (S' := [.ref 0, .ref 0]) (h' := (z_sI h 6 1 (0 : Int32))) rfl ?_
      obtain hb7 | ⟨b8, hb7⟩ := z_opt (z_rv (z_sI h 6 1 (0 : Int32)) 0 10)
      · have H := H.1 hb7
        refine k_gN rfl (z_tgI W.t0) hb7 ?_
        refine k_pN rfl (z_tgI W.t0) ?_
        refine k_n 2 (pc' := 50) (L' := [some (.ref 0), some (.int s0), some (.null)]) (S' := [.null, .ref 0]) (h' := (z_sR (z_sI h 6 1 (0 : Int32)) 0 9 none)) rfl ?_
        refine k_pN rfl (z_tgR (z_tgI W.t0)) ?_
        refine k_n 1 (pc' := 54) (L' := [some (.ref 0), some (.int s0), some (.null)]) (S' := [.ref 0]) (h' := (z_sR (z_sR (z_sI h 6 1 (0 : Int32)) 0 9 none) 0 10 none)) rfl ?_
        obtain hb10 | ⟨b11, hb10⟩ := z_opt (z_rv (z_sR (z_sR (z_sI h 6 1 (0 : Int32)) 0 9 none) 0 10 none) 0 9)
        · have H := H.1 hb10
          refine k_gN rfl (z_tgR (z_tgR (z_tgI W.t0))) hb10 ?_
          exact H.elim
        · have H := H.2 b11 hb10
          have t12 : z_tg (z_sR (z_sR (z_sI h 6 1 (0 : Int32)) 0 9 none) 0 10 none) b11 = 1 := (CW.tyOf (t := 11) (t' := 1) (CW.sR (r := none) (CW.sR (r := none) (CW.sI W) (z_tgI W.t0) (j := 9) rfl (fun _ q_ => nomatch q_) (by decide)) (z_tgR (z_tgI W.t0)) (j := 10) rfl (fun _ q_ => nomatch q_) (by decide)) (z_tgR (z_tgR (z_tgI W.t0))) hb10 (by decide) rfl)
          refine k_gS rfl (z_tgR (z_tgR (z_tgI W.t0))) hb10 ?_
          refine k_gV rfl rfl t12 (v_sR (v_sR (v_nt (show z_tg h b11 = 1 from (show z_tg (z_sR (z_sR (z_sI h 6 1 (0 : Int32)) 0 9 none) 0 10 none) b11 = 1 from t12)) (CW.tyOf (t := 11) (t' := 9) W (j := 5) W.t0 (W.abOf (t := 11) (j := 5) (o := 6) (n := 0) (by decide) W.t0).1 (by decide) rfl) (by decide) rfl))) ?_
          exact k_r rfl rfl rfl H
      · have H := H.2 b8 hb7
        have t9 : z_tg (z_sI h 6 1 (0 : Int32)) b8 = 1 := (CW.tyOf (t := 11) (t' := 1) (CW.sI W) (z_tgI W.t0) hb7 (by decide) rfl)
        refine k_gS rfl (z_tgI W.t0) hb7 ?_
        refine k_pR rfl (z_tgI W.t0) ?_
        refine k_n 2 (pc' := 50) (L' := [some (.ref 0), some (.int s0), some (.null)]) (S' := [.null, .ref 0]) (h' := (z_sR (z_sI h 6 1 (0 : Int32)) 0 9 (some b8))) rfl ?_
        refine k_pN rfl (z_tgR (z_tgI W.t0)) ?_
        refine k_n 1 (pc' := 54) (L' := [some (.ref 0), some (.int s0), some (.null)]) (S' := [.ref 0]) (h' := (z_sR (z_sR (z_sI h 6 1 (0 : Int32)) 0 9 (some b8)) 0 10 none)) rfl ?_
        obtain hb13 | ⟨b14, hb13⟩ := z_opt (z_rv (z_sR (z_sR (z_sI h 6 1 (0 : Int32)) 0 9 (some b8)) 0 10 none) 0 9)
        · have H := H.1 hb13
          refine k_gN rfl (z_tgR (z_tgR (z_tgI W.t0))) hb13 ?_
          exact H.elim
        · have H := H.2 b14 hb13
          have t15 : z_tg (z_sR (z_sR (z_sI h 6 1 (0 : Int32)) 0 9 (some b8)) 0 10 none) b14 = 1 := (CW.tyOf (t := 11) (t' := 1) (CW.sR (r := none) (CW.sR (CW.sI W) (z_tgI W.t0) (j := 9) rfl (fun _ q_ => by cases q_; exact t9) (by decide)) (z_tgR (z_tgI W.t0)) (j := 10) rfl (fun _ q_ => nomatch q_) (by decide)) (z_tgR (z_tgR (z_tgI W.t0))) hb13 (by decide) rfl)
          refine k_gS rfl (z_tgR (z_tgR (z_tgI W.t0))) hb13 ?_
          refine k_gV rfl rfl t15 (v_sR (v_sR (v_nt (show z_tg h b14 = 1 from (show z_tg (z_sR (z_sR (z_sI h 6 1 (0 : Int32)) 0 9 (some b8)) 0 10 none) b14 = 1 from t15)) (CW.tyOf (t := 11) (t' := 9) W (j := 5) W.t0 (W.abOf (t := 11) (j := 5) (o := 6) (n := 0) (by decide) W.t0).1 (by decide) rfl) (by decide) rfl))) ?_
          exact k_r rfl rfl rfl H
    · have H := H.2 b5 hb4
      have t6 : z_tg (z_sI h 6 1 (0 : Int32)) b5 = 1 := (CW.tyOf (t := 11) (t' := 1) (CW.sI W) (z_tgI W.t0) hb4 (by decide) rfl)
      refine k_gS rfl (z_tgI W.t0) hb4 ?_
      refine k_n 3 (pc' := 42) (L' := [some (.ref 0), some (.int s0), some (.ref b5)]) (S' := [.ref 0, .ref 0]) (h' := (z_sI h 6 1 (0 : Int32))) rfl ?_
      obtain hb16 | ⟨b17, hb16⟩ := z_opt (z_rv (z_sI h 6 1 (0 : Int32)) 0 10)
      · have H := H.1 hb16
        refine k_gN rfl (z_tgI W.t0) hb16 ?_
        refine k_pN rfl (z_tgI W.t0) ?_
        refine k_n 2 (pc' := 50) (L' := [some (.ref 0), some (.int s0), some (.ref b5)]) (S' := [.ref b5, .ref 0]) (h' := (z_sR (z_sI h 6 1 (0 : Int32)) 0 9 none)) rfl ?_
        refine k_pR rfl (z_tgR (z_tgI W.t0)) ?_
        refine k_n 1 (pc' := 54) (L' := [some (.ref 0), some (.int s0), some (.ref b5)]) (S' := [.ref 0]) (h' := (z_sR (z_sR (z_sI h 6 1 (0 : Int32)) 0 9 none) 0 10 (some b5))) rfl ?_
        obtain hb19 | ⟨b20, hb19⟩ := z_opt (z_rv (z_sR (z_sR (z_sI h 6 1 (0 : Int32)) 0 9 none) 0 10 (some b5)) 0 9)
        · have H := H.1 hb19
          refine k_gN rfl (z_tgR (z_tgR (z_tgI W.t0))) hb19 ?_
          exact H.elim
        · have H := H.2 b20 hb19
          have t21 : z_tg (z_sR (z_sR (z_sI h 6 1 (0 : Int32)) 0 9 none) 0 10 (some b5)) b20 = 1 := (CW.tyOf (t := 11) (t' := 1) (CW.sR (CW.sR (r := none) (CW.sI W) (z_tgI W.t0) (j := 9) rfl (fun _ q_ => nomatch q_) (by decide)) (z_tgR (z_tgI W.t0)) (j := 10) rfl (fun _ q_ => by cases q_; exact (z_tgR t6)) (by decide)) (z_tgR (z_tgR (z_tgI W.t0))) hb19 (by decide) rfl)
          refine k_gS rfl (z_tgR (z_tgR (z_tgI W.t0))) hb19 ?_
          refine k_gV rfl rfl t21 (v_sR (v_sR (v_nt (show z_tg h b20 = 1 from (show z_tg (z_sR (z_sR (z_sI h 6 1 (0 : Int32)) 0 9 none) 0 10 (some b5)) b20 = 1 from t21)) (CW.tyOf (t := 11) (t' := 9) W (j := 5) W.t0 (W.abOf (t := 11) (j := 5) (o := 6) (n := 0) (by decide) W.t0).1 (by decide) rfl) (by decide) rfl))) ?_
          exact k_r rfl rfl rfl H
      · have H := H.2 b17 hb16
        have t18 : z_tg (z_sI h 6 1 (0 : Int32)) b17 = 1 := (CW.tyOf (t := 11) (t' := 1) (CW.sI W) (z_tgI W.t0) hb16 (by decide) rfl)
        refine k_gS rfl (z_tgI W.t0) hb16 ?_
        refine k_pR rfl (z_tgI W.t0) ?_
        refine k_n 2 (pc' := 50) (L' := [some (.ref 0), some (.int s0), some (.ref b5)]) (S' := [.ref b5, .ref 0]) (h' := (z_sR (z_sI h 6 1 (0 : Int32)) 0 9 (some b17))) rfl ?_
        refine k_pR rfl (z_tgR (z_tgI W.t0)) ?_
        refine k_n 1 (pc' := 54) (L' := [some (.ref 0), some (.int s0), some (.ref b5)]) (S' := [.ref 0]) (h' := (z_sR (z_sR (z_sI h 6 1 (0 : Int32)) 0 9 (some b17)) 0 10 (some b5))) rfl ?_
        obtain hb22 | ⟨b23, hb22⟩ := z_opt (z_rv (z_sR (z_sR (z_sI h 6 1 (0 : Int32)) 0 9 (some b17)) 0 10 (some b5)) 0 9)
        · have H := H.1 hb22
          refine k_gN rfl (z_tgR (z_tgR (z_tgI W.t0))) hb22 ?_
          exact H.elim
        · have H := H.2 b23 hb22
          have t24 : z_tg (z_sR (z_sR (z_sI h 6 1 (0 : Int32)) 0 9 (some b17)) 0 10 (some b5)) b23 = 1 := (CW.tyOf (t := 11) (t' := 1) (CW.sR (CW.sR (CW.sI W) (z_tgI W.t0) (j := 9) rfl (fun _ q_ => by cases q_; exact t18) (by decide)) (z_tgR (z_tgI W.t0)) (j := 10) rfl (fun _ q_ => by cases q_; exact (z_tgR t6)) (by decide)) (z_tgR (z_tgR (z_tgI W.t0))) hb22 (by decide) rfl)
          refine k_gS rfl (z_tgR (z_tgR (z_tgI W.t0))) hb22 ?_
          refine k_gV rfl rfl t24 (v_sR (v_sR (v_nt (show z_tg h b23 = 1 from (show z_tg (z_sR (z_sR (z_sI h 6 1 (0 : Int32)) 0 9 (some b17)) 0 10 (some b5)) b23 = 1 from t24)) (CW.tyOf (t := 11) (t' := 9) W (j := 5) W.t0 (W.abOf (t := 11) (j := 5) (o := 6) (n := 0) (by decide) W.t0).1 (by decide) rfl) (by decide) rfl))) ?_
          exact k_r rfl rfl rfl H
