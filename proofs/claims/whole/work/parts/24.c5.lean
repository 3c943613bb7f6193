set_option maxRecDepth 20000 in
theorem X_30 (a0 : Nat) (x1 : Nat) (x2 : Nat) (x3 : Int32) (x4 : Int32) (x5 : Int32) (h : zH) (W : CW h) (T0 : z_tg h a0 = 2) (T1 : z_tg h x1 = 4) (T2 : z_tg h x2 = 1) {Q : Int32 → zH → Prop} (H : ∃ v1 : Option Nat, KV z_pA 44 [.ref x1] (z_sR h a0 0 (some x1)) v1 ∧ (∀ b_, v1 = some b_ → z_tg (z_sR h a0 0 (some x1)) b_ = 3) ∧ ((v1 = none → (z_rv (z_sI (z_sI (z_sI (z_sR (z_sR (z_sR h a0 0 (some x1)) a0 1 none) a0 2 (some x2)) a0 3 x3) a0 4 x4) a0 5 x5) a0 1 = none → Q (0 : Int32) (z_sI (z_sI (z_sI (z_sR (z_sR (z_sR h a0 0 (some x1)) a0 1 none) a0 2 (some x2)) a0 3 x3) a0 4 x4) a0 5 x5)) ∧ (∀ b8, z_rv (z_sI (z_sI (z_sI (z_sR (z_sR (z_sR h a0 0 (some x1)) a0 1 none) a0 2 (some x2)) a0 3 x3) a0 4 x4) a0 5 x5) a0 1 = some b8 → Q (1 : Int32) (z_sI (z_sI (z_sI (z_sR (z_sR (z_sR h a0 0 (some x1)) a0 1 none) a0 2 (some x2)) a0 3 x3) a0 4 x4) a0 5 x5))) ∧ (∀ b5, v1 = some b5 → (z_rv (z_sI (z_sI (z_sI (z_sR (z_sR (z_sR h a0 0 (some x1)) a0 1 (some b5)) a0 2 (some x2)) a0 3 x3) a0 4 x4) a0 5 x5) a0 1 = none → Q (0 : Int32) (z_sI (z_sI (z_sI (z_sR (z_sR (z_sR h a0 0 (some x1)) a0 1 (some b5)) a0 2 (some x2)) a0 3 x3) a0 4 x4) a0 5 x5)) ∧ (∀ b11, z_rv (z_sI (z_sI (z_sI (z_sR (z_sR (z_sR h a0 0 (some x1)) a0 1 (some b5)) a0 2 (some x2)) a0 3 x3) a0 4 x4) a0 5 x5) a0 1 = some b11 → Q (1 : Int32) (z_sI (z_sI (z_sI (z_sR (z_sR (z_sR h a0 0 (some x1)) a0 1 (some b5)) a0 2 (some x2)) a0 3 x3) a0 4 x4) a0 5 x5))))) : KK z_pI 30 [.ref a0, .ref x1, .ref x2, .int x3, .int x4, .int x5] h Q := by
  refine k_K (L := [some (.ref a0), some (.ref x1), some (.ref x2), some (.int x3), some (.int x4), some (.int x5)]) rfl ?_
  refine k_n 2 (pc' := 2) (L' := [some (.ref a0), some (.ref x1), some (.ref x2), some (.int x3), some (.int x4), some (.int x5)]) (S' := [.ref x1, .ref a0]) (h' := h) rfl ?_
  refine k_pR rfl T0 ?_
  refine k_n 2 (pc' := 7) (L' := [some (.ref a0), some (.ref x1), some (.ref x2), some (.int x3), some (.int x4), some (.int x5)]) (S' := [.ref x1, .ref a0]) (h' := (z_sR h a0 0 (some x1))) rfl ?_
  refine k_cA 44 1 "SavedThird$Engine" rfl rfl rfl (A := [.ref x1]) rfl rfl (z_rok_ref (z_tgR T1)) (rest := [.ref a0]) rfl rfl (by decide) ?_
  obtain ⟨v1, k2, tv3, H⟩ := H
  refine k_P k2 ?_
  obtain hb4 | ⟨b5, hb4⟩ := z_opt (v1)
  · have H := H.1 hb4
    refine k_oN hb4 ?_
    refine k_pN rfl (z_tgR T0) ?_
    refine k_n 2 (pc' := 15) (L' := [some (.ref a0), some (.ref x1), some (.ref x2), some (.int x3), some (.int x4), some (.int x5)]) (S' := [.ref x2, .ref a0]) (h' := (z_sR (z_sR h a0 0 (some x1)) a0 1 none)) rfl ?_
    refine k_pR rfl (z_tgR (z_tgR T0)) ?_
    refine k_n 2 (pc' := 20) (L' := [some (.ref a0), some (.ref x1), some (.ref x2), some (.int x3), some (.int x4), some (.int x5)]) (S' := [.int x3, .ref a0]) (h' := (z_sR (z_sR (z_sR h a0 0 (some x1)) a0 1 none) a0 2 (some x2))) rfl ?_
    refine k_pI rfl (z_tgR (z_tgR (z_tgR T0))) ?_
    refine k_n 2 (pc' := 26) (L' := [some (.ref a0), some (.ref x1), some (.ref x2), some (.int x3), some (.int x4), some (.int x5)]) (S' := [.int x4, .ref a0]) (h' := (z_sI (z_sR (z_sR (z_sR h a0 0 (some x1)) a0 1 none) a0 2 (some x2)) a0 3 x3)) rfl ?_
    refine k_pI rfl (z_tgI (z_tgR (z_tgR (z_tgR T0)))) ?_
    refine k_n 2 (pc' := 32) (L' := [some (.ref a0), some (.ref x1), some (.ref x2), some (.int x3), some (.int x4), some (.int x5)]) (S' := [.int x5, .ref a0]) (h' := (z_sI (z_sI (z_sR (z_sR (z_sR h a0 0 (some x1)) a0 1 none) a0 2 (some x2)) a0 3 x3) a0 4 x4)) rfl ?_
    refine k_pI rfl (z_tgI (z_tgI (z_tgR (z_tgR (z_tgR T0))))) ?_
    refine k_n 1 (pc' := 36) (L' := [some (.ref a0), some (.ref x1), some (.ref x2), some (.int x3), some (.int x4), some (.int x5)]) (S' := [.ref a0]) (h' := (z_sI (z_sI (z_sI (z_sR (z_sR (z_sR h a0 0 (some x1)) a0 1 none) a0 2 (some x2)) a0 3 x3) a0 4 x4) a0 5 x5)) rfl ?_
    obtain hb7 | ⟨b8, hb7⟩ := z_opt (z_rv (z_sI (z_sI (z_sI (z_sR (z_sR (z_sR h a0 0 (some x1)) a0 1 none) a0 2 (some x2)) a0 3 x3) a0 4 x4) a0 5 x5) a0 1)
    · have H := H.1 hb7
      refine k_gN rfl (z_tgI (z_tgI (z_tgI (z_tgR (z_tgR (z_tgR T0)))))) hb7 ?_
      refine k_n 2 (pc' := 47) (L' := [some (.ref a0), some (.ref x1), some (.ref x2), some (.int x3), some (.int x4), some (.int x5)]) (S' := [.int (0 : Int32)]) (h' := (z_sI (z_sI (z_sI (z_sR (z_sR (z_sR h a0 0 (some x1)) a0 1 none) a0 2 (some x2)) a0 3 x3) a0 4 x4) a0 5 x5)) rfl ?_
      exact k_r rfl rfl rfl H
    · have H := H.2 b8 hb7
      have t9 : z_tg (z_sI (z_sI (z_sI (z_sR (z_sR (z_sR h a0 0 (some x1)) a0 1 none) a0 2 (some x2)) a0 3 x3) a0 4 x4) a0 5 x5) b8 = 3 := (CW.tyOf (t := 2) (t' := 3) (CW.sI (CW.sI (CW.sI (CW.sR (CW.sR (r := none) (CW.sR W T0 (j := 0) rfl (fun _ q_ => by cases q_; exact T1) (by decide)) (z_tgR T0) (j := 1) rfl (fun _ q_ => nomatch q_) (by decide)) (z_tgR (z_tgR T0)) (j := 2) rfl (fun _ q_ => by cases q_; exact (z_tgR (z_tgR T2))) (by decide))))) (z_tgI (z_tgI (z_tgI (z_tgR (z_tgR (z_tgR T0)))))) hb7 (by decide) rfl)
      refine k_gS rfl (z_tgI (z_tgI (z_tgI (z_tgR (z_tgR (z_tgR T0)))))) hb7 ?_
      refine k_n 3 (pc' := 47) (L' := [some (.ref a0), some (.ref x1), some (.ref x2), some (.int x3), some (.int x4), some (.int x5)]) (S' := [.int (1 : Int32)]) (h' := (z_sI (z_sI (z_sI (z_sR (z_sR (z_sR h a0 0 (some x1)) a0 1 none) a0 2 (some x2)) a0 3 x3) a0 4 x4) a0 5 x5)) rfl ?_
      exact k_r rfl rfl rfl H
  · have H := H.2 b5 hb4
    have t6 : z_tg (z_sR h a0 0 (some x1)) b5 = 3 := tv3 _ hb4
    refine k_oS hb4 ?_
    refine k_pR rfl (z_tgR T0) ?_
    refine k_n 2 (pc' := 15) (L' := [some (.ref a0), some (.ref x1), some (.ref x2), some (.int x3), some (.int x4), some (.int x5)]) (S' := [.ref x2, .ref a0]) (h' := (z_sR (z_sR h a0 0 (some x1)) a0 1 (some b5))) rfl ?_
    refine k_pR rfl (z_tgR (z_tgR T0)) ?_
    refine k_n 2 (pc' := 20) (L' := [some (.ref a0), some (.ref x1), some (.ref x2), some (.int x3), some (.int x4), some (.int x5)]) (S' := [.int x3, .ref a0]) (h' := (z_sR (z_sR (z_sR h a0 0 (some x1)) a0 1 (some b5)) a0 2 (some x2))) rfl ?_
    refine k_pI rfl (z_tgR (z_tgR (z_tgR T0))) ?_
    refine k_n 2 (pc' := 26) (L' := [some (.ref a0), some (.ref x1), some (.ref x2), some (.int x3), some (.int x4), some (.int x5)]) (S' := [.int x4, .ref a0]) (h' := (z_sI (z_sR (z_sR (z_sR h a0 0 (some x1)) a0 1 (some b5)) a0 2 (some x2)) a0 3 x3)) rfl ?_
    refine k_pI rfl (z_tgI (z_tgR (z_tgR (z_tgR T0)))) ?_
    refine k_n 2 (pc' := 32) (L' := [some (.ref a0), some (.ref x1), some (.ref x2), some (.int x3), some (.int x4), some (.int x5)]) (S' := [.int x5, .ref a0]) (h' := (z_sI (z_sI (z_sR (z_sR (z_sR h a0 0 (some x1)) a0 1 (some b5)) a0 2 (some x2)) a0 3 x3) a0 4 x4)) rfl ?_
    refine k_pI rfl (z_tgI (z_tgI (z_tgR (z_tgR (z_tgR T0))))) ?_
    refine k_n 1 (pc' := 36) (L' := [some (.ref a0), some (.ref x1), some (.ref x2), some (.int x3), some (.int x4), some (.int x5)]) (S' := [.ref a0]) (h' := (z_sI (z_sI (z_sI (z_sR (z_sR (z_sR h a0 0 (some x1)) a0 1 (some b5)) a0 2 (some x2)) a0 3 x3) a0 4 x4) a0 5 x5)) rfl ?_
    obtain hb10 | ⟨b11, hb10⟩ := z_opt (z_rv (z_sI (z_sI (z_sI (z_sR (z_sR (z_sR h a0 0 (some x1)) a0 1 (some b5)) a0 2 (some x2)) a0 3 x3) a0 4 x4) a0 5 x5) a0 1)
    · have H := H.1 hb10
      refine k_gN rfl (z_tgI (z_tgI (z_tgI (z_tgR (z_tgR (z_tgR T0)))))) hb10 ?_
      refine k_n 2 (pc' := 47) (L' := [some (.ref a0), some (.ref x1), some (.ref x2), some (.int x3), some (.int x4), some (.int x5)]) (S' := [.int (0 : Int32)]) (h' := (z_sI (z_sI (z_sI (z_sR (z_sR (z_sR h a0 0 (some x1)) a0 1 (some b5)) a0 2 (some x2)) a0 3 x3) a0 4 x4) a0 5 x5)) rfl ?_
      exact k_r rfl rfl rfl H
    · have H := H.2 b11 hb10
      have t12 : z_tg (z_sI (z_sI (z_sI (z_sR (z_sR (z_sR h a0 0 (some x1)) a0 1 (some b5)) a0 2 (some x2)) a0 3 x3) a0 4 x4) a0 5 x5) b11 = 3 := (CW.tyOf (t := 2) (t' := 3) (CW.sI (CW.sI (CW.sI (CW.sR (CW.sR (CW.sR W T0 (j := 0) rfl (fun _ q_ => by cases q_; exact T1) (by decide)) (z_tgR T0) (j := 1) rfl (fun _ q_ => by cases q_; exact t6) (by decide)) (z_tgR (z_tgR T0)) (j := 2) rfl (fun _ q_ => by cases q_; exact (z_tgR (z_tgR T2))) (by decide))))) (z_tgI (z_tgI (z_tgI (z_tgR (z_tgR (z_tgR T0)))))) hb10 (by decide) rfl)
      refine k_gS rfl (z_tgI (z_tgI (z_tgI (z_tgR (z_tgR (z_tgR T0)))))) hb10 ?_
      refine k_n 3 (pc' := 47) (L' := [some (.ref a0), some (.ref x1), some (.ref x2), some (.int x3), some (.int x4), some (.int x5)]) (S' := [.int (1 : Int32)]) (h' := (z_sI (z_sI (z_sI (z_sR (z_sR (z_sR h a0 0 (some x1)) a0 1 (some b5)) a0 2 (some x2)) a0 3 x3) a0 4 x4) a0 5 x5)) rfl ?_
      exact k_r rfl rfl rfl H
set_option maxRecDepth 20000 in
theorem X_33 (a0 : Nat) (x1 : Int32) (x2 : Int32) (x3 : Int32) (h : zH) (W : CW h) (T0 : z_tg h a0 = 2) {Q : Int64 → zH → Prop} (H : KG z_pL 33 6 [some (.ref a0), some (.int x1), some (.int x2), some (.int x3), some (.long (0 : Int64)), none, some (.int (0 : Int32)), none, none, none, none] [] h Q) : KK z_pL 33 [.ref a0, .int x1, .int x2, .int x3] h Q := by
  refine k_K (L := [some (.ref a0), some (.int x1), some (.int x2), some (.int x3), none, none, none, none, none, none, none]) rfl ?_
  refine k_n 4 (pc' := 6) (L' := [some (.ref a0), some (.int x1), some (.int x2), some (.int x3), some (.long (0 : Int64)), none, some (.int (0 : Int32)), none, none, none, none]) (S' := []) (h' := h) rfl ?_
  exact H
set_option maxRecDepth 20000 in
theorem X_33_6 (a0 : Nat) (y1 : Int32) (y2 : Int32) (y3 : Int32) (y4 : Int64) (y6 : Int32) (u7 : Option Value) (u8 : Option Value) (u9 : Option Value) (u10 : Option Value) (h : zH) (W : CW h) (Ta0 : z_tg h a0 = 2) {Q : Int64 → zH → Prop} (H : if (z_iv h a0 4) ≤ y6 then (Q y4 h) else ((z_rv h a0 0 = none → False) ∧ (∀ b2, z_rv h a0 0 = some b2 → ∃ v4 : Int32, KV z_pI 45 [.ref b2, .int ((z_iv h a0 3) + y6)] h v4 ∧ (if y3 ≤ y6 then (∀ m9 : Int64, m9 = (if ¬ (v4 ≤ 0) then (0 : Int64) else (z_iv h a0 5).toInt64) → KG z_pL 33 6 [some (.ref a0), some (.int y1), some (.int y2), some (.int y3), some (.long (y4 + m9)), none, some (.int (y6 + (1 : Int32))), some (.int v4), some (.int (z_bt (¬ (v4 ≤ 0)))), u9, u10] [] h Q) else ((z_rv h a0 1 = none → False) ∧ (∀ b12, z_rv h a0 1 = some b12 → ∃ v14 : Int32, KV z_pI 39 [.ref b12, .int v4, .int (z_iv h b2 5)] h v14 ∧ (∃ v18 : Int32, KV z_pI 40 [.ref b12, .int (if (z_iv h b12 3) < v14 then (z_iv h b12 3) else v14), .int y1, .int (y2 + y6)] h v18 ∧ (∀ m21 : Int64, m21 = (if ¬ (v14 ≤ (z_iv h b12 3)) then (0 : Int64) else (z_iv h a0 5).toInt64) → KG z_pL 33 6 [some (.ref a0), some (.int y1), some (.int y2), some (.int y3), some (.long ((y4 - (v18.toInt64 * (z_iv h b2 6).toInt64)) + m21)), none, some (.int (y6 + (1 : Int32))), some (.int v4), some (.int (z_bt (¬ (v14 ≤ (z_iv h b12 3))))), some (.int v14), some (.int (if (z_iv h b12 3) < v14 then (z_iv h b12 3) else v14))] [] h Q)))))))) : KG z_pL 33 6 [some (.ref a0), some (.int y1), some (.int y2), some (.int y3), some (.long y4), none, some (.int y6), u7, u8, u9, u10] [] h Q := by
  refine k_n 2 (pc' := 9) (L' := [some (.ref a0), some (.int y1), some (.int y2), some (.int y3), some (.long y4), none, some (.int y6), u7, u8, u9, u10]) (S' := [.ref a0, .int y6]) (h' := h) rfl ?_
  refine k_gI rfl rfl Ta0 ?_
  refine k_b (g := (z_iv h a0 4) ≤ y6) (pc' := 154) (L' := [some (.ref a0), some (.int y1), some (.int y2), some (.int y3), some (.long y4), none, some (.int y6), u7, u8, u9, u10]) (S' := []) (pc2 := 15) (L2 := [some (.ref a0), some (.int y1), some (.int y2), some (.int y3), some (.long y4), none, some (.int y6), u7, u8, u9, u10]) (S2 := []) (h' := h) (h2 := h) rfl rfl (fun hc => ?_) (fun hc => ?_)
  · have hc := hc
    rw [if_pos hc] at H
    refine k_n 1 (pc' := 156) (L' := [some (.ref a0), some (.int y1), some (.int y2), some (.int y3), some (.long y4), none, some (.int y6), u7, u8, u9, u10]) (S' := [.long y4]) (h' := h) rfl ?_
    exact k_r rfl rfl rfl H
  · have hc := hc
    rw [if_neg hc] at H
    refine k_n 1 (pc' := 16) (L' := [some (.ref a0), some (.int y1), some (.int y2), some (.int y3), some (.long y4), none, some (.int y6), u7, u8, u9, u10]) (S' := [.ref a0]) (h' := h) rfl ?_
    obtain hb1 | ⟨b2, hb1⟩ := z_opt (z_rv h a0 0)
    · have H := H.1 hb1
      refine k_gN rfl Ta0 hb1 ?_
      refine k_n 1 (pc' := 20) (L' := [some (.ref a0), some (.int y1), some (.int y2), some (.int y3), some (.long y4), none, some (.int y6), u7, u8, u9, u10]) (S' := [.ref a0, .null]) (h' := h) rfl ?_
      refine k_gI rfl rfl Ta0 ?_
      refine k_n 2 (pc' := 26) (L' := [some (.ref a0), some (.int y1), some (.int y2), some (.int y3), some (.long y4), none, some (.int y6), u7, u8, u9, u10]) (S' := [.int ((z_iv h a0 3) + y6), .null]) (h' := h) rfl ?_
      exact H.elim
    · have H := H.2 b2 hb1
      have t3 : z_tg h b2 = 4 := (CW.tyOf (t := 2) (t' := 4) W Ta0 hb1 (by decide) rfl)
      refine k_gS rfl Ta0 hb1 ?_
      refine k_n 1 (pc' := 20) (L' := [some (.ref a0), some (.int y1), some (.int y2), some (.int y3), some (.long y4), none, some (.int y6), u7, u8, u9, u10]) (S' := [.ref a0, .ref b2]) (h' := h) rfl ?_
      refine k_gI rfl rfl Ta0 ?_
      refine k_n 2 (pc' := 26) (L' := [some (.ref a0), some (.int y1), some (.int y2), some (.int y3), some (.long y4), none, some (.int y6), u7, u8, u9, u10]) (S' := [.int ((z_iv h a0 3) + y6), .ref b2]) (h' := h) rfl ?_
      refine k_cI 45 2 rfl rfl rfl (A := [.ref b2, .int ((z_iv h a0 3) + y6)]) rfl rfl (z_rok_ref t3) (rest := []) rfl (z_tyI rfl rfl) ?_
      obtain ⟨v4, k5, H⟩ := H
      refine k_P k5 ?_
      refine k_n 2 (pc' := 33) (L' := [some (.ref a0), some (.int y1), some (.int y2), some (.int y3), some (.long y4), none, some (.int y6), some (.int v4), u8, u9, u10]) (S' := [.int v4]) (h' := h) rfl ?_
      have hj7 : KG z_pL 33 41 [some (.ref a0), some (.int y1), some (.int y2), some (.int y3), some (.long y4), none, some (.int y6), some (.int v4), u8, u9, u10] [.int (z_bt (¬ (v4 ≤ 0)))] h Q := by
        refine k_n 3 (pc' := 46) (L' := [some (.ref a0), some (.int y1), some (.int y2), some (.int y3), some (.long y4), none, some (.int y6), some (.int v4), some (.int (z_bt (¬ (v4 ≤ 0)))), u9, u10]) (S' := [.int y3, .int y6]) (h' := h) rfl ?_
        refine k_b (g := y3 ≤ y6) (pc' := 129) (L' := [some (.ref a0), some (.int y1), some (.int y2), some (.int y3), some (.long y4), none, some (.int y6), some (.int v4), some (.int (z_bt (¬ (v4 ≤ 0)))), u9, u10]) (S' := []) (pc2 := 49) (L2 := [some (.ref a0), some (.int y1), some (.int y2), some (.int y3), some (.long y4), none, some (.int y6), some (.int v4), some (.int (z_bt (¬ (v4 ≤ 0)))), u9, u10]) (S2 := []) (h' := h) (h2 := h) rfl rfl (fun hc => ?_) (fun hc => ?_)
        · have hc := hc
          rw [if_pos hc] at H
          refine k_n 2 (pc' := 133) (L' := [some (.ref a0), some (.int y1), some (.int y2), some (.int y3), some (.long y4), none, some (.int y6), some (.int v4), some (.int (z_bt (¬ (v4 ≤ 0)))), u9, u10]) (S' := [.int (z_bt (¬ (v4 ≤ 0))), .long y4]) (h' := h) rfl ?_
          obtain ⟨m9, em9⟩ : ∃ m : Int64, m = (if ¬ (v4 ≤ 0) then (0 : Int64) else (z_iv h a0 5).toInt64) := ⟨_, rfl⟩
          have H := H m9 em9
          have hj10 : KG z_pL 33 145 [some (.ref a0), some (.int y1), some (.int y2), some (.int y3), some (.long y4), none, some (.int y6), some (.int v4), some (.int (z_bt (¬ (v4 ≤ 0)))), u9, u10] [.long m9, .long y4] h Q := by
            refine k_n 4 (pc' := 6) (L' := [some (.ref a0), some (.int y1), some (.int y2), some (.int y3), some (.long (y4 + m9)), none, some (.int (y6 + (1 : Int32))), some (.int v4), some (.int (z_bt (¬ (v4 ≤ 0)))), u9, u10]) (S' := []) (h' := h) rfl ?_
            exact H
          refine k_b (g := z_bt (¬ (v4 ≤ 0)) = 0) (pc' := 140) (L' := [some (.ref a0), some (.int y1), some (.int y2), some (.int y3), some (.long y4), none, some (.int y6), some (.int v4), some (.int (z_bt (¬ (v4 ≤ 0)))), u9, u10]) (S' := [.long y4]) (pc2 := 136) (L2 := [some (.ref a0), some (.int y1), some (.int y2), some (.int y3), some (.long y4), none, some (.int y6), some (.int v4), some (.int (z_bt (¬ (v4 ≤ 0)))), u9, u10]) (S2 := [.long y4]) (h' := h) (h2 := h) rfl rfl (fun hc => ?_) (fun hc => ?_)
          · have c8 := z_bt_0.mp hc
            refine k_n 1 (pc' := 141) (L' := [some (.ref a0), some (.int y1), some (.int y2), some (.int y3), some (.long y4), none, some (.int y6), some (.int v4), some (.int (z_bt (¬ (v4 ≤ 0)))), u9, u10]) (S' := [.ref a0, .long y4]) (h' := h) rfl ?_
            refine k_gI rfl rfl Ta0 ?_
            refine k_n 1 (pc' := 145) (L' := [some (.ref a0), some (.int y1), some (.int y2), some (.int y3), some (.long y4), none, some (.int y6), some (.int v4), some (.int (z_bt (¬ (v4 ≤ 0)))), u9, u10]) (S' := [.long ((z_iv h a0 5).toInt64), .long y4]) (h' := h) rfl ?_
            rw [(em9.trans (by rw [if_neg c8]) : m9 = (z_iv h a0 5).toInt64)] at hj10
            exact hj10
          · have c8 := Decidable.not_not.mp (fun q => hc (z_bt_0.mpr q))
            refine k_n 2 (pc' := 145) (L' := [some (.ref a0), some (.int y1), some (.int y2), some (.int y3), some (.long y4), none, some (.int y6), some (.int v4), some (.int (z_bt (¬ (v4 ≤ 0)))), u9, u10]) (S' := [.long (0 : Int64), .long y4]) (h' := h) rfl ?_
            rw [(em9.trans (by rw [if_pos c8]) : m9 = (0 : Int64))] at hj10
            exact hj10
        · have hc := hc
          rw [if_neg hc] at H
          refine k_n 1 (pc' := 50) (L' := [some (.ref a0), some (.int y1), some (.int y2), some (.int y3), some (.long y4), none, some (.int y6), some (.int v4), some (.int (z_bt (¬ (v4 ≤ 0)))), u9, u10]) (S' := [.ref a0]) (h' := h) rfl ?_
          obtain hb11 | ⟨b12, hb11⟩ := z_opt (z_rv h a0 1)
          · have H := H.1 hb11
            refine k_gN rfl Ta0 hb11 ?_
            refine k_n 2 (pc' := 56) (L' := [some (.ref a0), some (.int y1), some (.int y2), some (.int y3), some (.long y4), none, some (.int y6), some (.int v4), some (.int (z_bt (¬ (v4 ≤ 0)))), u9, u10]) (S' := [.ref a0, .int v4, .null]) (h' := h) rfl ?_
            refine k_gS rfl Ta0 hb1 ?_
            refine k_gI rfl rfl t3 ?_
            exact H.elim
          · have H := H.2 b12 hb11
            have t13 : z_tg h b12 = 3 := (CW.tyOf (t := 2) (t' := 3) W Ta0 hb11 (by decide) rfl)
            refine k_gS rfl Ta0 hb11 ?_
            refine k_n 2 (pc' := 56) (L' := [some (.ref a0), some (.int y1), some (.int y2), some (.int y3), some (.long y4), none, some (.int y6), some (.int v4), some (.int (z_bt (¬ (v4 ≤ 0)))), u9, u10]) (S' := [.ref a0, .int v4, .ref b12]) (h' := h) rfl ?_
            refine k_gS rfl Ta0 hb1 ?_
            refine k_gI rfl rfl t3 ?_
            refine k_cI 39 3 rfl rfl rfl (A := [.ref b12, .int v4, .int (z_iv h b2 5)]) rfl rfl (z_rok_ref t13) (rest := []) rfl (z_tyI rfl rfl) ?_
            obtain ⟨v14, k15, H⟩ := H
            refine k_P k15 ?_
            refine k_n 3 (pc' := 70) (L' := [some (.ref a0), some (.int y1), some (.int y2), some (.int y3), some (.long y4), none, some (.int y6), some (.int v4), some (.int (z_bt (¬ (v4 ≤ 0)))), some (.int v14), u10]) (S' := [.ref a0, .int v14]) (h' := h) rfl ?_
            refine k_gS rfl Ta0 hb11 ?_
            refine k_gI rfl rfl t13 ?_
            refine k_cI 14 2 rfl rfl rfl (A := [.int v14, .int (z_iv h b12 3)]) rfl rfl rfl (rest := []) rfl (z_tyI rfl rfl) ?_
            refine C_14 v14 (z_iv h b12 3) h    ?_
            refine k_n 3 (pc' := 84) (L' := [some (.ref a0), some (.int y1), some (.int y2), some (.int y3), some (.long y4), none, some (.int y6), some (.int v4), some (.int (z_bt (¬ (v4 ≤ 0)))), some (.int v14), some (.int (if (z_iv h b12 3) < v14 then (z_iv h b12 3) else v14))]) (S' := [.ref a0, .int v14]) (h' := h) rfl ?_
            refine k_gS rfl Ta0 hb11 ?_
            refine k_gI rfl rfl t13 ?_
            have hj17 : KG z_pL 33 98 [some (.ref a0), some (.int y1), some (.int y2), some (.int y3), some (.long y4), none, some (.int y6), some (.int v4), some (.int (z_bt (¬ (v4 ≤ 0)))), some (.int v14), some (.int (if (z_iv h b12 3) < v14 then (z_iv h b12 3) else v14))] [.int (z_bt (¬ (v14 ≤ (z_iv h b12 3))))] h Q := by
              refine k_n 3 (pc' := 103) (L' := [some (.ref a0), some (.int y1), some (.int y2), some (.int y3), some (.long y4), none, some (.int y6), some (.int v4), some (.int (z_bt (¬ (v14 ≤ (z_iv h b12 3))))), some (.int v14), some (.int (if (z_iv h b12 3) < v14 then (z_iv h b12 3) else v14))]) (S' := [.ref a0, .long y4]) (h' := h) rfl ?_
              refine k_gS rfl Ta0 hb11 ?_
              refine k_n 5 (pc' := 113) (L' := [some (.ref a0), some (.int y1), some (.int y2), some (.int y3), some (.long y4), none, some (.int y6), some (.int v4), some (.int (z_bt (¬ (v14 ≤ (z_iv h b12 3))))), some (.int v14), some (.int (if (z_iv h b12 3) < v14 then (z_iv h b12 3) else v14))]) (S' := [.int (y2 + y6), .int y1, .int (if (z_iv h b12 3) < v14 then (z_iv h b12 3) else v14), .ref b12, .long y4]) (h' := h) rfl ?_
              refine k_cI 40 4 rfl rfl rfl (A := [.ref b12, .int (if (z_iv h b12 3) < v14 then (z_iv h b12 3) else v14), .int y1, .int (y2 + y6)]) rfl rfl (z_rok_ref t13) (rest := [.long y4]) rfl (z_tyI rfl rfl) ?_
              obtain ⟨v18, k19, H⟩ := H
              refine k_P k19 ?_
              refine k_n 2 (pc' := 118) (L' := [some (.ref a0), some (.int y1), some (.int y2), some (.int y3), some (.long y4), none, some (.int y6), some (.int v4), some (.int (z_bt (¬ (v14 ≤ (z_iv h b12 3))))), some (.int v14), some (.int (if (z_iv h b12 3) < v14 then (z_iv h b12 3) else v14))]) (S' := [.ref a0, .long v18.toInt64, .long y4]) (h' := h) rfl ?_
              refine k_gS rfl Ta0 hb1 ?_
              refine k_gI rfl rfl t3 ?_
              refine k_n 6 (pc' := 133) (L' := [some (.ref a0), some (.int y1), some (.int y2), some (.int y3), some (.long (y4 - (v18.toInt64 * (z_iv h b2 6).toInt64))), none, some (.int y6), some (.int v4), some (.int (z_bt (¬ (v14 ≤ (z_iv h b12 3))))), some (.int v14), some (.int (if (z_iv h b12 3) < v14 then (z_iv h b12 3) else v14))]) (S' := [.int (z_bt (¬ (v14 ≤ (z_iv h b12 3)))), .long (y4 - (v18.toInt64 * (z_iv h b2 6).toInt64))]) (h' := h) rfl ?_
              obtain ⟨m21, em21⟩ : ∃ m : Int64, m = (if ¬ (v14 ≤ (z_iv h b12 3)) then (0 : Int64) else (z_iv h a0 5).toInt64) := ⟨_, rfl⟩
              have H := H m21 em21
              have hj22 : KG z_pL 33 145 [some (.ref a0), some (.int y1), some (.int y2), some (.int y3), some (.long (y4 - (v18.toInt64 * (z_iv h b2 6).toInt64))), none, some (.int y6), some (.int v4), some (.int (z_bt (¬ (v14 ≤ (z_iv h b12 3))))), some (.int v14), some (.int (if (z_iv h b12 3) < v14 then (z_iv h b12 3) else v14))] [.long m21, .long (y4 - (v18.toInt64 * (z_iv h b2 6).toInt64))] h Q := by
                refine k_n 4 (pc' := 6) (L' := [some (.ref a0), some (.int y1), some (.int y2), some (.int y3), some (.long ((y4 - (v18.toInt64 * (z_iv h b2 6).toInt64)) + m21)), none, some (.int (y6 + (1 : Int32))), some (.int v4), some (.int (z_bt (¬ (v14 ≤ (z_iv h b12 3))))), some (.int v14), some (.int (if (z_iv h b12 3) < v14 then (z_iv h b12 3) else v14))]) (S' := []) (h' := h) rfl ?_
                exact H
              refine k_b (g := z_bt (¬ (v14 ≤ (z_iv h b12 3))) = 0) (pc' := 140) (L' := [some (.ref a0), some (.int y1), some (.int y2), some (.int y3), some (.long (y4 - (v18.toInt64 * (z_iv h b2 6).toInt64))), none, some (.int y6), some (.int v4), some (.int (z_bt (¬ (v14 ≤ (z_iv h b12 3))))), some (.int v14), some (.int (if (z_iv h b12 3) < v14 then (z_iv h b12 3) else v14))]) (S' := [.long (y4 - (v18.toInt64 * (z_iv h b2 6).toInt64))]) (pc2 := 136) (L2 := [some (.ref a0), some (.int y1), some (.int y2), some (.int y3), some (.long (y4 - (v18.toInt64 * (z_iv h b2 6).toInt64))), none, some (.int y6), some (.int v4), some (.int (z_bt (¬ (v14 ≤ (z_iv h b12 3))))), some (.int v14), some (.int (if (z_iv h b12 3) < v14 then (z_iv h b12 3) else v14))]) (S2 := [.long (y4 - (v18.toInt64 * (z_iv h b2 6).toInt64))]) (h' := h) (h2 := h) rfl rfl (fun hc => ?_) (fun hc => ?_)
              · have c20 := z_bt_0.mp hc
                refine k_n 1 (pc' := 141) (L' := [some (.ref a0), some (.int y1), some (.int y2), some (.int y3), some (.long (y4 - (v18.toInt64 * (z_iv h b2 6).toInt64))), none, some (.int y6), some (.int v4), some (.int (z_bt (¬ (v14 ≤ (z_iv h b12 3))))), some (.int v14), some (.int (if (z_iv h b12 3) < v14 then (z_iv h b12 3) else v14))]) (S' := [.ref a0, .long (y4 - (v18.toInt64 * (z_iv h b2 6).toInt64))]) (h' := h) rfl ?_
                refine k_gI rfl rfl Ta0 ?_
                refine k_n 1 (pc' := 145) (L' := [some (.ref a0), some (.int y1), some (.int y2), some (.int y3), some (.long (y4 - (v18.toInt64 * (z_iv h b2 6).toInt64))), none, some (.int y6), some (.int v4), some (.int (z_bt (¬ (v14 ≤ (z_iv h b12 3))))), some (.int v14), some (.int (if (z_iv h b12 3) < v14 then (z_iv h b12 3) else v14))]) (S' := [.long ((z_iv h a0 5).toInt64), .long (y4 - (v18.toInt64 * (z_iv h b2 6).toInt64))]) (h' := h) rfl ?_
                rw [(em21.trans (by rw [if_neg c20]) : m21 = (z_iv h a0 5).toInt64)] at hj22
                exact hj22
              · have c20 := Decidable.not_not.mp (fun q => hc (z_bt_0.mpr q))
                refine k_n 2 (pc' := 145) (L' := [some (.ref a0), some (.int y1), some (.int y2), some (.int y3), some (.long (y4 - (v18.toInt64 * (z_iv h b2 6).toInt64))), none, some (.int y6), some (.int v4), some (.int (z_bt (¬ (v14 ≤ (z_iv h b12 3))))), some (.int v14), some (.int (if (z_iv h b12 3) < v14 then (z_iv h b12 3) else v14))]) (S' := [.long (0 : Int64), .long (y4 - (v18.toInt64 * (z_iv h b2 6).toInt64))]) (h' := h) rfl ?_
                rw [(em21.trans (by rw [if_pos c20]) : m21 = (0 : Int64))] at hj22
                exact hj22
            refine k_b (g := v14 ≤ (z_iv h b12 3)) (pc' := 97) (L' := [some (.ref a0), some (.int y1), some (.int y2), some (.int y3), some (.long y4), none, some (.int y6), some (.int v4), some (.int (z_bt (¬ (v4 ≤ 0)))), some (.int v14), some (.int (if (z_iv h b12 3) < v14 then (z_iv h b12 3) else v14))]) (S' := []) (pc2 := 93) (L2 := [some (.ref a0), some (.int y1), some (.int y2), some (.int y3), some (.long y4), none, some (.int y6), some (.int v4), some (.int (z_bt (¬ (v4 ≤ 0)))), some (.int v14), some (.int (if (z_iv h b12 3) < v14 then (z_iv h b12 3) else v14))]) (S2 := []) (h' := h) (h2 := h) rfl rfl (fun hc => ?_) (fun hc => ?_)
            · have c16 := hc
              refine k_n 1 (pc' := 98) (L' := [some (.ref a0), some (.int y1), some (.int y2), some (.int y3), some (.long y4), none, some (.int y6), some (.int v4), some (.int (z_bt (¬ (v4 ≤ 0)))), some (.int v14), some (.int (if (z_iv h b12 3) < v14 then (z_iv h b12 3) else v14))]) (S' := [.int (0 : Int32)]) (h' := h) rfl ?_
              rw [show z_bt (¬ (v14 ≤ (z_iv h b12 3))) = 0 from z_bt_0.mpr ((fun q => q c16))] at hj17
              exact hj17
            · have c16 := hc
              refine k_n 2 (pc' := 98) (L' := [some (.ref a0), some (.int y1), some (.int y2), some (.int y3), some (.long y4), none, some (.int y6), some (.int v4), some (.int (z_bt (¬ (v4 ≤ 0)))), some (.int v14), some (.int (if (z_iv h b12 3) < v14 then (z_iv h b12 3) else v14))]) (S' := [.int (1 : Int32)]) (h' := h) rfl ?_
              rw [show z_bt (¬ (v14 ≤ (z_iv h b12 3))) = 1 from z_bt_1.mpr (c16)] at hj17
              exact hj17
      refine k_b (g := v4 ≤ 0) (pc' := 40) (L' := [some (.ref a0), some (.int y1), some (.int y2), some (.int y3), some (.long y4), none, some (.int y6), some (.int v4), u8, u9, u10]) (S' := []) (pc2 := 36) (L2 := [some (.ref a0), some (.int y1), some (.int y2), some (.int y3), some (.long y4), none, some (.int y6), some (.int v4), u8, u9, u10]) (S2 := []) (h' := h) (h2 := h) rfl rfl (fun hc => ?_) (fun hc => ?_)
      · have c6 := hc
        refine k_n 1 (pc' := 41) (L' := [some (.ref a0), some (.int y1), some (.int y2), some (.int y3), some (.long y4), none, some (.int y6), some (.int v4), u8, u9, u10]) (S' := [.int (0 : Int32)]) (h' := h) rfl ?_
        rw [show z_bt (¬ (v4 ≤ 0)) = 0 from z_bt_0.mpr ((fun q => q c6))] at hj7
        exact hj7
      · have c6 := hc
        refine k_n 2 (pc' := 41) (L' := [some (.ref a0), some (.int y1), some (.int y2), some (.int y3), some (.long y4), none, some (.int y6), some (.int v4), u8, u9, u10]) (S' := [.int (1 : Int32)]) (h' := h) rfl ?_
        rw [show z_bt (¬ (v4 ≤ 0)) = 1 from z_bt_1.mpr (c6)] at hj7
        exact hj7
set_option maxRecDepth 20000 in
theorem X_35 (a0 : Nat) (x1 : Int32) (h : zH) (W : CW h) (T0 : z_tg h a0 = 2) {Q : Int64 → zH → Prop} (H : KG z_pL 35 5 [some (.ref a0), some (.int x1), some (.long (0 : Int64)), none, some (.int (0 : Int32)), none, none] [] h Q) : KK z_pL 35 [.ref a0, .int x1] h Q := by
  refine k_K (L := [some (.ref a0), some (.int x1), none, none, none, none, none]) rfl ?_
  refine k_n 4 (pc' := 5) (L' := [some (.ref a0), some (.int x1), some (.long (0 : Int64)), none, some (.int (0 : Int32)), none, none]) (S' := []) (h' := h) rfl ?_
  exact H
set_option maxRecDepth 20000 in
theorem X_35_5 (a0 : Nat) (y1 : Int32) (y2 : Int64) (y4 : Int32) (u5 : Option Value) (u6 : Option Value) (h : zH) (W : CW h) (Ta0 : z_tg h a0 = 2) {Q : Int64 → zH → Prop} (H : if (z_iv h a0 4) ≤ y4 then (Q y2 h) else ((z_rv h a0 1 = none → (z_rv h a0 0 = none → False) ∧ (∀ b5, z_rv h a0 0 = some b5 → ∃ v7 : Int32, KV z_pI 45 [.ref b5, .int ((z_iv h a0 3) + y4)] h v7 ∧ False)) ∧ (∀ b2, z_rv h a0 1 = some b2 → (z_rv h a0 0 = none → False) ∧ (∀ b10, z_rv h a0 0 = some b10 → ∃ v12 : Int32, KV z_pI 45 [.ref b10, .int ((z_iv h a0 3) + y4)] h v12 ∧ (∃ v14 : Int32, KV z_pI 39 [.ref b2, .int v12, .int (z_iv h b10 5)] h v14 ∧ (∃ v16 : Int32, KV z_pI 40 [.ref b2, .int (if (z_iv h b2 3) < v14 then (z_iv h b2 3) else v14), .int (z_iv h b2 2), .int ((z_iv h b2 7) + y4)] h v16 ∧ ((z_rv h b10 9 = none → False) ∧ (∀ b19, z_rv h b10 9 = some b19 → ∃ v21 : Int32, KV z_pI 97 [.ref b19, .int (if (z_iv h b2 3) < v14 then (z_iv h b2 3) else v14), .int (z_iv h b2 1), .int v16, .int (z_iv h b10 6), .int y1] h v21 ∧ KG z_pL 35 5 [some (.ref a0), some (.int y1), some (.long (y2 + v21.toInt64)), none, some (.int (y4 + (1 : Int32))), some (.int (if (z_iv h b2 3) < v14 then (z_iv h b2 3) else v14)), some (.int v16)] [] h Q)))))))) : KG z_pL 35 5 [some (.ref a0), some (.int y1), some (.long y2), none, some (.int y4), u5, u6] [] h Q := by
  refine k_n 2 (pc' := 8) (L' := [some (.ref a0), some (.int y1), some (.long y2), none, some (.int y4), u5, u6]) (S' := [.ref a0, .int y4]) (h' := h) rfl ?_
  refine k_gI rfl rfl Ta0 ?_
  refine k_b (g := (z_iv h a0 4) ≤ y4) (pc' := 121) (L' := [some (.ref a0), some (.int y1), some (.long y2), none, some (.int y4), u5, u6]) (S' := []) (pc2 := 14) (L2 := [some (.ref a0), some (.int y1), some (.long y2), none, some (.int y4), u5, u6]) (S2 := []) (h' := h) (h2 := h) rfl rfl (fun hc => ?_) (fun hc => ?_)
  · have hc := hc
    rw [if_pos hc] at H
    refine k_n 1 (pc' := 122) (L' := [some (.ref a0), some (.int y1), some (.long y2), none, some (.int y4), u5, u6]) (S' := [.long y2]) (h' := h) rfl ?_
    exact k_r rfl rfl rfl H
  · have hc := hc
    rw [if_neg hc] at H
    refine k_n 1 (pc' := 15) (L' := [some (.ref a0), some (.int y1), some (.long y2), none, some (.int y4), u5, u6]) (S' := [.ref a0]) (h' := h) rfl ?_
    obtain hb1 | ⟨b2, hb1⟩ := z_opt (z_rv h a0 1)
    · have H := H.1 hb1
      refine k_gN rfl Ta0 hb1 ?_
      refine k_n 1 (pc' := 19) (L' := [some (.ref a0), some (.int y1), some (.long y2), none, some (.int y4), u5, u6]) (S' := [.ref a0, .null]) (h' := h) rfl ?_
      obtain hb4 | ⟨b5, hb4⟩ := z_opt (z_rv h a0 0)
      · have H := H.1 hb4
        refine k_gN rfl Ta0 hb4 ?_
        refine k_n 1 (pc' := 23) (L' := [some (.ref a0), some (.int y1), some (.long y2), none, some (.int y4), u5, u6]) (S' := [.ref a0, .null, .null]) (h' := h) rfl ?_
        refine k_gI rfl rfl Ta0 ?_
        refine k_n 2 (pc' := 29) (L' := [some (.ref a0), some (.int y1), some (.long y2), none, some (.int y4), u5, u6]) (S' := [.int ((z_iv h a0 3) + y4), .null, .null]) (h' := h) rfl ?_
        exact H.elim
      · have H := H.2 b5 hb4
        have t6 : z_tg h b5 = 4 := (CW.tyOf (t := 2) (t' := 4) W Ta0 hb4 (by decide) rfl)
        refine k_gS rfl Ta0 hb4 ?_
        refine k_n 1 (pc' := 23) (L' := [some (.ref a0), some (.int y1), some (.long y2), none, some (.int y4), u5, u6]) (S' := [.ref a0, .ref b5, .null]) (h' := h) rfl ?_
        refine k_gI rfl rfl Ta0 ?_
        refine k_n 2 (pc' := 29) (L' := [some (.ref a0), some (.int y1), some (.long y2), none, some (.int y4), u5, u6]) (S' := [.int ((z_iv h a0 3) + y4), .ref b5, .null]) (h' := h) rfl ?_
        refine k_cI 45 2 rfl rfl rfl (A := [.ref b5, .int ((z_iv h a0 3) + y4)]) rfl rfl (z_rok_ref t6) (rest := [.null]) rfl (z_tyI rfl rfl) ?_
        obtain ⟨v7, k8, H⟩ := H
        refine k_P k8 ?_
        refine k_n 1 (pc' := 33) (L' := [some (.ref a0), some (.int y1), some (.long y2), none, some (.int y4), u5, u6]) (S' := [.ref a0, .int v7, .null]) (h' := h) rfl ?_
        refine k_gS rfl Ta0 hb4 ?_
        refine k_gI rfl rfl t6 ?_
        exact H.elim
    · have H := H.2 b2 hb1
      have t3 : z_tg h b2 = 3 := (CW.tyOf (t := 2) (t' := 3) W Ta0 hb1 (by decide) rfl)
      refine k_gS rfl Ta0 hb1 ?_
      refine k_n 1 (pc' := 19) (L' := [some (.ref a0), some (.int y1), some (.long y2), none, some (.int y4), u5, u6]) (S' := [.ref a0, .ref b2]) (h' := h) rfl ?_
      obtain hb9 | ⟨b10, hb9⟩ := z_opt (z_rv h a0 0)
      · have H := H.1 hb9
        refine k_gN rfl Ta0 hb9 ?_
        refine k_n 1 (pc' := 23) (L' := [some (.ref a0), some (.int y1), some (.long y2), none, some (.int y4), u5, u6]) (S' := [.ref a0, .null, .ref b2]) (h' := h) rfl ?_
        refine k_gI rfl rfl Ta0 ?_
        refine k_n 2 (pc' := 29) (L' := [some (.ref a0), some (.int y1), some (.long y2), none, some (.int y4), u5, u6]) (S' := [.int ((z_iv h a0 3) + y4), .null, .ref b2]) (h' := h) rfl ?_
        exact H.elim
      · have H := H.2 b10 hb9
        have t11 : z_tg h b10 = 4 := (CW.tyOf (t := 2) (t' := 4) W Ta0 hb9 (by decide) rfl)
        refine k_gS rfl Ta0 hb9 ?_
        refine k_n 1 (pc' := 23) (L' := [some (.ref a0), some (.int y1), some (.long y2), none, some (.int y4), u5, u6]) (S' := [.ref a0, .ref b10, .ref b2]) (h' := h) rfl ?_
        refine k_gI rfl rfl Ta0 ?_
        refine k_n 2 (pc' := 29) (L' := [some (.ref a0), some (.int y1), some (.long y2), none, some (.int y4), u5, u6]) (S' := [.int ((z_iv h a0 3) + y4), .ref b10, .ref b2]) (h' := h) rfl ?_
        refine k_cI 45 2 rfl rfl rfl (A := [.ref b10, .int ((z_iv h a0 3) + y4)]) rfl rfl (z_rok_ref t11) (rest := [.ref b2]) rfl (z_tyI rfl rfl) ?_
        obtain ⟨v12, k13, H⟩ := H
        refine k_P k13 ?_
        refine k_n 1 (pc' := 33) (L' := [some (.ref a0), some (.int y1), some (.long y2), none, some (.int y4), u5, u6]) (S' := [.ref a0, .int v12, .ref b2]) (h' := h) rfl ?_
        refine k_gS rfl Ta0 hb9 ?_
        refine k_gI rfl rfl t11 ?_
        refine k_cI 39 3 rfl rfl rfl (A := [.ref b2, .int v12, .int (z_iv h b10 5)]) rfl rfl (z_rok_ref t3) (rest := []) rfl (z_tyI rfl rfl) ?_
        obtain ⟨v14, k15, H⟩ := H
        refine k_P k15 ?_
        refine k_n 1 (pc' := 43) (L' := [some (.ref a0), some (.int y1), some (.long y2), none, some (.int y4), u5, u6]) (S' := [.ref a0, .int v14]) (h' := h) rfl ?_
        refine k_gS rfl Ta0 hb1 ?_
        refine k_gI rfl rfl t3 ?_
        refine k_cI 14 2 rfl rfl rfl (A := [.int v14, .int (z_iv h b2 3)]) rfl rfl rfl (rest := []) rfl (z_tyI rfl rfl) ?_
        refine C_14 v14 (z_iv h b2 3) h    ?_
        refine k_n 2 (pc' := 55) (L' := [some (.ref a0), some (.int y1), some (.long y2), none, some (.int y4), some (.int (if (z_iv h b2 3) < v14 then (z_iv h b2 3) else v14)), u6]) (S' := [.ref a0]) (h' := h) rfl ?_
        refine k_gS rfl Ta0 hb1 ?_
        refine k_n 2 (pc' := 61) (L' := [some (.ref a0), some (.int y1), some (.long y2), none, some (.int y4), some (.int (if (z_iv h b2 3) < v14 then (z_iv h b2 3) else v14)), u6]) (S' := [.ref a0, .int (if (z_iv h b2 3) < v14 then (z_iv h b2 3) else v14), .ref b2]) (h' := h) rfl ?_
        refine k_gS rfl Ta0 hb1 ?_
        refine k_gI rfl rfl t3 ?_
        refine k_n 1 (pc' := 68) (L' := [some (.ref a0), some (.int y1), some (.long y2), none, some (.int y4), some (.int (if (z_iv h b2 3) < v14 then (z_iv h b2 3) else v14)), u6]) (S' := [.ref a0, .int (z_iv h b2 2), .int (if (z_iv h b2 3) < v14 then (z_iv h b2 3) else v14), .ref b2]) (h' := h) rfl ?_
        refine k_gS rfl Ta0 hb1 ?_
        refine k_gI rfl rfl t3 ?_
        refine k_n 2 (pc' := 77) (L' := [some (.ref a0), some (.int y1), some (.long y2), none, some (.int y4), some (.int (if (z_iv h b2 3) < v14 then (z_iv h b2 3) else v14)), u6]) (S' := [.int ((z_iv h b2 7) + y4), .int (z_iv h b2 2), .int (if (z_iv h b2 3) < v14 then (z_iv h b2 3) else v14), .ref b2]) (h' := h) rfl ?_
        refine k_cI 40 4 rfl rfl rfl (A := [.ref b2, .int (if (z_iv h b2 3) < v14 then (z_iv h b2 3) else v14), .int (z_iv h b2 2), .int ((z_iv h b2 7) + y4)]) rfl rfl (z_rok_ref t3) (rest := []) rfl (z_tyI rfl rfl) ?_
        obtain ⟨v16, k17, H⟩ := H
        refine k_P k17 ?_
        refine k_n 3 (pc' := 84) (L' := [some (.ref a0), some (.int y1), some (.long y2), none, some (.int y4), some (.int (if (z_iv h b2 3) < v14 then (z_iv h b2 3) else v14)), some (.int v16)]) (S' := [.ref a0, .long y2]) (h' := h) rfl ?_
        refine k_gS rfl Ta0 hb9 ?_
        obtain hb18 | ⟨b19, hb18⟩ := z_opt (z_rv h b10 9)
        · have H := H.1 hb18
          refine k_gN rfl t11 hb18 ?_
          refine k_n 2 (pc' := 93) (L' := [some (.ref a0), some (.int y1), some (.long y2), none, some (.int y4), some (.int (if (z_iv h b2 3) < v14 then (z_iv h b2 3) else v14)), some (.int v16)]) (S' := [.ref a0, .int (if (z_iv h b2 3) < v14 then (z_iv h b2 3) else v14), .null, .long y2]) (h' := h) rfl ?_
          refine k_gS rfl Ta0 hb1 ?_
          refine k_gI rfl rfl t3 ?_
          refine k_n 2 (pc' := 102) (L' := [some (.ref a0), some (.int y1), some (.long y2), none, some (.int y4), some (.int (if (z_iv h b2 3) < v14 then (z_iv h b2 3) else v14)), some (.int v16)]) (S' := [.ref a0, .int v16, .int (z_iv h b2 1), .int (if (z_iv h b2 3) < v14 then (z_iv h b2 3) else v14), .null, .long y2]) (h' := h) rfl ?_
          refine k_gS rfl Ta0 hb9 ?_
          refine k_gI rfl rfl t11 ?_
          refine k_n 1 (pc' := 109) (L' := [some (.ref a0), some (.int y1), some (.long y2), none, some (.int y4), some (.int (if (z_iv h b2 3) < v14 then (z_iv h b2 3) else v14)), some (.int v16)]) (S' := [.int y1, .int (z_iv h b10 6), .int v16, .int (z_iv h b2 1), .int (if (z_iv h b2 3) < v14 then (z_iv h b2 3) else v14), .null, .long y2]) (h' := h) rfl ?_
          exact H.elim
        · have H := H.2 b19 hb18
          have t20 : z_tg h b19 = 10 := (CW.tyOf (t := 4) (t' := 10) W t11 hb18 (by decide) rfl)
          refine k_gS rfl t11 hb18 ?_
          refine k_n 2 (pc' := 93) (L' := [some (.ref a0), some (.int y1), some (.long y2), none, some (.int y4), some (.int (if (z_iv h b2 3) < v14 then (z_iv h b2 3) else v14)), some (.int v16)]) (S' := [.ref a0, .int (if (z_iv h b2 3) < v14 then (z_iv h b2 3) else v14), .ref b19, .long y2]) (h' := h) rfl ?_
          refine k_gS rfl Ta0 hb1 ?_
          refine k_gI rfl rfl t3 ?_
          refine k_n 2 (pc' := 102) (L' := [some (.ref a0), some (.int y1), some (.long y2), none, some (.int y4), some (.int (if (z_iv h b2 3) < v14 then (z_iv h b2 3) else v14)), some (.int v16)]) (S' := [.ref a0, .int v16, .int (z_iv h b2 1), .int (if (z_iv h b2 3) < v14 then (z_iv h b2 3) else v14), .ref b19, .long y2]) (h' := h) rfl ?_
          refine k_gS rfl Ta0 hb9 ?_
          refine k_gI rfl rfl t11 ?_
          refine k_n 1 (pc' := 109) (L' := [some (.ref a0), some (.int y1), some (.long y2), none, some (.int y4), some (.int (if (z_iv h b2 3) < v14 then (z_iv h b2 3) else v14)), some (.int v16)]) (S' := [.int y1, .int (z_iv h b10 6), .int v16, .int (z_iv h b2 1), .int (if (z_iv h b2 3) < v14 then (z_iv h b2 3) else v14), .ref b19, .long y2]) (h' := h) rfl ?_
          refine k_cI 97 6 rfl rfl rfl (A := [.ref b19, .int (if (z_iv h b2 3) < v14 then (z_iv h b2 3) else v14), .int (z_iv h b2 1), .int v16, .int (z_iv h b10 6), .int y1]) rfl rfl (z_rok_ref t20) (rest := [.long y2]) rfl (z_tyI rfl rfl) ?_
          obtain ⟨v21, k22, H⟩ := H
          refine k_P k22 ?_
          refine k_n 5 (pc' := 5) (L' := [some (.ref a0), some (.int y1), some (.long (y2 + v21.toInt64)), none, some (.int (y4 + (1 : Int32))), some (.int (if (z_iv h b2 3) < v14 then (z_iv h b2 3) else v14)), some (.int v16)]) (S' := []) (h' := h) rfl ?_
          exact H
set_option maxRecDepth 20000 in
theorem X_32 (a0 : Nat) (h : zH) (W : CW h) (T0 : z_tg h a0 = 2) {Q : Int64 → zH → Prop} (H : (z_rv h a0 1 = none → Q (0 : Int64) h) ∧ (∀ b2, z_rv h a0 1 = some b2 → ∃ v4 : Int64, KV z_pL 33 [.ref a0, .int (z_iv h b2 2), .int (z_iv h b2 7), .int (z_iv h a0 4)] h v4 ∧ Q v4 h)) : KK z_pL 32 [.ref a0] h Q := by
  refine k_K (L := [some (.ref a0)]) rfl ?_
  refine k_n 1 (pc' := 1) (L' := [some (.ref a0)]) (S' := [.ref a0]) (h' := h) rfl ?_
  obtain hb1 | ⟨b2, hb1⟩ := z_opt (z_rv h a0 1)
  · have H := H.1 hb1
    refine k_gN rfl T0 hb1 ?_
    refine k_n 3 (pc' := 33) (L' := [some (.ref a0)]) (S' := [.long (0 : Int64)]) (h' := h) rfl ?_
    exact k_r rfl rfl rfl H
  · have H := H.2 b2 hb1
    have t3 : z_tg h b2 = 3 := (CW.tyOf (t := 2) (t' := 3) W T0 hb1 (by decide) rfl)
    refine k_gS rfl T0 hb1 ?_
    refine k_n 3 (pc' := 13) (L' := [some (.ref a0)]) (S' := [.ref a0, .ref a0]) (h' := h) rfl ?_
    refine k_gS rfl T0 hb1 ?_
    refine k_gI rfl rfl t3 ?_
    refine k_n 1 (pc' := 20) (L' := [some (.ref a0)]) (S' := [.ref a0, .int (z_iv h b2 2), .ref a0]) (h' := h) rfl ?_
    refine k_gS rfl T0 hb1 ?_
    refine k_gI rfl rfl t3 ?_
    refine k_n 1 (pc' := 27) (L' := [some (.ref a0)]) (S' := [.ref a0, .int (z_iv h b2 7), .int (z_iv h b2 2), .ref a0]) (h' := h) rfl ?_
    refine k_gI rfl rfl T0 ?_
    refine k_cL 33 4 rfl rfl rfl (A := [.ref a0, .int (z_iv h b2 2), .int (z_iv h b2 7), .int (z_iv h a0 4)]) rfl rfl (z_rok_ref T0) (rest := []) rfl rfl ?_
    obtain ⟨v4, k5, H⟩ := H
    refine k_P k5 ?_
    exact k_r rfl rfl rfl H
set_option maxRecDepth 20000 in
theorem X_34 (a0 : Nat) (h : zH) (W : CW h) (T0 : z_tg h a0 = 2) {Q : Int64 → zH → Prop} (H : (z_rv h a0 1 = none → Q (0 : Int64) h) ∧ (∀ b2, z_rv h a0 1 = some b2 → if (z_iv h b2 0) = (1 : Int32) then ((z_rv h a0 0 = none → False) ∧ (∀ b5, z_rv h a0 0 = some b5 → (z_rv h b5 9 = none → Q (0 : Int64) h) ∧ (∀ b8, z_rv h b5 9 = some b8 → (z_rv h a0 2 = none → False) ∧ (∀ b11, z_rv h a0 2 = some b11 → ∃ v13 : Int32, KV z_pI 23 [.ref b11, .int (z_iv h b2 5), .int (z_iv h a0 3)] h v13 ∧ (if v13 = (-4 : Int32) then (∃ v15 : Int32, KV z_pI 22 [.ref b11, .int (z_iv h b2 5), .int (z_iv h a0 3)] h v15 ∧ (if v15 = (-4 : Int32) then (Q (0 : Int64) h) else (∃ v17 : Int64, KV z_pL 35 [.ref a0, .int v15] h v17 ∧ Q v17 h))) else (Q (v13.toInt64 * (z_iv h a0 4).toInt64) h)))))) else (Q (0 : Int64) h))) : KK z_pL 34 [.ref a0] h Q := by
  refine k_K (L := [some (.ref a0), none, none]) rfl ?_
  refine k_n 1 (pc' := 1) (L' := [some (.ref a0), none, none]) (S' := [.ref a0]) (h' := h) rfl ?_
  obtain hb1 | ⟨b2, hb1⟩ := z_opt (z_rv h a0 1)
  · have H := H.1 hb1
    refine k_gN rfl T0 hb1 ?_
    refine k_n 2 (pc' := 29) (L' := [some (.ref a0), none, none]) (S' := [.long (0 : Int64)]) (h' := h) rfl ?_
    exact k_r rfl rfl rfl H
  · have H := H.2 b2 hb1
    have t3 : z_tg h b2 = 3 := (CW.tyOf (t := 2) (t' := 3) W T0 hb1 (by decide) rfl)
    refine k_gS rfl T0 hb1 ?_
    refine k_n 2 (pc' := 8) (L' := [some (.ref a0), none, none]) (S' := [.ref a0]) (h' := h) rfl ?_
    refine k_gS rfl T0 hb1 ?_
    refine k_gI rfl rfl t3 ?_
    refine k_n 1 (pc' := 15) (L' := [some (.ref a0), none, none]) (S' := [.int (1 : Int32), .int (z_iv h b2 0)]) (h' := h) rfl ?_
    refine k_b (g := (z_iv h b2 0) = (1 : Int32)) (pc' := 18) (L' := [some (.ref a0), none, none]) (S' := []) (pc2 := 28) (L2 := [some (.ref a0), none, none]) (S2 := []) (h' := h) (h2 := h) rfl rfl (fun hc => ?_) (fun hc => ?_)
    · have hc := hc
      rw [if_pos hc] at H
      refine k_n 1 (pc' := 19) (L' := [some (.ref a0), none, none]) (S' := [.ref a0]) (h' := h) rfl ?_
      obtain hb4 | ⟨b5, hb4⟩ := z_opt (z_rv h a0 0)
      · have H := H.1 hb4
        refine k_gN rfl T0 hb4 ?_
        exact H.elim
      · have H := H.2 b5 hb4
        have t6 : z_tg h b5 = 4 := (CW.tyOf (t := 2) (t' := 4) W T0 hb4 (by decide) rfl)
        refine k_gS rfl T0 hb4 ?_
        obtain hb7 | ⟨b8, hb7⟩ := z_opt (z_rv h b5 9)
        · have H := H.1 hb7
          refine k_gN rfl t6 hb7 ?_
          refine k_n 2 (pc' := 29) (L' := [some (.ref a0), none, none]) (S' := [.long (0 : Int64)]) (h' := h) rfl ?_
          exact k_r rfl rfl rfl H
        · have H := H.2 b8 hb7
          have t9 : z_tg h b8 = 10 := (CW.tyOf (t := 4) (t' := 10) W t6 hb7 (by decide) rfl)
          refine k_gS rfl t6 hb7 ?_
          refine k_n 2 (pc' := 31) (L' := [some (.ref a0), none, none]) (S' := [.ref a0]) (h' := h) rfl ?_
          obtain hb10 | ⟨b11, hb10⟩ := z_opt (z_rv h a0 2)
          · have H := H.1 hb10
            refine k_gN rfl T0 hb10 ?_
            refine k_n 1 (pc' := 35) (L' := [some (.ref a0), none, none]) (S' := [.ref a0, .null]) (h' := h) rfl ?_
            refine k_gS rfl T0 hb1 ?_
            refine k_gI rfl rfl t3 ?_
            refine k_n 1 (pc' := 42) (L' := [some (.ref a0), none, none]) (S' := [.ref a0, .int (z_iv h b2 5), .null]) (h' := h) rfl ?_
            refine k_gI rfl rfl T0 ?_
            exact H.elim
          · have H := H.2 b11 hb10
            have t12 : z_tg h b11 = 1 := (CW.tyOf (t := 2) (t' := 1) W T0 hb10 (by decide) rfl)
            refine k_gS rfl T0 hb10 ?_
            refine k_n 1 (pc' := 35) (L' := [some (.ref a0), none, none]) (S' := [.ref a0, .ref b11]) (h' := h) rfl ?_
            refine k_gS rfl T0 hb1 ?_
            refine k_gI rfl rfl t3 ?_
            refine k_n 1 (pc' := 42) (L' := [some (.ref a0), none, none]) (S' := [.ref a0, .int (z_iv h b2 5), .ref b11]) (h' := h) rfl ?_
            refine k_gI rfl rfl T0 ?_
            refine k_cI 23 3 rfl rfl rfl (A := [.ref b11, .int (z_iv h b2 5), .int (z_iv h a0 3)]) rfl rfl (z_rok_ref t12) (rest := []) rfl (z_tyI rfl rfl) ?_
            obtain ⟨v13, k14, H⟩ := H
            refine k_P k14 ?_
            refine k_n 3 (pc' := 52) (L' := [some (.ref a0), some (.int v13), none]) (S' := [.int (-4 : Int32), .int v13]) (h' := h) rfl ?_
            refine k_b (g := v13 = (-4 : Int32)) (pc' := 64) (L' := [some (.ref a0), some (.int v13), none]) (S' := []) (pc2 := 55) (L2 := [some (.ref a0), some (.int v13), none]) (S2 := []) (h' := h) (h2 := h) rfl rfl (fun hc => ?_) (fun hc => ?_)
            · have hc := hc
              rw [if_pos hc] at H
              refine k_n 1 (pc' := 65) (L' := [some (.ref a0), some (.int v13), none]) (S' := [.ref a0]) (h' := h) rfl ?_
              refine k_gS rfl T0 hb10 ?_
              refine k_n 1 (pc' := 69) (L' := [some (.ref a0), some (.int v13), none]) (S' := [.ref a0, .ref b11]) (h' := h) rfl ?_
              refine k_gS rfl T0 hb1 ?_
              refine k_gI rfl rfl t3 ?_
              refine k_n 1 (pc' := 76) (L' := [some (.ref a0), some (.int v13), none]) (S' := [.ref a0, .int (z_iv h b2 5), .ref b11]) (h' := h) rfl ?_
              refine k_gI rfl rfl T0 ?_
              refine k_cI 22 3 rfl rfl rfl (A := [.ref b11, .int (z_iv h b2 5), .int (z_iv h a0 3)]) rfl rfl (z_rok_ref t12) (rest := []) rfl (z_tyI rfl rfl) ?_
              obtain ⟨v15, k16, H⟩ := H
              refine k_P k16 ?_
              refine k_n 3 (pc' := 86) (L' := [some (.ref a0), some (.int v13), some (.int v15)]) (S' := [.int (-4 : Int32), .int v15]) (h' := h) rfl ?_
              refine k_b (g := v15 = (-4 : Int32)) (pc' := 89) (L' := [some (.ref a0), some (.int v13), some (.int v15)]) (S' := []) (pc2 := 93) (L2 := [some (.ref a0), some (.int v13), some (.int v15)]) (S2 := []) (h' := h) (h2 := h) rfl rfl (fun hc => ?_) (fun hc => ?_)
              · have hc := hc
                rw [if_pos hc] at H
                refine k_n 2 (pc' := 98) (L' := [some (.ref a0), some (.int v13), some (.int v15)]) (S' := [.long (0 : Int64)]) (h' := h) rfl ?_
                exact k_r rfl rfl rfl H
              · have hc := hc
                rw [if_neg hc] at H
                refine k_n 2 (pc' := 95) (L' := [some (.ref a0), some (.int v13), some (.int v15)]) (S' := [.int v15, .ref a0]) (h' := h) rfl ?_
                refine k_cL 35 2 rfl rfl rfl (A := [.ref a0, .int v15]) rfl rfl (z_rok_ref T0) (rest := []) rfl rfl ?_
                obtain ⟨v17, k18, H⟩ := H
                refine k_P k18 ?_
                exact k_r rfl rfl rfl H
            · have hc := hc
              rw [if_neg hc] at H
              refine k_n 3 (pc' := 58) (L' := [some (.ref a0), some (.int v13), none]) (S' := [.ref a0, .long v13.toInt64]) (h' := h) rfl ?_
              refine k_gI rfl rfl T0 ?_
              refine k_n 2 (pc' := 63) (L' := [some (.ref a0), some (.int v13), none]) (S' := [.long (v13.toInt64 * (z_iv h a0 4).toInt64)]) (h' := h) rfl ?_
              exact k_r rfl rfl rfl H
    · have hc := hc
      rw [if_neg hc] at H
      refine k_n 1 (pc' := 29) (L' := [some (.ref a0), none, none]) (S' := [.long (0 : Int64)]) (h' := h) rfl ?_
      exact k_r rfl rfl rfl H
set_option maxRecDepth 20000 in
theorem X_31 (a0 : Nat) (x1 : Int32) (x2 : Int32) (h : zH) (W : CW h) (T0 : z_tg h a0 = 2) {Q : Int64 → zH → Prop} (H : (z_rv h a0 1 = none → Q (0 : Int64) h) ∧ (∀ b2, z_rv h a0 1 = some b2 → if x1 = 0 then (∃ v4 : Int64, KV z_pL 32 [.ref a0] h v4 ∧ (∃ v6 : Int64, KV z_pL 34 [.ref a0] h v6 ∧ Q (v4 - v6) h)) else (if x1 = (1 : Int32) then ((z_rv h a0 0 = none → False) ∧ (∀ b9, z_rv h a0 0 = some b9 → (z_rv h b9 9 = none → Q (0 : Int64) h) ∧ (∀ b12, z_rv h b9 9 = some b12 → ∃ v14 : Int32, KV z_pI 96 [.ref b12] h v14 ∧ (∃ v16 : Int64, KV z_pL 33 [.ref a0, .int v14, .int (0 : Int32), .int (z_iv h a0 4)] h v16 ∧ Q (v16 - x2.toInt64) h)))) else (if (z_iv h b2 0) = (1 : Int32) then ((z_rv h a0 2 = none → False) ∧ (∀ b19, z_rv h a0 2 = some b19 → ∃ v21 : Int32, KV z_pI 24 [.ref b19, .int (z_iv h b2 5), .int (z_iv h a0 3)] h v21 ∧ (∃ v23 : Int64, KV z_pL 33 [.ref a0, .int (z_iv h b2 2), .int (z_iv h b2 7), .int v21] h v23 ∧ Q v23 h))) else (∃ v25 : Int64, KV z_pL 33 [.ref a0, .int (z_iv h b2 2), .int (z_iv h b2 7), .int (z_iv h a0 4)] h v25 ∧ Q v25 h))))) : KK z_pL 31 [.ref a0, .int x1, .int x2] h Q := by
  refine k_K (L := [some (.ref a0), some (.int x1), some (.int x2), none]) rfl ?_
  refine k_n 1 (pc' := 1) (L' := [some (.ref a0), some (.int x1), some (.int x2), none]) (S' := [.ref a0]) (h' := h) rfl ?_
  obtain hb1 | ⟨b2, hb1⟩ := z_opt (z_rv h a0 1)
  · have H := H.1 hb1
    refine k_gN rfl T0 hb1 ?_
    refine k_n 2 (pc' := 8) (L' := [some (.ref a0), some (.int x1), some (.int x2), none]) (S' := [.long (0 : Int64)]) (h' := h) rfl ?_
    exact k_r rfl rfl rfl H
  · have H := H.2 b2 hb1
    have t3 : z_tg h b2 = 3 := (CW.tyOf (t := 2) (t' := 3) W T0 hb1 (by decide) rfl)
    refine k_gS rfl T0 hb1 ?_
    refine k_n 2 (pc' := 10) (L' := [some (.ref a0), some (.int x1), some (.int x2), none]) (S' := [.int x1]) (h' := h) rfl ?_
    refine k_b (g := x1 = 0) (pc' := 13) (L' := [some (.ref a0), some (.int x1), some (.int x2), none]) (S' := []) (pc2 := 23) (L2 := [some (.ref a0), some (.int x1), some (.int x2), none]) (S2 := []) (h' := h) (h2 := h) rfl rfl (fun hc => ?_) (fun hc => ?_)
    · have hc := hc
      rw [if_pos hc] at H
      refine k_n 1 (pc' := 14) (L' := [some (.ref a0), some (.int x1), some (.int x2), none]) (S' := [.ref a0]) (h' := h) rfl ?_
      refine k_cL 32 1 rfl rfl rfl (A := [.ref a0]) rfl rfl (z_rok_ref T0) (rest := []) rfl rfl ?_
      obtain ⟨v4, k5, H⟩ := H
      refine k_P k5 ?_
      refine k_n 1 (pc' := 18) (L' := [some (.ref a0), some (.int x1), some (.int x2), none]) (S' := [.ref a0, .long v4]) (h' := h) rfl ?_
      refine k_cL 34 1 rfl rfl rfl (A := [.ref a0]) rfl rfl (z_rok_ref T0) (rest := [.long v4]) rfl rfl ?_
      obtain ⟨v6, k7, H⟩ := H
      refine k_P k7 ?_
      refine k_n 1 (pc' := 22) (L' := [some (.ref a0), some (.int x1), some (.int x2), none]) (S' := [.long (v4 - v6)]) (h' := h) rfl ?_
      exact k_r rfl rfl rfl H
    · have hc := hc
      rw [if_neg hc] at H
      refine k_n 2 (pc' := 25) (L' := [some (.ref a0), some (.int x1), some (.int x2), none]) (S' := [.int (1 : Int32), .int x1]) (h' := h) rfl ?_
      refine k_b (g := x1 = (1 : Int32)) (pc' := 28) (L' := [some (.ref a0), some (.int x1), some (.int x2), none]) (S' := []) (pc2 := 65) (L2 := [some (.ref a0), some (.int x1), some (.int x2), none]) (S2 := []) (h' := h) (h2 := h) rfl rfl (fun hc => ?_) (fun hc => ?_)
      · have hc := hc
        rw [if_pos hc] at H
        refine k_n 1 (pc' := 29) (L' := [some (.ref a0), some (.int x1), some (.int x2), none]) (S' := [.ref a0]) (h' := h) rfl ?_
        obtain hb8 | ⟨b9, hb8⟩ := z_opt (z_rv h a0 0)
        · have H := H.1 hb8
          refine k_gN rfl T0 hb8 ?_
          exact H.elim
        · have H := H.2 b9 hb8
          have t10 : z_tg h b9 = 4 := (CW.tyOf (t := 2) (t' := 4) W T0 hb8 (by decide) rfl)
          refine k_gS rfl T0 hb8 ?_
          obtain hb11 | ⟨b12, hb11⟩ := z_opt (z_rv h b9 9)
          · have H := H.1 hb11
            refine k_gN rfl t10 hb11 ?_
            refine k_n 3 (pc' := 64) (L' := [some (.ref a0), some (.int x1), some (.int x2), none]) (S' := [.long (0 : Int64)]) (h' := h) rfl ?_
            exact k_r rfl rfl rfl H
          · have H := H.2 b12 hb11
            have t13 : z_tg h b12 = 10 := (CW.tyOf (t := 4) (t' := 10) W t10 hb11 (by decide) rfl)
            refine k_gS rfl t10 hb11 ?_
            refine k_n 3 (pc' := 44) (L' := [some (.ref a0), some (.int x1), some (.int x2), none]) (S' := [.ref a0, .ref a0]) (h' := h) rfl ?_
            refine k_gS rfl T0 hb8 ?_
            refine k_gS rfl t10 hb11 ?_
            refine k_cI 96 1 rfl rfl rfl (A := [.ref b12]) rfl rfl (z_rok_ref t13) (rest := [.ref a0]) rfl (z_tyI rfl rfl) ?_
            obtain ⟨v14, k15, H⟩ := H
            refine k_P k15 ?_
            refine k_n 2 (pc' := 55) (L' := [some (.ref a0), some (.int x1), some (.int x2), none]) (S' := [.ref a0, .int (0 : Int32), .int v14, .ref a0]) (h' := h) rfl ?_
            refine k_gI rfl rfl T0 ?_
            refine k_cL 33 4 rfl rfl rfl (A := [.ref a0, .int v14, .int (0 : Int32), .int (z_iv h a0 4)]) rfl rfl (z_rok_ref T0) (rest := []) rfl rfl ?_
            obtain ⟨v16, k17, H⟩ := H
            refine k_P k17 ?_
            refine k_n 3 (pc' := 64) (L' := [some (.ref a0), some (.int x1), some (.int x2), none]) (S' := [.long (v16 - x2.toInt64)]) (h' := h) rfl ?_
            exact k_r rfl rfl rfl H
      · have hc := hc
        rw [if_neg hc] at H
        refine k_n 1 (pc' := 66) (L' := [some (.ref a0), some (.int x1), some (.int x2), none]) (S' := [.ref a0]) (h' := h) rfl ?_
        refine k_gS rfl T0 hb1 ?_
        refine k_gI rfl rfl t3 ?_
        refine k_n 1 (pc' := 73) (L' := [some (.ref a0), some (.int x1), some (.int x2), none]) (S' := [.int (1 : Int32), .int (z_iv h b2 0)]) (h' := h) rfl ?_
        refine k_b (g := (z_iv h b2 0) = (1 : Int32)) (pc' := 76) (L' := [some (.ref a0), some (.int x1), some (.int x2), none]) (S' := []) (pc2 := 97) (L2 := [some (.ref a0), some (.int x1), some (.int x2), none]) (S2 := []) (h' := h) (h2 := h) rfl rfl (fun hc => ?_) (fun hc => ?_)
        · have hc := hc
          rw [if_pos hc] at H
          refine k_n 1 (pc' := 77) (L' := [some (.ref a0), some (.int x1), some (.int x2), none]) (S' := [.ref a0]) (h' := h) rfl ?_
          obtain hb18 | ⟨b19, hb18⟩ := z_opt (z_rv h a0 2)
          · have H := H.1 hb18
            refine k_gN rfl T0 hb18 ?_
            refine k_n 1 (pc' := 81) (L' := [some (.ref a0), some (.int x1), some (.int x2), none]) (S' := [.ref a0, .null]) (h' := h) rfl ?_
            refine k_gS rfl T0 hb1 ?_
            refine k_gI rfl rfl t3 ?_
            refine k_n 1 (pc' := 88) (L' := [some (.ref a0), some (.int x1), some (.int x2), none]) (S' := [.ref a0, .int (z_iv h b2 5), .null]) (h' := h) rfl ?_
            refine k_gI rfl rfl T0 ?_
            exact H.elim
          · have H := H.2 b19 hb18
            have t20 : z_tg h b19 = 1 := (CW.tyOf (t := 2) (t' := 1) W T0 hb18 (by decide) rfl)
            refine k_gS rfl T0 hb18 ?_
            refine k_n 1 (pc' := 81) (L' := [some (.ref a0), some (.int x1), some (.int x2), none]) (S' := [.ref a0, .ref b19]) (h' := h) rfl ?_
            refine k_gS rfl T0 hb1 ?_
            refine k_gI rfl rfl t3 ?_
            refine k_n 1 (pc' := 88) (L' := [some (.ref a0), some (.int x1), some (.int x2), none]) (S' := [.ref a0, .int (z_iv h b2 5), .ref b19]) (h' := h) rfl ?_
            refine k_gI rfl rfl T0 ?_
            refine k_cI 24 3 rfl rfl rfl (A := [.ref b19, .int (z_iv h b2 5), .int (z_iv h a0 3)]) rfl rfl (z_rok_ref t20) (rest := []) rfl (z_tyI rfl rfl) ?_
            obtain ⟨v21, k22, H⟩ := H
            refine k_P k22 ?_
            refine k_n 4 (pc' := 104) (L' := [some (.ref a0), some (.int x1), some (.int x2), some (.int v21)]) (S' := [.ref a0, .ref a0]) (h' := h) rfl ?_
            refine k_gS rfl T0 hb1 ?_
            refine k_gI rfl rfl t3 ?_
            refine k_n 1 (pc' := 111) (L' := [some (.ref a0), some (.int x1), some (.int x2), some (.int v21)]) (S' := [.ref a0, .int (z_iv h b2 2), .ref a0]) (h' := h) rfl ?_
            refine k_gS rfl T0 hb1 ?_
            refine k_gI rfl rfl t3 ?_
            refine k_n 1 (pc' := 118) (L' := [some (.ref a0), some (.int x1), some (.int x2), some (.int v21)]) (S' := [.int v21, .int (z_iv h b2 7), .int (z_iv h b2 2), .ref a0]) (h' := h) rfl ?_
            refine k_cL 33 4 rfl rfl rfl (A := [.ref a0, .int (z_iv h b2 2), .int (z_iv h b2 7), .int v21]) rfl rfl (z_rok_ref T0) (rest := []) rfl rfl ?_
            obtain ⟨v23, k24, H⟩ := H
            refine k_P k24 ?_
            exact k_r rfl rfl rfl H
        · have hc := hc
          rw [if_neg hc] at H
          refine k_n 1 (pc' := 98) (L' := [some (.ref a0), some (.int x1), some (.int x2), none]) (S' := [.ref a0]) (h' := h) rfl ?_
          refine k_gI rfl rfl T0 ?_
          refine k_n 3 (pc' := 104) (L' := [some (.ref a0), some (.int x1), some (.int x2), some (.int (z_iv h a0 4))]) (S' := [.ref a0, .ref a0]) (h' := h) rfl ?_
          refine k_gS rfl T0 hb1 ?_
          refine k_gI rfl rfl t3 ?_
          refine k_n 1 (pc' := 111) (L' := [some (.ref a0), some (.int x1), some (.int x2), some (.int (z_iv h a0 4))]) (S' := [.ref a0, .int (z_iv h b2 2), .ref a0]) (h' := h) rfl ?_
          refine k_gS rfl T0 hb1 ?_
          refine k_gI rfl rfl t3 ?_
          refine k_n 1 (pc' := 118) (L' := [some (.ref a0), some (.int x1), some (.int x2), some (.int (z_iv h a0 4))]) (S' := [.int (z_iv h a0 4), .int (z_iv h b2 7), .int (z_iv h b2 2), .ref a0]) (h' := h) rfl ?_
          refine k_cL 33 4 rfl rfl rfl (A := [.ref a0, .int (z_iv h b2 2), .int (z_iv h b2 7), .int (z_iv h a0 4)]) rfl rfl (z_rok_ref T0) (rest := []) rfl rfl ?_
          obtain ⟨v25, k26, H⟩ := H
          refine k_P k26 ?_
          exact k_r rfl rfl rfl H
set_option maxRecDepth 20000 in
theorem X_125 (x1 : Int32) (x2 : Int32) (x3 : Int32) (x4 : Int32) (x5 : Int32) (h : zH) (W : CW h)  {Q : Int64 → zH → Prop} (H : ∃ v1 : Option Nat, KV z_pA 148 [.ref 0, .int x1] h v1 ∧ (∀ b_, v1 = some b_ → z_tg h b_ = 4) ∧ ((v1 = none → Q (-10000000000 : Int64) h) ∧ (∀ b5, v1 = some b5 → if (0 : Int32) ≤ x2 ∧ x2 ≤ (2 : Int32) then (if ((1 : Int32) ≤ x3 ∧ x3 ≤ (24 : Int32)) ∧ (((0 : Int32) ≤ x4 ∧ x4 ≤ (9999 : Int32)) ∧ ((0 : Int32) ≤ x5 ∧ x5 ≤ (99999 : Int32))) then ((z_rv h 0 9 = none → KK z_pI 30 [.ref 14, .ref b5, .null, .int (z_iv h 0 11), .int x3, .int x4] h (fun r_ h_ => KG z_pL 125 56 [some (.ref 0), some (.int x1), some (.int x2), some (.int x3), some (.int x4), some (.int x5), some (.ref b5)] [.int r_] h_ Q)) ∧ (∀ b8, z_rv h 0 9 = some b8 → KK z_pI 30 [.ref 14, .ref b5, .ref b8, .int (z_iv h 0 11), .int x3, .int x4] h (fun r_ h_ => KG z_pL 125 56 [some (.ref 0), some (.int x1), some (.int x2), some (.int x3), some (.int x4), some (.int x5), some (.ref b5)] [.int r_] h_ Q))) else (Q (-10000000000 : Int64) h)) else (Q (-10000000000 : Int64) h)))) : KK z_pL 125 [.ref 0, .int x1, .int x2, .int x3, .int x4, .int x5] h Q := by
  refine k_K (L := [some (.ref 0), some (.int x1), some (.int x2), some (.int x3), some (.int x4), some (.int x5), none]) rfl ?_
  refine k_n 2 (pc' := 2) (L' := [some (.ref 0), some (.int x1), some (.int x2), some (.int x3), some (.int x4), some (.int x5), none]) (S' := [.int x1, .ref 0]) (h' := h) rfl ?_
  refine k_cA 148 2 "SavedThird$Mine" rfl rfl rfl (A := [.ref 0, .int x1]) rfl rfl (z_rok_ref W.t0) (rest := []) rfl rfl (by decide) ?_
  obtain ⟨v1, k2, tv3, H⟩ := H
  refine k_P k2 ?_
  obtain hb4 | ⟨b5, hb4⟩ := z_opt (v1)
  · have H := H.1 hb4
    refine k_oN hb4 ?_
    refine k_n 4 (pc' := 35) (L' := [some (.ref 0), some (.int x1), some (.int x2), some (.int x3), some (.int x4), some (.int x5), some (.null)]) (S' := [.long (-10000000000 : Int64)]) (h' := h) rfl ?_
    exact k_r rfl rfl rfl H
  · have H := H.2 b5 hb4
    have t6 : z_tg h b5 = 4 := tv3 _ hb4
    refine k_oS hb4 ?_
    refine k_n 6 (pc' := 15) (L' := [some (.ref 0), some (.int x1), some (.int x2), some (.int x3), some (.int x4), some (.int x5), some (.ref b5)]) (S' := [.int (2 : Int32), .int (0 : Int32), .int x2]) (h' := h) rfl ?_
    refine k_cI 135 3 rfl rfl rfl (A := [.int x2, .int (0 : Int32), .int (2 : Int32)]) rfl rfl rfl (rest := []) rfl (z_tyI rfl rfl) ?_
    refine c_within x2 (0 : Int32) (2 : Int32) h ?_
    refine k_b (g := z_bt ((0 : Int32) ≤ x2 ∧ x2 ≤ (2 : Int32)) = 0) (pc' := 32) (L' := [some (.ref 0), some (.int x1), some (.int x2), some (.int x3), some (.int x4), some (.int x5), some (.ref b5)]) (S' := []) (pc2 := 21) (L2 := [some (.ref 0), some (.int x1), some (.int x2), some (.int x3), some (.int x4), some (.int x5), some (.ref b5)]) (S2 := []) (h' := h) (h2 := h) rfl rfl (fun hc => ?_) (fun hc => ?_)
    · have hc := z_bt_0.mp hc
      rw [if_neg hc] at H
      refine k_n 1 (pc' := 35) (L' := [some (.ref 0), some (.int x1), some (.int x2), some (.int x3), some (.int x4), some (.int x5), some (.ref b5)]) (S' := [.long (-10000000000 : Int64)]) (h' := h) rfl ?_
      exact k_r rfl rfl rfl H
    · have hc := Decidable.not_not.mp (fun q => hc (z_bt_0.mpr q))
      rw [if_pos hc] at H
      refine k_n 3 (pc' := 26) (L' := [some (.ref 0), some (.int x1), some (.int x2), some (.int x3), some (.int x4), some (.int x5), some (.ref b5)]) (S' := [.int x5, .int x4, .int x3]) (h' := h) rfl ?_
      refine k_cI 144 3 rfl rfl rfl (A := [.int x3, .int x4, .int x5]) rfl rfl rfl (rest := []) rfl (z_tyI rfl rfl) ?_
      refine C_144 x3 x4 x5 h    ?_
      refine k_b (g := z_bt (((1 : Int32) ≤ x3 ∧ x3 ≤ (24 : Int32)) ∧ (((0 : Int32) ≤ x4 ∧ x4 ≤ (9999 : Int32)) ∧ ((0 : Int32) ≤ x5 ∧ x5 ≤ (99999 : Int32)))) = 0) (pc' := 32) (L' := [some (.ref 0), some (.int x1), some (.int x2), some (.int x3), some (.int x4), some (.int x5), some (.ref b5)]) (S' := []) (pc2 := 36) (L2 := [some (.ref 0), some (.int x1), some (.int x2), some (.int x3), some (.int x4), some (.int x5), some (.ref b5)]) (S2 := []) (h' := h) (h2 := h) rfl rfl (fun hc => ?_) (fun hc => ?_)
      · have hc := z_bt_0.mp hc
        rw [if_neg hc] at H
        refine k_n 1 (pc' := 35) (L' := [some (.ref 0), some (.int x1), some (.int x2), some (.int x3), some (.int x4), some (.int x5), some (.ref b5)]) (S' := [.long (-10000000000 : Int64)]) (h' := h) rfl ?_
        exact k_r rfl rfl rfl H
      · have hc := Decidable.not_not.mp (fun q => hc (z_bt_0.mpr q))
        rw [if_pos hc] at H
        refine k_n 1 (pc' := 37) (L' := [some (.ref 0), some (.int x1), some (.int x2), some (.int x3), some (.int x4), some (.int x5), some (.ref b5)]) (S' := [.ref 0]) (h' := h) rfl ?_
        refine k_gS (b := 14) rfl W.t0 (W.abOf (t := 11) (j := 8) (o := 14) (n := 0) (by decide) W.t0).1 ?_
        refine k_n 2 (pc' := 43) (L' := [some (.ref 0), some (.int x1), some (.int x2), some (.int x3), some (.int x4), some (.int x5), some (.ref b5)]) (S' := [.ref 0, .ref b5, .ref 14]) (h' := h) rfl ?_
        obtain hb7 | ⟨b8, hb7⟩ := z_opt (z_rv h 0 9)
        · have H := H.1 hb7
          refine k_gN rfl W.t0 hb7 ?_
          refine k_n 1 (pc' := 47) (L' := [some (.ref 0), some (.int x1), some (.int x2), some (.int x3), some (.int x4), some (.int x5), some (.ref b5)]) (S' := [.ref 0, .null, .ref b5, .ref 14]) (h' := h) rfl ?_
          refine k_gI rfl rfl W.t0 ?_
          refine k_n 2 (pc' := 53) (L' := [some (.ref 0), some (.int x1), some (.int x2), some (.int x3), some (.int x4), some (.int x5), some (.ref b5)]) (S' := [.int x4, .int x3, .int (z_iv h 0 11), .null, .ref b5, .ref 14]) (h' := h) rfl ?_
          refine k_cI 30 6 rfl rfl rfl (A := [.ref 14, .ref b5, .null, .int (z_iv h 0 11), .int x3, .int x4]) rfl rfl (z_rok_ref (CW.tyOf (t := 11) (t' := 2) W (j := 8) W.t0 (W.abOf (t := 11) (j := 8) (o := 14) (n := 0) (by decide) W.t0).1 (by decide) rfl)) (rest := []) rfl (z_tyI rfl rfl) ?_
          exact H
        · have H := H.2 b8 hb7
          have t9 : z_tg h b8 = 1 := (CW.tyOf (t := 11) (t' := 1) W W.t0 hb7 (by decide) rfl)
          refine k_gS rfl W.t0 hb7 ?_
          refine k_n 1 (pc' := 47) (L' := [some (.ref 0), some (.int x1), some (.int x2), some (.int x3), some (.int x4), some (.int x5), some (.ref b5)]) (S' := [.ref 0, .ref b8, .ref b5, .ref 14]) (h' := h) rfl ?_
          refine k_gI rfl rfl W.t0 ?_
          refine k_n 2 (pc' := 53) (L' := [some (.ref 0), some (.int x1), some (.int x2), some (.int x3), some (.int x4), some (.int x5), some (.ref b5)]) (S' := [.int x4, .int x3, .int (z_iv h 0 11), .ref b8, .ref b5, .ref 14]) (h' := h) rfl ?_
          refine k_cI 30 6 rfl rfl rfl (A := [.ref 14, .ref b5, .ref b8, .int (z_iv h 0 11), .int x3, .int x4]) rfl rfl (z_rok_ref (CW.tyOf (t := 11) (t' := 2) W (j := 8) W.t0 (W.abOf (t := 11) (j := 8) (o := 14) (n := 0) (by decide) W.t0).1 (by decide) rfl)) (rest := []) rfl (z_tyI rfl rfl) ?_
          exact H
set_option maxRecDepth 20000 in
theorem X_125_56 (y1 : Int32) (y2 : Int32) (y3 : Int32) (y4 : Int32) (y5 : Int32) (a6 : Nat) (s0 : Int32) (h : zH) (W : CW h) (Ta6 : z_tg h a6 = 4) {Q : Int64 → zH → Prop} (H : if s0 = 0 then (Q (-10000000002 : Int64) h) else (if y2 = (1 : Int32) then ((z_rv h a6 9 = none → Q (-10000000002 : Int64) h) ∧ (∀ b11, z_rv h a6 9 = some b11 → ∃ v13 : Int64, KV z_pL 31 [.ref 14, .int y2, .int y5] h v13 ∧ Q v13 h)) else (∃ v15 : Int64, KV z_pL 31 [.ref 14, .int y2, .int y5] h v15 ∧ Q v15 h))) : KG z_pL 125 56 [some (.ref 0), some (.int y1), some (.int y2), some (.int y3), some (.int y4), some (.int y5), some (.ref a6)] [.int s0] h Q := by
  refine k_b (g := s0 = 0) (pc' := 59) (L' := [some (.ref 0), some (.int y1), some (.int y2), some (.int y3), some (.int y4), some (.int y5), some (.ref a6)]) (S' := []) (pc2 := 63) (L2 := [some (.ref 0), some (.int y1), some (.int y2), some (.int y3), some (.int y4), some (.int y5), some (.ref a6)]) (S2 := []) (h' := h) (h2 := h) rfl rfl (fun hc => ?_) (fun hc => ?_)
  · have hc := hc
    rw [if_pos hc] at H
    refine k_n 1 (pc' := 62) (L' := [some (.ref 0), some (.int y1), some (.int y2), some (.int y3), some (.int y4), some (.int y5), some (.ref a6)]) (S' := [.long (-10000000002 : Int64)]) (h' := h) rfl ?_
    exact k_r rfl rfl rfl H
  · have hc := hc
    rw [if_neg hc] at H
    refine k_n 2 (pc' := 65) (L' := [some (.ref 0), some (.int y1), some (.int y2), some (.int y3), some (.int y4), some (.int y5), some (.ref a6)]) (S' := [.int (1 : Int32), .int y2]) (h' := h) rfl ?_
    refine k_b (g := y2 = (1 : Int32)) (pc' := 68) (L' := [some (.ref 0), some (.int y1), some (.int y2), some (.int y3), some (.int y4), some (.int y5), some (.ref a6)]) (S' := []) (pc2 := 80) (L2 := [some (.ref 0), some (.int y1), some (.int y2), some (.int y3), some (.int y4), some (.int y5), some (.ref a6)]) (S2 := []) (h' := h) (h2 := h) rfl rfl (fun hc => ?_) (fun hc => ?_)
    · have hc := hc
      rw [if_pos hc] at H
      refine k_n 1 (pc' := 70) (L' := [some (.ref 0), some (.int y1), some (.int y2), some (.int y3), some (.int y4), some (.int y5), some (.ref a6)]) (S' := [.ref a6]) (h' := h) rfl ?_
      obtain hb10 | ⟨b11, hb10⟩ := z_opt (z_rv h a6 9)
      · have H := H.1 hb10
        refine k_gN rfl Ta6 hb10 ?_
        refine k_n 2 (pc' := 79) (L' := [some (.ref 0), some (.int y1), some (.int y2), some (.int y3), some (.int y4), some (.int y5), some (.ref a6)]) (S' := [.long (-10000000002 : Int64)]) (h' := h) rfl ?_
        exact k_r rfl rfl rfl H
      · have H := H.2 b11 hb10
        have t12 : z_tg h b11 = 10 := (CW.tyOf (t := 4) (t' := 10) W Ta6 hb10 (by decide) rfl)
        refine k_gS rfl Ta6 hb10 ?_
        refine k_n 2 (pc' := 81) (L' := [some (.ref 0), some (.int y1), some (.int y2), some (.int y3), some (.int y4), some (.int y5), some (.ref a6)]) (S' := [.ref 0]) (h' := h) rfl ?_
        refine k_gS (b := 14) rfl W.t0 (W.abOf (t := 11) (j := 8) (o := 14) (n := 0) (by decide) W.t0).1 ?_
        refine k_n 2 (pc' := 87) (L' := [some (.ref 0), some (.int y1), some (.int y2), some (.int y3), some (.int y4), some (.int y5), some (.ref a6)]) (S' := [.int y5, .int y2, .ref 14]) (h' := h) rfl ?_
        refine k_cL 31 3 rfl rfl rfl (A := [.ref 14, .int y2, .int y5]) rfl rfl (z_rok_ref (CW.tyOf (t := 11) (t' := 2) W (j := 8) W.t0 (W.abOf (t := 11) (j := 8) (o := 14) (n := 0) (by decide) W.t0).1 (by decide) rfl)) (rest := []) rfl rfl ?_
        obtain ⟨v13, k14, H⟩ := H
        refine k_P k14 ?_
        exact k_r rfl rfl rfl H
    · have hc := hc
      rw [if_neg hc] at H
      refine k_n 1 (pc' := 81) (L' := [some (.ref 0), some (.int y1), some (.int y2), some (.int y3), some (.int y4), some (.int y5), some (.ref a6)]) (S' := [.ref 0]) (h' := h) rfl ?_
      refine k_gS (b := 14) rfl W.t0 (W.abOf (t := 11) (j := 8) (o := 14) (n := 0) (by decide) W.t0).1 ?_
      refine k_n 2 (pc' := 87) (L' := [some (.ref 0), some (.int y1), some (.int y2), some (.int y3), some (.int y4), some (.int y5), some (.ref a6)]) (S' := [.int y5, .int y2, .ref 14]) (h' := h) rfl ?_
      refine k_cL 31 3 rfl rfl rfl (A := [.ref 14, .int y2, .int y5]) rfl rfl (z_rok_ref (CW.tyOf (t := 11) (t' := 2) W (j := 8) W.t0 (W.abOf (t := 11) (j := 8) (o := 14) (n := 0) (by decide) W.t0).1 (by decide) rfl)) (rest := []) rfl rfl ?_
      obtain ⟨v15, k16, H⟩ := H
      refine k_P k16 ?_
      exact k_r rfl rfl rfl H
set_option maxRecDepth 20000 in
theorem X_126 (x1 : Int32) (x2 : Int32) (x3 : Int32) (x4 : Int32) (h : zH) (W : CW h)  {Q : Int32 → zH → Prop} (H : ∃ v1 : Option Nat, KV z_pA 148 [.ref 0, .int x1] h v1 ∧ (∀ b_, v1 = some b_ → z_tg h b_ = 4) ∧ ((v1 = none → Q (-1 : Int32) h) ∧ (∀ b5, v1 = some b5 → if ((1 : Int32) ≤ x2 ∧ x2 ≤ (24 : Int32)) ∧ (((0 : Int32) ≤ x3 ∧ x3 ≤ (9999 : Int32)) ∧ ((0 : Int32) ≤ x4 ∧ x4 ≤ (99999 : Int32))) then ((z_rv h 0 9 = none → KK z_pI 30 [.ref 14, .ref b5, .null, .int (z_iv h 0 11), .int x2, .int x3] h (fun r_ h_ => KG z_pI 126 43 [some (.ref 0), some (.int x1), some (.int x2), some (.int x3), some (.int x4), some (.ref b5), none, none, none, none, none, none, none] [.int r_] h_ Q)) ∧ (∀ b8, z_rv h 0 9 = some b8 → KK z_pI 30 [.ref 14, .ref b5, .ref b8, .int (z_iv h 0 11), .int x2, .int x3] h (fun r_ h_ => KG z_pI 126 43 [some (.ref 0), some (.int x1), some (.int x2), some (.int x3), some (.int x4), some (.ref b5), none, none, none, none, none, none, none] [.int r_] h_ Q))) else (Q (-1 : Int32) h)))) : KK z_pI 126 [.ref 0, .int x1, .int x2, .int x3, .int x4] h Q := by
  refine k_K (L := [some (.ref 0), some (.int x1), some (.int x2), some (.int x3), some (.int x4), none, none, none, none, none, none, none, none]) rfl ?_
  refine k_n 2 (pc' := 2) (L' := [some (.ref 0), some (.int x1), some (.int x2), some (.int x3), some (.int x4), none, none, none, none, none, none, none, none]) (S' := [.int x1, .ref 0]) (h' := h) rfl ?_
  refine k_cA 148 2 "SavedThird$Mine" rfl rfl rfl (A := [.ref 0, .int x1]) rfl rfl (z_rok_ref W.t0) (rest := []) rfl rfl (by decide) ?_
  obtain ⟨v1, k2, tv3, H⟩ := H
  refine k_P k2 ?_
  obtain hb4 | ⟨b5, hb4⟩ := z_opt (v1)
  · have H := H.1 hb4
    refine k_oN hb4 ?_
    refine k_n 4 (pc' := 23) (L' := [some (.ref 0), some (.int x1), some (.int x2), some (.int x3), some (.int x4), some (.null), none, none, none, none, none, none, none]) (S' := [.int (-1 : Int32)]) (h' := h) rfl ?_
    exact k_r rfl rfl rfl H
  · have H := H.2 b5 hb4
    have t6 : z_tg h b5 = 4 := tv3 _ hb4
    refine k_oS hb4 ?_
    refine k_n 6 (pc' := 16) (L' := [some (.ref 0), some (.int x1), some (.int x2), some (.int x3), some (.int x4), some (.ref b5), none, none, none, none, none, none, none]) (S' := [.int x4, .int x3, .int x2]) (h' := h) rfl ?_
    refine k_cI 144 3 rfl rfl rfl (A := [.int x2, .int x3, .int x4]) rfl rfl rfl (rest := []) rfl (z_tyI rfl rfl) ?_
    refine C_144 x2 x3 x4 h    ?_
    refine k_b (g := z_bt (((1 : Int32) ≤ x2 ∧ x2 ≤ (24 : Int32)) ∧ (((0 : Int32) ≤ x3 ∧ x3 ≤ (9999 : Int32)) ∧ ((0 : Int32) ≤ x4 ∧ x4 ≤ (99999 : Int32)))) = 0) (pc' := 22) (L' := [some (.ref 0), some (.int x1), some (.int x2), some (.int x3), some (.int x4), some (.ref b5), none, none, none, none, none, none, none]) (S' := []) (pc2 := 24) (L2 := [some (.ref 0), some (.int x1), some (.int x2), some (.int x3), some (.int x4), some (.ref b5), none, none, none, none, none, none, none]) (S2 := []) (h' := h) (h2 := h) rfl rfl (fun hc => ?_) (fun hc => ?_)
    · have hc := z_bt_0.mp hc
      rw [if_neg hc] at H
      refine k_n 1 (pc' := 23) (L' := [some (.ref 0), some (.int x1), some (.int x2), some (.int x3), some (.int x4), some (.ref b5), none, none, none, none, none, none, none]) (S' := [.int (-1 : Int32)]) (h' := h) rfl ?_
      exact k_r rfl rfl rfl H
    · have hc := Decidable.not_not.mp (fun q => hc (z_bt_0.mpr q))
      rw [if_pos hc] at H
      refine k_n 1 (pc' := 25) (L' := [some (.ref 0), some (.int x1), some (.int x2), some (.int x3), some (.int x4), some (.ref b5), none, none, none, none, none, none, none]) (S' := [.ref 0]) (h' := h) rfl ?_
      refine k_gS (b := 14) rfl W.t0 (W.abOf (t := 11) (j := 8) (o := 14) (n := 0) (by decide) W.t0).1 ?_
      refine k_n 2 (pc' := 31) (L' := [some (.ref 0), some (.int x1), some (.int x2), some (.int x3), some (.int x4), some (.ref b5), none, none, none, none, none, none, none]) (S' := [.ref 0, .ref b5, .ref 14]) (h' := h) rfl ?_
      obtain hb7 | ⟨b8, hb7⟩ := z_opt (z_rv h 0 9)
      · have H := H.1 hb7
        refine k_gN rfl W.t0 hb7 ?_
        refine k_n 1 (pc' := 35) (L' := [some (.ref 0), some (.int x1), some (.int x2), some (.int x3), some (.int x4), some (.ref b5), none, none, none, none, none, none, none]) (S' := [.ref 0, .null, .ref b5, .ref 14]) (h' := h) rfl ?_
        refine k_gI rfl rfl W.t0 ?_
        refine k_n 2 (pc' := 40) (L' := [some (.ref 0), some (.int x1), some (.int x2), some (.int x3), some (.int x4), some (.ref b5), none, none, none, none, none, none, none]) (S' := [.int x3, .int x2, .int (z_iv h 0 11), .null, .ref b5, .ref 14]) (h' := h) rfl ?_
        refine k_cI 30 6 rfl rfl rfl (A := [.ref 14, .ref b5, .null, .int (z_iv h 0 11), .int x2, .int x3]) rfl rfl (z_rok_ref (CW.tyOf (t := 11) (t' := 2) W (j := 8) W.t0 (W.abOf (t := 11) (j := 8) (o := 14) (n := 0) (by decide) W.t0).1 (by decide) rfl)) (rest := []) rfl (z_tyI rfl rfl) ?_
        exact H
      · have H := H.2 b8 hb7
        have t9 : z_tg h b8 = 1 := (CW.tyOf (t := 11) (t' := 1) W W.t0 hb7 (by decide) rfl)
        refine k_gS rfl W.t0 hb7 ?_
        refine k_n 1 (pc' := 35) (L' := [some (.ref 0), some (.int x1), some (.int x2), some (.int x3), some (.int x4), some (.ref b5), none, none, none, none, none, none, none]) (S' := [.ref 0, .ref b8, .ref b5, .ref 14]) (h' := h) rfl ?_
        refine k_gI rfl rfl W.t0 ?_
        refine k_n 2 (pc' := 40) (L' := [some (.ref 0), some (.int x1), some (.int x2), some (.int x3), some (.int x4), some (.ref b5), none, none, none, none, none, none, none]) (S' := [.int x3, .int x2, .int (z_iv h 0 11), .ref b8, .ref b5, .ref 14]) (h' := h) rfl ?_
        refine k_cI 30 6 rfl rfl rfl (A := [.ref 14, .ref b5, .ref b8, .int (z_iv h 0 11), .int x2, .int x3]) rfl rfl (z_rok_ref (CW.tyOf (t := 11) (t' := 2) W (j := 8) W.t0 (W.abOf (t := 11) (j := 8) (o := 14) (n := 0) (by decide) W.t0).1 (by decide) rfl)) (rest := []) rfl (z_tyI rfl rfl) ?_
        exact H
set_option maxRecDepth 20000 in
theorem X_126_43 (y1 : Int32) (y2 : Int32) (y3 : Int32) (y4 : Int32) (a5 : Nat) (u6 : Option Value) (u7 : Option Value) (u8 : Option Value) (u9 : Option Value) (u10 : Option Value) (u11 : Option Value) (u12 : Option Value) (s0 : Int32) (h : zH) (W : CW h) (Ta5 : z_tg h a5 = 4) {Q : Int32 → zH → Prop} (H : if s0 = 0 then (Q (-2 : Int32) h) else (∃ v10 : Int64, KV z_pL 31 [.ref 14, .int (0 : Int32), .int y4] h v10 ∧ KG z_pI 126 67 [some (.ref 0), some (.int y1), some (.int y2), some (.int y3), some (.int y4), some (.ref a5), some (.int (0 : Int32)), some (.long v10), none, some (.int (1 : Int32)), u10, u11, u12] [] h Q)) : KG z_pI 126 43 [some (.ref 0), some (.int y1), some (.int y2), some (.int y3), some (.int y4), some (.ref a5), u6, u7, u8, u9, u10, u11, u12] [.int s0] h Q := by
  refine k_b (g := s0 = 0) (pc' := 46) (L' := [some (.ref 0), some (.int y1), some (.int y2), some (.int y3), some (.int y4), some (.ref a5), u6, u7, u8, u9, u10, u11, u12]) (S' := []) (pc2 := 49) (L2 := [some (.ref 0), some (.int y1), some (.int y2), some (.int y3), some (.int y4), some (.ref a5), u6, u7, u8, u9, u10, u11, u12]) (S2 := []) (h' := h) (h2 := h) rfl rfl (fun hc => ?_) (fun hc => ?_)
  · have hc := hc
    rw [if_pos hc] at H
    refine k_n 1 (pc' := 48) (L' := [some (.ref 0), some (.int y1), some (.int y2), some (.int y3), some (.int y4), some (.ref a5), u6, u7, u8, u9, u10, u11, u12]) (S' := [.int (-2 : Int32)]) (h' := h) rfl ?_
    exact k_r rfl rfl rfl H
  · have hc := hc
    rw [if_neg hc] at H
    refine k_n 3 (pc' := 53) (L' := [some (.ref 0), some (.int y1), some (.int y2), some (.int y3), some (.int y4), some (.ref a5), some (.int (0 : Int32)), u7, u8, u9, u10, u11, u12]) (S' := [.ref 0]) (h' := h) rfl ?_
    refine k_gS (b := 14) rfl W.t0 (W.abOf (t := 11) (j := 8) (o := 14) (n := 0) (by decide) W.t0).1 ?_
    refine k_n 2 (pc' := 59) (L' := [some (.ref 0), some (.int y1), some (.int y2), some (.int y3), some (.int y4), some (.ref a5), some (.int (0 : Int32)), u7, u8, u9, u10, u11, u12]) (S' := [.int y4, .int (0 : Int32), .ref 14]) (h' := h) rfl ?_
    refine k_cL 31 3 rfl rfl rfl (A := [.ref 14, .int (0 : Int32), .int y4]) rfl rfl (z_rok_ref (CW.tyOf (t := 11) (t' := 2) W (j := 8) W.t0 (W.abOf (t := 11) (j := 8) (o := 14) (n := 0) (by decide) W.t0).1 (by decide) rfl)) (rest := []) rfl rfl ?_
    obtain ⟨v10, k11, H⟩ := H
    refine k_P k11 ?_
    refine k_n 3 (pc' := 67) (L' := [some (.ref 0), some (.int y1), some (.int y2), some (.int y3), some (.int y4), some (.ref a5), some (.int (0 : Int32)), some (.long v10), none, some (.int (1 : Int32)), u10, u11, u12]) (S' := []) (h' := h) rfl ?_
    exact H
set_option maxRecDepth 20000 in
theorem X_126_67 (y1 : Int32) (y2 : Int32) (y3 : Int32) (y4 : Int32) (a5 : Nat) (y6 : Int32) (y7 : Int64) (y9 : Int32) (u10 : Option Value) (u11 : Option Value) (u12 : Option Value) (h : zH) (W : CW h) (Ta5 : z_tg h a5 = 4) {Q : Int32 → zH → Prop} (H : if (2 : Int32) < y9 then (Q y6 h) else (if y9 = (1 : Int32) then ((z_rv h a5 9 = none → ∃ v15 : Int64, KV z_pL 31 [.ref 14, .int y9, .int y4] h v15 ∧ KG z_pI 126 67 [some (.ref 0), some (.int y1), some (.int y2), some (.int y3), some (.int y4), some (.ref a5), some (.int y6), some (.long y7), none, some (.int (y9 + (1 : Int32))), some (.int (0 : Int32)), some (.long v15), none] [] h Q) ∧ (∀ b13, z_rv h a5 9 = some b13 → ∃ v17 : Int64, KV z_pL 31 [.ref 14, .int y9, .int y4] h v17 ∧ (∀ m20 : Int32, m20 = (if v17 ≤ y7 then y6 else y9) → ∀ m21 : Int64, m21 = (if v17 ≤ y7 then y7 else v17) → KG z_pI 126 67 [some (.ref 0), some (.int y1), some (.int y2), some (.int y3), some (.int y4), some (.ref a5), some (.int m20), some (.long m21), none, some (.int (y9 + (1 : Int32))), some (.int (1 : Int32)), some (.long v17), none] [] h Q))) else (∃ v23 : Int64, KV z_pL 31 [.ref 14, .int y9, .int y4] h v23 ∧ (∀ m26 : Int32, m26 = (if v23 ≤ y7 then y6 else y9) → ∀ m27 : Int64, m27 = (if v23 ≤ y7 then y7 else v23) → KG z_pI 126 67 [some (.ref 0), some (.int y1), some (.int y2), some (.int y3), some (.int y4), some (.ref a5), some (.int m26), some (.long m27), none, some (.int (y9 + (1 : Int32))), some (.int (1 : Int32)), some (.long v23), none] [] h Q)))) : KG z_pI 126 67 [some (.ref 0), some (.int y1), some (.int y2), some (.int y3), some (.int y4), some (.ref a5), some (.int y6), some (.long y7), none, some (.int y9), u10, u11, u12] [] h Q := by
  refine k_n 2 (pc' := 70) (L' := [some (.ref 0), some (.int y1), some (.int y2), some (.int y3), some (.int y4), some (.ref a5), some (.int y6), some (.long y7), none, some (.int y9), u10, u11, u12]) (S' := [.int (2 : Int32), .int y9]) (h' := h) rfl ?_
  refine k_b (g := (2 : Int32) < y9) (pc' := 134) (L' := [some (.ref 0), some (.int y1), some (.int y2), some (.int y3), some (.int y4), some (.ref a5), some (.int y6), some (.long y7), none, some (.int y9), u10, u11, u12]) (S' := []) (pc2 := 73) (L2 := [some (.ref 0), some (.int y1), some (.int y2), some (.int y3), some (.int y4), some (.ref a5), some (.int y6), some (.long y7), none, some (.int y9), u10, u11, u12]) (S2 := []) (h' := h) (h2 := h) rfl rfl (fun hc => ?_) (fun hc => ?_)
  · have hc := hc
    rw [if_pos hc] at H
    refine k_n 1 (pc' := 136) (L' := [some (.ref 0), some (.int y1), some (.int y2), some (.int y3), some (.int y4), some (.ref a5), some (.int y6), some (.long y7), none, some (.int y9), u10, u11, u12]) (S' := [.int y6]) (h' := h) rfl ?_
    exact k_r rfl rfl rfl H
  · have hc := hc
    rw [if_neg hc] at H
    refine k_n 2 (pc' := 76) (L' := [some (.ref 0), some (.int y1), some (.int y2), some (.int y3), some (.int y4), some (.ref a5), some (.int y6), some (.long y7), none, some (.int y9), u10, u11, u12]) (S' := [.int (1 : Int32), .int y9]) (h' := h) rfl ?_
    refine k_b (g := y9 = (1 : Int32)) (pc' := 79) (L' := [some (.ref 0), some (.int y1), some (.int y2), some (.int y3), some (.int y4), some (.ref a5), some (.int y6), some (.long y7), none, some (.int y9), u10, u11, u12]) (S' := []) (pc2 := 87) (L2 := [some (.ref 0), some (.int y1), some (.int y2), some (.int y3), some (.int y4), some (.ref a5), some (.int y6), some (.long y7), none, some (.int y9), u10, u11, u12]) (S2 := []) (h' := h) (h2 := h) rfl rfl (fun hc => ?_) (fun hc => ?_)
    · have hc := hc
      rw [if_pos hc] at H
      refine k_n 1 (pc' := 81) (L' := [some (.ref 0), some (.int y1), some (.int y2), some (.int y3), some (.int y4), some (.ref a5), some (.int y6), some (.long y7), none, some (.int y9), u10, u11, u12]) (S' := [.ref a5]) (h' := h) rfl ?_
      obtain hb12 | ⟨b13, hb12⟩ := z_opt (z_rv h a5 9)
      · have H := H.1 hb12
        refine k_gN rfl Ta5 hb12 ?_
        refine k_n 4 (pc' := 95) (L' := [some (.ref 0), some (.int y1), some (.int y2), some (.int y3), some (.int y4), some (.ref a5), some (.int y6), some (.long y7), none, some (.int y9), some (.int (0 : Int32)), u11, u12]) (S' := [.ref 0]) (h' := h) rfl ?_
        refine k_gS (b := 14) rfl W.t0 (W.abOf (t := 11) (j := 8) (o := 14) (n := 0) (by decide) W.t0).1 ?_
        refine k_n 2 (pc' := 102) (L' := [some (.ref 0), some (.int y1), some (.int y2), some (.int y3), some (.int y4), some (.ref a5), some (.int y6), some (.long y7), none, some (.int y9), some (.int (0 : Int32)), u11, u12]) (S' := [.int y4, .int y9, .ref 14]) (h' := h) rfl ?_
        refine k_cL 31 3 rfl rfl rfl (A := [.ref 14, .int y9, .int y4]) rfl rfl (z_rok_ref (CW.tyOf (t := 11) (t' := 2) W (j := 8) W.t0 (W.abOf (t := 11) (j := 8) (o := 14) (n := 0) (by decide) W.t0).1 (by decide) rfl)) (rest := []) rfl rfl ?_
        obtain ⟨v15, k16, H⟩ := H
        refine k_P k16 ?_
        refine k_n 5 (pc' := 67) (L' := [some (.ref 0), some (.int y1), some (.int y2), some (.int y3), some (.int y4), some (.ref a5), some (.int y6), some (.long y7), none, some (.int (y9 + (1 : Int32))), some (.int (0 : Int32)), some (.long v15), none]) (S' := []) (h' := h) rfl ?_
        exact H
      · have H := H.2 b13 hb12
        have t14 : z_tg h b13 = 10 := (CW.tyOf (t := 4) (t' := 10) W Ta5 hb12 (by decide) rfl)
        refine k_gS rfl Ta5 hb12 ?_
        refine k_n 5 (pc' := 95) (L' := [some (.ref 0), some (.int y1), some (.int y2), some (.int y3), some (.int y4), some (.ref a5), some (.int y6), some (.long y7), none, some (.int y9), some (.int (1 : Int32)), u11, u12]) (S' := [.ref 0]) (h' := h) rfl ?_
        refine k_gS (b := 14) rfl W.t0 (W.abOf (t := 11) (j := 8) (o := 14) (n := 0) (by decide) W.t0).1 ?_
        refine k_n 2 (pc' := 102) (L' := [some (.ref 0), some (.int y1), some (.int y2), some (.int y3), some (.int y4), some (.ref a5), some (.int y6), some (.long y7), none, some (.int y9), some (.int (1 : Int32)), u11, u12]) (S' := [.int y4, .int y9, .ref 14]) (h' := h) rfl ?_
        refine k_cL 31 3 rfl rfl rfl (A := [.ref 14, .int y9, .int y4]) rfl rfl (z_rok_ref (CW.tyOf (t := 11) (t' := 2) W (j := 8) W.t0 (W.abOf (t := 11) (j := 8) (o := 14) (n := 0) (by decide) W.t0).1 (by decide) rfl)) (rest := []) rfl rfl ?_
        obtain ⟨v17, k18, H⟩ := H
        refine k_P k18 ?_
        refine k_n 6 (pc' := 117) (L' := [some (.ref 0), some (.int y1), some (.int y2), some (.int y3), some (.int y4), some (.ref a5), some (.int y6), some (.long y7), none, some (.int y9), some (.int (1 : Int32)), some (.long v17), none]) (S' := [.int (z_cmp v17 y7)]) (h' := h) rfl ?_
        obtain ⟨m20, em20⟩ : ∃ m : Int32, m = (if v17 ≤ y7 then y6 else y9) := ⟨_, rfl⟩
        have H := H m20 em20
        obtain ⟨m21, em21⟩ : ∃ m : Int64, m = (if v17 ≤ y7 then y7 else v17) := ⟨_, rfl⟩
        have H := H m21 em21
        have hj22 : KG z_pI 126 128 [some (.ref 0), some (.int y1), some (.int y2), some (.int y3), some (.int y4), some (.ref a5), some (.int m20), some (.long m21), none, some (.int y9), some (.int (1 : Int32)), some (.long v17), none] [] h Q := by
          refine k_n 2 (pc' := 67) (L' := [some (.ref 0), some (.int y1), some (.int y2), some (.int y3), some (.int y4), some (.ref a5), some (.int m20), some (.long m21), none, some (.int (y9 + (1 : Int32))), some (.int (1 : Int32)), some (.long v17), none]) (S' := []) (h' := h) rfl ?_
          exact H
        refine k_b (g := z_cmp v17 y7 ≤ 0) (pc' := 128) (L' := [some (.ref 0), some (.int y1), some (.int y2), some (.int y3), some (.int y4), some (.ref a5), some (.int y6), some (.long y7), none, some (.int y9), some (.int (1 : Int32)), some (.long v17), none]) (S' := []) (pc2 := 120) (L2 := [some (.ref 0), some (.int y1), some (.int y2), some (.int y3), some (.int y4), some (.ref a5), some (.int y6), some (.long y7), none, some (.int y9), some (.int (1 : Int32)), some (.long v17), none]) (S2 := []) (h' := h) (h2 := h) rfl rfl (fun hc => ?_) (fun hc => ?_)
        · have c19 := z_cmp_le.mp hc
          rw [(em20.trans (by rw [if_pos c19]) : m20 = y6)] at hj22
          rw [(em21.trans (by rw [if_pos c19]) : m21 = y7)] at hj22
          exact hj22
        · have c19 := (fun q => hc (z_cmp_le.mpr q))
          refine k_n 4 (pc' := 128) (L' := [some (.ref 0), some (.int y1), some (.int y2), some (.int y3), some (.int y4), some (.ref a5), some (.int y9), some (.long v17), none, some (.int y9), some (.int (1 : Int32)), some (.long v17), none]) (S' := []) (h' := h) rfl ?_
          rw [(em20.trans (by rw [if_neg c19]) : m20 = y9)] at hj22
          rw [(em21.trans (by rw [if_neg c19]) : m21 = v17)] at hj22
          exact hj22
    · have hc := hc
      rw [if_neg hc] at H
      refine k_n 4 (pc' := 95) (L' := [some (.ref 0), some (.int y1), some (.int y2), some (.int y3), some (.int y4), some (.ref a5), some (.int y6), some (.long y7), none, some (.int y9), some (.int (1 : Int32)), u11, u12]) (S' := [.ref 0]) (h' := h) rfl ?_
      refine k_gS (b := 14) rfl W.t0 (W.abOf (t := 11) (j := 8) (o := 14) (n := 0) (by decide) W.t0).1 ?_
      refine k_n 2 (pc' := 102) (L' := [some (.ref 0), some (.int y1), some (.int y2), some (.int y3), some (.int y4), some (.ref a5), some (.int y6), some (.long y7), none, some (.int y9), some (.int (1 : Int32)), u11, u12]) (S' := [.int y4, .int y9, .ref 14]) (h' := h) rfl ?_
      refine k_cL 31 3 rfl rfl rfl (A := [.ref 14, .int y9, .int y4]) rfl rfl (z_rok_ref (CW.tyOf (t := 11) (t' := 2) W (j := 8) W.t0 (W.abOf (t := 11) (j := 8) (o := 14) (n := 0) (by decide) W.t0).1 (by decide) rfl)) (rest := []) rfl rfl ?_
      obtain ⟨v23, k24, H⟩ := H
      refine k_P k24 ?_
      refine k_n 6 (pc' := 117) (L' := [some (.ref 0), some (.int y1), some (.int y2), some (.int y3), some (.int y4), some (.ref a5), some (.int y6), some (.long y7), none, some (.int y9), some (.int (1 : Int32)), some (.long v23), none]) (S' := [.int (z_cmp v23 y7)]) (h' := h) rfl ?_
      obtain ⟨m26, em26⟩ : ∃ m : Int32, m = (if v23 ≤ y7 then y6 else y9) := ⟨_, rfl⟩
      have H := H m26 em26
      obtain ⟨m27, em27⟩ : ∃ m : Int64, m = (if v23 ≤ y7 then y7 else v23) := ⟨_, rfl⟩
      have H := H m27 em27
      have hj28 : KG z_pI 126 128 [some (.ref 0), some (.int y1), some (.int y2), some (.int y3), some (.int y4), some (.ref a5), some (.int m26), some (.long m27), none, some (.int y9), some (.int (1 : Int32)), some (.long v23), none] [] h Q := by
        refine k_n 2 (pc' := 67) (L' := [some (.ref 0), some (.int y1), some (.int y2), some (.int y3), some (.int y4), some (.ref a5), some (.int m26), some (.long m27), none, some (.int (y9 + (1 : Int32))), some (.int (1 : Int32)), some (.long v23), none]) (S' := []) (h' := h) rfl ?_
        exact H
      refine k_b (g := z_cmp v23 y7 ≤ 0) (pc' := 128) (L' := [some (.ref 0), some (.int y1), some (.int y2), some (.int y3), some (.int y4), some (.ref a5), some (.int y6), some (.long y7), none, some (.int y9), some (.int (1 : Int32)), some (.long v23), none]) (S' := []) (pc2 := 120) (L2 := [some (.ref 0), some (.int y1), some (.int y2), some (.int y3), some (.int y4), some (.ref a5), some (.int y6), some (.long y7), none, some (.int y9), some (.int (1 : Int32)), some (.long v23), none]) (S2 := []) (h' := h) (h2 := h) rfl rfl (fun hc => ?_) (fun hc => ?_)
      · have c25 := z_cmp_le.mp hc
        rw [(em26.trans (by rw [if_pos c25]) : m26 = y6)] at hj28
        rw [(em27.trans (by rw [if_pos c25]) : m27 = y7)] at hj28
        exact hj28
      · have c25 := (fun q => hc (z_cmp_le.mpr q))
        refine k_n 4 (pc' := 128) (L' := [some (.ref 0), some (.int y1), some (.int y2), some (.int y3), some (.int y4), some (.ref a5), some (.int y9), some (.long v23), none, some (.int y9), some (.int (1 : Int32)), some (.long v23), none]) (S' := []) (h' := h) rfl ?_
        rw [(em26.trans (by rw [if_neg c25]) : m26 = y9)] at hj28
        rw [(em27.trans (by rw [if_neg c25]) : m27 = v23)] at hj28
        exact hj28
set_option maxRecDepth 20000 in
theorem X_127 (x1 : Int32) (x2 : Int32) (x3 : Int32) (x4 : Int32) (x5 : Int32) (h : zH) (W : CW h)  {Q : Int32 → zH → Prop} (H : ∃ v1 : Option Nat, KV z_pA 148 [.ref 0, .int x1] h v1 ∧ (∀ b_, v1 = some b_ → z_tg h b_ = 4) ∧ ((v1 = none → Q (-1 : Int32) h) ∧ (∀ b5, v1 = some b5 → if ((1 : Int32) ≤ x2 ∧ x2 ≤ (24 : Int32)) ∧ (((0 : Int32) ≤ x3 ∧ x3 ≤ (9999 : Int32)) ∧ ((0 : Int32) ≤ x4 ∧ x4 ≤ (99999 : Int32))) then (if (0 : Int32) ≤ x5 ∧ x5 ≤ (1 : Int32) then ((z_rv h 0 9 = none → KK z_pI 30 [.ref 14, .ref b5, .null, .int (z_iv h 0 11), .int x2, .int x3] h (fun r_ h_ => KG z_pI 127 53 [some (.ref 0), some (.int x1), some (.int x2), some (.int x3), some (.int x4), some (.int x5), some (.ref b5), none, none, none, none, none, none] [.int r_] h_ Q)) ∧ (∀ b8, z_rv h 0 9 = some b8 → KK z_pI 30 [.ref 14, .ref b5, .ref b8, .int (z_iv h 0 11), .int x2, .int x3] h (fun r_ h_ => KG z_pI 127 53 [some (.ref 0), some (.int x1), some (.int x2), some (.int x3), some (.int x4), some (.int x5), some (.ref b5), none, none, none, none, none, none] [.int r_] h_ Q))) else (Q (-1 : Int32) h)) else (Q (-1 : Int32) h)))) : KK z_pI 127 [.ref 0, .int x1, .int x2, .int x3, .int x4, .int x5] h Q := by
  refine k_K (L := [some (.ref 0), some (.int x1), some (.int x2), some (.int x3), some (.int x4), some (.int x5), none, none, none, none, none, none, none]) rfl ?_
  refine k_n 2 (pc' := 2) (L' := [some (.ref 0), some (.int x1), some (.int x2), some (.int x3), some (.int x4), some (.int x5), none, none, none, none, none, none, none]) (S' := [.int x1, .ref 0]) (h' := h) rfl ?_
  refine k_cA 148 2 "SavedThird$Mine" rfl rfl rfl (A := [.ref 0, .int x1]) rfl rfl (z_rok_ref W.t0) (rest := []) rfl rfl (by decide) ?_
  obtain ⟨v1, k2, tv3, H⟩ := H
  refine k_P k2 ?_
  obtain hb4 | ⟨b5, hb4⟩ := z_opt (v1)
  · have H := H.1 hb4
    refine k_oN hb4 ?_
    refine k_n 4 (pc' := 33) (L' := [some (.ref 0), some (.int x1), some (.int x2), some (.int x3), some (.int x4), some (.int x5), some (.null), none, none, none, none, none, none]) (S' := [.int (-1 : Int32)]) (h' := h) rfl ?_
    exact k_r rfl rfl rfl H
  · have H := H.2 b5 hb4
    have t6 : z_tg h b5 = 4 := tv3 _ hb4
    refine k_oS hb4 ?_
    refine k_n 6 (pc' := 16) (L' := [some (.ref 0), some (.int x1), some (.int x2), some (.int x3), some (.int x4), some (.int x5), some (.ref b5), none, none, none, none, none, none]) (S' := [.int x4, .int x3, .int x2]) (h' := h) rfl ?_
    refine k_cI 144 3 rfl rfl rfl (A := [.int x2, .int x3, .int x4]) rfl rfl rfl (rest := []) rfl (z_tyI rfl rfl) ?_
    refine C_144 x2 x3 x4 h    ?_
    refine k_b (g := z_bt (((1 : Int32) ≤ x2 ∧ x2 ≤ (24 : Int32)) ∧ (((0 : Int32) ≤ x3 ∧ x3 ≤ (9999 : Int32)) ∧ ((0 : Int32) ≤ x4 ∧ x4 ≤ (99999 : Int32)))) = 0) (pc' := 32) (L' := [some (.ref 0), some (.int x1), some (.int x2), some (.int x3), some (.int x4), some (.int x5), some (.ref b5), none, none, none, none, none, none]) (S' := []) (pc2 := 22) (L2 := [some (.ref 0), some (.int x1), some (.int x2), some (.int x3), some (.int x4), some (.int x5), some (.ref b5), none, none, none, none, none, none]) (S2 := []) (h' := h) (h2 := h) rfl rfl (fun hc => ?_) (fun hc => ?_)
    · have hc := z_bt_0.mp hc
      rw [if_neg hc] at H
      refine k_n 1 (pc' := 33) (L' := [some (.ref 0), some (.int x1), some (.int x2), some (.int x3), some (.int x4), some (.int x5), some (.ref b5), none, none, none, none, none, none]) (S' := [.int (-1 : Int32)]) (h' := h) rfl ?_
      exact k_r rfl rfl rfl H
    · have hc := Decidable.not_not.mp (fun q => hc (z_bt_0.mpr q))
      rw [if_pos hc] at H
      refine k_n 3 (pc' := 26) (L' := [some (.ref 0), some (.int x1), some (.int x2), some (.int x3), some (.int x4), some (.int x5), some (.ref b5), none, none, none, none, none, none]) (S' := [.int (1 : Int32), .int (0 : Int32), .int x5]) (h' := h) rfl ?_
      refine k_cI 135 3 rfl rfl rfl (A := [.int x5, .int (0 : Int32), .int (1 : Int32)]) rfl rfl rfl (rest := []) rfl (z_tyI rfl rfl) ?_
      refine c_within x5 (0 : Int32) (1 : Int32) h ?_
      refine k_b (g := z_bt ((0 : Int32) ≤ x5 ∧ x5 ≤ (1 : Int32)) = 0) (pc' := 32) (L' := [some (.ref 0), some (.int x1), some (.int x2), some (.int x3), some (.int x4), some (.int x5), some (.ref b5), none, none, none, none, none, none]) (S' := []) (pc2 := 34) (L2 := [some (.ref 0), some (.int x1), some (.int x2), some (.int x3), some (.int x4), some (.int x5), some (.ref b5), none, none, none, none, none, none]) (S2 := []) (h' := h) (h2 := h) rfl rfl (fun hc => ?_) (fun hc => ?_)
      · have hc := z_bt_0.mp hc
        rw [if_neg hc] at H
        refine k_n 1 (pc' := 33) (L' := [some (.ref 0), some (.int x1), some (.int x2), some (.int x3), some (.int x4), some (.int x5), some (.ref b5), none, none, none, none, none, none]) (S' := [.int (-1 : Int32)]) (h' := h) rfl ?_
        exact k_r rfl rfl rfl H
      · have hc := Decidable.not_not.mp (fun q => hc (z_bt_0.mpr q))
        rw [if_pos hc] at H
        refine k_n 1 (pc' := 35) (L' := [some (.ref 0), some (.int x1), some (.int x2), some (.int x3), some (.int x4), some (.int x5), some (.ref b5), none, none, none, none, none, none]) (S' := [.ref 0]) (h' := h) rfl ?_
        refine k_gS (b := 14) rfl W.t0 (W.abOf (t := 11) (j := 8) (o := 14) (n := 0) (by decide) W.t0).1 ?_
        refine k_n 2 (pc' := 41) (L' := [some (.ref 0), some (.int x1), some (.int x2), some (.int x3), some (.int x4), some (.int x5), some (.ref b5), none, none, none, none, none, none]) (S' := [.ref 0, .ref b5, .ref 14]) (h' := h) rfl ?_
        obtain hb7 | ⟨b8, hb7⟩ := z_opt (z_rv h 0 9)
        · have H := H.1 hb7
          refine k_gN rfl W.t0 hb7 ?_
          refine k_n 1 (pc' := 45) (L' := [some (.ref 0), some (.int x1), some (.int x2), some (.int x3), some (.int x4), some (.int x5), some (.ref b5), none, none, none, none, none, none]) (S' := [.ref 0, .null, .ref b5, .ref 14]) (h' := h) rfl ?_
          refine k_gI rfl rfl W.t0 ?_
          refine k_n 2 (pc' := 50) (L' := [some (.ref 0), some (.int x1), some (.int x2), some (.int x3), some (.int x4), some (.int x5), some (.ref b5), none, none, none, none, none, none]) (S' := [.int x3, .int x2, .int (z_iv h 0 11), .null, .ref b5, .ref 14]) (h' := h) rfl ?_
          refine k_cI 30 6 rfl rfl rfl (A := [.ref 14, .ref b5, .null, .int (z_iv h 0 11), .int x2, .int x3]) rfl rfl (z_rok_ref (CW.tyOf (t := 11) (t' := 2) W (j := 8) W.t0 (W.abOf (t := 11) (j := 8) (o := 14) (n := 0) (by decide) W.t0).1 (by decide) rfl)) (rest := []) rfl (z_tyI rfl rfl) ?_
          exact H
        · have H := H.2 b8 hb7
          have t9 : z_tg h b8 = 1 := (CW.tyOf (t := 11) (t' := 1) W W.t0 hb7 (by decide) rfl)
          refine k_gS rfl W.t0 hb7 ?_
          refine k_n 1 (pc' := 45) (L' := [some (.ref 0), some (.int x1), some (.int x2), some (.int x3), some (.int x4), some (.int x5), some (.ref b5), none, none, none, none, none, none]) (S' := [.ref 0, .ref b8, .ref b5, .ref 14]) (h' := h) rfl ?_
          refine k_gI rfl rfl W.t0 ?_
          refine k_n 2 (pc' := 50) (L' := [some (.ref 0), some (.int x1), some (.int x2), some (.int x3), some (.int x4), some (.int x5), some (.ref b5), none, none, none, none, none, none]) (S' := [.int x3, .int x2, .int (z_iv h 0 11), .ref b8, .ref b5, .ref 14]) (h' := h) rfl ?_
          refine k_cI 30 6 rfl rfl rfl (A := [.ref 14, .ref b5, .ref b8, .int (z_iv h 0 11), .int x2, .int x3]) rfl rfl (z_rok_ref (CW.tyOf (t := 11) (t' := 2) W (j := 8) W.t0 (W.abOf (t := 11) (j := 8) (o := 14) (n := 0) (by decide) W.t0).1 (by decide) rfl)) (rest := []) rfl (z_tyI rfl rfl) ?_
          exact H
set_option maxRecDepth 20000 in
theorem X_127_53 (y1 : Int32) (y2 : Int32) (y3 : Int32) (y4 : Int32) (y5 : Int32) (a6 : Nat) (u7 : Option Value) (u8 : Option Value) (u9 : Option Value) (u10 : Option Value) (u11 : Option Value) (u12 : Option Value) (s0 : Int32) (h : zH) (W : CW h) (Ta6 : z_tg h a6 = 4) {Q : Int32 → zH → Prop} (H : if s0 = 0 then (Q (-2 : Int32) h) else ((z_rv h a6 9 = none → Q (-2 : Int32) h) ∧ (∀ b11, z_rv h a6 9 = some b11 → ∃ v13 : Int64, KV z_pL 34 [.ref 14] h v13 ∧ (∃ v15 : Int64, KV z_pL 32 [.ref 14] h v15 ∧ (∃ v17 : Int64, KV z_pL 31 [.ref 14, .int (1 : Int32), .int y4] h v17 ∧ (if (s_up v13 y2.toInt64) ≤ (if (s_dn (v15 - v17) y2.toInt64) < (9999 : Int64) then (s_dn (v15 - v17) y2.toInt64) else (9999 : Int64)) then (∀ m20 : Int64, m20 = (if y5 = 0 then (s_up v13 y2.toInt64) else (if (s_dn (v15 - v17) y2.toInt64) < (9999 : Int64) then (s_dn (v15 - v17) y2.toInt64) else (9999 : Int64))) → Q m20.toInt32 h) else (Q (-4 : Int32) h))))))) : KG z_pI 127 53 [some (.ref 0), some (.int y1), some (.int y2), some (.int y3), some (.int y4), some (.int y5), some (.ref a6), u7, u8, u9, u10, u11, u12] [.int s0] h Q := by
  refine k_b (g := s0 = 0) (pc' := 64) (L' := [some (.ref 0), some (.int y1), some (.int y2), some (.int y3), some (.int y4), some (.int y5), some (.ref a6), u7, u8, u9, u10, u11, u12]) (S' := []) (pc2 := 56) (L2 := [some (.ref 0), some (.int y1), some (.int y2), some (.int y3), some (.int y4), some (.int y5), some (.ref a6), u7, u8, u9, u10, u11, u12]) (S2 := []) (h' := h) (h2 := h) rfl rfl (fun hc => ?_) (fun hc => ?_)
  · have hc := hc
    rw [if_pos hc] at H
    refine k_n 1 (pc' := 66) (L' := [some (.ref 0), some (.int y1), some (.int y2), some (.int y3), some (.int y4), some (.int y5), some (.ref a6), u7, u8, u9, u10, u11, u12]) (S' := [.int (-2 : Int32)]) (h' := h) rfl ?_
    exact k_r rfl rfl rfl H
  · have hc := hc
    rw [if_neg hc] at H
    refine k_n 1 (pc' := 58) (L' := [some (.ref 0), some (.int y1), some (.int y2), some (.int y3), some (.int y4), some (.int y5), some (.ref a6), u7, u8, u9, u10, u11, u12]) (S' := [.ref a6]) (h' := h) rfl ?_
    obtain hb10 | ⟨b11, hb10⟩ := z_opt (z_rv h a6 9)
    · have H := H.1 hb10
      refine k_gN rfl Ta6 hb10 ?_
      refine k_n 2 (pc' := 66) (L' := [some (.ref 0), some (.int y1), some (.int y2), some (.int y3), some (.int y4), some (.int y5), some (.ref a6), u7, u8, u9, u10, u11, u12]) (S' := [.int (-2 : Int32)]) (h' := h) rfl ?_
      exact k_r rfl rfl rfl H
    · have H := H.2 b11 hb10
      have t12 : z_tg h b11 = 10 := (CW.tyOf (t := 4) (t' := 10) W Ta6 hb10 (by decide) rfl)
      refine k_gS rfl Ta6 hb10 ?_
      refine k_n 2 (pc' := 68) (L' := [some (.ref 0), some (.int y1), some (.int y2), some (.int y3), some (.int y4), some (.int y5), some (.ref a6), u7, u8, u9, u10, u11, u12]) (S' := [.ref 0]) (h' := h) rfl ?_
      refine k_gS (b := 14) rfl W.t0 (W.abOf (t := 11) (j := 8) (o := 14) (n := 0) (by decide) W.t0).1 ?_
      refine k_cL 34 1 rfl rfl rfl (A := [.ref 14]) rfl rfl (z_rok_ref (CW.tyOf (t := 11) (t' := 2) W (j := 8) W.t0 (W.abOf (t := 11) (j := 8) (o := 14) (n := 0) (by decide) W.t0).1 (by decide) rfl)) (rest := []) rfl rfl ?_
      obtain ⟨v13, k14, H⟩ := H
      refine k_P k14 ?_
      refine k_n 2 (pc' := 76) (L' := [some (.ref 0), some (.int y1), some (.int y2), some (.int y3), some (.int y4), some (.int y5), some (.ref a6), u7, u8, u9, u10, u11, u12]) (S' := [.long y2.toInt64, .long v13]) (h' := h) rfl ?_
      refine k_cL 147 2 rfl rfl rfl (A := [.long v13, .long y2.toInt64]) rfl rfl rfl (rest := []) rfl rfl ?_
      refine c_up v13 y2.toInt64 h  ?_
      refine k_n 2 (pc' := 82) (L' := [some (.ref 0), some (.int y1), some (.int y2), some (.int y3), some (.int y4), some (.int y5), some (.ref a6), some (.long (s_up v13 y2.toInt64)), none, u9, u10, u11, u12]) (S' := [.ref 0]) (h' := h) rfl ?_
      refine k_gS (b := 14) rfl W.t0 (W.abOf (t := 11) (j := 8) (o := 14) (n := 0) (by decide) W.t0).1 ?_
      refine k_cL 32 1 rfl rfl rfl (A := [.ref 14]) rfl rfl (z_rok_ref (CW.tyOf (t := 11) (t' := 2) W (j := 8) W.t0 (W.abOf (t := 11) (j := 8) (o := 14) (n := 0) (by decide) W.t0).1 (by decide) rfl)) (rest := []) rfl rfl ?_
      obtain ⟨v15, k16, H⟩ := H
      refine k_P k16 ?_
      refine k_n 1 (pc' := 89) (L' := [some (.ref 0), some (.int y1), some (.int y2), some (.int y3), some (.int y4), some (.int y5), some (.ref a6), some (.long (s_up v13 y2.toInt64)), none, u9, u10, u11, u12]) (S' := [.ref 0, .long v15]) (h' := h) rfl ?_
      refine k_gS (b := 14) rfl W.t0 (W.abOf (t := 11) (j := 8) (o := 14) (n := 0) (by decide) W.t0).1 ?_
      refine k_n 2 (pc' := 95) (L' := [some (.ref 0), some (.int y1), some (.int y2), some (.int y3), some (.int y4), some (.int y5), some (.ref a6), some (.long (s_up v13 y2.toInt64)), none, u9, u10, u11, u12]) (S' := [.int y4, .int (1 : Int32), .ref 14, .long v15]) (h' := h) rfl ?_
      refine k_cL 31 3 rfl rfl rfl (A := [.ref 14, .int (1 : Int32), .int y4]) rfl rfl (z_rok_ref (CW.tyOf (t := 11) (t' := 2) W (j := 8) W.t0 (W.abOf (t := 11) (j := 8) (o := 14) (n := 0) (by decide) W.t0).1 (by decide) rfl)) (rest := [.long v15]) rfl rfl ?_
      obtain ⟨v17, k18, H⟩ := H
      refine k_P k18 ?_
      refine k_n 6 (pc' := 108) (L' := [some (.ref 0), some (.int y1), some (.int y2), some (.int y3), some (.int y4), some (.int y5), some (.ref a6), some (.long (s_up v13 y2.toInt64)), none, some (.long (v15 - v17)), none, u11, u12]) (S' := [.long y2.toInt64, .long (v15 - v17), .long (9999 : Int64)]) (h' := h) rfl ?_
      refine k_cL 146 2 rfl rfl rfl (A := [.long (v15 - v17), .long y2.toInt64]) rfl rfl rfl (rest := [.long (9999 : Int64)]) rfl rfl ?_
      refine c_dn (v15 - v17) y2.toInt64 h  ?_
      refine k_cL 15 2 rfl rfl rfl (A := [.long (9999 : Int64), .long (s_dn (v15 - v17) y2.toInt64)]) rfl rfl rfl (rest := []) rfl rfl ?_
      refine C_15 (9999 : Int64) (s_dn (v15 - v17) y2.toInt64) h    ?_
      refine k_n 4 (pc' := 121) (L' := [some (.ref 0), some (.int y1), some (.int y2), some (.int y3), some (.int y4), some (.int y5), some (.ref a6), some (.long (s_up v13 y2.toInt64)), none, some (.long (v15 - v17)), none, some (.long (if (s_dn (v15 - v17) y2.toInt64) < (9999 : Int64) then (s_dn (v15 - v17) y2.toInt64) else (9999 : Int64))), none]) (S' := [.int (z_cmp (s_up v13 y2.toInt64) (if (s_dn (v15 - v17) y2.toInt64) < (9999 : Int64) then (s_dn (v15 - v17) y2.toInt64) else (9999 : Int64)))]) (h' := h) rfl ?_
      refine k_b (g := z_cmp (s_up v13 y2.toInt64) (if (s_dn (v15 - v17) y2.toInt64) < (9999 : Int64) then (s_dn (v15 - v17) y2.toInt64) else (9999 : Int64)) ≤ 0) (pc' := 127) (L' := [some (.ref 0), some (.int y1), some (.int y2), some (.int y3), some (.int y4), some (.int y5), some (.ref a6), some (.long (s_up v13 y2.toInt64)), none, some (.long (v15 - v17)), none, some (.long (if (s_dn (v15 - v17) y2.toInt64) < (9999 : Int64) then (s_dn (v15 - v17) y2.toInt64) else (9999 : Int64))), none]) (S' := []) (pc2 := 124) (L2 := [some (.ref 0), some (.int y1), some (.int y2), some (.int y3), some (.int y4), some (.int y5), some (.ref a6), some (.long (s_up v13 y2.toInt64)), none, some (.long (v15 - v17)), none, some (.long (if (s_dn (v15 - v17) y2.toInt64) < (9999 : Int64) then (s_dn (v15 - v17) y2.toInt64) else (9999 : Int64))), none]) (S2 := []) (h' := h) (h2 := h) rfl rfl (fun hc => ?_) (fun hc => ?_)
      · have hc := z_cmp_le.mp hc
        rw [if_pos hc] at H
        refine k_n 1 (pc' := 129) (L' := [some (.ref 0), some (.int y1), some (.int y2), some (.int y3), some (.int y4), some (.int y5), some (.ref a6), some (.long (s_up v13 y2.toInt64)), none, some (.long (v15 - v17)), none, some (.long (if (s_dn (v15 - v17) y2.toInt64) < (9999 : Int64) then (s_dn (v15 - v17) y2.toInt64) else (9999 : Int64))), none]) (S' := [.int y5]) (h' := h) rfl ?_
        obtain ⟨m20, em20⟩ : ∃ m : Int64, m = (if y5 = 0 then (s_up v13 y2.toInt64) else (if (s_dn (v15 - v17) y2.toInt64) < (9999 : Int64) then (s_dn (v15 - v17) y2.toInt64) else (9999 : Int64))) := ⟨_, rfl⟩
        have H := H m20 em20
        have hj21 : KG z_pI 127 139 [some (.ref 0), some (.int y1), some (.int y2), some (.int y3), some (.int y4), some (.int y5), some (.ref a6), some (.long (s_up v13 y2.toInt64)), none, some (.long (v15 - v17)), none, some (.long (if (s_dn (v15 - v17) y2.toInt64) < (9999 : Int64) then (s_dn (v15 - v17) y2.toInt64) else (9999 : Int64))), none] [.long m20] h Q := by
          refine k_n 1 (pc' := 140) (L' := [some (.ref 0), some (.int y1), some (.int y2), some (.int y3), some (.int y4), some (.int y5), some (.ref a6), some (.long (s_up v13 y2.toInt64)), none, some (.long (v15 - v17)), none, some (.long (if (s_dn (v15 - v17) y2.toInt64) < (9999 : Int64) then (s_dn (v15 - v17) y2.toInt64) else (9999 : Int64))), none]) (S' := [.int m20.toInt32]) (h' := h) rfl ?_
          exact k_r rfl rfl rfl H
        refine k_b (g := y5 = 0) (pc' := 132) (L' := [some (.ref 0), some (.int y1), some (.int y2), some (.int y3), some (.int y4), some (.int y5), some (.ref a6), some (.long (s_up v13 y2.toInt64)), none, some (.long (v15 - v17)), none, some (.long (if (s_dn (v15 - v17) y2.toInt64) < (9999 : Int64) then (s_dn (v15 - v17) y2.toInt64) else (9999 : Int64))), none]) (S' := []) (pc2 := 137) (L2 := [some (.ref 0), some (.int y1), some (.int y2), some (.int y3), some (.int y4), some (.int y5), some (.ref a6), some (.long (s_up v13 y2.toInt64)), none, some (.long (v15 - v17)), none, some (.long (if (s_dn (v15 - v17) y2.toInt64) < (9999 : Int64) then (s_dn (v15 - v17) y2.toInt64) else (9999 : Int64))), none]) (S2 := []) (h' := h) (h2 := h) rfl rfl (fun hc => ?_) (fun hc => ?_)
        · have c19 := hc
          refine k_n 2 (pc' := 139) (L' := [some (.ref 0), some (.int y1), some (.int y2), some (.int y3), some (.int y4), some (.int y5), some (.ref a6), some (.long (s_up v13 y2.toInt64)), none, some (.long (v15 - v17)), none, some (.long (if (s_dn (v15 - v17) y2.toInt64) < (9999 : Int64) then (s_dn (v15 - v17) y2.toInt64) else (9999 : Int64))), none]) (S' := [.long (s_up v13 y2.toInt64)]) (h' := h) rfl ?_
          rw [(em20.trans (by rw [if_pos c19]) : m20 = (s_up v13 y2.toInt64))] at hj21
          exact hj21
        · have c19 := hc
          refine k_n 1 (pc' := 139) (L' := [some (.ref 0), some (.int y1), some (.int y2), some (.int y3), some (.int y4), some (.int y5), some (.ref a6), some (.long (s_up v13 y2.toInt64)), none, some (.long (v15 - v17)), none, some (.long (if (s_dn (v15 - v17) y2.toInt64) < (9999 : Int64) then (s_dn (v15 - v17) y2.toInt64) else (9999 : Int64))), none]) (S' := [.long (if (s_dn (v15 - v17) y2.toInt64) < (9999 : Int64) then (s_dn (v15 - v17) y2.toInt64) else (9999 : Int64))]) (h' := h) rfl ?_
          rw [(em20.trans (by rw [if_neg c19]) : m20 = (if (s_dn (v15 - v17) y2.toInt64) < (9999 : Int64) then (s_dn (v15 - v17) y2.toInt64) else (9999 : Int64)))] at hj21
          exact hj21
      · have hc := (fun q => hc (z_cmp_le.mpr q))
        rw [if_neg hc] at H
        refine k_n 1 (pc' := 126) (L' := [some (.ref 0), some (.int y1), some (.int y2), some (.int y3), some (.int y4), some (.int y5), some (.ref a6), some (.long (s_up v13 y2.toInt64)), none, some (.long (v15 - v17)), none, some (.long (if (s_dn (v15 - v17) y2.toInt64) < (9999 : Int64) then (s_dn (v15 - v17) y2.toInt64) else (9999 : Int64))), none]) (S' := [.int (-4 : Int32)]) (h' := h) rfl ?_
        exact k_r rfl rfl rfl H
