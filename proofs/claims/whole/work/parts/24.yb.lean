set_option maxRecDepth 20000 in
theorem X_36 (a0 : Nat) (x1 : Int32) (x2 : Int32) (x3 : Int32) (x4 : Int32) (x5 : Int32) (h : zH) (W : CW h) (T0 : z_tg h a0 = 3) {Q : Unit → zH → Prop} (H : Q () (z_sI (z_sI (z_sI (z_sI (z_sI h a0 0 x1) a0 1 x2) a0 2 x3) a0 3 x4) a0 4 x5)) : KK z_pV 36 [.ref a0, .int x1, .int x2, .int x3, .int x4, .int x5] h Q := by
  refine k_K (L := [some (.ref a0), some (.int x1), some (.int x2), some (.int x3), some (.int x4), some (.int x5)]) rfl ?_
  refine k_n 4 (pc' := 6) (L' := [some (.ref a0), some (.int x1), some (.int x2), some (.int x3), some (.int x4), some (.int x5)]) (S' := [.int x1, .ref a0]) (h' := h) rfl ?_
  refine k_pI rfl T0 ?_
  refine k_n 2 (pc' := 11) (L' := [some (.ref a0), some (.int x1), some (.int x2), some (.int x3), some (.int x4), some (.int x5)]) (S' := [.int x2, .ref a0]) (h' := (z_sI h a0 0 x1)) rfl ?_
  refine k_pI rfl (z_tgI T0) ?_
  refine k_n 2 (pc' := 16) (L' := [some (.ref a0), some (.int x1), some (.int x2), some (.int x3), some (.int x4), some (.int x5)]) (S' := [.int x3, .ref a0]) (h' := (z_sI (z_sI h a0 0 x1) a0 1 x2)) rfl ?_
  refine k_pI rfl (z_tgI (z_tgI T0)) ?_
  refine k_n 2 (pc' := 22) (L' := [some (.ref a0), some (.int x1), some (.int x2), some (.int x3), some (.int x4), some (.int x5)]) (S' := [.int x4, .ref a0]) (h' := (z_sI (z_sI (z_sI h a0 0 x1) a0 1 x2) a0 2 x3)) rfl ?_
  refine k_pI rfl (z_tgI (z_tgI (z_tgI T0))) ?_
  refine k_n 2 (pc' := 28) (L' := [some (.ref a0), some (.int x1), some (.int x2), some (.int x3), some (.int x4), some (.int x5)]) (S' := [.int x5, .ref a0]) (h' := (z_sI (z_sI (z_sI (z_sI h a0 0 x1) a0 1 x2) a0 2 x3) a0 3 x4)) rfl ?_
  refine k_pI rfl (z_tgI (z_tgI (z_tgI (z_tgI T0)))) ?_
  exact k_r rfl rfl rfl H
set_option maxRecDepth 20000 in
theorem X_94 (a0 : Nat) (x1 : Int32) (x2 : Int32) (x3 : Int32) (x4 : Int32) (h : zH) (W : CW h) (T0 : z_tg h a0 = 10) {Q : Unit → zH → Prop} (H : Q () (z_sI (z_sI (z_sI (z_sI h a0 0 x1) a0 1 x2) a0 2 x3) a0 3 x4)) : KK z_pV 94 [.ref a0, .int x1, .int x2, .int x3, .int x4] h Q := by
  refine k_K (L := [some (.ref a0), some (.int x1), some (.int x2), some (.int x3), some (.int x4)]) rfl ?_
  refine k_n 4 (pc' := 6) (L' := [some (.ref a0), some (.int x1), some (.int x2), some (.int x3), some (.int x4)]) (S' := [.int x1, .ref a0]) (h' := h) rfl ?_
  refine k_pI rfl T0 ?_
  refine k_n 2 (pc' := 11) (L' := [some (.ref a0), some (.int x1), some (.int x2), some (.int x3), some (.int x4)]) (S' := [.int x2, .ref a0]) (h' := (z_sI h a0 0 x1)) rfl ?_
  refine k_pI rfl (z_tgI T0) ?_
  refine k_n 2 (pc' := 16) (L' := [some (.ref a0), some (.int x1), some (.int x2), some (.int x3), some (.int x4)]) (S' := [.int x3, .ref a0]) (h' := (z_sI (z_sI h a0 0 x1) a0 1 x2)) rfl ?_
  refine k_pI rfl (z_tgI (z_tgI T0)) ?_
  refine k_n 2 (pc' := 22) (L' := [some (.ref a0), some (.int x1), some (.int x2), some (.int x3), some (.int x4)]) (S' := [.int x4, .ref a0]) (h' := (z_sI (z_sI (z_sI h a0 0 x1) a0 1 x2) a0 2 x3)) rfl ?_
  refine k_pI rfl (z_tgI (z_tgI (z_tgI T0))) ?_
  exact k_r rfl rfl rfl H
set_option maxRecDepth 20000 in
theorem X_54 (a0 : Nat) (x1 : Nat) (x2 : Nat) (x3 : Int32) (h : zH) (W : CW h) (T0 : z_tg h a0 = 5) (T1 : z_tg h x1 = 4) (T2 : z_tg h x2 = 3) {Q : Unit → zH → Prop} (H : (z_rv (z_sR h a0 0 (some x2)) x1 9 = none → (((0 : Int32) ≤ (x3 - (1 : Int32)) ∧ (x3 - (1 : Int32)) ≤ (59 : Int32)) → ((0 : Int32) ≤ (5 : Int32) ∧ (5 : Int32) ≤ (5 : Int32)) → 0 ≤ (((5 : Int32) * (60 : Int32)) + (x3 - (1 : Int32))).toInt ∧ (((5 : Int32) * (60 : Int32)) + (x3 - (1 : Int32))).toInt < 360) ∧ Q () (z_sI (z_sI (z_sI (z_sI (z_sI (z_sI (z_sI (z_sI (z_sR (z_sR h a0 0 (some x2)) a0 1 none) a0 2 x3) a0 3 (z_iv h x2 8)) a0 4 (x3 - (z_iv h x2 13))) a0 5 (s_fm ((z_iv h x2 8) - (z_iv h x2 14)) (10000 : Int32))) a0 6 ((s_fm ((z_iv h x2 8) - (z_iv h x2 14)) (10000 : Int32)) + ((if (0 : Int32) < ((((z_iv h x2 3) * (x3 - (z_iv h x2 13))) - (s_fm ((z_iv h x2 8) - (z_iv h x2 14)) (10000 : Int32))) / (10000 : Int32)) then ((((z_iv h x2 3) * (x3 - (z_iv h x2 13))) - (s_fm ((z_iv h x2 8) - (z_iv h x2 14)) (10000 : Int32))) / (10000 : Int32)) else (0 : Int32)) * (10000 : Int32)))) a0 7 ((z_iv h x2 12) - (z_iv h x2 15))) a0 8 (if (0 : Int32) ≤ (x3 - (1 : Int32)) ∧ (x3 - (1 : Int32)) ≤ (59 : Int32) then (if (0 : Int32) ≤ (5 : Int32) ∧ (5 : Int32) ≤ (5 : Int32) then (z_iv (z_sI (z_sI (z_sI (z_sI (z_sI (z_sI (z_sR (z_sR h a0 0 (some x2)) a0 1 none) a0 2 x3) a0 3 (z_iv h x2 8)) a0 4 (x3 - (z_iv h x2 13))) a0 5 (s_fm ((z_iv h x2 8) - (z_iv h x2 14)) (10000 : Int32))) a0 6 ((s_fm ((z_iv h x2 8) - (z_iv h x2 14)) (10000 : Int32)) + ((if (0 : Int32) < ((((z_iv h x2 3) * (x3 - (z_iv h x2 13))) - (s_fm ((z_iv h x2 8) - (z_iv h x2 14)) (10000 : Int32))) / (10000 : Int32)) then ((((z_iv h x2 3) * (x3 - (z_iv h x2 13))) - (s_fm ((z_iv h x2 8) - (z_iv h x2 14)) (10000 : Int32))) / (10000 : Int32)) else (0 : Int32)) * (10000 : Int32)))) a0 7 ((z_iv h x2 12) - (z_iv h x2 15))) (x1 + 3) (z_ix (((5 : Int32) * (60 : Int32)) + (x3 - (1 : Int32))))) else (0 : Int32)) else (0 : Int32))) a0 9 (z_iv h x1 5))) ∧ (∀ b2, z_rv (z_sR h a0 0 (some x2)) x1 9 = some b2 → (((0 : Int32) ≤ (x3 - (1 : Int32)) ∧ (x3 - (1 : Int32)) ≤ (59 : Int32)) → ((0 : Int32) ≤ (5 : Int32) ∧ (5 : Int32) ≤ (5 : Int32)) → 0 ≤ (((5 : Int32) * (60 : Int32)) + (x3 - (1 : Int32))).toInt ∧ (((5 : Int32) * (60 : Int32)) + (x3 - (1 : Int32))).toInt < 360) ∧ Q () (z_sI (z_sI (z_sI (z_sI (z_sI (z_sI (z_sI (z_sI (z_sR (z_sR h a0 0 (some x2)) a0 1 (some b2)) a0 2 x3) a0 3 (z_iv h x2 8)) a0 4 (x3 - (z_iv h x2 13))) a0 5 (s_fm ((z_iv h x2 8) - (z_iv h x2 14)) (10000 : Int32))) a0 6 ((s_fm ((z_iv h x2 8) - (z_iv h x2 14)) (10000 : Int32)) + ((if (0 : Int32) < ((((z_iv h x2 3) * (x3 - (z_iv h x2 13))) - (s_fm ((z_iv h x2 8) - (z_iv h x2 14)) (10000 : Int32))) / (10000 : Int32)) then ((((z_iv h x2 3) * (x3 - (z_iv h x2 13))) - (s_fm ((z_iv h x2 8) - (z_iv h x2 14)) (10000 : Int32))) / (10000 : Int32)) else (0 : Int32)) * (10000 : Int32)))) a0 7 ((z_iv h x2 12) - (z_iv h x2 15))) a0 8 (if (0 : Int32) ≤ (x3 - (1 : Int32)) ∧ (x3 - (1 : Int32)) ≤ (59 : Int32) then (if (0 : Int32) ≤ (5 : Int32) ∧ (5 : Int32) ≤ (5 : Int32) then (z_iv (z_sI (z_sI (z_sI (z_sI (z_sI (z_sI (z_sR (z_sR h a0 0 (some x2)) a0 1 (some b2)) a0 2 x3) a0 3 (z_iv h x2 8)) a0 4 (x3 - (z_iv h x2 13))) a0 5 (s_fm ((z_iv h x2 8) - (z_iv h x2 14)) (10000 : Int32))) a0 6 ((s_fm ((z_iv h x2 8) - (z_iv h x2 14)) (10000 : Int32)) + ((if (0 : Int32) < ((((z_iv h x2 3) * (x3 - (z_iv h x2 13))) - (s_fm ((z_iv h x2 8) - (z_iv h x2 14)) (10000 : Int32))) / (10000 : Int32)) then ((((z_iv h x2 3) * (x3 - (z_iv h x2 13))) - (s_fm ((z_iv h x2 8) - (z_iv h x2 14)) (10000 : Int32))) / (10000 : Int32)) else (0 : Int32)) * (10000 : Int32)))) a0 7 ((z_iv h x2 12) - (z_iv h x2 15))) (x1 + 3) (z_ix (((5 : Int32) * (60 : Int32)) + (x3 - (1 : Int32))))) else (0 : Int32)) else (0 : Int32))) a0 9 (z_iv h x1 5)))) : KK z_pV 54 [.ref a0, .ref x1, .ref x2, .int x3] h Q := by
  refine k_K (L := [some (.ref a0), some (.ref x1), some (.ref x2), some (.int x3), none]) rfl ?_
  refine k_n 4 (pc' := 6) (L' := [some (.ref a0), some (.ref x1), some (.ref x2), some (.int x3), none]) (S' := [.ref x2, .ref a0]) (h' := h) rfl ?_
  refine k_pR rfl T0 ?_
  refine k_n 2 (pc' := 11) (L' := [some (.ref a0), some (.ref x1), some (.ref x2), some (.int x3), none]) (S' := [.ref x1, .ref a0]) (h' := (z_sR h a0 0 (some x2))) rfl ?_
  obtain hb1 | ⟨b2, hb1⟩ := z_opt (z_rv (z_sR h a0 0 (some x2)) x1 9)
  · have H := H.1 hb1
    refine k_gN rfl (z_tgR T1) hb1 ?_
    refine k_pN rfl (z_tgR T0) ?_
    refine k_n 2 (pc' := 19) (L' := [some (.ref a0), some (.ref x1), some (.ref x2), some (.int x3), none]) (S' := [.int x3, .ref a0]) (h' := (z_sR (z_sR h a0 0 (some x2)) a0 1 none)) rfl ?_
    refine k_pI rfl (z_tgR (z_tgR T0)) ?_
    refine k_n 2 (pc' := 24) (L' := [some (.ref a0), some (.ref x1), some (.ref x2), some (.int x3), none]) (S' := [.ref x2, .ref a0]) (h' := (z_sI (z_sR (z_sR h a0 0 (some x2)) a0 1 none) a0 2 x3)) rfl ?_
    refine k_gV rfl rfl (z_tgI (z_tgR (z_tgR T2))) (v_nt (z_tgR (z_tgR T2)) (z_tgR (z_tgR T0)) (by decide) (v_sR (v_sR rfl))) ?_
    refine k_pI rfl (z_tgI (z_tgR (z_tgR T0))) ?_
    refine k_n 3 (pc' := 33) (L' := [some (.ref a0), some (.ref x1), some (.ref x2), some (.int x3), none]) (S' := [.ref x2, .int x3, .ref a0]) (h' := (z_sI (z_sI (z_sR (z_sR h a0 0 (some x2)) a0 1 none) a0 2 x3) a0 3 (z_iv h x2 8))) rfl ?_
    refine k_gV rfl rfl (z_tgI (z_tgI (z_tgR (z_tgR T2)))) (v_nt (z_tgI (z_tgR (z_tgR T2))) (z_tgI (z_tgR (z_tgR T0))) (by decide) (v_nt (z_tgR (z_tgR T2)) (z_tgR (z_tgR T0)) (by decide) (v_sR (v_sR rfl)))) ?_
    refine k_n 1 (pc' := 37) (L' := [some (.ref a0), some (.ref x1), some (.ref x2), some (.int x3), none]) (S' := [.int (x3 - (z_iv h x2 13)), .ref a0]) (h' := (z_sI (z_sI (z_sR (z_sR h a0 0 (some x2)) a0 1 none) a0 2 x3) a0 3 (z_iv h x2 8))) rfl ?_
    refine k_pI rfl (z_tgI (z_tgI (z_tgR (z_tgR T0)))) ?_
    refine k_n 2 (pc' := 42) (L' := [some (.ref a0), some (.ref x1), some (.ref x2), some (.int x3), none]) (S' := [.ref x2, .ref a0]) (h' := (z_sI (z_sI (z_sI (z_sR (z_sR h a0 0 (some x2)) a0 1 none) a0 2 x3) a0 3 (z_iv h x2 8)) a0 4 (x3 - (z_iv h x2 13)))) rfl ?_
    refine k_gV rfl rfl (z_tgI (z_tgI (z_tgI (z_tgR (z_tgR T2))))) (v_nt (z_tgI (z_tgI (z_tgR (z_tgR T2)))) (z_tgI (z_tgI (z_tgR (z_tgR T0)))) (by decide) (v_nt (z_tgI (z_tgR (z_tgR T2))) (z_tgI (z_tgR (z_tgR T0))) (by decide) (v_nt (z_tgR (z_tgR T2)) (z_tgR (z_tgR T0)) (by decide) (v_sR (v_sR rfl))))) ?_
    refine k_n 1 (pc' := 46) (L' := [some (.ref a0), some (.ref x1), some (.ref x2), some (.int x3), none]) (S' := [.ref x2, .int (z_iv h x2 8), .ref a0]) (h' := (z_sI (z_sI (z_sI (z_sR (z_sR h a0 0 (some x2)) a0 1 none) a0 2 x3) a0 3 (z_iv h x2 8)) a0 4 (x3 - (z_iv h x2 13)))) rfl ?_
    refine k_gV rfl rfl (z_tgI (z_tgI (z_tgI (z_tgR (z_tgR T2))))) (v_nt (z_tgI (z_tgI (z_tgR (z_tgR T2)))) (z_tgI (z_tgI (z_tgR (z_tgR T0)))) (by decide) (v_nt (z_tgI (z_tgR (z_tgR T2))) (z_tgI (z_tgR (z_tgR T0))) (by decide) (v_nt (z_tgR (z_tgR T2)) (z_tgR (z_tgR T0)) (by decide) (v_sR (v_sR rfl))))) ?_
    refine k_n 2 (pc' := 53) (L' := [some (.ref a0), some (.ref x1), some (.ref x2), some (.int x3), none]) (S' := [.int (10000 : Int32), .int ((z_iv h x2 8) - (z_iv h x2 14)), .ref a0]) (h' := (z_sI (z_sI (z_sI (z_sR (z_sR h a0 0 (some x2)) a0 1 none) a0 2 x3) a0 3 (z_iv h x2 8)) a0 4 (x3 - (z_iv h x2 13)))) rfl ?_
    refine k_cI 10 2 rfl rfl rfl (A := [.int ((z_iv h x2 8) - (z_iv h x2 14)), .int (10000 : Int32)]) rfl rfl rfl (rest := [.ref a0]) rfl (z_tyI rfl rfl) ?_
    refine c_fm ((z_iv h x2 8) - (z_iv h x2 14)) (10000 : Int32) (z_sI (z_sI (z_sI (z_sR (z_sR h a0 0 (some x2)) a0 1 none) a0 2 x3) a0 3 (z_iv h x2 8)) a0 4 (x3 - (z_iv h x2 13))) (by decide) ?_
    refine k_pI rfl (z_tgI (z_tgI (z_tgI (z_tgR (z_tgR T0))))) ?_
    refine k_n 1 (pc' := 60) (L' := [some (.ref a0), some (.ref x1), some (.ref x2), some (.int x3), none]) (S' := [.ref x2]) (h' := (z_sI (z_sI (z_sI (z_sI (z_sR (z_sR h a0 0 (some x2)) a0 1 none) a0 2 x3) a0 3 (z_iv h x2 8)) a0 4 (x3 - (z_iv h x2 13))) a0 5 (s_fm ((z_iv h x2 8) - (z_iv h x2 14)) (10000 : Int32)))) rfl ?_
    refine k_gV rfl rfl (z_tgI (z_tgI (z_tgI (z_tgI (z_tgR (z_tgR T2)))))) (v_nt (z_tgI (z_tgI (z_tgI (z_tgR (z_tgR T2))))) (z_tgI (z_tgI (z_tgI (z_tgR (z_tgR T0))))) (by decide) (v_nt (z_tgI (z_tgI (z_tgR (z_tgR T2)))) (z_tgI (z_tgI (z_tgR (z_tgR T0)))) (by decide) (v_nt (z_tgI (z_tgR (z_tgR T2))) (z_tgI (z_tgR (z_tgR T0))) (by decide) (v_nt (z_tgR (z_tgR T2)) (z_tgR (z_tgR T0)) (by decide) (v_sR (v_sR rfl)))))) ?_
    refine k_n 1 (pc' := 64) (L' := [some (.ref a0), some (.ref x1), some (.ref x2), some (.int x3), none]) (S' := [.ref a0, .int (z_iv h x2 3)]) (h' := (z_sI (z_sI (z_sI (z_sI (z_sR (z_sR h a0 0 (some x2)) a0 1 none) a0 2 x3) a0 3 (z_iv h x2 8)) a0 4 (x3 - (z_iv h x2 13))) a0 5 (s_fm ((z_iv h x2 8) - (z_iv h x2 14)) (10000 : Int32)))) rfl ?_
    refine k_gV rfl rfl (z_tgI (z_tgI (z_tgI (z_tgI (z_tgR (z_tgR T0)))))) (v_nj (by decide) v_at) ?_
    refine k_n 2 (pc' := 69) (L' := [some (.ref a0), some (.ref x1), some (.ref x2), some (.int x3), none]) (S' := [.ref a0, .int ((z_iv h x2 3) * (x3 - (z_iv h x2 13)))]) (h' := (z_sI (z_sI (z_sI (z_sI (z_sR (z_sR h a0 0 (some x2)) a0 1 none) a0 2 x3) a0 3 (z_iv h x2 8)) a0 4 (x3 - (z_iv h x2 13))) a0 5 (s_fm ((z_iv h x2 8) - (z_iv h x2 14)) (10000 : Int32)))) rfl ?_
    refine k_gV rfl rfl (z_tgI (z_tgI (z_tgI (z_tgI (z_tgR (z_tgR T0)))))) v_at ?_
    refine k_n 4 (pc' := 77) (L' := [some (.ref a0), some (.ref x1), some (.ref x2), some (.int x3), some (.int (((z_iv h x2 3) * (x3 - (z_iv h x2 13))) - (s_fm ((z_iv h x2 8) - (z_iv h x2 14)) (10000 : Int32))))]) (S' := [.ref a0, .ref a0]) (h' := (z_sI (z_sI (z_sI (z_sI (z_sR (z_sR h a0 0 (some x2)) a0 1 none) a0 2 x3) a0 3 (z_iv h x2 8)) a0 4 (x3 - (z_iv h x2 13))) a0 5 (s_fm ((z_iv h x2 8) - (z_iv h x2 14)) (10000 : Int32)))) rfl ?_
    refine k_gV rfl rfl (z_tgI (z_tgI (z_tgI (z_tgI (z_tgR (z_tgR T0)))))) v_at ?_
    refine k_n 3 (pc' := 86) (L' := [some (.ref a0), some (.ref x1), some (.ref x2), some (.int x3), some (.int (((z_iv h x2 3) * (x3 - (z_iv h x2 13))) - (s_fm ((z_iv h x2 8) - (z_iv h x2 14)) (10000 : Int32))))]) (S' := [.int (10000 : Int32), .int (((z_iv h x2 3) * (x3 - (z_iv h x2 13))) - (s_fm ((z_iv h x2 8) - (z_iv h x2 14)) (10000 : Int32))), .int (0 : Int32), .int (s_fm ((z_iv h x2 8) - (z_iv h x2 14)) (10000 : Int32)), .ref a0]) (h' := (z_sI (z_sI (z_sI (z_sI (z_sR (z_sR h a0 0 (some x2)) a0 1 none) a0 2 x3) a0 3 (z_iv h x2 8)) a0 4 (x3 - (z_iv h x2 13))) a0 5 (s_fm ((z_iv h x2 8) - (z_iv h x2 14)) (10000 : Int32)))) rfl ?_
    refine k_d (g := (10000 : Int32) = 0) (pc' := 87) (L' := [some (.ref a0), some (.ref x1), some (.ref x2), some (.int x3), some (.int (((z_iv h x2 3) * (x3 - (z_iv h x2 13))) - (s_fm ((z_iv h x2 8) - (z_iv h x2 14)) (10000 : Int32))))]) (S' := [.int ((((z_iv h x2 3) * (x3 - (z_iv h x2 13))) - (s_fm ((z_iv h x2 8) - (z_iv h x2 14)) (10000 : Int32))) / (10000 : Int32)), .int (0 : Int32), .int (s_fm ((z_iv h x2 8) - (z_iv h x2 14)) (10000 : Int32)), .ref a0]) (h' := (z_sI (z_sI (z_sI (z_sI (z_sR (z_sR h a0 0 (some x2)) a0 1 none) a0 2 x3) a0 3 (z_iv h x2 8)) a0 4 (x3 - (z_iv h x2 13))) a0 5 (s_fm ((z_iv h x2 8) - (z_iv h x2 14)) (10000 : Int32)))) rfl rfl (by decide) ?_
    refine k_cI 12 2 rfl rfl rfl (A := [.int (0 : Int32), .int ((((z_iv h x2 3) * (x3 - (z_iv h x2 13))) - (s_fm ((z_iv h x2 8) - (z_iv h x2 14)) (10000 : Int32))) / (10000 : Int32))]) rfl rfl rfl (rest := [.int (s_fm ((z_iv h x2 8) - (z_iv h x2 14)) (10000 : Int32)), .ref a0]) rfl (z_tyI rfl rfl) ?_
    refine C_12 (0 : Int32) ((((z_iv h x2 3) * (x3 - (z_iv h x2 13))) - (s_fm ((z_iv h x2 8) - (z_iv h x2 14)) (10000 : Int32))) / (10000 : Int32)) (z_sI (z_sI (z_sI (z_sI (z_sR (z_sR h a0 0 (some x2)) a0 1 none) a0 2 x3) a0 3 (z_iv h x2 8)) a0 4 (x3 - (z_iv h x2 13))) a0 5 (s_fm ((z_iv h x2 8) - (z_iv h x2 14)) (10000 : Int32)))    ?_
    refine k_n 3 (pc' := 95) (L' := [some (.ref a0), some (.ref x1), some (.ref x2), some (.int x3), some (.int (((z_iv h x2 3) * (x3 - (z_iv h x2 13))) - (s_fm ((z_iv h x2 8) - (z_iv h x2 14)) (10000 : Int32))))]) (S' := [.int ((s_fm ((z_iv h x2 8) - (z_iv h x2 14)) (10000 : Int32)) + ((if (0 : Int32) < ((((z_iv h x2 3) * (x3 - (z_iv h x2 13))) - (s_fm ((z_iv h x2 8) - (z_iv h x2 14)) (10000 : Int32))) / (10000 : Int32)) then ((((z_iv h x2 3) * (x3 - (z_iv h x2 13))) - (s_fm ((z_iv h x2 8) - (z_iv h x2 14)) (10000 : Int32))) / (10000 : Int32)) else (0 : Int32)) * (10000 : Int32))), .ref a0]) (h' := (z_sI (z_sI (z_sI (z_sI (z_sR (z_sR h a0 0 (some x2)) a0 1 none) a0 2 x3) a0 3 (z_iv h x2 8)) a0 4 (x3 - (z_iv h x2 13))) a0 5 (s_fm ((z_iv h x2 8) - (z_iv h x2 14)) (10000 : Int32)))) rfl ?_
    refine k_pI rfl (z_tgI (z_tgI (z_tgI (z_tgI (z_tgR (z_tgR T0)))))) ?_
    refine k_n 2 (pc' := 100) (L' := [some (.ref a0), some (.ref x1), some (.ref x2), some (.int x3), some (.int (((z_iv h x2 3) * (x3 - (z_iv h x2 13))) - (s_fm ((z_iv h x2 8) - (z_iv h x2 14)) (10000 : Int32))))]) (S' := [.ref x2, .ref a0]) (h' := (z_sI (z_sI (z_sI (z_sI (z_sI (z_sR (z_sR h a0 0 (some x2)) a0 1 none) a0 2 x3) a0 3 (z_iv h x2 8)) a0 4 (x3 - (z_iv h x2 13))) a0 5 (s_fm ((z_iv h x2 8) - (z_iv h x2 14)) (10000 : Int32))) a0 6 ((s_fm ((z_iv h x2 8) - (z_iv h x2 14)) (10000 : Int32)) + ((if (0 : Int32) < ((((z_iv h x2 3) * (x3 - (z_iv h x2 13))) - (s_fm ((z_iv h x2 8) - (z_iv h x2 14)) (10000 : Int32))) / (10000 : Int32)) then ((((z_iv h x2 3) * (x3 - (z_iv h x2 13))) - (s_fm ((z_iv h x2 8) - (z_iv h x2 14)) (10000 : Int32))) / (10000 : Int32)) else (0 : Int32)) * (10000 : Int32))))) rfl ?_
    refine k_gV rfl rfl (z_tgI (z_tgI (z_tgI (z_tgI (z_tgI (z_tgR (z_tgR T2))))))) (v_nt (z_tgI (z_tgI (z_tgI (z_tgI (z_tgR (z_tgR T2)))))) (z_tgI (z_tgI (z_tgI (z_tgI (z_tgR (z_tgR T0)))))) (by decide) (v_nt (z_tgI (z_tgI (z_tgI (z_tgR (z_tgR T2))))) (z_tgI (z_tgI (z_tgI (z_tgR (z_tgR T0))))) (by decide) (v_nt (z_tgI (z_tgI (z_tgR (z_tgR T2)))) (z_tgI (z_tgI (z_tgR (z_tgR T0)))) (by decide) (v_nt (z_tgI (z_tgR (z_tgR T2))) (z_tgI (z_tgR (z_tgR T0))) (by decide) (v_nt (z_tgR (z_tgR T2)) (z_tgR (z_tgR T0)) (by decide) (v_sR (v_sR rfl))))))) ?_
    refine k_n 1 (pc' := 104) (L' := [some (.ref a0), some (.ref x1), some (.ref x2), some (.int x3), some (.int (((z_iv h x2 3) * (x3 - (z_iv h x2 13))) - (s_fm ((z_iv h x2 8) - (z_iv h x2 14)) (10000 : Int32))))]) (S' := [.ref x2, .int (z_iv h x2 12), .ref a0]) (h' := (z_sI (z_sI (z_sI (z_sI (z_sI (z_sR (z_sR h a0 0 (some x2)) a0 1 none) a0 2 x3) a0 3 (z_iv h x2 8)) a0 4 (x3 - (z_iv h x2 13))) a0 5 (s_fm ((z_iv h x2 8) - (z_iv h x2 14)) (10000 : Int32))) a0 6 ((s_fm ((z_iv h x2 8) - (z_iv h x2 14)) (10000 : Int32)) + ((if (0 : Int32) < ((((z_iv h x2 3) * (x3 - (z_iv h x2 13))) - (s_fm ((z_iv h x2 8) - (z_iv h x2 14)) (10000 : Int32))) / (10000 : Int32)) then ((((z_iv h x2 3) * (x3 - (z_iv h x2 13))) - (s_fm ((z_iv h x2 8) - (z_iv h x2 14)) (10000 : Int32))) / (10000 : Int32)) else (0 : Int32)) * (10000 : Int32))))) rfl ?_
    refine k_gV rfl rfl (z_tgI (z_tgI (z_tgI (z_tgI (z_tgI (z_tgR (z_tgR T2))))))) (v_nt (z_tgI (z_tgI (z_tgI (z_tgI (z_tgR (z_tgR T2)))))) (z_tgI (z_tgI (z_tgI (z_tgI (z_tgR (z_tgR T0)))))) (by decide) (v_nt (z_tgI (z_tgI (z_tgI (z_tgR (z_tgR T2))))) (z_tgI (z_tgI (z_tgI (z_tgR (z_tgR T0))))) (by decide) (v_nt (z_tgI (z_tgI (z_tgR (z_tgR T2)))) (z_tgI (z_tgI (z_tgR (z_tgR T0)))) (by decide) (v_nt (z_tgI (z_tgR (z_tgR T2))) (z_tgI (z_tgR (z_tgR T0))) (by decide) (v_nt (z_tgR (z_tgR T2)) (z_tgR (z_tgR T0)) (by decide) (v_sR (v_sR rfl))))))) ?_
    refine k_n 1 (pc' := 108) (L' := [some (.ref a0), some (.ref x1), some (.ref x2), some (.int x3), some (.int (((z_iv h x2 3) * (x3 - (z_iv h x2 13))) - (s_fm ((z_iv h x2 8) - (z_iv h x2 14)) (10000 : Int32))))]) (S' := [.int ((z_iv h x2 12) - (z_iv h x2 15)), .ref a0]) (h' := (z_sI (z_sI (z_sI (z_sI (z_sI (z_sR (z_sR h a0 0 (some x2)) a0 1 none) a0 2 x3) a0 3 (z_iv h x2 8)) a0 4 (x3 - (z_iv h x2 13))) a0 5 (s_fm ((z_iv h x2 8) - (z_iv h x2 14)) (10000 : Int32))) a0 6 ((s_fm ((z_iv h x2 8) - (z_iv h x2 14)) (10000 : Int32)) + ((if (0 : Int32) < ((((z_iv h x2 3) * (x3 - (z_iv h x2 13))) - (s_fm ((z_iv h x2 8) - (z_iv h x2 14)) (10000 : Int32))) / (10000 : Int32)) then ((((z_iv h x2 3) * (x3 - (z_iv h x2 13))) - (s_fm ((z_iv h x2 8) - (z_iv h x2 14)) (10000 : Int32))) / (10000 : Int32)) else (0 : Int32)) * (10000 : Int32))))) rfl ?_
    refine k_pI rfl (z_tgI (z_tgI (z_tgI (z_tgI (z_tgI (z_tgR (z_tgR T0))))))) ?_
    refine k_n 6 (pc' := 117) (L' := [some (.ref a0), some (.ref x1), some (.ref x2), some (.int x3), some (.int (((z_iv h x2 3) * (x3 - (z_iv h x2 13))) - (s_fm ((z_iv h x2 8) - (z_iv h x2 14)) (10000 : Int32))))]) (S' := [.int (5 : Int32), .int (x3 - (1 : Int32)), .ref x1, .ref a0]) (h' := (z_sI (z_sI (z_sI (z_sI (z_sI (z_sI (z_sR (z_sR h a0 0 (some x2)) a0 1 none) a0 2 x3) a0 3 (z_iv h x2 8)) a0 4 (x3 - (z_iv h x2 13))) a0 5 (s_fm ((z_iv h x2 8) - (z_iv h x2 14)) (10000 : Int32))) a0 6 ((s_fm ((z_iv h x2 8) - (z_iv h x2 14)) (10000 : Int32)) + ((if (0 : Int32) < ((((z_iv h x2 3) * (x3 - (z_iv h x2 13))) - (s_fm ((z_iv h x2 8) - (z_iv h x2 14)) (10000 : Int32))) / (10000 : Int32)) then ((((z_iv h x2 3) * (x3 - (z_iv h x2 13))) - (s_fm ((z_iv h x2 8) - (z_iv h x2 14)) (10000 : Int32))) / (10000 : Int32)) else (0 : Int32)) * (10000 : Int32)))) a0 7 ((z_iv h x2 12) - (z_iv h x2 15)))) rfl ?_
    refine k_cI 49 3 rfl rfl rfl (A := [.ref x1, .int (x3 - (1 : Int32)), .int (5 : Int32)]) rfl rfl (z_rok_ref (z_tgI (z_tgI (z_tgI (z_tgI (z_tgI (z_tgI (z_tgR (z_tgR T1))))))))) (rest := [.ref a0]) rfl (z_tyI rfl rfl) ?_
    obtain ⟨o4, H⟩ := H
    refine C_49 x1 (x3 - (1 : Int32)) (5 : Int32) (z_sI (z_sI (z_sI (z_sI (z_sI (z_sI (z_sR (z_sR h a0 0 (some x2)) a0 1 none) a0 2 x3) a0 3 (z_iv h x2 8)) a0 4 (x3 - (z_iv h x2 13))) a0 5 (s_fm ((z_iv h x2 8) - (z_iv h x2 14)) (10000 : Int32))) a0 6 ((s_fm ((z_iv h x2 8) - (z_iv h x2 14)) (10000 : Int32)) + ((if (0 : Int32) < ((((z_iv h x2 3) * (x3 - (z_iv h x2 13))) - (s_fm ((z_iv h x2 8) - (z_iv h x2 14)) (10000 : Int32))) / (10000 : Int32)) then ((((z_iv h x2 3) * (x3 - (z_iv h x2 13))) - (s_fm ((z_iv h x2 8) - (z_iv h x2 14)) (10000 : Int32))) / (10000 : Int32)) else (0 : Int32)) * (10000 : Int32)))) a0 7 ((z_iv h x2 12) - (z_iv h x2 15))) (CW.sI (CW.sI (CW.sI (CW.sI (CW.sI (CW.sI (CW.sR (CW.sR W T0 (j := 0) rfl (fun _ q_ => by cases q_; exact T2) (by decide)) (z_tgR T0) (j := 1) rfl (fun _ q_ => nomatch q_) (by decide)))))))) (z_tgI (z_tgI (z_tgI (z_tgI (z_tgI (z_tgI (z_tgR (z_tgR T1)))))))) o4 ?_
    refine k_pI rfl (z_tgI (z_tgI (z_tgI (z_tgI (z_tgI (z_tgI (z_tgR (z_tgR T0)))))))) ?_
    refine k_n 2 (pc' := 125) (L' := [some (.ref a0), some (.ref x1), some (.ref x2), some (.int x3), some (.int (((z_iv h x2 3) * (x3 - (z_iv h x2 13))) - (s_fm ((z_iv h x2 8) - (z_iv h x2 14)) (10000 : Int32))))]) (S' := [.ref x1, .ref a0]) (h' := (z_sI (z_sI (z_sI (z_sI (z_sI (z_sI (z_sI (z_sR (z_sR h a0 0 (some x2)) a0 1 none) a0 2 x3) a0 3 (z_iv h x2 8)) a0 4 (x3 - (z_iv h x2 13))) a0 5 (s_fm ((z_iv h x2 8) - (z_iv h x2 14)) (10000 : Int32))) a0 6 ((s_fm ((z_iv h x2 8) - (z_iv h x2 14)) (10000 : Int32)) + ((if (0 : Int32) < ((((z_iv h x2 3) * (x3 - (z_iv h x2 13))) - (s_fm ((z_iv h x2 8) - (z_iv h x2 14)) (10000 : Int32))) / (10000 : Int32)) then ((((z_iv h x2 3) * (x3 - (z_iv h x2 13))) - (s_fm ((z_iv h x2 8) - (z_iv h x2 14)) (10000 : Int32))) / (10000 : Int32)) else (0 : Int32)) * (10000 : Int32)))) a0 7 ((z_iv h x2 12) - (z_iv h x2 15))) a0 8 (if (0 : Int32) ≤ (x3 - (1 : Int32)) ∧ (x3 - (1 : Int32)) ≤ (59 : Int32) then (if (0 : Int32) ≤ (5 : Int32) ∧ (5 : Int32) ≤ (5 : Int32) then (z_iv (z_sI (z_sI (z_sI (z_sI (z_sI (z_sI (z_sR (z_sR h a0 0 (some x2)) a0 1 none) a0 2 x3) a0 3 (z_iv h x2 8)) a0 4 (x3 - (z_iv h x2 13))) a0 5 (s_fm ((z_iv h x2 8) - (z_iv h x2 14)) (10000 : Int32))) a0 6 ((s_fm ((z_iv h x2 8) - (z_iv h x2 14)) (10000 : Int32)) + ((if (0 : Int32) < ((((z_iv h x2 3) * (x3 - (z_iv h x2 13))) - (s_fm ((z_iv h x2 8) - (z_iv h x2 14)) (10000 : Int32))) / (10000 : Int32)) then ((((z_iv h x2 3) * (x3 - (z_iv h x2 13))) - (s_fm ((z_iv h x2 8) - (z_iv h x2 14)) (10000 : Int32))) / (10000 : Int32)) else (0 : Int32)) * (10000 : Int32)))) a0 7 ((z_iv h x2 12) - (z_iv h x2 15))) (x1 + 3) (z_ix (((5 : Int32) * (60 : Int32)) + (x3 - (1 : Int32))))) else (0 : Int32)) else (0 : Int32)))) rfl ?_
    refine k_gV rfl rfl (z_tgI (z_tgI (z_tgI (z_tgI (z_tgI (z_tgI (z_tgI (z_tgR (z_tgR T1))))))))) (v_nt (z_tgI (z_tgI (z_tgI (z_tgI (z_tgI (z_tgI (z_tgR (z_tgR T1)))))))) (z_tgI (z_tgI (z_tgI (z_tgI (z_tgI (z_tgI (z_tgR (z_tgR T0)))))))) (by decide) (v_nt (z_tgI (z_tgI (z_tgI (z_tgI (z_tgI (z_tgR (z_tgR T1))))))) (z_tgI (z_tgI (z_tgI (z_tgI (z_tgI (z_tgR (z_tgR T0))))))) (by decide) (v_nt (z_tgI (z_tgI (z_tgI (z_tgI (z_tgR (z_tgR T1)))))) (z_tgI (z_tgI (z_tgI (z_tgI (z_tgR (z_tgR T0)))))) (by decide) (v_nt (z_tgI (z_tgI (z_tgI (z_tgR (z_tgR T1))))) (z_tgI (z_tgI (z_tgI (z_tgR (z_tgR T0))))) (by decide) (v_nt (z_tgI (z_tgI (z_tgR (z_tgR T1)))) (z_tgI (z_tgI (z_tgR (z_tgR T0)))) (by decide) (v_nt (z_tgI (z_tgR (z_tgR T1))) (z_tgI (z_tgR (z_tgR T0))) (by decide) (v_nt (z_tgR (z_tgR T1)) (z_tgR (z_tgR T0)) (by decide) (v_sR (v_sR rfl))))))))) ?_
    refine k_pI rfl (z_tgI (z_tgI (z_tgI (z_tgI (z_tgI (z_tgI (z_tgI (z_tgR (z_tgR T0))))))))) ?_
    exact k_r rfl rfl rfl H
  · have H := H.2 b2 hb1
    have t3 : z_tg (z_sR h a0 0 (some x2)) b2 = 10 := (CW.tyOf (t := 4) (t' := 10) (CW.sR W T0 (j := 0) rfl (fun _ q_ => by cases q_; exact T2) (by decide)) (z_tgR T1) hb1 (by decide) rfl)
    refine k_gS rfl (z_tgR T1) hb1 ?_
    refine k_pR rfl (z_tgR T0) ?_
    refine k_n 2 (pc' := 19) (L' := [some (.ref a0), some (.ref x1), some (.ref x2), some (.int x3), none]) (S' := [.int x3, .ref a0]) (h' := (z_sR (z_sR h a0 0 (some x2)) a0 1 (some b2))) rfl ?_
    refine k_pI rfl (z_tgR (z_tgR T0)) ?_
    refine k_n 2 (pc' := 24) (L' := [some (.ref a0), some (.ref x1), some (.ref x2), some (.int x3), none]) (S' := [.ref x2, .ref a0]) (h' := (z_sI (z_sR (z_sR h a0 0 (some x2)) a0 1 (some b2)) a0 2 x3)) rfl ?_
    refine k_gV rfl rfl (z_tgI (z_tgR (z_tgR T2))) (v_nt (z_tgR (z_tgR T2)) (z_tgR (z_tgR T0)) (by decide) (v_sR (v_sR rfl))) ?_
    refine k_pI rfl (z_tgI (z_tgR (z_tgR T0))) ?_
    refine k_n 3 (pc' := 33) (L' := [some (.ref a0), some (.ref x1), some (.ref x2), some (.int x3), none]) (S' := [.ref x2, .int x3, .ref a0]) (h' := (z_sI (z_sI (z_sR (z_sR h a0 0 (some x2)) a0 1 (some b2)) a0 2 x3) a0 3 (z_iv h x2 8))) rfl ?_
    refine k_gV rfl rfl (z_tgI (z_tgI (z_tgR (z_tgR T2)))) (v_nt (z_tgI (z_tgR (z_tgR T2))) (z_tgI (z_tgR (z_tgR T0))) (by decide) (v_nt (z_tgR (z_tgR T2)) (z_tgR (z_tgR T0)) (by decide) (v_sR (v_sR rfl)))) ?_
    refine k_n 1 (pc' := 37) (L' := [some (.ref a0), some (.ref x1), some (.ref x2), some (.int x3), none]) (S' := [.int (x3 - (z_iv h x2 13)), .ref a0]) (h' := (z_sI (z_sI (z_sR (z_sR h a0 0 (some x2)) a0 1 (some b2)) a0 2 x3) a0 3 (z_iv h x2 8))) rfl ?_
    refine k_pI rfl (z_tgI (z_tgI (z_tgR (z_tgR T0)))) ?_
    refine k_n 2 (pc' := 42) (L' := [some (.ref a0), some (.ref x1), some (.ref x2), some (.int x3), none]) (S' := [.ref x2, .ref a0]) (h' := (z_sI (z_sI (z_sI (z_sR (z_sR h a0 0 (some x2)) a0 1 (some b2)) a0 2 x3) a0 3 (z_iv h x2 8)) a0 4 (x3 - (z_iv h x2 13)))) rfl ?_
    refine k_gV rfl rfl (z_tgI (z_tgI (z_tgI (z_tgR (z_tgR T2))))) (v_nt (z_tgI (z_tgI (z_tgR (z_tgR T2)))) (z_tgI (z_tgI (z_tgR (z_tgR T0)))) (by decide) (v_nt (z_tgI (z_tgR (z_tgR T2))) (z_tgI (z_tgR (z_tgR T0))) (by decide) (v_nt (z_tgR (z_tgR T2)) (z_tgR (z_tgR T0)) (by decide) (v_sR (v_sR rfl))))) ?_
    refine k_n 1 (pc' := 46) (L' := [some (.ref a0), some (.ref x1), some (.ref x2), some (.int x3), none]) (S' := [.ref x2, .int (z_iv h x2 8), .ref a0]) (h' := (z_sI (z_sI (z_sI (z_sR (z_sR h a0 0 (some x2)) a0 1 (some b2)) a0 2 x3) a0 3 (z_iv h x2 8)) a0 4 (x3 - (z_iv h x2 13)))) rfl ?_
    refine k_gV rfl rfl (z_tgI (z_tgI (z_tgI (z_tgR (z_tgR T2))))) (v_nt (z_tgI (z_tgI (z_tgR (z_tgR T2)))) (z_tgI (z_tgI (z_tgR (z_tgR T0)))) (by decide) (v_nt (z_tgI (z_tgR (z_tgR T2))) (z_tgI (z_tgR (z_tgR T0))) (by decide) (v_nt (z_tgR (z_tgR T2)) (z_tgR (z_tgR T0)) (by decide) (v_sR (v_sR rfl))))) ?_
    refine k_n 2 (pc' := 53) (L' := [some (.ref a0), some (.ref x1), some (.ref x2), some (.int x3), none]) (S' := [.int (10000 : Int32), .int ((z_iv h x2 8) - (z_iv h x2 14)), .ref a0]) (h' := (z_sI (z_sI (z_sI (z_sR (z_sR h a0 0 (some x2)) a0 1 (some b2)) a0 2 x3) a0 3 (z_iv h x2 8)) a0 4 (x3 - (z_iv h x2 13)))) rfl ?_
    refine k_cI 10 2 rfl rfl rfl (A := [.int ((z_iv h x2 8) - (z_iv h x2 14)), .int (10000 : Int32)]) rfl rfl rfl (rest := [.ref a0]) rfl (z_tyI rfl rfl) ?_
    refine c_fm ((z_iv h x2 8) - (z_iv h x2 14)) (10000 : Int32) (z_sI (z_sI (z_sI (z_sR (z_sR h a0 0 (some x2)) a0 1 (some b2)) a0 2 x3) a0 3 (z_iv h x2 8)) a0 4 (x3 - (z_iv h x2 13))) (by decide) ?_
    refine k_pI rfl (z_tgI (z_tgI (z_tgI (z_tgR (z_tgR T0))))) ?_
    refine k_n 1 (pc' := 60) (L' := [some (.ref a0), some (.ref x1), some (.ref x2), some (.int x3), none]) (S' := [.ref x2]) (h' := (z_sI (z_sI (z_sI (z_sI (z_sR (z_sR h a0 0 (some x2)) a0 1 (some b2)) a0 2 x3) a0 3 (z_iv h x2 8)) a0 4 (x3 - (z_iv h x2 13))) a0 5 (s_fm ((z_iv h x2 8) - (z_iv h x2 14)) (10000 : Int32)))) rfl ?_
    refine k_gV rfl rfl (z_tgI (z_tgI (z_tgI (z_tgI (z_tgR (z_tgR T2)))))) (v_nt (z_tgI (z_tgI (z_tgI (z_tgR (z_tgR T2))))) (z_tgI (z_tgI (z_tgI (z_tgR (z_tgR T0))))) (by decide) (v_nt (z_tgI (z_tgI (z_tgR (z_tgR T2)))) (z_tgI (z_tgI (z_tgR (z_tgR T0)))) (by decide) (v_nt (z_tgI (z_tgR (z_tgR T2))) (z_tgI (z_tgR (z_tgR T0))) (by decide) (v_nt (z_tgR (z_tgR T2)) (z_tgR (z_tgR T0)) (by decide) (v_sR (v_sR rfl)))))) ?_
    refine k_n 1 (pc' := 64) (L' := [some (.ref a0), some (.ref x1), some (.ref x2), some (.int x3), none]) (S' := [.ref a0, .int (z_iv h x2 3)]) (h' := (z_sI (z_sI (z_sI (z_sI (z_sR (z_sR h a0 0 (some x2)) a0 1 (some b2)) a0 2 x3) a0 3 (z_iv h x2 8)) a0 4 (x3 - (z_iv h x2 13))) a0 5 (s_fm ((z_iv h x2 8) - (z_iv h x2 14)) (10000 : Int32)))) rfl ?_
    refine k_gV rfl rfl (z_tgI (z_tgI (z_tgI (z_tgI (z_tgR (z_tgR T0)))))) (v_nj (by decide) v_at) ?_
    refine k_n 2 (pc' := 69) (L' := [some (.ref a0), some (.ref x1), some (.ref x2), some (.int x3), none]) (S' := [.ref a0, .int ((z_iv h x2 3) * (x3 - (z_iv h x2 13)))]) (h' := (z_sI (z_sI (z_sI (z_sI (z_sR (z_sR h a0 0 (some x2)) a0 1 (some b2)) a0 2 x3) a0 3 (z_iv h x2 8)) a0 4 (x3 - (z_iv h x2 13))) a0 5 (s_fm ((z_iv h x2 8) - (z_iv h x2 14)) (10000 : Int32)))) rfl ?_
    refine k_gV rfl rfl (z_tgI (z_tgI (z_tgI (z_tgI (z_tgR (z_tgR T0)))))) v_at ?_
    refine k_n 4 (pc' := 77) (L' := [some (.ref a0), some (.ref x1), some (.ref x2), some (.int x3), some (.int (((z_iv h x2 3) * (x3 - (z_iv h x2 13))) - (s_fm ((z_iv h x2 8) - (z_iv h x2 14)) (10000 : Int32))))]) (S' := [.ref a0, .ref a0]) (h' := (z_sI (z_sI (z_sI (z_sI (z_sR (z_sR h a0 0 (some x2)) a0 1 (some b2)) a0 2 x3) a0 3 (z_iv h x2 8)) a0 4 (x3 - (z_iv h x2 13))) a0 5 (s_fm ((z_iv h x2 8) - (z_iv h x2 14)) (10000 : Int32)))) rfl ?_
    refine k_gV rfl rfl (z_tgI (z_tgI (z_tgI (z_tgI (z_tgR (z_tgR T0)))))) v_at ?_
    refine k_n 3 (pc' := 86) (L' := [some (.ref a0), some (.ref x1), some (.ref x2), some (.int x3), some (.int (((z_iv h x2 3) * (x3 - (z_iv h x2 13))) - (s_fm ((z_iv h x2 8) - (z_iv h x2 14)) (10000 : Int32))))]) (S' := [.int (10000 : Int32), .int (((z_iv h x2 3) * (x3 - (z_iv h x2 13))) - (s_fm ((z_iv h x2 8) - (z_iv h x2 14)) (10000 : Int32))), .int (0 : Int32), .int (s_fm ((z_iv h x2 8) - (z_iv h x2 14)) (10000 : Int32)), .ref a0]) (h' := (z_sI (z_sI (z_sI (z_sI (z_sR (z_sR h a0 0 (some x2)) a0 1 (some b2)) a0 2 x3) a0 3 (z_iv h x2 8)) a0 4 (x3 - (z_iv h x2 13))) a0 5 (s_fm ((z_iv h x2 8) - (z_iv h x2 14)) (10000 : Int32)))) rfl ?_
    refine k_d (g := (10000 : Int32) = 0) (pc' := 87) (L' := [some (.ref a0), some (.ref x1), some (.ref x2), some (.int x3), some (.int (((z_iv h x2 3) * (x3 - (z_iv h x2 13))) - (s_fm ((z_iv h x2 8) - (z_iv h x2 14)) (10000 : Int32))))]) (S' := [.int ((((z_iv h x2 3) * (x3 - (z_iv h x2 13))) - (s_fm ((z_iv h x2 8) - (z_iv h x2 14)) (10000 : Int32))) / (10000 : Int32)), .int (0 : Int32), .int (s_fm ((z_iv h x2 8) - (z_iv h x2 14)) (10000 : Int32)), .ref a0]) (h' := (z_sI (z_sI (z_sI (z_sI (z_sR (z_sR h a0 0 (some x2)) a0 1 (some b2)) a0 2 x3) a0 3 (z_iv h x2 8)) a0 4 (x3 - (z_iv h x2 13))) a0 5 (s_fm ((z_iv h x2 8) - (z_iv h x2 14)) (10000 : Int32)))) rfl rfl (by decide) ?_
    refine k_cI 12 2 rfl rfl rfl (A := [.int (0 : Int32), .int ((((z_iv h x2 3) * (x3 - (z_iv h x2 13))) - (s_fm ((z_iv h x2 8) - (z_iv h x2 14)) (10000 : Int32))) / (10000 : Int32))]) rfl rfl rfl (rest := [.int (s_fm ((z_iv h x2 8) - (z_iv h x2 14)) (10000 : Int32)), .ref a0]) rfl (z_tyI rfl rfl) ?_
    refine C_12 (0 : Int32) ((((z_iv h x2 3) * (x3 - (z_iv h x2 13))) - (s_fm ((z_iv h x2 8) - (z_iv h x2 14)) (10000 : Int32))) / (10000 : Int32)) (z_sI (z_sI (z_sI (z_sI (z_sR (z_sR h a0 0 (some x2)) a0 1 (some b2)) a0 2 x3) a0 3 (z_iv h x2 8)) a0 4 (x3 - (z_iv h x2 13))) a0 5 (s_fm ((z_iv h x2 8) - (z_iv h x2 14)) (10000 : Int32)))    ?_
    refine k_n 3 (pc' := 95) (L' := [some (.ref a0), some (.ref x1), some (.ref x2), some (.int x3), some (.int (((z_iv h x2 3) * (x3 - (z_iv h x2 13))) - (s_fm ((z_iv h x2 8) - (z_iv h x2 14)) (10000 : Int32))))]) (S' := [.int ((s_fm ((z_iv h x2 8) - (z_iv h x2 14)) (10000 : Int32)) + ((if (0 : Int32) < ((((z_iv h x2 3) * (x3 - (z_iv h x2 13))) - (s_fm ((z_iv h x2 8) - (z_iv h x2 14)) (10000 : Int32))) / (10000 : Int32)) then ((((z_iv h x2 3) * (x3 - (z_iv h x2 13))) - (s_fm ((z_iv h x2 8) - (z_iv h x2 14)) (10000 : Int32))) / (10000 : Int32)) else (0 : Int32)) * (10000 : Int32))), .ref a0]) (h' := (z_sI (z_sI (z_sI (z_sI (z_sR (z_sR h a0 0 (some x2)) a0 1 (some b2)) a0 2 x3) a0 3 (z_iv h x2 8)) a0 4 (x3 - (z_iv h x2 13))) a0 5 (s_fm ((z_iv h x2 8) - (z_iv h x2 14)) (10000 : Int32)))) rfl ?_
    refine k_pI rfl (z_tgI (z_tgI (z_tgI (z_tgI (z_tgR (z_tgR T0)))))) ?_
    refine k_n 2 (pc' := 100) (L' := [some (.ref a0), some (.ref x1), some (.ref x2), some (.int x3), some (.int (((z_iv h x2 3) * (x3 - (z_iv h x2 13))) - (s_fm ((z_iv h x2 8) - (z_iv h x2 14)) (10000 : Int32))))]) (S' := [.ref x2, .ref a0]) (h' := (z_sI (z_sI (z_sI (z_sI (z_sI (z_sR (z_sR h a0 0 (some x2)) a0 1 (some b2)) a0 2 x3) a0 3 (z_iv h x2 8)) a0 4 (x3 - (z_iv h x2 13))) a0 5 (s_fm ((z_iv h x2 8) - (z_iv h x2 14)) (10000 : Int32))) a0 6 ((s_fm ((z_iv h x2 8) - (z_iv h x2 14)) (10000 : Int32)) + ((if (0 : Int32) < ((((z_iv h x2 3) * (x3 - (z_iv h x2 13))) - (s_fm ((z_iv h x2 8) - (z_iv h x2 14)) (10000 : Int32))) / (10000 : Int32)) then ((((z_iv h x2 3) * (x3 - (z_iv h x2 13))) - (s_fm ((z_iv h x2 8) - (z_iv h x2 14)) (10000 : Int32))) / (10000 : Int32)) else (0 : Int32)) * (10000 : Int32))))) rfl ?_
    refine k_gV rfl rfl (z_tgI (z_tgI (z_tgI (z_tgI (z_tgI (z_tgR (z_tgR T2))))))) (v_nt (z_tgI (z_tgI (z_tgI (z_tgI (z_tgR (z_tgR T2)))))) (z_tgI (z_tgI (z_tgI (z_tgI (z_tgR (z_tgR T0)))))) (by decide) (v_nt (z_tgI (z_tgI (z_tgI (z_tgR (z_tgR T2))))) (z_tgI (z_tgI (z_tgI (z_tgR (z_tgR T0))))) (by decide) (v_nt (z_tgI (z_tgI (z_tgR (z_tgR T2)))) (z_tgI (z_tgI (z_tgR (z_tgR T0)))) (by decide) (v_nt (z_tgI (z_tgR (z_tgR T2))) (z_tgI (z_tgR (z_tgR T0))) (by decide) (v_nt (z_tgR (z_tgR T2)) (z_tgR (z_tgR T0)) (by decide) (v_sR (v_sR rfl))))))) ?_
    refine k_n 1 (pc' := 104) (L' := [some (.ref a0), some (.ref x1), some (.ref x2), some (.int x3), some (.int (((z_iv h x2 3) * (x3 - (z_iv h x2 13))) - (s_fm ((z_iv h x2 8) - (z_iv h x2 14)) (10000 : Int32))))]) (S' := [.ref x2, .int (z_iv h x2 12), .ref a0]) (h' := (z_sI (z_sI (z_sI (z_sI (z_sI (z_sR (z_sR h a0 0 (some x2)) a0 1 (some b2)) a0 2 x3) a0 3 (z_iv h x2 8)) a0 4 (x3 - (z_iv h x2 13))) a0 5 (s_fm ((z_iv h x2 8) - (z_iv h x2 14)) (10000 : Int32))) a0 6 ((s_fm ((z_iv h x2 8) - (z_iv h x2 14)) (10000 : Int32)) + ((if (0 : Int32) < ((((z_iv h x2 3) * (x3 - (z_iv h x2 13))) - (s_fm ((z_iv h x2 8) - (z_iv h x2 14)) (10000 : Int32))) / (10000 : Int32)) then ((((z_iv h x2 3) * (x3 - (z_iv h x2 13))) - (s_fm ((z_iv h x2 8) - (z_iv h x2 14)) (10000 : Int32))) / (10000 : Int32)) else (0 : Int32)) * (10000 : Int32))))) rfl ?_
    refine k_gV rfl rfl (z_tgI (z_tgI (z_tgI (z_tgI (z_tgI (z_tgR (z_tgR T2))))))) (v_nt (z_tgI (z_tgI (z_tgI (z_tgI (z_tgR (z_tgR T2)))))) (z_tgI (z_tgI (z_tgI (z_tgI (z_tgR (z_tgR T0)))))) (by decide) (v_nt (z_tgI (z_tgI (z_tgI (z_tgR (z_tgR T2))))) (z_tgI (z_tgI (z_tgI (z_tgR (z_tgR T0))))) (by decide) (v_nt (z_tgI (z_tgI (z_tgR (z_tgR T2)))) (z_tgI (z_tgI (z_tgR (z_tgR T0)))) (by decide) (v_nt (z_tgI (z_tgR (z_tgR T2))) (z_tgI (z_tgR (z_tgR T0))) (by decide) (v_nt (z_tgR (z_tgR T2)) (z_tgR (z_tgR T0)) (by decide) (v_sR (v_sR rfl))))))) ?_
    refine k_n 1 (pc' := 108) (L' := [some (.ref a0), some (.ref x1), some (.ref x2), some (.int x3), some (.int (((z_iv h x2 3) * (x3 - (z_iv h x2 13))) - (s_fm ((z_iv h x2 8) - (z_iv h x2 14)) (10000 : Int32))))]) (S' := [.int ((z_iv h x2 12) - (z_iv h x2 15)), .ref a0]) (h' := (z_sI (z_sI (z_sI (z_sI (z_sI (z_sR (z_sR h a0 0 (some x2)) a0 1 (some b2)) a0 2 x3) a0 3 (z_iv h x2 8)) a0 4 (x3 - (z_iv h x2 13))) a0 5 (s_fm ((z_iv h x2 8) - (z_iv h x2 14)) (10000 : Int32))) a0 6 ((s_fm ((z_iv h x2 8) - (z_iv h x2 14)) (10000 : Int32)) + ((if (0 : Int32) < ((((z_iv h x2 3) * (x3 - (z_iv h x2 13))) - (s_fm ((z_iv h x2 8) - (z_iv h x2 14)) (10000 : Int32))) / (10000 : Int32)) then ((((z_iv h x2 3) * (x3 - (z_iv h x2 13))) - (s_fm ((z_iv h x2 8) - (z_iv h x2 14)) (10000 : Int32))) / (10000 : Int32)) else (0 : Int32)) * (10000 : Int32))))) rfl ?_
    refine k_pI rfl (z_tgI (z_tgI (z_tgI (z_tgI (z_tgI (z_tgR (z_tgR T0))))))) ?_
    refine k_n 6 (pc' := 117) (L' := [some (.ref a0), some (.ref x1), some (.ref x2), some (.int x3), some (.int (((z_iv h x2 3) * (x3 - (z_iv h x2 13))) - (s_fm ((z_iv h x2 8) - (z_iv h x2 14)) (10000 : Int32))))]) (S' := [.int (5 : Int32), .int (x3 - (1 : Int32)), .ref x1, .ref a0]) (h' := (z_sI (z_sI (z_sI (z_sI (z_sI (z_sI (z_sR (z_sR h a0 0 (some x2)) a0 1 (some b2)) a0 2 x3) a0 3 (z_iv h x2 8)) a0 4 (x3 - (z_iv h x2 13))) a0 5 (s_fm ((z_iv h x2 8) - (z_iv h x2 14)) (10000 : Int32))) a0 6 ((s_fm ((z_iv h x2 8) - (z_iv h x2 14)) (10000 : Int32)) + ((if (0 : Int32) < ((((z_iv h x2 3) * (x3 - (z_iv h x2 13))) - (s_fm ((z_iv h x2 8) - (z_iv h x2 14)) (10000 : Int32))) / (10000 : Int32)) then ((((z_iv h x2 3) * (x3 - (z_iv h x2 13))) - (s_fm ((z_iv h x2 8) - (z_iv h x2 14)) (10000 : Int32))) / (10000 : Int32)) else (0 : Int32)) * (10000 : Int32)))) a0 7 ((z_iv h x2 12) - (z_iv h x2 15)))) rfl ?_
    refine k_cI 49 3 rfl rfl rfl (A := [.ref x1, .int (x3 - (1 : Int32)), .int (5 : Int32)]) rfl rfl (z_rok_ref (z_tgI (z_tgI (z_tgI (z_tgI (z_tgI (z_tgI (z_tgR (z_tgR T1))))))))) (rest := [.ref a0]) rfl (z_tyI rfl rfl) ?_
    obtain ⟨o5, H⟩ := H
    refine C_49 x1 (x3 - (1 : Int32)) (5 : Int32) (z_sI (z_sI (z_sI (z_sI (z_sI (z_sI (z_sR (z_sR h a0 0 (some x2)) a0 1 (some b2)) a0 2 x3) a0 3 (z_iv h x2 8)) a0 4 (x3 - (z_iv h x2 13))) a0 5 (s_fm ((z_iv h x2 8) - (z_iv h x2 14)) (10000 : Int32))) a0 6 ((s_fm ((z_iv h x2 8) - (z_iv h x2 14)) (10000 : Int32)) + ((if (0 : Int32) < ((((z_iv h x2 3) * (x3 - (z_iv h x2 13))) - (s_fm ((z_iv h x2 8) - (z_iv h x2 14)) (10000 : Int32))) / (10000 : Int32)) then ((((z_iv h x2 3) * (x3 - (z_iv h x2 13))) - (s_fm ((z_iv h x2 8) - (z_iv h x2 14)) (10000 : Int32))) / (10000 : Int32)) else (0 : Int32)) * (10000 : Int32)))) a0 7 ((z_iv h x2 12) - (z_iv h x2 15))) (CW.sI (CW.sI (CW.sI (CW.sI (CW.sI (CW.sI (CW.sR (CW.sR W T0 (j := 0) rfl (fun _ q_ => by cases q_; exact T2) (by decide)) (z_tgR T0) (j := 1) rfl (fun _ q_ => by cases q_; exact t3) (by decide)))))))) (z_tgI (z_tgI (z_tgI (z_tgI (z_tgI (z_tgI (z_tgR (z_tgR T1)))))))) o5 ?_
    refine k_pI rfl (z_tgI (z_tgI (z_tgI (z_tgI (z_tgI (z_tgI (z_tgR (z_tgR T0)))))))) ?_
    refine k_n 2 (pc' := 125) (L' := [some (.ref a0), some (.ref x1), some (.ref x2), some (.int x3), some (.int (((z_iv h x2 3) * (x3 - (z_iv h x2 13))) - (s_fm ((z_iv h x2 8) - (z_iv h x2 14)) (10000 : Int32))))]) (S' := [.ref x1, .ref a0]) (h' := (z_sI (z_sI (z_sI (z_sI (z_sI (z_sI (z_sI (z_sR (z_sR h a0 0 (some x2)) a0 1 (some b2)) a0 2 x3) a0 3 (z_iv h x2 8)) a0 4 (x3 - (z_iv h x2 13))) a0 5 (s_fm ((z_iv h x2 8) - (z_iv h x2 14)) (10000 : Int32))) a0 6 ((s_fm ((z_iv h x2 8) - (z_iv h x2 14)) (10000 : Int32)) + ((if (0 : Int32) < ((((z_iv h x2 3) * (x3 - (z_iv h x2 13))) - (s_fm ((z_iv h x2 8) - (z_iv h x2 14)) (10000 : Int32))) / (10000 : Int32)) then ((((z_iv h x2 3) * (x3 - (z_iv h x2 13))) - (s_fm ((z_iv h x2 8) - (z_iv h x2 14)) (10000 : Int32))) / (10000 : Int32)) else (0 : Int32)) * (10000 : Int32)))) a0 7 ((z_iv h x2 12) - (z_iv h x2 15))) a0 8 (if (0 : Int32) ≤ (x3 - (1 : Int32)) ∧ (x3 - (1 : Int32)) ≤ (59 : Int32) then (if (0 : Int32) ≤ (5 : Int32) ∧ (5 : Int32) ≤ (5 : Int32) then (z_iv (z_sI (z_sI (z_sI (z_sI (z_sI (z_sI (z_sR (z_sR h a0 0 (some x2)) a0 1 (some b2)) a0 2 x3) a0 3 (z_iv h x2 8)) a0 4 (x3 - (z_iv h x2 13))) a0 5 (s_fm ((z_iv h x2 8) - (z_iv h x2 14)) (10000 : Int32))) a0 6 ((s_fm ((z_iv h x2 8) - (z_iv h x2 14)) (10000 : Int32)) + ((if (0 : Int32) < ((((z_iv h x2 3) * (x3 - (z_iv h x2 13))) - (s_fm ((z_iv h x2 8) - (z_iv h x2 14)) (10000 : Int32))) / (10000 : Int32)) then ((((z_iv h x2 3) * (x3 - (z_iv h x2 13))) - (s_fm ((z_iv h x2 8) - (z_iv h x2 14)) (10000 : Int32))) / (10000 : Int32)) else (0 : Int32)) * (10000 : Int32)))) a0 7 ((z_iv h x2 12) - (z_iv h x2 15))) (x1 + 3) (z_ix (((5 : Int32) * (60 : Int32)) + (x3 - (1 : Int32))))) else (0 : Int32)) else (0 : Int32)))) rfl ?_
    refine k_gV rfl rfl (z_tgI (z_tgI (z_tgI (z_tgI (z_tgI (z_tgI (z_tgI (z_tgR (z_tgR T1))))))))) (v_nt (z_tgI (z_tgI (z_tgI (z_tgI (z_tgI (z_tgI (z_tgR (z_tgR T1)))))))) (z_tgI (z_tgI (z_tgI (z_tgI (z_tgI (z_tgI (z_tgR (z_tgR T0)))))))) (by decide) (v_nt (z_tgI (z_tgI (z_tgI (z_tgI (z_tgI (z_tgR (z_tgR T1))))))) (z_tgI (z_tgI (z_tgI (z_tgI (z_tgI (z_tgR (z_tgR T0))))))) (by decide) (v_nt (z_tgI (z_tgI (z_tgI (z_tgI (z_tgR (z_tgR T1)))))) (z_tgI (z_tgI (z_tgI (z_tgI (z_tgR (z_tgR T0)))))) (by decide) (v_nt (z_tgI (z_tgI (z_tgI (z_tgR (z_tgR T1))))) (z_tgI (z_tgI (z_tgI (z_tgR (z_tgR T0))))) (by decide) (v_nt (z_tgI (z_tgI (z_tgR (z_tgR T1)))) (z_tgI (z_tgI (z_tgR (z_tgR T0)))) (by decide) (v_nt (z_tgI (z_tgR (z_tgR T1))) (z_tgI (z_tgR (z_tgR T0))) (by decide) (v_nt (z_tgR (z_tgR T1)) (z_tgR (z_tgR T0)) (by decide) (v_sR (v_sR rfl))))))))) ?_
    refine k_pI rfl (z_tgI (z_tgI (z_tgI (z_tgI (z_tgI (z_tgI (z_tgI (z_tgR (z_tgR T0))))))))) ?_
    exact k_r rfl rfl rfl H
set_option maxRecDepth 20000 in
theorem X_43 (a0 : Nat) (x1 : Int32) (x2 : Int32) (x3 : Int32) (x4 : Int32) (h : zH) (T0 : z_tg h a0 = 4) (La : a0 < z_nx h) {Q : Unit → zH → Prop} (H : KG z_pV 43 53 [some (.ref a0), some (.int x1), some (.int x2), some (.int x3), some (.int x4), some (.int (0 : Int32))] [] (z_sI (z_sI (z_sI (z_sI (z_sR (z_nw (z_sR (z_nw (z_sR (z_nw h 100 12 12) a0 2 (some (z_nx h))) 100 8 8) a0 3 (some (z_nx (z_sR (z_nw h 100 12 12) a0 2 (some (z_nx h)))))) 100 360 360) a0 4 (some (z_nx (z_sR (z_nw (z_sR (z_nw h 100 12 12) a0 2 (some (z_nx h))) 100 8 8) a0 3 (some (z_nx (z_sR (z_nw h 100 12 12) a0 2 (some (z_nx h))))))))) a0 0 x1) a0 1 x2) a0 5 x3) a0 6 x4) Q) : KK z_pV 43 [.ref a0, .int x1, .int x2, .int x3, .int x4] h Q := by
  refine k_K (L := [some (.ref a0), some (.int x1), some (.int x2), some (.int x3), some (.int x4), none]) rfl ?_
  refine k_n 4 (pc' := 7) (L' := [some (.ref a0), some (.int x1), some (.int x2), some (.int x3), some (.int x4), none]) (S' := [.int (12 : Int32), .ref a0]) (h' := h) rfl ?_
  refine k_na rfl (by decide) ?_
  refine k_pR rfl (z_keep La T0) ?_
  refine k_n 2 (pc' := 15) (L' := [some (.ref a0), some (.int x1), some (.int x2), some (.int x3), some (.int x4), none]) (S' := [.int (8 : Int32), .ref a0]) (h' := (z_sR (z_nw h 100 12 12) a0 2 (some (z_nx h)))) rfl ?_
  refine k_na rfl (by decide) ?_
  refine k_pR rfl (z_keep (Nat.lt_succ_of_lt La) (z_tgR (z_keep La T0))) ?_
  refine k_n 2 (pc' := 24) (L' := [some (.ref a0), some (.int x1), some (.int x2), some (.int x3), some (.int x4), none]) (S' := [.int (360 : Int32), .ref a0]) (h' := (z_sR (z_nw (z_sR (z_nw h 100 12 12) a0 2 (some (z_nx h))) 100 8 8) a0 3 (some (z_nx (z_sR (z_nw h 100 12 12) a0 2 (some (z_nx h))))))) rfl ?_
  refine k_na rfl (by decide) ?_
  refine k_pR rfl (z_keep (Nat.lt_succ_of_lt (Nat.lt_succ_of_lt La)) (z_tgR (z_keep (Nat.lt_succ_of_lt La) (z_tgR (z_keep La T0))))) ?_
  refine k_n 2 (pc' := 31) (L' := [some (.ref a0), some (.int x1), some (.int x2), some (.int x3), some (.int x4), none]) (S' := [.int x1, .ref a0]) (h' := (z_sR (z_nw (z_sR (z_nw (z_sR (z_nw h 100 12 12) a0 2 (some (z_nx h))) 100 8 8) a0 3 (some (z_nx (z_sR (z_nw h 100 12 12) a0 2 (some (z_nx h)))))) 100 360 360) a0 4 (some (z_nx (z_sR (z_nw (z_sR (z_nw h 100 12 12) a0 2 (some (z_nx h))) 100 8 8) a0 3 (some (z_nx (z_sR (z_nw h 100 12 12) a0 2 (some (z_nx h)))))))))) rfl ?_
  refine k_pI rfl (z_tgR (z_keep (Nat.lt_succ_of_lt (Nat.lt_succ_of_lt La)) (z_tgR (z_keep (Nat.lt_succ_of_lt La) (z_tgR (z_keep La T0)))))) ?_
  refine k_n 2 (pc' := 36) (L' := [some (.ref a0), some (.int x1), some (.int x2), some (.int x3), some (.int x4), none]) (S' := [.int x2, .ref a0]) (h' := (z_sI (z_sR (z_nw (z_sR (z_nw (z_sR (z_nw h 100 12 12) a0 2 (some (z_nx h))) 100 8 8) a0 3 (some (z_nx (z_sR (z_nw h 100 12 12) a0 2 (some (z_nx h)))))) 100 360 360) a0 4 (some (z_nx (z_sR (z_nw (z_sR (z_nw h 100 12 12) a0 2 (some (z_nx h))) 100 8 8) a0 3 (some (z_nx (z_sR (z_nw h 100 12 12) a0 2 (some (z_nx h))))))))) a0 0 x1)) rfl ?_
  refine k_pI rfl (z_tgI (z_tgR (z_keep (Nat.lt_succ_of_lt (Nat.lt_succ_of_lt La)) (z_tgR (z_keep (Nat.lt_succ_of_lt La) (z_tgR (z_keep La T0))))))) ?_
  refine k_n 2 (pc' := 41) (L' := [some (.ref a0), some (.int x1), some (.int x2), some (.int x3), some (.int x4), none]) (S' := [.int x3, .ref a0]) (h' := (z_sI (z_sI (z_sR (z_nw (z_sR (z_nw (z_sR (z_nw h 100 12 12) a0 2 (some (z_nx h))) 100 8 8) a0 3 (some (z_nx (z_sR (z_nw h 100 12 12) a0 2 (some (z_nx h)))))) 100 360 360) a0 4 (some (z_nx (z_sR (z_nw (z_sR (z_nw h 100 12 12) a0 2 (some (z_nx h))) 100 8 8) a0 3 (some (z_nx (z_sR (z_nw h 100 12 12) a0 2 (some (z_nx h))))))))) a0 0 x1) a0 1 x2)) rfl ?_
  refine k_pI rfl (z_tgI (z_tgI (z_tgR (z_keep (Nat.lt_succ_of_lt (Nat.lt_succ_of_lt La)) (z_tgR (z_keep (Nat.lt_succ_of_lt La) (z_tgR (z_keep La T0)))))))) ?_
  refine k_n 2 (pc' := 47) (L' := [some (.ref a0), some (.int x1), some (.int x2), some (.int x3), some (.int x4), none]) (S' := [.int x4, .ref a0]) (h' := (z_sI (z_sI (z_sI (z_sR (z_nw (z_sR (z_nw (z_sR (z_nw h 100 12 12) a0 2 (some (z_nx h))) 100 8 8) a0 3 (some (z_nx (z_sR (z_nw h 100 12 12) a0 2 (some (z_nx h)))))) 100 360 360) a0 4 (some (z_nx (z_sR (z_nw (z_sR (z_nw h 100 12 12) a0 2 (some (z_nx h))) 100 8 8) a0 3 (some (z_nx (z_sR (z_nw h 100 12 12) a0 2 (some (z_nx h))))))))) a0 0 x1) a0 1 x2) a0 5 x3)) rfl ?_
  refine k_pI rfl (z_tgI (z_tgI (z_tgI (z_tgR (z_keep (Nat.lt_succ_of_lt (Nat.lt_succ_of_lt La)) (z_tgR (z_keep (Nat.lt_succ_of_lt La) (z_tgR (z_keep La T0))))))))) ?_
  refine k_n 2 (pc' := 53) (L' := [some (.ref a0), some (.int x1), some (.int x2), some (.int x3), some (.int x4), some (.int (0 : Int32))]) (S' := []) (h' := (z_sI (z_sI (z_sI (z_sI (z_sR (z_nw (z_sR (z_nw (z_sR (z_nw h 100 12 12) a0 2 (some (z_nx h))) 100 8 8) a0 3 (some (z_nx (z_sR (z_nw h 100 12 12) a0 2 (some (z_nx h)))))) 100 360 360) a0 4 (some (z_nx (z_sR (z_nw (z_sR (z_nw h 100 12 12) a0 2 (some (z_nx h))) 100 8 8) a0 3 (some (z_nx (z_sR (z_nw h 100 12 12) a0 2 (some (z_nx h))))))))) a0 0 x1) a0 1 x2) a0 5 x3) a0 6 x4)) rfl ?_
  exact H
set_option maxRecDepth 20000 in
theorem X_43_53 (a0 : Nat) (y1 : Int32) (y2 : Int32) (y3 : Int32) (y4 : Int32) (y5 : Int32) (h : zH) (Ta0 : z_tg h a0 = 4) (F0 : z_rv h a0 4 = some (a0 + 3)) (G0 : z_tg h (a0 + 3) = 100) (J0 : z_ln h (a0 + 3) = 360) {Q : Unit → zH → Prop} (H : if (60 : Int32) ≤ y5 then (Q () h) else ((0 ≤ ((180 : Int32) + y5).toInt ∧ ((180 : Int32) + y5).toInt < 360) ∧ KG z_pV 43 53 [some (.ref a0), some (.int y1), some (.int y2), some (.int y3), some (.int y4), some (.int (y5 + (1 : Int32)))] [] (z_sI h (a0 + 3) (z_ix ((180 : Int32) + y5)) (-4 : Int32)) Q)) : KG z_pV 43 53 [some (.ref a0), some (.int y1), some (.int y2), some (.int y3), some (.int y4), some (.int y5)] [] h Q := by
  refine k_n 2 (pc' := 57) (L' := [some (.ref a0), some (.int y1), some (.int y2), some (.int y3), some (.int y4), some (.int y5)]) (S' := [.int (60 : Int32), .int y5]) (h' := h) rfl ?_
  refine k_b (g := (60 : Int32) ≤ y5) (pc' := 79) (L' := [some (.ref a0), some (.int y1), some (.int y2), some (.int y3), some (.int y4), some (.int y5)]) (S' := []) (pc2 := 60) (L2 := [some (.ref a0), some (.int y1), some (.int y2), some (.int y3), some (.int y4), some (.int y5)]) (S2 := []) (h' := h) (h2 := h) rfl rfl (fun hc => ?_) (fun hc => ?_)
  · have hc := hc
    rw [if_pos hc] at H
    exact k_r rfl rfl rfl H
  · have hc := hc
    rw [if_neg hc] at H
    refine k_n 1 (pc' := 61) (L' := [some (.ref a0), some (.int y1), some (.int y2), some (.int y3), some (.int y4), some (.int y5)]) (S' := [.ref a0]) (h' := h) rfl ?_
    refine k_gS rfl Ta0 F0 ?_
    refine k_n 4 (pc' := 72) (L' := [some (.ref a0), some (.int y1), some (.int y2), some (.int y3), some (.int y4), some (.int y5)]) (S' := [.int (-4 : Int32), .int ((180 : Int32) + y5), .ref (a0 + 3)]) (h' := h) rfl ?_
    obtain ⟨o1, H⟩ := H
    refine k_is (n := 360) rfl G0 J0 o1 ?_
    refine k_n 2 (pc' := 53) (L' := [some (.ref a0), some (.int y1), some (.int y2), some (.int y3), some (.int y4), some (.int (y5 + (1 : Int32)))]) (S' := []) (h' := (z_sI h (a0 + 3) (z_ix ((180 : Int32) + y5)) (-4 : Int32))) rfl ?_
    exact H
set_option maxRecDepth 20000 in
theorem X_87 (a0 : Nat) (x1 : Int32) (x2 : Int32) (h : zH) (T0 : z_tg h a0 = 8) (La : a0 < z_nx h) {Q : Unit → zH → Prop} (H : (0 ≤ (if (0 : Int32) < (if (48 : Int32) < x2 then (48 : Int32) else x2) then (if (48 : Int32) < x2 then (48 : Int32) else x2) else (0 : Int32)).toInt ∧ (if (0 : Int32) < (if (48 : Int32) < x2 then (48 : Int32) else x2) then (if (48 : Int32) < x2 then (48 : Int32) else x2) else (0 : Int32)).toInt ≤ 100000) ∧ Q () (z_sR (z_nw (z_sI h a0 0 x1) 100 (z_ix (if (0 : Int32) < (if (48 : Int32) < x2 then (48 : Int32) else x2) then (if (48 : Int32) < x2 then (48 : Int32) else x2) else (0 : Int32))) (z_ix (if (0 : Int32) < (if (48 : Int32) < x2 then (48 : Int32) else x2) then (if (48 : Int32) < x2 then (48 : Int32) else x2) else (0 : Int32)))) a0 1 (some (z_nx (z_sI h a0 0 x1))))) : KK z_pV 87 [.ref a0, .int x1, .int x2] h Q := by
  refine k_K (L := [some (.ref a0), some (.int x1), some (.int x2)]) rfl ?_
  refine k_n 4 (pc' := 6) (L' := [some (.ref a0), some (.int x1), some (.int x2)]) (S' := [.int x1, .ref a0]) (h' := h) rfl ?_
  refine k_pI rfl T0 ?_
  refine k_n 4 (pc' := 14) (L' := [some (.ref a0), some (.int x1), some (.int x2)]) (S' := [.int (48 : Int32), .int x2, .int (0 : Int32), .ref a0]) (h' := (z_sI h a0 0 x1)) rfl ?_
  refine k_cI 14 2 rfl rfl rfl (A := [.int x2, .int (48 : Int32)]) rfl rfl rfl (rest := [.int (0 : Int32), .ref a0]) rfl (z_tyI rfl rfl) ?_
  refine C_14 x2 (48 : Int32) (z_sI h a0 0 x1)    ?_
  refine k_cI 12 2 rfl rfl rfl (A := [.int (0 : Int32), .int (if (48 : Int32) < x2 then (48 : Int32) else x2)]) rfl rfl rfl (rest := [.ref a0]) rfl (z_tyI rfl rfl) ?_
  refine C_12 (0 : Int32) (if (48 : Int32) < x2 then (48 : Int32) else x2) (z_sI h a0 0 x1)    ?_
  obtain ⟨o1, H⟩ := H
  refine k_na rfl o1 ?_
  refine k_pR rfl (z_keep La (z_tgI T0)) ?_
  exact k_r rfl rfl rfl H
set_option maxRecDepth 20000 in
theorem X_19 (a0 : Nat) (x1 : Int32) (x2 : Int32) (x3 : Int32) (h : zH) (W : CW h) (T0 : z_tg h a0 = 1) {Q : Int32 → zH → Prop} (H : (¬ (x2 < 0) → ¬ ((7 : Int32) ≤ x2) → 0 ≤ x2.toInt ∧ x2.toInt < 7) ∧ KG z_pI 19 9 [some (.ref a0), some (.int x1), some (.int x2), some (.int x3), some (.int (if x2 < 0 then (-4 : Int32) else (if (7 : Int32) ≤ x2 then (-4 : Int32) else ((z_st.getD 0 []).getD (z_ix x2) 0)))), some (.int (0 : Int32))] [] h Q) : KK z_pI 19 [.ref a0, .int x1, .int x2, .int x3] h Q := by
  refine k_K (L := [some (.ref a0), some (.int x1), some (.int x2), some (.int x3), none, none]) rfl ?_
  refine k_n 1 (pc' := 1) (L' := [some (.ref a0), some (.int x1), some (.int x2), some (.int x3), none, none]) (S' := [.int x2]) (h' := h) rfl ?_
  refine k_cI 18 1 rfl rfl rfl (A := [.int x2]) rfl rfl rfl (rest := []) rfl (z_tyI rfl rfl) ?_
  obtain ⟨o1, H⟩ := H
  refine C_18 x2 h   o1 ?_
  refine k_n 3 (pc' := 9) (L' := [some (.ref a0), some (.int x1), some (.int x2), some (.int x3), some (.int (if x2 < 0 then (-4 : Int32) else (if (7 : Int32) ≤ x2 then (-4 : Int32) else ((z_st.getD 0 []).getD (z_ix x2) 0)))), some (.int (0 : Int32))]) (S' := []) (h' := h) rfl ?_
  exact H
set_option maxRecDepth 20000 in
theorem X_19_9 (a0 : Nat) (y1 : Int32) (y2 : Int32) (y3 : Int32) (y4 : Int32) (y5 : Int32) (h : zH) (W : CW h) (Ta0 : z_tg h a0 = 1) {Q : Int32 → zH → Prop} (H : if (z_iv h a0 5) ≤ y5 then (Q (0 : Int32) h) else (if (16 : Int32) ≤ y5 then (Q (0 : Int32) h) else ((0 ≤ y5.toInt ∧ y5.toInt < 16) ∧ (if (z_iv h (a0 + 1) (z_ix y5)) = y1 then ((0 ≤ y5.toInt ∧ y5.toInt < 16) ∧ (if (z_iv h (a0 + 3) (z_ix y5)) = y4 then ((0 ≤ y5.toInt ∧ y5.toInt < 16) ∧ (if (z_iv h (a0 + 4) (z_ix y5)) = y3 then (Q (1 : Int32) h) else (KG z_pI 19 9 [some (.ref a0), some (.int y1), some (.int y2), some (.int y3), some (.int y4), some (.int (y5 + (1 : Int32)))] [] h Q))) else (KG z_pI 19 9 [some (.ref a0), some (.int y1), some (.int y2), some (.int y3), some (.int y4), some (.int (y5 + (1 : Int32)))] [] h Q))) else (KG z_pI 19 9 [some (.ref a0), some (.int y1), some (.int y2), some (.int y3), some (.int y4), some (.int (y5 + (1 : Int32)))] [] h Q))))) : KG z_pI 19 9 [some (.ref a0), some (.int y1), some (.int y2), some (.int y3), some (.int y4), some (.int y5)] [] h Q := by
  refine k_n 2 (pc' := 12) (L' := [some (.ref a0), some (.int y1), some (.int y2), some (.int y3), some (.int y4), some (.int y5)]) (S' := [.ref a0, .int y5]) (h' := h) rfl ?_
  refine k_gI rfl rfl Ta0 ?_
  refine k_b (g := (z_iv h a0 5) ≤ y5) (pc' := 67) (L' := [some (.ref a0), some (.int y1), some (.int y2), some (.int y3), some (.int y4), some (.int y5)]) (S' := []) (pc2 := 18) (L2 := [some (.ref a0), some (.int y1), some (.int y2), some (.int y3), some (.int y4), some (.int y5)]) (S2 := []) (h' := h) (h2 := h) rfl rfl (fun hc => ?_) (fun hc => ?_)
  · have hc := hc
    rw [if_pos hc] at H
    refine k_n 1 (pc' := 68) (L' := [some (.ref a0), some (.int y1), some (.int y2), some (.int y3), some (.int y4), some (.int y5)]) (S' := [.int (0 : Int32)]) (h' := h) rfl ?_
    exact k_r rfl rfl rfl H
  · have hc := hc
    rw [if_neg hc] at H
    refine k_n 2 (pc' := 22) (L' := [some (.ref a0), some (.int y1), some (.int y2), some (.int y3), some (.int y4), some (.int y5)]) (S' := [.int (16 : Int32), .int y5]) (h' := h) rfl ?_
    refine k_b (g := (16 : Int32) ≤ y5) (pc' := 67) (L' := [some (.ref a0), some (.int y1), some (.int y2), some (.int y3), some (.int y4), some (.int y5)]) (S' := []) (pc2 := 25) (L2 := [some (.ref a0), some (.int y1), some (.int y2), some (.int y3), some (.int y4), some (.int y5)]) (S2 := []) (h' := h) (h2 := h) rfl rfl (fun hc => ?_) (fun hc => ?_)
    · have hc := hc
      rw [if_pos hc] at H
      refine k_n 1 (pc' := 68) (L' := [some (.ref a0), some (.int y1), some (.int y2), some (.int y3), some (.int y4), some (.int y5)]) (S' := [.int (0 : Int32)]) (h' := h) rfl ?_
      exact k_r rfl rfl rfl H
    · have hc := hc
      rw [if_neg hc] at H
      refine k_n 1 (pc' := 26) (L' := [some (.ref a0), some (.int y1), some (.int y2), some (.int y3), some (.int y4), some (.int y5)]) (S' := [.ref a0]) (h' := h) rfl ?_
      refine k_gS (b := (a0 + 1)) rfl Ta0 (W.reOf (t := 1) (j := 0) (o := 1) (n := 16) (by decide) Ta0).1 ?_
      refine k_n 1 (pc' := 31) (L' := [some (.ref a0), some (.int y1), some (.int y2), some (.int y3), some (.int y4), some (.int y5)]) (S' := [.int y5, .ref (a0 + 1)]) (h' := h) rfl ?_
      obtain ⟨o2, H⟩ := H
      refine k_ia (c := 0) (n := 16) rfl (CW.tyOf (t := 1) (t' := 100) W (j := 0) Ta0 (W.reOf (t := 1) (j := 0) (o := 1) (n := 16) (by decide) Ta0).1 (by decide) rfl) (W.reOf (t := 1) (j := 0) (o := 1) (n := 16) (by decide) Ta0).2 o2 ?_
      refine k_n 1 (pc' := 33) (L' := [some (.ref a0), some (.int y1), some (.int y2), some (.int y3), some (.int y4), some (.int y5)]) (S' := [.int y1, .int (z_iv h (a0 + 1) (z_ix y5))]) (h' := h) rfl ?_
      refine k_b (g := (z_iv h (a0 + 1) (z_ix y5)) = y1) (pc' := 36) (L' := [some (.ref a0), some (.int y1), some (.int y2), some (.int y3), some (.int y4), some (.int y5)]) (S' := []) (pc2 := 61) (L2 := [some (.ref a0), some (.int y1), some (.int y2), some (.int y3), some (.int y4), some (.int y5)]) (S2 := []) (h' := h) (h2 := h) rfl rfl (fun hc => ?_) (fun hc => ?_)
      · have hc := hc
        rw [if_pos hc] at H
        refine k_n 1 (pc' := 37) (L' := [some (.ref a0), some (.int y1), some (.int y2), some (.int y3), some (.int y4), some (.int y5)]) (S' := [.ref a0]) (h' := h) rfl ?_
        refine k_gS (b := (a0 + 3)) rfl Ta0 (W.reOf (t := 1) (j := 2) (o := 3) (n := 16) (by decide) Ta0).1 ?_
        refine k_n 1 (pc' := 42) (L' := [some (.ref a0), some (.int y1), some (.int y2), some (.int y3), some (.int y4), some (.int y5)]) (S' := [.int y5, .ref (a0 + 3)]) (h' := h) rfl ?_
        obtain ⟨o3, H⟩ := H
        refine k_ia (c := 0) (n := 16) rfl (CW.tyOf (t := 1) (t' := 100) W (j := 2) Ta0 (W.reOf (t := 1) (j := 2) (o := 3) (n := 16) (by decide) Ta0).1 (by decide) rfl) (W.reOf (t := 1) (j := 2) (o := 3) (n := 16) (by decide) Ta0).2 o3 ?_
        refine k_n 1 (pc' := 45) (L' := [some (.ref a0), some (.int y1), some (.int y2), some (.int y3), some (.int y4), some (.int y5)]) (S' := [.int y4, .int (z_iv h (a0 + 3) (z_ix y5))]) (h' := h) rfl ?_
        refine k_b (g := (z_iv h (a0 + 3) (z_ix y5)) = y4) (pc' := 48) (L' := [some (.ref a0), some (.int y1), some (.int y2), some (.int y3), some (.int y4), some (.int y5)]) (S' := []) (pc2 := 61) (L2 := [some (.ref a0), some (.int y1), some (.int y2), some (.int y3), some (.int y4), some (.int y5)]) (S2 := []) (h' := h) (h2 := h) rfl rfl (fun hc => ?_) (fun hc => ?_)
        · have hc := hc
          rw [if_pos hc] at H
          refine k_n 1 (pc' := 49) (L' := [some (.ref a0), some (.int y1), some (.int y2), some (.int y3), some (.int y4), some (.int y5)]) (S' := [.ref a0]) (h' := h) rfl ?_
          refine k_gS (b := (a0 + 4)) rfl Ta0 (W.reOf (t := 1) (j := 3) (o := 4) (n := 16) (by decide) Ta0).1 ?_
          refine k_n 1 (pc' := 54) (L' := [some (.ref a0), some (.int y1), some (.int y2), some (.int y3), some (.int y4), some (.int y5)]) (S' := [.int y5, .ref (a0 + 4)]) (h' := h) rfl ?_
          obtain ⟨o4, H⟩ := H
          refine k_ia (c := 0) (n := 16) rfl (CW.tyOf (t := 1) (t' := 100) W (j := 3) Ta0 (W.reOf (t := 1) (j := 3) (o := 4) (n := 16) (by decide) Ta0).1 (by decide) rfl) (W.reOf (t := 1) (j := 3) (o := 4) (n := 16) (by decide) Ta0).2 o4 ?_
          refine k_n 1 (pc' := 56) (L' := [some (.ref a0), some (.int y1), some (.int y2), some (.int y3), some (.int y4), some (.int y5)]) (S' := [.int y3, .int (z_iv h (a0 + 4) (z_ix y5))]) (h' := h) rfl ?_
          refine k_b (g := (z_iv h (a0 + 4) (z_ix y5)) = y3) (pc' := 59) (L' := [some (.ref a0), some (.int y1), some (.int y2), some (.int y3), some (.int y4), some (.int y5)]) (S' := []) (pc2 := 61) (L2 := [some (.ref a0), some (.int y1), some (.int y2), some (.int y3), some (.int y4), some (.int y5)]) (S2 := []) (h' := h) (h2 := h) rfl rfl (fun hc => ?_) (fun hc => ?_)
          · have hc := hc
            rw [if_pos hc] at H
            refine k_n 1 (pc' := 60) (L' := [some (.ref a0), some (.int y1), some (.int y2), some (.int y3), some (.int y4), some (.int y5)]) (S' := [.int (1 : Int32)]) (h' := h) rfl ?_
            exact k_r rfl rfl rfl H
          · have hc := hc
            rw [if_neg hc] at H
            refine k_n 2 (pc' := 9) (L' := [some (.ref a0), some (.int y1), some (.int y2), some (.int y3), some (.int y4), some (.int (y5 + (1 : Int32)))]) (S' := []) (h' := h) rfl ?_
            exact H
        · have hc := hc
          rw [if_neg hc] at H
          refine k_n 2 (pc' := 9) (L' := [some (.ref a0), some (.int y1), some (.int y2), some (.int y3), some (.int y4), some (.int (y5 + (1 : Int32)))]) (S' := []) (h' := h) rfl ?_
          exact H
      · have hc := hc
        rw [if_neg hc] at H
        refine k_n 2 (pc' := 9) (L' := [some (.ref a0), some (.int y1), some (.int y2), some (.int y3), some (.int y4), some (.int (y5 + (1 : Int32)))]) (S' := []) (h' := h) rfl ?_
        exact H
set_option maxRecDepth 20000 in
theorem X_20 (a0 : Nat) (x1 : Int32) (x2 : Int32) (x3 : Int32) (h : zH) (W : CW h) (T0 : z_tg h a0 = 1) {Q : Int32 → zH → Prop} (H : KG z_pI 20 10 [some (.ref a0), some (.int x1), some (.int x2), some (.int x3), some (.int (-4 : Int32)), some (.int (-1 : Int32)), some (.int (0 : Int32)), none] [] h Q) : KK z_pI 20 [.ref a0, .int x1, .int x2, .int x3] h Q := by
  refine k_K (L := [some (.ref a0), some (.int x1), some (.int x2), some (.int x3), none, none, none, none]) rfl ?_
  refine k_n 6 (pc' := 10) (L' := [some (.ref a0), some (.int x1), some (.int x2), some (.int x3), some (.int (-4 : Int32)), some (.int (-1 : Int32)), some (.int (0 : Int32)), none]) (S' := []) (h' := h) rfl ?_
  exact H
set_option maxRecDepth 20000 in
theorem X_20_10 (a0 : Nat) (y1 : Int32) (y2 : Int32) (y3 : Int32) (y4 : Int32) (y5 : Int32) (y6 : Int32) (u7 : Option Value) (h : zH) (W : CW h) (Ta0 : z_tg h a0 = 1) {Q : Int32 → zH → Prop} (H : if (z_iv h a0 5) ≤ y6 then (Q y4 h) else (if (16 : Int32) ≤ y6 then (Q y4 h) else ((0 ≤ y6.toInt ∧ y6.toInt < 16) ∧ (((z_iv h (a0 + 3) (z_ix y6)) = y1) → 0 ≤ y6.toInt ∧ y6.toInt < 16) ∧ ((((z_iv h (a0 + 3) (z_ix y6)) = y1) ∧ ((z_iv h (a0 + 4) (z_ix y6)) = y2)) → 0 ≤ y6.toInt ∧ y6.toInt < 16) ∧ ((((z_iv h (a0 + 3) (z_ix y6)) = y1) ∧ ((z_iv h (a0 + 4) (z_ix y6)) = y2)) → ¬ (y3 < (z_iv h (a0 + 1) (z_ix y6))) → 0 ≤ y6.toInt ∧ y6.toInt < 16) ∧ ((((z_iv h (a0 + 3) (z_ix y6)) = y1) ∧ ((z_iv h (a0 + 4) (z_ix y6)) = y2)) → ¬ (y3 < (z_iv h (a0 + 1) (z_ix y6))) → ¬ ((z_iv h (a0 + 1) (z_ix y6)) ≤ y5) → 0 ≤ y6.toInt ∧ y6.toInt < 16) ∧ (∀ m12 : Int32, m12 = (if ((z_iv h (a0 + 3) (z_ix y6)) = y1) ∧ ((z_iv h (a0 + 4) (z_ix y6)) = y2) then (if y3 < (z_iv h (a0 + 1) (z_ix y6)) then y4 else (if (z_iv h (a0 + 1) (z_ix y6)) ≤ y5 then y4 else y6)) else y4) → ∀ m13 : Int32, m13 = (if ((z_iv h (a0 + 3) (z_ix y6)) = y1) ∧ ((z_iv h (a0 + 4) (z_ix y6)) = y2) then (if y3 < (z_iv h (a0 + 1) (z_ix y6)) then y5 else (if (z_iv h (a0 + 1) (z_ix y6)) ≤ y5 then y5 else (z_iv h (a0 + 1) (z_ix y6)))) else y5) → KG z_pI 20 10 [some (.ref a0), some (.int y1), some (.int y2), some (.int y3), some (.int m12), some (.int m13), some (.int (y6 + (1 : Int32))), some (.int (z_bt (((z_iv h (a0 + 3) (z_ix y6)) = y1) ∧ ((z_iv h (a0 + 4) (z_ix y6)) = y2))))] [] h Q)))) : KG z_pI 20 10 [some (.ref a0), some (.int y1), some (.int y2), some (.int y3), some (.int y4), some (.int y5), some (.int y6), u7] [] h Q := by
  refine k_n 2 (pc' := 13) (L' := [some (.ref a0), some (.int y1), some (.int y2), some (.int y3), some (.int y4), some (.int y5), some (.int y6), u7]) (S' := [.ref a0, .int y6]) (h' := h) rfl ?_
  refine k_gI rfl rfl Ta0 ?_
  refine k_b (g := (z_iv h a0 5) ≤ y6) (pc' := 102) (L' := [some (.ref a0), some (.int y1), some (.int y2), some (.int y3), some (.int y4), some (.int y5), some (.int y6), u7]) (S' := []) (pc2 := 19) (L2 := [some (.ref a0), some (.int y1), some (.int y2), some (.int y3), some (.int y4), some (.int y5), some (.int y6), u7]) (S2 := []) (h' := h) (h2 := h) rfl rfl (fun hc => ?_) (fun hc => ?_)
  · have hc := hc
    rw [if_pos hc] at H
    refine k_n 1 (pc' := 104) (L' := [some (.ref a0), some (.int y1), some (.int y2), some (.int y3), some (.int y4), some (.int y5), some (.int y6), u7]) (S' := [.int y4]) (h' := h) rfl ?_
    exact k_r rfl rfl rfl H
  · have hc := hc
    rw [if_neg hc] at H
    refine k_n 2 (pc' := 23) (L' := [some (.ref a0), some (.int y1), some (.int y2), some (.int y3), some (.int y4), some (.int y5), some (.int y6), u7]) (S' := [.int (16 : Int32), .int y6]) (h' := h) rfl ?_
    refine k_b (g := (16 : Int32) ≤ y6) (pc' := 102) (L' := [some (.ref a0), some (.int y1), some (.int y2), some (.int y3), some (.int y4), some (.int y5), some (.int y6), u7]) (S' := []) (pc2 := 26) (L2 := [some (.ref a0), some (.int y1), some (.int y2), some (.int y3), some (.int y4), some (.int y5), some (.int y6), u7]) (S2 := []) (h' := h) (h2 := h) rfl rfl (fun hc => ?_) (fun hc => ?_)
    · have hc := hc
      rw [if_pos hc] at H
      refine k_n 1 (pc' := 104) (L' := [some (.ref a0), some (.int y1), some (.int y2), some (.int y3), some (.int y4), some (.int y5), some (.int y6), u7]) (S' := [.int y4]) (h' := h) rfl ?_
      exact k_r rfl rfl rfl H
    · have hc := hc
      rw [if_neg hc] at H
      refine k_n 1 (pc' := 27) (L' := [some (.ref a0), some (.int y1), some (.int y2), some (.int y3), some (.int y4), some (.int y5), some (.int y6), u7]) (S' := [.ref a0]) (h' := h) rfl ?_
      refine k_gS (b := (a0 + 3)) rfl Ta0 (W.reOf (t := 1) (j := 2) (o := 3) (n := 16) (by decide) Ta0).1 ?_
      refine k_n 1 (pc' := 32) (L' := [some (.ref a0), some (.int y1), some (.int y2), some (.int y3), some (.int y4), some (.int y5), some (.int y6), u7]) (S' := [.int y6, .ref (a0 + 3)]) (h' := h) rfl ?_
      obtain ⟨o1, H⟩ := H
      refine k_ia (c := 0) (n := 16) rfl (CW.tyOf (t := 1) (t' := 100) W (j := 2) Ta0 (W.reOf (t := 1) (j := 2) (o := 3) (n := 16) (by decide) Ta0).1 (by decide) rfl) (W.reOf (t := 1) (j := 2) (o := 3) (n := 16) (by decide) Ta0).2 o1 ?_
      refine k_n 1 (pc' := 34) (L' := [some (.ref a0), some (.int y1), some (.int y2), some (.int y3), some (.int y4), some (.int y5), some (.int y6), u7]) (S' := [.int y1, .int (z_iv h (a0 + 3) (z_ix y6))]) (h' := h) rfl ?_
      obtain ⟨o3, H⟩ := H
      have hj5 : KG z_pI 20 53 [some (.ref a0), some (.int y1), some (.int y2), some (.int y3), some (.int y4), some (.int y5), some (.int y6), u7] [.int (z_bt (((z_iv h (a0 + 3) (z_ix y6)) = y1) ∧ ((z_iv h (a0 + 4) (z_ix y6)) = y2)))] h Q := by
        refine k_n 2 (pc' := 57) (L' := [some (.ref a0), some (.int y1), some (.int y2), some (.int y3), some (.int y4), some (.int y5), some (.int y6), some (.int (z_bt (((z_iv h (a0 + 3) (z_ix y6)) = y1) ∧ ((z_iv h (a0 + 4) (z_ix y6)) = y2))))]) (S' := [.int (z_bt (((z_iv h (a0 + 3) (z_ix y6)) = y1) ∧ ((z_iv h (a0 + 4) (z_ix y6)) = y2)))]) (h' := h) rfl ?_
        obtain ⟨o7, H⟩ := H
        obtain ⟨o9, H⟩ := H
        obtain ⟨o11, H⟩ := H
        obtain ⟨m12, em12⟩ : ∃ m : Int32, m = (if ((z_iv h (a0 + 3) (z_ix y6)) = y1) ∧ ((z_iv h (a0 + 4) (z_ix y6)) = y2) then (if y3 < (z_iv h (a0 + 1) (z_ix y6)) then y4 else (if (z_iv h (a0 + 1) (z_ix y6)) ≤ y5 then y4 else y6)) else y4) := ⟨_, rfl⟩
        have H := H m12 em12
        obtain ⟨m13, em13⟩ : ∃ m : Int32, m = (if ((z_iv h (a0 + 3) (z_ix y6)) = y1) ∧ ((z_iv h (a0 + 4) (z_ix y6)) = y2) then (if y3 < (z_iv h (a0 + 1) (z_ix y6)) then y5 else (if (z_iv h (a0 + 1) (z_ix y6)) ≤ y5 then y5 else (z_iv h (a0 + 1) (z_ix y6)))) else y5) := ⟨_, rfl⟩
        have H := H m13 em13
        have hj14 : KG z_pI 20 96 [some (.ref a0), some (.int y1), some (.int y2), some (.int y3), some (.int m12), some (.int m13), some (.int y6), some (.int (z_bt (((z_iv h (a0 + 3) (z_ix y6)) = y1) ∧ ((z_iv h (a0 + 4) (z_ix y6)) = y2))))] [] h Q := by
          refine k_n 2 (pc' := 10) (L' := [some (.ref a0), some (.int y1), some (.int y2), some (.int y3), some (.int m12), some (.int m13), some (.int (y6 + (1 : Int32))), some (.int (z_bt (((z_iv h (a0 + 3) (z_ix y6)) = y1) ∧ ((z_iv h (a0 + 4) (z_ix y6)) = y2))))]) (S' := []) (h' := h) rfl ?_
          exact H
        refine k_b (g := z_bt (((z_iv h (a0 + 3) (z_ix y6)) = y1) ∧ ((z_iv h (a0 + 4) (z_ix y6)) = y2)) = 0) (pc' := 96) (L' := [some (.ref a0), some (.int y1), some (.int y2), some (.int y3), some (.int y4), some (.int y5), some (.int y6), some (.int (z_bt (((z_iv h (a0 + 3) (z_ix y6)) = y1) ∧ ((z_iv h (a0 + 4) (z_ix y6)) = y2))))]) (S' := []) (pc2 := 60) (L2 := [some (.ref a0), some (.int y1), some (.int y2), some (.int y3), some (.int y4), some (.int y5), some (.int y6), some (.int (z_bt (((z_iv h (a0 + 3) (z_ix y6)) = y1) ∧ ((z_iv h (a0 + 4) (z_ix y6)) = y2))))]) (S2 := []) (h' := h) (h2 := h) rfl rfl (fun hc => ?_) (fun hc => ?_)
        · have c6 := z_bt_0.mp hc
          rw [(em12.trans (by rw [if_neg c6]) : m12 = y4)] at hj14
          rw [(em13.trans (by rw [if_neg c6]) : m13 = y5)] at hj14
          exact hj14
        · have c6 := Decidable.not_not.mp (fun q => hc (z_bt_0.mpr q))
          refine k_n 1 (pc' := 61) (L' := [some (.ref a0), some (.int y1), some (.int y2), some (.int y3), some (.int y4), some (.int y5), some (.int y6), some (.int (z_bt (((z_iv h (a0 + 3) (z_ix y6)) = y1) ∧ ((z_iv h (a0 + 4) (z_ix y6)) = y2))))]) (S' := [.ref a0]) (h' := h) rfl ?_
          refine k_gS (b := (a0 + 1)) rfl Ta0 (W.reOf (t := 1) (j := 0) (o := 1) (n := 16) (by decide) Ta0).1 ?_
          refine k_n 1 (pc' := 66) (L' := [some (.ref a0), some (.int y1), some (.int y2), some (.int y3), some (.int y4), some (.int y5), some (.int y6), some (.int (z_bt (((z_iv h (a0 + 3) (z_ix y6)) = y1) ∧ ((z_iv h (a0 + 4) (z_ix y6)) = y2))))]) (S' := [.int y6, .ref (a0 + 1)]) (h' := h) rfl ?_
          refine k_ia (c := 0) (n := 16) rfl (CW.tyOf (t := 1) (t' := 100) W (j := 0) Ta0 (W.reOf (t := 1) (j := 0) (o := 1) (n := 16) (by decide) Ta0).1 (by decide) rfl) (W.reOf (t := 1) (j := 0) (o := 1) (n := 16) (by decide) Ta0).2 (o7 c6) ?_
          refine k_n 1 (pc' := 68) (L' := [some (.ref a0), some (.int y1), some (.int y2), some (.int y3), some (.int y4), some (.int y5), some (.int y6), some (.int (z_bt (((z_iv h (a0 + 3) (z_ix y6)) = y1) ∧ ((z_iv h (a0 + 4) (z_ix y6)) = y2))))]) (S' := [.int y3, .int (z_iv h (a0 + 1) (z_ix y6))]) (h' := h) rfl ?_
          refine k_b (g := y3 < (z_iv h (a0 + 1) (z_ix y6))) (pc' := 96) (L' := [some (.ref a0), some (.int y1), some (.int y2), some (.int y3), some (.int y4), some (.int y5), some (.int y6), some (.int (z_bt (((z_iv h (a0 + 3) (z_ix y6)) = y1) ∧ ((z_iv h (a0 + 4) (z_ix y6)) = y2))))]) (S' := []) (pc2 := 71) (L2 := [some (.ref a0), some (.int y1), some (.int y2), some (.int y3), some (.int y4), some (.int y5), some (.int y6), some (.int (z_bt (((z_iv h (a0 + 3) (z_ix y6)) = y1) ∧ ((z_iv h (a0 + 4) (z_ix y6)) = y2))))]) (S2 := []) (h' := h) (h2 := h) rfl rfl (fun hc => ?_) (fun hc => ?_)
          · have c8 := hc
            rw [(em12.trans (by rw [if_pos c6, if_pos c8]) : m12 = y4)] at hj14
            rw [(em13.trans (by rw [if_pos c6, if_pos c8]) : m13 = y5)] at hj14
            exact hj14
          · have c8 := hc
            refine k_n 1 (pc' := 72) (L' := [some (.ref a0), some (.int y1), some (.int y2), some (.int y3), some (.int y4), some (.int y5), some (.int y6), some (.int (z_bt (((z_iv h (a0 + 3) (z_ix y6)) = y1) ∧ ((z_iv h (a0 + 4) (z_ix y6)) = y2))))]) (S' := [.ref a0]) (h' := h) rfl ?_
            refine k_gS (b := (a0 + 1)) rfl Ta0 (W.reOf (t := 1) (j := 0) (o := 1) (n := 16) (by decide) Ta0).1 ?_
            refine k_n 1 (pc' := 77) (L' := [some (.ref a0), some (.int y1), some (.int y2), some (.int y3), some (.int y4), some (.int y5), some (.int y6), some (.int (z_bt (((z_iv h (a0 + 3) (z_ix y6)) = y1) ∧ ((z_iv h (a0 + 4) (z_ix y6)) = y2))))]) (S' := [.int y6, .ref (a0 + 1)]) (h' := h) rfl ?_
            refine k_ia (c := 0) (n := 16) rfl (CW.tyOf (t := 1) (t' := 100) W (j := 0) Ta0 (W.reOf (t := 1) (j := 0) (o := 1) (n := 16) (by decide) Ta0).1 (by decide) rfl) (W.reOf (t := 1) (j := 0) (o := 1) (n := 16) (by decide) Ta0).2 (o9 c6 c8) ?_
            refine k_n 1 (pc' := 80) (L' := [some (.ref a0), some (.int y1), some (.int y2), some (.int y3), some (.int y4), some (.int y5), some (.int y6), some (.int (z_bt (((z_iv h (a0 + 3) (z_ix y6)) = y1) ∧ ((z_iv h (a0 + 4) (z_ix y6)) = y2))))]) (S' := [.int y5, .int (z_iv h (a0 + 1) (z_ix y6))]) (h' := h) rfl ?_
            refine k_b (g := (z_iv h (a0 + 1) (z_ix y6)) ≤ y5) (pc' := 96) (L' := [some (.ref a0), some (.int y1), some (.int y2), some (.int y3), some (.int y4), some (.int y5), some (.int y6), some (.int (z_bt (((z_iv h (a0 + 3) (z_ix y6)) = y1) ∧ ((z_iv h (a0 + 4) (z_ix y6)) = y2))))]) (S' := []) (pc2 := 83) (L2 := [some (.ref a0), some (.int y1), some (.int y2), some (.int y3), some (.int y4), some (.int y5), some (.int y6), some (.int (z_bt (((z_iv h (a0 + 3) (z_ix y6)) = y1) ∧ ((z_iv h (a0 + 4) (z_ix y6)) = y2))))]) (S2 := []) (h' := h) (h2 := h) rfl rfl (fun hc => ?_) (fun hc => ?_)
            · have c10 := hc
              rw [(em12.trans (by rw [if_pos c6, if_neg c8, if_pos c10]) : m12 = y4)] at hj14
              rw [(em13.trans (by rw [if_pos c6, if_neg c8, if_pos c10]) : m13 = y5)] at hj14
              exact hj14
            · have c10 := hc
              refine k_n 3 (pc' := 88) (L' := [some (.ref a0), some (.int y1), some (.int y2), some (.int y3), some (.int y6), some (.int y5), some (.int y6), some (.int (z_bt (((z_iv h (a0 + 3) (z_ix y6)) = y1) ∧ ((z_iv h (a0 + 4) (z_ix y6)) = y2))))]) (S' := [.ref a0]) (h' := h) rfl ?_
              refine k_gS (b := (a0 + 1)) rfl Ta0 (W.reOf (t := 1) (j := 0) (o := 1) (n := 16) (by decide) Ta0).1 ?_
              refine k_n 1 (pc' := 93) (L' := [some (.ref a0), some (.int y1), some (.int y2), some (.int y3), some (.int y6), some (.int y5), some (.int y6), some (.int (z_bt (((z_iv h (a0 + 3) (z_ix y6)) = y1) ∧ ((z_iv h (a0 + 4) (z_ix y6)) = y2))))]) (S' := [.int y6, .ref (a0 + 1)]) (h' := h) rfl ?_
              refine k_ia (c := 0) (n := 16) rfl (CW.tyOf (t := 1) (t' := 100) W (j := 0) Ta0 (W.reOf (t := 1) (j := 0) (o := 1) (n := 16) (by decide) Ta0).1 (by decide) rfl) (W.reOf (t := 1) (j := 0) (o := 1) (n := 16) (by decide) Ta0).2 (o11 c6 c8 c10) ?_
              refine k_n 1 (pc' := 96) (L' := [some (.ref a0), some (.int y1), some (.int y2), some (.int y3), some (.int y6), some (.int (z_iv h (a0 + 1) (z_ix y6))), some (.int y6), some (.int (z_bt (((z_iv h (a0 + 3) (z_ix y6)) = y1) ∧ ((z_iv h (a0 + 4) (z_ix y6)) = y2))))]) (S' := []) (h' := h) rfl ?_
              rw [(em12.trans (by rw [if_pos c6, if_neg c8, if_neg c10]) : m12 = y6)] at hj14
              rw [(em13.trans (by rw [if_pos c6, if_neg c8, if_neg c10]) : m13 = (z_iv h (a0 + 1) (z_ix y6)))] at hj14
              exact hj14
      refine k_b (g := (z_iv h (a0 + 3) (z_ix y6)) = y1) (pc' := 37) (L' := [some (.ref a0), some (.int y1), some (.int y2), some (.int y3), some (.int y4), some (.int y5), some (.int y6), u7]) (S' := []) (pc2 := 52) (L2 := [some (.ref a0), some (.int y1), some (.int y2), some (.int y3), some (.int y4), some (.int y5), some (.int y6), u7]) (S2 := []) (h' := h) (h2 := h) rfl rfl (fun hc => ?_) (fun hc => ?_)
      · have c2 := hc
        refine k_n 1 (pc' := 38) (L' := [some (.ref a0), some (.int y1), some (.int y2), some (.int y3), some (.int y4), some (.int y5), some (.int y6), u7]) (S' := [.ref a0]) (h' := h) rfl ?_
        refine k_gS (b := (a0 + 4)) rfl Ta0 (W.reOf (t := 1) (j := 3) (o := 4) (n := 16) (by decide) Ta0).1 ?_
        refine k_n 1 (pc' := 43) (L' := [some (.ref a0), some (.int y1), some (.int y2), some (.int y3), some (.int y4), some (.int y5), some (.int y6), u7]) (S' := [.int y6, .ref (a0 + 4)]) (h' := h) rfl ?_
        refine k_ia (c := 0) (n := 16) rfl (CW.tyOf (t := 1) (t' := 100) W (j := 3) Ta0 (W.reOf (t := 1) (j := 3) (o := 4) (n := 16) (by decide) Ta0).1 (by decide) rfl) (W.reOf (t := 1) (j := 3) (o := 4) (n := 16) (by decide) Ta0).2 (o3 c2) ?_
        refine k_n 1 (pc' := 45) (L' := [some (.ref a0), some (.int y1), some (.int y2), some (.int y3), some (.int y4), some (.int y5), some (.int y6), u7]) (S' := [.int y2, .int (z_iv h (a0 + 4) (z_ix y6))]) (h' := h) rfl ?_
        refine k_b (g := (z_iv h (a0 + 4) (z_ix y6)) = y2) (pc' := 48) (L' := [some (.ref a0), some (.int y1), some (.int y2), some (.int y3), some (.int y4), some (.int y5), some (.int y6), u7]) (S' := []) (pc2 := 52) (L2 := [some (.ref a0), some (.int y1), some (.int y2), some (.int y3), some (.int y4), some (.int y5), some (.int y6), u7]) (S2 := []) (h' := h) (h2 := h) rfl rfl (fun hc => ?_) (fun hc => ?_)
        · have c4 := hc
          refine k_n 2 (pc' := 53) (L' := [some (.ref a0), some (.int y1), some (.int y2), some (.int y3), some (.int y4), some (.int y5), some (.int y6), u7]) (S' := [.int (1 : Int32)]) (h' := h) rfl ?_
          rw [show z_bt (((z_iv h (a0 + 3) (z_ix y6)) = y1) ∧ ((z_iv h (a0 + 4) (z_ix y6)) = y2)) = 1 from z_bt_1.mpr (⟨c2, c4⟩)] at hj5
          exact hj5
        · have c4 := hc
          refine k_n 1 (pc' := 53) (L' := [some (.ref a0), some (.int y1), some (.int y2), some (.int y3), some (.int y4), some (.int y5), some (.int y6), u7]) (S' := [.int (0 : Int32)]) (h' := h) rfl ?_
          rw [show z_bt (((z_iv h (a0 + 3) (z_ix y6)) = y1) ∧ ((z_iv h (a0 + 4) (z_ix y6)) = y2)) = 0 from z_bt_0.mpr ((fun q => c4 q.2))] at hj5
          exact hj5
      · have c2 := hc
        refine k_n 1 (pc' := 53) (L' := [some (.ref a0), some (.int y1), some (.int y2), some (.int y3), some (.int y4), some (.int y5), some (.int y6), u7]) (S' := [.int (0 : Int32)]) (h' := h) rfl ?_
        rw [show z_bt (((z_iv h (a0 + 3) (z_ix y6)) = y1) ∧ ((z_iv h (a0 + 4) (z_ix y6)) = y2)) = 0 from z_bt_0.mpr ((fun q => c2 q.1))] at hj5
        exact hj5
set_option maxRecDepth 20000 in
theorem X_50 (a0 : Nat) (h : zH) (W : CW h) (T0 : z_tg h a0 = 4) {Q : Int32 → zH → Prop} (H : KG z_pI 50 4 [some (.ref a0), some (.int (0 : Int32)), some (.int (0 : Int32))] [] h Q) : KK z_pI 50 [.ref a0] h Q := by
  refine k_K (L := [some (.ref a0), none, none]) rfl ?_
  refine k_n 4 (pc' := 4) (L' := [some (.ref a0), some (.int (0 : Int32)), some (.int (0 : Int32))]) (S' := []) (h' := h) rfl ?_
  exact H
set_option maxRecDepth 20000 in
theorem X_50_4 (a0 : Nat) (y1 : Int32) (y2 : Int32) (h : zH) (W : CW h) (Ta0 : z_tg h a0 = 4) {Q : Int32 → zH → Prop} (H : if (8 : Int32) ≤ y2 then (Q y1 h) else ((0 ≤ y2.toInt ∧ y2.toInt < 8) ∧ KG z_pI 50 4 [some (.ref a0), some (.int (y1 + (z_iv h (a0 + 2) (z_ix y2)))), some (.int (y2 + (1 : Int32)))] [] h Q)) : KG z_pI 50 4 [some (.ref a0), some (.int y1), some (.int y2)] [] h Q := by
  refine k_n 2 (pc' := 7) (L' := [some (.ref a0), some (.int y1), some (.int y2)]) (S' := [.int (8 : Int32), .int y2]) (h' := h) rfl ?_
  refine k_b (g := (8 : Int32) ≤ y2) (pc' := 25) (L' := [some (.ref a0), some (.int y1), some (.int y2)]) (S' := []) (pc2 := 10) (L2 := [some (.ref a0), some (.int y1), some (.int y2)]) (S2 := []) (h' := h) (h2 := h) rfl rfl (fun hc => ?_) (fun hc => ?_)
  · have hc := hc
    rw [if_pos hc] at H
    refine k_n 1 (pc' := 26) (L' := [some (.ref a0), some (.int y1), some (.int y2)]) (S' := [.int y1]) (h' := h) rfl ?_
    exact k_r rfl rfl rfl H
  · have hc := hc
    rw [if_neg hc] at H
    refine k_n 2 (pc' := 12) (L' := [some (.ref a0), some (.int y1), some (.int y2)]) (S' := [.ref a0, .int y1]) (h' := h) rfl ?_
    refine k_gS (b := (a0 + 2)) rfl Ta0 (W.reOf (t := 4) (j := 3) (o := 2) (n := 8) (by decide) Ta0).1 ?_
    refine k_n 1 (pc' := 16) (L' := [some (.ref a0), some (.int y1), some (.int y2)]) (S' := [.int y2, .ref (a0 + 2), .int y1]) (h' := h) rfl ?_
    obtain ⟨o1, H⟩ := H
    refine k_ia (c := 0) (n := 8) rfl (CW.tyOf (t := 4) (t' := 100) W (j := 3) Ta0 (W.reOf (t := 4) (j := 3) (o := 2) (n := 8) (by decide) Ta0).1 (by decide) rfl) (W.reOf (t := 4) (j := 3) (o := 2) (n := 8) (by decide) Ta0).2 o1 ?_
    refine k_n 4 (pc' := 4) (L' := [some (.ref a0), some (.int (y1 + (z_iv h (a0 + 2) (z_ix y2)))), some (.int (y2 + (1 : Int32)))]) (S' := []) (h' := h) rfl ?_
    exact H
set_option maxRecDepth 20000 in
theorem X_92 (a0 : Nat) (x1 : Int64) (h : zH) (W : CW h) (T0 : z_tg h a0 = 9) {Q : Int32 → zH → Prop} (H : if (z_iv h a0 1) < 0 then (Q (0 : Int32) h) else (if ((z_iv h a0 1) + (8 : Int32)) ≤ (200 : Int32) then (KG z_pI 92 24 [some (.ref a0), some (.long x1), none, some (.int (0 : Int32))] [] h Q) else (Q (0 : Int32) h))) : KK z_pI 92 [.ref a0, .long x1] h Q := by
  refine k_K (L := [some (.ref a0), some (.long x1), none, none]) rfl ?_
  refine k_n 1 (pc' := 1) (L' := [some (.ref a0), some (.long x1), none, none]) (S' := [.ref a0]) (h' := h) rfl ?_
  refine k_gI rfl rfl T0 ?_
  refine k_b (g := (z_iv h a0 1) < 0) (pc' := 20) (L' := [some (.ref a0), some (.long x1), none, none]) (S' := []) (pc2 := 7) (L2 := [some (.ref a0), some (.long x1), none, none]) (S2 := []) (h' := h) (h2 := h) rfl rfl (fun hc => ?_) (fun hc => ?_)
  · have hc := hc
    rw [if_pos hc] at H
    refine k_n 1 (pc' := 21) (L' := [some (.ref a0), some (.long x1), none, none]) (S' := [.int (0 : Int32)]) (h' := h) rfl ?_
    exact k_r rfl rfl rfl H
  · have hc := hc
    rw [if_neg hc] at H
    refine k_n 1 (pc' := 8) (L' := [some (.ref a0), some (.long x1), none, none]) (S' := [.ref a0]) (h' := h) rfl ?_
    refine k_gI rfl rfl T0 ?_
    refine k_n 3 (pc' := 17) (L' := [some (.ref a0), some (.long x1), none, none]) (S' := [.int (200 : Int32), .int ((z_iv h a0 1) + (8 : Int32))]) (h' := h) rfl ?_
    refine k_b (g := ((z_iv h a0 1) + (8 : Int32)) ≤ (200 : Int32)) (pc' := 22) (L' := [some (.ref a0), some (.long x1), none, none]) (S' := []) (pc2 := 20) (L2 := [some (.ref a0), some (.long x1), none, none]) (S2 := []) (h' := h) (h2 := h) rfl rfl (fun hc => ?_) (fun hc => ?_)
    · have hc := hc
      rw [if_pos hc] at H
      refine k_n 2 (pc' := 24) (L' := [some (.ref a0), some (.long x1), none, some (.int (0 : Int32))]) (S' := []) (h' := h) rfl ?_
      exact H
    · have hc := hc
      rw [if_neg hc] at H
      refine k_n 1 (pc' := 21) (L' := [some (.ref a0), some (.long x1), none, none]) (S' := [.int (0 : Int32)]) (h' := h) rfl ?_
      exact k_r rfl rfl rfl H
set_option maxRecDepth 20000 in
theorem X_92_24 (a0 : Nat) (y1 : Int64) (y3 : Int32) (h : zH) (W : CW h) (Ta0 : z_tg h a0 = 9) {Q : Int32 → zH → Prop} (H : if (8 : Int32) ≤ y3 then (Q (1 : Int32) (z_sI h a0 1 ((z_iv h a0 1) + (8 : Int32)))) else ((0 ≤ ((z_iv h a0 1) + y3).toInt ∧ ((z_iv h a0 1) + y3).toInt < 200) ∧ KG z_pI 92 24 [some (.ref a0), some (.long y1), none, some (.int (y3 + (1 : Int32)))] [] (z_sI h (a0 + 1) (z_ix ((z_iv h a0 1) + y3)) (((y1.toUInt64 >>> (((56 : Int32) - ((8 : Int32) * y3)).toInt64.toUInt64 &&& Int64.toUInt64 63)).toInt64).toInt32 &&& (255 : Int32))) Q)) : KG z_pI 92 24 [some (.ref a0), some (.long y1), none, some (.int y3)] [] h Q := by
  refine k_n 2 (pc' := 27) (L' := [some (.ref a0), some (.long y1), none, some (.int y3)]) (S' := [.int (8 : Int32), .int y3]) (h' := h) rfl ?_
  refine k_b (g := (8 : Int32) ≤ y3) (pc' := 61) (L' := [some (.ref a0), some (.long y1), none, some (.int y3)]) (S' := []) (pc2 := 30) (L2 := [some (.ref a0), some (.long y1), none, some (.int y3)]) (S2 := []) (h' := h) (h2 := h) rfl rfl (fun hc => ?_) (fun hc => ?_)
  · have hc := hc
    rw [if_pos hc] at H
    refine k_n 2 (pc' := 63) (L' := [some (.ref a0), some (.long y1), none, some (.int y3)]) (S' := [.ref a0, .ref a0]) (h' := h) rfl ?_
    refine k_gI rfl rfl Ta0 ?_
    refine k_n 2 (pc' := 69) (L' := [some (.ref a0), some (.long y1), none, some (.int y3)]) (S' := [.int ((z_iv h a0 1) + (8 : Int32)), .ref a0]) (h' := h) rfl ?_
    refine k_pI rfl Ta0 ?_
    refine k_n 1 (pc' := 73) (L' := [some (.ref a0), some (.long y1), none, some (.int y3)]) (S' := [.int (1 : Int32)]) (h' := (z_sI h a0 1 ((z_iv h a0 1) + (8 : Int32)))) rfl ?_
    exact k_r rfl rfl rfl H
  · have hc := hc
    rw [if_neg hc] at H
    refine k_n 1 (pc' := 31) (L' := [some (.ref a0), some (.long y1), none, some (.int y3)]) (S' := [.ref a0]) (h' := h) rfl ?_
    refine k_gS (b := (a0 + 1)) rfl Ta0 (W.reOf (t := 9) (j := 0) (o := 1) (n := 200) (by decide) Ta0).1 ?_
    refine k_n 1 (pc' := 35) (L' := [some (.ref a0), some (.long y1), none, some (.int y3)]) (S' := [.ref a0, .ref (a0 + 1)]) (h' := h) rfl ?_
    refine k_gI rfl rfl Ta0 ?_
    refine k_n 12 (pc' := 54) (L' := [some (.ref a0), some (.long y1), none, some (.int y3)]) (S' := [.int (((y1.toUInt64 >>> (((56 : Int32) - ((8 : Int32) * y3)).toInt64.toUInt64 &&& Int64.toUInt64 63)).toInt64).toInt32 &&& (255 : Int32)), .int ((z_iv h a0 1) + y3), .ref (a0 + 1)]) (h' := h) rfl ?_
    obtain ⟨o1, H⟩ := H
    refine k_is (n := 200) rfl (CW.tyOf (t := 9) (t' := 100) W (j := 0) Ta0 (W.reOf (t := 9) (j := 0) (o := 1) (n := 200) (by decide) Ta0).1 (by decide) rfl) (W.reOf (t := 9) (j := 0) (o := 1) (n := 200) (by decide) Ta0).2 o1 ?_
    refine k_n 2 (pc' := 24) (L' := [some (.ref a0), some (.long y1), none, some (.int (y3 + (1 : Int32)))]) (S' := []) (h' := (z_sI h (a0 + 1) (z_ix ((z_iv h a0 1) + y3)) (((y1.toUInt64 >>> (((56 : Int32) - ((8 : Int32) * y3)).toInt64.toUInt64 &&& Int64.toUInt64 63)).toInt64).toInt32 &&& (255 : Int32)))) rfl ?_
    exact H
set_option maxRecDepth 20000 in
theorem X_83 (a0 : Nat) (h : zH) (W : CW h) (T0 : z_tg h a0 = 7) {Q : Unit → zH → Prop} (H : KG z_pV 83 5 [some (.ref a0)] [] (z_sI h a0 4 (1 : Int32)) Q) : KK z_pV 83 [.ref a0] h Q := by
  refine k_K (L := [some (.ref a0)]) rfl ?_
  refine k_n 2 (pc' := 2) (L' := [some (.ref a0)]) (S' := [.int (1 : Int32), .ref a0]) (h' := h) rfl ?_
  refine k_pI rfl T0 ?_
  exact H
set_option maxRecDepth 20000 in
theorem X_83_5 (a0 : Nat) (h : zH) (W : CW h) (Ta0 : z_tg h a0 = 7) {Q : Unit → zH → Prop} (H : if (z_iv h 6 1) ≤ (z_iv h a0 6) then (Q () h) else ((¬ ((z_iv h a0 6) < 0) → ¬ ((z_iv h 6 1) ≤ (z_iv h a0 6)) → ¬ ((200 : Int32) ≤ (z_iv h a0 6)) → 0 ≤ (z_iv h a0 6).toInt ∧ (z_iv h a0 6).toInt < 200) ∧ (if ¬ ((if (z_iv h a0 6) < 0 then (0 : Int32) else (if (z_iv h 6 1) ≤ (z_iv h a0 6) then (0 : Int32) else (if (200 : Int32) ≤ (z_iv h a0 6) then (0 : Int32) else (z_iv h (6 + 1) (z_ix (z_iv h a0 6)))))) < (97 : Int32)) ∧ (¬ ((122 : Int32) < (if (z_iv h a0 6) < 0 then (0 : Int32) else (if (z_iv h 6 1) ≤ (z_iv h a0 6) then (0 : Int32) else (if (200 : Int32) ≤ (z_iv h a0 6) then (0 : Int32) else (z_iv h (6 + 1) (z_ix (z_iv h a0 6)))))))) then (KG z_pV 83 5 [some (.ref a0)] [] (z_sI h a0 6 ((z_iv h a0 6) + (1 : Int32))) Q) else (Q () h)))) : KG z_pV 83 5 [some (.ref a0)] [] h Q := by
  refine k_n 1 (pc' := 6) (L' := [some (.ref a0)]) (S' := [.ref a0]) (h' := h) rfl ?_
  refine k_gI rfl rfl Ta0 ?_
  refine k_n 1 (pc' := 10) (L' := [some (.ref a0)]) (S' := [.ref a0, .int (z_iv h a0 6)]) (h' := h) rfl ?_
  refine k_gS (b := 6) rfl Ta0 (W.abOf (t := 7) (j := 2) (o := 6) (n := 0) (by decide) Ta0).1 ?_
  refine k_gI rfl rfl (CW.tyOf (t := 7) (t' := 9) W (j := 2) Ta0 (W.abOf (t := 7) (j := 2) (o := 6) (n := 0) (by decide) Ta0).1 (by decide) rfl) ?_
  refine k_b (g := (z_iv h 6 1) ≤ (z_iv h a0 6)) (pc' := 49) (L' := [some (.ref a0)]) (S' := []) (pc2 := 19) (L2 := [some (.ref a0)]) (S2 := []) (h' := h) (h2 := h) rfl rfl (fun hc => ?_) (fun hc => ?_)
  · have hc := hc
    rw [if_pos hc] at H
    exact k_r rfl rfl rfl H
  · have hc := hc
    rw [if_neg hc] at H
    refine k_n 1 (pc' := 20) (L' := [some (.ref a0)]) (S' := [.ref a0]) (h' := h) rfl ?_
    refine k_gS (b := 6) rfl Ta0 (W.abOf (t := 7) (j := 2) (o := 6) (n := 0) (by decide) Ta0).1 ?_
    refine k_n 1 (pc' := 24) (L' := [some (.ref a0)]) (S' := [.ref a0, .ref 6]) (h' := h) rfl ?_
    refine k_gI rfl rfl Ta0 ?_
    refine k_cI 93 2 rfl rfl rfl (A := [.ref 6, .int (z_iv h a0 6)]) rfl rfl (z_rok_ref (CW.tyOf (t := 7) (t' := 9) W (j := 2) Ta0 (W.abOf (t := 7) (j := 2) (o := 6) (n := 0) (by decide) Ta0).1 (by decide) rfl)) (rest := []) rfl (z_tyI rfl rfl) ?_
    obtain ⟨o1, H⟩ := H
    refine C_93 6 (z_iv h a0 6) h W (CW.tyOf (t := 7) (t' := 9) W (j := 2) Ta0 (W.abOf (t := 7) (j := 2) (o := 6) (n := 0) (by decide) Ta0).1 (by decide) rfl) o1 ?_
    refine k_cI 85 1 rfl rfl rfl (A := [.int (if (z_iv h a0 6) < 0 then (0 : Int32) else (if (z_iv h 6 1) ≤ (z_iv h a0 6) then (0 : Int32) else (if (200 : Int32) ≤ (z_iv h a0 6) then (0 : Int32) else (z_iv h (6 + 1) (z_ix (z_iv h a0 6))))))]) rfl rfl rfl (rest := []) rfl (z_tyI rfl rfl) ?_
    refine C_85 (if (z_iv h a0 6) < 0 then (0 : Int32) else (if (z_iv h 6 1) ≤ (z_iv h a0 6) then (0 : Int32) else (if (200 : Int32) ≤ (z_iv h a0 6) then (0 : Int32) else (z_iv h (6 + 1) (z_ix (z_iv h a0 6)))))) h    ?_
    refine k_b (g := z_bt (¬ ((if (z_iv h a0 6) < 0 then (0 : Int32) else (if (z_iv h 6 1) ≤ (z_iv h a0 6) then (0 : Int32) else (if (200 : Int32) ≤ (z_iv h a0 6) then (0 : Int32) else (z_iv h (6 + 1) (z_ix (z_iv h a0 6)))))) < (97 : Int32)) ∧ (¬ ((122 : Int32) < (if (z_iv h a0 6) < 0 then (0 : Int32) else (if (z_iv h 6 1) ≤ (z_iv h a0 6) then (0 : Int32) else (if (200 : Int32) ≤ (z_iv h a0 6) then (0 : Int32) else (z_iv h (6 + 1) (z_ix (z_iv h a0 6))))))))) = 0) (pc' := 49) (L' := [some (.ref a0)]) (S' := []) (pc2 := 36) (L2 := [some (.ref a0)]) (S2 := []) (h' := h) (h2 := h) rfl rfl (fun hc => ?_) (fun hc => ?_)
    · have hc := z_bt_0.mp hc
      rw [if_neg hc] at H
      exact k_r rfl rfl rfl H
    · have hc := Decidable.not_not.mp (fun q => hc (z_bt_0.mpr q))
      rw [if_pos hc] at H
      refine k_n 2 (pc' := 38) (L' := [some (.ref a0)]) (S' := [.ref a0, .ref a0]) (h' := h) rfl ?_
      refine k_gI rfl rfl Ta0 ?_
      refine k_n 2 (pc' := 43) (L' := [some (.ref a0)]) (S' := [.int ((z_iv h a0 6) + (1 : Int32)), .ref a0]) (h' := h) rfl ?_
      refine k_pI rfl Ta0 ?_
      refine k_n 1 (pc' := 5) (L' := [some (.ref a0)]) (S' := []) (h' := (z_sI h a0 6 ((z_iv h a0 6) + (1 : Int32)))) rfl ?_
      exact H
set_option maxRecDepth 20000 in
theorem X_84 (a0 : Nat) (h : zH) (W : CW h) (T0 : z_tg h a0 = 7) {Q : Int32 → zH → Prop} (H : KG z_pI 84 10 [some (.ref a0)] [] (z_sI (z_sI h a0 4 (2 : Int32)) a0 7 (0 : Int32)) Q) : KK z_pI 84 [.ref a0] h Q := by
  refine k_K (L := [some (.ref a0)]) rfl ?_
  refine k_n 2 (pc' := 2) (L' := [some (.ref a0)]) (S' := [.int (2 : Int32), .ref a0]) (h' := h) rfl ?_
  refine k_pI rfl T0 ?_
  refine k_n 2 (pc' := 7) (L' := [some (.ref a0)]) (S' := [.int (0 : Int32), .ref a0]) (h' := (z_sI h a0 4 (2 : Int32))) rfl ?_
  refine k_pI rfl (z_tgI T0) ?_
  exact H
set_option maxRecDepth 20000 in
theorem X_84_10 (a0 : Nat) (h : zH) (W : CW h) (Ta0 : z_tg h a0 = 7) {Q : Int32 → zH → Prop} (H : if (z_iv h 6 1) ≤ (z_iv h a0 6) then (Q (1 : Int32) h) else ((¬ ((z_iv h a0 6) < 0) → ¬ ((z_iv h 6 1) ≤ (z_iv h a0 6)) → ¬ ((200 : Int32) ≤ (z_iv h a0 6)) → 0 ≤ (z_iv h a0 6).toInt ∧ (z_iv h a0 6).toInt < 200) ∧ (if ¬ ((if (z_iv h a0 6) < 0 then (0 : Int32) else (if (z_iv h 6 1) ≤ (z_iv h a0 6) then (0 : Int32) else (if (200 : Int32) ≤ (z_iv h a0 6) then (0 : Int32) else (z_iv h (6 + 1) (z_ix (z_iv h a0 6)))))) < (48 : Int32)) ∧ (¬ ((57 : Int32) < (if (z_iv h a0 6) < 0 then (0 : Int32) else (if (z_iv h 6 1) ≤ (z_iv h a0 6) then (0 : Int32) else (if (200 : Int32) ≤ (z_iv h a0 6) then (0 : Int32) else (z_iv h (6 + 1) (z_ix (z_iv h a0 6)))))))) then (if ((z_iv h a0 6) - (z_iv h a0 5)) < (4 : Int32) then ((¬ ((z_iv h a0 6) < 0) → ¬ ((z_iv h 6 1) ≤ (z_iv h a0 6)) → ¬ ((200 : Int32) ≤ (z_iv h a0 6)) → 0 ≤ (z_iv h a0 6).toInt ∧ (z_iv h a0 6).toInt < 200) ∧ KG z_pI 84 10 [some (.ref a0)] [] (z_sI (z_sI h a0 7 ((((z_iv h a0 7) * (10 : Int32)) + (if (z_iv h a0 6) < 0 then (0 : Int32) else (if (z_iv h 6 1) ≤ (z_iv h a0 6) then (0 : Int32) else (if (200 : Int32) ≤ (z_iv h a0 6) then (0 : Int32) else (z_iv h (6 + 1) (z_ix (z_iv h a0 6))))))) - (48 : Int32))) a0 6 ((z_iv h a0 6) + (1 : Int32))) Q) else (Q (0 : Int32) (z_sI (z_sI h a0 0 (1 : Int32)) a0 1 (z_iv h a0 5)))) else (Q (1 : Int32) h)))) : KG z_pI 84 10 [some (.ref a0)] [] h Q := by
  refine k_n 1 (pc' := 11) (L' := [some (.ref a0)]) (S' := [.ref a0]) (h' := h) rfl ?_
  refine k_gI rfl rfl Ta0 ?_
  refine k_n 1 (pc' := 15) (L' := [some (.ref a0)]) (S' := [.ref a0, .int (z_iv h a0 6)]) (h' := h) rfl ?_
  refine k_gS (b := 6) rfl Ta0 (W.abOf (t := 7) (j := 2) (o := 6) (n := 0) (by decide) Ta0).1 ?_
  refine k_gI rfl rfl (CW.tyOf (t := 7) (t' := 9) W (j := 2) Ta0 (W.abOf (t := 7) (j := 2) (o := 6) (n := 0) (by decide) Ta0).1 (by decide) rfl) ?_
  refine k_b (g := (z_iv h 6 1) ≤ (z_iv h a0 6)) (pc' := 99) (L' := [some (.ref a0)]) (S' := []) (pc2 := 24) (L2 := [some (.ref a0)]) (S2 := []) (h' := h) (h2 := h) rfl rfl (fun hc => ?_) (fun hc => ?_)
  · have hc := hc
    rw [if_pos hc] at H
    refine k_n 1 (pc' := 100) (L' := [some (.ref a0)]) (S' := [.int (1 : Int32)]) (h' := h) rfl ?_
    exact k_r rfl rfl rfl H
  · have hc := hc
    rw [if_neg hc] at H
    refine k_n 1 (pc' := 25) (L' := [some (.ref a0)]) (S' := [.ref a0]) (h' := h) rfl ?_
    refine k_gS (b := 6) rfl Ta0 (W.abOf (t := 7) (j := 2) (o := 6) (n := 0) (by decide) Ta0).1 ?_
    refine k_n 1 (pc' := 29) (L' := [some (.ref a0)]) (S' := [.ref a0, .ref 6]) (h' := h) rfl ?_
    refine k_gI rfl rfl Ta0 ?_
    refine k_cI 93 2 rfl rfl rfl (A := [.ref 6, .int (z_iv h a0 6)]) rfl rfl (z_rok_ref (CW.tyOf (t := 7) (t' := 9) W (j := 2) Ta0 (W.abOf (t := 7) (j := 2) (o := 6) (n := 0) (by decide) Ta0).1 (by decide) rfl)) (rest := []) rfl (z_tyI rfl rfl) ?_
    obtain ⟨o1, H⟩ := H
    refine C_93 6 (z_iv h a0 6) h W (CW.tyOf (t := 7) (t' := 9) W (j := 2) Ta0 (W.abOf (t := 7) (j := 2) (o := 6) (n := 0) (by decide) Ta0).1 (by decide) rfl) o1 ?_
    refine k_cI 86 1 rfl rfl rfl (A := [.int (if (z_iv h a0 6) < 0 then (0 : Int32) else (if (z_iv h 6 1) ≤ (z_iv h a0 6) then (0 : Int32) else (if (200 : Int32) ≤ (z_iv h a0 6) then (0 : Int32) else (z_iv h (6 + 1) (z_ix (z_iv h a0 6))))))]) rfl rfl rfl (rest := []) rfl (z_tyI rfl rfl) ?_
    refine C_86 (if (z_iv h a0 6) < 0 then (0 : Int32) else (if (z_iv h 6 1) ≤ (z_iv h a0 6) then (0 : Int32) else (if (200 : Int32) ≤ (z_iv h a0 6) then (0 : Int32) else (z_iv h (6 + 1) (z_ix (z_iv h a0 6)))))) h    ?_
    refine k_b (g := z_bt (¬ ((if (z_iv h a0 6) < 0 then (0 : Int32) else (if (z_iv h 6 1) ≤ (z_iv h a0 6) then (0 : Int32) else (if (200 : Int32) ≤ (z_iv h a0 6) then (0 : Int32) else (z_iv h (6 + 1) (z_ix (z_iv h a0 6)))))) < (48 : Int32)) ∧ (¬ ((57 : Int32) < (if (z_iv h a0 6) < 0 then (0 : Int32) else (if (z_iv h 6 1) ≤ (z_iv h a0 6) then (0 : Int32) else (if (200 : Int32) ≤ (z_iv h a0 6) then (0 : Int32) else (z_iv h (6 + 1) (z_ix (z_iv h a0 6))))))))) = 0) (pc' := 99) (L' := [some (.ref a0)]) (S' := []) (pc2 := 41) (L2 := [some (.ref a0)]) (S2 := []) (h' := h) (h2 := h) rfl rfl (fun hc => ?_) (fun hc => ?_)
    · have hc := z_bt_0.mp hc
      rw [if_neg hc] at H
      refine k_n 1 (pc' := 100) (L' := [some (.ref a0)]) (S' := [.int (1 : Int32)]) (h' := h) rfl ?_
      exact k_r rfl rfl rfl H
    · have hc := Decidable.not_not.mp (fun q => hc (z_bt_0.mpr q))
      rw [if_pos hc] at H
      refine k_n 1 (pc' := 42) (L' := [some (.ref a0)]) (S' := [.ref a0]) (h' := h) rfl ?_
      refine k_gI rfl rfl Ta0 ?_
      refine k_n 1 (pc' := 46) (L' := [some (.ref a0)]) (S' := [.ref a0, .int (z_iv h a0 6)]) (h' := h) rfl ?_
      refine k_gI rfl rfl Ta0 ?_
      refine k_n 2 (pc' := 51) (L' := [some (.ref a0)]) (S' := [.int (4 : Int32), .int ((z_iv h a0 6) - (z_iv h a0 5))]) (h' := h) rfl ?_
      refine k_b (g := ((z_iv h a0 6) - (z_iv h a0 5)) < (4 : Int32)) (pc' := 60) (L' := [some (.ref a0)]) (S' := []) (pc2 := 54) (L2 := [some (.ref a0)]) (S2 := []) (h' := h) (h2 := h) rfl rfl (fun hc => ?_) (fun hc => ?_)
      · have hc := hc
        rw [if_pos hc] at H
        refine k_n 2 (pc' := 62) (L' := [some (.ref a0)]) (S' := [.ref a0, .ref a0]) (h' := h) rfl ?_
        refine k_gI rfl rfl Ta0 ?_
        refine k_n 3 (pc' := 69) (L' := [some (.ref a0)]) (S' := [.ref a0, .int ((z_iv h a0 7) * (10 : Int32)), .ref a0]) (h' := h) rfl ?_
        refine k_gS (b := 6) rfl Ta0 (W.abOf (t := 7) (j := 2) (o := 6) (n := 0) (by decide) Ta0).1 ?_
        refine k_n 1 (pc' := 73) (L' := [some (.ref a0)]) (S' := [.ref a0, .ref 6, .int ((z_iv h a0 7) * (10 : Int32)), .ref a0]) (h' := h) rfl ?_
        refine k_gI rfl rfl Ta0 ?_
        refine k_cI 93 2 rfl rfl rfl (A := [.ref 6, .int (z_iv h a0 6)]) rfl rfl (z_rok_ref (CW.tyOf (t := 7) (t' := 9) W (j := 2) Ta0 (W.abOf (t := 7) (j := 2) (o := 6) (n := 0) (by decide) Ta0).1 (by decide) rfl)) (rest := [.int ((z_iv h a0 7) * (10 : Int32)), .ref a0]) rfl (z_tyI rfl rfl) ?_
        obtain ⟨o2, H⟩ := H
        refine C_93 6 (z_iv h a0 6) h W (CW.tyOf (t := 7) (t' := 9) W (j := 2) Ta0 (W.abOf (t := 7) (j := 2) (o := 6) (n := 0) (by decide) Ta0).1 (by decide) rfl) o2 ?_
        refine k_n 3 (pc' := 83) (L' := [some (.ref a0)]) (S' := [.int ((((z_iv h a0 7) * (10 : Int32)) + (if (z_iv h a0 6) < 0 then (0 : Int32) else (if (z_iv h 6 1) ≤ (z_iv h a0 6) then (0 : Int32) else (if (200 : Int32) ≤ (z_iv h a0 6) then (0 : Int32) else (z_iv h (6 + 1) (z_ix (z_iv h a0 6))))))) - (48 : Int32)), .ref a0]) (h' := h) rfl ?_
        refine k_pI rfl Ta0 ?_
        refine k_n 2 (pc' := 88) (L' := [some (.ref a0)]) (S' := [.ref a0, .ref a0]) (h' := (z_sI h a0 7 ((((z_iv h a0 7) * (10 : Int32)) + (if (z_iv h a0 6) < 0 then (0 : Int32) else (if (z_iv h 6 1) ≤ (z_iv h a0 6) then (0 : Int32) else (if (200 : Int32) ≤ (z_iv h a0 6) then (0 : Int32) else (z_iv h (6 + 1) (z_ix (z_iv h a0 6))))))) - (48 : Int32)))) rfl ?_
        refine k_gV rfl rfl (z_tgI Ta0) (v_nj (by decide) rfl) ?_
        refine k_n 2 (pc' := 93) (L' := [some (.ref a0)]) (S' := [.int ((z_iv h a0 6) + (1 : Int32)), .ref a0]) (h' := (z_sI h a0 7 ((((z_iv h a0 7) * (10 : Int32)) + (if (z_iv h a0 6) < 0 then (0 : Int32) else (if (z_iv h 6 1) ≤ (z_iv h a0 6) then (0 : Int32) else (if (200 : Int32) ≤ (z_iv h a0 6) then (0 : Int32) else (z_iv h (6 + 1) (z_ix (z_iv h a0 6))))))) - (48 : Int32)))) rfl ?_
        refine k_pI rfl (z_tgI Ta0) ?_
        refine k_n 1 (pc' := 10) (L' := [some (.ref a0)]) (S' := []) (h' := (z_sI (z_sI h a0 7 ((((z_iv h a0 7) * (10 : Int32)) + (if (z_iv h a0 6) < 0 then (0 : Int32) else (if (z_iv h 6 1) ≤ (z_iv h a0 6) then (0 : Int32) else (if (200 : Int32) ≤ (z_iv h a0 6) then (0 : Int32) else (z_iv h (6 + 1) (z_ix (z_iv h a0 6))))))) - (48 : Int32))) a0 6 ((z_iv h a0 6) + (1 : Int32)))) rfl ?_
        exact H
      · have hc := hc
        rw [if_neg hc] at H
        refine k_n 2 (pc' := 56) (L' := [some (.ref a0)]) (S' := [.int (1 : Int32), .ref a0]) (h' := h) rfl ?_
        refine k_cI 72 2 rfl rfl rfl (A := [.ref a0, .int (1 : Int32)]) rfl rfl (z_rok_ref Ta0) (rest := []) rfl (z_tyI rfl rfl) ?_
        refine X_72 a0 (1 : Int32) h W Ta0 ?_
        exact k_r rfl rfl rfl H
set_option maxRecDepth 20000 in
theorem X_61 (a0 : Nat) (x1 : Int32) (h : zH) (W : CW h) (T0 : z_tg h a0 = 6) {Q : Unit → zH → Prop} (H : KG z_pV 61 11 [some (.ref a0), some (.int x1), some (.int (1 : Int32)), some (.int (0 : Int32))] [] (z_sI h (a0 + 2) (z_ix (0 : Int32)) x1) Q) : KK z_pV 61 [.ref a0, .int x1] h Q := by
  refine k_K (L := [some (.ref a0), some (.int x1), none, none]) rfl ?_
  refine k_n 1 (pc' := 1) (L' := [some (.ref a0), some (.int x1), none, none]) (S' := [.ref a0]) (h' := h) rfl ?_
  refine k_gS (b := (a0 + 2)) rfl T0 (W.reOf (t := 6) (j := 3) (o := 2) (n := 6) (by decide) T0).1 ?_
  refine k_n 2 (pc' := 6) (L' := [some (.ref a0), some (.int x1), none, none]) (S' := [.int x1, .int (0 : Int32), .ref (a0 + 2)]) (h' := h) rfl ?_
  refine k_is (n := 6) rfl (CW.tyOf (t := 6) (t' := 100) W (j := 3) T0 (W.reOf (t := 6) (j := 3) (o := 2) (n := 6) (by decide) T0).1 (by decide) rfl) (W.reOf (t := 6) (j := 3) (o := 2) (n := 6) (by decide) T0).2 (by decide) ?_
  refine k_n 4 (pc' := 11) (L' := [some (.ref a0), some (.int x1), some (.int (1 : Int32)), some (.int (0 : Int32))]) (S' := []) (h' := (z_sI h (a0 + 2) (z_ix (0 : Int32)) x1)) rfl ?_
  exact H
set_option maxRecDepth 20000 in
theorem X_61_11 (a0 : Nat) (y1 : Int32) (y2 : Int32) (y3 : Int32) (h : zH) (W : CW h) (Ta0 : z_tg h a0 = 6) {Q : Unit → zH → Prop} (H : if (z_iv h a0 6) ≤ y3 then (Q () h) else (if (6 : Int32) ≤ y2 then (Q () h) else (if y3 = y1 then (KG z_pV 61 11 [some (.ref a0), some (.int y1), some (.int y2), some (.int (y3 + (1 : Int32)))] [] h Q) else ((0 ≤ y2.toInt ∧ y2.toInt < 6) ∧ KG z_pV 61 11 [some (.ref a0), some (.int y1), some (.int (y2 + (1 : Int32))), some (.int (y3 + (1 : Int32)))] [] (z_sI h (a0 + 2) (z_ix y2) y3) Q)))) : KG z_pV 61 11 [some (.ref a0), some (.int y1), some (.int y2), some (.int y3)] [] h Q := by
  refine k_n 2 (pc' := 13) (L' := [some (.ref a0), some (.int y1), some (.int y2), some (.int y3)]) (S' := [.ref a0, .int y3]) (h' := h) rfl ?_
  refine k_gI rfl rfl Ta0 ?_
  refine k_b (g := (z_iv h a0 6) ≤ y3) (pc' := 46) (L' := [some (.ref a0), some (.int y1), some (.int y2), some (.int y3)]) (S' := []) (pc2 := 19) (L2 := [some (.ref a0), some (.int y1), some (.int y2), some (.int y3)]) (S2 := []) (h' := h) (h2 := h) rfl rfl (fun hc => ?_) (fun hc => ?_)
  · have hc := hc
    rw [if_pos hc] at H
    exact k_r rfl rfl rfl H
  · have hc := hc
    rw [if_neg hc] at H
    refine k_n 2 (pc' := 22) (L' := [some (.ref a0), some (.int y1), some (.int y2), some (.int y3)]) (S' := [.int (6 : Int32), .int y2]) (h' := h) rfl ?_
    refine k_b (g := (6 : Int32) ≤ y2) (pc' := 46) (L' := [some (.ref a0), some (.int y1), some (.int y2), some (.int y3)]) (S' := []) (pc2 := 25) (L2 := [some (.ref a0), some (.int y1), some (.int y2), some (.int y3)]) (S2 := []) (h' := h) (h2 := h) rfl rfl (fun hc => ?_) (fun hc => ?_)
    · have hc := hc
      rw [if_pos hc] at H
      exact k_r rfl rfl rfl H
    · have hc := hc
      rw [if_neg hc] at H
      refine k_n 2 (pc' := 27) (L' := [some (.ref a0), some (.int y1), some (.int y2), some (.int y3)]) (S' := [.int y1, .int y3]) (h' := h) rfl ?_
      refine k_b (g := y3 = y1) (pc' := 40) (L' := [some (.ref a0), some (.int y1), some (.int y2), some (.int y3)]) (S' := []) (pc2 := 30) (L2 := [some (.ref a0), some (.int y1), some (.int y2), some (.int y3)]) (S2 := []) (h' := h) (h2 := h) rfl rfl (fun hc => ?_) (fun hc => ?_)
      · have hc := hc
        rw [if_pos hc] at H
        refine k_n 2 (pc' := 11) (L' := [some (.ref a0), some (.int y1), some (.int y2), some (.int (y3 + (1 : Int32)))]) (S' := []) (h' := h) rfl ?_
        exact H
      · have hc := hc
        rw [if_neg hc] at H
        refine k_n 1 (pc' := 31) (L' := [some (.ref a0), some (.int y1), some (.int y2), some (.int y3)]) (S' := [.ref a0]) (h' := h) rfl ?_
        refine k_gS (b := (a0 + 2)) rfl Ta0 (W.reOf (t := 6) (j := 3) (o := 2) (n := 6) (by decide) Ta0).1 ?_
        refine k_n 2 (pc' := 36) (L' := [some (.ref a0), some (.int y1), some (.int y2), some (.int y3)]) (S' := [.int y3, .int y2, .ref (a0 + 2)]) (h' := h) rfl ?_
        obtain ⟨o1, H⟩ := H
        refine k_is (n := 6) rfl (CW.tyOf (t := 6) (t' := 100) W (j := 3) Ta0 (W.reOf (t := 6) (j := 3) (o := 2) (n := 6) (by decide) Ta0).1 (by decide) rfl) (W.reOf (t := 6) (j := 3) (o := 2) (n := 6) (by decide) Ta0).2 o1 ?_
        refine k_n 3 (pc' := 11) (L' := [some (.ref a0), some (.int y1), some (.int (y2 + (1 : Int32))), some (.int (y3 + (1 : Int32)))]) (S' := []) (h' := (z_sI h (a0 + 2) (z_ix y2) y3)) rfl ?_
        exact H
set_option maxRecDepth 20000 in
theorem X_64 (a0 : Nat) (x1 : Int32) (x2 : Int32) (h : zH) (W : CW h) (T0 : z_tg h a0 = 6) {Q : Unit → zH → Prop} (H : if (0 : Int32) ≤ x1 ∧ x1 ≤ (5 : Int32) then (if (0 : Int32) ≤ x2 ∧ x2 ≤ (5 : Int32) then ((0 ≤ x1.toInt ∧ x1.toInt < 6) ∧ (0 ≤ x2.toInt ∧ x2.toInt < 6) ∧ (0 ≤ x1.toInt ∧ x1.toInt < 6) ∧ (0 ≤ x2.toInt ∧ x2.toInt < 6) ∧ Q () (z_sI (z_sI h (a0 + 2) (z_ix x1) (z_iv h (a0 + 2) (z_ix x2))) (a0 + 2) (z_ix x2) (z_iv h (a0 + 2) (z_ix x1)))) else (Q () h)) else (Q () h)) : KK z_pV 64 [.ref a0, .int x1, .int x2] h Q := by
  refine k_K (L := [some (.ref a0), some (.int x1), some (.int x2), none]) rfl ?_
  refine k_n 3 (pc' := 3) (L' := [some (.ref a0), some (.int x1), some (.int x2), none]) (S' := [.int (5 : Int32), .int (0 : Int32), .int x1]) (h' := h) rfl ?_
  refine k_cI 135 3 rfl rfl rfl (A := [.int x1, .int (0 : Int32), .int (5 : Int32)]) rfl rfl rfl (rest := []) rfl (z_tyI rfl rfl) ?_
  refine c_within x1 (0 : Int32) (5 : Int32) h ?_
  refine k_b (g := z_bt ((0 : Int32) ≤ x1 ∧ x1 ≤ (5 : Int32)) = 0) (pc' := 44) (L' := [some (.ref a0), some (.int x1), some (.int x2), none]) (S' := []) (pc2 := 9) (L2 := [some (.ref a0), some (.int x1), some (.int x2), none]) (S2 := []) (h' := h) (h2 := h) rfl rfl (fun hc => ?_) (fun hc => ?_)
  · have hc := z_bt_0.mp hc
    rw [if_neg hc] at H
    exact k_r rfl rfl rfl H
  · have hc := Decidable.not_not.mp (fun q => hc (z_bt_0.mpr q))
    rw [if_pos hc] at H
    refine k_n 3 (pc' := 12) (L' := [some (.ref a0), some (.int x1), some (.int x2), none]) (S' := [.int (5 : Int32), .int (0 : Int32), .int x2]) (h' := h) rfl ?_
    refine k_cI 135 3 rfl rfl rfl (A := [.int x2, .int (0 : Int32), .int (5 : Int32)]) rfl rfl rfl (rest := []) rfl (z_tyI rfl rfl) ?_
    refine c_within x2 (0 : Int32) (5 : Int32) h ?_
    refine k_b (g := z_bt ((0 : Int32) ≤ x2 ∧ x2 ≤ (5 : Int32)) = 0) (pc' := 44) (L' := [some (.ref a0), some (.int x1), some (.int x2), none]) (S' := []) (pc2 := 18) (L2 := [some (.ref a0), some (.int x1), some (.int x2), none]) (S2 := []) (h' := h) (h2 := h) rfl rfl (fun hc => ?_) (fun hc => ?_)
    · have hc := z_bt_0.mp hc
      rw [if_neg hc] at H
      exact k_r rfl rfl rfl H
    · have hc := Decidable.not_not.mp (fun q => hc (z_bt_0.mpr q))
      rw [if_pos hc] at H
      refine k_n 1 (pc' := 19) (L' := [some (.ref a0), some (.int x1), some (.int x2), none]) (S' := [.ref a0]) (h' := h) rfl ?_
      refine k_gS (b := (a0 + 2)) rfl T0 (W.reOf (t := 6) (j := 3) (o := 2) (n := 6) (by decide) T0).1 ?_
      refine k_n 1 (pc' := 23) (L' := [some (.ref a0), some (.int x1), some (.int x2), none]) (S' := [.int x1, .ref (a0 + 2)]) (h' := h) rfl ?_
      obtain ⟨o1, H⟩ := H
      refine k_ia (c := 0) (n := 6) rfl (CW.tyOf (t := 6) (t' := 100) W (j := 3) T0 (W.reOf (t := 6) (j := 3) (o := 2) (n := 6) (by decide) T0).1 (by decide) rfl) (W.reOf (t := 6) (j := 3) (o := 2) (n := 6) (by decide) T0).2 o1 ?_
      refine k_n 2 (pc' := 26) (L' := [some (.ref a0), some (.int x1), some (.int x2), some (.int (z_iv h (a0 + 2) (z_ix x1)))]) (S' := [.ref a0]) (h' := h) rfl ?_
      refine k_gS (b := (a0 + 2)) rfl T0 (W.reOf (t := 6) (j := 3) (o := 2) (n := 6) (by decide) T0).1 ?_
      refine k_n 2 (pc' := 31) (L' := [some (.ref a0), some (.int x1), some (.int x2), some (.int (z_iv h (a0 + 2) (z_ix x1)))]) (S' := [.ref a0, .int x1, .ref (a0 + 2)]) (h' := h) rfl ?_
      refine k_gS (b := (a0 + 2)) rfl T0 (W.reOf (t := 6) (j := 3) (o := 2) (n := 6) (by decide) T0).1 ?_
      refine k_n 1 (pc' := 35) (L' := [some (.ref a0), some (.int x1), some (.int x2), some (.int (z_iv h (a0 + 2) (z_ix x1)))]) (S' := [.int x2, .ref (a0 + 2), .int x1, .ref (a0 + 2)]) (h' := h) rfl ?_
      obtain ⟨o2, H⟩ := H
      refine k_ia (c := 0) (n := 6) rfl (CW.tyOf (t := 6) (t' := 100) W (j := 3) T0 (W.reOf (t := 6) (j := 3) (o := 2) (n := 6) (by decide) T0).1 (by decide) rfl) (W.reOf (t := 6) (j := 3) (o := 2) (n := 6) (by decide) T0).2 o2 ?_
      obtain ⟨o3, H⟩ := H
      refine k_is (n := 6) rfl (CW.tyOf (t := 6) (t' := 100) W (j := 3) T0 (W.reOf (t := 6) (j := 3) (o := 2) (n := 6) (by decide) T0).1 (by decide) rfl) (W.reOf (t := 6) (j := 3) (o := 2) (n := 6) (by decide) T0).2 o3 ?_
      refine k_n 1 (pc' := 38) (L' := [some (.ref a0), some (.int x1), some (.int x2), some (.int (z_iv h (a0 + 2) (z_ix x1)))]) (S' := [.ref a0]) (h' := (z_sI h (a0 + 2) (z_ix x1) (z_iv h (a0 + 2) (z_ix x2)))) rfl ?_
      refine k_gS (b := (a0 + 2)) rfl (z_tgI T0) ((CW.sI W).reOf (t := 6) (j := 3) (o := 2) (n := 6) (by decide) (z_tgI T0)).1 ?_
      refine k_n 2 (pc' := 43) (L' := [some (.ref a0), some (.int x1), some (.int x2), some (.int (z_iv h (a0 + 2) (z_ix x1)))]) (S' := [.int (z_iv h (a0 + 2) (z_ix x1)), .int x2, .ref (a0 + 2)]) (h' := (z_sI h (a0 + 2) (z_ix x1) (z_iv h (a0 + 2) (z_ix x2)))) rfl ?_
      obtain ⟨o4, H⟩ := H
      refine k_is (n := 6) rfl (CW.tyOf (t := 6) (t' := 100) (CW.sI W) (j := 3) (z_tgI T0) ((CW.sI W).reOf (t := 6) (j := 3) (o := 2) (n := 6) (by decide) (z_tgI T0)).1 (by decide) rfl) ((CW.sI W).reOf (t := 6) (j := 3) (o := 2) (n := 6) (by decide) (z_tgI T0)).2 o4 ?_
      exact k_r rfl rfl rfl H
set_option maxRecDepth 20000 in
theorem X_65 (a0 : Nat) (x1 : Int32) (h : zH) (W : CW h) (T0 : z_tg h a0 = 6) {Q : Int32 → zH → Prop} (H : if (1 : Int32) ≤ x1 ∧ x1 ≤ (5 : Int32) then ((0 ≤ (x1 - (1 : Int32)).toInt ∧ (x1 - (1 : Int32)).toInt < 6) ∧ (0 ≤ x1.toInt ∧ x1.toInt < 6) ∧ (if (0 : Int32) ≤ (z_iv h (a0 + 2) (z_ix (x1 - (1 : Int32)))) ∧ (z_iv h (a0 + 2) (z_ix (x1 - (1 : Int32)))) ≤ (5 : Int32) then ((((0 : Int32) ≤ (z_iv h (a0 + 2) (z_ix x1)) ∧ (z_iv h (a0 + 2) (z_ix x1)) ≤ (5 : Int32)) → 0 ≤ (((z_iv h (a0 + 2) (z_ix (x1 - (1 : Int32)))) * (6 : Int32)) + (z_iv h (a0 + 2) (z_ix x1))).toInt ∧ (((z_iv h (a0 + 2) (z_ix (x1 - (1 : Int32)))) * (6 : Int32)) + (z_iv h (a0 + 2) (z_ix x1))).toInt < 36) ∧ (∀ m7 : Int32, m7 = (if (0 : Int32) ≤ (z_iv h (a0 + 2) (z_ix x1)) ∧ (z_iv h (a0 + 2) (z_ix x1)) ≤ (5 : Int32) then (z_iv h (a0 + 4) (z_ix (((z_iv h (a0 + 2) (z_ix (x1 - (1 : Int32)))) * (6 : Int32)) + (z_iv h (a0 + 2) (z_ix x1))))) else (0 : Int32)) → Q m7 h)) else (Q (0 : Int32) h))) else (Q (0 : Int32) h)) : KK z_pI 65 [.ref a0, .int x1] h Q := by
  refine k_K (L := [some (.ref a0), some (.int x1), none, none, none]) rfl ?_
  refine k_n 3 (pc' := 3) (L' := [some (.ref a0), some (.int x1), none, none, none]) (S' := [.int (5 : Int32), .int (1 : Int32), .int x1]) (h' := h) rfl ?_
  refine k_cI 135 3 rfl rfl rfl (A := [.int x1, .int (1 : Int32), .int (5 : Int32)]) rfl rfl rfl (rest := []) rfl (z_tyI rfl rfl) ?_
  refine c_within x1 (1 : Int32) (5 : Int32) h ?_
  refine k_b (g := z_bt ((1 : Int32) ≤ x1 ∧ x1 ≤ (5 : Int32)) = 0) (pc' := 9) (L' := [some (.ref a0), some (.int x1), none, none, none]) (S' := []) (pc2 := 11) (L2 := [some (.ref a0), some (.int x1), none, none, none]) (S2 := []) (h' := h) (h2 := h) rfl rfl (fun hc => ?_) (fun hc => ?_)
  · have hc := z_bt_0.mp hc
    rw [if_neg hc] at H
    refine k_n 1 (pc' := 10) (L' := [some (.ref a0), some (.int x1), none, none, none]) (S' := [.int (0 : Int32)]) (h' := h) rfl ?_
    exact k_r rfl rfl rfl H
  · have hc := Decidable.not_not.mp (fun q => hc (z_bt_0.mpr q))
    rw [if_pos hc] at H
    refine k_n 1 (pc' := 12) (L' := [some (.ref a0), some (.int x1), none, none, none]) (S' := [.ref a0]) (h' := h) rfl ?_
    refine k_gS (b := (a0 + 2)) rfl T0 (W.reOf (t := 6) (j := 3) (o := 2) (n := 6) (by decide) T0).1 ?_
    refine k_n 3 (pc' := 18) (L' := [some (.ref a0), some (.int x1), none, none, none]) (S' := [.int (x1 - (1 : Int32)), .ref (a0 + 2)]) (h' := h) rfl ?_
    obtain ⟨o1, H⟩ := H
    refine k_ia (c := 0) (n := 6) rfl (CW.tyOf (t := 6) (t' := 100) W (j := 3) T0 (W.reOf (t := 6) (j := 3) (o := 2) (n := 6) (by decide) T0).1 (by decide) rfl) (W.reOf (t := 6) (j := 3) (o := 2) (n := 6) (by decide) T0).2 o1 ?_
    refine k_n 2 (pc' := 21) (L' := [some (.ref a0), some (.int x1), some (.int (z_iv h (a0 + 2) (z_ix (x1 - (1 : Int32))))), none, none]) (S' := [.ref a0]) (h' := h) rfl ?_
    refine k_gS (b := (a0 + 2)) rfl T0 (W.reOf (t := 6) (j := 3) (o := 2) (n := 6) (by decide) T0).1 ?_
    refine k_n 1 (pc' := 25) (L' := [some (.ref a0), some (.int x1), some (.int (z_iv h (a0 + 2) (z_ix (x1 - (1 : Int32))))), none, none]) (S' := [.int x1, .ref (a0 + 2)]) (h' := h) rfl ?_
    obtain ⟨o2, H⟩ := H
    refine k_ia (c := 0) (n := 6) rfl (CW.tyOf (t := 6) (t' := 100) W (j := 3) T0 (W.reOf (t := 6) (j := 3) (o := 2) (n := 6) (by decide) T0).1 (by decide) rfl) (W.reOf (t := 6) (j := 3) (o := 2) (n := 6) (by decide) T0).2 o2 ?_
    refine k_n 4 (pc' := 30) (L' := [some (.ref a0), some (.int x1), some (.int (z_iv h (a0 + 2) (z_ix (x1 - (1 : Int32))))), some (.int (z_iv h (a0 + 2) (z_ix x1))), none]) (S' := [.int (5 : Int32), .int (0 : Int32), .int (z_iv h (a0 + 2) (z_ix (x1 - (1 : Int32))))]) (h' := h) rfl ?_
    refine k_cI 135 3 rfl rfl rfl (A := [.int (z_iv h (a0 + 2) (z_ix (x1 - (1 : Int32)))), .int (0 : Int32), .int (5 : Int32)]) rfl rfl rfl (rest := []) rfl (z_tyI rfl rfl) ?_
    refine c_within (z_iv h (a0 + 2) (z_ix (x1 - (1 : Int32)))) (0 : Int32) (5 : Int32) h ?_
    refine k_b (g := z_bt ((0 : Int32) ≤ (z_iv h (a0 + 2) (z_ix (x1 - (1 : Int32)))) ∧ (z_iv h (a0 + 2) (z_ix (x1 - (1 : Int32)))) ≤ (5 : Int32)) = 0) (pc' := 49) (L' := [some (.ref a0), some (.int x1), some (.int (z_iv h (a0 + 2) (z_ix (x1 - (1 : Int32))))), some (.int (z_iv h (a0 + 2) (z_ix x1))), none]) (S' := []) (pc2 := 36) (L2 := [some (.ref a0), some (.int x1), some (.int (z_iv h (a0 + 2) (z_ix (x1 - (1 : Int32))))), some (.int (z_iv h (a0 + 2) (z_ix x1))), none]) (S2 := []) (h' := h) (h2 := h) rfl rfl (fun hc => ?_) (fun hc => ?_)
    · have hc := z_bt_0.mp hc
      rw [if_neg hc] at H
      refine k_n 5 (pc' := 72) (L' := [some (.ref a0), some (.int x1), some (.int (z_iv h (a0 + 2) (z_ix (x1 - (1 : Int32))))), some (.int (z_iv h (a0 + 2) (z_ix x1))), some (.int (0 : Int32))]) (S' := [.int (0 : Int32)]) (h' := h) rfl ?_
      exact k_r rfl rfl rfl H
    · have hc := Decidable.not_not.mp (fun q => hc (z_bt_0.mpr q))
      rw [if_pos hc] at H
      refine k_n 3 (pc' := 39) (L' := [some (.ref a0), some (.int x1), some (.int (z_iv h (a0 + 2) (z_ix (x1 - (1 : Int32))))), some (.int (z_iv h (a0 + 2) (z_ix x1))), none]) (S' := [.int (5 : Int32), .int (0 : Int32), .int (z_iv h (a0 + 2) (z_ix x1))]) (h' := h) rfl ?_
      refine k_cI 135 3 rfl rfl rfl (A := [.int (z_iv h (a0 + 2) (z_ix x1)), .int (0 : Int32), .int (5 : Int32)]) rfl rfl rfl (rest := []) rfl (z_tyI rfl rfl) ?_
      refine c_within (z_iv h (a0 + 2) (z_ix x1)) (0 : Int32) (5 : Int32) h ?_
      have hj4 : KG z_pI 65 50 [some (.ref a0), some (.int x1), some (.int (z_iv h (a0 + 2) (z_ix (x1 - (1 : Int32))))), some (.int (z_iv h (a0 + 2) (z_ix x1))), none] [.int (z_bt ((0 : Int32) ≤ (z_iv h (a0 + 2) (z_ix x1)) ∧ (z_iv h (a0 + 2) (z_ix x1)) ≤ (5 : Int32)))] h Q := by
        refine k_n 2 (pc' := 54) (L' := [some (.ref a0), some (.int x1), some (.int (z_iv h (a0 + 2) (z_ix (x1 - (1 : Int32))))), some (.int (z_iv h (a0 + 2) (z_ix x1))), some (.int (z_bt ((0 : Int32) ≤ (z_iv h (a0 + 2) (z_ix x1)) ∧ (z_iv h (a0 + 2) (z_ix x1)) ≤ (5 : Int32))))]) (S' := [.int (z_bt ((0 : Int32) ≤ (z_iv h (a0 + 2) (z_ix x1)) ∧ (z_iv h (a0 + 2) (z_ix x1)) ≤ (5 : Int32)))]) (h' := h) rfl ?_
        obtain ⟨o6, H⟩ := H
        obtain ⟨m7, em7⟩ : ∃ m : Int32, m = (if (0 : Int32) ≤ (z_iv h (a0 + 2) (z_ix x1)) ∧ (z_iv h (a0 + 2) (z_ix x1)) ≤ (5 : Int32) then (z_iv h (a0 + 4) (z_ix (((z_iv h (a0 + 2) (z_ix (x1 - (1 : Int32)))) * (6 : Int32)) + (z_iv h (a0 + 2) (z_ix x1))))) else (0 : Int32)) := ⟨_, rfl⟩
        have H := H m7 em7
        have hj8 : KG z_pI 65 72 [some (.ref a0), some (.int x1), some (.int (z_iv h (a0 + 2) (z_ix (x1 - (1 : Int32))))), some (.int (z_iv h (a0 + 2) (z_ix x1))), some (.int (z_bt ((0 : Int32) ≤ (z_iv h (a0 + 2) (z_ix x1)) ∧ (z_iv h (a0 + 2) (z_ix x1)) ≤ (5 : Int32))))] [.int m7] h Q := by
          exact k_r rfl rfl rfl H
        refine k_b (g := z_bt ((0 : Int32) ≤ (z_iv h (a0 + 2) (z_ix x1)) ∧ (z_iv h (a0 + 2) (z_ix x1)) ≤ (5 : Int32)) = 0) (pc' := 71) (L' := [some (.ref a0), some (.int x1), some (.int (z_iv h (a0 + 2) (z_ix (x1 - (1 : Int32))))), some (.int (z_iv h (a0 + 2) (z_ix x1))), some (.int (z_bt ((0 : Int32) ≤ (z_iv h (a0 + 2) (z_ix x1)) ∧ (z_iv h (a0 + 2) (z_ix x1)) ≤ (5 : Int32))))]) (S' := []) (pc2 := 57) (L2 := [some (.ref a0), some (.int x1), some (.int (z_iv h (a0 + 2) (z_ix (x1 - (1 : Int32))))), some (.int (z_iv h (a0 + 2) (z_ix x1))), some (.int (z_bt ((0 : Int32) ≤ (z_iv h (a0 + 2) (z_ix x1)) ∧ (z_iv h (a0 + 2) (z_ix x1)) ≤ (5 : Int32))))]) (S2 := []) (h' := h) (h2 := h) rfl rfl (fun hc => ?_) (fun hc => ?_)
        · have c5 := z_bt_0.mp hc
          refine k_n 1 (pc' := 72) (L' := [some (.ref a0), some (.int x1), some (.int (z_iv h (a0 + 2) (z_ix (x1 - (1 : Int32))))), some (.int (z_iv h (a0 + 2) (z_ix x1))), some (.int (z_bt ((0 : Int32) ≤ (z_iv h (a0 + 2) (z_ix x1)) ∧ (z_iv h (a0 + 2) (z_ix x1)) ≤ (5 : Int32))))]) (S' := [.int (0 : Int32)]) (h' := h) rfl ?_
          rw [(em7.trans (by rw [if_neg c5]) : m7 = (0 : Int32))] at hj8
          exact hj8
        · have c5 := Decidable.not_not.mp (fun q => hc (z_bt_0.mpr q))
          refine k_n 1 (pc' := 58) (L' := [some (.ref a0), some (.int x1), some (.int (z_iv h (a0 + 2) (z_ix (x1 - (1 : Int32))))), some (.int (z_iv h (a0 + 2) (z_ix x1))), some (.int (z_bt ((0 : Int32) ≤ (z_iv h (a0 + 2) (z_ix x1)) ∧ (z_iv h (a0 + 2) (z_ix x1)) ≤ (5 : Int32))))]) (S' := [.ref a0]) (h' := h) rfl ?_
          refine k_gS (b := (a0 + 4)) rfl T0 (W.reOf (t := 6) (j := 5) (o := 4) (n := 36) (by decide) T0).1 ?_
          refine k_n 5 (pc' := 67) (L' := [some (.ref a0), some (.int x1), some (.int (z_iv h (a0 + 2) (z_ix (x1 - (1 : Int32))))), some (.int (z_iv h (a0 + 2) (z_ix x1))), some (.int (z_bt ((0 : Int32) ≤ (z_iv h (a0 + 2) (z_ix x1)) ∧ (z_iv h (a0 + 2) (z_ix x1)) ≤ (5 : Int32))))]) (S' := [.int (((z_iv h (a0 + 2) (z_ix (x1 - (1 : Int32)))) * (6 : Int32)) + (z_iv h (a0 + 2) (z_ix x1))), .ref (a0 + 4)]) (h' := h) rfl ?_
          refine k_ia (c := 0) (n := 36) rfl (CW.tyOf (t := 6) (t' := 100) W (j := 5) T0 (W.reOf (t := 6) (j := 5) (o := 4) (n := 36) (by decide) T0).1 (by decide) rfl) (W.reOf (t := 6) (j := 5) (o := 4) (n := 36) (by decide) T0).2 (o6 c5) ?_
          refine k_n 1 (pc' := 72) (L' := [some (.ref a0), some (.int x1), some (.int (z_iv h (a0 + 2) (z_ix (x1 - (1 : Int32))))), some (.int (z_iv h (a0 + 2) (z_ix x1))), some (.int (z_bt ((0 : Int32) ≤ (z_iv h (a0 + 2) (z_ix x1)) ∧ (z_iv h (a0 + 2) (z_ix x1)) ≤ (5 : Int32))))]) (S' := [.int (z_iv h (a0 + 4) (z_ix (((z_iv h (a0 + 2) (z_ix (x1 - (1 : Int32)))) * (6 : Int32)) + (z_iv h (a0 + 2) (z_ix x1)))))]) (h' := h) rfl ?_
          rw [(em7.trans (by rw [if_pos c5]) : m7 = (z_iv h (a0 + 4) (z_ix (((z_iv h (a0 + 2) (z_ix (x1 - (1 : Int32)))) * (6 : Int32)) + (z_iv h (a0 + 2) (z_ix x1))))))] at hj8
          exact hj8
      refine k_b (g := z_bt ((0 : Int32) ≤ (z_iv h (a0 + 2) (z_ix x1)) ∧ (z_iv h (a0 + 2) (z_ix x1)) ≤ (5 : Int32)) = 0) (pc' := 49) (L' := [some (.ref a0), some (.int x1), some (.int (z_iv h (a0 + 2) (z_ix (x1 - (1 : Int32))))), some (.int (z_iv h (a0 + 2) (z_ix x1))), none]) (S' := []) (pc2 := 45) (L2 := [some (.ref a0), some (.int x1), some (.int (z_iv h (a0 + 2) (z_ix (x1 - (1 : Int32))))), some (.int (z_iv h (a0 + 2) (z_ix x1))), none]) (S2 := []) (h' := h) (h2 := h) rfl rfl (fun hc => ?_) (fun hc => ?_)
      · have c3 := z_bt_0.mp hc
        refine k_n 1 (pc' := 50) (L' := [some (.ref a0), some (.int x1), some (.int (z_iv h (a0 + 2) (z_ix (x1 - (1 : Int32))))), some (.int (z_iv h (a0 + 2) (z_ix x1))), none]) (S' := [.int (0 : Int32)]) (h' := h) rfl ?_
        rw [show z_bt ((0 : Int32) ≤ (z_iv h (a0 + 2) (z_ix x1)) ∧ (z_iv h (a0 + 2) (z_ix x1)) ≤ (5 : Int32)) = 0 from z_bt_0.mpr (c3)] at hj4
        exact hj4
      · have c3 := Decidable.not_not.mp (fun q => hc (z_bt_0.mpr q))
        refine k_n 2 (pc' := 50) (L' := [some (.ref a0), some (.int x1), some (.int (z_iv h (a0 + 2) (z_ix (x1 - (1 : Int32))))), some (.int (z_iv h (a0 + 2) (z_ix x1))), none]) (S' := [.int (1 : Int32)]) (h' := h) rfl ?_
        rw [show z_bt ((0 : Int32) ≤ (z_iv h (a0 + 2) (z_ix x1)) ∧ (z_iv h (a0 + 2) (z_ix x1)) ≤ (5 : Int32)) = 1 from z_bt_1.mpr (c3)] at hj4
        exact hj4
theorem C_65 (a0 : Nat) (x1 : Int32) (h : zH) (W : CW h) (T0 : z_tg h a0 = 6) (O0 : ((1 : Int32) ≤ x1 ∧ x1 ≤ (5 : Int32)) → 0 ≤ (x1 - (1 : Int32)).toInt ∧ (x1 - (1 : Int32)).toInt < 6) (O1 : ((1 : Int32) ≤ x1 ∧ x1 ≤ (5 : Int32)) → 0 ≤ x1.toInt ∧ x1.toInt < 6) (O2 : ((1 : Int32) ≤ x1 ∧ x1 ≤ (5 : Int32)) → ((0 : Int32) ≤ (z_iv h (a0 + 2) (z_ix (x1 - (1 : Int32)))) ∧ (z_iv h (a0 + 2) (z_ix (x1 - (1 : Int32)))) ≤ (5 : Int32)) → ((0 : Int32) ≤ (z_iv h (a0 + 2) (z_ix x1)) ∧ (z_iv h (a0 + 2) (z_ix x1)) ≤ (5 : Int32)) → 0 ≤ (((z_iv h (a0 + 2) (z_ix (x1 - (1 : Int32)))) * (6 : Int32)) + (z_iv h (a0 + 2) (z_ix x1))).toInt ∧ (((z_iv h (a0 + 2) (z_ix (x1 - (1 : Int32)))) * (6 : Int32)) + (z_iv h (a0 + 2) (z_ix x1))).toInt < 36) {Q : Int32 → zH → Prop} (q : Q (if (1 : Int32) ≤ x1 ∧ x1 ≤ (5 : Int32) then (if (0 : Int32) ≤ (z_iv h (a0 + 2) (z_ix (x1 - (1 : Int32)))) ∧ (z_iv h (a0 + 2) (z_ix (x1 - (1 : Int32)))) ≤ (5 : Int32) then (if (0 : Int32) ≤ (z_iv h (a0 + 2) (z_ix x1)) ∧ (z_iv h (a0 + 2) (z_ix x1)) ≤ (5 : Int32) then (z_iv h (a0 + 4) (z_ix (((z_iv h (a0 + 2) (z_ix (x1 - (1 : Int32)))) * (6 : Int32)) + (z_iv h (a0 + 2) (z_ix x1))))) else (0 : Int32)) else (0 : Int32)) else (0 : Int32)) h) : KK z_pI 65 [.ref a0, .int x1] h Q := by
  refine X_65 a0 x1 h W T0 ?_
  refine z_ifd (fun c1_0 => ?_) (fun c1_0 => ?_)
  · rw [if_pos c1_0] at q
    refine ⟨O0 c1_0, ?_⟩
    refine ⟨O1 c1_0, ?_⟩
    refine z_ifd (fun c2_2 => ?_) (fun c2_2 => ?_)
    · rw [if_pos c2_2] at q
      refine ⟨O2 c1_0 c2_2, ?_⟩
      intro m_ em_; subst em_
      exact q
    · rw [if_neg c2_2] at q
      exact q
  · rw [if_neg c1_0] at q
    exact q
set_option maxRecDepth 20000 in
theorem X_67 (a0 : Nat) (x1 : Int32) (h : zH) (W : CW h) (T0 : z_tg h a0 = 6) {Q : Int32 → zH → Prop} (H : (¬ (x1 < 0) → ¬ ((z_iv h a0 6) ≤ x1) → ¬ ((6 : Int32) ≤ x1) → 0 ≤ x1.toInt ∧ x1.toInt < 6) ∧ (∀ m5 : Int32, m5 = (if x1 < 0 then (-4 : Int32) else (if (z_iv h a0 6) ≤ x1 then (-4 : Int32) else (if (6 : Int32) ≤ x1 then (-4 : Int32) else (z_iv h (a0 + 1) (z_ix x1))))) → Q m5 h)) : KK z_pI 67 [.ref a0, .int x1] h Q := by
  refine k_K (L := [some (.ref a0), some (.int x1)]) rfl ?_
  refine k_n 1 (pc' := 1) (L' := [some (.ref a0), some (.int x1)]) (S' := [.int x1]) (h' := h) rfl ?_
  obtain ⟨o4, H⟩ := H
  obtain ⟨m5, em5⟩ : ∃ m : Int32, m = (if x1 < 0 then (-4 : Int32) else (if (z_iv h a0 6) ≤ x1 then (-4 : Int32) else (if (6 : Int32) ≤ x1 then (-4 : Int32) else (z_iv h (a0 + 1) (z_ix x1))))) := ⟨_, rfl⟩
  have H := H m5 em5
  have hj6 : KG z_pI 67 29 [some (.ref a0), some (.int x1)] [.int m5] h Q := by
    exact k_r rfl rfl rfl H
  refine k_b (g := x1 < 0) (pc' := 27) (L' := [some (.ref a0), some (.int x1)]) (S' := []) (pc2 := 4) (L2 := [some (.ref a0), some (.int x1)]) (S2 := []) (h' := h) (h2 := h) rfl rfl (fun hc => ?_) (fun hc => ?_)
  · have c1 := hc
    refine k_n 1 (pc' := 29) (L' := [some (.ref a0), some (.int x1)]) (S' := [.int (-4 : Int32)]) (h' := h) rfl ?_
    rw [(em5.trans (by rw [if_pos c1]) : m5 = (-4 : Int32))] at hj6
    exact hj6
  · have c1 := hc
    refine k_n 2 (pc' := 6) (L' := [some (.ref a0), some (.int x1)]) (S' := [.ref a0, .int x1]) (h' := h) rfl ?_
    refine k_gI rfl rfl T0 ?_
    refine k_b (g := (z_iv h a0 6) ≤ x1) (pc' := 27) (L' := [some (.ref a0), some (.int x1)]) (S' := []) (pc2 := 12) (L2 := [some (.ref a0), some (.int x1)]) (S2 := []) (h' := h) (h2 := h) rfl rfl (fun hc => ?_) (fun hc => ?_)
    · have c2 := hc
      refine k_n 1 (pc' := 29) (L' := [some (.ref a0), some (.int x1)]) (S' := [.int (-4 : Int32)]) (h' := h) rfl ?_
      rw [(em5.trans (by rw [if_neg c1, if_pos c2]) : m5 = (-4 : Int32))] at hj6
      exact hj6
    · have c2 := hc
      refine k_n 2 (pc' := 15) (L' := [some (.ref a0), some (.int x1)]) (S' := [.int (6 : Int32), .int x1]) (h' := h) rfl ?_
      refine k_b (g := (6 : Int32) ≤ x1) (pc' := 27) (L' := [some (.ref a0), some (.int x1)]) (S' := []) (pc2 := 18) (L2 := [some (.ref a0), some (.int x1)]) (S2 := []) (h' := h) (h2 := h) rfl rfl (fun hc => ?_) (fun hc => ?_)
      · have c3 := hc
        refine k_n 1 (pc' := 29) (L' := [some (.ref a0), some (.int x1)]) (S' := [.int (-4 : Int32)]) (h' := h) rfl ?_
        rw [(em5.trans (by rw [if_neg c1, if_neg c2, if_pos c3]) : m5 = (-4 : Int32))] at hj6
        exact hj6
      · have c3 := hc
        refine k_n 1 (pc' := 19) (L' := [some (.ref a0), some (.int x1)]) (S' := [.ref a0]) (h' := h) rfl ?_
        refine k_gS (b := (a0 + 1)) rfl T0 (W.reOf (t := 6) (j := 2) (o := 1) (n := 6) (by decide) T0).1 ?_
        refine k_n 1 (pc' := 23) (L' := [some (.ref a0), some (.int x1)]) (S' := [.int x1, .ref (a0 + 1)]) (h' := h) rfl ?_
        refine k_ia (c := 0) (n := 6) rfl (CW.tyOf (t := 6) (t' := 100) W (j := 2) T0 (W.reOf (t := 6) (j := 2) (o := 1) (n := 6) (by decide) T0).1 (by decide) rfl) (W.reOf (t := 6) (j := 2) (o := 1) (n := 6) (by decide) T0).2 (o4 c1 c2 c3) ?_
        refine k_n 1 (pc' := 29) (L' := [some (.ref a0), some (.int x1)]) (S' := [.int (z_iv h (a0 + 1) (z_ix x1))]) (h' := h) rfl ?_
        rw [(em5.trans (by rw [if_neg c1, if_neg c2, if_neg c3]) : m5 = (z_iv h (a0 + 1) (z_ix x1)))] at hj6
        exact hj6
theorem C_67 (a0 : Nat) (x1 : Int32) (h : zH) (W : CW h) (T0 : z_tg h a0 = 6) (O0 : ¬ (x1 < 0) → ¬ ((z_iv h a0 6) ≤ x1) → ¬ ((6 : Int32) ≤ x1) → 0 ≤ x1.toInt ∧ x1.toInt < 6) {Q : Int32 → zH → Prop} (q : Q (if x1 < 0 then (-4 : Int32) else (if (z_iv h a0 6) ≤ x1 then (-4 : Int32) else (if (6 : Int32) ≤ x1 then (-4 : Int32) else (z_iv h (a0 + 1) (z_ix x1))))) h) : KK z_pI 67 [.ref a0, .int x1] h Q := by
  refine X_67 a0 x1 h W T0 ?_
  refine ⟨O0, ?_⟩
  intro m_ em_; subst em_
  exact q
set_option maxRecDepth 20000 in
theorem X_68 (a0 : Nat) (x1 : Int32) (h : zH) (W : CW h) (T0 : z_tg h a0 = 6) {Q : Int32 → zH → Prop} (H : KG z_pI 68 12 [some (.ref a0), some (.int x1), some (.int x1), some (.int (0 : Int32)), some (.int ((z_iv h a0 6) - (1 : Int32))), none, none] [] h Q) : KK z_pI 68 [.ref a0, .int x1] h Q := by
  refine k_K (L := [some (.ref a0), some (.int x1), none, none, none, none, none]) rfl ?_
  refine k_n 5 (pc' := 5) (L' := [some (.ref a0), some (.int x1), some (.int x1), some (.int (0 : Int32)), none, none, none]) (S' := [.ref a0]) (h' := h) rfl ?_
  refine k_gI rfl rfl T0 ?_
  refine k_n 3 (pc' := 12) (L' := [some (.ref a0), some (.int x1), some (.int x1), some (.int (0 : Int32)), some (.int ((z_iv h a0 6) - (1 : Int32))), none, none]) (S' := []) (h' := h) rfl ?_
  exact H
set_option maxRecDepth 20000 in
theorem X_68_12 (a0 : Nat) (y1 : Int32) (y2 : Int32) (y3 : Int32) (y4 : Int32) (u5 : Option Value) (u6 : Option Value) (h : zH) (W : CW h) (Ta0 : z_tg h a0 = 6) {Q : Int32 → zH → Prop} (H : if y4 < 0 then (Q (z_bt (y2 = 0)) h) else (if ¬ ((y2 - y2 / (10 : Int32) * (10 : Int32)) < 0) ∧ (¬ ((z_iv h a0 6) ≤ (y2 - y2 / (10 : Int32) * (10 : Int32))) ∧ (((y3 >>> ((y2 - y2 / (10 : Int32) * (10 : Int32)) &&& 31)) &&& (1 : Int32)) = 0)) then ((0 ≤ y4.toInt ∧ y4.toInt < 6) ∧ KG z_pI 68 12 [some (.ref a0), some (.int y1), some (.int (y2 / (10 : Int32))), some (.int (y3 ||| ((1 : Int32) <<< ((y2 - y2 / (10 : Int32) * (10 : Int32)) &&& 31)))), some (.int (y4 + (-1 : Int32))), some (.int (y2 - y2 / (10 : Int32) * (10 : Int32))), some (.int (z_bt (¬ ((y2 - y2 / (10 : Int32) * (10 : Int32)) < 0) ∧ (¬ ((z_iv h a0 6) ≤ (y2 - y2 / (10 : Int32) * (10 : Int32))) ∧ (((y3 >>> ((y2 - y2 / (10 : Int32) * (10 : Int32)) &&& 31)) &&& (1 : Int32)) = 0)))))] [] (z_sI h (a0 + 2) (z_ix y4) (y2 - y2 / (10 : Int32) * (10 : Int32))) Q) else (Q (0 : Int32) h))) : KG z_pI 68 12 [some (.ref a0), some (.int y1), some (.int y2), some (.int y3), some (.int y4), u5, u6] [] h Q := by
  refine k_n 1 (pc' := 14) (L' := [some (.ref a0), some (.int y1), some (.int y2), some (.int y3), some (.int y4), u5, u6]) (S' := [.int y4]) (h' := h) rfl ?_
  refine k_b (g := y4 < 0) (pc' := 87) (L' := [some (.ref a0), some (.int y1), some (.int y2), some (.int y3), some (.int y4), u5, u6]) (S' := []) (pc2 := 17) (L2 := [some (.ref a0), some (.int y1), some (.int y2), some (.int y3), some (.int y4), u5, u6]) (S2 := []) (h' := h) (h2 := h) rfl rfl (fun hc => ?_) (fun hc => ?_)
  · have hc := hc
    rw [if_pos hc] at H
    refine k_n 1 (pc' := 88) (L' := [some (.ref a0), some (.int y1), some (.int y2), some (.int y3), some (.int y4), u5, u6]) (S' := [.int y2]) (h' := h) rfl ?_
    have hj2 : KG z_pI 68 96 [some (.ref a0), some (.int y1), some (.int y2), some (.int y3), some (.int y4), u5, u6] [.int (z_bt (y2 = 0))] h Q := by
      exact k_r rfl (z_retB z_bt_01) rfl H
    refine k_b (g := y2 = 0) (pc' := 91) (L' := [some (.ref a0), some (.int y1), some (.int y2), some (.int y3), some (.int y4), u5, u6]) (S' := []) (pc2 := 95) (L2 := [some (.ref a0), some (.int y1), some (.int y2), some (.int y3), some (.int y4), u5, u6]) (S2 := []) (h' := h) (h2 := h) rfl rfl (fun hc => ?_) (fun hc => ?_)
    · have c1 := hc
      refine k_n 2 (pc' := 96) (L' := [some (.ref a0), some (.int y1), some (.int y2), some (.int y3), some (.int y4), u5, u6]) (S' := [.int (1 : Int32)]) (h' := h) rfl ?_
      rw [show z_bt (y2 = 0) = 1 from z_bt_1.mpr (c1)] at hj2
      exact hj2
    · have c1 := hc
      refine k_n 1 (pc' := 96) (L' := [some (.ref a0), some (.int y1), some (.int y2), some (.int y3), some (.int y4), u5, u6]) (S' := [.int (0 : Int32)]) (h' := h) rfl ?_
      rw [show z_bt (y2 = 0) = 0 from z_bt_0.mpr (c1)] at hj2
      exact hj2
  · have hc := hc
    rw [if_neg hc] at H
    refine k_n 2 (pc' := 20) (L' := [some (.ref a0), some (.int y1), some (.int y2), some (.int y3), some (.int y4), u5, u6]) (S' := [.int (10 : Int32), .int y2]) (h' := h) rfl ?_
    refine k_d (g := (10 : Int32) = 0) (pc' := 21) (L' := [some (.ref a0), some (.int y1), some (.int y2), some (.int y3), some (.int y4), u5, u6]) (S' := [.int (y2 - y2 / (10 : Int32) * (10 : Int32))]) (h' := h) rfl rfl (by decide) ?_
    refine k_n 3 (pc' := 26) (L' := [some (.ref a0), some (.int y1), some (.int y2), some (.int y3), some (.int y4), some (.int (y2 - y2 / (10 : Int32) * (10 : Int32))), u6]) (S' := [.int (10 : Int32), .int y2]) (h' := h) rfl ?_
    refine k_d (g := (10 : Int32) = 0) (pc' := 27) (L' := [some (.ref a0), some (.int y1), some (.int y2), some (.int y3), some (.int y4), some (.int (y2 - y2 / (10 : Int32) * (10 : Int32))), u6]) (S' := [.int (y2 / (10 : Int32))]) (h' := h) rfl rfl (by decide) ?_
    refine k_n 2 (pc' := 30) (L' := [some (.ref a0), some (.int y1), some (.int (y2 / (10 : Int32))), some (.int y3), some (.int y4), some (.int (y2 - y2 / (10 : Int32) * (10 : Int32))), u6]) (S' := [.int (y2 - y2 / (10 : Int32) * (10 : Int32))]) (h' := h) rfl ?_
    have hj6 : KG z_pI 68 56 [some (.ref a0), some (.int y1), some (.int (y2 / (10 : Int32))), some (.int y3), some (.int y4), some (.int (y2 - y2 / (10 : Int32) * (10 : Int32))), u6] [.int (z_bt (¬ ((y2 - y2 / (10 : Int32) * (10 : Int32)) < 0) ∧ (¬ ((z_iv h a0 6) ≤ (y2 - y2 / (10 : Int32) * (10 : Int32))) ∧ (((y3 >>> ((y2 - y2 / (10 : Int32) * (10 : Int32)) &&& 31)) &&& (1 : Int32)) = 0))))] h Q := by
      refine k_n 2 (pc' := 60) (L' := [some (.ref a0), some (.int y1), some (.int (y2 / (10 : Int32))), some (.int y3), some (.int y4), some (.int (y2 - y2 / (10 : Int32) * (10 : Int32))), some (.int (z_bt (¬ ((y2 - y2 / (10 : Int32) * (10 : Int32)) < 0) ∧ (¬ ((z_iv h a0 6) ≤ (y2 - y2 / (10 : Int32) * (10 : Int32))) ∧ (((y3 >>> ((y2 - y2 / (10 : Int32) * (10 : Int32)) &&& 31)) &&& (1 : Int32)) = 0)))))]) (S' := [.int (z_bt (¬ ((y2 - y2 / (10 : Int32) * (10 : Int32)) < 0) ∧ (¬ ((z_iv h a0 6) ≤ (y2 - y2 / (10 : Int32) * (10 : Int32))) ∧ (((y3 >>> ((y2 - y2 / (10 : Int32) * (10 : Int32)) &&& 31)) &&& (1 : Int32)) = 0))))]) (h' := h) rfl ?_
      refine k_b (g := z_bt (¬ ((y2 - y2 / (10 : Int32) * (10 : Int32)) < 0) ∧ (¬ ((z_iv h a0 6) ≤ (y2 - y2 / (10 : Int32) * (10 : Int32))) ∧ (((y3 >>> ((y2 - y2 / (10 : Int32) * (10 : Int32)) &&& 31)) &&& (1 : Int32)) = 0))) = 0) (pc' := 63) (L' := [some (.ref a0), some (.int y1), some (.int (y2 / (10 : Int32))), some (.int y3), some (.int y4), some (.int (y2 - y2 / (10 : Int32) * (10 : Int32))), some (.int (z_bt (¬ ((y2 - y2 / (10 : Int32) * (10 : Int32)) < 0) ∧ (¬ ((z_iv h a0 6) ≤ (y2 - y2 / (10 : Int32) * (10 : Int32))) ∧ (((y3 >>> ((y2 - y2 / (10 : Int32) * (10 : Int32)) &&& 31)) &&& (1 : Int32)) = 0)))))]) (S' := []) (pc2 := 65) (L2 := [some (.ref a0), some (.int y1), some (.int (y2 / (10 : Int32))), some (.int y3), some (.int y4), some (.int (y2 - y2 / (10 : Int32) * (10 : Int32))), some (.int (z_bt (¬ ((y2 - y2 / (10 : Int32) * (10 : Int32)) < 0) ∧ (¬ ((z_iv h a0 6) ≤ (y2 - y2 / (10 : Int32) * (10 : Int32))) ∧ (((y3 >>> ((y2 - y2 / (10 : Int32) * (10 : Int32)) &&& 31)) &&& (1 : Int32)) = 0)))))]) (S2 := []) (h' := h) (h2 := h) rfl rfl (fun hc => ?_) (fun hc => ?_)
      · have hc := z_bt_0.mp hc
        rw [if_neg hc] at H
        refine k_n 1 (pc' := 64) (L' := [some (.ref a0), some (.int y1), some (.int (y2 / (10 : Int32))), some (.int y3), some (.int y4), some (.int (y2 - y2 / (10 : Int32) * (10 : Int32))), some (.int (z_bt (¬ ((y2 - y2 / (10 : Int32) * (10 : Int32)) < 0) ∧ (¬ ((z_iv h a0 6) ≤ (y2 - y2 / (10 : Int32) * (10 : Int32))) ∧ (((y3 >>> ((y2 - y2 / (10 : Int32) * (10 : Int32)) &&& 31)) &&& (1 : Int32)) = 0)))))]) (S' := [.int (0 : Int32)]) (h' := h) rfl ?_
        exact k_r rfl rfl rfl H
      · have hc := Decidable.not_not.mp (fun q => hc (z_bt_0.mpr q))
        rw [if_pos hc] at H
        refine k_n 7 (pc' := 73) (L' := [some (.ref a0), some (.int y1), some (.int (y2 / (10 : Int32))), some (.int (y3 ||| ((1 : Int32) <<< ((y2 - y2 / (10 : Int32) * (10 : Int32)) &&& 31)))), some (.int y4), some (.int (y2 - y2 / (10 : Int32) * (10 : Int32))), some (.int (z_bt (¬ ((y2 - y2 / (10 : Int32) * (10 : Int32)) < 0) ∧ (¬ ((z_iv h a0 6) ≤ (y2 - y2 / (10 : Int32) * (10 : Int32))) ∧ (((y3 >>> ((y2 - y2 / (10 : Int32) * (10 : Int32)) &&& 31)) &&& (1 : Int32)) = 0)))))]) (S' := [.ref a0]) (h' := h) rfl ?_
        refine k_gS (b := (a0 + 2)) rfl Ta0 (W.reOf (t := 6) (j := 3) (o := 2) (n := 6) (by decide) Ta0).1 ?_
        refine k_n 2 (pc' := 80) (L' := [some (.ref a0), some (.int y1), some (.int (y2 / (10 : Int32))), some (.int (y3 ||| ((1 : Int32) <<< ((y2 - y2 / (10 : Int32) * (10 : Int32)) &&& 31)))), some (.int y4), some (.int (y2 - y2 / (10 : Int32) * (10 : Int32))), some (.int (z_bt (¬ ((y2 - y2 / (10 : Int32) * (10 : Int32)) < 0) ∧ (¬ ((z_iv h a0 6) ≤ (y2 - y2 / (10 : Int32) * (10 : Int32))) ∧ (((y3 >>> ((y2 - y2 / (10 : Int32) * (10 : Int32)) &&& 31)) &&& (1 : Int32)) = 0)))))]) (S' := [.int (y2 - y2 / (10 : Int32) * (10 : Int32)), .int y4, .ref (a0 + 2)]) (h' := h) rfl ?_
        obtain ⟨o7, H⟩ := H
        refine k_is (n := 6) rfl (CW.tyOf (t := 6) (t' := 100) W (j := 3) Ta0 (W.reOf (t := 6) (j := 3) (o := 2) (n := 6) (by decide) Ta0).1 (by decide) rfl) (W.reOf (t := 6) (j := 3) (o := 2) (n := 6) (by decide) Ta0).2 o7 ?_
        refine k_n 2 (pc' := 12) (L' := [some (.ref a0), some (.int y1), some (.int (y2 / (10 : Int32))), some (.int (y3 ||| ((1 : Int32) <<< ((y2 - y2 / (10 : Int32) * (10 : Int32)) &&& 31)))), some (.int (y4 + (-1 : Int32))), some (.int (y2 - y2 / (10 : Int32) * (10 : Int32))), some (.int (z_bt (¬ ((y2 - y2 / (10 : Int32) * (10 : Int32)) < 0) ∧ (¬ ((z_iv h a0 6) ≤ (y2 - y2 / (10 : Int32) * (10 : Int32))) ∧ (((y3 >>> ((y2 - y2 / (10 : Int32) * (10 : Int32)) &&& 31)) &&& (1 : Int32)) = 0)))))]) (S' := []) (h' := (z_sI h (a0 + 2) (z_ix y4) (y2 - y2 / (10 : Int32) * (10 : Int32)))) rfl ?_
        exact H
    refine k_b (g := (y2 - y2 / (10 : Int32) * (10 : Int32)) < 0) (pc' := 55) (L' := [some (.ref a0), some (.int y1), some (.int (y2 / (10 : Int32))), some (.int y3), some (.int y4), some (.int (y2 - y2 / (10 : Int32) * (10 : Int32))), u6]) (S' := []) (pc2 := 33) (L2 := [some (.ref a0), some (.int y1), some (.int (y2 / (10 : Int32))), some (.int y3), some (.int y4), some (.int (y2 - y2 / (10 : Int32) * (10 : Int32))), u6]) (S2 := []) (h' := h) (h2 := h) rfl rfl (fun hc => ?_) (fun hc => ?_)
    · have c3 := hc
      refine k_n 1 (pc' := 56) (L' := [some (.ref a0), some (.int y1), some (.int (y2 / (10 : Int32))), some (.int y3), some (.int y4), some (.int (y2 - y2 / (10 : Int32) * (10 : Int32))), u6]) (S' := [.int (0 : Int32)]) (h' := h) rfl ?_
      rw [show z_bt (¬ ((y2 - y2 / (10 : Int32) * (10 : Int32)) < 0) ∧ (¬ ((z_iv h a0 6) ≤ (y2 - y2 / (10 : Int32) * (10 : Int32))) ∧ (((y3 >>> ((y2 - y2 / (10 : Int32) * (10 : Int32)) &&& 31)) &&& (1 : Int32)) = 0))) = 0 from z_bt_0.mpr ((fun q => q.1 c3))] at hj6
      exact hj6
    · have c3 := hc
      refine k_n 2 (pc' := 36) (L' := [some (.ref a0), some (.int y1), some (.int (y2 / (10 : Int32))), some (.int y3), some (.int y4), some (.int (y2 - y2 / (10 : Int32) * (10 : Int32))), u6]) (S' := [.ref a0, .int (y2 - y2 / (10 : Int32) * (10 : Int32))]) (h' := h) rfl ?_
      refine k_gI rfl rfl Ta0 ?_
      refine k_b (g := (z_iv h a0 6) ≤ (y2 - y2 / (10 : Int32) * (10 : Int32))) (pc' := 55) (L' := [some (.ref a0), some (.int y1), some (.int (y2 / (10 : Int32))), some (.int y3), some (.int y4), some (.int (y2 - y2 / (10 : Int32) * (10 : Int32))), u6]) (S' := []) (pc2 := 42) (L2 := [some (.ref a0), some (.int y1), some (.int (y2 / (10 : Int32))), some (.int y3), some (.int y4), some (.int (y2 - y2 / (10 : Int32) * (10 : Int32))), u6]) (S2 := []) (h' := h) (h2 := h) rfl rfl (fun hc => ?_) (fun hc => ?_)
      · have c4 := hc
        refine k_n 1 (pc' := 56) (L' := [some (.ref a0), some (.int y1), some (.int (y2 / (10 : Int32))), some (.int y3), some (.int y4), some (.int (y2 - y2 / (10 : Int32) * (10 : Int32))), u6]) (S' := [.int (0 : Int32)]) (h' := h) rfl ?_
        rw [show z_bt (¬ ((y2 - y2 / (10 : Int32) * (10 : Int32)) < 0) ∧ (¬ ((z_iv h a0 6) ≤ (y2 - y2 / (10 : Int32) * (10 : Int32))) ∧ (((y3 >>> ((y2 - y2 / (10 : Int32) * (10 : Int32)) &&& 31)) &&& (1 : Int32)) = 0))) = 0 from z_bt_0.mpr ((fun q => (fun q => q.1 c4) q.2))] at hj6
        exact hj6
      · have c4 := hc
        refine k_n 5 (pc' := 48) (L' := [some (.ref a0), some (.int y1), some (.int (y2 / (10 : Int32))), some (.int y3), some (.int y4), some (.int (y2 - y2 / (10 : Int32) * (10 : Int32))), u6]) (S' := [.int ((y3 >>> ((y2 - y2 / (10 : Int32) * (10 : Int32)) &&& 31)) &&& (1 : Int32))]) (h' := h) rfl ?_
        refine k_b (g := ((y3 >>> ((y2 - y2 / (10 : Int32) * (10 : Int32)) &&& 31)) &&& (1 : Int32)) = 0) (pc' := 51) (L' := [some (.ref a0), some (.int y1), some (.int (y2 / (10 : Int32))), some (.int y3), some (.int y4), some (.int (y2 - y2 / (10 : Int32) * (10 : Int32))), u6]) (S' := []) (pc2 := 55) (L2 := [some (.ref a0), some (.int y1), some (.int (y2 / (10 : Int32))), some (.int y3), some (.int y4), some (.int (y2 - y2 / (10 : Int32) * (10 : Int32))), u6]) (S2 := []) (h' := h) (h2 := h) rfl rfl (fun hc => ?_) (fun hc => ?_)
        · have c5 := hc
          refine k_n 2 (pc' := 56) (L' := [some (.ref a0), some (.int y1), some (.int (y2 / (10 : Int32))), some (.int y3), some (.int y4), some (.int (y2 - y2 / (10 : Int32) * (10 : Int32))), u6]) (S' := [.int (1 : Int32)]) (h' := h) rfl ?_
          rw [show z_bt (¬ ((y2 - y2 / (10 : Int32) * (10 : Int32)) < 0) ∧ (¬ ((z_iv h a0 6) ≤ (y2 - y2 / (10 : Int32) * (10 : Int32))) ∧ (((y3 >>> ((y2 - y2 / (10 : Int32) * (10 : Int32)) &&& 31)) &&& (1 : Int32)) = 0))) = 1 from z_bt_1.mpr (⟨c3, ⟨c4, c5⟩⟩)] at hj6
          exact hj6
        · have c5 := hc
          refine k_n 1 (pc' := 56) (L' := [some (.ref a0), some (.int y1), some (.int (y2 / (10 : Int32))), some (.int y3), some (.int y4), some (.int (y2 - y2 / (10 : Int32) * (10 : Int32))), u6]) (S' := [.int (0 : Int32)]) (h' := h) rfl ?_
          rw [show z_bt (¬ ((y2 - y2 / (10 : Int32) * (10 : Int32)) < 0) ∧ (¬ ((z_iv h a0 6) ≤ (y2 - y2 / (10 : Int32) * (10 : Int32))) ∧ (((y3 >>> ((y2 - y2 / (10 : Int32) * (10 : Int32)) &&& 31)) &&& (1 : Int32)) = 0))) = 0 from z_bt_0.mpr ((fun q => (fun q => c5 q.2) q.2))] at hj6
          exact hj6
set_option maxRecDepth 20000 in
theorem X_66 (a0 : Nat) (h : zH) (W : CW h) (T0 : z_tg h a0 = 6) {Q : Int32 → zH → Prop} (H : KG z_pI 66 6 [some (.ref a0), some (.int (0 : Int32)), some (.int (0 : Int32)), some (.int (1 : Int32)), none] [] h Q) : KK z_pI 66 [.ref a0] h Q := by
  refine k_K (L := [some (.ref a0), none, none, none, none]) rfl ?_
  refine k_n 6 (pc' := 6) (L' := [some (.ref a0), some (.int (0 : Int32)), some (.int (0 : Int32)), some (.int (1 : Int32)), none]) (S' := []) (h' := h) rfl ?_
  exact H
set_option maxRecDepth 20000 in
theorem X_66_6 (a0 : Nat) (y1 : Int32) (y2 : Int32) (y3 : Int32) (u4 : Option Value) (h : zH) (W : CW h) (Ta0 : z_tg h a0 = 6) {Q : Int32 → zH → Prop} (H : if (z_iv h a0 6) ≤ y3 then (Q y2 h) else (if (6 : Int32) ≤ y3 then (Q y2 h) else ((0 ≤ y3.toInt ∧ y3.toInt < 6) ∧ (((1 : Int32) ≤ y3 ∧ y3 ≤ (5 : Int32)) → 0 ≤ (y3 - (1 : Int32)).toInt ∧ (y3 - (1 : Int32)).toInt < 6) ∧ (((1 : Int32) ≤ y3 ∧ y3 ≤ (5 : Int32)) → 0 ≤ y3.toInt ∧ y3.toInt < 6) ∧ (((1 : Int32) ≤ y3 ∧ y3 ≤ (5 : Int32)) → ((0 : Int32) ≤ (z_iv h (a0 + 2) (z_ix (y3 - (1 : Int32)))) ∧ (z_iv h (a0 + 2) (z_ix (y3 - (1 : Int32)))) ≤ (5 : Int32)) → ((0 : Int32) ≤ (z_iv h (a0 + 2) (z_ix y3)) ∧ (z_iv h (a0 + 2) (z_ix y3)) ≤ (5 : Int32)) → 0 ≤ (((z_iv h (a0 + 2) (z_ix (y3 - (1 : Int32)))) * (6 : Int32)) + (z_iv h (a0 + 2) (z_ix y3))).toInt ∧ (((z_iv h (a0 + 2) (z_ix (y3 - (1 : Int32)))) * (6 : Int32)) + (z_iv h (a0 + 2) (z_ix y3))).toInt < 36) ∧ (((0 : Int32) ≤ (z_iv h (a0 + 2) (z_ix y3)) ∧ (z_iv h (a0 + 2) (z_ix y3)) ≤ (5 : Int32)) → 0 ≤ (z_iv h (a0 + 2) (z_ix y3)).toInt ∧ (z_iv h (a0 + 2) (z_ix y3)).toInt < 6) ∧ (∀ m7 : Int32, m7 = (if (0 : Int32) ≤ (z_iv h (a0 + 2) (z_ix y3)) ∧ (z_iv h (a0 + 2) (z_ix y3)) ≤ (5 : Int32) then ((z_iv h (a0 + 3) (z_ix (z_iv h (a0 + 2) (z_ix y3)))) * (y1 + (if (1 : Int32) ≤ y3 ∧ y3 ≤ (5 : Int32) then (if (0 : Int32) ≤ (z_iv h (a0 + 2) (z_ix (y3 - (1 : Int32)))) ∧ (z_iv h (a0 + 2) (z_ix (y3 - (1 : Int32)))) ≤ (5 : Int32) then (if (0 : Int32) ≤ (z_iv h (a0 + 2) (z_ix y3)) ∧ (z_iv h (a0 + 2) (z_ix y3)) ≤ (5 : Int32) then (z_iv h (a0 + 4) (z_ix (((z_iv h (a0 + 2) (z_ix (y3 - (1 : Int32)))) * (6 : Int32)) + (z_iv h (a0 + 2) (z_ix y3))))) else (0 : Int32)) else (0 : Int32)) else (0 : Int32)))) else (0 : Int32)) → KG z_pI 66 6 [some (.ref a0), some (.int (y1 + (if (1 : Int32) ≤ y3 ∧ y3 ≤ (5 : Int32) then (if (0 : Int32) ≤ (z_iv h (a0 + 2) (z_ix (y3 - (1 : Int32)))) ∧ (z_iv h (a0 + 2) (z_ix (y3 - (1 : Int32)))) ≤ (5 : Int32) then (if (0 : Int32) ≤ (z_iv h (a0 + 2) (z_ix y3)) ∧ (z_iv h (a0 + 2) (z_ix y3)) ≤ (5 : Int32) then (z_iv h (a0 + 4) (z_ix (((z_iv h (a0 + 2) (z_ix (y3 - (1 : Int32)))) * (6 : Int32)) + (z_iv h (a0 + 2) (z_ix y3))))) else (0 : Int32)) else (0 : Int32)) else (0 : Int32)))), some (.int (y2 + m7)), some (.int (y3 + (1 : Int32))), some (.int (z_iv h (a0 + 2) (z_ix y3)))] [] h Q)))) : KG z_pI 66 6 [some (.ref a0), some (.int y1), some (.int y2), some (.int y3), u4] [] h Q := by
  refine k_n 2 (pc' := 8) (L' := [some (.ref a0), some (.int y1), some (.int y2), some (.int y3), u4]) (S' := [.ref a0, .int y3]) (h' := h) rfl ?_
  refine k_gI rfl rfl Ta0 ?_
  refine k_b (g := (z_iv h a0 6) ≤ y3) (pc' := 68) (L' := [some (.ref a0), some (.int y1), some (.int y2), some (.int y3), u4]) (S' := []) (pc2 := 14) (L2 := [some (.ref a0), some (.int y1), some (.int y2), some (.int y3), u4]) (S2 := []) (h' := h) (h2 := h) rfl rfl (fun hc => ?_) (fun hc => ?_)
  · have hc := hc
    rw [if_pos hc] at H
    refine k_n 1 (pc' := 69) (L' := [some (.ref a0), some (.int y1), some (.int y2), some (.int y3), u4]) (S' := [.int y2]) (h' := h) rfl ?_
    exact k_r rfl rfl rfl H
  · have hc := hc
    rw [if_neg hc] at H
    refine k_n 2 (pc' := 17) (L' := [some (.ref a0), some (.int y1), some (.int y2), some (.int y3), u4]) (S' := [.int (6 : Int32), .int y3]) (h' := h) rfl ?_
    refine k_b (g := (6 : Int32) ≤ y3) (pc' := 68) (L' := [some (.ref a0), some (.int y1), some (.int y2), some (.int y3), u4]) (S' := []) (pc2 := 20) (L2 := [some (.ref a0), some (.int y1), some (.int y2), some (.int y3), u4]) (S2 := []) (h' := h) (h2 := h) rfl rfl (fun hc => ?_) (fun hc => ?_)
    · have hc := hc
      rw [if_pos hc] at H
      refine k_n 1 (pc' := 69) (L' := [some (.ref a0), some (.int y1), some (.int y2), some (.int y3), u4]) (S' := [.int y2]) (h' := h) rfl ?_
      exact k_r rfl rfl rfl H
    · have hc := hc
      rw [if_neg hc] at H
      refine k_n 1 (pc' := 21) (L' := [some (.ref a0), some (.int y1), some (.int y2), some (.int y3), u4]) (S' := [.ref a0]) (h' := h) rfl ?_
      refine k_gS (b := (a0 + 2)) rfl Ta0 (W.reOf (t := 6) (j := 3) (o := 2) (n := 6) (by decide) Ta0).1 ?_
      refine k_n 1 (pc' := 25) (L' := [some (.ref a0), some (.int y1), some (.int y2), some (.int y3), u4]) (S' := [.int y3, .ref (a0 + 2)]) (h' := h) rfl ?_
      obtain ⟨o1, H⟩ := H
      refine k_ia (c := 0) (n := 6) rfl (CW.tyOf (t := 6) (t' := 100) W (j := 3) Ta0 (W.reOf (t := 6) (j := 3) (o := 2) (n := 6) (by decide) Ta0).1 (by decide) rfl) (W.reOf (t := 6) (j := 3) (o := 2) (n := 6) (by decide) Ta0).2 o1 ?_
      refine k_n 4 (pc' := 31) (L' := [some (.ref a0), some (.int y1), some (.int y2), some (.int y3), some (.int (z_iv h (a0 + 2) (z_ix y3)))]) (S' := [.int y3, .ref a0, .int y1]) (h' := h) rfl ?_
      refine k_cI 65 2 rfl rfl rfl (A := [.ref a0, .int y3]) rfl rfl (z_rok_ref Ta0) (rest := [.int y1]) rfl (z_tyI rfl rfl) ?_
      obtain ⟨o2, H⟩ := H
      obtain ⟨o3, H⟩ := H
      obtain ⟨o4, H⟩ := H
      refine C_65 a0 y3 h W Ta0 o2 o3 o4 ?_
      refine k_n 6 (pc' := 41) (L' := [some (.ref a0), some (.int (y1 + (if (1 : Int32) ≤ y3 ∧ y3 ≤ (5 : Int32) then (if (0 : Int32) ≤ (z_iv h (a0 + 2) (z_ix (y3 - (1 : Int32)))) ∧ (z_iv h (a0 + 2) (z_ix (y3 - (1 : Int32)))) ≤ (5 : Int32) then (if (0 : Int32) ≤ (z_iv h (a0 + 2) (z_ix y3)) ∧ (z_iv h (a0 + 2) (z_ix y3)) ≤ (5 : Int32) then (z_iv h (a0 + 4) (z_ix (((z_iv h (a0 + 2) (z_ix (y3 - (1 : Int32)))) * (6 : Int32)) + (z_iv h (a0 + 2) (z_ix y3))))) else (0 : Int32)) else (0 : Int32)) else (0 : Int32)))), some (.int y2), some (.int y3), some (.int (z_iv h (a0 + 2) (z_ix y3)))]) (S' := [.int (5 : Int32), .int (0 : Int32), .int (z_iv h (a0 + 2) (z_ix y3)), .int y2]) (h' := h) rfl ?_
      refine k_cI 135 3 rfl rfl rfl (A := [.int (z_iv h (a0 + 2) (z_ix y3)), .int (0 : Int32), .int (5 : Int32)]) rfl rfl rfl (rest := [.int y2]) rfl (z_tyI rfl rfl) ?_
      refine c_within (z_iv h (a0 + 2) (z_ix y3)) (0 : Int32) (5 : Int32) h ?_
      obtain ⟨o6, H⟩ := H
      obtain ⟨m7, em7⟩ : ∃ m : Int32, m = (if (0 : Int32) ≤ (z_iv h (a0 + 2) (z_ix y3)) ∧ (z_iv h (a0 + 2) (z_ix y3)) ≤ (5 : Int32) then ((z_iv h (a0 + 3) (z_ix (z_iv h (a0 + 2) (z_ix y3)))) * (y1 + (if (1 : Int32) ≤ y3 ∧ y3 ≤ (5 : Int32) then (if (0 : Int32) ≤ (z_iv h (a0 + 2) (z_ix (y3 - (1 : Int32)))) ∧ (z_iv h (a0 + 2) (z_ix (y3 - (1 : Int32)))) ≤ (5 : Int32) then (if (0 : Int32) ≤ (z_iv h (a0 + 2) (z_ix y3)) ∧ (z_iv h (a0 + 2) (z_ix y3)) ≤ (5 : Int32) then (z_iv h (a0 + 4) (z_ix (((z_iv h (a0 + 2) (z_ix (y3 - (1 : Int32)))) * (6 : Int32)) + (z_iv h (a0 + 2) (z_ix y3))))) else (0 : Int32)) else (0 : Int32)) else (0 : Int32)))) else (0 : Int32)) := ⟨_, rfl⟩
      have H := H m7 em7
      have hj8 : KG z_pI 66 60 [some (.ref a0), some (.int (y1 + (if (1 : Int32) ≤ y3 ∧ y3 ≤ (5 : Int32) then (if (0 : Int32) ≤ (z_iv h (a0 + 2) (z_ix (y3 - (1 : Int32)))) ∧ (z_iv h (a0 + 2) (z_ix (y3 - (1 : Int32)))) ≤ (5 : Int32) then (if (0 : Int32) ≤ (z_iv h (a0 + 2) (z_ix y3)) ∧ (z_iv h (a0 + 2) (z_ix y3)) ≤ (5 : Int32) then (z_iv h (a0 + 4) (z_ix (((z_iv h (a0 + 2) (z_ix (y3 - (1 : Int32)))) * (6 : Int32)) + (z_iv h (a0 + 2) (z_ix y3))))) else (0 : Int32)) else (0 : Int32)) else (0 : Int32)))), some (.int y2), some (.int y3), some (.int (z_iv h (a0 + 2) (z_ix y3)))] [.int m7, .int y2] h Q := by
        refine k_n 4 (pc' := 6) (L' := [some (.ref a0), some (.int (y1 + (if (1 : Int32) ≤ y3 ∧ y3 ≤ (5 : Int32) then (if (0 : Int32) ≤ (z_iv h (a0 + 2) (z_ix (y3 - (1 : Int32)))) ∧ (z_iv h (a0 + 2) (z_ix (y3 - (1 : Int32)))) ≤ (5 : Int32) then (if (0 : Int32) ≤ (z_iv h (a0 + 2) (z_ix y3)) ∧ (z_iv h (a0 + 2) (z_ix y3)) ≤ (5 : Int32) then (z_iv h (a0 + 4) (z_ix (((z_iv h (a0 + 2) (z_ix (y3 - (1 : Int32)))) * (6 : Int32)) + (z_iv h (a0 + 2) (z_ix y3))))) else (0 : Int32)) else (0 : Int32)) else (0 : Int32)))), some (.int (y2 + m7)), some (.int (y3 + (1 : Int32))), some (.int (z_iv h (a0 + 2) (z_ix y3)))]) (S' := []) (h' := h) rfl ?_
        exact H
      refine k_b (g := z_bt ((0 : Int32) ≤ (z_iv h (a0 + 2) (z_ix y3)) ∧ (z_iv h (a0 + 2) (z_ix y3)) ≤ (5 : Int32)) = 0) (pc' := 59) (L' := [some (.ref a0), some (.int (y1 + (if (1 : Int32) ≤ y3 ∧ y3 ≤ (5 : Int32) then (if (0 : Int32) ≤ (z_iv h (a0 + 2) (z_ix (y3 - (1 : Int32)))) ∧ (z_iv h (a0 + 2) (z_ix (y3 - (1 : Int32)))) ≤ (5 : Int32) then (if (0 : Int32) ≤ (z_iv h (a0 + 2) (z_ix y3)) ∧ (z_iv h (a0 + 2) (z_ix y3)) ≤ (5 : Int32) then (z_iv h (a0 + 4) (z_ix (((z_iv h (a0 + 2) (z_ix (y3 - (1 : Int32)))) * (6 : Int32)) + (z_iv h (a0 + 2) (z_ix y3))))) else (0 : Int32)) else (0 : Int32)) else (0 : Int32)))), some (.int y2), some (.int y3), some (.int (z_iv h (a0 + 2) (z_ix y3)))]) (S' := [.int y2]) (pc2 := 47) (L2 := [some (.ref a0), some (.int (y1 + (if (1 : Int32) ≤ y3 ∧ y3 ≤ (5 : Int32) then (if (0 : Int32) ≤ (z_iv h (a0 + 2) (z_ix (y3 - (1 : Int32)))) ∧ (z_iv h (a0 + 2) (z_ix (y3 - (1 : Int32)))) ≤ (5 : Int32) then (if (0 : Int32) ≤ (z_iv h (a0 + 2) (z_ix y3)) ∧ (z_iv h (a0 + 2) (z_ix y3)) ≤ (5 : Int32) then (z_iv h (a0 + 4) (z_ix (((z_iv h (a0 + 2) (z_ix (y3 - (1 : Int32)))) * (6 : Int32)) + (z_iv h (a0 + 2) (z_ix y3))))) else (0 : Int32)) else (0 : Int32)) else (0 : Int32)))), some (.int y2), some (.int y3), some (.int (z_iv h (a0 + 2) (z_ix y3)))]) (S2 := [.int y2]) (h' := h) (h2 := h) rfl rfl (fun hc => ?_) (fun hc => ?_)
      · have c5 := z_bt_0.mp hc
        refine k_n 1 (pc' := 60) (L' := [some (.ref a0), some (.int (y1 + (if (1 : Int32) ≤ y3 ∧ y3 ≤ (5 : Int32) then (if (0 : Int32) ≤ (z_iv h (a0 + 2) (z_ix (y3 - (1 : Int32)))) ∧ (z_iv h (a0 + 2) (z_ix (y3 - (1 : Int32)))) ≤ (5 : Int32) then (if (0 : Int32) ≤ (z_iv h (a0 + 2) (z_ix y3)) ∧ (z_iv h (a0 + 2) (z_ix y3)) ≤ (5 : Int32) then (z_iv h (a0 + 4) (z_ix (((z_iv h (a0 + 2) (z_ix (y3 - (1 : Int32)))) * (6 : Int32)) + (z_iv h (a0 + 2) (z_ix y3))))) else (0 : Int32)) else (0 : Int32)) else (0 : Int32)))), some (.int y2), some (.int y3), some (.int (z_iv h (a0 + 2) (z_ix y3)))]) (S' := [.int (0 : Int32), .int y2]) (h' := h) rfl ?_
        rw [(em7.trans (by rw [if_neg c5]) : m7 = (0 : Int32))] at hj8
        exact hj8
      · have c5 := Decidable.not_not.mp (fun q => hc (z_bt_0.mpr q))
        refine k_n 1 (pc' := 48) (L' := [some (.ref a0), some (.int (y1 + (if (1 : Int32) ≤ y3 ∧ y3 ≤ (5 : Int32) then (if (0 : Int32) ≤ (z_iv h (a0 + 2) (z_ix (y3 - (1 : Int32)))) ∧ (z_iv h (a0 + 2) (z_ix (y3 - (1 : Int32)))) ≤ (5 : Int32) then (if (0 : Int32) ≤ (z_iv h (a0 + 2) (z_ix y3)) ∧ (z_iv h (a0 + 2) (z_ix y3)) ≤ (5 : Int32) then (z_iv h (a0 + 4) (z_ix (((z_iv h (a0 + 2) (z_ix (y3 - (1 : Int32)))) * (6 : Int32)) + (z_iv h (a0 + 2) (z_ix y3))))) else (0 : Int32)) else (0 : Int32)) else (0 : Int32)))), some (.int y2), some (.int y3), some (.int (z_iv h (a0 + 2) (z_ix y3)))]) (S' := [.ref a0, .int y2]) (h' := h) rfl ?_
        refine k_gS (b := (a0 + 3)) rfl Ta0 (W.reOf (t := 6) (j := 4) (o := 3) (n := 6) (by decide) Ta0).1 ?_
        refine k_n 1 (pc' := 53) (L' := [some (.ref a0), some (.int (y1 + (if (1 : Int32) ≤ y3 ∧ y3 ≤ (5 : Int32) then (if (0 : Int32) ≤ (z_iv h (a0 + 2) (z_ix (y3 - (1 : Int32)))) ∧ (z_iv h (a0 + 2) (z_ix (y3 - (1 : Int32)))) ≤ (5 : Int32) then (if (0 : Int32) ≤ (z_iv h (a0 + 2) (z_ix y3)) ∧ (z_iv h (a0 + 2) (z_ix y3)) ≤ (5 : Int32) then (z_iv h (a0 + 4) (z_ix (((z_iv h (a0 + 2) (z_ix (y3 - (1 : Int32)))) * (6 : Int32)) + (z_iv h (a0 + 2) (z_ix y3))))) else (0 : Int32)) else (0 : Int32)) else (0 : Int32)))), some (.int y2), some (.int y3), some (.int (z_iv h (a0 + 2) (z_ix y3)))]) (S' := [.int (z_iv h (a0 + 2) (z_ix y3)), .ref (a0 + 3), .int y2]) (h' := h) rfl ?_
        refine k_ia (c := 0) (n := 6) rfl (CW.tyOf (t := 6) (t' := 100) W (j := 4) Ta0 (W.reOf (t := 6) (j := 4) (o := 3) (n := 6) (by decide) Ta0).1 (by decide) rfl) (W.reOf (t := 6) (j := 4) (o := 3) (n := 6) (by decide) Ta0).2 (o6 c5) ?_
        refine k_n 3 (pc' := 60) (L' := [some (.ref a0), some (.int (y1 + (if (1 : Int32) ≤ y3 ∧ y3 ≤ (5 : Int32) then (if (0 : Int32) ≤ (z_iv h (a0 + 2) (z_ix (y3 - (1 : Int32)))) ∧ (z_iv h (a0 + 2) (z_ix (y3 - (1 : Int32)))) ≤ (5 : Int32) then (if (0 : Int32) ≤ (z_iv h (a0 + 2) (z_ix y3)) ∧ (z_iv h (a0 + 2) (z_ix y3)) ≤ (5 : Int32) then (z_iv h (a0 + 4) (z_ix (((z_iv h (a0 + 2) (z_ix (y3 - (1 : Int32)))) * (6 : Int32)) + (z_iv h (a0 + 2) (z_ix y3))))) else (0 : Int32)) else (0 : Int32)) else (0 : Int32)))), some (.int y2), some (.int y3), some (.int (z_iv h (a0 + 2) (z_ix y3)))]) (S' := [.int ((z_iv h (a0 + 3) (z_ix (z_iv h (a0 + 2) (z_ix y3)))) * (y1 + (if (1 : Int32) ≤ y3 ∧ y3 ≤ (5 : Int32) then (if (0 : Int32) ≤ (z_iv h (a0 + 2) (z_ix (y3 - (1 : Int32)))) ∧ (z_iv h (a0 + 2) (z_ix (y3 - (1 : Int32)))) ≤ (5 : Int32) then (if (0 : Int32) ≤ (z_iv h (a0 + 2) (z_ix y3)) ∧ (z_iv h (a0 + 2) (z_ix y3)) ≤ (5 : Int32) then (z_iv h (a0 + 4) (z_ix (((z_iv h (a0 + 2) (z_ix (y3 - (1 : Int32)))) * (6 : Int32)) + (z_iv h (a0 + 2) (z_ix y3))))) else (0 : Int32)) else (0 : Int32)) else (0 : Int32)))), .int y2]) (h' := h) rfl ?_
        rw [(em7.trans (by rw [if_pos c5]) : m7 = ((z_iv h (a0 + 3) (z_ix (z_iv h (a0 + 2) (z_ix y3)))) * (y1 + (if (1 : Int32) ≤ y3 ∧ y3 ≤ (5 : Int32) then (if (0 : Int32) ≤ (z_iv h (a0 + 2) (z_ix (y3 - (1 : Int32)))) ∧ (z_iv h (a0 + 2) (z_ix (y3 - (1 : Int32)))) ≤ (5 : Int32) then (if (0 : Int32) ≤ (z_iv h (a0 + 2) (z_ix y3)) ∧ (z_iv h (a0 + 2) (z_ix y3)) ≤ (5 : Int32) then (z_iv h (a0 + 4) (z_ix (((z_iv h (a0 + 2) (z_ix (y3 - (1 : Int32)))) * (6 : Int32)) + (z_iv h (a0 + 2) (z_ix y3))))) else (0 : Int32)) else (0 : Int32)) else (0 : Int32)))))] at hj8
        exact hj8
set_option maxRecDepth 20000 in
theorem X_63 (a0 : Nat) (h : zH) (W : CW h) (T0 : z_tg h a0 = 6) {Q : Int32 → zH → Prop} (H : KG z_pI 63 7 [some (.ref a0), some (.int ((z_iv h a0 6) - (2 : Int32))), none, none, none] [] h Q) : KK z_pI 63 [.ref a0] h Q := by
  refine k_K (L := [some (.ref a0), none, none, none, none]) rfl ?_
  refine k_n 1 (pc' := 1) (L' := [some (.ref a0), none, none, none, none]) (S' := [.ref a0]) (h' := h) rfl ?_
  refine k_gI rfl rfl T0 ?_
  refine k_n 3 (pc' := 7) (L' := [some (.ref a0), some (.int ((z_iv h a0 6) - (2 : Int32))), none, none, none]) (S' := []) (h' := h) rfl ?_
  exact H
set_option maxRecDepth 20000 in
theorem X_63_7 (a0 : Nat) (y1 : Int32) (u2 : Option Value) (u3 : Option Value) (u4 : Option Value) (h : zH) (W : CW h) (Ta0 : z_tg h a0 = 6) {Q : Int32 → zH → Prop} (H : if y1 < (1 : Int32) then (if (1 : Int32) ≤ y1 then (KG z_pI 63 49 [some (.ref a0), some (.int y1), some (.int ((z_iv h a0 6) - (1 : Int32))), u3, u4] [] h Q) else (Q (0 : Int32) h)) else ((0 ≤ y1.toInt ∧ y1.toInt < 6) ∧ (0 ≤ (y1 + (1 : Int32)).toInt ∧ (y1 + (1 : Int32)).toInt < 6) ∧ (if (z_iv h (a0 + 2) (z_ix y1)) ≤ (z_iv h (a0 + 2) (z_ix (y1 + (1 : Int32)))) then (if (1 : Int32) ≤ y1 then (KG z_pI 63 49 [some (.ref a0), some (.int y1), some (.int ((z_iv h a0 6) - (1 : Int32))), u3, u4] [] h Q) else (Q (0 : Int32) h)) else (KG z_pI 63 7 [some (.ref a0), some (.int (y1 + (-1 : Int32))), u2, u3, u4] [] h Q)))) : KG z_pI 63 7 [some (.ref a0), some (.int y1), u2, u3, u4] [] h Q := by
  refine k_n 2 (pc' := 9) (L' := [some (.ref a0), some (.int y1), u2, u3, u4]) (S' := [.int (1 : Int32), .int y1]) (h' := h) rfl ?_
  refine k_b (g := y1 < (1 : Int32)) (pc' := 35) (L' := [some (.ref a0), some (.int y1), u2, u3, u4]) (S' := []) (pc2 := 12) (L2 := [some (.ref a0), some (.int y1), u2, u3, u4]) (S2 := []) (h' := h) (h2 := h) rfl rfl (fun hc => ?_) (fun hc => ?_)
  · have hc := hc
    rw [if_pos hc] at H
    refine k_n 2 (pc' := 37) (L' := [some (.ref a0), some (.int y1), u2, u3, u4]) (S' := [.int (1 : Int32), .int y1]) (h' := h) rfl ?_
    refine k_b (g := (1 : Int32) ≤ y1) (pc' := 42) (L' := [some (.ref a0), some (.int y1), u2, u3, u4]) (S' := []) (pc2 := 40) (L2 := [some (.ref a0), some (.int y1), u2, u3, u4]) (S2 := []) (h' := h) (h2 := h) rfl rfl (fun hc => ?_) (fun hc => ?_)
    · have hc := hc
      rw [if_pos hc] at H
      refine k_n 1 (pc' := 43) (L' := [some (.ref a0), some (.int y1), u2, u3, u4]) (S' := [.ref a0]) (h' := h) rfl ?_
      refine k_gI rfl rfl Ta0 ?_
      refine k_n 3 (pc' := 49) (L' := [some (.ref a0), some (.int y1), some (.int ((z_iv h a0 6) - (1 : Int32))), u3, u4]) (S' := []) (h' := h) rfl ?_
      exact H
    · have hc := hc
      rw [if_neg hc] at H
      refine k_n 1 (pc' := 41) (L' := [some (.ref a0), some (.int y1), u2, u3, u4]) (S' := [.int (0 : Int32)]) (h' := h) rfl ?_
      exact k_r rfl rfl rfl H
  · have hc := hc
    rw [if_neg hc] at H
    refine k_n 1 (pc' := 13) (L' := [some (.ref a0), some (.int y1), u2, u3, u4]) (S' := [.ref a0]) (h' := h) rfl ?_
    refine k_gS (b := (a0 + 2)) rfl Ta0 (W.reOf (t := 6) (j := 3) (o := 2) (n := 6) (by decide) Ta0).1 ?_
    refine k_n 1 (pc' := 17) (L' := [some (.ref a0), some (.int y1), u2, u3, u4]) (S' := [.int y1, .ref (a0 + 2)]) (h' := h) rfl ?_
    obtain ⟨o1, H⟩ := H
    refine k_ia (c := 0) (n := 6) rfl (CW.tyOf (t := 6) (t' := 100) W (j := 3) Ta0 (W.reOf (t := 6) (j := 3) (o := 2) (n := 6) (by decide) Ta0).1 (by decide) rfl) (W.reOf (t := 6) (j := 3) (o := 2) (n := 6) (by decide) Ta0).2 o1 ?_
    refine k_n 1 (pc' := 19) (L' := [some (.ref a0), some (.int y1), u2, u3, u4]) (S' := [.ref a0, .int (z_iv h (a0 + 2) (z_ix y1))]) (h' := h) rfl ?_
    refine k_gS (b := (a0 + 2)) rfl Ta0 (W.reOf (t := 6) (j := 3) (o := 2) (n := 6) (by decide) Ta0).1 ?_
    refine k_n 3 (pc' := 25) (L' := [some (.ref a0), some (.int y1), u2, u3, u4]) (S' := [.int (y1 + (1 : Int32)), .ref (a0 + 2), .int (z_iv h (a0 + 2) (z_ix y1))]) (h' := h) rfl ?_
    obtain ⟨o2, H⟩ := H
    refine k_ia (c := 0) (n := 6) rfl (CW.tyOf (t := 6) (t' := 100) W (j := 3) Ta0 (W.reOf (t := 6) (j := 3) (o := 2) (n := 6) (by decide) Ta0).1 (by decide) rfl) (W.reOf (t := 6) (j := 3) (o := 2) (n := 6) (by decide) Ta0).2 o2 ?_
    refine k_b (g := (z_iv h (a0 + 2) (z_ix y1)) ≤ (z_iv h (a0 + 2) (z_ix (y1 + (1 : Int32))))) (pc' := 35) (L' := [some (.ref a0), some (.int y1), u2, u3, u4]) (S' := []) (pc2 := 29) (L2 := [some (.ref a0), some (.int y1), u2, u3, u4]) (S2 := []) (h' := h) (h2 := h) rfl rfl (fun hc => ?_) (fun hc => ?_)
    · have hc := hc
      rw [if_pos hc] at H
      refine k_n 2 (pc' := 37) (L' := [some (.ref a0), some (.int y1), u2, u3, u4]) (S' := [.int (1 : Int32), .int y1]) (h' := h) rfl ?_
      refine k_b (g := (1 : Int32) ≤ y1) (pc' := 42) (L' := [some (.ref a0), some (.int y1), u2, u3, u4]) (S' := []) (pc2 := 40) (L2 := [some (.ref a0), some (.int y1), u2, u3, u4]) (S2 := []) (h' := h) (h2 := h) rfl rfl (fun hc => ?_) (fun hc => ?_)
      · have hc := hc
        rw [if_pos hc] at H
        refine k_n 1 (pc' := 43) (L' := [some (.ref a0), some (.int y1), u2, u3, u4]) (S' := [.ref a0]) (h' := h) rfl ?_
        refine k_gI rfl rfl Ta0 ?_
        refine k_n 3 (pc' := 49) (L' := [some (.ref a0), some (.int y1), some (.int ((z_iv h a0 6) - (1 : Int32))), u3, u4]) (S' := []) (h' := h) rfl ?_
        exact H
      · have hc := hc
        rw [if_neg hc] at H
        refine k_n 1 (pc' := 41) (L' := [some (.ref a0), some (.int y1), u2, u3, u4]) (S' := [.int (0 : Int32)]) (h' := h) rfl ?_
        exact k_r rfl rfl rfl H
    · have hc := hc
      rw [if_neg hc] at H
      refine k_n 2 (pc' := 7) (L' := [some (.ref a0), some (.int (y1 + (-1 : Int32))), u2, u3, u4]) (S' := []) (h' := h) rfl ?_
      exact H
set_option maxRecDepth 20000 in
theorem X_63_49 (a0 : Nat) (y1 : Int32) (y2 : Int32) (u3 : Option Value) (u4 : Option Value) (h : zH) (W : CW h) (Ta0 : z_tg h a0 = 6) {Q : Int32 → zH → Prop} (H : if y2 ≤ y1 then (if (0 : Int32) ≤ y1 ∧ y1 ≤ (5 : Int32) then (if (0 : Int32) ≤ y2 ∧ y2 ≤ (5 : Int32) then ((0 ≤ y1.toInt ∧ y1.toInt < 6) ∧ (0 ≤ y2.toInt ∧ y2.toInt < 6) ∧ (0 ≤ y1.toInt ∧ y1.toInt < 6) ∧ (0 ≤ y2.toInt ∧ y2.toInt < 6) ∧ KG z_pI 63 93 [some (.ref a0), some (.int y1), some (.int y2), some (.int (y1 + (1 : Int32))), some (.int ((z_iv h a0 6) - (1 : Int32)))] [] (z_sI (z_sI h (a0 + 2) (z_ix y1) (z_iv h (a0 + 2) (z_ix y2))) (a0 + 2) (z_ix y2) (z_iv h (a0 + 2) (z_ix y1))) Q) else (KG z_pI 63 93 [some (.ref a0), some (.int y1), some (.int y2), some (.int (y1 + (1 : Int32))), some (.int ((z_iv h a0 6) - (1 : Int32)))] [] h Q)) else (KG z_pI 63 93 [some (.ref a0), some (.int y1), some (.int y2), some (.int (y1 + (1 : Int32))), some (.int ((z_iv h a0 6) - (1 : Int32)))] [] h Q)) else ((0 ≤ y2.toInt ∧ y2.toInt < 6) ∧ (0 ≤ y1.toInt ∧ y1.toInt < 6) ∧ (if (z_iv h (a0 + 2) (z_ix y1)) ≤ (z_iv h (a0 + 2) (z_ix y2)) then (if (0 : Int32) ≤ y1 ∧ y1 ≤ (5 : Int32) then (if (0 : Int32) ≤ y2 ∧ y2 ≤ (5 : Int32) then ((0 ≤ y1.toInt ∧ y1.toInt < 6) ∧ (0 ≤ y2.toInt ∧ y2.toInt < 6) ∧ (0 ≤ y1.toInt ∧ y1.toInt < 6) ∧ (0 ≤ y2.toInt ∧ y2.toInt < 6) ∧ KG z_pI 63 93 [some (.ref a0), some (.int y1), some (.int y2), some (.int (y1 + (1 : Int32))), some (.int ((z_iv h a0 6) - (1 : Int32)))] [] (z_sI (z_sI h (a0 + 2) (z_ix y1) (z_iv h (a0 + 2) (z_ix y2))) (a0 + 2) (z_ix y2) (z_iv h (a0 + 2) (z_ix y1))) Q) else (KG z_pI 63 93 [some (.ref a0), some (.int y1), some (.int y2), some (.int (y1 + (1 : Int32))), some (.int ((z_iv h a0 6) - (1 : Int32)))] [] h Q)) else (KG z_pI 63 93 [some (.ref a0), some (.int y1), some (.int y2), some (.int (y1 + (1 : Int32))), some (.int ((z_iv h a0 6) - (1 : Int32)))] [] h Q)) else (KG z_pI 63 49 [some (.ref a0), some (.int y1), some (.int (y2 + (-1 : Int32))), u3, u4] [] h Q)))) : KG z_pI 63 49 [some (.ref a0), some (.int y1), some (.int y2), u3, u4] [] h Q := by
  refine k_n 2 (pc' := 51) (L' := [some (.ref a0), some (.int y1), some (.int y2), u3, u4]) (S' := [.int y1, .int y2]) (h' := h) rfl ?_
  refine k_b (g := y2 ≤ y1) (pc' := 75) (L' := [some (.ref a0), some (.int y1), some (.int y2), u3, u4]) (S' := []) (pc2 := 54) (L2 := [some (.ref a0), some (.int y1), some (.int y2), u3, u4]) (S2 := []) (h' := h) (h2 := h) rfl rfl (fun hc => ?_) (fun hc => ?_)
  · have hc := hc
    rw [if_pos hc] at H
    refine k_n 3 (pc' := 78) (L' := [some (.ref a0), some (.int y1), some (.int y2), u3, u4]) (S' := [.int y2, .int y1, .ref a0]) (h' := h) rfl ?_
    refine k_cV 64 3 rfl rfl rfl (A := [.ref a0, .int y1, .int y2]) rfl rfl (z_rok_ref Ta0) (rest := []) rfl rfl ?_
    refine X_64 a0 y1 y2 h W Ta0 ?_
    by_cases c3 : (0 : Int32) ≤ y1 ∧ y1 ≤ (5 : Int32)
    · rw [if_pos c3] at H ⊢
      by_cases c4 : (0 : Int32) ≤ y2 ∧ y2 ≤ (5 : Int32)
      · rw [if_pos c4] at H ⊢
        obtain ⟨o5, H⟩ := H
        refine ⟨o5, ?_⟩
        obtain ⟨o6, H⟩ := H
        refine ⟨o6, ?_⟩
        obtain ⟨o7, H⟩ := H
        refine ⟨o7, ?_⟩
        obtain ⟨o8, H⟩ := H
        refine ⟨o8, ?_⟩
        refine k_n 5 (pc' := 86) (L' := [some (.ref a0), some (.int y1), some (.int y2), some (.int (y1 + (1 : Int32))), u4]) (S' := [.ref a0]) (h' := (z_sI (z_sI h (a0 + 2) (z_ix y1) (z_iv h (a0 + 2) (z_ix y2))) (a0 + 2) (z_ix y2) (z_iv h (a0 + 2) (z_ix y1)))) rfl ?_
        refine k_gV rfl rfl (z_tgI (z_tgI Ta0)) (v_nt (z_tgI Ta0) (CW.tyOf (t := 6) (t' := 100) (CW.sI W) (j := 3) (z_tgI Ta0) ((CW.sI W).reOf (t := 6) (j := 3) (o := 2) (n := 6) (by decide) (z_tgI Ta0)).1 (by decide) rfl) (by decide) (v_nt Ta0 (CW.tyOf (t := 6) (t' := 100) W (j := 3) Ta0 (W.reOf (t := 6) (j := 3) (o := 2) (n := 6) (by decide) Ta0).1 (by decide) rfl) (by decide) rfl)) ?_
        refine k_n 3 (pc' := 93) (L' := [some (.ref a0), some (.int y1), some (.int y2), some (.int (y1 + (1 : Int32))), some (.int ((z_iv h a0 6) - (1 : Int32)))]) (S' := []) (h' := (z_sI (z_sI h (a0 + 2) (z_ix y1) (z_iv h (a0 + 2) (z_ix y2))) (a0 + 2) (z_ix y2) (z_iv h (a0 + 2) (z_ix y1)))) rfl ?_
        exact H
      · rw [if_neg c4] at H ⊢
        refine k_n 5 (pc' := 86) (L' := [some (.ref a0), some (.int y1), some (.int y2), some (.int (y1 + (1 : Int32))), u4]) (S' := [.ref a0]) (h' := h) rfl ?_
        refine k_gI rfl rfl Ta0 ?_
        refine k_n 3 (pc' := 93) (L' := [some (.ref a0), some (.int y1), some (.int y2), some (.int (y1 + (1 : Int32))), some (.int ((z_iv h a0 6) - (1 : Int32)))]) (S' := []) (h' := h) rfl ?_
        exact H
    · rw [if_neg c3] at H ⊢
      refine k_n 5 (pc' := 86) (L' := [some (.ref a0), some (.int y1), some (.int y2), some (.int (y1 + (1 : Int32))), u4]) (S' := [.ref a0]) (h' := h) rfl ?_
      refine k_gI rfl rfl Ta0 ?_
      refine k_n 3 (pc' := 93) (L' := [some (.ref a0), some (.int y1), some (.int y2), some (.int (y1 + (1 : Int32))), some (.int ((z_iv h a0 6) - (1 : Int32)))]) (S' := []) (h' := h) rfl ?_
      exact H
  · have hc := hc
    rw [if_neg hc] at H
    refine k_n 1 (pc' := 55) (L' := [some (.ref a0), some (.int y1), some (.int y2), u3, u4]) (S' := [.ref a0]) (h' := h) rfl ?_
    refine k_gS (b := (a0 + 2)) rfl Ta0 (W.reOf (t := 6) (j := 3) (o := 2) (n := 6) (by decide) Ta0).1 ?_
    refine k_n 1 (pc' := 59) (L' := [some (.ref a0), some (.int y1), some (.int y2), u3, u4]) (S' := [.int y2, .ref (a0 + 2)]) (h' := h) rfl ?_
    obtain ⟨o9, H⟩ := H
    refine k_ia (c := 0) (n := 6) rfl (CW.tyOf (t := 6) (t' := 100) W (j := 3) Ta0 (W.reOf (t := 6) (j := 3) (o := 2) (n := 6) (by decide) Ta0).1 (by decide) rfl) (W.reOf (t := 6) (j := 3) (o := 2) (n := 6) (by decide) Ta0).2 o9 ?_
    refine k_n 1 (pc' := 61) (L' := [some (.ref a0), some (.int y1), some (.int y2), u3, u4]) (S' := [.ref a0, .int (z_iv h (a0 + 2) (z_ix y2))]) (h' := h) rfl ?_
    refine k_gS (b := (a0 + 2)) rfl Ta0 (W.reOf (t := 6) (j := 3) (o := 2) (n := 6) (by decide) Ta0).1 ?_
    refine k_n 1 (pc' := 65) (L' := [some (.ref a0), some (.int y1), some (.int y2), u3, u4]) (S' := [.int y1, .ref (a0 + 2), .int (z_iv h (a0 + 2) (z_ix y2))]) (h' := h) rfl ?_
    obtain ⟨o10, H⟩ := H
    refine k_ia (c := 0) (n := 6) rfl (CW.tyOf (t := 6) (t' := 100) W (j := 3) Ta0 (W.reOf (t := 6) (j := 3) (o := 2) (n := 6) (by decide) Ta0).1 (by decide) rfl) (W.reOf (t := 6) (j := 3) (o := 2) (n := 6) (by decide) Ta0).2 o10 ?_
    refine k_b (g := (z_iv h (a0 + 2) (z_ix y1)) ≤ (z_iv h (a0 + 2) (z_ix y2))) (pc' := 75) (L' := [some (.ref a0), some (.int y1), some (.int y2), u3, u4]) (S' := []) (pc2 := 69) (L2 := [some (.ref a0), some (.int y1), some (.int y2), u3, u4]) (S2 := []) (h' := h) (h2 := h) rfl rfl (fun hc => ?_) (fun hc => ?_)
    · have hc := hc
      rw [if_pos hc] at H
      refine k_n 3 (pc' := 78) (L' := [some (.ref a0), some (.int y1), some (.int y2), u3, u4]) (S' := [.int y2, .int y1, .ref a0]) (h' := h) rfl ?_
      refine k_cV 64 3 rfl rfl rfl (A := [.ref a0, .int y1, .int y2]) rfl rfl (z_rok_ref Ta0) (rest := []) rfl rfl ?_
      refine X_64 a0 y1 y2 h W Ta0 ?_
      by_cases c11 : (0 : Int32) ≤ y1 ∧ y1 ≤ (5 : Int32)
      · rw [if_pos c11] at H ⊢
        by_cases c12 : (0 : Int32) ≤ y2 ∧ y2 ≤ (5 : Int32)
        · rw [if_pos c12] at H ⊢
          obtain ⟨o13, H⟩ := H
          refine ⟨o13, ?_⟩
          obtain ⟨o14, H⟩ := H
          refine ⟨o14, ?_⟩
          obtain ⟨o15, H⟩ := H
          refine ⟨o15, ?_⟩
          obtain ⟨o16, H⟩ := H
          refine ⟨o16, ?_⟩
          refine k_n 5 (pc' := 86) (L' := [some (.ref a0), some (.int y1), some (.int y2), some (.int (y1 + (1 : Int32))), u4]) (S' := [.ref a0]) (h' := (z_sI (z_sI h (a0 + 2) (z_ix y1) (z_iv h (a0 + 2) (z_ix y2))) (a0 + 2) (z_ix y2) (z_iv h (a0 + 2) (z_ix y1)))) rfl ?_
          refine k_gV rfl rfl (z_tgI (z_tgI Ta0)) (v_nt (z_tgI Ta0) (CW.tyOf (t := 6) (t' := 100) (CW.sI W) (j := 3) (z_tgI Ta0) ((CW.sI W).reOf (t := 6) (j := 3) (o := 2) (n := 6) (by decide) (z_tgI Ta0)).1 (by decide) rfl) (by decide) (v_nt Ta0 (CW.tyOf (t := 6) (t' := 100) W (j := 3) Ta0 (W.reOf (t := 6) (j := 3) (o := 2) (n := 6) (by decide) Ta0).1 (by decide) rfl) (by decide) rfl)) ?_
          refine k_n 3 (pc' := 93) (L' := [some (.ref a0), some (.int y1), some (.int y2), some (.int (y1 + (1 : Int32))), some (.int ((z_iv h a0 6) - (1 : Int32)))]) (S' := []) (h' := (z_sI (z_sI h (a0 + 2) (z_ix y1) (z_iv h (a0 + 2) (z_ix y2))) (a0 + 2) (z_ix y2) (z_iv h (a0 + 2) (z_ix y1)))) rfl ?_
          exact H
        · rw [if_neg c12] at H ⊢
          refine k_n 5 (pc' := 86) (L' := [some (.ref a0), some (.int y1), some (.int y2), some (.int (y1 + (1 : Int32))), u4]) (S' := [.ref a0]) (h' := h) rfl ?_
          refine k_gI rfl rfl Ta0 ?_
          refine k_n 3 (pc' := 93) (L' := [some (.ref a0), some (.int y1), some (.int y2), some (.int (y1 + (1 : Int32))), some (.int ((z_iv h a0 6) - (1 : Int32)))]) (S' := []) (h' := h) rfl ?_
          exact H
      · rw [if_neg c11] at H ⊢
        refine k_n 5 (pc' := 86) (L' := [some (.ref a0), some (.int y1), some (.int y2), some (.int (y1 + (1 : Int32))), u4]) (S' := [.ref a0]) (h' := h) rfl ?_
        refine k_gI rfl rfl Ta0 ?_
        refine k_n 3 (pc' := 93) (L' := [some (.ref a0), some (.int y1), some (.int y2), some (.int (y1 + (1 : Int32))), some (.int ((z_iv h a0 6) - (1 : Int32)))]) (S' := []) (h' := h) rfl ?_
        exact H
    · have hc := hc
      rw [if_neg hc] at H
      refine k_n 2 (pc' := 49) (L' := [some (.ref a0), some (.int y1), some (.int (y2 + (-1 : Int32))), u3, u4]) (S' := []) (h' := h) rfl ?_
      exact H
set_option maxRecDepth 20000 in
theorem X_63_93 (a0 : Nat) (y1 : Int32) (y2 : Int32) (y3 : Int32) (y4 : Int32) (h : zH) (W : CW h) (Ta0 : z_tg h a0 = 6) {Q : Int32 → zH → Prop} (H : if y4 ≤ y3 then (Q (1 : Int32) h) else (if (0 : Int32) ≤ y3 ∧ y3 ≤ (5 : Int32) then (if (0 : Int32) ≤ y4 ∧ y4 ≤ (5 : Int32) then ((0 ≤ y3.toInt ∧ y3.toInt < 6) ∧ (0 ≤ y4.toInt ∧ y4.toInt < 6) ∧ (0 ≤ y3.toInt ∧ y3.toInt < 6) ∧ (0 ≤ y4.toInt ∧ y4.toInt < 6) ∧ KG z_pI 63 93 [some (.ref a0), some (.int y1), some (.int y2), some (.int (y3 + (1 : Int32))), some (.int (y4 + (-1 : Int32)))] [] (z_sI (z_sI h (a0 + 2) (z_ix y3) (z_iv h (a0 + 2) (z_ix y4))) (a0 + 2) (z_ix y4) (z_iv h (a0 + 2) (z_ix y3))) Q) else (KG z_pI 63 93 [some (.ref a0), some (.int y1), some (.int y2), some (.int (y3 + (1 : Int32))), some (.int (y4 + (-1 : Int32)))] [] h Q)) else (KG z_pI 63 93 [some (.ref a0), some (.int y1), some (.int y2), some (.int (y3 + (1 : Int32))), some (.int (y4 + (-1 : Int32)))] [] h Q))) : KG z_pI 63 93 [some (.ref a0), some (.int y1), some (.int y2), some (.int y3), some (.int y4)] [] h Q := by
  refine k_n 2 (pc' := 96) (L' := [some (.ref a0), some (.int y1), some (.int y2), some (.int y3), some (.int y4)]) (S' := [.int y4, .int y3]) (h' := h) rfl ?_
  refine k_b (g := y4 ≤ y3) (pc' := 115) (L' := [some (.ref a0), some (.int y1), some (.int y2), some (.int y3), some (.int y4)]) (S' := []) (pc2 := 99) (L2 := [some (.ref a0), some (.int y1), some (.int y2), some (.int y3), some (.int y4)]) (S2 := []) (h' := h) (h2 := h) rfl rfl (fun hc => ?_) (fun hc => ?_)
  · have hc := hc
    rw [if_pos hc] at H
    refine k_n 1 (pc' := 116) (L' := [some (.ref a0), some (.int y1), some (.int y2), some (.int y3), some (.int y4)]) (S' := [.int (1 : Int32)]) (h' := h) rfl ?_
    exact k_r rfl rfl rfl H
  · have hc := hc
    rw [if_neg hc] at H
    refine k_n 3 (pc' := 103) (L' := [some (.ref a0), some (.int y1), some (.int y2), some (.int y3), some (.int y4)]) (S' := [.int y4, .int y3, .ref a0]) (h' := h) rfl ?_
    refine k_cV 64 3 rfl rfl rfl (A := [.ref a0, .int y3, .int y4]) rfl rfl (z_rok_ref Ta0) (rest := []) rfl rfl ?_
    refine X_64 a0 y3 y4 h W Ta0 ?_
    by_cases c17 : (0 : Int32) ≤ y3 ∧ y3 ≤ (5 : Int32)
    · rw [if_pos c17] at H ⊢
      by_cases c18 : (0 : Int32) ≤ y4 ∧ y4 ≤ (5 : Int32)
      · rw [if_pos c18] at H ⊢
        obtain ⟨o19, H⟩ := H
        refine ⟨o19, ?_⟩
        obtain ⟨o20, H⟩ := H
        refine ⟨o20, ?_⟩
        obtain ⟨o21, H⟩ := H
        refine ⟨o21, ?_⟩
        obtain ⟨o22, H⟩ := H
        refine ⟨o22, ?_⟩
        refine k_n 3 (pc' := 93) (L' := [some (.ref a0), some (.int y1), some (.int y2), some (.int (y3 + (1 : Int32))), some (.int (y4 + (-1 : Int32)))]) (S' := []) (h' := (z_sI (z_sI h (a0 + 2) (z_ix y3) (z_iv h (a0 + 2) (z_ix y4))) (a0 + 2) (z_ix y4) (z_iv h (a0 + 2) (z_ix y3)))) rfl ?_
        exact H
      · rw [if_neg c18] at H ⊢
        refine k_n 3 (pc' := 93) (L' := [some (.ref a0), some (.int y1), some (.int y2), some (.int (y3 + (1 : Int32))), some (.int (y4 + (-1 : Int32)))]) (S' := []) (h' := h) rfl ?_
        exact H
    · rw [if_neg c17] at H ⊢
      refine k_n 3 (pc' := 93) (L' := [some (.ref a0), some (.int y1), some (.int y2), some (.int (y3 + (1 : Int32))), some (.int (y4 + (-1 : Int32)))]) (S' := []) (h' := h) rfl ?_
      exact H
set_option maxRecDepth 20000 in
theorem X_100 (x1 : Int32) (x2 : Int32) (x3 : Int32) (h : zH) (W : CW h)  {Q : Int32 → zH → Prop} (H : if (0 : Int32) ≤ x1 ∧ x1 ≤ ((z_iv h 0 12) - (1 : Int32)) then (if (6 : Int32) ≤ x1 then (Q (-1 : Int32) h) else ((0 ≤ x1.toInt ∧ x1.toInt < 6) ∧ ((z_rv h 1 (z_ix x1) = none → Q (-1 : Int32) h) ∧ (∀ b5, z_rv h 1 (z_ix x1) = some b5 → if (0 : Int32) ≤ x2 ∧ x2 ≤ (11 : Int32) then (if (0 : Int32) ≤ x3 ∧ x3 ≤ (999 : Int32) then ((0 ≤ x2.toInt ∧ x2.toInt < 12) ∧ (0 ≤ x2.toInt ∧ x2.toInt < 12) ∧ Q (z_iv h (b5 + 1) (z_ix x2)) (z_sI h (b5 + 1) (z_ix x2) x3)) else (Q (-1 : Int32) h)) else (Q (-1 : Int32) h))))) else (Q (-1 : Int32) h)) : KK z_pI 100 [.ref 0, .int x1, .int x2, .int x3] h Q := by
  refine k_K (L := [some (.ref 0), some (.int x1), some (.int x2), some (.int x3), none, none]) rfl ?_
  refine k_n 2 (pc' := 2) (L' := [some (.ref 0), some (.int x1), some (.int x2), some (.int x3), none, none]) (S' := [.int x1, .ref 0]) (h' := h) rfl ?_
  refine k_cA 148 2 "SavedThird$Mine" rfl rfl rfl (A := [.ref 0, .int x1]) rfl rfl (z_rok_ref W.t0) (rest := []) rfl rfl (by decide) ?_
  refine X_148 x1 h W  ?_
  by_cases c1 : (0 : Int32) ≤ x1 ∧ x1 ≤ ((z_iv h 0 12) - (1 : Int32))
  · rw [if_pos c1] at H ⊢
    by_cases c2 : (6 : Int32) ≤ x1
    · rw [if_pos c2] at H ⊢
      refine k_n 4 (pc' := 30) (L' := [some (.ref 0), some (.int x1), some (.int x2), some (.int x3), some (.null), none]) (S' := [.int (-1 : Int32)]) (h' := h) rfl ?_
      exact k_r rfl rfl rfl H
    · rw [if_neg c2] at H ⊢
      obtain ⟨o3, H⟩ := H
      refine ⟨o3, ?_⟩
      refine ⟨fun hb4 => ?_, fun b5 hb4 => ?_⟩
      · have H := H.1 hb4
        refine k_n 4 (pc' := 30) (L' := [some (.ref 0), some (.int x1), some (.int x2), some (.int x3), some (.null), none]) (S' := [.int (-1 : Int32)]) (h' := h) rfl ?_
        exact k_r rfl rfl rfl H
      · have H := H.2 b5 hb4
        have t6 : z_tg h b5 = 4 := (CW.tyOf (t := 102) (t' := 4) W (CW.tyOf (t := 11) (t' := 102) W (j := 0) W.t0 (W.abOf (t := 11) (j := 0) (o := 1) (n := 6) (by decide) W.t0).1 (by decide) rfl) hb4 (by decide) rfl)
        refine k_n 6 (pc' := 16) (L' := [some (.ref 0), some (.int x1), some (.int x2), some (.int x3), some (.ref b5), none]) (S' := [.int (11 : Int32), .int (0 : Int32), .int x2]) (h' := h) rfl ?_
        refine k_cI 135 3 rfl rfl rfl (A := [.int x2, .int (0 : Int32), .int (11 : Int32)]) rfl rfl rfl (rest := []) rfl (z_tyI rfl rfl) ?_
        refine c_within x2 (0 : Int32) (11 : Int32) h ?_
        refine k_b (g := z_bt ((0 : Int32) ≤ x2 ∧ x2 ≤ (11 : Int32)) = 0) (pc' := 29) (L' := [some (.ref 0), some (.int x1), some (.int x2), some (.int x3), some (.ref b5), none]) (S' := []) (pc2 := 22) (L2 := [some (.ref 0), some (.int x1), some (.int x2), some (.int x3), some (.ref b5), none]) (S2 := []) (h' := h) (h2 := h) rfl rfl (fun hc => ?_) (fun hc => ?_)
        · have hc := z_bt_0.mp hc
          rw [if_neg hc] at H
          refine k_n 1 (pc' := 30) (L' := [some (.ref 0), some (.int x1), some (.int x2), some (.int x3), some (.ref b5), none]) (S' := [.int (-1 : Int32)]) (h' := h) rfl ?_
          exact k_r rfl rfl rfl H
        · have hc := Decidable.not_not.mp (fun q => hc (z_bt_0.mpr q))
          rw [if_pos hc] at H
          refine k_n 1 (pc' := 23) (L' := [some (.ref 0), some (.int x1), some (.int x2), some (.int x3), some (.ref b5), none]) (S' := [.int x3]) (h' := h) rfl ?_
          refine k_cI 140 1 rfl rfl rfl (A := [.int x3]) rfl rfl rfl (rest := []) rfl (z_tyI rfl rfl) ?_
          refine C_140 x3 h    ?_
          refine k_b (g := z_bt ((0 : Int32) ≤ x3 ∧ x3 ≤ (999 : Int32)) = 0) (pc' := 29) (L' := [some (.ref 0), some (.int x1), some (.int x2), some (.int x3), some (.ref b5), none]) (S' := []) (pc2 := 31) (L2 := [some (.ref 0), some (.int x1), some (.int x2), some (.int x3), some (.ref b5), none]) (S2 := []) (h' := h) (h2 := h) rfl rfl (fun hc => ?_) (fun hc => ?_)
          · have hc := z_bt_0.mp hc
            rw [if_neg hc] at H
            refine k_n 1 (pc' := 30) (L' := [some (.ref 0), some (.int x1), some (.int x2), some (.int x3), some (.ref b5), none]) (S' := [.int (-1 : Int32)]) (h' := h) rfl ?_
            exact k_r rfl rfl rfl H
          · have hc := Decidable.not_not.mp (fun q => hc (z_bt_0.mpr q))
            rw [if_pos hc] at H
            refine k_n 1 (pc' := 33) (L' := [some (.ref 0), some (.int x1), some (.int x2), some (.int x3), some (.ref b5), none]) (S' := [.ref b5]) (h' := h) rfl ?_
            refine k_gS (b := (b5 + 1)) rfl t6 (W.reOf (t := 4) (j := 2) (o := 1) (n := 12) (by decide) t6).1 ?_
            refine k_n 1 (pc' := 37) (L' := [some (.ref 0), some (.int x1), some (.int x2), some (.int x3), some (.ref b5), none]) (S' := [.int x2, .ref (b5 + 1)]) (h' := h) rfl ?_
            obtain ⟨o7, H⟩ := H
            refine k_ia (c := 0) (n := 12) rfl (CW.tyOf (t := 4) (t' := 100) W (j := 2) t6 (W.reOf (t := 4) (j := 2) (o := 1) (n := 12) (by decide) t6).1 (by decide) rfl) (W.reOf (t := 4) (j := 2) (o := 1) (n := 12) (by decide) t6).2 o7 ?_
            refine k_n 2 (pc' := 42) (L' := [some (.ref 0), some (.int x1), some (.int x2), some (.int x3), some (.ref b5), some (.int (z_iv h (b5 + 1) (z_ix x2)))]) (S' := [.ref b5]) (h' := h) rfl ?_
            refine k_gS (b := (b5 + 1)) rfl t6 (W.reOf (t := 4) (j := 2) (o := 1) (n := 12) (by decide) t6).1 ?_
            refine k_n 2 (pc' := 47) (L' := [some (.ref 0), some (.int x1), some (.int x2), some (.int x3), some (.ref b5), some (.int (z_iv h (b5 + 1) (z_ix x2)))]) (S' := [.int x3, .int x2, .ref (b5 + 1)]) (h' := h) rfl ?_
            obtain ⟨o8, H⟩ := H
            refine k_is (n := 12) rfl (CW.tyOf (t := 4) (t' := 100) W (j := 2) t6 (W.reOf (t := 4) (j := 2) (o := 1) (n := 12) (by decide) t6).1 (by decide) rfl) (W.reOf (t := 4) (j := 2) (o := 1) (n := 12) (by decide) t6).2 o8 ?_
            refine k_n 1 (pc' := 50) (L' := [some (.ref 0), some (.int x1), some (.int x2), some (.int x3), some (.ref b5), some (.int (z_iv h (b5 + 1) (z_ix x2)))]) (S' := [.int (z_iv h (b5 + 1) (z_ix x2))]) (h' := (z_sI h (b5 + 1) (z_ix x2) x3)) rfl ?_
            exact k_r rfl rfl rfl H
  · rw [if_neg c1] at H ⊢
    refine k_n 4 (pc' := 30) (L' := [some (.ref 0), some (.int x1), some (.int x2), some (.int x3), some (.null), none]) (S' := [.int (-1 : Int32)]) (h' := h) rfl ?_
    exact k_r rfl rfl rfl H
set_option maxRecDepth 20000 in
theorem X_101 (x1 : Int32) (x2 : Int32) (x3 : Int32) (h : zH) (W : CW h)  {Q : Int32 → zH → Prop} (H : if (0 : Int32) ≤ x1 ∧ x1 ≤ ((z_iv h 0 12) - (1 : Int32)) then (if (6 : Int32) ≤ x1 then (Q (-1 : Int32) h) else ((0 ≤ x1.toInt ∧ x1.toInt < 6) ∧ ((z_rv h 1 (z_ix x1) = none → Q (-1 : Int32) h) ∧ (∀ b5, z_rv h 1 (z_ix x1) = some b5 → if x2 = 0 then (if (1 : Int32) ≤ x3 ∧ x3 ≤ (300 : Int32) then (Q (z_iv h b5 5) (z_sI h b5 5 x3)) else (if x2 = (1 : Int32) then (if (1 : Int32) ≤ x3 ∧ x3 ≤ (99 : Int32) then (Q (z_iv h b5 6) (z_sI h b5 6 x3)) else (Q (-1 : Int32) h)) else (Q (-1 : Int32) h))) else (if x2 = (1 : Int32) then (if (1 : Int32) ≤ x3 ∧ x3 ≤ (99 : Int32) then (Q (z_iv h b5 6) (z_sI h b5 6 x3)) else (Q (-1 : Int32) h)) else (Q (-1 : Int32) h)))))) else (Q (-1 : Int32) h)) : KK z_pI 101 [.ref 0, .int x1, .int x2, .int x3] h Q := by
  refine k_K (L := [some (.ref 0), some (.int x1), some (.int x2), some (.int x3), none, none]) rfl ?_
  refine k_n 2 (pc' := 2) (L' := [some (.ref 0), some (.int x1), some (.int x2), some (.int x3), none, none]) (S' := [.int x1, .ref 0]) (h' := h) rfl ?_
  refine k_cA 148 2 "SavedThird$Mine" rfl rfl rfl (A := [.ref 0, .int x1]) rfl rfl (z_rok_ref W.t0) (rest := []) rfl rfl (by decide) ?_
  refine X_148 x1 h W  ?_
  by_cases c1 : (0 : Int32) ≤ x1 ∧ x1 ≤ ((z_iv h 0 12) - (1 : Int32))
  · rw [if_pos c1] at H ⊢
    by_cases c2 : (6 : Int32) ≤ x1
    · rw [if_pos c2] at H ⊢
      refine k_n 4 (pc' := 13) (L' := [some (.ref 0), some (.int x1), some (.int x2), some (.int x3), some (.null), none]) (S' := [.int (-1 : Int32)]) (h' := h) rfl ?_
      exact k_r rfl rfl rfl H
    · rw [if_neg c2] at H ⊢
      obtain ⟨o3, H⟩ := H
      refine ⟨o3, ?_⟩
      refine ⟨fun hb4 => ?_, fun b5 hb4 => ?_⟩
      · have H := H.1 hb4
        refine k_n 4 (pc' := 13) (L' := [some (.ref 0), some (.int x1), some (.int x2), some (.int x3), some (.null), none]) (S' := [.int (-1 : Int32)]) (h' := h) rfl ?_
        exact k_r rfl rfl rfl H
      · have H := H.2 b5 hb4
        have t6 : z_tg h b5 = 4 := (CW.tyOf (t := 102) (t' := 4) W (CW.tyOf (t := 11) (t' := 102) W (j := 0) W.t0 (W.abOf (t := 11) (j := 0) (o := 1) (n := 6) (by decide) W.t0).1 (by decide) rfl) hb4 (by decide) rfl)
        refine k_n 4 (pc' := 15) (L' := [some (.ref 0), some (.int x1), some (.int x2), some (.int x3), some (.ref b5), none]) (S' := [.int x2]) (h' := h) rfl ?_
        refine k_b (g := x2 = 0) (pc' := 18) (L' := [some (.ref 0), some (.int x1), some (.int x2), some (.int x3), some (.ref b5), none]) (S' := []) (pc2 := 41) (L2 := [some (.ref 0), some (.int x1), some (.int x2), some (.int x3), some (.ref b5), none]) (S2 := []) (h' := h) (h2 := h) rfl rfl (fun hc => ?_) (fun hc => ?_)
        · have hc := hc
          rw [if_pos hc] at H
          refine k_n 1 (pc' := 19) (L' := [some (.ref 0), some (.int x1), some (.int x2), some (.int x3), some (.ref b5), none]) (S' := [.int x3]) (h' := h) rfl ?_
          refine k_cI 136 1 rfl rfl rfl (A := [.int x3]) rfl rfl rfl (rest := []) rfl (z_tyI rfl rfl) ?_
          refine C_136 x3 h    ?_
          refine k_b (g := z_bt ((1 : Int32) ≤ x3 ∧ x3 ≤ (300 : Int32)) = 0) (pc' := 41) (L' := [some (.ref 0), some (.int x1), some (.int x2), some (.int x3), some (.ref b5), none]) (S' := []) (pc2 := 25) (L2 := [some (.ref 0), some (.int x1), some (.int x2), some (.int x3), some (.ref b5), none]) (S2 := []) (h' := h) (h2 := h) rfl rfl (fun hc => ?_) (fun hc => ?_)
          · have hc := z_bt_0.mp hc
            rw [if_neg hc] at H
            refine k_n 2 (pc' := 43) (L' := [some (.ref 0), some (.int x1), some (.int x2), some (.int x3), some (.ref b5), none]) (S' := [.int (1 : Int32), .int x2]) (h' := h) rfl ?_
            refine k_b (g := x2 = (1 : Int32)) (pc' := 46) (L' := [some (.ref 0), some (.int x1), some (.int x2), some (.int x3), some (.ref b5), none]) (S' := []) (pc2 := 69) (L2 := [some (.ref 0), some (.int x1), some (.int x2), some (.int x3), some (.ref b5), none]) (S2 := []) (h' := h) (h2 := h) rfl rfl (fun hc => ?_) (fun hc => ?_)
            · have hc := hc
              rw [if_pos hc] at H
              refine k_n 1 (pc' := 47) (L' := [some (.ref 0), some (.int x1), some (.int x2), some (.int x3), some (.ref b5), none]) (S' := [.int x3]) (h' := h) rfl ?_
              refine k_cI 137 1 rfl rfl rfl (A := [.int x3]) rfl rfl rfl (rest := []) rfl (z_tyI rfl rfl) ?_
              refine C_137 x3 h    ?_
              refine k_b (g := z_bt ((1 : Int32) ≤ x3 ∧ x3 ≤ (99 : Int32)) = 0) (pc' := 69) (L' := [some (.ref 0), some (.int x1), some (.int x2), some (.int x3), some (.ref b5), none]) (S' := []) (pc2 := 53) (L2 := [some (.ref 0), some (.int x1), some (.int x2), some (.int x3), some (.ref b5), none]) (S2 := []) (h' := h) (h2 := h) rfl rfl (fun hc => ?_) (fun hc => ?_)
              · have hc := z_bt_0.mp hc
                rw [if_neg hc] at H
                refine k_n 1 (pc' := 70) (L' := [some (.ref 0), some (.int x1), some (.int x2), some (.int x3), some (.ref b5), none]) (S' := [.int (-1 : Int32)]) (h' := h) rfl ?_
                exact k_r rfl rfl rfl H
              · have hc := Decidable.not_not.mp (fun q => hc (z_bt_0.mpr q))
                rw [if_pos hc] at H
                refine k_n 1 (pc' := 55) (L' := [some (.ref 0), some (.int x1), some (.int x2), some (.int x3), some (.ref b5), none]) (S' := [.ref b5]) (h' := h) rfl ?_
                refine k_gI rfl rfl t6 ?_
                refine k_n 3 (pc' := 63) (L' := [some (.ref 0), some (.int x1), some (.int x2), some (.int x3), some (.ref b5), some (.int (z_iv h b5 6))]) (S' := [.int x3, .ref b5]) (h' := h) rfl ?_
                refine k_pI rfl t6 ?_
                refine k_n 1 (pc' := 68) (L' := [some (.ref 0), some (.int x1), some (.int x2), some (.int x3), some (.ref b5), some (.int (z_iv h b5 6))]) (S' := [.int (z_iv h b5 6)]) (h' := (z_sI h b5 6 x3)) rfl ?_
                exact k_r rfl rfl rfl H
            · have hc := hc
              rw [if_neg hc] at H
              refine k_n 1 (pc' := 70) (L' := [some (.ref 0), some (.int x1), some (.int x2), some (.int x3), some (.ref b5), none]) (S' := [.int (-1 : Int32)]) (h' := h) rfl ?_
              exact k_r rfl rfl rfl H
          · have hc := Decidable.not_not.mp (fun q => hc (z_bt_0.mpr q))
            rw [if_pos hc] at H
            refine k_n 1 (pc' := 27) (L' := [some (.ref 0), some (.int x1), some (.int x2), some (.int x3), some (.ref b5), none]) (S' := [.ref b5]) (h' := h) rfl ?_
            refine k_gI rfl rfl t6 ?_
            refine k_n 3 (pc' := 35) (L' := [some (.ref 0), some (.int x1), some (.int x2), some (.int x3), some (.ref b5), some (.int (z_iv h b5 5))]) (S' := [.int x3, .ref b5]) (h' := h) rfl ?_
            refine k_pI rfl t6 ?_
            refine k_n 1 (pc' := 40) (L' := [some (.ref 0), some (.int x1), some (.int x2), some (.int x3), some (.ref b5), some (.int (z_iv h b5 5))]) (S' := [.int (z_iv h b5 5)]) (h' := (z_sI h b5 5 x3)) rfl ?_
            exact k_r rfl rfl rfl H
        · have hc := hc
          rw [if_neg hc] at H
          refine k_n 2 (pc' := 43) (L' := [some (.ref 0), some (.int x1), some (.int x2), some (.int x3), some (.ref b5), none]) (S' := [.int (1 : Int32), .int x2]) (h' := h) rfl ?_
          refine k_b (g := x2 = (1 : Int32)) (pc' := 46) (L' := [some (.ref 0), some (.int x1), some (.int x2), some (.int x3), some (.ref b5), none]) (S' := []) (pc2 := 69) (L2 := [some (.ref 0), some (.int x1), some (.int x2), some (.int x3), some (.ref b5), none]) (S2 := []) (h' := h) (h2 := h) rfl rfl (fun hc => ?_) (fun hc => ?_)
          · have hc := hc
            rw [if_pos hc] at H
            refine k_n 1 (pc' := 47) (L' := [some (.ref 0), some (.int x1), some (.int x2), some (.int x3), some (.ref b5), none]) (S' := [.int x3]) (h' := h) rfl ?_
            refine k_cI 137 1 rfl rfl rfl (A := [.int x3]) rfl rfl rfl (rest := []) rfl (z_tyI rfl rfl) ?_
            refine C_137 x3 h    ?_
            refine k_b (g := z_bt ((1 : Int32) ≤ x3 ∧ x3 ≤ (99 : Int32)) = 0) (pc' := 69) (L' := [some (.ref 0), some (.int x1), some (.int x2), some (.int x3), some (.ref b5), none]) (S' := []) (pc2 := 53) (L2 := [some (.ref 0), some (.int x1), some (.int x2), some (.int x3), some (.ref b5), none]) (S2 := []) (h' := h) (h2 := h) rfl rfl (fun hc => ?_) (fun hc => ?_)
            · have hc := z_bt_0.mp hc
              rw [if_neg hc] at H
              refine k_n 1 (pc' := 70) (L' := [some (.ref 0), some (.int x1), some (.int x2), some (.int x3), some (.ref b5), none]) (S' := [.int (-1 : Int32)]) (h' := h) rfl ?_
              exact k_r rfl rfl rfl H
            · have hc := Decidable.not_not.mp (fun q => hc (z_bt_0.mpr q))
              rw [if_pos hc] at H
              refine k_n 1 (pc' := 55) (L' := [some (.ref 0), some (.int x1), some (.int x2), some (.int x3), some (.ref b5), none]) (S' := [.ref b5]) (h' := h) rfl ?_
              refine k_gI rfl rfl t6 ?_
              refine k_n 3 (pc' := 63) (L' := [some (.ref 0), some (.int x1), some (.int x2), some (.int x3), some (.ref b5), some (.int (z_iv h b5 6))]) (S' := [.int x3, .ref b5]) (h' := h) rfl ?_
              refine k_pI rfl t6 ?_
              refine k_n 1 (pc' := 68) (L' := [some (.ref 0), some (.int x1), some (.int x2), some (.int x3), some (.ref b5), some (.int (z_iv h b5 6))]) (S' := [.int (z_iv h b5 6)]) (h' := (z_sI h b5 6 x3)) rfl ?_
              exact k_r rfl rfl rfl H
          · have hc := hc
            rw [if_neg hc] at H
            refine k_n 1 (pc' := 70) (L' := [some (.ref 0), some (.int x1), some (.int x2), some (.int x3), some (.ref b5), none]) (S' := [.int (-1 : Int32)]) (h' := h) rfl ?_
            exact k_r rfl rfl rfl H
  · rw [if_neg c1] at H ⊢
    refine k_n 4 (pc' := 13) (L' := [some (.ref 0), some (.int x1), some (.int x2), some (.int x3), some (.null), none]) (S' := [.int (-1 : Int32)]) (h' := h) rfl ?_
    exact k_r rfl rfl rfl H
set_option maxRecDepth 20000 in
theorem X_103 (x1 : Int32) (x2 : Int32) (h : zH) (W : CW h)  {Q : Int32 → zH → Prop} (H : if (0 : Int32) ≤ x1 ∧ x1 ≤ ((z_iv h 0 13) - (1 : Int32)) then (if (12 : Int32) ≤ x1 then (Q (-1 : Int32) h) else ((0 ≤ x1.toInt ∧ x1.toInt < 12) ∧ ((z_rv h 2 (z_ix x1) = none → Q (-1 : Int32) h) ∧ (∀ b5, z_rv h 2 (z_ix x1) = some b5 → if x2 = (0 : Int32) then (Q (z_iv h b5 5) h) else (if x2 = (1 : Int32) then (Q (z_iv h b5 0) h) else (if x2 = (2 : Int32) then (Q (z_iv h b5 1) h) else (if x2 = (3 : Int32) then (Q (z_iv h b5 2) h) else (if x2 = (4 : Int32) then (Q (z_iv h b5 3) h) else (if x2 = (5 : Int32) then (Q (z_iv h b5 4) h) else (if x2 = (6 : Int32) then (Q (z_iv h b5 7) h) else (if x2 = (7 : Int32) then (Q (z_iv h b5 8) h) else (if x2 = (8 : Int32) then (Q (z_bt (¬ ((z_iv h b5 9) = 0))) h) else (if x2 = (9 : Int32) then (if (0 : Int32) ≤ (z_iv h b5 5) ∧ (z_iv h b5 5) ≤ ((z_iv h 0 12) - (1 : Int32)) then (if (6 : Int32) ≤ (z_iv h b5 5) then (Q (z_bt (¬ ((0 : Int32) = 0))) h) else ((0 ≤ (z_iv h b5 5).toInt ∧ (z_iv h b5 5).toInt < 6) ∧ ((z_rv h 1 (z_ix (z_iv h b5 5)) = none → Q (z_bt (¬ ((0 : Int32) = 0))) h) ∧ (∀ b21, z_rv h 1 (z_ix (z_iv h b5 5)) = some b21 → (z_rv h b21 10 = none → Q (z_bt (¬ ((0 : Int32) = 0))) h) ∧ (∀ b23, z_rv h b21 10 = some b23 → if (z_iv h b23 10) = 0 then (if b23 = b5 then (Q (z_bt (¬ ((1 : Int32) = 0))) h) else (Q (z_bt (¬ ((0 : Int32) = 0))) h)) else (Q (z_bt (¬ ((0 : Int32) = 0))) h)))))) else (Q (z_bt (¬ ((0 : Int32) = 0))) h)) else (if x2 = (10 : Int32) then (Q (z_bt (¬ ((z_iv h b5 10) = 0))) h) else (if x2 = (11 : Int32) then (Q (z_iv h b5 11) h) else (if x2 = (12 : Int32) then (Q (z_iv h b5 12) h) else (Q (-1 : Int32) h))))))))))))))))) else (Q (-1 : Int32) h)) : KK z_pI 103 [.ref 0, .int x1, .int x2] h Q := by
  refine k_K (L := [some (.ref 0), some (.int x1), some (.int x2), none]) rfl ?_
  refine k_n 2 (pc' := 2) (L' := [some (.ref 0), some (.int x1), some (.int x2), none]) (S' := [.int x1, .ref 0]) (h' := h) rfl ?_
  refine k_cA 149 2 "SavedThird$Engine" rfl rfl rfl (A := [.ref 0, .int x1]) rfl rfl (z_rok_ref W.t0) (rest := []) rfl rfl (by decide) ?_
  refine X_149 x1 h W  ?_
  by_cases c1 : (0 : Int32) ≤ x1 ∧ x1 ≤ ((z_iv h 0 13) - (1 : Int32))
  · rw [if_pos c1] at H ⊢
    by_cases c2 : (12 : Int32) ≤ x1
    · rw [if_pos c2] at H ⊢
      refine k_n 4 (pc' := 11) (L' := [some (.ref 0), some (.int x1), some (.int x2), some (.null)]) (S' := [.int (-1 : Int32)]) (h' := h) rfl ?_
      exact k_r rfl rfl rfl H
    · rw [if_neg c2] at H ⊢
      obtain ⟨o3, H⟩ := H
      refine ⟨o3, ?_⟩
      refine ⟨fun hb4 => ?_, fun b5 hb4 => ?_⟩
      · have H := H.1 hb4
        refine k_n 4 (pc' := 11) (L' := [some (.ref 0), some (.int x1), some (.int x2), some (.null)]) (S' := [.int (-1 : Int32)]) (h' := h) rfl ?_
        exact k_r rfl rfl rfl H
      · have H := H.2 b5 hb4
        have t6 : z_tg h b5 = 3 := (CW.tyOf (t := 103) (t' := 3) W (CW.tyOf (t := 11) (t' := 103) W (j := 1) W.t0 (W.abOf (t := 11) (j := 1) (o := 2) (n := 12) (by decide) W.t0).1 (by decide) rfl) hb4 (by decide) rfl)
        refine k_n 4 (pc' := 13) (L' := [some (.ref 0), some (.int x1), some (.int x2), some (.ref b5)]) (S' := [.int x2]) (h' := h) rfl ?_
        by_cases w7 : x2 = (0 : Int32)
        · rw [if_pos w7] at H
          refine k_sw (pc' := 80) rfl (congrArg (z_tgt 13) (z_swT (k := (0 : Int32)) w7 rfl)) ?_
          refine k_n 1 (pc' := 81) (L' := [some (.ref 0), some (.int x1), some (.int x2), some (.ref b5)]) (S' := [.ref b5]) (h' := h) rfl ?_
          refine k_gI rfl rfl t6 ?_
          exact k_r rfl rfl rfl H
        rw [if_neg w7] at H
        by_cases w8 : x2 = (1 : Int32)
        · rw [if_pos w8] at H
          refine k_sw (pc' := 85) rfl (congrArg (z_tgt 13) (z_swN (k := (0 : Int32)) w7 rfl (z_swT (k := (1 : Int32)) w8 rfl))) ?_
          refine k_n 1 (pc' := 86) (L' := [some (.ref 0), some (.int x1), some (.int x2), some (.ref b5)]) (S' := [.ref b5]) (h' := h) rfl ?_
          refine k_gI rfl rfl t6 ?_
          exact k_r rfl rfl rfl H
        rw [if_neg w8] at H
        by_cases w9 : x2 = (2 : Int32)
        · rw [if_pos w9] at H
          refine k_sw (pc' := 90) rfl (congrArg (z_tgt 13) (z_swN (k := (0 : Int32)) w7 rfl (z_swN (k := (1 : Int32)) w8 rfl (z_swT (k := (2 : Int32)) w9 rfl)))) ?_
          refine k_n 1 (pc' := 91) (L' := [some (.ref 0), some (.int x1), some (.int x2), some (.ref b5)]) (S' := [.ref b5]) (h' := h) rfl ?_
          refine k_gI rfl rfl t6 ?_
          exact k_r rfl rfl rfl H
        rw [if_neg w9] at H
        by_cases w10 : x2 = (3 : Int32)
        · rw [if_pos w10] at H
          refine k_sw (pc' := 95) rfl (congrArg (z_tgt 13) (z_swN (k := (0 : Int32)) w7 rfl (z_swN (k := (1 : Int32)) w8 rfl (z_swN (k := (2 : Int32)) w9 rfl (z_swT (k := (3 : Int32)) w10 rfl))))) ?_
          refine k_n 1 (pc' := 96) (L' := [some (.ref 0), some (.int x1), some (.int x2), some (.ref b5)]) (S' := [.ref b5]) (h' := h) rfl ?_
          refine k_gI rfl rfl t6 ?_
          exact k_r rfl rfl rfl H
        rw [if_neg w10] at H
        by_cases w11 : x2 = (4 : Int32)
        · rw [if_pos w11] at H
          refine k_sw (pc' := 100) rfl (congrArg (z_tgt 13) (z_swN (k := (0 : Int32)) w7 rfl (z_swN (k := (1 : Int32)) w8 rfl (z_swN (k := (2 : Int32)) w9 rfl (z_swN (k := (3 : Int32)) w10 rfl (z_swT (k := (4 : Int32)) w11 rfl)))))) ?_
          refine k_n 1 (pc' := 101) (L' := [some (.ref 0), some (.int x1), some (.int x2), some (.ref b5)]) (S' := [.ref b5]) (h' := h) rfl ?_
          refine k_gI rfl rfl t6 ?_
          exact k_r rfl rfl rfl H
        rw [if_neg w11] at H
        by_cases w12 : x2 = (5 : Int32)
        · rw [if_pos w12] at H
          refine k_sw (pc' := 105) rfl (congrArg (z_tgt 13) (z_swN (k := (0 : Int32)) w7 rfl (z_swN (k := (1 : Int32)) w8 rfl (z_swN (k := (2 : Int32)) w9 rfl (z_swN (k := (3 : Int32)) w10 rfl (z_swN (k := (4 : Int32)) w11 rfl (z_swT (k := (5 : Int32)) w12 rfl))))))) ?_
          refine k_n 1 (pc' := 106) (L' := [some (.ref 0), some (.int x1), some (.int x2), some (.ref b5)]) (S' := [.ref b5]) (h' := h) rfl ?_
          refine k_gI rfl rfl t6 ?_
          exact k_r rfl rfl rfl H
        rw [if_neg w12] at H
        by_cases w13 : x2 = (6 : Int32)
        · rw [if_pos w13] at H
          refine k_sw (pc' := 110) rfl (congrArg (z_tgt 13) (z_swN (k := (0 : Int32)) w7 rfl (z_swN (k := (1 : Int32)) w8 rfl (z_swN (k := (2 : Int32)) w9 rfl (z_swN (k := (3 : Int32)) w10 rfl (z_swN (k := (4 : Int32)) w11 rfl (z_swN (k := (5 : Int32)) w12 rfl (z_swT (k := (6 : Int32)) w13 rfl)))))))) ?_
          refine k_n 1 (pc' := 111) (L' := [some (.ref 0), some (.int x1), some (.int x2), some (.ref b5)]) (S' := [.ref b5]) (h' := h) rfl ?_
          refine k_gI rfl rfl t6 ?_
          exact k_r rfl rfl rfl H
        rw [if_neg w13] at H
        by_cases w14 : x2 = (7 : Int32)
        · rw [if_pos w14] at H
          refine k_sw (pc' := 115) rfl (congrArg (z_tgt 13) (z_swN (k := (0 : Int32)) w7 rfl (z_swN (k := (1 : Int32)) w8 rfl (z_swN (k := (2 : Int32)) w9 rfl (z_swN (k := (3 : Int32)) w10 rfl (z_swN (k := (4 : Int32)) w11 rfl (z_swN (k := (5 : Int32)) w12 rfl (z_swN (k := (6 : Int32)) w13 rfl (z_swT (k := (7 : Int32)) w14 rfl))))))))) ?_
          refine k_n 1 (pc' := 116) (L' := [some (.ref 0), some (.int x1), some (.int x2), some (.ref b5)]) (S' := [.ref b5]) (h' := h) rfl ?_
          refine k_gI rfl rfl t6 ?_
          exact k_r rfl rfl rfl H
        rw [if_neg w14] at H
        by_cases w15 : x2 = (8 : Int32)
        · rw [if_pos w15] at H
          refine k_sw (pc' := 120) rfl (congrArg (z_tgt 13) (z_swN (k := (0 : Int32)) w7 rfl (z_swN (k := (1 : Int32)) w8 rfl (z_swN (k := (2 : Int32)) w9 rfl (z_swN (k := (3 : Int32)) w10 rfl (z_swN (k := (4 : Int32)) w11 rfl (z_swN (k := (5 : Int32)) w12 rfl (z_swN (k := (6 : Int32)) w13 rfl (z_swN (k := (7 : Int32)) w14 rfl (z_swT (k := (8 : Int32)) w15 rfl)))))))))) ?_
          refine k_n 1 (pc' := 121) (L' := [some (.ref 0), some (.int x1), some (.int x2), some (.ref b5)]) (S' := [.ref b5]) (h' := h) rfl ?_
          refine k_gI rfl rfl t6 ?_
          refine k_cI 145 1 rfl rfl rfl (A := [.int (z_iv h b5 9)]) rfl rfl rfl (rest := []) rfl (z_tyI rfl rfl) ?_
          refine C_145 (z_iv h b5 9) h    ?_
          exact k_r rfl rfl rfl H
        rw [if_neg w15] at H
        by_cases w16 : x2 = (9 : Int32)
        · rw [if_pos w16] at H
          refine k_sw (pc' := 128) rfl (congrArg (z_tgt 13) (z_swN (k := (0 : Int32)) w7 rfl (z_swN (k := (1 : Int32)) w8 rfl (z_swN (k := (2 : Int32)) w9 rfl (z_swN (k := (3 : Int32)) w10 rfl (z_swN (k := (4 : Int32)) w11 rfl (z_swN (k := (5 : Int32)) w12 rfl (z_swN (k := (6 : Int32)) w13 rfl (z_swN (k := (7 : Int32)) w14 rfl (z_swN (k := (8 : Int32)) w15 rfl (z_swT (k := (9 : Int32)) w16 rfl))))))))))) ?_
          refine k_n 2 (pc' := 130) (L' := [some (.ref 0), some (.int x1), some (.int x2), some (.ref b5)]) (S' := [.ref b5, .ref 0]) (h' := h) rfl ?_
          refine k_cI 151 2 rfl rfl rfl (A := [.ref 0, .ref b5]) rfl rfl (z_rok_ref W.t0) (rest := []) rfl (z_tyI rfl rfl) ?_
          refine X_151 b5 h W t6 ?_
          by_cases c17 : (0 : Int32) ≤ (z_iv h b5 5) ∧ (z_iv h b5 5) ≤ ((z_iv h 0 12) - (1 : Int32))
          · rw [if_pos c17] at H ⊢
            by_cases c18 : (6 : Int32) ≤ (z_iv h b5 5)
            · rw [if_pos c18] at H ⊢
              refine k_cI 145 1 rfl rfl rfl (A := [.int (0 : Int32)]) rfl rfl rfl (rest := []) rfl (z_tyI rfl rfl) ?_
              refine C_145 (0 : Int32) h    ?_
              exact k_r rfl rfl rfl H
            · rw [if_neg c18] at H ⊢
              obtain ⟨o19, H⟩ := H
              refine ⟨o19, ?_⟩
              refine ⟨fun hb20 => ?_, fun b21 hb20 => ?_⟩
              · have H := H.1 hb20
                refine k_cI 145 1 rfl rfl rfl (A := [.int (0 : Int32)]) rfl rfl rfl (rest := []) rfl (z_tyI rfl rfl) ?_
                refine C_145 (0 : Int32) h    ?_
                exact k_r rfl rfl rfl H
              · have H := H.2 b21 hb20
                refine ⟨fun hb22 => ?_, fun b23 hb22 => ?_⟩
                · have H := H.1 hb22
                  refine k_cI 145 1 rfl rfl rfl (A := [.int (0 : Int32)]) rfl rfl rfl (rest := []) rfl (z_tyI rfl rfl) ?_
                  refine C_145 (0 : Int32) h    ?_
                  exact k_r rfl rfl rfl H
                · have H := H.2 b23 hb22
                  by_cases c24 : (z_iv h b23 10) = 0
                  · rw [if_pos c24] at H ⊢
                    by_cases c25 : b23 = b5
                    · rw [if_pos c25] at H ⊢
                      refine k_cI 145 1 rfl rfl rfl (A := [.int (1 : Int32)]) rfl rfl rfl (rest := []) rfl (z_tyI rfl rfl) ?_
                      refine C_145 (1 : Int32) h    ?_
                      exact k_r rfl rfl rfl H
                    · rw [if_neg c25] at H ⊢
                      refine k_cI 145 1 rfl rfl rfl (A := [.int (0 : Int32)]) rfl rfl rfl (rest := []) rfl (z_tyI rfl rfl) ?_
                      refine C_145 (0 : Int32) h    ?_
                      exact k_r rfl rfl rfl H
                  · rw [if_neg c24] at H ⊢
                    refine k_cI 145 1 rfl rfl rfl (A := [.int (0 : Int32)]) rfl rfl rfl (rest := []) rfl (z_tyI rfl rfl) ?_
                    refine C_145 (0 : Int32) h    ?_
                    exact k_r rfl rfl rfl H
          · rw [if_neg c17] at H ⊢
            refine k_cI 145 1 rfl rfl rfl (A := [.int (0 : Int32)]) rfl rfl rfl (rest := []) rfl (z_tyI rfl rfl) ?_
            refine C_145 (0 : Int32) h    ?_
            exact k_r rfl rfl rfl H
        rw [if_neg w16] at H
        by_cases w26 : x2 = (10 : Int32)
        · rw [if_pos w26] at H
          refine k_sw (pc' := 137) rfl (congrArg (z_tgt 13) (z_swN (k := (0 : Int32)) w7 rfl (z_swN (k := (1 : Int32)) w8 rfl (z_swN (k := (2 : Int32)) w9 rfl (z_swN (k := (3 : Int32)) w10 rfl (z_swN (k := (4 : Int32)) w11 rfl (z_swN (k := (5 : Int32)) w12 rfl (z_swN (k := (6 : Int32)) w13 rfl (z_swN (k := (7 : Int32)) w14 rfl (z_swN (k := (8 : Int32)) w15 rfl (z_swN (k := (9 : Int32)) w16 rfl (z_swT (k := (10 : Int32)) w26 rfl)))))))))))) ?_
          refine k_n 1 (pc' := 138) (L' := [some (.ref 0), some (.int x1), some (.int x2), some (.ref b5)]) (S' := [.ref b5]) (h' := h) rfl ?_
          refine k_gI rfl rfl t6 ?_
          refine k_cI 145 1 rfl rfl rfl (A := [.int (z_iv h b5 10)]) rfl rfl rfl (rest := []) rfl (z_tyI rfl rfl) ?_
          refine C_145 (z_iv h b5 10) h    ?_
          exact k_r rfl rfl rfl H
        rw [if_neg w26] at H
        by_cases w27 : x2 = (11 : Int32)
        · rw [if_pos w27] at H
          refine k_sw (pc' := 145) rfl (congrArg (z_tgt 13) (z_swN (k := (0 : Int32)) w7 rfl (z_swN (k := (1 : Int32)) w8 rfl (z_swN (k := (2 : Int32)) w9 rfl (z_swN (k := (3 : Int32)) w10 rfl (z_swN (k := (4 : Int32)) w11 rfl (z_swN (k := (5 : Int32)) w12 rfl (z_swN (k := (6 : Int32)) w13 rfl (z_swN (k := (7 : Int32)) w14 rfl (z_swN (k := (8 : Int32)) w15 rfl (z_swN (k := (9 : Int32)) w16 rfl (z_swN (k := (10 : Int32)) w26 rfl (z_swT (k := (11 : Int32)) w27 rfl))))))))))))) ?_
          refine k_n 1 (pc' := 146) (L' := [some (.ref 0), some (.int x1), some (.int x2), some (.ref b5)]) (S' := [.ref b5]) (h' := h) rfl ?_
          refine k_gI rfl rfl t6 ?_
          exact k_r rfl rfl rfl H
        rw [if_neg w27] at H
        by_cases w28 : x2 = (12 : Int32)
        · rw [if_pos w28] at H
          refine k_sw (pc' := 150) rfl (congrArg (z_tgt 13) (z_swN (k := (0 : Int32)) w7 rfl (z_swN (k := (1 : Int32)) w8 rfl (z_swN (k := (2 : Int32)) w9 rfl (z_swN (k := (3 : Int32)) w10 rfl (z_swN (k := (4 : Int32)) w11 rfl (z_swN (k := (5 : Int32)) w12 rfl (z_swN (k := (6 : Int32)) w13 rfl (z_swN (k := (7 : Int32)) w14 rfl (z_swN (k := (8 : Int32)) w15 rfl (z_swN (k := (9 : Int32)) w16 rfl (z_swN (k := (10 : Int32)) w26 rfl (z_swN (k := (11 : Int32)) w27 rfl (z_swT (k := (12 : Int32)) w28 rfl)))))))))))))) ?_
          refine k_n 1 (pc' := 151) (L' := [some (.ref 0), some (.int x1), some (.int x2), some (.ref b5)]) (S' := [.ref b5]) (h' := h) rfl ?_
          refine k_gI rfl rfl t6 ?_
          exact k_r rfl rfl rfl H
        rw [if_neg w28] at H
        refine k_sw (pc' := 155) rfl (congrArg (z_tgt 13) (z_swN (k := (0 : Int32)) w7 rfl (z_swN (k := (1 : Int32)) w8 rfl (z_swN (k := (2 : Int32)) w9 rfl (z_swN (k := (3 : Int32)) w10 rfl (z_swN (k := (4 : Int32)) w11 rfl (z_swN (k := (5 : Int32)) w12 rfl (z_swN (k := (6 : Int32)) w13 rfl (z_swN (k := (7 : Int32)) w14 rfl (z_swN (k := (8 : Int32)) w15 rfl (z_swN (k := (9 : Int32)) w16 rfl (z_swN (k := (10 : Int32)) w26 rfl (z_swN (k := (11 : Int32)) w27 rfl (z_swN (k := (12 : Int32)) w28 rfl rfl)))))))))))))) ?_
        refine k_n 1 (pc' := 156) (L' := [some (.ref 0), some (.int x1), some (.int x2), some (.ref b5)]) (S' := [.int (-1 : Int32)]) (h' := h) rfl ?_
        exact k_r rfl rfl rfl H
  · rw [if_neg c1] at H ⊢
    refine k_n 4 (pc' := 11) (L' := [some (.ref 0), some (.int x1), some (.int x2), some (.null)]) (S' := [.int (-1 : Int32)]) (h' := h) rfl ?_
    exact k_r rfl rfl rfl H
set_option maxRecDepth 20000 in
theorem X_104 (x1 : Int32) (x2 : Int32) (h : zH) (W : CW h)  {Q : Int32 → zH → Prop} (H : if (0 : Int32) ≤ x1 ∧ x1 ≤ ((z_iv h 0 13) - (1 : Int32)) then (if (12 : Int32) ≤ x1 then (Q (-1 : Int32) h) else ((0 ≤ x1.toInt ∧ x1.toInt < 12) ∧ ((z_rv h 2 (z_ix x1) = none → Q (-1 : Int32) h) ∧ (∀ b5, z_rv h 2 (z_ix x1) = some b5 → (x2 = 0 ∨ x2 = 1) ∧ Q (z_bt (¬ ((z_iv h b5 9) = 0))) (z_sI h b5 9 x2))))) else (Q (-1 : Int32) h)) : KK z_pI 104 [.ref 0, .int x1, .int x2] h Q := by
  refine k_K (L := [some (.ref 0), some (.int x1), some (.int x2), none, none]) rfl ?_
  refine k_n 2 (pc' := 2) (L' := [some (.ref 0), some (.int x1), some (.int x2), none, none]) (S' := [.int x1, .ref 0]) (h' := h) rfl ?_
  refine k_cA 149 2 "SavedThird$Engine" rfl rfl rfl (A := [.ref 0, .int x1]) rfl rfl (z_rok_ref W.t0) (rest := []) rfl rfl (by decide) ?_
  refine X_149 x1 h W  ?_
  by_cases c1 : (0 : Int32) ≤ x1 ∧ x1 ≤ ((z_iv h 0 13) - (1 : Int32))
  · rw [if_pos c1] at H ⊢
    by_cases c2 : (12 : Int32) ≤ x1
    · rw [if_pos c2] at H ⊢
      refine k_n 4 (pc' := 11) (L' := [some (.ref 0), some (.int x1), some (.int x2), some (.null), none]) (S' := [.int (-1 : Int32)]) (h' := h) rfl ?_
      exact k_r rfl rfl rfl H
    · rw [if_neg c2] at H ⊢
      obtain ⟨o3, H⟩ := H
      refine ⟨o3, ?_⟩
      refine ⟨fun hb4 => ?_, fun b5 hb4 => ?_⟩
      · have H := H.1 hb4
        refine k_n 4 (pc' := 11) (L' := [some (.ref 0), some (.int x1), some (.int x2), some (.null), none]) (S' := [.int (-1 : Int32)]) (h' := h) rfl ?_
        exact k_r rfl rfl rfl H
      · have H := H.2 b5 hb4
        have t6 : z_tg h b5 = 3 := (CW.tyOf (t := 103) (t' := 3) W (CW.tyOf (t := 11) (t' := 103) W (j := 1) W.t0 (W.abOf (t := 11) (j := 1) (o := 2) (n := 12) (by decide) W.t0).1 (by decide) rfl) hb4 (by decide) rfl)
        refine k_n 4 (pc' := 13) (L' := [some (.ref 0), some (.int x1), some (.int x2), some (.ref b5), none]) (S' := [.ref b5]) (h' := h) rfl ?_
        refine k_gI rfl rfl t6 ?_
        refine k_n 3 (pc' := 20) (L' := [some (.ref 0), some (.int x1), some (.int x2), some (.ref b5), some (.int (z_iv h b5 9))]) (S' := [.int x2, .ref b5]) (h' := h) rfl ?_
        obtain ⟨o7, H⟩ := H
        refine k_pZ rfl t6 o7 ?_
        refine k_n 1 (pc' := 25) (L' := [some (.ref 0), some (.int x1), some (.int x2), some (.ref b5), some (.int (z_iv h b5 9))]) (S' := [.int (z_iv h b5 9)]) (h' := (z_sI h b5 9 x2)) rfl ?_
        refine k_cI 145 1 rfl rfl rfl (A := [.int (z_iv h b5 9)]) rfl rfl rfl (rest := []) rfl (z_tyI rfl rfl) ?_
        refine C_145 (z_iv h b5 9) (z_sI h b5 9 x2)    ?_
        exact k_r rfl rfl rfl H
  · rw [if_neg c1] at H ⊢
    refine k_n 4 (pc' := 11) (L' := [some (.ref 0), some (.int x1), some (.int x2), some (.null), none]) (S' := [.int (-1 : Int32)]) (h' := h) rfl ?_
    exact k_r rfl rfl rfl H
set_option maxRecDepth 20000 in
theorem X_105 (x1 : Int32) (h : zH) (W : CW h)  {Q : Int32 → zH → Prop} (H : if (0 : Int32) ≤ x1 ∧ x1 ≤ ((z_iv h 0 13) - (1 : Int32)) then (if (12 : Int32) ≤ x1 then (Q (-1 : Int32) h) else ((0 ≤ x1.toInt ∧ x1.toInt < 12) ∧ ((z_rv h 2 (z_ix x1) = none → Q (-1 : Int32) h) ∧ (∀ b5, z_rv h 2 (z_ix x1) = some b5 → Q (z_iv h b5 7) (z_sI h b5 7 (0 : Int32)))))) else (Q (-1 : Int32) h)) : KK z_pI 105 [.ref 0, .int x1] h Q := by
  refine k_K (L := [some (.ref 0), some (.int x1), none, none]) rfl ?_
  refine k_n 2 (pc' := 2) (L' := [some (.ref 0), some (.int x1), none, none]) (S' := [.int x1, .ref 0]) (h' := h) rfl ?_
  refine k_cA 149 2 "SavedThird$Engine" rfl rfl rfl (A := [.ref 0, .int x1]) rfl rfl (z_rok_ref W.t0) (rest := []) rfl rfl (by decide) ?_
  refine X_149 x1 h W  ?_
  by_cases c1 : (0 : Int32) ≤ x1 ∧ x1 ≤ ((z_iv h 0 13) - (1 : Int32))
  · rw [if_pos c1] at H ⊢
    by_cases c2 : (12 : Int32) ≤ x1
    · rw [if_pos c2] at H ⊢
      refine k_n 4 (pc' := 11) (L' := [some (.ref 0), some (.int x1), some (.null), none]) (S' := [.int (-1 : Int32)]) (h' := h) rfl ?_
      exact k_r rfl rfl rfl H
    · rw [if_neg c2] at H ⊢
      obtain ⟨o3, H⟩ := H
      refine ⟨o3, ?_⟩
      refine ⟨fun hb4 => ?_, fun b5 hb4 => ?_⟩
      · have H := H.1 hb4
        refine k_n 4 (pc' := 11) (L' := [some (.ref 0), some (.int x1), some (.null), none]) (S' := [.int (-1 : Int32)]) (h' := h) rfl ?_
        exact k_r rfl rfl rfl H
      · have H := H.2 b5 hb4
        have t6 : z_tg h b5 = 3 := (CW.tyOf (t := 103) (t' := 3) W (CW.tyOf (t := 11) (t' := 103) W (j := 1) W.t0 (W.abOf (t := 11) (j := 1) (o := 2) (n := 12) (by decide) W.t0).1 (by decide) rfl) hb4 (by decide) rfl)
        refine k_n 4 (pc' := 13) (L' := [some (.ref 0), some (.int x1), some (.ref b5), none]) (S' := [.ref b5]) (h' := h) rfl ?_
        refine k_gI rfl rfl t6 ?_
        refine k_n 3 (pc' := 19) (L' := [some (.ref 0), some (.int x1), some (.ref b5), some (.int (z_iv h b5 7))]) (S' := [.int (0 : Int32), .ref b5]) (h' := h) rfl ?_
        refine k_pI rfl t6 ?_
        refine k_n 1 (pc' := 23) (L' := [some (.ref 0), some (.int x1), some (.ref b5), some (.int (z_iv h b5 7))]) (S' := [.int (z_iv h b5 7)]) (h' := (z_sI h b5 7 (0 : Int32))) rfl ?_
        exact k_r rfl rfl rfl H
  · rw [if_neg c1] at H ⊢
    refine k_n 4 (pc' := 11) (L' := [some (.ref 0), some (.int x1), some (.null), none]) (S' := [.int (-1 : Int32)]) (h' := h) rfl ?_
    exact k_r rfl rfl rfl H
set_option maxRecDepth 20000 in
theorem X_107 (x1 : Int32) (x2 : Int32) (x3 : Int32) (h : zH) (W : CW h)  {Q : Int32 → zH → Prop} (H : if (0 : Int32) ≤ x1 ∧ x1 ≤ ((z_iv h 0 12) - (1 : Int32)) then (if (6 : Int32) ≤ x1 then (Q (-1 : Int32) h) else ((0 ≤ x1.toInt ∧ x1.toInt < 6) ∧ ((z_rv h 1 (z_ix x1) = none → Q (-1 : Int32) h) ∧ (∀ b5, z_rv h 1 (z_ix x1) = some b5 → if (0 : Int32) ≤ x2 ∧ x2 ≤ ((z_iv h 0 11) - (1 : Int32)) then (if (0 : Int32) ≤ x3 ∧ x3 ≤ (5 : Int32) then ((((0 : Int32) ≤ x2 ∧ x2 ≤ (59 : Int32)) → ((0 : Int32) ≤ x3 ∧ x3 ≤ (5 : Int32)) → 0 ≤ ((x3 * (60 : Int32)) + x2).toInt ∧ ((x3 * (60 : Int32)) + x2).toInt < 360) ∧ Q (if (0 : Int32) ≤ x2 ∧ x2 ≤ (59 : Int32) then (if (0 : Int32) ≤ x3 ∧ x3 ≤ (5 : Int32) then (z_iv h (b5 + 3) (z_ix ((x3 * (60 : Int32)) + x2))) else (0 : Int32)) else (0 : Int32)) h) else (Q (-1 : Int32) h)) else (Q (-1 : Int32) h))))) else (Q (-1 : Int32) h)) : KK z_pI 107 [.ref 0, .int x1, .int x2, .int x3] h Q := by
  refine k_K (L := [some (.ref 0), some (.int x1), some (.int x2), some (.int x3), none]) rfl ?_
  refine k_n 2 (pc' := 2) (L' := [some (.ref 0), some (.int x1), some (.int x2), some (.int x3), none]) (S' := [.int x1, .ref 0]) (h' := h) rfl ?_
  refine k_cA 148 2 "SavedThird$Mine" rfl rfl rfl (A := [.ref 0, .int x1]) rfl rfl (z_rok_ref W.t0) (rest := []) rfl rfl (by decide) ?_
  refine X_148 x1 h W  ?_
  by_cases c1 : (0 : Int32) ≤ x1 ∧ x1 ≤ ((z_iv h 0 12) - (1 : Int32))
  · rw [if_pos c1] at H ⊢
    by_cases c2 : (6 : Int32) ≤ x1
    · rw [if_pos c2] at H ⊢
      refine k_n 4 (pc' := 36) (L' := [some (.ref 0), some (.int x1), some (.int x2), some (.int x3), some (.null)]) (S' := [.int (-1 : Int32)]) (h' := h) rfl ?_
      exact k_r rfl rfl rfl H
    · rw [if_neg c2] at H ⊢
      obtain ⟨o3, H⟩ := H
      refine ⟨o3, ?_⟩
      refine ⟨fun hb4 => ?_, fun b5 hb4 => ?_⟩
      · have H := H.1 hb4
        refine k_n 4 (pc' := 36) (L' := [some (.ref 0), some (.int x1), some (.int x2), some (.int x3), some (.null)]) (S' := [.int (-1 : Int32)]) (h' := h) rfl ?_
        exact k_r rfl rfl rfl H
      · have H := H.2 b5 hb4
        have t6 : z_tg h b5 = 4 := (CW.tyOf (t := 102) (t' := 4) W (CW.tyOf (t := 11) (t' := 102) W (j := 0) W.t0 (W.abOf (t := 11) (j := 0) (o := 1) (n := 6) (by decide) W.t0).1 (by decide) rfl) hb4 (by decide) rfl)
        refine k_n 6 (pc' := 15) (L' := [some (.ref 0), some (.int x1), some (.int x2), some (.int x3), some (.ref b5)]) (S' := [.ref 0, .int (0 : Int32), .int x2]) (h' := h) rfl ?_
        refine k_gI rfl rfl W.t0 ?_
        refine k_n 2 (pc' := 20) (L' := [some (.ref 0), some (.int x1), some (.int x2), some (.int x3), some (.ref b5)]) (S' := [.int ((z_iv h 0 11) - (1 : Int32)), .int (0 : Int32), .int x2]) (h' := h) rfl ?_
        refine k_cI 135 3 rfl rfl rfl (A := [.int x2, .int (0 : Int32), .int ((z_iv h 0 11) - (1 : Int32))]) rfl rfl rfl (rest := []) rfl (z_tyI rfl rfl) ?_
        refine c_within x2 (0 : Int32) ((z_iv h 0 11) - (1 : Int32)) h ?_
        refine k_b (g := z_bt ((0 : Int32) ≤ x2 ∧ x2 ≤ ((z_iv h 0 11) - (1 : Int32))) = 0) (pc' := 35) (L' := [some (.ref 0), some (.int x1), some (.int x2), some (.int x3), some (.ref b5)]) (S' := []) (pc2 := 26) (L2 := [some (.ref 0), some (.int x1), some (.int x2), some (.int x3), some (.ref b5)]) (S2 := []) (h' := h) (h2 := h) rfl rfl (fun hc => ?_) (fun hc => ?_)
        · have hc := z_bt_0.mp hc
          rw [if_neg hc] at H
          refine k_n 1 (pc' := 36) (L' := [some (.ref 0), some (.int x1), some (.int x2), some (.int x3), some (.ref b5)]) (S' := [.int (-1 : Int32)]) (h' := h) rfl ?_
          exact k_r rfl rfl rfl H
        · have hc := Decidable.not_not.mp (fun q => hc (z_bt_0.mpr q))
          rw [if_pos hc] at H
          refine k_n 3 (pc' := 29) (L' := [some (.ref 0), some (.int x1), some (.int x2), some (.int x3), some (.ref b5)]) (S' := [.int (5 : Int32), .int (0 : Int32), .int x3]) (h' := h) rfl ?_
          refine k_cI 135 3 rfl rfl rfl (A := [.int x3, .int (0 : Int32), .int (5 : Int32)]) rfl rfl rfl (rest := []) rfl (z_tyI rfl rfl) ?_
          refine c_within x3 (0 : Int32) (5 : Int32) h ?_
          refine k_b (g := z_bt ((0 : Int32) ≤ x3 ∧ x3 ≤ (5 : Int32)) = 0) (pc' := 35) (L' := [some (.ref 0), some (.int x1), some (.int x2), some (.int x3), some (.ref b5)]) (S' := []) (pc2 := 37) (L2 := [some (.ref 0), some (.int x1), some (.int x2), some (.int x3), some (.ref b5)]) (S2 := []) (h' := h) (h2 := h) rfl rfl (fun hc => ?_) (fun hc => ?_)
          · have hc := z_bt_0.mp hc
            rw [if_neg hc] at H
            refine k_n 1 (pc' := 36) (L' := [some (.ref 0), some (.int x1), some (.int x2), some (.int x3), some (.ref b5)]) (S' := [.int (-1 : Int32)]) (h' := h) rfl ?_
            exact k_r rfl rfl rfl H
          · have hc := Decidable.not_not.mp (fun q => hc (z_bt_0.mpr q))
            rw [if_pos hc] at H
            refine k_n 3 (pc' := 41) (L' := [some (.ref 0), some (.int x1), some (.int x2), some (.int x3), some (.ref b5)]) (S' := [.int x3, .int x2, .ref b5]) (h' := h) rfl ?_
            refine k_cI 49 3 rfl rfl rfl (A := [.ref b5, .int x2, .int x3]) rfl rfl (z_rok_ref t6) (rest := []) rfl (z_tyI rfl rfl) ?_
            obtain ⟨o7, H⟩ := H
            refine C_49 b5 x2 x3 h W t6 o7 ?_
            exact k_r rfl rfl rfl H
  · rw [if_neg c1] at H ⊢
    refine k_n 4 (pc' := 36) (L' := [some (.ref 0), some (.int x1), some (.int x2), some (.int x3), some (.null)]) (S' := [.int (-1 : Int32)]) (h' := h) rfl ?_
    exact k_r rfl rfl rfl H
set_option maxRecDepth 20000 in
theorem X_109 (x1 : Int32) (x2 : Int32) (x3 : Int32) (x4 : Int32) (h : zH) (W : CW h)  {Q : Int32 → zH → Prop} (H : if (0 : Int32) ≤ x1 ∧ x1 ≤ ((z_iv h 0 12) - (1 : Int32)) then (if (6 : Int32) ≤ x1 then (Q (-1 : Int32) h) else ((0 ≤ x1.toInt ∧ x1.toInt < 6) ∧ ((z_rv h 1 (z_ix x1) = none → Q (-1 : Int32) h) ∧ (∀ b5, z_rv h 1 (z_ix x1) = some b5 → if (1 : Int32) ≤ x2 ∧ x2 ≤ (9999 : Int32) then (if (1 : Int32) ≤ x3 ∧ x3 ≤ (99 : Int32) then (if (1 : Int32) ≤ x4 ∧ x4 ≤ (9999 : Int32) then ((z_rv (z_sR (z_sI (z_sI (z_sI (z_sI (z_nw h 10 0 4) (z_nx h) 0 x2) (z_nx h) 1 x3) (z_nx h) 2 x4) (z_nx h) 3 (z_iv h b5 5)) b5 9 (some (z_nx h))) b5 9 = none → False) ∧ (∀ b12, z_rv (z_sR (z_sI (z_sI (z_sI (z_sI (z_nw h 10 0 4) (z_nx h) 0 x2) (z_nx h) 1 x3) (z_nx h) 2 x4) (z_nx h) 3 (z_iv h b5 5)) b5 9 (some (z_nx h))) b5 9 = some b12 → Q ((if (s_dn (((1000 : Int32).toInt64 * x3.toInt64) * (z_iv (z_sR (z_sI (z_sI (z_sI (z_sI (z_nw h 10 0 4) (z_nx h) 0 x2) (z_nx h) 1 x3) (z_nx h) 2 x4) (z_nx h) 3 (z_iv h b5 5)) b5 9 (some (z_nx h))) b12 2).toInt64) ((z_iv (z_sR (z_sI (z_sI (z_sI (z_sI (z_nw h 10 0 4) (z_nx h) 0 x2) (z_nx h) 1 x3) (z_nx h) 2 x4) (z_nx h) 3 (z_iv h b5 5)) b5 9 (some (z_nx h))) b12 0).toInt64 * (z_iv (z_sR (z_sI (z_sI (z_sI (z_sI (z_nw h 10 0 4) (z_nx h) 0 x2) (z_nx h) 1 x3) (z_nx h) 2 x4) (z_nx h) 3 (z_iv h b5 5)) b5 9 (some (z_nx h))) b12 1).toInt64)) < (100000 : Int64) then (s_dn (((1000 : Int32).toInt64 * x3.toInt64) * (z_iv (z_sR (z_sI (z_sI (z_sI (z_sI (z_nw h 10 0 4) (z_nx h) 0 x2) (z_nx h) 1 x3) (z_nx h) 2 x4) (z_nx h) 3 (z_iv h b5 5)) b5 9 (some (z_nx h))) b12 2).toInt64) ((z_iv (z_sR (z_sI (z_sI (z_sI (z_sI (z_nw h 10 0 4) (z_nx h) 0 x2) (z_nx h) 1 x3) (z_nx h) 2 x4) (z_nx h) 3 (z_iv h b5 5)) b5 9 (some (z_nx h))) b12 0).toInt64 * (z_iv (z_sR (z_sI (z_sI (z_sI (z_sI (z_nw h 10 0 4) (z_nx h) 0 x2) (z_nx h) 1 x3) (z_nx h) 2 x4) (z_nx h) 3 (z_iv h b5 5)) b5 9 (some (z_nx h))) b12 1).toInt64)) else (100000 : Int64)).toInt32) (z_sR (z_sI (z_sI (z_sI (z_sI (z_nw h 10 0 4) (z_nx h) 0 x2) (z_nx h) 1 x3) (z_nx h) 2 x4) (z_nx h) 3 (z_iv h b5 5)) b5 9 (some (z_nx h))))) else (Q (-1 : Int32) h)) else (Q (-1 : Int32) h)) else (Q (-1 : Int32) h))))) else (Q (-1 : Int32) h)) : KK z_pI 109 [.ref 0, .int x1, .int x2, .int x3, .int x4] h Q := by
  refine k_K (L := [some (.ref 0), some (.int x1), some (.int x2), some (.int x3), some (.int x4), none]) rfl ?_
  refine k_n 2 (pc' := 2) (L' := [some (.ref 0), some (.int x1), some (.int x2), some (.int x3), some (.int x4), none]) (S' := [.int x1, .ref 0]) (h' := h) rfl ?_
  refine k_cA 148 2 "SavedThird$Mine" rfl rfl rfl (A := [.ref 0, .int x1]) rfl rfl (z_rok_ref W.t0) (rest := []) rfl rfl (by decide) ?_
  refine X_148 x1 h W  ?_
  by_cases c1 : (0 : Int32) ≤ x1 ∧ x1 ≤ ((z_iv h 0 12) - (1 : Int32))
  · rw [if_pos c1] at H ⊢
    by_cases c2 : (6 : Int32) ≤ x1
    · rw [if_pos c2] at H ⊢
      refine k_n 4 (pc' := 35) (L' := [some (.ref 0), some (.int x1), some (.int x2), some (.int x3), some (.int x4), some (.null)]) (S' := [.int (-1 : Int32)]) (h' := h) rfl ?_
      exact k_r rfl rfl rfl H
    · rw [if_neg c2] at H ⊢
      obtain ⟨o3, H⟩ := H
      refine ⟨o3, ?_⟩
      refine ⟨fun hb4 => ?_, fun b5 hb4 => ?_⟩
      · have H := H.1 hb4
        refine k_n 4 (pc' := 35) (L' := [some (.ref 0), some (.int x1), some (.int x2), some (.int x3), some (.int x4), some (.null)]) (S' := [.int (-1 : Int32)]) (h' := h) rfl ?_
        exact k_r rfl rfl rfl H
      · have H := H.2 b5 hb4
        have t6 : z_tg h b5 = 4 := (CW.tyOf (t := 102) (t' := 4) W (CW.tyOf (t := 11) (t' := 102) W (j := 0) W.t0 (W.abOf (t := 11) (j := 0) (o := 1) (n := 6) (by decide) W.t0).1 (by decide) rfl) hb4 (by decide) rfl)
        refine k_n 4 (pc' := 13) (L' := [some (.ref 0), some (.int x1), some (.int x2), some (.int x3), some (.int x4), some (.ref b5)]) (S' := [.int x2]) (h' := h) rfl ?_
        refine k_cI 139 1 rfl rfl rfl (A := [.int x2]) rfl rfl rfl (rest := []) rfl (z_tyI rfl rfl) ?_
        refine C_139 x2 h    ?_
        refine k_b (g := z_bt ((1 : Int32) ≤ x2 ∧ x2 ≤ (9999 : Int32)) = 0) (pc' := 34) (L' := [some (.ref 0), some (.int x1), some (.int x2), some (.int x3), some (.int x4), some (.ref b5)]) (S' := []) (pc2 := 19) (L2 := [some (.ref 0), some (.int x1), some (.int x2), some (.int x3), some (.int x4), some (.ref b5)]) (S2 := []) (h' := h) (h2 := h) rfl rfl (fun hc => ?_) (fun hc => ?_)
        · have hc := z_bt_0.mp hc
          rw [if_neg hc] at H
          refine k_n 1 (pc' := 35) (L' := [some (.ref 0), some (.int x1), some (.int x2), some (.int x3), some (.int x4), some (.ref b5)]) (S' := [.int (-1 : Int32)]) (h' := h) rfl ?_
          exact k_r rfl rfl rfl H
        · have hc := Decidable.not_not.mp (fun q => hc (z_bt_0.mpr q))
          rw [if_pos hc] at H
          refine k_n 1 (pc' := 20) (L' := [some (.ref 0), some (.int x1), some (.int x2), some (.int x3), some (.int x4), some (.ref b5)]) (S' := [.int x3]) (h' := h) rfl ?_
          refine k_cI 138 1 rfl rfl rfl (A := [.int x3]) rfl rfl rfl (rest := []) rfl (z_tyI rfl rfl) ?_
          refine C_138 x3 h    ?_
          refine k_b (g := z_bt ((1 : Int32) ≤ x3 ∧ x3 ≤ (99 : Int32)) = 0) (pc' := 34) (L' := [some (.ref 0), some (.int x1), some (.int x2), some (.int x3), some (.int x4), some (.ref b5)]) (S' := []) (pc2 := 26) (L2 := [some (.ref 0), some (.int x1), some (.int x2), some (.int x3), some (.int x4), some (.ref b5)]) (S2 := []) (h' := h) (h2 := h) rfl rfl (fun hc => ?_) (fun hc => ?_)
          · have hc := z_bt_0.mp hc
            rw [if_neg hc] at H
            refine k_n 1 (pc' := 35) (L' := [some (.ref 0), some (.int x1), some (.int x2), some (.int x3), some (.int x4), some (.ref b5)]) (S' := [.int (-1 : Int32)]) (h' := h) rfl ?_
            exact k_r rfl rfl rfl H
          · have hc := Decidable.not_not.mp (fun q => hc (z_bt_0.mpr q))
            rw [if_pos hc] at H
            refine k_n 1 (pc' := 28) (L' := [some (.ref 0), some (.int x1), some (.int x2), some (.int x3), some (.int x4), some (.ref b5)]) (S' := [.int x4]) (h' := h) rfl ?_
            refine k_cI 139 1 rfl rfl rfl (A := [.int x4]) rfl rfl rfl (rest := []) rfl (z_tyI rfl rfl) ?_
            refine C_139 x4 h    ?_
            refine k_b (g := z_bt ((1 : Int32) ≤ x4 ∧ x4 ≤ (9999 : Int32)) = 0) (pc' := 34) (L' := [some (.ref 0), some (.int x1), some (.int x2), some (.int x3), some (.int x4), some (.ref b5)]) (S' := []) (pc2 := 36) (L2 := [some (.ref 0), some (.int x1), some (.int x2), some (.int x3), some (.int x4), some (.ref b5)]) (S2 := []) (h' := h) (h2 := h) rfl rfl (fun hc => ?_) (fun hc => ?_)
            · have hc := z_bt_0.mp hc
              rw [if_neg hc] at H
              refine k_n 1 (pc' := 35) (L' := [some (.ref 0), some (.int x1), some (.int x2), some (.int x3), some (.int x4), some (.ref b5)]) (S' := [.int (-1 : Int32)]) (h' := h) rfl ?_
              exact k_r rfl rfl rfl H
            · have hc := Decidable.not_not.mp (fun q => hc (z_bt_0.mpr q))
              rw [if_pos hc] at H
              refine k_n 1 (pc' := 38) (L' := [some (.ref 0), some (.int x1), some (.int x2), some (.int x3), some (.int x4), some (.ref b5)]) (S' := [.ref b5]) (h' := h) rfl ?_
              refine k_n 1 (pc' := 41) (L' := [some (.ref 0), some (.int x1), some (.int x2), some (.int x3), some (.int x4), some (.ref b5)]) (S' := [.ref (z_nx h), .ref b5]) (h' := (z_nw h 10 0 4)) rfl ?_
              have t7 : z_tg (z_nw h 10 0 4) 0 = 11 := CW.keep W W.t0 (by decide)
              have t8 : z_tg (z_nw h 10 0 4) b5 = 4 := CW.keep W t6 (by decide)
              have t9 : z_tg (z_nw h 10 0 4) b5 = 4 := CW.keep W t6 (by decide)
              have t10 : z_tg (z_nw h 10 0 4) (z_nx h) = 10 := z_nw_at
              refine k_n 5 (pc' := 48) (L' := [some (.ref 0), some (.int x1), some (.int x2), some (.int x3), some (.int x4), some (.ref b5)]) (S' := [.ref b5, .int x4, .int x3, .int x2, .ref (z_nx h), .ref (z_nx h), .ref b5]) (h' := (z_nw h 10 0 4)) rfl ?_
              refine k_gV rfl rfl t8 (v_nn W t6 (by decide) rfl) ?_
              refine k_cV 94 5 rfl rfl rfl (A := [.ref (z_nx h), .int x2, .int x3, .int x4, .int (z_iv h b5 5)]) rfl rfl (z_rok_ref t10) (rest := [.ref (z_nx h), .ref b5]) rfl rfl ?_
              refine X_94 (z_nx h) x2 x3 x4 (z_iv h b5 5) (z_nw h 10 0 4) (CW.nw W (by decide)) t10 ?_
              refine k_pR rfl (z_tgI (z_tgI (z_tgI (z_tgI t9)))) ?_
              refine k_n 1 (pc' := 59) (L' := [some (.ref 0), some (.int x1), some (.int x2), some (.int x3), some (.int x4), some (.ref b5)]) (S' := [.ref b5]) (h' := (z_sR (z_sI (z_sI (z_sI (z_sI (z_nw h 10 0 4) (z_nx h) 0 x2) (z_nx h) 1 x3) (z_nx h) 2 x4) (z_nx h) 3 (z_iv h b5 5)) b5 9 (some (z_nx h)))) rfl ?_
              obtain hb11 | ⟨b12, hb11⟩ := z_opt (z_rv (z_sR (z_sI (z_sI (z_sI (z_sI (z_nw h 10 0 4) (z_nx h) 0 x2) (z_nx h) 1 x3) (z_nx h) 2 x4) (z_nx h) 3 (z_iv h b5 5)) b5 9 (some (z_nx h))) b5 9)
              · have H := H.1 hb11
                refine k_gN rfl (z_tgR (z_tgI (z_tgI (z_tgI (z_tgI t8))))) hb11 ?_
                refine k_n 2 (pc' := 66) (L' := [some (.ref 0), some (.int x1), some (.int x2), some (.int x3), some (.int x4), some (.ref b5)]) (S' := [.int x3, .int (1000 : Int32), .null]) (h' := (z_sR (z_sI (z_sI (z_sI (z_sI (z_nw h 10 0 4) (z_nx h) 0 x2) (z_nx h) 1 x3) (z_nx h) 2 x4) (z_nx h) 3 (z_iv h b5 5)) b5 9 (some (z_nx h)))) rfl ?_
                exact H.elim
              · have H := H.2 b12 hb11
                have t13 : z_tg (z_sR (z_sI (z_sI (z_sI (z_sI (z_nw h 10 0 4) (z_nx h) 0 x2) (z_nx h) 1 x3) (z_nx h) 2 x4) (z_nx h) 3 (z_iv h b5 5)) b5 9 (some (z_nx h))) b12 = 10 := (CW.tyOf (t := 4) (t' := 10) (CW.sR (CW.sI (CW.sI (CW.sI (CW.sI (CW.nw W (by decide)))))) (z_tgI (z_tgI (z_tgI (z_tgI t9)))) (j := 9) rfl (fun _ q_ => by cases q_; exact (z_tgI (z_tgI (z_tgI (z_tgI t10))))) (by decide)) (z_tgR (z_tgI (z_tgI (z_tgI (z_tgI t8))))) hb11 (by decide) rfl)
                refine k_gS rfl (z_tgR (z_tgI (z_tgI (z_tgI (z_tgI t8))))) hb11 ?_
                refine k_n 2 (pc' := 66) (L' := [some (.ref 0), some (.int x1), some (.int x2), some (.int x3), some (.int x4), some (.ref b5)]) (S' := [.int x3, .int (1000 : Int32), .ref b12]) (h' := (z_sR (z_sI (z_sI (z_sI (z_sI (z_nw h 10 0 4) (z_nx h) 0 x2) (z_nx h) 1 x3) (z_nx h) 2 x4) (z_nx h) 3 (z_iv h b5 5)) b5 9 (some (z_nx h)))) rfl ?_
                refine k_cI 95 3 rfl rfl rfl (A := [.ref b12, .int (1000 : Int32), .int x3]) rfl rfl (z_rok_ref t13) (rest := []) rfl (z_tyI rfl rfl) ?_
                refine C_95 b12 (1000 : Int32) x3 (z_sR (z_sI (z_sI (z_sI (z_sI (z_nw h 10 0 4) (z_nx h) 0 x2) (z_nx h) 1 x3) (z_nx h) 2 x4) (z_nx h) 3 (z_iv h b5 5)) b5 9 (some (z_nx h))) (CW.sR (CW.sI (CW.sI (CW.sI (CW.sI (CW.nw W (by decide)))))) (z_tgI (z_tgI (z_tgI (z_tgI t9)))) (j := 9) rfl (fun _ q_ => by cases q_; exact (z_tgI (z_tgI (z_tgI (z_tgI t10))))) (by decide)) t13  ?_
                exact k_r rfl rfl rfl H
  · rw [if_neg c1] at H ⊢
    refine k_n 4 (pc' := 35) (L' := [some (.ref 0), some (.int x1), some (.int x2), some (.int x3), some (.int x4), some (.null)]) (S' := [.int (-1 : Int32)]) (h' := h) rfl ?_
    exact k_r rfl rfl rfl H
set_option maxRecDepth 20000 in
theorem X_111 (x1 : Int32) (h : zH) (W : CW h)  {Q : Int32 → zH → Prop} (H : if (0 : Int32) ≤ x1 ∧ x1 ≤ (z_iv h 6 1) then (Q (z_iv h 6 1) (z_sI h 6 1 x1)) else (Q (-1 : Int32) h)) : KK z_pI 111 [.ref 0, .int x1] h Q := by
  refine k_K (L := [some (.ref 0), some (.int x1), none]) rfl ?_
  refine k_n 3 (pc' := 3) (L' := [some (.ref 0), some (.int x1), none]) (S' := [.ref 0, .int (0 : Int32), .int x1]) (h' := h) rfl ?_
  refine k_gS (b := 6) rfl W.t0 (W.abOf (t := 11) (j := 5) (o := 6) (n := 0) (by decide) W.t0).1 ?_
  refine k_gI rfl rfl (CW.tyOf (t := 11) (t' := 9) W (j := 5) W.t0 (W.abOf (t := 11) (j := 5) (o := 6) (n := 0) (by decide) W.t0).1 (by decide) rfl) ?_
  refine k_cI 135 3 rfl rfl rfl (A := [.int x1, .int (0 : Int32), .int (z_iv h 6 1)]) rfl rfl rfl (rest := []) rfl (z_tyI rfl rfl) ?_
  refine c_within x1 (0 : Int32) (z_iv h 6 1) h ?_
  refine k_b (g := z_bt ((0 : Int32) ≤ x1 ∧ x1 ≤ (z_iv h 6 1)) = 0) (pc' := 15) (L' := [some (.ref 0), some (.int x1), none]) (S' := []) (pc2 := 17) (L2 := [some (.ref 0), some (.int x1), none]) (S2 := []) (h' := h) (h2 := h) rfl rfl (fun hc => ?_) (fun hc => ?_)
  · have hc := z_bt_0.mp hc
    rw [if_neg hc] at H
    refine k_n 1 (pc' := 16) (L' := [some (.ref 0), some (.int x1), none]) (S' := [.int (-1 : Int32)]) (h' := h) rfl ?_
    exact k_r rfl rfl rfl H
  · have hc := Decidable.not_not.mp (fun q => hc (z_bt_0.mpr q))
    rw [if_pos hc] at H
    refine k_n 1 (pc' := 18) (L' := [some (.ref 0), some (.int x1), none]) (S' := [.ref 0]) (h' := h) rfl ?_
    refine k_gS (b := 6) rfl W.t0 (W.abOf (t := 11) (j := 5) (o := 6) (n := 0) (by decide) W.t0).1 ?_
    refine k_gI rfl rfl (CW.tyOf (t := 11) (t' := 9) W (j := 5) W.t0 (W.abOf (t := 11) (j := 5) (o := 6) (n := 0) (by decide) W.t0).1 (by decide) rfl) ?_
    refine k_n 2 (pc' := 26) (L' := [some (.ref 0), some (.int x1), some (.int (z_iv h 6 1))]) (S' := [.ref 0]) (h' := h) rfl ?_
    refine k_gS (b := 6) rfl W.t0 (W.abOf (t := 11) (j := 5) (o := 6) (n := 0) (by decide) W.t0).1 ?_
    refine k_n 1 (pc' := 30) (L' := [some (.ref 0), some (.int x1), some (.int (z_iv h 6 1))]) (S' := [.int x1, .ref 6]) (h' := h) rfl ?_
    refine k_pI rfl (CW.tyOf (t := 11) (t' := 9) W (j := 5) W.t0 (W.abOf (t := 11) (j := 5) (o := 6) (n := 0) (by decide) W.t0).1 (by decide) rfl) ?_
    refine k_n 1 (pc' := 34) (L' := [some (.ref 0), some (.int x1), some (.int (z_iv h 6 1))]) (S' := [.int (z_iv h 6 1)]) (h' := (z_sI h 6 1 x1)) rfl ?_
    exact k_r rfl rfl rfl H
set_option maxRecDepth 20000 in
theorem X_113  (h : zH) (W : CW h)  {Q : Int32 → zH → Prop} (H : Q (z_iv h 8 0) h) : KK z_pI 113 [.ref 0] h Q := by
  refine k_K (L := [some (.ref 0)]) rfl ?_
  refine k_n 1 (pc' := 1) (L' := [some (.ref 0)]) (S' := [.ref 0]) (h' := h) rfl ?_
  refine k_gS (b := 8) rfl W.t0 (W.abOf (t := 11) (j := 6) (o := 8) (n := 0) (by decide) W.t0).1 ?_
  refine k_gI rfl rfl (CW.tyOf (t := 11) (t' := 7) W (j := 6) W.t0 (W.abOf (t := 11) (j := 6) (o := 8) (n := 0) (by decide) W.t0).1 (by decide) rfl) ?_
  exact k_r rfl rfl rfl H
theorem C_113  (h : zH) (W : CW h)   {Q : Int32 → zH → Prop} (q : Q (z_iv h 8 0) h) : KK z_pI 113 [.ref 0] h Q := by
  refine X_113  h W  ?_
  exact q
set_option maxRecDepth 20000 in
theorem X_133  (h : zH) (W : CW h)  {Q : Int32 → zH → Prop} (H : Q (z_iv h 0 15) h) : KK z_pI 133 [.ref 0] h Q := by
  refine k_K (L := [some (.ref 0)]) rfl ?_
  refine k_n 1 (pc' := 1) (L' := [some (.ref 0)]) (S' := [.ref 0]) (h' := h) rfl ?_
  refine k_gI rfl rfl W.t0 ?_
  exact k_r rfl rfl rfl H
theorem C_133  (h : zH) (W : CW h)   {Q : Int32 → zH → Prop} (q : Q (z_iv h 0 15) h) : KK z_pI 133 [.ref 0] h Q := by
  refine X_133  h W  ?_
  exact q
set_option maxRecDepth 20000 in
theorem X_123 (x1 : Int32) (x2 : Int32) (x3 : Int32) (h : zH) (W : CW h)  {Q : Int32 → zH → Prop} (H : if (0 : Int32) ≤ x1 ∧ x1 ≤ ((z_iv h 0 12) - (1 : Int32)) then (if (6 : Int32) ≤ x1 then (Q (-1 : Int32) h) else ((0 ≤ x1.toInt ∧ x1.toInt < 6) ∧ ((z_rv h 1 (z_ix x1) = none → Q (-1 : Int32) h) ∧ (∀ b5, z_rv h 1 (z_ix x1) = some b5 → if (0 : Int32) ≤ x2 ∧ x2 ≤ (7 : Int32) then (if (0 : Int32) ≤ x3 ∧ x3 ≤ (99 : Int32) then ((0 ≤ x2.toInt ∧ x2.toInt < 8) ∧ (0 ≤ x2.toInt ∧ x2.toInt < 8) ∧ Q (z_iv h (b5 + 2) (z_ix x2)) (z_sI h (b5 + 2) (z_ix x2) x3)) else (Q (-1 : Int32) h)) else (Q (-1 : Int32) h))))) else (Q (-1 : Int32) h)) : KK z_pI 123 [.ref 0, .int x1, .int x2, .int x3] h Q := by
  refine k_K (L := [some (.ref 0), some (.int x1), some (.int x2), some (.int x3), none, none]) rfl ?_
  refine k_n 2 (pc' := 2) (L' := [some (.ref 0), some (.int x1), some (.int x2), some (.int x3), none, none]) (S' := [.int x1, .ref 0]) (h' := h) rfl ?_
  refine k_cA 148 2 "SavedThird$Mine" rfl rfl rfl (A := [.ref 0, .int x1]) rfl rfl (z_rok_ref W.t0) (rest := []) rfl rfl (by decide) ?_
  refine X_148 x1 h W  ?_
  by_cases c1 : (0 : Int32) ≤ x1 ∧ x1 ≤ ((z_iv h 0 12) - (1 : Int32))
  · rw [if_pos c1] at H ⊢
    by_cases c2 : (6 : Int32) ≤ x1
    · rw [if_pos c2] at H ⊢
      refine k_n 4 (pc' := 30) (L' := [some (.ref 0), some (.int x1), some (.int x2), some (.int x3), some (.null), none]) (S' := [.int (-1 : Int32)]) (h' := h) rfl ?_
      exact k_r rfl rfl rfl H
    · rw [if_neg c2] at H ⊢
      obtain ⟨o3, H⟩ := H
      refine ⟨o3, ?_⟩
      refine ⟨fun hb4 => ?_, fun b5 hb4 => ?_⟩
      · have H := H.1 hb4
        refine k_n 4 (pc' := 30) (L' := [some (.ref 0), some (.int x1), some (.int x2), some (.int x3), some (.null), none]) (S' := [.int (-1 : Int32)]) (h' := h) rfl ?_
        exact k_r rfl rfl rfl H
      · have H := H.2 b5 hb4
        have t6 : z_tg h b5 = 4 := (CW.tyOf (t := 102) (t' := 4) W (CW.tyOf (t := 11) (t' := 102) W (j := 0) W.t0 (W.abOf (t := 11) (j := 0) (o := 1) (n := 6) (by decide) W.t0).1 (by decide) rfl) hb4 (by decide) rfl)
        refine k_n 4 (pc' := 13) (L' := [some (.ref 0), some (.int x1), some (.int x2), some (.int x3), some (.ref b5), none]) (S' := [.int x2]) (h' := h) rfl ?_
        refine k_cI 141 1 rfl rfl rfl (A := [.int x2]) rfl rfl rfl (rest := []) rfl (z_tyI rfl rfl) ?_
        refine C_141 x2 h    ?_
        refine k_b (g := z_bt ((0 : Int32) ≤ x2 ∧ x2 ≤ (7 : Int32)) = 0) (pc' := 29) (L' := [some (.ref 0), some (.int x1), some (.int x2), some (.int x3), some (.ref b5), none]) (S' := []) (pc2 := 19) (L2 := [some (.ref 0), some (.int x1), some (.int x2), some (.int x3), some (.ref b5), none]) (S2 := []) (h' := h) (h2 := h) rfl rfl (fun hc => ?_) (fun hc => ?_)
        · have hc := z_bt_0.mp hc
          rw [if_neg hc] at H
          refine k_n 1 (pc' := 30) (L' := [some (.ref 0), some (.int x1), some (.int x2), some (.int x3), some (.ref b5), none]) (S' := [.int (-1 : Int32)]) (h' := h) rfl ?_
          exact k_r rfl rfl rfl H
        · have hc := Decidable.not_not.mp (fun q => hc (z_bt_0.mpr q))
          rw [if_pos hc] at H
          refine k_n 3 (pc' := 23) (L' := [some (.ref 0), some (.int x1), some (.int x2), some (.int x3), some (.ref b5), none]) (S' := [.int (99 : Int32), .int (0 : Int32), .int x3]) (h' := h) rfl ?_
          refine k_cI 135 3 rfl rfl rfl (A := [.int x3, .int (0 : Int32), .int (99 : Int32)]) rfl rfl rfl (rest := []) rfl (z_tyI rfl rfl) ?_
          refine c_within x3 (0 : Int32) (99 : Int32) h ?_
          refine k_b (g := z_bt ((0 : Int32) ≤ x3 ∧ x3 ≤ (99 : Int32)) = 0) (pc' := 29) (L' := [some (.ref 0), some (.int x1), some (.int x2), some (.int x3), some (.ref b5), none]) (S' := []) (pc2 := 31) (L2 := [some (.ref 0), some (.int x1), some (.int x2), some (.int x3), some (.ref b5), none]) (S2 := []) (h' := h) (h2 := h) rfl rfl (fun hc => ?_) (fun hc => ?_)
          · have hc := z_bt_0.mp hc
            rw [if_neg hc] at H
            refine k_n 1 (pc' := 30) (L' := [some (.ref 0), some (.int x1), some (.int x2), some (.int x3), some (.ref b5), none]) (S' := [.int (-1 : Int32)]) (h' := h) rfl ?_
            exact k_r rfl rfl rfl H
          · have hc := Decidable.not_not.mp (fun q => hc (z_bt_0.mpr q))
            rw [if_pos hc] at H
            refine k_n 1 (pc' := 33) (L' := [some (.ref 0), some (.int x1), some (.int x2), some (.int x3), some (.ref b5), none]) (S' := [.ref b5]) (h' := h) rfl ?_
            refine k_gS (b := (b5 + 2)) rfl t6 (W.reOf (t := 4) (j := 3) (o := 2) (n := 8) (by decide) t6).1 ?_
            refine k_n 1 (pc' := 37) (L' := [some (.ref 0), some (.int x1), some (.int x2), some (.int x3), some (.ref b5), none]) (S' := [.int x2, .ref (b5 + 2)]) (h' := h) rfl ?_
            obtain ⟨o7, H⟩ := H
            refine k_ia (c := 0) (n := 8) rfl (CW.tyOf (t := 4) (t' := 100) W (j := 3) t6 (W.reOf (t := 4) (j := 3) (o := 2) (n := 8) (by decide) t6).1 (by decide) rfl) (W.reOf (t := 4) (j := 3) (o := 2) (n := 8) (by decide) t6).2 o7 ?_
            refine k_n 2 (pc' := 42) (L' := [some (.ref 0), some (.int x1), some (.int x2), some (.int x3), some (.ref b5), some (.int (z_iv h (b5 + 2) (z_ix x2)))]) (S' := [.ref b5]) (h' := h) rfl ?_
            refine k_gS (b := (b5 + 2)) rfl t6 (W.reOf (t := 4) (j := 3) (o := 2) (n := 8) (by decide) t6).1 ?_
            refine k_n 2 (pc' := 47) (L' := [some (.ref 0), some (.int x1), some (.int x2), some (.int x3), some (.ref b5), some (.int (z_iv h (b5 + 2) (z_ix x2)))]) (S' := [.int x3, .int x2, .ref (b5 + 2)]) (h' := h) rfl ?_
            obtain ⟨o8, H⟩ := H
            refine k_is (n := 8) rfl (CW.tyOf (t := 4) (t' := 100) W (j := 3) t6 (W.reOf (t := 4) (j := 3) (o := 2) (n := 8) (by decide) t6).1 (by decide) rfl) (W.reOf (t := 4) (j := 3) (o := 2) (n := 8) (by decide) t6).2 o8 ?_
            refine k_n 1 (pc' := 50) (L' := [some (.ref 0), some (.int x1), some (.int x2), some (.int x3), some (.ref b5), some (.int (z_iv h (b5 + 2) (z_ix x2)))]) (S' := [.int (z_iv h (b5 + 2) (z_ix x2))]) (h' := (z_sI h (b5 + 2) (z_ix x2) x3)) rfl ?_
            exact k_r rfl rfl rfl H
  · rw [if_neg c1] at H ⊢
    refine k_n 4 (pc' := 30) (L' := [some (.ref 0), some (.int x1), some (.int x2), some (.int x3), some (.null), none]) (S' := [.int (-1 : Int32)]) (h' := h) rfl ?_
    exact k_r rfl rfl rfl H
set_option maxRecDepth 20000 in
theorem X_131 (x1 : Int32) (x2 : Int32) (x3 : Int32) (h : zH) (W : CW h)  {Q : Int32 → zH → Prop} (H : if (0 : Int32) ≤ x1 ∧ x1 ≤ (3 : Int32) then ((0 ≤ x1.toInt ∧ x1.toInt < 4) ∧ ((z_rv h 4 (z_ix x1) = none → Q (-11 : Int32) h) ∧ (∀ b3, z_rv h 4 (z_ix x1) = some b3 → if (0 : Int32) ≤ x2 ∧ x2 ≤ ((Int32.ofNat (z_ln h (b3 + 1))) - (1 : Int32)) then (if (0 : Int32) ≤ x2 ∧ x2 ≤ ((Int32.ofNat (z_ln h (b3 + 1))) - (1 : Int32)) then (∀ m6 : Int32, m6 = (if (z_iv h b3 0) = 0 then x3.toInt8.toInt32 else (if (z_iv h b3 0) = (1 : Int32) then x3.toInt16.toInt32 else x3)) → (0 ≤ x2.toInt ∧ x2.toInt < ((z_ln h (b3 + 1)) : Int)) ∧ Q (1 : Int32) (z_sI h (b3 + 1) (z_ix x2) m6)) else (Q (1 : Int32) h)) else (Q (-12 : Int32) h)))) else (Q (-1 : Int32) h)) : KK z_pI 131 [.ref 0, .int x1, .int x2, .int x3] h Q := by
  refine k_K (L := [some (.ref 0), some (.int x1), some (.int x2), some (.int x3), none]) rfl ?_
  refine k_n 1 (pc' := 1) (L' := [some (.ref 0), some (.int x1), some (.int x2), some (.int x3), none]) (S' := [.int x1]) (h' := h) rfl ?_
  refine k_cI 142 1 rfl rfl rfl (A := [.int x1]) rfl rfl rfl (rest := []) rfl (z_tyI rfl rfl) ?_
  refine C_142 x1 h    ?_
  refine k_b (g := z_bt ((0 : Int32) ≤ x1 ∧ x1 ≤ (3 : Int32)) = 0) (pc' := 7) (L' := [some (.ref 0), some (.int x1), some (.int x2), some (.int x3), none]) (S' := []) (pc2 := 9) (L2 := [some (.ref 0), some (.int x1), some (.int x2), some (.int x3), none]) (S2 := []) (h' := h) (h2 := h) rfl rfl (fun hc => ?_) (fun hc => ?_)
  · have hc := z_bt_0.mp hc
    rw [if_neg hc] at H
    refine k_n 1 (pc' := 8) (L' := [some (.ref 0), some (.int x1), some (.int x2), some (.int x3), none]) (S' := [.int (-1 : Int32)]) (h' := h) rfl ?_
    exact k_r rfl rfl rfl H
  · have hc := Decidable.not_not.mp (fun q => hc (z_bt_0.mpr q))
    rw [if_pos hc] at H
    refine k_n 1 (pc' := 10) (L' := [some (.ref 0), some (.int x1), some (.int x2), some (.int x3), none]) (S' := [.ref 0]) (h' := h) rfl ?_
    refine k_gS (b := 4) rfl W.t0 (W.abOf (t := 11) (j := 3) (o := 4) (n := 4) (by decide) W.t0).1 ?_
    refine k_n 1 (pc' := 14) (L' := [some (.ref 0), some (.int x1), some (.int x2), some (.int x3), none]) (S' := [.int x1, .ref 4]) (h' := h) rfl ?_
    obtain ⟨o1, H⟩ := H
    obtain hb2 | ⟨b3, hb2⟩ := z_opt (z_rv h 4 (z_ix x1))
    · have H := H.1 hb2
      refine k_aN rfl (CW.tyOf (t := 11) (t' := 105) W (j := 3) W.t0 (W.abOf (t := 11) (j := 3) (o := 4) (n := 4) (by decide) W.t0).1 (by decide) rfl) rfl (W.abOf (t := 11) (j := 3) (o := 4) (n := 4) (by decide) W.t0).2 o1 hb2 ?_
      refine k_n 4 (pc' := 24) (L' := [some (.ref 0), some (.int x1), some (.int x2), some (.int x3), some (.null)]) (S' := [.int (-11 : Int32)]) (h' := h) rfl ?_
      exact k_r rfl rfl rfl H
    · have H := H.2 b3 hb2
      have t4 : z_tg h b3 = 8 := (CW.tyOf (t := 105) (t' := 8) W (CW.tyOf (t := 11) (t' := 105) W (j := 3) W.t0 (W.abOf (t := 11) (j := 3) (o := 4) (n := 4) (by decide) W.t0).1 (by decide) rfl) hb2 (by decide) rfl)
      refine k_aS rfl (CW.tyOf (t := 11) (t' := 105) W (j := 3) W.t0 (W.abOf (t := 11) (j := 3) (o := 4) (n := 4) (by decide) W.t0).1 (by decide) rfl) rfl (W.abOf (t := 11) (j := 3) (o := 4) (n := 4) (by decide) W.t0).2 o1 hb2 ?_
      refine k_n 5 (pc' := 28) (L' := [some (.ref 0), some (.int x1), some (.int x2), some (.int x3), some (.ref b3)]) (S' := [.int x2, .ref b3]) (h' := h) rfl ?_
      refine k_cI 88 2 rfl rfl rfl (A := [.ref b3, .int x2]) rfl rfl (z_rok_ref t4) (rest := []) rfl (z_tyI rfl rfl) ?_
      refine C_88 b3 x2 h W t4  ?_
      refine k_b (g := z_bt ((0 : Int32) ≤ x2 ∧ x2 ≤ ((Int32.ofNat (z_ln h (b3 + 1))) - (1 : Int32))) = 0) (pc' := 34) (L' := [some (.ref 0), some (.int x1), some (.int x2), some (.int x3), some (.ref b3)]) (S' := []) (pc2 := 37) (L2 := [some (.ref 0), some (.int x1), some (.int x2), some (.int x3), some (.ref b3)]) (S2 := []) (h' := h) (h2 := h) rfl rfl (fun hc => ?_) (fun hc => ?_)
      · have hc := z_bt_0.mp hc
        rw [if_neg hc] at H
        refine k_n 1 (pc' := 36) (L' := [some (.ref 0), some (.int x1), some (.int x2), some (.int x3), some (.ref b3)]) (S' := [.int (-12 : Int32)]) (h' := h) rfl ?_
        exact k_r rfl rfl rfl H
      · have hc := Decidable.not_not.mp (fun q => hc (z_bt_0.mpr q))
        rw [if_pos hc] at H
        refine k_n 3 (pc' := 41) (L' := [some (.ref 0), some (.int x1), some (.int x2), some (.int x3), some (.ref b3)]) (S' := [.int x3, .int x2, .ref b3]) (h' := h) rfl ?_
        refine k_cV 89 3 rfl rfl rfl (A := [.ref b3, .int x2, .int x3]) rfl rfl (z_rok_ref t4) (rest := []) rfl rfl ?_
        refine X_89 b3 x2 x3 h W t4 ?_
        by_cases c5 : (0 : Int32) ≤ x2 ∧ x2 ≤ ((Int32.ofNat (z_ln h (b3 + 1))) - (1 : Int32))
        · rw [if_pos c5] at H ⊢
          intro m6 em6
          have H := H m6 em6
          obtain ⟨o7, H⟩ := H
          refine ⟨o7, ?_⟩
          refine k_n 1 (pc' := 45) (L' := [some (.ref 0), some (.int x1), some (.int x2), some (.int x3), some (.ref b3)]) (S' := [.int (1 : Int32)]) (h' := (z_sI h (b3 + 1) (z_ix x2) m6)) rfl ?_
          exact k_r rfl rfl rfl H
        · rw [if_neg c5] at H ⊢
          refine k_n 1 (pc' := 45) (L' := [some (.ref 0), some (.int x1), some (.int x2), some (.int x3), some (.ref b3)]) (S' := [.int (1 : Int32)]) (h' := h) rfl ?_
          exact k_r rfl rfl rfl H
set_option maxRecDepth 20000 in
theorem X_99 (x1 : Int32) (x2 : Int32) (x3 : Int32) (x4 : Int32) (h : zH) (W : CW h)  {Q : Int32 → zH → Prop} (H : if (0 : Int32) ≤ x1 ∧ x1 ≤ (99 : Int32) then (if (0 : Int32) ≤ x2 ∧ x2 ≤ (99 : Int32) then (if (1 : Int32) ≤ x3 ∧ x3 ≤ (300 : Int32) then (if (1 : Int32) ≤ x4 ∧ x4 ≤ (99 : Int32) then (if (z_iv h 0 12) < 0 then (Q (-3 : Int32) h) else (if (z_iv h 0 12) < (6 : Int32) then (KK z_pV 43 [.ref (z_nx h), .int x1, .int x2, .int x3, .int x4] (z_nw h 4 0 11) (fun _ h_ => KG z_pI 99 76 [some (.ref 0), some (.int x1), some (.int x2), some (.int x3), some (.int x4)] [.ref (z_nx h), .int (z_iv h 0 12), .ref 1] h_ Q)) else (Q (-3 : Int32) h))) else (Q (-1 : Int32) h)) else (Q (-1 : Int32) h)) else (Q (-1 : Int32) h)) else (Q (-1 : Int32) h)) : KK z_pI 99 [.ref 0, .int x1, .int x2, .int x3, .int x4] h Q := by
  refine k_K (L := [some (.ref 0), some (.int x1), some (.int x2), some (.int x3), some (.int x4)]) rfl ?_
  refine k_n 3 (pc' := 4) (L' := [some (.ref 0), some (.int x1), some (.int x2), some (.int x3), some (.int x4)]) (S' := [.int (99 : Int32), .int (0 : Int32), .int x1]) (h' := h) rfl ?_
  refine k_cI 135 3 rfl rfl rfl (A := [.int x1, .int (0 : Int32), .int (99 : Int32)]) rfl rfl rfl (rest := []) rfl (z_tyI rfl rfl) ?_
  refine c_within x1 (0 : Int32) (99 : Int32) h ?_
  refine k_b (g := z_bt ((0 : Int32) ≤ x1 ∧ x1 ≤ (99 : Int32)) = 0) (pc' := 35) (L' := [some (.ref 0), some (.int x1), some (.int x2), some (.int x3), some (.int x4)]) (S' := []) (pc2 := 10) (L2 := [some (.ref 0), some (.int x1), some (.int x2), some (.int x3), some (.int x4)]) (S2 := []) (h' := h) (h2 := h) rfl rfl (fun hc => ?_) (fun hc => ?_)
  · have hc := z_bt_0.mp hc
    rw [if_neg hc] at H
    refine k_n 1 (pc' := 36) (L' := [some (.ref 0), some (.int x1), some (.int x2), some (.int x3), some (.int x4)]) (S' := [.int (-1 : Int32)]) (h' := h) rfl ?_
    exact k_r rfl rfl rfl H
  · have hc := Decidable.not_not.mp (fun q => hc (z_bt_0.mpr q))
    rw [if_pos hc] at H
    refine k_n 3 (pc' := 14) (L' := [some (.ref 0), some (.int x1), some (.int x2), some (.int x3), some (.int x4)]) (S' := [.int (99 : Int32), .int (0 : Int32), .int x2]) (h' := h) rfl ?_
    refine k_cI 135 3 rfl rfl rfl (A := [.int x2, .int (0 : Int32), .int (99 : Int32)]) rfl rfl rfl (rest := []) rfl (z_tyI rfl rfl) ?_
    refine c_within x2 (0 : Int32) (99 : Int32) h ?_
    refine k_b (g := z_bt ((0 : Int32) ≤ x2 ∧ x2 ≤ (99 : Int32)) = 0) (pc' := 35) (L' := [some (.ref 0), some (.int x1), some (.int x2), some (.int x3), some (.int x4)]) (S' := []) (pc2 := 20) (L2 := [some (.ref 0), some (.int x1), some (.int x2), some (.int x3), some (.int x4)]) (S2 := []) (h' := h) (h2 := h) rfl rfl (fun hc => ?_) (fun hc => ?_)
    · have hc := z_bt_0.mp hc
      rw [if_neg hc] at H
      refine k_n 1 (pc' := 36) (L' := [some (.ref 0), some (.int x1), some (.int x2), some (.int x3), some (.int x4)]) (S' := [.int (-1 : Int32)]) (h' := h) rfl ?_
      exact k_r rfl rfl rfl H
    · have hc := Decidable.not_not.mp (fun q => hc (z_bt_0.mpr q))
      rw [if_pos hc] at H
      refine k_n 1 (pc' := 21) (L' := [some (.ref 0), some (.int x1), some (.int x2), some (.int x3), some (.int x4)]) (S' := [.int x3]) (h' := h) rfl ?_
      refine k_cI 136 1 rfl rfl rfl (A := [.int x3]) rfl rfl rfl (rest := []) rfl (z_tyI rfl rfl) ?_
      refine C_136 x3 h    ?_
      refine k_b (g := z_bt ((1 : Int32) ≤ x3 ∧ x3 ≤ (300 : Int32)) = 0) (pc' := 35) (L' := [some (.ref 0), some (.int x1), some (.int x2), some (.int x3), some (.int x4)]) (S' := []) (pc2 := 27) (L2 := [some (.ref 0), some (.int x1), some (.int x2), some (.int x3), some (.int x4)]) (S2 := []) (h' := h) (h2 := h) rfl rfl (fun hc => ?_) (fun hc => ?_)
      · have hc := z_bt_0.mp hc
        rw [if_neg hc] at H
        refine k_n 1 (pc' := 36) (L' := [some (.ref 0), some (.int x1), some (.int x2), some (.int x3), some (.int x4)]) (S' := [.int (-1 : Int32)]) (h' := h) rfl ?_
        exact k_r rfl rfl rfl H
      · have hc := Decidable.not_not.mp (fun q => hc (z_bt_0.mpr q))
        rw [if_pos hc] at H
        refine k_n 1 (pc' := 29) (L' := [some (.ref 0), some (.int x1), some (.int x2), some (.int x3), some (.int x4)]) (S' := [.int x4]) (h' := h) rfl ?_
        refine k_cI 137 1 rfl rfl rfl (A := [.int x4]) rfl rfl rfl (rest := []) rfl (z_tyI rfl rfl) ?_
        refine C_137 x4 h    ?_
        refine k_b (g := z_bt ((1 : Int32) ≤ x4 ∧ x4 ≤ (99 : Int32)) = 0) (pc' := 35) (L' := [some (.ref 0), some (.int x1), some (.int x2), some (.int x3), some (.int x4)]) (S' := []) (pc2 := 37) (L2 := [some (.ref 0), some (.int x1), some (.int x2), some (.int x3), some (.int x4)]) (S2 := []) (h' := h) (h2 := h) rfl rfl (fun hc => ?_) (fun hc => ?_)
        · have hc := z_bt_0.mp hc
          rw [if_neg hc] at H
          refine k_n 1 (pc' := 36) (L' := [some (.ref 0), some (.int x1), some (.int x2), some (.int x3), some (.int x4)]) (S' := [.int (-1 : Int32)]) (h' := h) rfl ?_
          exact k_r rfl rfl rfl H
        · have hc := Decidable.not_not.mp (fun q => hc (z_bt_0.mpr q))
          rw [if_pos hc] at H
          refine k_n 1 (pc' := 38) (L' := [some (.ref 0), some (.int x1), some (.int x2), some (.int x3), some (.int x4)]) (S' := [.ref 0]) (h' := h) rfl ?_
          refine k_gI rfl rfl W.t0 ?_
          refine k_b (g := (z_iv h 0 12) < 0) (pc' := 53) (L' := [some (.ref 0), some (.int x1), some (.int x2), some (.int x3), some (.int x4)]) (S' := []) (pc2 := 44) (L2 := [some (.ref 0), some (.int x1), some (.int x2), some (.int x3), some (.int x4)]) (S2 := []) (h' := h) (h2 := h) rfl rfl (fun hc => ?_) (fun hc => ?_)
          · have hc := hc
            rw [if_pos hc] at H
            refine k_n 1 (pc' := 55) (L' := [some (.ref 0), some (.int x1), some (.int x2), some (.int x3), some (.int x4)]) (S' := [.int (-3 : Int32)]) (h' := h) rfl ?_
            exact k_r rfl rfl rfl H
          · have hc := hc
            rw [if_neg hc] at H
            refine k_n 1 (pc' := 45) (L' := [some (.ref 0), some (.int x1), some (.int x2), some (.int x3), some (.int x4)]) (S' := [.ref 0]) (h' := h) rfl ?_
            refine k_gI rfl rfl W.t0 ?_
            refine k_n 1 (pc' := 50) (L' := [some (.ref 0), some (.int x1), some (.int x2), some (.int x3), some (.int x4)]) (S' := [.int (6 : Int32), .int (z_iv h 0 12)]) (h' := h) rfl ?_
            refine k_b (g := (z_iv h 0 12) < (6 : Int32)) (pc' := 56) (L' := [some (.ref 0), some (.int x1), some (.int x2), some (.int x3), some (.int x4)]) (S' := []) (pc2 := 53) (L2 := [some (.ref 0), some (.int x1), some (.int x2), some (.int x3), some (.int x4)]) (S2 := []) (h' := h) (h2 := h) rfl rfl (fun hc => ?_) (fun hc => ?_)
            · have hc := hc
              rw [if_pos hc] at H
              refine k_n 1 (pc' := 57) (L' := [some (.ref 0), some (.int x1), some (.int x2), some (.int x3), some (.int x4)]) (S' := [.ref 0]) (h' := h) rfl ?_
              refine k_gS (b := 1) rfl W.t0 (W.abOf (t := 11) (j := 0) (o := 1) (n := 6) (by decide) W.t0).1 ?_
              refine k_n 1 (pc' := 61) (L' := [some (.ref 0), some (.int x1), some (.int x2), some (.int x3), some (.int x4)]) (S' := [.ref 0, .ref 1]) (h' := h) rfl ?_
              refine k_gI rfl rfl W.t0 ?_
              refine k_n 1 (pc' := 67) (L' := [some (.ref 0), some (.int x1), some (.int x2), some (.int x3), some (.int x4)]) (S' := [.ref (z_nx h), .int (z_iv h 0 12), .ref 1]) (h' := (z_nw h 4 0 11)) rfl ?_
              have t1 : z_tg (z_nw h 4 0 11) 0 = 11 := CW.keep W W.t0 (by decide)
              have t2 : z_tg (z_nw h 4 0 11) 1 = 102 := CW.keep W (CW.tyOf (t := 11) (t' := 102) W (j := 0) W.t0 (W.abOf (t := 11) (j := 0) (o := 1) (n := 6) (by decide) W.t0).1 (by decide) rfl) (by decide)
              have t3 : z_tg (z_nw h 4 0 11) (z_nx h) = 4 := z_nw_at
              refine k_n 5 (pc' := 73) (L' := [some (.ref 0), some (.int x1), some (.int x2), some (.int x3), some (.int x4)]) (S' := [.int x4, .int x3, .int x2, .int x1, .ref (z_nx h), .ref (z_nx h), .int (z_iv h 0 12), .ref 1]) (h' := (z_nw h 4 0 11)) rfl ?_
              refine k_cV 43 5 rfl rfl rfl (A := [.ref (z_nx h), .int x1, .int x2, .int x3, .int x4]) rfl rfl (z_rok_ref t3) (rest := [.ref (z_nx h), .int (z_iv h 0 12), .ref 1]) rfl rfl ?_
              exact H
            · have hc := hc
              rw [if_neg hc] at H
              refine k_n 1 (pc' := 55) (L' := [some (.ref 0), some (.int x1), some (.int x2), some (.int x3), some (.int x4)]) (S' := [.int (-3 : Int32)]) (h' := h) rfl ?_
              exact k_r rfl rfl rfl H
set_option maxRecDepth 20000 in
theorem X_99_76 (y1 : Int32) (y2 : Int32) (y3 : Int32) (y4 : Int32) (b0 : Nat) (s1 : Int32) (h : zH) (W : CW h) (Tb0 : z_tg h b0 = 4) (Tb2 : z_tg h 1 = 102) (Nb2 : z_ln h 1 = 6) {Q : Int32 → zH → Prop} (H : (0 ≤ s1.toInt ∧ s1.toInt < 6) ∧ Q (((z_iv h 0 12) + (1 : Int32)) - (1 : Int32)) (z_sI (z_sR h 1 (z_ix s1) (some b0)) 0 12 ((z_iv h 0 12) + (1 : Int32)))) : KG z_pI 99 76 [some (.ref 0), some (.int y1), some (.int y2), some (.int y3), some (.int y4)] [.ref b0, .int s1, .ref 1] h Q := by
  obtain ⟨o4, H⟩ := H
  refine k_as rfl Tb2 rfl Nb2 o4 Tb0 ?_
  refine k_n 2 (pc' := 79) (L' := [some (.ref 0), some (.int y1), some (.int y2), some (.int y3), some (.int y4)]) (S' := [.ref 0, .ref 0]) (h' := (z_sR h 1 (z_ix s1) (some b0))) rfl ?_
  refine k_gV rfl rfl (z_tgR W.t0) (v_sR rfl) ?_
  refine k_n 2 (pc' := 84) (L' := [some (.ref 0), some (.int y1), some (.int y2), some (.int y3), some (.int y4)]) (S' := [.int ((z_iv h 0 12) + (1 : Int32)), .ref 0]) (h' := (z_sR h 1 (z_ix s1) (some b0))) rfl ?_
  refine k_pI rfl (z_tgR W.t0) ?_
  refine k_n 1 (pc' := 88) (L' := [some (.ref 0), some (.int y1), some (.int y2), some (.int y3), some (.int y4)]) (S' := [.ref 0]) (h' := (z_sI (z_sR h 1 (z_ix s1) (some b0)) 0 12 ((z_iv h 0 12) + (1 : Int32)))) rfl ?_
  refine k_gV rfl rfl (z_tgI (z_tgR W.t0)) v_at ?_
  refine k_n 2 (pc' := 93) (L' := [some (.ref 0), some (.int y1), some (.int y2), some (.int y3), some (.int y4)]) (S' := [.int (((z_iv h 0 12) + (1 : Int32)) - (1 : Int32))]) (h' := (z_sI (z_sR h 1 (z_ix s1) (some b0)) 0 12 ((z_iv h 0 12) + (1 : Int32)))) rfl ?_
  exact k_r rfl rfl rfl H
set_option maxRecDepth 20000 in
theorem X_102 (x1 : Int32) (x2 : Int32) (x3 : Int32) (x4 : Int32) (x5 : Int32) (x6 : Int32) (h : zH) (W : CW h)  {Q : Int32 → zH → Prop} (H : if (0 : Int32) ≤ x1 ∧ x1 ≤ ((z_iv h 0 12) - (1 : Int32)) then (if (6 : Int32) ≤ x1 then (Q (-1 : Int32) h) else ((0 ≤ x1.toInt ∧ x1.toInt < 6) ∧ ((z_rv h 1 (z_ix x1) = none → Q (-1 : Int32) h) ∧ (∀ b5, z_rv h 1 (z_ix x1) = some b5 → if (0 : Int32) ≤ x2 ∧ x2 ≤ (2 : Int32) then (if (1 : Int32) ≤ x3 ∧ x3 ≤ (99 : Int32) then (if (1 : Int32) ≤ x4 ∧ x4 ≤ (9999 : Int32) then (if (1 : Int32) ≤ x5 ∧ x5 ≤ (9999 : Int32) then (if (0 : Int32) ≤ x6 ∧ x6 ≤ (255 : Int32) then (if (z_iv h 0 13) < 0 then (Q (-3 : Int32) h) else (if (z_iv h 0 13) < (12 : Int32) then ((0 ≤ (z_iv h 0 13).toInt ∧ (z_iv h 0 13).toInt < 12) ∧ Q (((z_iv h 0 13) + (1 : Int32)) - (1 : Int32)) (z_sI (z_sR (z_sR (z_sI (z_sI (z_sI (z_sI (z_sI (z_sI (z_sI (z_sI (z_nw h 3 0 16) (z_nx h) 0 x2) (z_nx h) 1 x3) (z_nx h) 2 x4) (z_nx h) 3 x5) (z_nx h) 4 x6) (z_nx h) 5 x1) (z_nx h) 6 (z_iv h 0 13)) (z_nx h) 13 (z_iv h 0 11)) b5 10 (some (z_nx h))) 2 (z_ix (z_iv h 0 13)) (some (z_nx h))) 0 13 ((z_iv h 0 13) + (1 : Int32)))) else (Q (-3 : Int32) h))) else (Q (-1 : Int32) h)) else (Q (-1 : Int32) h)) else (Q (-1 : Int32) h)) else (Q (-1 : Int32) h)) else (Q (-1 : Int32) h))))) else (Q (-1 : Int32) h)) : KK z_pI 102 [.ref 0, .int x1, .int x2, .int x3, .int x4, .int x5, .int x6] h Q := by
  refine k_K (L := [some (.ref 0), some (.int x1), some (.int x2), some (.int x3), some (.int x4), some (.int x5), some (.int x6), none, none]) rfl ?_
  refine k_n 2 (pc' := 2) (L' := [some (.ref 0), some (.int x1), some (.int x2), some (.int x3), some (.int x4), some (.int x5), some (.int x6), none, none]) (S' := [.int x1, .ref 0]) (h' := h) rfl ?_
  refine k_cA 148 2 "SavedThird$Mine" rfl rfl rfl (A := [.ref 0, .int x1]) rfl rfl (z_rok_ref W.t0) (rest := []) rfl rfl (by decide) ?_
  refine X_148 x1 h W  ?_
  by_cases c1 : (0 : Int32) ≤ x1 ∧ x1 ≤ ((z_iv h 0 12) - (1 : Int32))
  · rw [if_pos c1] at H ⊢
    by_cases c2 : (6 : Int32) ≤ x1
    · rw [if_pos c2] at H ⊢
      refine k_n 4 (pc' := 57) (L' := [some (.ref 0), some (.int x1), some (.int x2), some (.int x3), some (.int x4), some (.int x5), some (.int x6), some (.null), none]) (S' := [.int (-1 : Int32)]) (h' := h) rfl ?_
      exact k_r rfl rfl rfl H
    · rw [if_neg c2] at H ⊢
      obtain ⟨o3, H⟩ := H
      refine ⟨o3, ?_⟩
      refine ⟨fun hb4 => ?_, fun b5 hb4 => ?_⟩
      · have H := H.1 hb4
        refine k_n 4 (pc' := 57) (L' := [some (.ref 0), some (.int x1), some (.int x2), some (.int x3), some (.int x4), some (.int x5), some (.int x6), some (.null), none]) (S' := [.int (-1 : Int32)]) (h' := h) rfl ?_
        exact k_r rfl rfl rfl H
      · have H := H.2 b5 hb4
        have t6 : z_tg h b5 = 4 := (CW.tyOf (t := 102) (t' := 4) W (CW.tyOf (t := 11) (t' := 102) W (j := 0) W.t0 (W.abOf (t := 11) (j := 0) (o := 1) (n := 6) (by decide) W.t0).1 (by decide) rfl) hb4 (by decide) rfl)
        refine k_n 6 (pc' := 15) (L' := [some (.ref 0), some (.int x1), some (.int x2), some (.int x3), some (.int x4), some (.int x5), some (.int x6), some (.ref b5), none]) (S' := [.int (2 : Int32), .int (0 : Int32), .int x2]) (h' := h) rfl ?_
        refine k_cI 135 3 rfl rfl rfl (A := [.int x2, .int (0 : Int32), .int (2 : Int32)]) rfl rfl rfl (rest := []) rfl (z_tyI rfl rfl) ?_
        refine c_within x2 (0 : Int32) (2 : Int32) h ?_
        refine k_b (g := z_bt ((0 : Int32) ≤ x2 ∧ x2 ≤ (2 : Int32)) = 0) (pc' := 56) (L' := [some (.ref 0), some (.int x1), some (.int x2), some (.int x3), some (.int x4), some (.int x5), some (.int x6), some (.ref b5), none]) (S' := []) (pc2 := 21) (L2 := [some (.ref 0), some (.int x1), some (.int x2), some (.int x3), some (.int x4), some (.int x5), some (.int x6), some (.ref b5), none]) (S2 := []) (h' := h) (h2 := h) rfl rfl (fun hc => ?_) (fun hc => ?_)
        · have hc := z_bt_0.mp hc
          rw [if_neg hc] at H
          refine k_n 1 (pc' := 57) (L' := [some (.ref 0), some (.int x1), some (.int x2), some (.int x3), some (.int x4), some (.int x5), some (.int x6), some (.ref b5), none]) (S' := [.int (-1 : Int32)]) (h' := h) rfl ?_
          exact k_r rfl rfl rfl H
        · have hc := Decidable.not_not.mp (fun q => hc (z_bt_0.mpr q))
          rw [if_pos hc] at H
          refine k_n 1 (pc' := 22) (L' := [some (.ref 0), some (.int x1), some (.int x2), some (.int x3), some (.int x4), some (.int x5), some (.int x6), some (.ref b5), none]) (S' := [.int x3]) (h' := h) rfl ?_
          refine k_cI 138 1 rfl rfl rfl (A := [.int x3]) rfl rfl rfl (rest := []) rfl (z_tyI rfl rfl) ?_
          refine C_138 x3 h    ?_
          refine k_b (g := z_bt ((1 : Int32) ≤ x3 ∧ x3 ≤ (99 : Int32)) = 0) (pc' := 56) (L' := [some (.ref 0), some (.int x1), some (.int x2), some (.int x3), some (.int x4), some (.int x5), some (.int x6), some (.ref b5), none]) (S' := []) (pc2 := 28) (L2 := [some (.ref 0), some (.int x1), some (.int x2), some (.int x3), some (.int x4), some (.int x5), some (.int x6), some (.ref b5), none]) (S2 := []) (h' := h) (h2 := h) rfl rfl (fun hc => ?_) (fun hc => ?_)
          · have hc := z_bt_0.mp hc
            rw [if_neg hc] at H
            refine k_n 1 (pc' := 57) (L' := [some (.ref 0), some (.int x1), some (.int x2), some (.int x3), some (.int x4), some (.int x5), some (.int x6), some (.ref b5), none]) (S' := [.int (-1 : Int32)]) (h' := h) rfl ?_
            exact k_r rfl rfl rfl H
          · have hc := Decidable.not_not.mp (fun q => hc (z_bt_0.mpr q))
            rw [if_pos hc] at H
            refine k_n 1 (pc' := 30) (L' := [some (.ref 0), some (.int x1), some (.int x2), some (.int x3), some (.int x4), some (.int x5), some (.int x6), some (.ref b5), none]) (S' := [.int x4]) (h' := h) rfl ?_
            refine k_cI 139 1 rfl rfl rfl (A := [.int x4]) rfl rfl rfl (rest := []) rfl (z_tyI rfl rfl) ?_
            refine C_139 x4 h    ?_
            refine k_b (g := z_bt ((1 : Int32) ≤ x4 ∧ x4 ≤ (9999 : Int32)) = 0) (pc' := 56) (L' := [some (.ref 0), some (.int x1), some (.int x2), some (.int x3), some (.int x4), some (.int x5), some (.int x6), some (.ref b5), none]) (S' := []) (pc2 := 36) (L2 := [some (.ref 0), some (.int x1), some (.int x2), some (.int x3), some (.int x4), some (.int x5), some (.int x6), some (.ref b5), none]) (S2 := []) (h' := h) (h2 := h) rfl rfl (fun hc => ?_) (fun hc => ?_)
            · have hc := z_bt_0.mp hc
              rw [if_neg hc] at H
              refine k_n 1 (pc' := 57) (L' := [some (.ref 0), some (.int x1), some (.int x2), some (.int x3), some (.int x4), some (.int x5), some (.int x6), some (.ref b5), none]) (S' := [.int (-1 : Int32)]) (h' := h) rfl ?_
              exact k_r rfl rfl rfl H
            · have hc := Decidable.not_not.mp (fun q => hc (z_bt_0.mpr q))
              rw [if_pos hc] at H
              refine k_n 1 (pc' := 38) (L' := [some (.ref 0), some (.int x1), some (.int x2), some (.int x3), some (.int x4), some (.int x5), some (.int x6), some (.ref b5), none]) (S' := [.int x5]) (h' := h) rfl ?_
              refine k_cI 139 1 rfl rfl rfl (A := [.int x5]) rfl rfl rfl (rest := []) rfl (z_tyI rfl rfl) ?_
              refine C_139 x5 h    ?_
              refine k_b (g := z_bt ((1 : Int32) ≤ x5 ∧ x5 ≤ (9999 : Int32)) = 0) (pc' := 56) (L' := [some (.ref 0), some (.int x1), some (.int x2), some (.int x3), some (.int x4), some (.int x5), some (.int x6), some (.ref b5), none]) (S' := []) (pc2 := 44) (L2 := [some (.ref 0), some (.int x1), some (.int x2), some (.int x3), some (.int x4), some (.int x5), some (.int x6), some (.ref b5), none]) (S2 := []) (h' := h) (h2 := h) rfl rfl (fun hc => ?_) (fun hc => ?_)
              · have hc := z_bt_0.mp hc
                rw [if_neg hc] at H
                refine k_n 1 (pc' := 57) (L' := [some (.ref 0), some (.int x1), some (.int x2), some (.int x3), some (.int x4), some (.int x5), some (.int x6), some (.ref b5), none]) (S' := [.int (-1 : Int32)]) (h' := h) rfl ?_
                exact k_r rfl rfl rfl H
              · have hc := Decidable.not_not.mp (fun q => hc (z_bt_0.mpr q))
                rw [if_pos hc] at H
                refine k_n 3 (pc' := 50) (L' := [some (.ref 0), some (.int x1), some (.int x2), some (.int x3), some (.int x4), some (.int x5), some (.int x6), some (.ref b5), none]) (S' := [.int (255 : Int32), .int (0 : Int32), .int x6]) (h' := h) rfl ?_
                refine k_cI 135 3 rfl rfl rfl (A := [.int x6, .int (0 : Int32), .int (255 : Int32)]) rfl rfl rfl (rest := []) rfl (z_tyI rfl rfl) ?_
                refine c_within x6 (0 : Int32) (255 : Int32) h ?_
                refine k_b (g := z_bt ((0 : Int32) ≤ x6 ∧ x6 ≤ (255 : Int32)) = 0) (pc' := 56) (L' := [some (.ref 0), some (.int x1), some (.int x2), some (.int x3), some (.int x4), some (.int x5), some (.int x6), some (.ref b5), none]) (S' := []) (pc2 := 58) (L2 := [some (.ref 0), some (.int x1), some (.int x2), some (.int x3), some (.int x4), some (.int x5), some (.int x6), some (.ref b5), none]) (S2 := []) (h' := h) (h2 := h) rfl rfl (fun hc => ?_) (fun hc => ?_)
                · have hc := z_bt_0.mp hc
                  rw [if_neg hc] at H
                  refine k_n 1 (pc' := 57) (L' := [some (.ref 0), some (.int x1), some (.int x2), some (.int x3), some (.int x4), some (.int x5), some (.int x6), some (.ref b5), none]) (S' := [.int (-1 : Int32)]) (h' := h) rfl ?_
                  exact k_r rfl rfl rfl H
                · have hc := Decidable.not_not.mp (fun q => hc (z_bt_0.mpr q))
                  rw [if_pos hc] at H
                  refine k_n 1 (pc' := 59) (L' := [some (.ref 0), some (.int x1), some (.int x2), some (.int x3), some (.int x4), some (.int x5), some (.int x6), some (.ref b5), none]) (S' := [.ref 0]) (h' := h) rfl ?_
                  refine k_gI rfl rfl W.t0 ?_
                  refine k_b (g := (z_iv h 0 13) < 0) (pc' := 74) (L' := [some (.ref 0), some (.int x1), some (.int x2), some (.int x3), some (.int x4), some (.int x5), some (.int x6), some (.ref b5), none]) (S' := []) (pc2 := 65) (L2 := [some (.ref 0), some (.int x1), some (.int x2), some (.int x3), some (.int x4), some (.int x5), some (.int x6), some (.ref b5), none]) (S2 := []) (h' := h) (h2 := h) rfl rfl (fun hc => ?_) (fun hc => ?_)
                  · have hc := hc
                    rw [if_pos hc] at H
                    refine k_n 1 (pc' := 76) (L' := [some (.ref 0), some (.int x1), some (.int x2), some (.int x3), some (.int x4), some (.int x5), some (.int x6), some (.ref b5), none]) (S' := [.int (-3 : Int32)]) (h' := h) rfl ?_
                    exact k_r rfl rfl rfl H
                  · have hc := hc
                    rw [if_neg hc] at H
                    refine k_n 1 (pc' := 66) (L' := [some (.ref 0), some (.int x1), some (.int x2), some (.int x3), some (.int x4), some (.int x5), some (.int x6), some (.ref b5), none]) (S' := [.ref 0]) (h' := h) rfl ?_
                    refine k_gI rfl rfl W.t0 ?_
                    refine k_n 1 (pc' := 71) (L' := [some (.ref 0), some (.int x1), some (.int x2), some (.int x3), some (.int x4), some (.int x5), some (.int x6), some (.ref b5), none]) (S' := [.int (12 : Int32), .int (z_iv h 0 13)]) (h' := h) rfl ?_
                    refine k_b (g := (z_iv h 0 13) < (12 : Int32)) (pc' := 77) (L' := [some (.ref 0), some (.int x1), some (.int x2), some (.int x3), some (.int x4), some (.int x5), some (.int x6), some (.ref b5), none]) (S' := []) (pc2 := 74) (L2 := [some (.ref 0), some (.int x1), some (.int x2), some (.int x3), some (.int x4), some (.int x5), some (.int x6), some (.ref b5), none]) (S2 := []) (h' := h) (h2 := h) rfl rfl (fun hc => ?_) (fun hc => ?_)
                    · have hc := hc
                      rw [if_pos hc] at H
                      refine k_n 1 (pc' := 80) (L' := [some (.ref 0), some (.int x1), some (.int x2), some (.int x3), some (.int x4), some (.int x5), some (.int x6), some (.ref b5), none]) (S' := [.ref (z_nx h)]) (h' := (z_nw h 3 0 16)) rfl ?_
                      have t7 : z_tg (z_nw h 3 0 16) 0 = 11 := CW.keep W W.t0 (by decide)
                      have t8 : z_tg (z_nw h 3 0 16) b5 = 4 := CW.keep W t6 (by decide)
                      have t9 : z_tg (z_nw h 3 0 16) (z_nx h) = 3 := z_nw_at
                      refine k_n 6 (pc' := 89) (L' := [some (.ref 0), some (.int x1), some (.int x2), some (.int x3), some (.int x4), some (.int x5), some (.int x6), some (.ref b5), none]) (S' := [.int x6, .int x5, .int x4, .int x3, .int x2, .ref (z_nx h), .ref (z_nx h)]) (h' := (z_nw h 3 0 16)) rfl ?_
                      refine k_cV 36 6 rfl rfl rfl (A := [.ref (z_nx h), .int x2, .int x3, .int x4, .int x5, .int x6]) rfl rfl (z_rok_ref t9) (rest := [.ref (z_nx h)]) rfl rfl ?_
                      refine X_36 (z_nx h) x2 x3 x4 x5 x6 (z_nw h 3 0 16) (CW.nw W (by decide)) t9 ?_
                      refine k_n 4 (pc' := 98) (L' := [some (.ref 0), some (.int x1), some (.int x2), some (.int x3), some (.int x4), some (.int x5), some (.int x6), some (.ref b5), some (.ref (z_nx h))]) (S' := [.ref 0, .int x1, .ref (z_nx h)]) (h' := (z_sI (z_sI (z_sI (z_sI (z_sI (z_nw h 3 0 16) (z_nx h) 0 x2) (z_nx h) 1 x3) (z_nx h) 2 x4) (z_nx h) 3 x5) (z_nx h) 4 x6)) rfl ?_
                      refine k_gV rfl rfl (z_tgI (z_tgI (z_tgI (z_tgI (z_tgI t7))))) (v_nt (z_tgI (z_tgI (z_tgI (z_tgI t7)))) (z_tgI (z_tgI (z_tgI (z_tgI t9)))) (by decide) (v_nt (z_tgI (z_tgI (z_tgI t7))) (z_tgI (z_tgI (z_tgI t9))) (by decide) (v_nt (z_tgI (z_tgI t7)) (z_tgI (z_tgI t9)) (by decide) (v_nt (z_tgI t7) (z_tgI t9) (by decide) (v_nt t7 t9 (by decide) (v_nn W W.t0 (by decide) rfl)))))) ?_
                      refine k_n 1 (pc' := 102) (L' := [some (.ref 0), some (.int x1), some (.int x2), some (.int x3), some (.int x4), some (.int x5), some (.int x6), some (.ref b5), some (.ref (z_nx h))]) (S' := [.ref 0, .int (z_iv h 0 13), .int x1, .ref (z_nx h)]) (h' := (z_sI (z_sI (z_sI (z_sI (z_sI (z_nw h 3 0 16) (z_nx h) 0 x2) (z_nx h) 1 x3) (z_nx h) 2 x4) (z_nx h) 3 x5) (z_nx h) 4 x6)) rfl ?_
                      refine k_gV rfl rfl (z_tgI (z_tgI (z_tgI (z_tgI (z_tgI t7))))) (v_nt (z_tgI (z_tgI (z_tgI (z_tgI t7)))) (z_tgI (z_tgI (z_tgI (z_tgI t9)))) (by decide) (v_nt (z_tgI (z_tgI (z_tgI t7))) (z_tgI (z_tgI (z_tgI t9))) (by decide) (v_nt (z_tgI (z_tgI t7)) (z_tgI (z_tgI t9)) (by decide) (v_nt (z_tgI t7) (z_tgI t9) (by decide) (v_nt t7 t9 (by decide) (v_nn W W.t0 (by decide) rfl)))))) ?_
                      refine k_cV 37 4 rfl rfl rfl (A := [.ref (z_nx h), .int x1, .int (z_iv h 0 13), .int (z_iv h 0 11)]) rfl rfl (z_rok_ref (z_tgI (z_tgI (z_tgI (z_tgI (z_tgI t9)))))) (rest := []) rfl rfl ?_
                      refine X_37 (z_nx h) x1 (z_iv h 0 13) (z_iv h 0 11) (z_sI (z_sI (z_sI (z_sI (z_sI (z_nw h 3 0 16) (z_nx h) 0 x2) (z_nx h) 1 x3) (z_nx h) 2 x4) (z_nx h) 3 x5) (z_nx h) 4 x6) (CW.sI (CW.sI (CW.sI (CW.sI (CW.sI (CW.nw W (by decide))))))) (z_tgI (z_tgI (z_tgI (z_tgI (z_tgI t9))))) ?_
                      refine k_n 2 (pc' := 112) (L' := [some (.ref 0), some (.int x1), some (.int x2), some (.int x3), some (.int x4), some (.int x5), some (.int x6), some (.ref b5), some (.ref (z_nx h))]) (S' := [.ref (z_nx h), .ref b5]) (h' := (z_sI (z_sI (z_sI (z_sI (z_sI (z_sI (z_sI (z_sI (z_nw h 3 0 16) (z_nx h) 0 x2) (z_nx h) 1 x3) (z_nx h) 2 x4) (z_nx h) 3 x5) (z_nx h) 4 x6) (z_nx h) 5 x1) (z_nx h) 6 (z_iv h 0 13)) (z_nx h) 13 (z_iv h 0 11))) rfl ?_
                      refine k_pR rfl (z_tgI (z_tgI (z_tgI (z_tgI (z_tgI (z_tgI (z_tgI (z_tgI t8)))))))) ?_
                      refine k_n 1 (pc' := 116) (L' := [some (.ref 0), some (.int x1), some (.int x2), some (.int x3), some (.int x4), some (.int x5), some (.int x6), some (.ref b5), some (.ref (z_nx h))]) (S' := [.ref 0]) (h' := (z_sR (z_sI (z_sI (z_sI (z_sI (z_sI (z_sI (z_sI (z_sI (z_nw h 3 0 16) (z_nx h) 0 x2) (z_nx h) 1 x3) (z_nx h) 2 x4) (z_nx h) 3 x5) (z_nx h) 4 x6) (z_nx h) 5 x1) (z_nx h) 6 (z_iv h 0 13)) (z_nx h) 13 (z_iv h 0 11)) b5 10 (some (z_nx h)))) rfl ?_
                      refine k_gS (b := 2) rfl (z_tgR (z_tgI (z_tgI (z_tgI (z_tgI (z_tgI (z_tgI (z_tgI (z_tgI t7))))))))) ((CW.sR (CW.sI (CW.sI (CW.sI (CW.sI (CW.sI (CW.sI (CW.sI (CW.sI (CW.nw W (by decide)))))))))) (z_tgI (z_tgI (z_tgI (z_tgI (z_tgI (z_tgI (z_tgI (z_tgI t8)))))))) (j := 10) rfl (fun _ q_ => by cases q_; exact (z_tgI (z_tgI (z_tgI (z_tgI (z_tgI (z_tgI (z_tgI (z_tgI t9))))))))) (by decide)).abOf (t := 11) (j := 1) (o := 2) (n := 12) (by decide) (z_tgR (z_tgI (z_tgI (z_tgI (z_tgI (z_tgI (z_tgI (z_tgI (z_tgI t7)))))))))).1 ?_
                      refine k_n 1 (pc' := 120) (L' := [some (.ref 0), some (.int x1), some (.int x2), some (.int x3), some (.int x4), some (.int x5), some (.int x6), some (.ref b5), some (.ref (z_nx h))]) (S' := [.ref 0, .ref 2]) (h' := (z_sR (z_sI (z_sI (z_sI (z_sI (z_sI (z_sI (z_sI (z_sI (z_nw h 3 0 16) (z_nx h) 0 x2) (z_nx h) 1 x3) (z_nx h) 2 x4) (z_nx h) 3 x5) (z_nx h) 4 x6) (z_nx h) 5 x1) (z_nx h) 6 (z_iv h 0 13)) (z_nx h) 13 (z_iv h 0 11)) b5 10 (some (z_nx h)))) rfl ?_
                      refine k_gV rfl rfl (z_tgR (z_tgI (z_tgI (z_tgI (z_tgI (z_tgI (z_tgI (z_tgI (z_tgI t7))))))))) (v_sR (v_nt (z_tgI (z_tgI (z_tgI (z_tgI (z_tgI (z_tgI (z_tgI t7))))))) (z_tgI (z_tgI (z_tgI (z_tgI (z_tgI (z_tgI (z_tgI t9))))))) (by decide) (v_nt (z_tgI (z_tgI (z_tgI (z_tgI (z_tgI (z_tgI t7)))))) (z_tgI (z_tgI (z_tgI (z_tgI (z_tgI (z_tgI t9)))))) (by decide) (v_nt (z_tgI (z_tgI (z_tgI (z_tgI (z_tgI t7))))) (z_tgI (z_tgI (z_tgI (z_tgI (z_tgI t9))))) (by decide) (v_nt (z_tgI (z_tgI (z_tgI (z_tgI t7)))) (z_tgI (z_tgI (z_tgI (z_tgI t9)))) (by decide) (v_nt (z_tgI (z_tgI (z_tgI t7))) (z_tgI (z_tgI (z_tgI t9))) (by decide) (v_nt (z_tgI (z_tgI t7)) (z_tgI (z_tgI t9)) (by decide) (v_nt (z_tgI t7) (z_tgI t9) (by decide) (v_nt t7 t9 (by decide) (v_nn W W.t0 (by decide) rfl)))))))))) ?_
                      refine k_n 1 (pc' := 125) (L' := [some (.ref 0), some (.int x1), some (.int x2), some (.int x3), some (.int x4), some (.int x5), some (.int x6), some (.ref b5), some (.ref (z_nx h))]) (S' := [.ref (z_nx h), .int (z_iv h 0 13), .ref 2]) (h' := (z_sR (z_sI (z_sI (z_sI (z_sI (z_sI (z_sI (z_sI (z_sI (z_nw h 3 0 16) (z_nx h) 0 x2) (z_nx h) 1 x3) (z_nx h) 2 x4) (z_nx h) 3 x5) (z_nx h) 4 x6) (z_nx h) 5 x1) (z_nx h) 6 (z_iv h 0 13)) (z_nx h) 13 (z_iv h 0 11)) b5 10 (some (z_nx h)))) rfl ?_
                      obtain ⟨o10, H⟩ := H
                      refine k_as rfl (CW.tyOf (t := 11) (t' := 103) (CW.sR (CW.sI (CW.sI (CW.sI (CW.sI (CW.sI (CW.sI (CW.sI (CW.sI (CW.nw W (by decide)))))))))) (z_tgI (z_tgI (z_tgI (z_tgI (z_tgI (z_tgI (z_tgI (z_tgI t8)))))))) (j := 10) rfl (fun _ q_ => by cases q_; exact (z_tgI (z_tgI (z_tgI (z_tgI (z_tgI (z_tgI (z_tgI (z_tgI t9))))))))) (by decide)) (j := 1) (z_tgR (z_tgI (z_tgI (z_tgI (z_tgI (z_tgI (z_tgI (z_tgI (z_tgI t7))))))))) ((CW.sR (CW.sI (CW.sI (CW.sI (CW.sI (CW.sI (CW.sI (CW.sI (CW.sI (CW.nw W (by decide)))))))))) (z_tgI (z_tgI (z_tgI (z_tgI (z_tgI (z_tgI (z_tgI (z_tgI t8)))))))) (j := 10) rfl (fun _ q_ => by cases q_; exact (z_tgI (z_tgI (z_tgI (z_tgI (z_tgI (z_tgI (z_tgI (z_tgI t9))))))))) (by decide)).abOf (t := 11) (j := 1) (o := 2) (n := 12) (by decide) (z_tgR (z_tgI (z_tgI (z_tgI (z_tgI (z_tgI (z_tgI (z_tgI (z_tgI t7)))))))))).1 (by decide) rfl) rfl ((CW.sR (CW.sI (CW.sI (CW.sI (CW.sI (CW.sI (CW.sI (CW.sI (CW.sI (CW.nw W (by decide)))))))))) (z_tgI (z_tgI (z_tgI (z_tgI (z_tgI (z_tgI (z_tgI (z_tgI t8)))))))) (j := 10) rfl (fun _ q_ => by cases q_; exact (z_tgI (z_tgI (z_tgI (z_tgI (z_tgI (z_tgI (z_tgI (z_tgI t9))))))))) (by decide)).abOf (t := 11) (j := 1) (o := 2) (n := 12) (by decide) (z_tgR (z_tgI (z_tgI (z_tgI (z_tgI (z_tgI (z_tgI (z_tgI (z_tgI t7)))))))))).2 o10 (z_tgR (z_tgI (z_tgI (z_tgI (z_tgI (z_tgI (z_tgI (z_tgI (z_tgI t9))))))))) ?_
                      refine k_n 2 (pc' := 128) (L' := [some (.ref 0), some (.int x1), some (.int x2), some (.int x3), some (.int x4), some (.int x5), some (.int x6), some (.ref b5), some (.ref (z_nx h))]) (S' := [.ref 0, .ref 0]) (h' := (z_sR (z_sR (z_sI (z_sI (z_sI (z_sI (z_sI (z_sI (z_sI (z_sI (z_nw h 3 0 16) (z_nx h) 0 x2) (z_nx h) 1 x3) (z_nx h) 2 x4) (z_nx h) 3 x5) (z_nx h) 4 x6) (z_nx h) 5 x1) (z_nx h) 6 (z_iv h 0 13)) (z_nx h) 13 (z_iv h 0 11)) b5 10 (some (z_nx h))) 2 (z_ix (z_iv h 0 13)) (some (z_nx h)))) rfl ?_
                      refine k_gV rfl rfl (z_tgR (z_tgR (z_tgI (z_tgI (z_tgI (z_tgI (z_tgI (z_tgI (z_tgI (z_tgI t7)))))))))) (v_sR (v_sR (v_nt (z_tgI (z_tgI (z_tgI (z_tgI (z_tgI (z_tgI (z_tgI t7))))))) (z_tgI (z_tgI (z_tgI (z_tgI (z_tgI (z_tgI (z_tgI t9))))))) (by decide) (v_nt (z_tgI (z_tgI (z_tgI (z_tgI (z_tgI (z_tgI t7)))))) (z_tgI (z_tgI (z_tgI (z_tgI (z_tgI (z_tgI t9)))))) (by decide) (v_nt (z_tgI (z_tgI (z_tgI (z_tgI (z_tgI t7))))) (z_tgI (z_tgI (z_tgI (z_tgI (z_tgI t9))))) (by decide) (v_nt (z_tgI (z_tgI (z_tgI (z_tgI t7)))) (z_tgI (z_tgI (z_tgI (z_tgI t9)))) (by decide) (v_nt (z_tgI (z_tgI (z_tgI t7))) (z_tgI (z_tgI (z_tgI t9))) (by decide) (v_nt (z_tgI (z_tgI t7)) (z_tgI (z_tgI t9)) (by decide) (v_nt (z_tgI t7) (z_tgI t9) (by decide) (v_nt t7 t9 (by decide) (v_nn W W.t0 (by decide) rfl))))))))))) ?_
                      refine k_n 2 (pc' := 133) (L' := [some (.ref 0), some (.int x1), some (.int x2), some (.int x3), some (.int x4), some (.int x5), some (.int x6), some (.ref b5), some (.ref (z_nx h))]) (S' := [.int ((z_iv h 0 13) + (1 : Int32)), .ref 0]) (h' := (z_sR (z_sR (z_sI (z_sI (z_sI (z_sI (z_sI (z_sI (z_sI (z_sI (z_nw h 3 0 16) (z_nx h) 0 x2) (z_nx h) 1 x3) (z_nx h) 2 x4) (z_nx h) 3 x5) (z_nx h) 4 x6) (z_nx h) 5 x1) (z_nx h) 6 (z_iv h 0 13)) (z_nx h) 13 (z_iv h 0 11)) b5 10 (some (z_nx h))) 2 (z_ix (z_iv h 0 13)) (some (z_nx h)))) rfl ?_
                      refine k_pI rfl (z_tgR (z_tgR (z_tgI (z_tgI (z_tgI (z_tgI (z_tgI (z_tgI (z_tgI (z_tgI t7)))))))))) ?_
                      refine k_n 1 (pc' := 137) (L' := [some (.ref 0), some (.int x1), some (.int x2), some (.int x3), some (.int x4), some (.int x5), some (.int x6), some (.ref b5), some (.ref (z_nx h))]) (S' := [.ref 0]) (h' := (z_sI (z_sR (z_sR (z_sI (z_sI (z_sI (z_sI (z_sI (z_sI (z_sI (z_sI (z_nw h 3 0 16) (z_nx h) 0 x2) (z_nx h) 1 x3) (z_nx h) 2 x4) (z_nx h) 3 x5) (z_nx h) 4 x6) (z_nx h) 5 x1) (z_nx h) 6 (z_iv h 0 13)) (z_nx h) 13 (z_iv h 0 11)) b5 10 (some (z_nx h))) 2 (z_ix (z_iv h 0 13)) (some (z_nx h))) 0 13 ((z_iv h 0 13) + (1 : Int32)))) rfl ?_
                      refine k_gV rfl rfl (z_tgI (z_tgR (z_tgR (z_tgI (z_tgI (z_tgI (z_tgI (z_tgI (z_tgI (z_tgI (z_tgI t7))))))))))) v_at ?_
                      refine k_n 2 (pc' := 142) (L' := [some (.ref 0), some (.int x1), some (.int x2), some (.int x3), some (.int x4), some (.int x5), some (.int x6), some (.ref b5), some (.ref (z_nx h))]) (S' := [.int (((z_iv h 0 13) + (1 : Int32)) - (1 : Int32))]) (h' := (z_sI (z_sR (z_sR (z_sI (z_sI (z_sI (z_sI (z_sI (z_sI (z_sI (z_sI (z_nw h 3 0 16) (z_nx h) 0 x2) (z_nx h) 1 x3) (z_nx h) 2 x4) (z_nx h) 3 x5) (z_nx h) 4 x6) (z_nx h) 5 x1) (z_nx h) 6 (z_iv h 0 13)) (z_nx h) 13 (z_iv h 0 11)) b5 10 (some (z_nx h))) 2 (z_ix (z_iv h 0 13)) (some (z_nx h))) 0 13 ((z_iv h 0 13) + (1 : Int32)))) rfl ?_
                      exact k_r rfl rfl rfl H
                    · have hc := hc
                      rw [if_neg hc] at H
                      refine k_n 1 (pc' := 76) (L' := [some (.ref 0), some (.int x1), some (.int x2), some (.int x3), some (.int x4), some (.int x5), some (.int x6), some (.ref b5), none]) (S' := [.int (-3 : Int32)]) (h' := h) rfl ?_
                      exact k_r rfl rfl rfl H
  · rw [if_neg c1] at H ⊢
    refine k_n 4 (pc' := 57) (L' := [some (.ref 0), some (.int x1), some (.int x2), some (.int x3), some (.int x4), some (.int x5), some (.int x6), some (.null), none]) (S' := [.int (-1 : Int32)]) (h' := h) rfl ?_
    exact k_r rfl rfl rfl H
set_option maxRecDepth 20000 in
theorem X_130 (x1 : Int32) (x2 : Int32) (x3 : Int32) (h : zH) (W : CW h)  {Q : Int32 → zH → Prop} (H : if (0 : Int32) ≤ x1 ∧ x1 ≤ (3 : Int32) then (if (0 : Int32) ≤ x2 ∧ x2 ≤ (2 : Int32) then (if x3 ≤ (48 : Int32) then (if 0 ≤ x3 then (KK z_pV 87 [.ref (z_nx h), .int x2, .int x3] (z_nw h 8 0 2) (fun _ h_ => KG z_pI 130 43 [some (.ref 0), some (.int x1), some (.int x2), some (.int x3)] [.ref (z_nx h), .int x1, .ref 4] h_ Q)) else (Q (-14 : Int32) h)) else (Q (-1 : Int32) h)) else (Q (-1 : Int32) h)) else (Q (-1 : Int32) h)) : KK z_pI 130 [.ref 0, .int x1, .int x2, .int x3] h Q := by
  refine k_K (L := [some (.ref 0), some (.int x1), some (.int x2), some (.int x3)]) rfl ?_
  refine k_n 1 (pc' := 1) (L' := [some (.ref 0), some (.int x1), some (.int x2), some (.int x3)]) (S' := [.int x1]) (h' := h) rfl ?_
  refine k_cI 142 1 rfl rfl rfl (A := [.int x1]) rfl rfl rfl (rest := []) rfl (z_tyI rfl rfl) ?_
  refine C_142 x1 h    ?_
  refine k_b (g := z_bt ((0 : Int32) ≤ x1 ∧ x1 ≤ (3 : Int32)) = 0) (pc' := 20) (L' := [some (.ref 0), some (.int x1), some (.int x2), some (.int x3)]) (S' := []) (pc2 := 7) (L2 := [some (.ref 0), some (.int x1), some (.int x2), some (.int x3)]) (S2 := []) (h' := h) (h2 := h) rfl rfl (fun hc => ?_) (fun hc => ?_)
  · have hc := z_bt_0.mp hc
    rw [if_neg hc] at H
    refine k_n 1 (pc' := 21) (L' := [some (.ref 0), some (.int x1), some (.int x2), some (.int x3)]) (S' := [.int (-1 : Int32)]) (h' := h) rfl ?_
    exact k_r rfl rfl rfl H
  · have hc := Decidable.not_not.mp (fun q => hc (z_bt_0.mpr q))
    rw [if_pos hc] at H
    refine k_n 1 (pc' := 8) (L' := [some (.ref 0), some (.int x1), some (.int x2), some (.int x3)]) (S' := [.int x2]) (h' := h) rfl ?_
    refine k_cI 143 1 rfl rfl rfl (A := [.int x2]) rfl rfl rfl (rest := []) rfl (z_tyI rfl rfl) ?_
    refine C_143 x2 h    ?_
    refine k_b (g := z_bt ((0 : Int32) ≤ x2 ∧ x2 ≤ (2 : Int32)) = 0) (pc' := 20) (L' := [some (.ref 0), some (.int x1), some (.int x2), some (.int x3)]) (S' := []) (pc2 := 14) (L2 := [some (.ref 0), some (.int x1), some (.int x2), some (.int x3)]) (S2 := []) (h' := h) (h2 := h) rfl rfl (fun hc => ?_) (fun hc => ?_)
    · have hc := z_bt_0.mp hc
      rw [if_neg hc] at H
      refine k_n 1 (pc' := 21) (L' := [some (.ref 0), some (.int x1), some (.int x2), some (.int x3)]) (S' := [.int (-1 : Int32)]) (h' := h) rfl ?_
      exact k_r rfl rfl rfl H
    · have hc := Decidable.not_not.mp (fun q => hc (z_bt_0.mpr q))
      rw [if_pos hc] at H
      refine k_n 2 (pc' := 17) (L' := [some (.ref 0), some (.int x1), some (.int x2), some (.int x3)]) (S' := [.int (48 : Int32), .int x3]) (h' := h) rfl ?_
      refine k_b (g := x3 ≤ (48 : Int32)) (pc' := 22) (L' := [some (.ref 0), some (.int x1), some (.int x2), some (.int x3)]) (S' := []) (pc2 := 20) (L2 := [some (.ref 0), some (.int x1), some (.int x2), some (.int x3)]) (S2 := []) (h' := h) (h2 := h) rfl rfl (fun hc => ?_) (fun hc => ?_)
      · have hc := hc
        rw [if_pos hc] at H
        refine k_n 1 (pc' := 23) (L' := [some (.ref 0), some (.int x1), some (.int x2), some (.int x3)]) (S' := [.int x3]) (h' := h) rfl ?_
        refine k_b (g := 0 ≤ x3) (pc' := 29) (L' := [some (.ref 0), some (.int x1), some (.int x2), some (.int x3)]) (S' := []) (pc2 := 26) (L2 := [some (.ref 0), some (.int x1), some (.int x2), some (.int x3)]) (S2 := []) (h' := h) (h2 := h) rfl rfl (fun hc => ?_) (fun hc => ?_)
        · have hc := hc
          rw [if_pos hc] at H
          refine k_n 1 (pc' := 30) (L' := [some (.ref 0), some (.int x1), some (.int x2), some (.int x3)]) (S' := [.ref 0]) (h' := h) rfl ?_
          refine k_gS (b := 4) rfl W.t0 (W.abOf (t := 11) (j := 3) (o := 4) (n := 4) (by decide) W.t0).1 ?_
          refine k_n 1 (pc' := 34) (L' := [some (.ref 0), some (.int x1), some (.int x2), some (.int x3)]) (S' := [.int x1, .ref 4]) (h' := h) rfl ?_
          refine k_n 1 (pc' := 37) (L' := [some (.ref 0), some (.int x1), some (.int x2), some (.int x3)]) (S' := [.ref (z_nx h), .int x1, .ref 4]) (h' := (z_nw h 8 0 2)) rfl ?_
          have t1 : z_tg (z_nw h 8 0 2) 0 = 11 := CW.keep W W.t0 (by decide)
          have t2 : z_tg (z_nw h 8 0 2) 4 = 105 := CW.keep W (CW.tyOf (t := 11) (t' := 105) W (j := 3) W.t0 (W.abOf (t := 11) (j := 3) (o := 4) (n := 4) (by decide) W.t0).1 (by decide) rfl) (by decide)
          have t3 : z_tg (z_nw h 8 0 2) (z_nx h) = 8 := z_nw_at
          refine k_n 3 (pc' := 40) (L' := [some (.ref 0), some (.int x1), some (.int x2), some (.int x3)]) (S' := [.int x3, .int x2, .ref (z_nx h), .ref (z_nx h), .int x1, .ref 4]) (h' := (z_nw h 8 0 2)) rfl ?_
          refine k_cV 87 3 rfl rfl rfl (A := [.ref (z_nx h), .int x2, .int x3]) rfl rfl (z_rok_ref t3) (rest := [.ref (z_nx h), .int x1, .ref 4]) rfl rfl ?_
          exact H
        · have hc := hc
          rw [if_neg hc] at H
          refine k_n 1 (pc' := 28) (L' := [some (.ref 0), some (.int x1), some (.int x2), some (.int x3)]) (S' := [.int (-14 : Int32)]) (h' := h) rfl ?_
          exact k_r rfl rfl rfl H
      · have hc := hc
        rw [if_neg hc] at H
        refine k_n 1 (pc' := 21) (L' := [some (.ref 0), some (.int x1), some (.int x2), some (.int x3)]) (S' := [.int (-1 : Int32)]) (h' := h) rfl ?_
        exact k_r rfl rfl rfl H
set_option maxRecDepth 20000 in
theorem X_130_43 (y1 : Int32) (y2 : Int32) (y3 : Int32) (b0 : Nat) (s1 : Int32) (h : zH) (W : CW h) (Tb0 : z_tg h b0 = 8) (Tb2 : z_tg h 4 = 105) (Nb2 : z_ln h 4 = 4) {Q : Int32 → zH → Prop} (H : (0 ≤ s1.toInt ∧ s1.toInt < 4) ∧ Q (1 : Int32) (z_sR h 4 (z_ix s1) (some b0))) : KG z_pI 130 43 [some (.ref 0), some (.int y1), some (.int y2), some (.int y3)] [.ref b0, .int s1, .ref 4] h Q := by
  obtain ⟨o4, H⟩ := H
  refine k_as rfl Tb2 rfl Nb2 o4 Tb0 ?_
  refine k_n 1 (pc' := 45) (L' := [some (.ref 0), some (.int y1), some (.int y2), some (.int y3)]) (S' := [.int (1 : Int32)]) (h' := (z_sR h 4 (z_ix s1) (some b0))) rfl ?_
  exact k_r rfl rfl rfl H
set_option maxRecDepth 20000 in
theorem X_108 (x1 : Int32) (x2 : Int32) (h : zH) (W : CW h)  {Q : Int32 → zH → Prop} (H : if (0 : Int32) ≤ x1 ∧ x1 ≤ ((z_iv h 0 12) - (1 : Int32)) then (if (6 : Int32) ≤ x1 then (Q (-1 : Int32) h) else ((0 ≤ x1.toInt ∧ x1.toInt < 6) ∧ ((z_rv h 1 (z_ix x1) = none → Q (-1 : Int32) h) ∧ (∀ b5, z_rv h 1 (z_ix x1) = some b5 → (z_rv h b5 10 = none → if x2 = (0 : Int32) then (Q (z_iv h b5 5) h) else (if x2 = (1 : Int32) then (Q (z_iv h b5 6) h) else (if x2 = (2 : Int32) then (Q (-4 : Int32) h) else (if x2 = (3 : Int32) then (Q (-4 : Int32) h) else (if x2 = (4 : Int32) then (Q (z_iv h b5 7) h) else (if x2 = (5 : Int32) then ((z_rv h b5 10 = none → Q (0 : Int32) h) ∧ (∀ b16, z_rv h b5 10 = some b16 → if (z_iv h b16 10) = 0 then (Q ((z_iv h 0 11) - (z_iv h b16 13)) h) else (Q (0 : Int32) h))) else (Q (-1 : Int32) h))))))) ∧ (∀ b8, z_rv h b5 10 = some b8 → if (z_iv h b8 10) = 0 then (if x2 = (0 : Int32) then (Q (z_iv h b5 5) h) else (if x2 = (1 : Int32) then (Q (z_iv h b5 6) h) else (if x2 = (2 : Int32) then (Q (z_iv h b8 6) h) else (if x2 = (3 : Int32) then ((0 ≤ (s_fm (z_iv h 0 11) (12 : Int32)).toInt ∧ (s_fm (z_iv h 0 11) (12 : Int32)).toInt < 12) ∧ Q ((s_up ((z_iv h (b5 + 1) (z_ix (s_fm (z_iv h 0 11) (12 : Int32)))).toInt64 * (z_iv h b5 5).toInt64) ((z_iv h b8 1).toInt64)).toInt32) h) else (if x2 = (4 : Int32) then (Q (z_iv h b5 7) h) else (if x2 = (5 : Int32) then ((z_rv h b5 10 = none → Q (0 : Int32) h) ∧ (∀ b28, z_rv h b5 10 = some b28 → if (z_iv h b28 10) = 0 then (Q ((z_iv h 0 11) - (z_iv h b28 13)) h) else (Q (0 : Int32) h))) else (Q (-1 : Int32) h))))))) else (if x2 = (0 : Int32) then (Q (z_iv h b5 5) h) else (if x2 = (1 : Int32) then (Q (z_iv h b5 6) h) else (if x2 = (2 : Int32) then (Q (-4 : Int32) h) else (if x2 = (3 : Int32) then (Q (-4 : Int32) h) else (if x2 = (4 : Int32) then (Q (z_iv h b5 7) h) else (if x2 = (5 : Int32) then ((z_rv h b5 10 = none → Q (0 : Int32) h) ∧ (∀ b37, z_rv h b5 10 = some b37 → if (z_iv h b37 10) = 0 then (Q ((z_iv h 0 11) - (z_iv h b37 13)) h) else (Q (0 : Int32) h))) else (Q (-1 : Int32) h)))))))))))) else (Q (-1 : Int32) h)) : KK z_pI 108 [.ref 0, .int x1, .int x2] h Q := by
  refine k_K (L := [some (.ref 0), some (.int x1), some (.int x2), none, none]) rfl ?_
  refine k_n 2 (pc' := 2) (L' := [some (.ref 0), some (.int x1), some (.int x2), none, none]) (S' := [.int x1, .ref 0]) (h' := h) rfl ?_
  refine k_cA 148 2 "SavedThird$Mine" rfl rfl rfl (A := [.ref 0, .int x1]) rfl rfl (z_rok_ref W.t0) (rest := []) rfl rfl (by decide) ?_
  refine X_148 x1 h W  ?_
  by_cases c1 : (0 : Int32) ≤ x1 ∧ x1 ≤ ((z_iv h 0 12) - (1 : Int32))
  · rw [if_pos c1] at H ⊢
    by_cases c2 : (6 : Int32) ≤ x1
    · rw [if_pos c2] at H ⊢
      refine k_n 4 (pc' := 11) (L' := [some (.ref 0), some (.int x1), some (.int x2), some (.null), none]) (S' := [.int (-1 : Int32)]) (h' := h) rfl ?_
      exact k_r rfl rfl rfl H
    · rw [if_neg c2] at H ⊢
      obtain ⟨o3, H⟩ := H
      refine ⟨o3, ?_⟩
      refine ⟨fun hb4 => ?_, fun b5 hb4 => ?_⟩
      · have H := H.1 hb4
        refine k_n 4 (pc' := 11) (L' := [some (.ref 0), some (.int x1), some (.int x2), some (.null), none]) (S' := [.int (-1 : Int32)]) (h' := h) rfl ?_
        exact k_r rfl rfl rfl H
      · have H := H.2 b5 hb4
        have t6 : z_tg h b5 = 4 := (CW.tyOf (t := 102) (t' := 4) W (CW.tyOf (t := 11) (t' := 102) W (j := 0) W.t0 (W.abOf (t := 11) (j := 0) (o := 1) (n := 6) (by decide) W.t0).1 (by decide) rfl) hb4 (by decide) rfl)
        refine k_n 4 (pc' := 13) (L' := [some (.ref 0), some (.int x1), some (.int x2), some (.ref b5), none]) (S' := [.ref b5]) (h' := h) rfl ?_
        refine k_cA 44 1 "SavedThird$Engine" rfl rfl rfl (A := [.ref b5]) rfl rfl (z_rok_ref t6) (rest := []) rfl rfl (by decide) ?_
        refine X_44 b5 h W t6 ?_
        refine ⟨fun hb7 => ?_, fun b8 hb7 => ?_⟩
        · have H := H.1 hb7
          refine k_n 2 (pc' := 19) (L' := [some (.ref 0), some (.int x1), some (.int x2), some (.ref b5), some (.null)]) (S' := [.int x2]) (h' := h) rfl ?_
          by_cases w9 : x2 = (0 : Int32)
          · rw [if_pos w9] at H
            refine k_sw (pc' := 56) rfl (congrArg (z_tgt 19) (z_swT (k := (0 : Int32)) w9 rfl)) ?_
            refine k_n 1 (pc' := 57) (L' := [some (.ref 0), some (.int x1), some (.int x2), some (.ref b5), some (.null)]) (S' := [.ref b5]) (h' := h) rfl ?_
            refine k_gI rfl rfl t6 ?_
            exact k_r rfl rfl rfl H
          rw [if_neg w9] at H
          by_cases w10 : x2 = (1 : Int32)
          · rw [if_pos w10] at H
            refine k_sw (pc' := 61) rfl (congrArg (z_tgt 19) (z_swN (k := (0 : Int32)) w9 rfl (z_swT (k := (1 : Int32)) w10 rfl))) ?_
            refine k_n 1 (pc' := 62) (L' := [some (.ref 0), some (.int x1), some (.int x2), some (.ref b5), some (.null)]) (S' := [.ref b5]) (h' := h) rfl ?_
            refine k_gI rfl rfl t6 ?_
            exact k_r rfl rfl rfl H
          rw [if_neg w10] at H
          by_cases w11 : x2 = (2 : Int32)
          · rw [if_pos w11] at H
            refine k_sw (pc' := 66) rfl (congrArg (z_tgt 19) (z_swN (k := (0 : Int32)) w9 rfl (z_swN (k := (1 : Int32)) w10 rfl (z_swT (k := (2 : Int32)) w11 rfl)))) ?_
            refine k_n 4 (pc' := 81) (L' := [some (.ref 0), some (.int x1), some (.int x2), some (.ref b5), some (.null)]) (S' := [.int (-4 : Int32)]) (h' := h) rfl ?_
            exact k_r rfl rfl rfl H
          rw [if_neg w11] at H
          by_cases w12 : x2 = (3 : Int32)
          · rw [if_pos w12] at H
            refine k_sw (pc' := 82) rfl (congrArg (z_tgt 19) (z_swN (k := (0 : Int32)) w9 rfl (z_swN (k := (1 : Int32)) w10 rfl (z_swN (k := (2 : Int32)) w11 rfl (z_swT (k := (3 : Int32)) w12 rfl))))) ?_
            refine k_n 4 (pc' := 109) (L' := [some (.ref 0), some (.int x1), some (.int x2), some (.ref b5), some (.null)]) (S' := [.int (-4 : Int32)]) (h' := h) rfl ?_
            exact k_r rfl rfl rfl H
          rw [if_neg w12] at H
          by_cases w13 : x2 = (4 : Int32)
          · rw [if_pos w13] at H
            refine k_sw (pc' := 110) rfl (congrArg (z_tgt 19) (z_swN (k := (0 : Int32)) w9 rfl (z_swN (k := (1 : Int32)) w10 rfl (z_swN (k := (2 : Int32)) w11 rfl (z_swN (k := (3 : Int32)) w12 rfl (z_swT (k := (4 : Int32)) w13 rfl)))))) ?_
            refine k_n 1 (pc' := 111) (L' := [some (.ref 0), some (.int x1), some (.int x2), some (.ref b5), some (.null)]) (S' := [.ref b5]) (h' := h) rfl ?_
            refine k_gI rfl rfl t6 ?_
            exact k_r rfl rfl rfl H
          rw [if_neg w13] at H
          by_cases w14 : x2 = (5 : Int32)
          · rw [if_pos w14] at H
            refine k_sw (pc' := 115) rfl (congrArg (z_tgt 19) (z_swN (k := (0 : Int32)) w9 rfl (z_swN (k := (1 : Int32)) w10 rfl (z_swN (k := (2 : Int32)) w11 rfl (z_swN (k := (3 : Int32)) w12 rfl (z_swN (k := (4 : Int32)) w13 rfl (z_swT (k := (5 : Int32)) w14 rfl))))))) ?_
            refine k_n 2 (pc' := 117) (L' := [some (.ref 0), some (.int x1), some (.int x2), some (.ref b5), some (.null)]) (S' := [.ref 0, .ref b5]) (h' := h) rfl ?_
            refine k_gI rfl rfl W.t0 ?_
            refine k_cI 46 2 rfl rfl rfl (A := [.ref b5, .int (z_iv h 0 11)]) rfl rfl (z_rok_ref t6) (rest := []) rfl (z_tyI rfl rfl) ?_
            refine X_46 b5 (z_iv h 0 11) h W t6 ?_
            refine ⟨fun hb15 => ?_, fun b16 hb15 => ?_⟩
            · have H := H.1 hb15
              exact k_r rfl rfl rfl H
            · have H := H.2 b16 hb15
              by_cases c17 : (z_iv h b16 10) = 0
              · rw [if_pos c17] at H ⊢
                exact k_r rfl rfl rfl H
              · rw [if_neg c17] at H ⊢
                exact k_r rfl rfl rfl H
          rw [if_neg w14] at H
          refine k_sw (pc' := 124) rfl (congrArg (z_tgt 19) (z_swN (k := (0 : Int32)) w9 rfl (z_swN (k := (1 : Int32)) w10 rfl (z_swN (k := (2 : Int32)) w11 rfl (z_swN (k := (3 : Int32)) w12 rfl (z_swN (k := (4 : Int32)) w13 rfl (z_swN (k := (5 : Int32)) w14 rfl rfl))))))) ?_
          refine k_n 1 (pc' := 125) (L' := [some (.ref 0), some (.int x1), some (.int x2), some (.ref b5), some (.null)]) (S' := [.int (-1 : Int32)]) (h' := h) rfl ?_
          exact k_r rfl rfl rfl H
        · have H := H.2 b8 hb7
          by_cases c18 : (z_iv h b8 10) = 0
          · rw [if_pos c18] at H ⊢
            have t19 : z_tg h b8 = 3 := (CW.tyOf (t := 4) (t' := 3) W t6 hb7 (by decide) rfl)
            refine k_n 2 (pc' := 19) (L' := [some (.ref 0), some (.int x1), some (.int x2), some (.ref b5), some (.ref b8)]) (S' := [.int x2]) (h' := h) rfl ?_
            by_cases w20 : x2 = (0 : Int32)
            · rw [if_pos w20] at H
              refine k_sw (pc' := 56) rfl (congrArg (z_tgt 19) (z_swT (k := (0 : Int32)) w20 rfl)) ?_
              refine k_n 1 (pc' := 57) (L' := [some (.ref 0), some (.int x1), some (.int x2), some (.ref b5), some (.ref b8)]) (S' := [.ref b5]) (h' := h) rfl ?_
              refine k_gI rfl rfl t6 ?_
              exact k_r rfl rfl rfl H
            rw [if_neg w20] at H
            by_cases w21 : x2 = (1 : Int32)
            · rw [if_pos w21] at H
              refine k_sw (pc' := 61) rfl (congrArg (z_tgt 19) (z_swN (k := (0 : Int32)) w20 rfl (z_swT (k := (1 : Int32)) w21 rfl))) ?_
              refine k_n 1 (pc' := 62) (L' := [some (.ref 0), some (.int x1), some (.int x2), some (.ref b5), some (.ref b8)]) (S' := [.ref b5]) (h' := h) rfl ?_
              refine k_gI rfl rfl t6 ?_
              exact k_r rfl rfl rfl H
            rw [if_neg w21] at H
            by_cases w22 : x2 = (2 : Int32)
            · rw [if_pos w22] at H
              refine k_sw (pc' := 66) rfl (congrArg (z_tgt 19) (z_swN (k := (0 : Int32)) w20 rfl (z_swN (k := (1 : Int32)) w21 rfl (z_swT (k := (2 : Int32)) w22 rfl)))) ?_
              refine k_n 3 (pc' := 78) (L' := [some (.ref 0), some (.int x1), some (.int x2), some (.ref b5), some (.ref b8)]) (S' := [.ref b8]) (h' := h) rfl ?_
              refine k_gI rfl rfl t19 ?_
              exact k_r rfl rfl rfl H
            rw [if_neg w22] at H
            by_cases w23 : x2 = (3 : Int32)
            · rw [if_pos w23] at H
              refine k_sw (pc' := 82) rfl (congrArg (z_tgt 19) (z_swN (k := (0 : Int32)) w20 rfl (z_swN (k := (1 : Int32)) w21 rfl (z_swN (k := (2 : Int32)) w22 rfl (z_swT (k := (3 : Int32)) w23 rfl))))) ?_
              refine k_n 5 (pc' := 96) (L' := [some (.ref 0), some (.int x1), some (.int x2), some (.ref b5), some (.ref b8)]) (S' := [.ref 0, .ref b5, .ref b8]) (h' := h) rfl ?_
              refine k_gI rfl rfl W.t0 ?_
              refine k_cI 45 2 rfl rfl rfl (A := [.ref b5, .int (z_iv h 0 11)]) rfl rfl (z_rok_ref t6) (rest := [.ref b8]) rfl (z_tyI rfl rfl) ?_
              obtain ⟨o24, H⟩ := H
              refine C_45 b5 (z_iv h 0 11) h W t6 o24 ?_
              refine k_n 1 (pc' := 103) (L' := [some (.ref 0), some (.int x1), some (.int x2), some (.ref b5), some (.ref b8)]) (S' := [.ref b5, .int (z_iv h (b5 + 1) (z_ix (s_fm (z_iv h 0 11) (12 : Int32)))), .ref b8]) (h' := h) rfl ?_
              refine k_gI rfl rfl t6 ?_
              refine k_cI 39 3 rfl rfl rfl (A := [.ref b8, .int (z_iv h (b5 + 1) (z_ix (s_fm (z_iv h 0 11) (12 : Int32)))), .int (z_iv h b5 5)]) rfl rfl (z_rok_ref t19) (rest := []) rfl (z_tyI rfl rfl) ?_
              refine C_39 b8 (z_iv h (b5 + 1) (z_ix (s_fm (z_iv h 0 11) (12 : Int32)))) (z_iv h b5 5) h W t19  ?_
              exact k_r rfl rfl rfl H
            rw [if_neg w23] at H
            by_cases w25 : x2 = (4 : Int32)
            · rw [if_pos w25] at H
              refine k_sw (pc' := 110) rfl (congrArg (z_tgt 19) (z_swN (k := (0 : Int32)) w20 rfl (z_swN (k := (1 : Int32)) w21 rfl (z_swN (k := (2 : Int32)) w22 rfl (z_swN (k := (3 : Int32)) w23 rfl (z_swT (k := (4 : Int32)) w25 rfl)))))) ?_
              refine k_n 1 (pc' := 111) (L' := [some (.ref 0), some (.int x1), some (.int x2), some (.ref b5), some (.ref b8)]) (S' := [.ref b5]) (h' := h) rfl ?_
              refine k_gI rfl rfl t6 ?_
              exact k_r rfl rfl rfl H
            rw [if_neg w25] at H
            by_cases w26 : x2 = (5 : Int32)
            · rw [if_pos w26] at H
              refine k_sw (pc' := 115) rfl (congrArg (z_tgt 19) (z_swN (k := (0 : Int32)) w20 rfl (z_swN (k := (1 : Int32)) w21 rfl (z_swN (k := (2 : Int32)) w22 rfl (z_swN (k := (3 : Int32)) w23 rfl (z_swN (k := (4 : Int32)) w25 rfl (z_swT (k := (5 : Int32)) w26 rfl))))))) ?_
              refine k_n 2 (pc' := 117) (L' := [some (.ref 0), some (.int x1), some (.int x2), some (.ref b5), some (.ref b8)]) (S' := [.ref 0, .ref b5]) (h' := h) rfl ?_
              refine k_gI rfl rfl W.t0 ?_
              refine k_cI 46 2 rfl rfl rfl (A := [.ref b5, .int (z_iv h 0 11)]) rfl rfl (z_rok_ref t6) (rest := []) rfl (z_tyI rfl rfl) ?_
              refine X_46 b5 (z_iv h 0 11) h W t6 ?_
              refine ⟨fun hb27 => ?_, fun b28 hb27 => ?_⟩
              · have H := H.1 hb27
                exact k_r rfl rfl rfl H
              · have H := H.2 b28 hb27
                by_cases c29 : (z_iv h b28 10) = 0
                · rw [if_pos c29] at H ⊢
                  exact k_r rfl rfl rfl H
                · rw [if_neg c29] at H ⊢
                  exact k_r rfl rfl rfl H
            rw [if_neg w26] at H
            refine k_sw (pc' := 124) rfl (congrArg (z_tgt 19) (z_swN (k := (0 : Int32)) w20 rfl (z_swN (k := (1 : Int32)) w21 rfl (z_swN (k := (2 : Int32)) w22 rfl (z_swN (k := (3 : Int32)) w23 rfl (z_swN (k := (4 : Int32)) w25 rfl (z_swN (k := (5 : Int32)) w26 rfl rfl))))))) ?_
            refine k_n 1 (pc' := 125) (L' := [some (.ref 0), some (.int x1), some (.int x2), some (.ref b5), some (.ref b8)]) (S' := [.int (-1 : Int32)]) (h' := h) rfl ?_
            exact k_r rfl rfl rfl H
          · rw [if_neg c18] at H ⊢
            refine k_n 2 (pc' := 19) (L' := [some (.ref 0), some (.int x1), some (.int x2), some (.ref b5), some (.null)]) (S' := [.int x2]) (h' := h) rfl ?_
            by_cases w30 : x2 = (0 : Int32)
            · rw [if_pos w30] at H
              refine k_sw (pc' := 56) rfl (congrArg (z_tgt 19) (z_swT (k := (0 : Int32)) w30 rfl)) ?_
              refine k_n 1 (pc' := 57) (L' := [some (.ref 0), some (.int x1), some (.int x2), some (.ref b5), some (.null)]) (S' := [.ref b5]) (h' := h) rfl ?_
              refine k_gI rfl rfl t6 ?_
              exact k_r rfl rfl rfl H
            rw [if_neg w30] at H
            by_cases w31 : x2 = (1 : Int32)
            · rw [if_pos w31] at H
              refine k_sw (pc' := 61) rfl (congrArg (z_tgt 19) (z_swN (k := (0 : Int32)) w30 rfl (z_swT (k := (1 : Int32)) w31 rfl))) ?_
              refine k_n 1 (pc' := 62) (L' := [some (.ref 0), some (.int x1), some (.int x2), some (.ref b5), some (.null)]) (S' := [.ref b5]) (h' := h) rfl ?_
              refine k_gI rfl rfl t6 ?_
              exact k_r rfl rfl rfl H
            rw [if_neg w31] at H
            by_cases w32 : x2 = (2 : Int32)
            · rw [if_pos w32] at H
              refine k_sw (pc' := 66) rfl (congrArg (z_tgt 19) (z_swN (k := (0 : Int32)) w30 rfl (z_swN (k := (1 : Int32)) w31 rfl (z_swT (k := (2 : Int32)) w32 rfl)))) ?_
              refine k_n 4 (pc' := 81) (L' := [some (.ref 0), some (.int x1), some (.int x2), some (.ref b5), some (.null)]) (S' := [.int (-4 : Int32)]) (h' := h) rfl ?_
              exact k_r rfl rfl rfl H
            rw [if_neg w32] at H
            by_cases w33 : x2 = (3 : Int32)
            · rw [if_pos w33] at H
              refine k_sw (pc' := 82) rfl (congrArg (z_tgt 19) (z_swN (k := (0 : Int32)) w30 rfl (z_swN (k := (1 : Int32)) w31 rfl (z_swN (k := (2 : Int32)) w32 rfl (z_swT (k := (3 : Int32)) w33 rfl))))) ?_
              refine k_n 4 (pc' := 109) (L' := [some (.ref 0), some (.int x1), some (.int x2), some (.ref b5), some (.null)]) (S' := [.int (-4 : Int32)]) (h' := h) rfl ?_
              exact k_r rfl rfl rfl H
            rw [if_neg w33] at H
            by_cases w34 : x2 = (4 : Int32)
            · rw [if_pos w34] at H
              refine k_sw (pc' := 110) rfl (congrArg (z_tgt 19) (z_swN (k := (0 : Int32)) w30 rfl (z_swN (k := (1 : Int32)) w31 rfl (z_swN (k := (2 : Int32)) w32 rfl (z_swN (k := (3 : Int32)) w33 rfl (z_swT (k := (4 : Int32)) w34 rfl)))))) ?_
              refine k_n 1 (pc' := 111) (L' := [some (.ref 0), some (.int x1), some (.int x2), some (.ref b5), some (.null)]) (S' := [.ref b5]) (h' := h) rfl ?_
              refine k_gI rfl rfl t6 ?_
              exact k_r rfl rfl rfl H
            rw [if_neg w34] at H
            by_cases w35 : x2 = (5 : Int32)
            · rw [if_pos w35] at H
              refine k_sw (pc' := 115) rfl (congrArg (z_tgt 19) (z_swN (k := (0 : Int32)) w30 rfl (z_swN (k := (1 : Int32)) w31 rfl (z_swN (k := (2 : Int32)) w32 rfl (z_swN (k := (3 : Int32)) w33 rfl (z_swN (k := (4 : Int32)) w34 rfl (z_swT (k := (5 : Int32)) w35 rfl))))))) ?_
              refine k_n 2 (pc' := 117) (L' := [some (.ref 0), some (.int x1), some (.int x2), some (.ref b5), some (.null)]) (S' := [.ref 0, .ref b5]) (h' := h) rfl ?_
              refine k_gI rfl rfl W.t0 ?_
              refine k_cI 46 2 rfl rfl rfl (A := [.ref b5, .int (z_iv h 0 11)]) rfl rfl (z_rok_ref t6) (rest := []) rfl (z_tyI rfl rfl) ?_
              refine X_46 b5 (z_iv h 0 11) h W t6 ?_
              refine ⟨fun hb36 => ?_, fun b37 hb36 => ?_⟩
              · have H := H.1 hb36
                exact k_r rfl rfl rfl H
              · have H := H.2 b37 hb36
                by_cases c38 : (z_iv h b37 10) = 0
                · rw [if_pos c38] at H ⊢
                  exact k_r rfl rfl rfl H
                · rw [if_neg c38] at H ⊢
                  exact k_r rfl rfl rfl H
            rw [if_neg w35] at H
            refine k_sw (pc' := 124) rfl (congrArg (z_tgt 19) (z_swN (k := (0 : Int32)) w30 rfl (z_swN (k := (1 : Int32)) w31 rfl (z_swN (k := (2 : Int32)) w32 rfl (z_swN (k := (3 : Int32)) w33 rfl (z_swN (k := (4 : Int32)) w34 rfl (z_swN (k := (5 : Int32)) w35 rfl rfl))))))) ?_
            refine k_n 1 (pc' := 125) (L' := [some (.ref 0), some (.int x1), some (.int x2), some (.ref b5), some (.null)]) (S' := [.int (-1 : Int32)]) (h' := h) rfl ?_
            exact k_r rfl rfl rfl H
  · rw [if_neg c1] at H ⊢
    refine k_n 4 (pc' := 11) (L' := [some (.ref 0), some (.int x1), some (.int x2), some (.null), none]) (S' := [.int (-1 : Int32)]) (h' := h) rfl ?_
    exact k_r rfl rfl rfl H
set_option maxRecDepth 20000 in
theorem X_51 (a0 : Nat) (x1 : Int32) (x2 : Int32) (x3 : Int32) (h : zH) (W : CW h) (T0 : z_tg h a0 = 4) {Q : Int32 → zH → Prop} (H : KG z_pI 51 10 [some (.ref a0), some (.int x1), some (.int x2), some (.int x3), some (.long x2.toInt64), none, some (.int (0 : Int32)), some (.int (0 : Int32)), none, none] [] h Q) : KK z_pI 51 [.ref a0, .int x1, .int x2, .int x3] h Q := by
  refine k_K (L := [some (.ref a0), some (.int x1), some (.int x2), some (.int x3), none, none, none, none, none, none]) rfl ?_
  refine k_n 7 (pc' := 10) (L' := [some (.ref a0), some (.int x1), some (.int x2), some (.int x3), some (.long x2.toInt64), none, some (.int (0 : Int32)), some (.int (0 : Int32)), none, none]) (S' := []) (h' := h) rfl ?_
  exact H
set_option maxRecDepth 20000 in
theorem X_51_10 (a0 : Nat) (y1 : Int32) (y2 : Int32) (y3 : Int32) (y4 : Int64) (y6 : Int32) (y7 : Int32) (u8 : Option Value) (u9 : Option Value) (h : zH) (W : CW h) (Ta0 : z_tg h a0 = 4) {Q : Int32 → zH → Prop} (H : if (8 : Int32) ≤ y7 then ((((0 : Int32) ≤ y1 ∧ y1 ≤ (7 : Int32)) → 0 ≤ y1.toInt ∧ y1.toInt < 8) ∧ (((0 : Int32) ≤ y1 ∧ y1 ≤ (7 : Int32)) → 0 ≤ y1.toInt ∧ y1.toInt < 8) ∧ (∀ m7 : Int64, m7 = (if ¬ ((if (0 : Int32) ≤ y1 ∧ y1 ≤ (7 : Int32) then (z_iv h (a0 + 2) (z_ix y1)) else (0 : Int32)) ≤ 0) ∧ (¬ (y4 ≤ y6.toInt64)) then ((s_dn (y2.toInt64 * (if (0 : Int32) ≤ y1 ∧ y1 ≤ (7 : Int32) then (z_iv h (a0 + 2) (z_ix y1)) else (0 : Int32)).toInt64) y3.toInt64) + (1 : Int64)) else (s_dn (y2.toInt64 * (if (0 : Int32) ≤ y1 ∧ y1 ≤ (7 : Int32) then (z_iv h (a0 + 2) (z_ix y1)) else (0 : Int32)).toInt64) y3.toInt64)) → Q m7.toInt32 h)) else ((((0 : Int32) ≤ y7 ∧ y7 ≤ (7 : Int32)) → 0 ≤ y7.toInt ∧ y7.toInt < 8) ∧ (¬ (y1 ≤ y7) → 0 ≤ y7.toInt ∧ y7.toInt < 8) ∧ (∀ m13 : Int32, m13 = (if y1 ≤ y7 then y6 else (if (z_iv h (a0 + 2) (z_ix y7)) ≤ 0 then y6 else (y6 + (1 : Int32)))) → KG z_pI 51 10 [some (.ref a0), some (.int y1), some (.int y2), some (.int y3), some (.long (y4 - (s_dn (y2.toInt64 * (if (0 : Int32) ≤ y7 ∧ y7 ≤ (7 : Int32) then (z_iv h (a0 + 2) (z_ix y7)) else (0 : Int32)).toInt64) y3.toInt64))), none, some (.int m13), some (.int (y7 + (1 : Int32))), u8, u9] [] h Q))) : KG z_pI 51 10 [some (.ref a0), some (.int y1), some (.int y2), some (.int y3), some (.long y4), none, some (.int y6), some (.int y7), u8, u9] [] h Q := by
  refine k_n 2 (pc' := 14) (L' := [some (.ref a0), some (.int y1), some (.int y2), some (.int y3), some (.long y4), none, some (.int y6), some (.int y7), u8, u9]) (S' := [.int (8 : Int32), .int y7]) (h' := h) rfl ?_
  refine k_b (g := (8 : Int32) ≤ y7) (pc' := 55) (L' := [some (.ref a0), some (.int y1), some (.int y2), some (.int y3), some (.long y4), none, some (.int y6), some (.int y7), u8, u9]) (S' := []) (pc2 := 17) (L2 := [some (.ref a0), some (.int y1), some (.int y2), some (.int y3), some (.long y4), none, some (.int y6), some (.int y7), u8, u9]) (S2 := []) (h' := h) (h2 := h) rfl rfl (fun hc => ?_) (fun hc => ?_)
  · have hc := hc
    rw [if_pos hc] at H
    refine k_n 4 (pc' := 59) (L' := [some (.ref a0), some (.int y1), some (.int y2), some (.int y3), some (.long y4), none, some (.int y6), some (.int y7), u8, u9]) (S' := [.int y3, .int y2, .int y1, .ref a0]) (h' := h) rfl ?_
    refine k_cL 52 4 rfl rfl rfl (A := [.ref a0, .int y1, .int y2, .int y3]) rfl rfl (z_rok_ref Ta0) (rest := []) rfl rfl ?_
    obtain ⟨o1, H⟩ := H
    refine C_52 a0 y1 y2 y3 h W Ta0 o1 ?_
    refine k_n 3 (pc' := 66) (L' := [some (.ref a0), some (.int y1), some (.int y2), some (.int y3), some (.long y4), none, some (.int y6), some (.long (s_dn (y2.toInt64 * (if (0 : Int32) ≤ y1 ∧ y1 ≤ (7 : Int32) then (z_iv h (a0 + 2) (z_ix y1)) else (0 : Int32)).toInt64) y3.toInt64)), none, u9]) (S' := [.int y1, .ref a0]) (h' := h) rfl ?_
    refine k_cI 53 2 rfl rfl rfl (A := [.ref a0, .int y1]) rfl rfl (z_rok_ref Ta0) (rest := []) rfl (z_tyI rfl rfl) ?_
    obtain ⟨o2, H⟩ := H
    refine C_53 a0 y1 h W Ta0 o2 ?_
    have hj5 : KG z_pI 51 86 [some (.ref a0), some (.int y1), some (.int y2), some (.int y3), some (.long y4), none, some (.int y6), some (.long (s_dn (y2.toInt64 * (if (0 : Int32) ≤ y1 ∧ y1 ≤ (7 : Int32) then (z_iv h (a0 + 2) (z_ix y1)) else (0 : Int32)).toInt64) y3.toInt64)), none, u9] [.int (z_bt (¬ ((if (0 : Int32) ≤ y1 ∧ y1 ≤ (7 : Int32) then (z_iv h (a0 + 2) (z_ix y1)) else (0 : Int32)) ≤ 0) ∧ (¬ (y4 ≤ y6.toInt64))))] h Q := by
      refine k_n 2 (pc' := 90) (L' := [some (.ref a0), some (.int y1), some (.int y2), some (.int y3), some (.long y4), none, some (.int y6), some (.long (s_dn (y2.toInt64 * (if (0 : Int32) ≤ y1 ∧ y1 ≤ (7 : Int32) then (z_iv h (a0 + 2) (z_ix y1)) else (0 : Int32)).toInt64) y3.toInt64)), none, some (.int (z_bt (¬ ((if (0 : Int32) ≤ y1 ∧ y1 ≤ (7 : Int32) then (z_iv h (a0 + 2) (z_ix y1)) else (0 : Int32)) ≤ 0) ∧ (¬ (y4 ≤ y6.toInt64)))))]) (S' := [.int (z_bt (¬ ((if (0 : Int32) ≤ y1 ∧ y1 ≤ (7 : Int32) then (z_iv h (a0 + 2) (z_ix y1)) else (0 : Int32)) ≤ 0) ∧ (¬ (y4 ≤ y6.toInt64))))]) (h' := h) rfl ?_
      obtain ⟨m7, em7⟩ : ∃ m : Int64, m = (if ¬ ((if (0 : Int32) ≤ y1 ∧ y1 ≤ (7 : Int32) then (z_iv h (a0 + 2) (z_ix y1)) else (0 : Int32)) ≤ 0) ∧ (¬ (y4 ≤ y6.toInt64)) then ((s_dn (y2.toInt64 * (if (0 : Int32) ≤ y1 ∧ y1 ≤ (7 : Int32) then (z_iv h (a0 + 2) (z_ix y1)) else (0 : Int32)).toInt64) y3.toInt64) + (1 : Int64)) else (s_dn (y2.toInt64 * (if (0 : Int32) ≤ y1 ∧ y1 ≤ (7 : Int32) then (z_iv h (a0 + 2) (z_ix y1)) else (0 : Int32)).toInt64) y3.toInt64)) := ⟨_, rfl⟩
      have H := H m7 em7
      have hj8 : KG z_pI 51 102 [some (.ref a0), some (.int y1), some (.int y2), some (.int y3), some (.long y4), none, some (.int y6), some (.long (s_dn (y2.toInt64 * (if (0 : Int32) ≤ y1 ∧ y1 ≤ (7 : Int32) then (z_iv h (a0 + 2) (z_ix y1)) else (0 : Int32)).toInt64) y3.toInt64)), none, some (.int (z_bt (¬ ((if (0 : Int32) ≤ y1 ∧ y1 ≤ (7 : Int32) then (z_iv h (a0 + 2) (z_ix y1)) else (0 : Int32)) ≤ 0) ∧ (¬ (y4 ≤ y6.toInt64)))))] [.long m7] h Q := by
        refine k_n 1 (pc' := 103) (L' := [some (.ref a0), some (.int y1), some (.int y2), some (.int y3), some (.long y4), none, some (.int y6), some (.long (s_dn (y2.toInt64 * (if (0 : Int32) ≤ y1 ∧ y1 ≤ (7 : Int32) then (z_iv h (a0 + 2) (z_ix y1)) else (0 : Int32)).toInt64) y3.toInt64)), none, some (.int (z_bt (¬ ((if (0 : Int32) ≤ y1 ∧ y1 ≤ (7 : Int32) then (z_iv h (a0 + 2) (z_ix y1)) else (0 : Int32)) ≤ 0) ∧ (¬ (y4 ≤ y6.toInt64)))))]) (S' := [.int m7.toInt32]) (h' := h) rfl ?_
        exact k_r rfl rfl rfl H
      refine k_b (g := z_bt (¬ ((if (0 : Int32) ≤ y1 ∧ y1 ≤ (7 : Int32) then (z_iv h (a0 + 2) (z_ix y1)) else (0 : Int32)) ≤ 0) ∧ (¬ (y4 ≤ y6.toInt64))) = 0) (pc' := 100) (L' := [some (.ref a0), some (.int y1), some (.int y2), some (.int y3), some (.long y4), none, some (.int y6), some (.long (s_dn (y2.toInt64 * (if (0 : Int32) ≤ y1 ∧ y1 ≤ (7 : Int32) then (z_iv h (a0 + 2) (z_ix y1)) else (0 : Int32)).toInt64) y3.toInt64)), none, some (.int (z_bt (¬ ((if (0 : Int32) ≤ y1 ∧ y1 ≤ (7 : Int32) then (z_iv h (a0 + 2) (z_ix y1)) else (0 : Int32)) ≤ 0) ∧ (¬ (y4 ≤ y6.toInt64)))))]) (S' := []) (pc2 := 93) (L2 := [some (.ref a0), some (.int y1), some (.int y2), some (.int y3), some (.long y4), none, some (.int y6), some (.long (s_dn (y2.toInt64 * (if (0 : Int32) ≤ y1 ∧ y1 ≤ (7 : Int32) then (z_iv h (a0 + 2) (z_ix y1)) else (0 : Int32)).toInt64) y3.toInt64)), none, some (.int (z_bt (¬ ((if (0 : Int32) ≤ y1 ∧ y1 ≤ (7 : Int32) then (z_iv h (a0 + 2) (z_ix y1)) else (0 : Int32)) ≤ 0) ∧ (¬ (y4 ≤ y6.toInt64)))))]) (S2 := []) (h' := h) (h2 := h) rfl rfl (fun hc => ?_) (fun hc => ?_)
      · have c6 := z_bt_0.mp hc
        refine k_n 1 (pc' := 102) (L' := [some (.ref a0), some (.int y1), some (.int y2), some (.int y3), some (.long y4), none, some (.int y6), some (.long (s_dn (y2.toInt64 * (if (0 : Int32) ≤ y1 ∧ y1 ≤ (7 : Int32) then (z_iv h (a0 + 2) (z_ix y1)) else (0 : Int32)).toInt64) y3.toInt64)), none, some (.int (z_bt (¬ ((if (0 : Int32) ≤ y1 ∧ y1 ≤ (7 : Int32) then (z_iv h (a0 + 2) (z_ix y1)) else (0 : Int32)) ≤ 0) ∧ (¬ (y4 ≤ y6.toInt64)))))]) (S' := [.long (s_dn (y2.toInt64 * (if (0 : Int32) ≤ y1 ∧ y1 ≤ (7 : Int32) then (z_iv h (a0 + 2) (z_ix y1)) else (0 : Int32)).toInt64) y3.toInt64)]) (h' := h) rfl ?_
        rw [(em7.trans (by rw [if_neg c6]) : m7 = (s_dn (y2.toInt64 * (if (0 : Int32) ≤ y1 ∧ y1 ≤ (7 : Int32) then (z_iv h (a0 + 2) (z_ix y1)) else (0 : Int32)).toInt64) y3.toInt64))] at hj8
        exact hj8
      · have c6 := Decidable.not_not.mp (fun q => hc (z_bt_0.mpr q))
        refine k_n 4 (pc' := 102) (L' := [some (.ref a0), some (.int y1), some (.int y2), some (.int y3), some (.long y4), none, some (.int y6), some (.long (s_dn (y2.toInt64 * (if (0 : Int32) ≤ y1 ∧ y1 ≤ (7 : Int32) then (z_iv h (a0 + 2) (z_ix y1)) else (0 : Int32)).toInt64) y3.toInt64)), none, some (.int (z_bt (¬ ((if (0 : Int32) ≤ y1 ∧ y1 ≤ (7 : Int32) then (z_iv h (a0 + 2) (z_ix y1)) else (0 : Int32)) ≤ 0) ∧ (¬ (y4 ≤ y6.toInt64)))))]) (S' := [.long ((s_dn (y2.toInt64 * (if (0 : Int32) ≤ y1 ∧ y1 ≤ (7 : Int32) then (z_iv h (a0 + 2) (z_ix y1)) else (0 : Int32)).toInt64) y3.toInt64) + (1 : Int64))]) (h' := h) rfl ?_
        rw [(em7.trans (by rw [if_pos c6]) : m7 = ((s_dn (y2.toInt64 * (if (0 : Int32) ≤ y1 ∧ y1 ≤ (7 : Int32) then (z_iv h (a0 + 2) (z_ix y1)) else (0 : Int32)).toInt64) y3.toInt64) + (1 : Int64)))] at hj8
        exact hj8
    refine k_b (g := (if (0 : Int32) ≤ y1 ∧ y1 ≤ (7 : Int32) then (z_iv h (a0 + 2) (z_ix y1)) else (0 : Int32)) ≤ 0) (pc' := 85) (L' := [some (.ref a0), some (.int y1), some (.int y2), some (.int y3), some (.long y4), none, some (.int y6), some (.long (s_dn (y2.toInt64 * (if (0 : Int32) ≤ y1 ∧ y1 ≤ (7 : Int32) then (z_iv h (a0 + 2) (z_ix y1)) else (0 : Int32)).toInt64) y3.toInt64)), none, u9]) (S' := []) (pc2 := 72) (L2 := [some (.ref a0), some (.int y1), some (.int y2), some (.int y3), some (.long y4), none, some (.int y6), some (.long (s_dn (y2.toInt64 * (if (0 : Int32) ≤ y1 ∧ y1 ≤ (7 : Int32) then (z_iv h (a0 + 2) (z_ix y1)) else (0 : Int32)).toInt64) y3.toInt64)), none, u9]) (S2 := []) (h' := h) (h2 := h) rfl rfl (fun hc => ?_) (fun hc => ?_)
    · have c3 := hc
      refine k_n 1 (pc' := 86) (L' := [some (.ref a0), some (.int y1), some (.int y2), some (.int y3), some (.long y4), none, some (.int y6), some (.long (s_dn (y2.toInt64 * (if (0 : Int32) ≤ y1 ∧ y1 ≤ (7 : Int32) then (z_iv h (a0 + 2) (z_ix y1)) else (0 : Int32)).toInt64) y3.toInt64)), none, u9]) (S' := [.int (0 : Int32)]) (h' := h) rfl ?_
      rw [show z_bt (¬ ((if (0 : Int32) ≤ y1 ∧ y1 ≤ (7 : Int32) then (z_iv h (a0 + 2) (z_ix y1)) else (0 : Int32)) ≤ 0) ∧ (¬ (y4 ≤ y6.toInt64))) = 0 from z_bt_0.mpr ((fun q => q.1 c3))] at hj5
      exact hj5
    · have c3 := hc
      refine k_n 4 (pc' := 78) (L' := [some (.ref a0), some (.int y1), some (.int y2), some (.int y3), some (.long y4), none, some (.int y6), some (.long (s_dn (y2.toInt64 * (if (0 : Int32) ≤ y1 ∧ y1 ≤ (7 : Int32) then (z_iv h (a0 + 2) (z_ix y1)) else (0 : Int32)).toInt64) y3.toInt64)), none, u9]) (S' := [.int (z_cmp y6.toInt64 y4)]) (h' := h) rfl ?_
      refine k_b (g := 0 ≤ z_cmp y6.toInt64 y4) (pc' := 85) (L' := [some (.ref a0), some (.int y1), some (.int y2), some (.int y3), some (.long y4), none, some (.int y6), some (.long (s_dn (y2.toInt64 * (if (0 : Int32) ≤ y1 ∧ y1 ≤ (7 : Int32) then (z_iv h (a0 + 2) (z_ix y1)) else (0 : Int32)).toInt64) y3.toInt64)), none, u9]) (S' := []) (pc2 := 81) (L2 := [some (.ref a0), some (.int y1), some (.int y2), some (.int y3), some (.long y4), none, some (.int y6), some (.long (s_dn (y2.toInt64 * (if (0 : Int32) ≤ y1 ∧ y1 ≤ (7 : Int32) then (z_iv h (a0 + 2) (z_ix y1)) else (0 : Int32)).toInt64) y3.toInt64)), none, u9]) (S2 := []) (h' := h) (h2 := h) rfl rfl (fun hc => ?_) (fun hc => ?_)
      · have c4 := z_cmp_ge.mp hc
        refine k_n 1 (pc' := 86) (L' := [some (.ref a0), some (.int y1), some (.int y2), some (.int y3), some (.long y4), none, some (.int y6), some (.long (s_dn (y2.toInt64 * (if (0 : Int32) ≤ y1 ∧ y1 ≤ (7 : Int32) then (z_iv h (a0 + 2) (z_ix y1)) else (0 : Int32)).toInt64) y3.toInt64)), none, u9]) (S' := [.int (0 : Int32)]) (h' := h) rfl ?_
        rw [show z_bt (¬ ((if (0 : Int32) ≤ y1 ∧ y1 ≤ (7 : Int32) then (z_iv h (a0 + 2) (z_ix y1)) else (0 : Int32)) ≤ 0) ∧ (¬ (y4 ≤ y6.toInt64))) = 0 from z_bt_0.mpr ((fun q => (fun q => q c4) q.2))] at hj5
        exact hj5
      · have c4 := (fun q => hc (z_cmp_ge.mpr q))
        refine k_n 2 (pc' := 86) (L' := [some (.ref a0), some (.int y1), some (.int y2), some (.int y3), some (.long y4), none, some (.int y6), some (.long (s_dn (y2.toInt64 * (if (0 : Int32) ≤ y1 ∧ y1 ≤ (7 : Int32) then (z_iv h (a0 + 2) (z_ix y1)) else (0 : Int32)).toInt64) y3.toInt64)), none, u9]) (S' := [.int (1 : Int32)]) (h' := h) rfl ?_
        rw [show z_bt (¬ ((if (0 : Int32) ≤ y1 ∧ y1 ≤ (7 : Int32) then (z_iv h (a0 + 2) (z_ix y1)) else (0 : Int32)) ≤ 0) ∧ (¬ (y4 ≤ y6.toInt64))) = 1 from z_bt_1.mpr (⟨c3, c4⟩)] at hj5
        exact hj5
  · have hc := hc
    rw [if_neg hc] at H
    refine k_n 5 (pc' := 24) (L' := [some (.ref a0), some (.int y1), some (.int y2), some (.int y3), some (.long y4), none, some (.int y6), some (.int y7), u8, u9]) (S' := [.int y3, .int y2, .int y7, .ref a0, .long y4]) (h' := h) rfl ?_
    refine k_cL 52 4 rfl rfl rfl (A := [.ref a0, .int y7, .int y2, .int y3]) rfl rfl (z_rok_ref Ta0) (rest := [.long y4]) rfl rfl ?_
    obtain ⟨o9, H⟩ := H
    refine C_52 a0 y7 y2 y3 h W Ta0 o9 ?_
    refine k_n 4 (pc' := 33) (L' := [some (.ref a0), some (.int y1), some (.int y2), some (.int y3), some (.long (y4 - (s_dn (y2.toInt64 * (if (0 : Int32) ≤ y7 ∧ y7 ≤ (7 : Int32) then (z_iv h (a0 + 2) (z_ix y7)) else (0 : Int32)).toInt64) y3.toInt64))), none, some (.int y6), some (.int y7), u8, u9]) (S' := [.int y1, .int y7]) (h' := h) rfl ?_
    obtain ⟨o11, H⟩ := H
    obtain ⟨m13, em13⟩ : ∃ m : Int32, m = (if y1 ≤ y7 then y6 else (if (z_iv h (a0 + 2) (z_ix y7)) ≤ 0 then y6 else (y6 + (1 : Int32)))) := ⟨_, rfl⟩
    have H := H m13 em13
    have hj14 : KG z_pI 51 49 [some (.ref a0), some (.int y1), some (.int y2), some (.int y3), some (.long (y4 - (s_dn (y2.toInt64 * (if (0 : Int32) ≤ y7 ∧ y7 ≤ (7 : Int32) then (z_iv h (a0 + 2) (z_ix y7)) else (0 : Int32)).toInt64) y3.toInt64))), none, some (.int m13), some (.int y7), u8, u9] [] h Q := by
      refine k_n 2 (pc' := 10) (L' := [some (.ref a0), some (.int y1), some (.int y2), some (.int y3), some (.long (y4 - (s_dn (y2.toInt64 * (if (0 : Int32) ≤ y7 ∧ y7 ≤ (7 : Int32) then (z_iv h (a0 + 2) (z_ix y7)) else (0 : Int32)).toInt64) y3.toInt64))), none, some (.int m13), some (.int (y7 + (1 : Int32))), u8, u9]) (S' := []) (h' := h) rfl ?_
      exact H
    refine k_b (g := y1 ≤ y7) (pc' := 49) (L' := [some (.ref a0), some (.int y1), some (.int y2), some (.int y3), some (.long (y4 - (s_dn (y2.toInt64 * (if (0 : Int32) ≤ y7 ∧ y7 ≤ (7 : Int32) then (z_iv h (a0 + 2) (z_ix y7)) else (0 : Int32)).toInt64) y3.toInt64))), none, some (.int y6), some (.int y7), u8, u9]) (S' := []) (pc2 := 36) (L2 := [some (.ref a0), some (.int y1), some (.int y2), some (.int y3), some (.long (y4 - (s_dn (y2.toInt64 * (if (0 : Int32) ≤ y7 ∧ y7 ≤ (7 : Int32) then (z_iv h (a0 + 2) (z_ix y7)) else (0 : Int32)).toInt64) y3.toInt64))), none, some (.int y6), some (.int y7), u8, u9]) (S2 := []) (h' := h) (h2 := h) rfl rfl (fun hc => ?_) (fun hc => ?_)
    · have c10 := hc
      rw [(em13.trans (by rw [if_pos c10]) : m13 = y6)] at hj14
      exact hj14
    · have c10 := hc
      refine k_n 1 (pc' := 37) (L' := [some (.ref a0), some (.int y1), some (.int y2), some (.int y3), some (.long (y4 - (s_dn (y2.toInt64 * (if (0 : Int32) ≤ y7 ∧ y7 ≤ (7 : Int32) then (z_iv h (a0 + 2) (z_ix y7)) else (0 : Int32)).toInt64) y3.toInt64))), none, some (.int y6), some (.int y7), u8, u9]) (S' := [.ref a0]) (h' := h) rfl ?_
      refine k_gS (b := (a0 + 2)) rfl Ta0 (W.reOf (t := 4) (j := 3) (o := 2) (n := 8) (by decide) Ta0).1 ?_
      refine k_n 1 (pc' := 42) (L' := [some (.ref a0), some (.int y1), some (.int y2), some (.int y3), some (.long (y4 - (s_dn (y2.toInt64 * (if (0 : Int32) ≤ y7 ∧ y7 ≤ (7 : Int32) then (z_iv h (a0 + 2) (z_ix y7)) else (0 : Int32)).toInt64) y3.toInt64))), none, some (.int y6), some (.int y7), u8, u9]) (S' := [.int y7, .ref (a0 + 2)]) (h' := h) rfl ?_
      refine k_ia (c := 0) (n := 8) rfl (CW.tyOf (t := 4) (t' := 100) W (j := 3) Ta0 (W.reOf (t := 4) (j := 3) (o := 2) (n := 8) (by decide) Ta0).1 (by decide) rfl) (W.reOf (t := 4) (j := 3) (o := 2) (n := 8) (by decide) Ta0).2 (o11 c10) ?_
      refine k_b (g := (z_iv h (a0 + 2) (z_ix y7)) ≤ 0) (pc' := 49) (L' := [some (.ref a0), some (.int y1), some (.int y2), some (.int y3), some (.long (y4 - (s_dn (y2.toInt64 * (if (0 : Int32) ≤ y7 ∧ y7 ≤ (7 : Int32) then (z_iv h (a0 + 2) (z_ix y7)) else (0 : Int32)).toInt64) y3.toInt64))), none, some (.int y6), some (.int y7), u8, u9]) (S' := []) (pc2 := 46) (L2 := [some (.ref a0), some (.int y1), some (.int y2), some (.int y3), some (.long (y4 - (s_dn (y2.toInt64 * (if (0 : Int32) ≤ y7 ∧ y7 ≤ (7 : Int32) then (z_iv h (a0 + 2) (z_ix y7)) else (0 : Int32)).toInt64) y3.toInt64))), none, some (.int y6), some (.int y7), u8, u9]) (S2 := []) (h' := h) (h2 := h) rfl rfl (fun hc => ?_) (fun hc => ?_)
      · have c12 := hc
        rw [(em13.trans (by rw [if_neg c10, if_pos c12]) : m13 = y6)] at hj14
        exact hj14
      · have c12 := hc
        refine k_n 1 (pc' := 49) (L' := [some (.ref a0), some (.int y1), some (.int y2), some (.int y3), some (.long (y4 - (s_dn (y2.toInt64 * (if (0 : Int32) ≤ y7 ∧ y7 ≤ (7 : Int32) then (z_iv h (a0 + 2) (z_ix y7)) else (0 : Int32)).toInt64) y3.toInt64))), none, some (.int (y6 + (1 : Int32))), some (.int y7), u8, u9]) (S' := []) (h' := h) rfl ?_
        rw [(em13.trans (by rw [if_neg c10, if_neg c12]) : m13 = (y6 + (1 : Int32)))] at hj14
        exact hj14
set_option maxRecDepth 20000 in
theorem X_159 (x1 : Nat) (x2 : Int32) (x3 : Nat) (h : zH) (W : CW h) (T1 : z_tg h x1 = 8) (T3 : z_tg h x3 = 4) {Q : Int32 → zH → Prop} (H : KG z_pI 159 6 [some (.ref 0), some (.ref x1), some (.int x2), some (.ref x3), some (.int (0 : Int32)), some (.int (0 : Int32)), none] [] h Q) : KK z_pI 159 [.ref 0, .ref x1, .int x2, .ref x3] h Q := by
  refine k_K (L := [some (.ref 0), some (.ref x1), some (.int x2), some (.ref x3), none, none, none]) rfl ?_
  refine k_n 4 (pc' := 6) (L' := [some (.ref 0), some (.ref x1), some (.int x2), some (.ref x3), some (.int (0 : Int32)), some (.int (0 : Int32)), none]) (S' := []) (h' := h) rfl ?_
  exact H
set_option maxRecDepth 20000 in
theorem X_159_6 (a1 : Nat) (y2 : Int32) (a3 : Nat) (y4 : Int32) (y5 : Int32) (u6 : Option Value) (h : zH) (W : CW h) (Ta1 : z_tg h a1 = 8) (Ta3 : z_tg h a3 = 4) {Q : Int32 → zH → Prop} (H : if (12 : Int32) ≤ y5 then ((¬ 5 = (a3 + 1) ∧ (0 ≤ (0 : Int32).toInt ∧ 0 ≤ (0 : Int32).toInt ∧ 0 ≤ y4.toInt ∧ (0 : Int32).toInt + y4.toInt ≤ 12 ∧ (0 : Int32).toInt + y4.toInt ≤ 12)) ∧ (∀ m3 : Int32, m3 = (if (12 : Int32) ≤ y4 then (0 : Int32) else (2 : Int32)) → Q y4 (z_sI (z_sW h (a3 + 1) (va_cpy (z_iv h 5) (z_iv h (a3 + 1)) (z_ix (0 : Int32)) (z_ix (0 : Int32)) (z_ix y4))) 0 15 m3))) else (if (0 : Int32) ≤ (y2 + y5) ∧ (y2 + y5) ≤ ((Int32.ofNat (z_ln h (a1 + 1))) - (1 : Int32)) then ((((0 : Int32) ≤ (y2 + y5) ∧ (y2 + y5) ≤ ((Int32.ofNat (z_ln h (a1 + 1))) - (1 : Int32))) → 0 ≤ (y2 + y5).toInt ∧ (y2 + y5).toInt < ((z_ln h (a1 + 1)) : Int)) ∧ (if (0 : Int32) ≤ (if (0 : Int32) ≤ (y2 + y5) ∧ (y2 + y5) ≤ ((Int32.ofNat (z_ln h (a1 + 1))) - (1 : Int32)) then (z_iv h (a1 + 1) (z_ix (y2 + y5))) else (0 : Int32)) ∧ (if (0 : Int32) ≤ (y2 + y5) ∧ (y2 + y5) ≤ ((Int32.ofNat (z_ln h (a1 + 1))) - (1 : Int32)) then (z_iv h (a1 + 1) (z_ix (y2 + y5))) else (0 : Int32)) ≤ (999 : Int32) then ((0 ≤ y5.toInt ∧ y5.toInt < 12) ∧ KG z_pI 159 6 [some (.ref 0), some (.ref a1), some (.int y2), some (.ref a3), some (.int (y4 + (1 : Int32))), some (.int (y5 + (1 : Int32))), some (.int (if (0 : Int32) ≤ (y2 + y5) ∧ (y2 + y5) ≤ ((Int32.ofNat (z_ln h (a1 + 1))) - (1 : Int32)) then (z_iv h (a1 + 1) (z_ix (y2 + y5))) else (0 : Int32)))] [] (z_sI h 5 (z_ix y5) (if (0 : Int32) ≤ (y2 + y5) ∧ (y2 + y5) ≤ ((Int32.ofNat (z_ln h (a1 + 1))) - (1 : Int32)) then (z_iv h (a1 + 1) (z_ix (y2 + y5))) else (0 : Int32))) Q) else (Q ((-20 : Int32) - y5) h))) else ((¬ 5 = (a3 + 1) ∧ (0 ≤ (0 : Int32).toInt ∧ 0 ≤ (0 : Int32).toInt ∧ 0 ≤ y4.toInt ∧ (0 : Int32).toInt + y4.toInt ≤ 12 ∧ (0 : Int32).toInt + y4.toInt ≤ 12)) ∧ (∀ m7 : Int32, m7 = (if (12 : Int32) ≤ y4 then (0 : Int32) else (2 : Int32)) → Q y4 (z_sI (z_sW h (a3 + 1) (va_cpy (z_iv h 5) (z_iv h (a3 + 1)) (z_ix (0 : Int32)) (z_ix (0 : Int32)) (z_ix y4))) 0 15 m7))))) : KG z_pI 159 6 [some (.ref 0), some (.ref a1), some (.int y2), some (.ref a3), some (.int y4), some (.int y5), u6] [] h Q := by
  refine k_n 2 (pc' := 10) (L' := [some (.ref 0), some (.ref a1), some (.int y2), some (.ref a3), some (.int y4), some (.int y5), u6]) (S' := [.int (12 : Int32), .int y5]) (h' := h) rfl ?_
  refine k_b (g := (12 : Int32) ≤ y5) (pc' := 66) (L' := [some (.ref 0), some (.ref a1), some (.int y2), some (.ref a3), some (.int y4), some (.int y5), u6]) (S' := []) (pc2 := 13) (L2 := [some (.ref 0), some (.ref a1), some (.int y2), some (.ref a3), some (.int y4), some (.int y5), u6]) (S2 := []) (h' := h) (h2 := h) rfl rfl (fun hc => ?_) (fun hc => ?_)
  · have hc := hc
    rw [if_pos hc] at H
    refine k_n 1 (pc' := 67) (L' := [some (.ref 0), some (.ref a1), some (.int y2), some (.ref a3), some (.int y4), some (.int y5), u6]) (S' := [.ref 0]) (h' := h) rfl ?_
    refine k_gS (b := 5) rfl W.t0 (W.abOf (t := 11) (j := 4) (o := 5) (n := 12) (by decide) W.t0).1 ?_
    refine k_n 2 (pc' := 72) (L' := [some (.ref 0), some (.ref a1), some (.int y2), some (.ref a3), some (.int y4), some (.int y5), u6]) (S' := [.ref a3, .int (0 : Int32), .ref 5]) (h' := h) rfl ?_
    refine k_gS (b := (a3 + 1)) rfl Ta3 (W.reOf (t := 4) (j := 2) (o := 1) (n := 12) (by decide) Ta3).1 ?_
    refine k_n 2 (pc' := 78) (L' := [some (.ref 0), some (.ref a1), some (.int y2), some (.ref a3), some (.int y4), some (.int y5), u6]) (S' := [.int y4, .int (0 : Int32), .ref (a3 + 1), .int (0 : Int32), .ref 5]) (h' := h) rfl ?_
    obtain ⟨o1, H⟩ := H
    refine k_cp rfl (CW.tyOf (t := 11) (t' := 100) W (j := 4) W.t0 (W.abOf (t := 11) (j := 4) (o := 5) (n := 12) (by decide) W.t0).1 (by decide) rfl) (CW.tyOf (t := 4) (t' := 100) W (j := 2) Ta3 (W.reOf (t := 4) (j := 2) (o := 1) (n := 12) (by decide) Ta3).1 (by decide) rfl) o1.1 (W.abOf (t := 11) (j := 4) (o := 5) (n := 12) (by decide) W.t0).2 (W.reOf (t := 4) (j := 2) (o := 1) (n := 12) (by decide) Ta3).2 o1.2 ?_
    refine k_n 3 (pc' := 86) (L' := [some (.ref 0), some (.ref a1), some (.int y2), some (.ref a3), some (.int y4), some (.int y5), u6]) (S' := [.int (12 : Int32), .int y4, .ref 0]) (h' := (z_sW h (a3 + 1) (va_cpy (z_iv h 5) (z_iv h (a3 + 1)) (z_ix (0 : Int32)) (z_ix (0 : Int32)) (z_ix y4)))) rfl ?_
    obtain ⟨m3, em3⟩ : ∃ m : Int32, m = (if (12 : Int32) ≤ y4 then (0 : Int32) else (2 : Int32)) := ⟨_, rfl⟩
    have H := H m3 em3
    have hj4 : KG z_pI 159 94 [some (.ref 0), some (.ref a1), some (.int y2), some (.ref a3), some (.int y4), some (.int y5), u6] [.int m3, .ref 0] (z_sW h (a3 + 1) (va_cpy (z_iv h 5) (z_iv h (a3 + 1)) (z_ix (0 : Int32)) (z_ix (0 : Int32)) (z_ix y4))) Q := by
      refine k_pI rfl (z_tgW W.t0) ?_
      refine k_n 1 (pc' := 99) (L' := [some (.ref 0), some (.ref a1), some (.int y2), some (.ref a3), some (.int y4), some (.int y5), u6]) (S' := [.int y4]) (h' := (z_sI (z_sW h (a3 + 1) (va_cpy (z_iv h 5) (z_iv h (a3 + 1)) (z_ix (0 : Int32)) (z_ix (0 : Int32)) (z_ix y4))) 0 15 m3)) rfl ?_
      exact k_r rfl rfl rfl H
    refine k_b (g := (12 : Int32) ≤ y4) (pc' := 93) (L' := [some (.ref 0), some (.ref a1), some (.int y2), some (.ref a3), some (.int y4), some (.int y5), u6]) (S' := [.ref 0]) (pc2 := 89) (L2 := [some (.ref 0), some (.ref a1), some (.int y2), some (.ref a3), some (.int y4), some (.int y5), u6]) (S2 := [.ref 0]) (h' := (z_sW h (a3 + 1) (va_cpy (z_iv h 5) (z_iv h (a3 + 1)) (z_ix (0 : Int32)) (z_ix (0 : Int32)) (z_ix y4)))) (h2 := (z_sW h (a3 + 1) (va_cpy (z_iv h 5) (z_iv h (a3 + 1)) (z_ix (0 : Int32)) (z_ix (0 : Int32)) (z_ix y4)))) rfl rfl (fun hc => ?_) (fun hc => ?_)
    · have c2 := hc
      refine k_n 1 (pc' := 94) (L' := [some (.ref 0), some (.ref a1), some (.int y2), some (.ref a3), some (.int y4), some (.int y5), u6]) (S' := [.int (0 : Int32), .ref 0]) (h' := (z_sW h (a3 + 1) (va_cpy (z_iv h 5) (z_iv h (a3 + 1)) (z_ix (0 : Int32)) (z_ix (0 : Int32)) (z_ix y4)))) rfl ?_
      rw [(em3.trans (by rw [if_pos c2]) : m3 = (0 : Int32))] at hj4
      exact hj4
    · have c2 := hc
      refine k_n 2 (pc' := 94) (L' := [some (.ref 0), some (.ref a1), some (.int y2), some (.ref a3), some (.int y4), some (.int y5), u6]) (S' := [.int (2 : Int32), .ref 0]) (h' := (z_sW h (a3 + 1) (va_cpy (z_iv h 5) (z_iv h (a3 + 1)) (z_ix (0 : Int32)) (z_ix (0 : Int32)) (z_ix y4)))) rfl ?_
      rw [(em3.trans (by rw [if_neg c2]) : m3 = (2 : Int32))] at hj4
      exact hj4
  · have hc := hc
    rw [if_neg hc] at H
    refine k_n 4 (pc' := 18) (L' := [some (.ref 0), some (.ref a1), some (.int y2), some (.ref a3), some (.int y4), some (.int y5), u6]) (S' := [.int (y2 + y5), .ref a1]) (h' := h) rfl ?_
    refine k_cI 88 2 rfl rfl rfl (A := [.ref a1, .int (y2 + y5)]) rfl rfl (z_rok_ref Ta1) (rest := []) rfl (z_tyI rfl rfl) ?_
    refine C_88 a1 (y2 + y5) h W Ta1  ?_
    refine k_b (g := z_bt ((0 : Int32) ≤ (y2 + y5) ∧ (y2 + y5) ≤ ((Int32.ofNat (z_ln h (a1 + 1))) - (1 : Int32))) = 0) (pc' := 66) (L' := [some (.ref 0), some (.ref a1), some (.int y2), some (.ref a3), some (.int y4), some (.int y5), u6]) (S' := []) (pc2 := 24) (L2 := [some (.ref 0), some (.ref a1), some (.int y2), some (.ref a3), some (.int y4), some (.int y5), u6]) (S2 := []) (h' := h) (h2 := h) rfl rfl (fun hc => ?_) (fun hc => ?_)
    · have hc := z_bt_0.mp hc
      rw [if_neg hc] at H
      refine k_n 1 (pc' := 67) (L' := [some (.ref 0), some (.ref a1), some (.int y2), some (.ref a3), some (.int y4), some (.int y5), u6]) (S' := [.ref 0]) (h' := h) rfl ?_
      refine k_gS (b := 5) rfl W.t0 (W.abOf (t := 11) (j := 4) (o := 5) (n := 12) (by decide) W.t0).1 ?_
      refine k_n 2 (pc' := 72) (L' := [some (.ref 0), some (.ref a1), some (.int y2), some (.ref a3), some (.int y4), some (.int y5), u6]) (S' := [.ref a3, .int (0 : Int32), .ref 5]) (h' := h) rfl ?_
      refine k_gS (b := (a3 + 1)) rfl Ta3 (W.reOf (t := 4) (j := 2) (o := 1) (n := 12) (by decide) Ta3).1 ?_
      refine k_n 2 (pc' := 78) (L' := [some (.ref 0), some (.ref a1), some (.int y2), some (.ref a3), some (.int y4), some (.int y5), u6]) (S' := [.int y4, .int (0 : Int32), .ref (a3 + 1), .int (0 : Int32), .ref 5]) (h' := h) rfl ?_
      obtain ⟨o5, H⟩ := H
      refine k_cp rfl (CW.tyOf (t := 11) (t' := 100) W (j := 4) W.t0 (W.abOf (t := 11) (j := 4) (o := 5) (n := 12) (by decide) W.t0).1 (by decide) rfl) (CW.tyOf (t := 4) (t' := 100) W (j := 2) Ta3 (W.reOf (t := 4) (j := 2) (o := 1) (n := 12) (by decide) Ta3).1 (by decide) rfl) o5.1 (W.abOf (t := 11) (j := 4) (o := 5) (n := 12) (by decide) W.t0).2 (W.reOf (t := 4) (j := 2) (o := 1) (n := 12) (by decide) Ta3).2 o5.2 ?_
      refine k_n 3 (pc' := 86) (L' := [some (.ref 0), some (.ref a1), some (.int y2), some (.ref a3), some (.int y4), some (.int y5), u6]) (S' := [.int (12 : Int32), .int y4, .ref 0]) (h' := (z_sW h (a3 + 1) (va_cpy (z_iv h 5) (z_iv h (a3 + 1)) (z_ix (0 : Int32)) (z_ix (0 : Int32)) (z_ix y4)))) rfl ?_
      obtain ⟨m7, em7⟩ : ∃ m : Int32, m = (if (12 : Int32) ≤ y4 then (0 : Int32) else (2 : Int32)) := ⟨_, rfl⟩
      have H := H m7 em7
      have hj8 : KG z_pI 159 94 [some (.ref 0), some (.ref a1), some (.int y2), some (.ref a3), some (.int y4), some (.int y5), u6] [.int m7, .ref 0] (z_sW h (a3 + 1) (va_cpy (z_iv h 5) (z_iv h (a3 + 1)) (z_ix (0 : Int32)) (z_ix (0 : Int32)) (z_ix y4))) Q := by
        refine k_pI rfl (z_tgW W.t0) ?_
        refine k_n 1 (pc' := 99) (L' := [some (.ref 0), some (.ref a1), some (.int y2), some (.ref a3), some (.int y4), some (.int y5), u6]) (S' := [.int y4]) (h' := (z_sI (z_sW h (a3 + 1) (va_cpy (z_iv h 5) (z_iv h (a3 + 1)) (z_ix (0 : Int32)) (z_ix (0 : Int32)) (z_ix y4))) 0 15 m7)) rfl ?_
        exact k_r rfl rfl rfl H
      refine k_b (g := (12 : Int32) ≤ y4) (pc' := 93) (L' := [some (.ref 0), some (.ref a1), some (.int y2), some (.ref a3), some (.int y4), some (.int y5), u6]) (S' := [.ref 0]) (pc2 := 89) (L2 := [some (.ref 0), some (.ref a1), some (.int y2), some (.ref a3), some (.int y4), some (.int y5), u6]) (S2 := [.ref 0]) (h' := (z_sW h (a3 + 1) (va_cpy (z_iv h 5) (z_iv h (a3 + 1)) (z_ix (0 : Int32)) (z_ix (0 : Int32)) (z_ix y4)))) (h2 := (z_sW h (a3 + 1) (va_cpy (z_iv h 5) (z_iv h (a3 + 1)) (z_ix (0 : Int32)) (z_ix (0 : Int32)) (z_ix y4)))) rfl rfl (fun hc => ?_) (fun hc => ?_)
      · have c6 := hc
        refine k_n 1 (pc' := 94) (L' := [some (.ref 0), some (.ref a1), some (.int y2), some (.ref a3), some (.int y4), some (.int y5), u6]) (S' := [.int (0 : Int32), .ref 0]) (h' := (z_sW h (a3 + 1) (va_cpy (z_iv h 5) (z_iv h (a3 + 1)) (z_ix (0 : Int32)) (z_ix (0 : Int32)) (z_ix y4)))) rfl ?_
        rw [(em7.trans (by rw [if_pos c6]) : m7 = (0 : Int32))] at hj8
        exact hj8
      · have c6 := hc
        refine k_n 2 (pc' := 94) (L' := [some (.ref 0), some (.ref a1), some (.int y2), some (.ref a3), some (.int y4), some (.int y5), u6]) (S' := [.int (2 : Int32), .ref 0]) (h' := (z_sW h (a3 + 1) (va_cpy (z_iv h 5) (z_iv h (a3 + 1)) (z_ix (0 : Int32)) (z_ix (0 : Int32)) (z_ix y4)))) rfl ?_
        rw [(em7.trans (by rw [if_neg c6]) : m7 = (2 : Int32))] at hj8
        exact hj8
    · have hc := Decidable.not_not.mp (fun q => hc (z_bt_0.mpr q))
      rw [if_pos hc] at H
      refine k_n 4 (pc' := 29) (L' := [some (.ref 0), some (.ref a1), some (.int y2), some (.ref a3), some (.int y4), some (.int y5), u6]) (S' := [.int (y2 + y5), .ref a1]) (h' := h) rfl ?_
      refine k_cI 90 2 rfl rfl rfl (A := [.ref a1, .int (y2 + y5)]) rfl rfl (z_rok_ref Ta1) (rest := []) rfl (z_tyI rfl rfl) ?_
      obtain ⟨o9, H⟩ := H
      refine C_90 a1 (y2 + y5) h W Ta1 o9 ?_
      refine k_n 2 (pc' := 36) (L' := [some (.ref 0), some (.ref a1), some (.int y2), some (.ref a3), some (.int y4), some (.int y5), some (.int (if (0 : Int32) ≤ (y2 + y5) ∧ (y2 + y5) ≤ ((Int32.ofNat (z_ln h (a1 + 1))) - (1 : Int32)) then (z_iv h (a1 + 1) (z_ix (y2 + y5))) else (0 : Int32)))]) (S' := [.int (if (0 : Int32) ≤ (y2 + y5) ∧ (y2 + y5) ≤ ((Int32.ofNat (z_ln h (a1 + 1))) - (1 : Int32)) then (z_iv h (a1 + 1) (z_ix (y2 + y5))) else (0 : Int32))]) (h' := h) rfl ?_
      refine k_cI 140 1 rfl rfl rfl (A := [.int (if (0 : Int32) ≤ (y2 + y5) ∧ (y2 + y5) ≤ ((Int32.ofNat (z_ln h (a1 + 1))) - (1 : Int32)) then (z_iv h (a1 + 1) (z_ix (y2 + y5))) else (0 : Int32))]) rfl rfl rfl (rest := []) rfl (z_tyI rfl rfl) ?_
      refine C_140 (if (0 : Int32) ≤ (y2 + y5) ∧ (y2 + y5) ≤ ((Int32.ofNat (z_ln h (a1 + 1))) - (1 : Int32)) then (z_iv h (a1 + 1) (z_ix (y2 + y5))) else (0 : Int32)) h    ?_
      refine k_b (g := z_bt ((0 : Int32) ≤ (if (0 : Int32) ≤ (y2 + y5) ∧ (y2 + y5) ≤ ((Int32.ofNat (z_ln h (a1 + 1))) - (1 : Int32)) then (z_iv h (a1 + 1) (z_ix (y2 + y5))) else (0 : Int32)) ∧ (if (0 : Int32) ≤ (y2 + y5) ∧ (y2 + y5) ≤ ((Int32.ofNat (z_ln h (a1 + 1))) - (1 : Int32)) then (z_iv h (a1 + 1) (z_ix (y2 + y5))) else (0 : Int32)) ≤ (999 : Int32)) = 0) (pc' := 42) (L' := [some (.ref 0), some (.ref a1), some (.int y2), some (.ref a3), some (.int y4), some (.int y5), some (.int (if (0 : Int32) ≤ (y2 + y5) ∧ (y2 + y5) ≤ ((Int32.ofNat (z_ln h (a1 + 1))) - (1 : Int32)) then (z_iv h (a1 + 1) (z_ix (y2 + y5))) else (0 : Int32)))]) (S' := []) (pc2 := 48) (L2 := [some (.ref 0), some (.ref a1), some (.int y2), some (.ref a3), some (.int y4), some (.int y5), some (.int (if (0 : Int32) ≤ (y2 + y5) ∧ (y2 + y5) ≤ ((Int32.ofNat (z_ln h (a1 + 1))) - (1 : Int32)) then (z_iv h (a1 + 1) (z_ix (y2 + y5))) else (0 : Int32)))]) (S2 := []) (h' := h) (h2 := h) rfl rfl (fun hc => ?_) (fun hc => ?_)
      · have hc := z_bt_0.mp hc
        rw [if_neg hc] at H
        refine k_n 3 (pc' := 47) (L' := [some (.ref 0), some (.ref a1), some (.int y2), some (.ref a3), some (.int y4), some (.int y5), some (.int (if (0 : Int32) ≤ (y2 + y5) ∧ (y2 + y5) ≤ ((Int32.ofNat (z_ln h (a1 + 1))) - (1 : Int32)) then (z_iv h (a1 + 1) (z_ix (y2 + y5))) else (0 : Int32)))]) (S' := [.int ((-20 : Int32) - y5)]) (h' := h) rfl ?_
        exact k_r rfl rfl rfl H
      · have hc := Decidable.not_not.mp (fun q => hc (z_bt_0.mpr q))
        rw [if_pos hc] at H
        refine k_n 1 (pc' := 49) (L' := [some (.ref 0), some (.ref a1), some (.int y2), some (.ref a3), some (.int y4), some (.int y5), some (.int (if (0 : Int32) ≤ (y2 + y5) ∧ (y2 + y5) ≤ ((Int32.ofNat (z_ln h (a1 + 1))) - (1 : Int32)) then (z_iv h (a1 + 1) (z_ix (y2 + y5))) else (0 : Int32)))]) (S' := [.ref 0]) (h' := h) rfl ?_
        refine k_gS (b := 5) rfl W.t0 (W.abOf (t := 11) (j := 4) (o := 5) (n := 12) (by decide) W.t0).1 ?_
        refine k_n 2 (pc' := 56) (L' := [some (.ref 0), some (.ref a1), some (.int y2), some (.ref a3), some (.int y4), some (.int y5), some (.int (if (0 : Int32) ≤ (y2 + y5) ∧ (y2 + y5) ≤ ((Int32.ofNat (z_ln h (a1 + 1))) - (1 : Int32)) then (z_iv h (a1 + 1) (z_ix (y2 + y5))) else (0 : Int32)))]) (S' := [.int (if (0 : Int32) ≤ (y2 + y5) ∧ (y2 + y5) ≤ ((Int32.ofNat (z_ln h (a1 + 1))) - (1 : Int32)) then (z_iv h (a1 + 1) (z_ix (y2 + y5))) else (0 : Int32)), .int y5, .ref 5]) (h' := h) rfl ?_
        obtain ⟨o10, H⟩ := H
        refine k_is (n := 12) rfl (CW.tyOf (t := 11) (t' := 100) W (j := 4) W.t0 (W.abOf (t := 11) (j := 4) (o := 5) (n := 12) (by decide) W.t0).1 (by decide) rfl) (W.abOf (t := 11) (j := 4) (o := 5) (n := 12) (by decide) W.t0).2 o10 ?_
        refine k_n 3 (pc' := 6) (L' := [some (.ref 0), some (.ref a1), some (.int y2), some (.ref a3), some (.int (y4 + (1 : Int32))), some (.int (y5 + (1 : Int32))), some (.int (if (0 : Int32) ≤ (y2 + y5) ∧ (y2 + y5) ≤ ((Int32.ofNat (z_ln h (a1 + 1))) - (1 : Int32)) then (z_iv h (a1 + 1) (z_ix (y2 + y5))) else (0 : Int32)))]) (S' := []) (h' := (z_sI h 5 (z_ix y5) (if (0 : Int32) ≤ (y2 + y5) ∧ (y2 + y5) ≤ ((Int32.ofNat (z_ln h (a1 + 1))) - (1 : Int32)) then (z_iv h (a1 + 1) (z_ix (y2 + y5))) else (0 : Int32)))) rfl ?_
        exact H
set_option maxRecDepth 20000 in
theorem X_154  (h : zH) (W : CW h)  {Q : Int32 → zH → Prop} (H : KG z_pI 154 4 [some (.ref 0), some (.int (0 : Int32)), some (.int (0 : Int32)), none] [] h Q) : KK z_pI 154 [.ref 0] h Q := by
  refine k_K (L := [some (.ref 0), none, none, none]) rfl ?_
  refine k_n 4 (pc' := 4) (L' := [some (.ref 0), some (.int (0 : Int32)), some (.int (0 : Int32)), none]) (S' := []) (h' := h) rfl ?_
  exact H
set_option maxRecDepth 20000 in
theorem X_154_4 (y1 : Int32) (y2 : Int32) (u3 : Option Value) (h : zH) (W : CW h)  {Q : Int32 → zH → Prop} (H : if (12 : Int32) ≤ y2 then (Q y1 h) else (if (0 : Int32) ≤ y2 ∧ y2 ≤ ((z_iv h 0 13) - (1 : Int32)) then (if (12 : Int32) ≤ y2 then (KG z_pI 154 4 [some (.ref 0), some (.int y1), some (.int (y2 + (1 : Int32))), some (.null)] [] h Q) else ((0 ≤ y2.toInt ∧ y2.toInt < 12) ∧ ((z_rv h 2 (z_ix y2) = none → KG z_pI 154 4 [some (.ref 0), some (.int y1), some (.int (y2 + (1 : Int32))), some (.null)] [] h Q) ∧ (∀ b5, z_rv h 2 (z_ix y2) = some b5 → KG z_pI 154 4 [some (.ref 0), some (.int (y1 + (z_iv h b5 12))), some (.int (y2 + (1 : Int32))), some (.ref b5)] [] h Q)))) else (KG z_pI 154 4 [some (.ref 0), some (.int y1), some (.int (y2 + (1 : Int32))), some (.null)] [] h Q))) : KG z_pI 154 4 [some (.ref 0), some (.int y1), some (.int y2), u3] [] h Q := by
  refine k_n 2 (pc' := 7) (L' := [some (.ref 0), some (.int y1), some (.int y2), u3]) (S' := [.int (12 : Int32), .int y2]) (h' := h) rfl ?_
  refine k_b (g := (12 : Int32) ≤ y2) (pc' := 33) (L' := [some (.ref 0), some (.int y1), some (.int y2), u3]) (S' := []) (pc2 := 10) (L2 := [some (.ref 0), some (.int y1), some (.int y2), u3]) (S2 := []) (h' := h) (h2 := h) rfl rfl (fun hc => ?_) (fun hc => ?_)
  · have hc := hc
    rw [if_pos hc] at H
    refine k_n 1 (pc' := 34) (L' := [some (.ref 0), some (.int y1), some (.int y2), u3]) (S' := [.int y1]) (h' := h) rfl ?_
    exact k_r rfl rfl rfl H
  · have hc := hc
    rw [if_neg hc] at H
    refine k_n 2 (pc' := 12) (L' := [some (.ref 0), some (.int y1), some (.int y2), u3]) (S' := [.int y2, .ref 0]) (h' := h) rfl ?_
    refine k_cA 149 2 "SavedThird$Engine" rfl rfl rfl (A := [.ref 0, .int y2]) rfl rfl (z_rok_ref W.t0) (rest := []) rfl rfl (by decide) ?_
    refine X_149 y2 h W  ?_
    by_cases c1 : (0 : Int32) ≤ y2 ∧ y2 ≤ ((z_iv h 0 13) - (1 : Int32))
    · rw [if_pos c1] at H ⊢
      by_cases c2 : (12 : Int32) ≤ y2
      · rw [if_pos c2] at H ⊢
        refine k_n 5 (pc' := 4) (L' := [some (.ref 0), some (.int y1), some (.int (y2 + (1 : Int32))), some (.null)]) (S' := []) (h' := h) rfl ?_
        exact H
      · rw [if_neg c2] at H ⊢
        obtain ⟨o3, H⟩ := H
        refine ⟨o3, ?_⟩
        refine ⟨fun hb4 => ?_, fun b5 hb4 => ?_⟩
        · have H := H.1 hb4
          refine k_n 5 (pc' := 4) (L' := [some (.ref 0), some (.int y1), some (.int (y2 + (1 : Int32))), some (.null)]) (S' := []) (h' := h) rfl ?_
          exact H
        · have H := H.2 b5 hb4
          have t6 : z_tg h b5 = 3 := (CW.tyOf (t := 103) (t' := 3) W (CW.tyOf (t := 11) (t' := 103) W (j := 1) W.t0 (W.abOf (t := 11) (j := 1) (o := 2) (n := 12) (by decide) W.t0).1 (by decide) rfl) hb4 (by decide) rfl)
          refine k_n 5 (pc' := 22) (L' := [some (.ref 0), some (.int y1), some (.int y2), some (.ref b5)]) (S' := [.ref b5, .int y1]) (h' := h) rfl ?_
          refine k_gI rfl rfl t6 ?_
          refine k_n 4 (pc' := 4) (L' := [some (.ref 0), some (.int (y1 + (z_iv h b5 12))), some (.int (y2 + (1 : Int32))), some (.ref b5)]) (S' := []) (h' := h) rfl ?_
          exact H
    · rw [if_neg c1] at H ⊢
      refine k_n 5 (pc' := 4) (L' := [some (.ref 0), some (.int y1), some (.int (y2 + (1 : Int32))), some (.null)]) (S' := []) (h' := h) rfl ?_
      exact H
set_option maxRecDepth 20000 in
theorem X_153  (h : zH) (W : CW h)  {Q : Int32 → zH → Prop} (H : KG z_pI 153 4 [some (.ref 0), some (.int (0 : Int32)), some (.int (0 : Int32)), none] [] h Q) : KK z_pI 153 [.ref 0] h Q := by
  refine k_K (L := [some (.ref 0), none, none, none]) rfl ?_
  refine k_n 4 (pc' := 4) (L' := [some (.ref 0), some (.int (0 : Int32)), some (.int (0 : Int32)), none]) (S' := []) (h' := h) rfl ?_
  exact H
set_option maxRecDepth 20000 in
theorem X_153_4 (y1 : Int32) (y2 : Int32) (u3 : Option Value) (h : zH) (W : CW h)  {Q : Int32 → zH → Prop} (H : if (12 : Int32) ≤ y2 then (Q y1 h) else (if (0 : Int32) ≤ y2 ∧ y2 ≤ ((z_iv h 0 13) - (1 : Int32)) then (if (12 : Int32) ≤ y2 then (KG z_pI 153 4 [some (.ref 0), some (.int y1), some (.int (y2 + (1 : Int32))), some (.null)] [] h Q) else ((0 ≤ y2.toInt ∧ y2.toInt < 12) ∧ ((z_rv h 2 (z_ix y2) = none → KG z_pI 153 4 [some (.ref 0), some (.int y1), some (.int (y2 + (1 : Int32))), some (.null)] [] h Q) ∧ (∀ b5, z_rv h 2 (z_ix y2) = some b5 → ∀ m8 : Int32, m8 = (if (z_iv h b5 10) = 0 then y1 else (y1 + (1 : Int32))) → KG z_pI 153 4 [some (.ref 0), some (.int m8), some (.int (y2 + (1 : Int32))), some (.ref b5)] [] h Q)))) else (KG z_pI 153 4 [some (.ref 0), some (.int y1), some (.int (y2 + (1 : Int32))), some (.null)] [] h Q))) : KG z_pI 153 4 [some (.ref 0), some (.int y1), some (.int y2), u3] [] h Q := by
  refine k_n 2 (pc' := 7) (L' := [some (.ref 0), some (.int y1), some (.int y2), u3]) (S' := [.int (12 : Int32), .int y2]) (h' := h) rfl ?_
  refine k_b (g := (12 : Int32) ≤ y2) (pc' := 36) (L' := [some (.ref 0), some (.int y1), some (.int y2), u3]) (S' := []) (pc2 := 10) (L2 := [some (.ref 0), some (.int y1), some (.int y2), u3]) (S2 := []) (h' := h) (h2 := h) rfl rfl (fun hc => ?_) (fun hc => ?_)
  · have hc := hc
    rw [if_pos hc] at H
    refine k_n 1 (pc' := 37) (L' := [some (.ref 0), some (.int y1), some (.int y2), u3]) (S' := [.int y1]) (h' := h) rfl ?_
    exact k_r rfl rfl rfl H
  · have hc := hc
    rw [if_neg hc] at H
    refine k_n 2 (pc' := 12) (L' := [some (.ref 0), some (.int y1), some (.int y2), u3]) (S' := [.int y2, .ref 0]) (h' := h) rfl ?_
    refine k_cA 149 2 "SavedThird$Engine" rfl rfl rfl (A := [.ref 0, .int y2]) rfl rfl (z_rok_ref W.t0) (rest := []) rfl rfl (by decide) ?_
    refine X_149 y2 h W  ?_
    by_cases c1 : (0 : Int32) ≤ y2 ∧ y2 ≤ ((z_iv h 0 13) - (1 : Int32))
    · rw [if_pos c1] at H ⊢
      by_cases c2 : (12 : Int32) ≤ y2
      · rw [if_pos c2] at H ⊢
        refine k_n 5 (pc' := 4) (L' := [some (.ref 0), some (.int y1), some (.int (y2 + (1 : Int32))), some (.null)]) (S' := []) (h' := h) rfl ?_
        exact H
      · rw [if_neg c2] at H ⊢
        obtain ⟨o3, H⟩ := H
        refine ⟨o3, ?_⟩
        refine ⟨fun hb4 => ?_, fun b5 hb4 => ?_⟩
        · have H := H.1 hb4
          refine k_n 5 (pc' := 4) (L' := [some (.ref 0), some (.int y1), some (.int (y2 + (1 : Int32))), some (.null)]) (S' := []) (h' := h) rfl ?_
          exact H
        · have H := H.2 b5 hb4
          have t6 : z_tg h b5 = 3 := (CW.tyOf (t := 103) (t' := 3) W (CW.tyOf (t := 11) (t' := 103) W (j := 1) W.t0 (W.abOf (t := 11) (j := 1) (o := 2) (n := 12) (by decide) W.t0).1 (by decide) rfl) hb4 (by decide) rfl)
          refine k_n 4 (pc' := 21) (L' := [some (.ref 0), some (.int y1), some (.int y2), some (.ref b5)]) (S' := [.ref b5]) (h' := h) rfl ?_
          refine k_gI rfl rfl t6 ?_
          obtain ⟨m8, em8⟩ : ∃ m : Int32, m = (if (z_iv h b5 10) = 0 then y1 else (y1 + (1 : Int32))) := ⟨_, rfl⟩
          have H := H m8 em8
          have hj9 : KG z_pI 153 30 [some (.ref 0), some (.int m8), some (.int y2), some (.ref b5)] [] h Q := by
            refine k_n 2 (pc' := 4) (L' := [some (.ref 0), some (.int m8), some (.int (y2 + (1 : Int32))), some (.ref b5)]) (S' := []) (h' := h) rfl ?_
            exact H
          refine k_b (g := (z_iv h b5 10) = 0) (pc' := 30) (L' := [some (.ref 0), some (.int y1), some (.int y2), some (.ref b5)]) (S' := []) (pc2 := 27) (L2 := [some (.ref 0), some (.int y1), some (.int y2), some (.ref b5)]) (S2 := []) (h' := h) (h2 := h) rfl rfl (fun hc => ?_) (fun hc => ?_)
          · have c7 := hc
            rw [(em8.trans (by rw [if_pos c7]) : m8 = y1)] at hj9
            exact hj9
          · have c7 := hc
            refine k_n 1 (pc' := 30) (L' := [some (.ref 0), some (.int (y1 + (1 : Int32))), some (.int y2), some (.ref b5)]) (S' := []) (h' := h) rfl ?_
            rw [(em8.trans (by rw [if_neg c7]) : m8 = (y1 + (1 : Int32)))] at hj9
            exact hj9
    · rw [if_neg c1] at H ⊢
      refine k_n 5 (pc' := 4) (L' := [some (.ref 0), some (.int y1), some (.int (y2 + (1 : Int32))), some (.null)]) (S' := []) (h' := h) rfl ?_
      exact H
set_option maxRecDepth 20000 in
theorem X_152  (h : zH) (W : CW h)  {Q : Int32 → zH → Prop} (H : KG z_pI 152 4 [some (.ref 0), some (.int (0 : Int32)), some (.int (0 : Int32)), none] [] h Q) : KK z_pI 152 [.ref 0] h Q := by
  refine k_K (L := [some (.ref 0), none, none, none]) rfl ?_
  refine k_n 4 (pc' := 4) (L' := [some (.ref 0), some (.int (0 : Int32)), some (.int (0 : Int32)), none]) (S' := []) (h' := h) rfl ?_
  exact H
set_option maxRecDepth 20000 in
theorem X_152_4 (y1 : Int32) (y2 : Int32) (u3 : Option Value) (h : zH) (W : CW h)  {Q : Int32 → zH → Prop} (H : if (12 : Int32) ≤ y2 then (Q y1 h) else (if (0 : Int32) ≤ y2 ∧ y2 ≤ ((z_iv h 0 13) - (1 : Int32)) then (if (12 : Int32) ≤ y2 then (KG z_pI 152 4 [some (.ref 0), some (.int y1), some (.int (y2 + (1 : Int32))), some (.null)] [] h Q) else ((0 ≤ y2.toInt ∧ y2.toInt < 12) ∧ ((z_rv h 2 (z_ix y2) = none → KG z_pI 152 4 [some (.ref 0), some (.int y1), some (.int (y2 + (1 : Int32))), some (.null)] [] h Q) ∧ (∀ b5, z_rv h 2 (z_ix y2) = some b5 → if (0 : Int32) ≤ (z_iv h b5 5) ∧ (z_iv h b5 5) ≤ ((z_iv h 0 12) - (1 : Int32)) then (if (6 : Int32) ≤ (z_iv h b5 5) then (KG z_pI 152 4 [some (.ref 0), some (.int y1), some (.int (y2 + (1 : Int32))), some (.ref b5)] [] h Q) else ((0 ≤ (z_iv h b5 5).toInt ∧ (z_iv h b5 5).toInt < 6) ∧ ((z_rv h 1 (z_ix (z_iv h b5 5)) = none → KG z_pI 152 4 [some (.ref 0), some (.int y1), some (.int (y2 + (1 : Int32))), some (.ref b5)] [] h Q) ∧ (∀ b11, z_rv h 1 (z_ix (z_iv h b5 5)) = some b11 → (z_rv h b11 10 = none → KG z_pI 152 4 [some (.ref 0), some (.int y1), some (.int (y2 + (1 : Int32))), some (.ref b5)] [] h Q) ∧ (∀ b13, z_rv h b11 10 = some b13 → if (z_iv h b13 10) = 0 then (if b13 = b5 then (KG z_pI 152 4 [some (.ref 0), some (.int (y1 + (1 : Int32))), some (.int (y2 + (1 : Int32))), some (.ref b5)] [] h Q) else (KG z_pI 152 4 [some (.ref 0), some (.int y1), some (.int (y2 + (1 : Int32))), some (.ref b5)] [] h Q)) else (KG z_pI 152 4 [some (.ref 0), some (.int y1), some (.int (y2 + (1 : Int32))), some (.ref b5)] [] h Q)))))) else (KG z_pI 152 4 [some (.ref 0), some (.int y1), some (.int (y2 + (1 : Int32))), some (.ref b5)] [] h Q))))) else (KG z_pI 152 4 [some (.ref 0), some (.int y1), some (.int (y2 + (1 : Int32))), some (.null)] [] h Q))) : KG z_pI 152 4 [some (.ref 0), some (.int y1), some (.int y2), u3] [] h Q := by
  refine k_n 2 (pc' := 7) (L' := [some (.ref 0), some (.int y1), some (.int y2), u3]) (S' := [.int (12 : Int32), .int y2]) (h' := h) rfl ?_
  refine k_b (g := (12 : Int32) ≤ y2) (pc' := 37) (L' := [some (.ref 0), some (.int y1), some (.int y2), u3]) (S' := []) (pc2 := 10) (L2 := [some (.ref 0), some (.int y1), some (.int y2), u3]) (S2 := []) (h' := h) (h2 := h) rfl rfl (fun hc => ?_) (fun hc => ?_)
  · have hc := hc
    rw [if_pos hc] at H
    refine k_n 1 (pc' := 38) (L' := [some (.ref 0), some (.int y1), some (.int y2), u3]) (S' := [.int y1]) (h' := h) rfl ?_
    exact k_r rfl rfl rfl H
  · have hc := hc
    rw [if_neg hc] at H
    refine k_n 2 (pc' := 12) (L' := [some (.ref 0), some (.int y1), some (.int y2), u3]) (S' := [.int y2, .ref 0]) (h' := h) rfl ?_
    refine k_cA 149 2 "SavedThird$Engine" rfl rfl rfl (A := [.ref 0, .int y2]) rfl rfl (z_rok_ref W.t0) (rest := []) rfl rfl (by decide) ?_
    refine X_149 y2 h W  ?_
    by_cases c1 : (0 : Int32) ≤ y2 ∧ y2 ≤ ((z_iv h 0 13) - (1 : Int32))
    · rw [if_pos c1] at H ⊢
      by_cases c2 : (12 : Int32) ≤ y2
      · rw [if_pos c2] at H ⊢
        refine k_n 5 (pc' := 4) (L' := [some (.ref 0), some (.int y1), some (.int (y2 + (1 : Int32))), some (.null)]) (S' := []) (h' := h) rfl ?_
        exact H
      · rw [if_neg c2] at H ⊢
        obtain ⟨o3, H⟩ := H
        refine ⟨o3, ?_⟩
        refine ⟨fun hb4 => ?_, fun b5 hb4 => ?_⟩
        · have H := H.1 hb4
          refine k_n 5 (pc' := 4) (L' := [some (.ref 0), some (.int y1), some (.int (y2 + (1 : Int32))), some (.null)]) (S' := []) (h' := h) rfl ?_
          exact H
        · have H := H.2 b5 hb4
          have t6 : z_tg h b5 = 3 := (CW.tyOf (t := 103) (t' := 3) W (CW.tyOf (t := 11) (t' := 103) W (j := 1) W.t0 (W.abOf (t := 11) (j := 1) (o := 2) (n := 12) (by decide) W.t0).1 (by decide) rfl) hb4 (by decide) rfl)
          refine k_n 5 (pc' := 22) (L' := [some (.ref 0), some (.int y1), some (.int y2), some (.ref b5)]) (S' := [.ref b5, .ref 0]) (h' := h) rfl ?_
          refine k_cI 151 2 rfl rfl rfl (A := [.ref 0, .ref b5]) rfl rfl (z_rok_ref W.t0) (rest := []) rfl (z_tyI rfl rfl) ?_
          refine X_151 b5 h W t6 ?_
          by_cases c7 : (0 : Int32) ≤ (z_iv h b5 5) ∧ (z_iv h b5 5) ≤ ((z_iv h 0 12) - (1 : Int32))
          · rw [if_pos c7] at H ⊢
            by_cases c8 : (6 : Int32) ≤ (z_iv h b5 5)
            · rw [if_pos c8] at H ⊢
              refine k_n 3 (pc' := 4) (L' := [some (.ref 0), some (.int y1), some (.int (y2 + (1 : Int32))), some (.ref b5)]) (S' := []) (h' := h) rfl ?_
              exact H
            · rw [if_neg c8] at H ⊢
              obtain ⟨o9, H⟩ := H
              refine ⟨o9, ?_⟩
              refine ⟨fun hb10 => ?_, fun b11 hb10 => ?_⟩
              · have H := H.1 hb10
                refine k_n 3 (pc' := 4) (L' := [some (.ref 0), some (.int y1), some (.int (y2 + (1 : Int32))), some (.ref b5)]) (S' := []) (h' := h) rfl ?_
                exact H
              · have H := H.2 b11 hb10
                refine ⟨fun hb12 => ?_, fun b13 hb12 => ?_⟩
                · have H := H.1 hb12
                  refine k_n 3 (pc' := 4) (L' := [some (.ref 0), some (.int y1), some (.int (y2 + (1 : Int32))), some (.ref b5)]) (S' := []) (h' := h) rfl ?_
                  exact H
                · have H := H.2 b13 hb12
                  by_cases c14 : (z_iv h b13 10) = 0
                  · rw [if_pos c14] at H ⊢
                    by_cases c15 : b13 = b5
                    · rw [if_pos c15] at H ⊢
                      refine k_n 4 (pc' := 4) (L' := [some (.ref 0), some (.int (y1 + (1 : Int32))), some (.int (y2 + (1 : Int32))), some (.ref b5)]) (S' := []) (h' := h) rfl ?_
                      exact H
                    · rw [if_neg c15] at H ⊢
                      refine k_n 3 (pc' := 4) (L' := [some (.ref 0), some (.int y1), some (.int (y2 + (1 : Int32))), some (.ref b5)]) (S' := []) (h' := h) rfl ?_
                      exact H
                  · rw [if_neg c14] at H ⊢
                    refine k_n 3 (pc' := 4) (L' := [some (.ref 0), some (.int y1), some (.int (y2 + (1 : Int32))), some (.ref b5)]) (S' := []) (h' := h) rfl ?_
                    exact H
          · rw [if_neg c7] at H ⊢
            refine k_n 3 (pc' := 4) (L' := [some (.ref 0), some (.int y1), some (.int (y2 + (1 : Int32))), some (.ref b5)]) (S' := []) (h' := h) rfl ?_
            exact H
    · rw [if_neg c1] at H ⊢
      refine k_n 5 (pc' := 4) (L' := [some (.ref 0), some (.int y1), some (.int (y2 + (1 : Int32))), some (.null)]) (S' := []) (h' := h) rfl ?_
      exact H
set_option maxRecDepth 20000 in
theorem X_155 (x1 : Int32) (h : zH) (W : CW h)  {Q : Int32 → zH → Prop} (H : KG z_pI 155 4 [some (.ref 0), some (.int x1), some (.int (0 : Int32)), some (.int (0 : Int32)), none] [] h Q) : KK z_pI 155 [.ref 0, .int x1] h Q := by
  refine k_K (L := [some (.ref 0), some (.int x1), none, none, none]) rfl ?_
  refine k_n 4 (pc' := 4) (L' := [some (.ref 0), some (.int x1), some (.int (0 : Int32)), some (.int (0 : Int32)), none]) (S' := []) (h' := h) rfl ?_
  exact H
set_option maxRecDepth 20000 in
theorem X_155_4 (y1 : Int32) (y2 : Int32) (y3 : Int32) (u4 : Option Value) (h : zH) (W : CW h)  {Q : Int32 → zH → Prop} (H : if (60 : Int32) ≤ y3 then (Q y2 h) else (if (0 : Int32) ≤ y3 ∧ y3 ≤ ((z_iv h 0 14) - (1 : Int32)) then (if (60 : Int32) ≤ y3 then (KG z_pI 155 4 [some (.ref 0), some (.int y1), some (.int y2), some (.int (y3 + (1 : Int32))), some (.null)] [] h Q) else ((0 ≤ y3.toInt ∧ y3.toInt < 60) ∧ ((z_rv h 3 (z_ix y3) = none → KG z_pI 155 4 [some (.ref 0), some (.int y1), some (.int y2), some (.int (y3 + (1 : Int32))), some (.null)] [] h Q) ∧ (∀ b5, z_rv h 3 (z_ix y3) = some b5 → (z_rv h b5 0 = none → False) ∧ (∀ b8, z_rv h b5 0 = some b8 → ∀ m11 : Int32, m11 = (if (z_iv h b8 5) = y1 then (y2 + (1 : Int32)) else y2) → KG z_pI 155 4 [some (.ref 0), some (.int y1), some (.int m11), some (.int (y3 + (1 : Int32))), some (.ref b5)] [] h Q))))) else (KG z_pI 155 4 [some (.ref 0), some (.int y1), some (.int y2), some (.int (y3 + (1 : Int32))), some (.null)] [] h Q))) : KG z_pI 155 4 [some (.ref 0), some (.int y1), some (.int y2), some (.int y3), u4] [] h Q := by
  refine k_n 2 (pc' := 7) (L' := [some (.ref 0), some (.int y1), some (.int y2), some (.int y3), u4]) (S' := [.int (60 : Int32), .int y3]) (h' := h) rfl ?_
  refine k_b (g := (60 : Int32) ≤ y3) (pc' := 43) (L' := [some (.ref 0), some (.int y1), some (.int y2), some (.int y3), u4]) (S' := []) (pc2 := 10) (L2 := [some (.ref 0), some (.int y1), some (.int y2), some (.int y3), u4]) (S2 := []) (h' := h) (h2 := h) rfl rfl (fun hc => ?_) (fun hc => ?_)
  · have hc := hc
    rw [if_pos hc] at H
    refine k_n 1 (pc' := 44) (L' := [some (.ref 0), some (.int y1), some (.int y2), some (.int y3), u4]) (S' := [.int y2]) (h' := h) rfl ?_
    exact k_r rfl rfl rfl H
  · have hc := hc
    rw [if_neg hc] at H
    refine k_n 2 (pc' := 12) (L' := [some (.ref 0), some (.int y1), some (.int y2), some (.int y3), u4]) (S' := [.int y3, .ref 0]) (h' := h) rfl ?_
    refine k_cA 150 2 "SavedThird$Reading" rfl rfl rfl (A := [.ref 0, .int y3]) rfl rfl (z_rok_ref W.t0) (rest := []) rfl rfl (by decide) ?_
    refine X_150 y3 h W  ?_
    by_cases c1 : (0 : Int32) ≤ y3 ∧ y3 ≤ ((z_iv h 0 14) - (1 : Int32))
    · rw [if_pos c1] at H ⊢
      by_cases c2 : (60 : Int32) ≤ y3
      · rw [if_pos c2] at H ⊢
        refine k_n 5 (pc' := 4) (L' := [some (.ref 0), some (.int y1), some (.int y2), some (.int (y3 + (1 : Int32))), some (.null)]) (S' := []) (h' := h) rfl ?_
        exact H
      · rw [if_neg c2] at H ⊢
        obtain ⟨o3, H⟩ := H
        refine ⟨o3, ?_⟩
        refine ⟨fun hb4 => ?_, fun b5 hb4 => ?_⟩
        · have H := H.1 hb4
          refine k_n 5 (pc' := 4) (L' := [some (.ref 0), some (.int y1), some (.int y2), some (.int (y3 + (1 : Int32))), some (.null)]) (S' := []) (h' := h) rfl ?_
          exact H
        · have H := H.2 b5 hb4
          have t6 : z_tg h b5 = 5 := (CW.tyOf (t := 104) (t' := 5) W (CW.tyOf (t := 11) (t' := 104) W (j := 2) W.t0 (W.abOf (t := 11) (j := 2) (o := 3) (n := 60) (by decide) W.t0).1 (by decide) rfl) hb4 (by decide) rfl)
          refine k_n 4 (pc' := 24) (L' := [some (.ref 0), some (.int y1), some (.int y2), some (.int y3), some (.ref b5)]) (S' := [.ref b5]) (h' := h) rfl ?_
          obtain hb7 | ⟨b8, hb7⟩ := z_opt (z_rv h b5 0)
          · have H := H.1 hb7
            refine k_gN rfl t6 hb7 ?_
            exact H.elim
          · have H := H.2 b8 hb7
            have t9 : z_tg h b8 = 3 := (CW.tyOf (t := 5) (t' := 3) W t6 hb7 (by decide) rfl)
            refine k_gS rfl t6 hb7 ?_
            refine k_gI rfl rfl t9 ?_
            refine k_n 1 (pc' := 31) (L' := [some (.ref 0), some (.int y1), some (.int y2), some (.int y3), some (.ref b5)]) (S' := [.int y1, .int (z_iv h b8 5)]) (h' := h) rfl ?_
            obtain ⟨m11, em11⟩ : ∃ m : Int32, m = (if (z_iv h b8 5) = y1 then (y2 + (1 : Int32)) else y2) := ⟨_, rfl⟩
            have H := H m11 em11
            have hj12 : KG z_pI 155 37 [some (.ref 0), some (.int y1), some (.int m11), some (.int y3), some (.ref b5)] [] h Q := by
              refine k_n 2 (pc' := 4) (L' := [some (.ref 0), some (.int y1), some (.int m11), some (.int (y3 + (1 : Int32))), some (.ref b5)]) (S' := []) (h' := h) rfl ?_
              exact H
            refine k_b (g := (z_iv h b8 5) = y1) (pc' := 34) (L' := [some (.ref 0), some (.int y1), some (.int y2), some (.int y3), some (.ref b5)]) (S' := []) (pc2 := 37) (L2 := [some (.ref 0), some (.int y1), some (.int y2), some (.int y3), some (.ref b5)]) (S2 := []) (h' := h) (h2 := h) rfl rfl (fun hc => ?_) (fun hc => ?_)
            · have c10 := hc
              refine k_n 1 (pc' := 37) (L' := [some (.ref 0), some (.int y1), some (.int (y2 + (1 : Int32))), some (.int y3), some (.ref b5)]) (S' := []) (h' := h) rfl ?_
              rw [(em11.trans (by rw [if_pos c10]) : m11 = (y2 + (1 : Int32)))] at hj12
              exact hj12
            · have c10 := hc
              rw [(em11.trans (by rw [if_neg c10]) : m11 = y2)] at hj12
              exact hj12
    · rw [if_neg c1] at H ⊢
      refine k_n 5 (pc' := 4) (L' := [some (.ref 0), some (.int y1), some (.int y2), some (.int (y3 + (1 : Int32))), some (.null)]) (S' := []) (h' := h) rfl ?_
      exact H
