set_option maxRecDepth 20000 in
theorem X_36 (a0 : Nat) (x1 : Int32) (x2 : Int32) (x3 : Int32) (x4 : Int32) (x5 : Int32) (h : zH) (W : CW h) (T0 : z_tg h a0 = 3) {Q : Unit → zH → Prop} (H : Q () (z_sI (z_sI (z_sI (z_sI (z_sI h a0 0 x1) a0 1 x2) a0 2 x3) a0 3 x4) a0 4 x5)) : KK z_pV 36 [.ref a0, .int x1, .int x2, .int x3, .int x4, .int x5] h Q := by
  refine k_K (L := [some (.ref a0), some (.int x1), some (.int x2), some (.int x3), some (.int x4), some (.int x5)]) rfl ?_
  refine k_n 4 (pc' := 6) (L' := [some (.ref a0), some (.int x1), some (.int x2), some (.int x3), some (.int x4), some (.int x5)]) (S' := [.int x1, .ref a0]) (h' := h) rfl ?_
  refine k_pI rfl T0 ?_
  refine k_n 2 (pc' := 11) (L' := [some (.ref a0), some (.int x1), some (.int x2), some (.int x3), some (.int x4), some (.int x5)]) (S' := [.int x2, .ref a0]) (h' := (z_sI h a0 0 x1)) rfl ?_
  refine k_pI rfl (z_tgI T0) ?_
  refine k_n 2 (pc' := 16) (L' := [some (.ref a0), some (.int x1), some (.int x2), some (.int x3), some (.int x4), some (.int x5)]) (S' := [.int x3, .ref a0]) (h' := (z_sI (z_sI h a0 0 x1) a0 1 x2)) rfl ?_
  refine k_pI rfl (z_tgI (z_tgI T0)) ?_
  refine k_n 2 (pc' := 22) (L' := [some (.ref a0), some (.int x1), some (.int x2), some (.int x3), some (.int x4), some (.int x5)]) (S' := [.int x4, .ref a0]) (h' := (z_sI (z_sI (z_sI h a0 0 x1) a0 1 x2) a0 2 x3)) rfl ?_
  refine k_pI rfl (z_tgI (z_tgI (z_tgI T0))) ?_
  refine k_n 2 (pc' := 28) (L' := [some (.ref a0), some (.int x1), some (.int x2), some (.int x3), some (.int x4), some (.int x5)]) (S' := [.int x5, .ref a0]) (h' := (z_sI (z_sI (z_sI (z_sI h a0 0 x1) a0 1 x2) a0 2 x3) a0 3 x4)) rfl ?_
  refine k_pI rfl (z_tgI (z_tgI (z_tgI (z_tgI T0)))) ?_
  exact k_r rfl rfl rfl H
set_option maxRecDepth 20000 in
theorem X_94 (a0 : Nat) (x1 : Int32) (x2 : Int32) (x3 : Int32) (x4 : Int32) (h : zH) (W : CW h) (T0 : z_tg h a0 = 10) {Q : Unit → zH → Prop} (H : Q () (z_sI (z_sI (z_sI (z_sI h a0 0 x1) a0 1 x2) a0 2 x3) a0 3 x4)) : KK z_pV 94 [.ref a0, .int x1, .int x2, .int x3, .int x4] h Q := by
  refine k_K (L := [some (.ref a0), some (.int x1), some (.int x2), some (.int x3), some (.int x4)]) rfl ?_
  refine k_n 4 (pc' := 6) (L' := [some (.ref a0), some (.int x1), some (.int x2), some (.int x3), some (.int x4)]) (S' := [.int x1, .ref a0]) (h' := h) rfl ?_
  refine k_pI rfl T0 ?_
  refine k_n 2 (pc' := 11) (L' := [some (.ref a0), some (.int x1), some (.int x2), some (.int x3), some (.int x4)]) (S' := [.int x2, .ref a0]) (h' := (z_sI h a0 0 x1)) rfl ?_
  refine k_pI rfl (z_tgI T0) ?_
  refine k_n 2 (pc' := 16) (L' := [some (.ref a0), some (.int x1), some (.int x2), some (.int x3), some (.int x4)]) (S' := [.int x3, .ref a0]) (h' := (z_sI (z_sI h a0 0 x1) a0 1 x2)) rfl ?_
  refine k_pI rfl (z_tgI (z_tgI T0)) ?_
  refine k_n 2 (pc' := 22) (L' := [some (.ref a0), some (.int x1), some (.int x2), some (.int x3), some (.int x4)]) (S' := [.int x4, .ref a0]) (h' := (z_sI (z_sI (z_sI h a0 0 x1) a0 1 x2) a0 2 x3)) rfl ?_
  refine k_pI rfl (z_tgI (z_tgI (z_tgI T0))) ?_
  exact k_r rfl rfl rfl H
set_option maxRecDepth 20000 in
theorem X_54 (a0 : Nat) (x1 : Nat) (x2 : Nat) (x3 : Int32) (h : zH) (W : CW h) (T0 : z_tg h a0 = 5) (T1 : z_tg h x1 = 4) (T2 : z_tg h x2 = 3) {Q : Unit → zH → Prop} (H : (z_rv (z_sR h a0 0 (some x2)) x1 9 = none → ∃ v4 : Int32, KV z_pI 49 [.ref x1, .int (x3 - (1 : Int32)), .int (5 : Int32)] (z_sI (z_sI (z_sI (z_sI (z_sI (z_sI (z_sR (z_sR h a0 0 (some x2)) a0 1 none) a0 2 x3) a0 3 (z_iv h x2 8)) a0 4 (x3 - (z_iv h x2 13))) a0 5 (s_fm ((z_iv h x2 8) - (z_iv h x2 14)) (10000 : Int32))) a0 6 ((s_fm ((z_iv h x2 8) - (z_iv h x2 14)) (10000 : Int32)) + ((if (0 : Int32) < ((((z_iv h x2 3) * (x3 - (z_iv h x2 13))) - (s_fm ((z_iv h x2 8) - (z_iv h x2 14)) (10000 : Int32))) / (10000 : Int32)) then ((((z_iv h x2 3) * (x3 - (z_iv h x2 13))) - (s_fm ((z_iv h x2 8) - (z_iv h x2 14)) (10000 : Int32))) / (10000 : Int32)) else (0 : Int32)) * (10000 : Int32)))) a0 7 ((z_iv h x2 12) - (z_iv h x2 15))) v4 ∧ Q () (z_sI (z_sI (z_sI (z_sI (z_sI (z_sI (z_sI (z_sI (z_sR (z_sR h a0 0 (some x2)) a0 1 none) a0 2 x3) a0 3 (z_iv h x2 8)) a0 4 (x3 - (z_iv h x2 13))) a0 5 (s_fm ((z_iv h x2 8) - (z_iv h x2 14)) (10000 : Int32))) a0 6 ((s_fm ((z_iv h x2 8) - (z_iv h x2 14)) (10000 : Int32)) + ((if (0 : Int32) < ((((z_iv h x2 3) * (x3 - (z_iv h x2 13))) - (s_fm ((z_iv h x2 8) - (z_iv h x2 14)) (10000 : Int32))) / (10000 : Int32)) then ((((z_iv h x2 3) * (x3 - (z_iv h x2 13))) - (s_fm ((z_iv h x2 8) - (z_iv h x2 14)) (10000 : Int32))) / (10000 : Int32)) else (0 : Int32)) * (10000 : Int32)))) a0 7 ((z_iv h x2 12) - (z_iv h x2 15))) a0 8 v4) a0 9 (z_iv h x1 5))) ∧ (∀ b2, z_rv (z_sR h a0 0 (some x2)) x1 9 = some b2 → ∃ v6 : Int32, KV z_pI 49 [.ref x1, .int (x3 - (1 : Int32)), .int (5 : Int32)] (z_sI (z_sI (z_sI (z_sI (z_sI (z_sI (z_sR (z_sR h a0 0 (some x2)) a0 1 (some b2)) a0 2 x3) a0 3 (z_iv h x2 8)) a0 4 (x3 - (z_iv h x2 13))) a0 5 (s_fm ((z_iv h x2 8) - (z_iv h x2 14)) (10000 : Int32))) a0 6 ((s_fm ((z_iv h x2 8) - (z_iv h x2 14)) (10000 : Int32)) + ((if (0 : Int32) < ((((z_iv h x2 3) * (x3 - (z_iv h x2 13))) - (s_fm ((z_iv h x2 8) - (z_iv h x2 14)) (10000 : Int32))) / (10000 : Int32)) then ((((z_iv h x2 3) * (x3 - (z_iv h x2 13))) - (s_fm ((z_iv h x2 8) - (z_iv h x2 14)) (10000 : Int32))) / (10000 : Int32)) else (0 : Int32)) * (10000 : Int32)))) a0 7 ((z_iv h x2 12) - (z_iv h x2 15))) v6 ∧ Q () (z_sI (z_sI (z_sI (z_sI (z_sI (z_sI (z_sI (z_sI (z_sR (z_sR h a0 0 (some x2)) a0 1 (some b2)) a0 2 x3) a0 3 (z_iv h x2 8)) a0 4 (x3 - (z_iv h x2 13))) a0 5 (s_fm ((z_iv h x2 8) - (z_iv h x2 14)) (10000 : Int32))) a0 6 ((s_fm ((z_iv h x2 8) - (z_iv h x2 14)) (10000 : Int32)) + ((if (0 : Int32) < ((((z_iv h x2 3) * (x3 - (z_iv h x2 13))) - (s_fm ((z_iv h x2 8) - (z_iv h x2 14)) (10000 : Int32))) / (10000 : Int32)) then ((((z_iv h x2 3) * (x3 - (z_iv h x2 13))) - (s_fm ((z_iv h x2 8) - (z_iv h x2 14)) (10000 : Int32))) / (10000 : Int32)) else (0 : Int32)) * (10000 : Int32)))) a0 7 ((z_iv h x2 12) - (z_iv h x2 15))) a0 8 v6) a0 9 (z_iv h x1 5)))) : KK z_pV 54 [.ref a0, .ref x1, .ref x2, .int x3] h Q := by
  refine k_K (L := [some (.ref a0), some (.ref x1), some (.ref x2), some (.int x3), none]) rfl ?_
  refine k_n 4 (pc' := 6) (L' := [some (.ref a0), some (.ref x1), some (.ref x2), some (.int x3), none]) (S' := [.ref x2, .ref a0]) (h' := h) rfl ?_
  refine k_pR rfl T0 ?_
  refine k_n 2 (pc' := 11) (L' := [some (.ref a0), some (.ref x1), some (.ref x2), some (.int x3), none]) (S' := [.ref x1, .ref a0]) (h' := (z_sR h a0 0 (some x2))) rfl ?_
  obtain hb1 | ⟨b2, hb1⟩ := z_opt (z_rv (z_sR h a0 0 (some x2)) x1 9)
  · have H := H.1 hb1
    refine k_gN rfl (z_tgR T1) hb1 ?_
    refine k_pN rfl (z_tgR T0) ?_
    refine k_n 2 (pc' := 19) (L' := [some (.ref a0), some (.ref x1), some (.ref x2), some (.int x3), none]) (S' := [.int x3, .ref a0]) (h' := (z_sR (z_sR h a0 0 (some x2)) a0 1 none)) rfl ?_
    refine k_pI rfl (z_tgR (z_tgR T0)) ?_
    refine k_n 2 (pc' := 24) (L' := [some (.ref a0), some (.ref x1), some (.ref x2), some (.int x3), none]) (S' := [.ref x2, .ref a0]) (h' := (z_sI (z_sR (z_sR h a0 0 (some x2)) a0 1 none) a0 2 x3)) rfl ?_
    refine k_gV rfl rfl (z_tgI (z_tgR (z_tgR T2))) (v_nt (z_tgR (z_tgR T2)) (z_tgR (z_tgR T0)) (by decide) (v_sR (v_sR rfl))) ?_
    refine k_pI rfl (z_tgI (z_tgR (z_tgR T0))) ?_
    refine k_n 3 (pc' := 33) (L' := [some (.ref a0), some (.ref x1), some (.ref x2), some (.int x3), none]) (S' := [.ref x2, .int x3, .ref a0]) (h' := (z_sI (z_sI (z_sR (z_sR h a0 0 (some x2)) a0 1 none) a0 2 x3) a0 3 (z_iv h x2 8))) rfl ?_
    refine k_gV rfl rfl (z_tgI (z_tgI (z_tgR (z_tgR T2)))) (v_nt (z_tgI (z_tgR (z_tgR T2))) (z_tgI (z_tgR (z_tgR T0))) (by decide) (v_nt (z_tgR (z_tgR T2)) (z_tgR (z_tgR T0)) (by decide) (v_sR (v_sR rfl)))) ?_
    refine k_n 1 (pc' := 37) (L' := [some (.ref a0), some (.ref x1), some (.ref x2), some (.int x3), none]) (S' := [.int (x3 - (z_iv h x2 13)), .ref a0]) (h' := (z_sI (z_sI (z_sR (z_sR h a0 0 (some x2)) a0 1 none) a0 2 x3) a0 3 (z_iv h x2 8))) rfl ?_
    refine k_pI rfl (z_tgI (z_tgI (z_tgR (z_tgR T0)))) ?_
    refine k_n 2 (pc' := 42) (L' := [some (.ref a0), some (.ref x1), some (.ref x2), some (.int x3), none]) (S' := [.ref x2, .ref a0]) (h' := (z_sI (z_sI (z_sI (z_sR (z_sR h a0 0 (some x2)) a0 1 none) a0 2 x3) a0 3 (z_iv h x2 8)) a0 4 (x3 - (z_iv h x2 13)))) rfl ?_
    refine k_gV rfl rfl (z_tgI (z_tgI (z_tgI (z_tgR (z_tgR T2))))) (v_nt (z_tgI (z_tgI (z_tgR (z_tgR T2)))) (z_tgI (z_tgI (z_tgR (z_tgR T0)))) (by decide) (v_nt (z_tgI (z_tgR (z_tgR T2))) (z_tgI (z_tgR (z_tgR T0))) (by decide) (v_nt (z_tgR (z_tgR T2)) (z_tgR (z_tgR T0)) (by decide) (v_sR (v_sR rfl))))) ?_
    refine k_n 1 (pc' := 46) (L' := [some (.ref a0), some (.ref x1), some (.ref x2), some (.int x3), none]) (S' := [.ref x2, .int (z_iv h x2 8), .ref a0]) (h' := (z_sI (z_sI (z_sI (z_sR (z_sR h a0 0 (some x2)) a0 1 none) a0 2 x3) a0 3 (z_iv h x2 8)) a0 4 (x3 - (z_iv h x2 13)))) rfl ?_
    refine k_gV rfl rfl (z_tgI (z_tgI (z_tgI (z_tgR (z_tgR T2))))) (v_nt (z_tgI (z_tgI (z_tgR (z_tgR T2)))) (z_tgI (z_tgI (z_tgR (z_tgR T0)))) (by decide) (v_nt (z_tgI (z_tgR (z_tgR T2))) (z_tgI (z_tgR (z_tgR T0))) (by decide) (v_nt (z_tgR (z_tgR T2)) (z_tgR (z_tgR T0)) (by decide) (v_sR (v_sR rfl))))) ?_
    refine k_n 2 (pc' := 53) (L' := [some (.ref a0), some (.ref x1), some (.ref x2), some (.int x3), none]) (S' := [.int (10000 : Int32), .int ((z_iv h x2 8) - (z_iv h x2 14)), .ref a0]) (h' := (z_sI (z_sI (z_sI (z_sR (z_sR h a0 0 (some x2)) a0 1 none) a0 2 x3) a0 3 (z_iv h x2 8)) a0 4 (x3 - (z_iv h x2 13)))) rfl ?_
    refine k_cI 10 2 rfl rfl rfl (A := [.int ((z_iv h x2 8) - (z_iv h x2 14)), .int (10000 : Int32)]) rfl rfl rfl (rest := [.ref a0]) rfl (z_tyI rfl rfl) ?_
    refine c_fm ((z_iv h x2 8) - (z_iv h x2 14)) (10000 : Int32) (z_sI (z_sI (z_sI (z_sR (z_sR h a0 0 (some x2)) a0 1 none) a0 2 x3) a0 3 (z_iv h x2 8)) a0 4 (x3 - (z_iv h x2 13))) (by decide) ?_
    refine k_pI rfl (z_tgI (z_tgI (z_tgI (z_tgR (z_tgR T0))))) ?_
    refine k_n 1 (pc' := 60) (L' := [some (.ref a0), some (.ref x1), some (.ref x2), some (.int x3), none]) (S' := [.ref x2]) (h' := (z_sI (z_sI (z_sI (z_sI (z_sR (z_sR h a0 0 (some x2)) a0 1 none) a0 2 x3) a0 3 (z_iv h x2 8)) a0 4 (x3 - (z_iv h x2 13))) a0 5 (s_fm ((z_iv h x2 8) - (z_iv h x2 14)) (10000 : Int32)))) rfl ?_
    refine k_gV rfl rfl (z_tgI (z_tgI (z_tgI (z_tgI (z_tgR (z_tgR T2)))))) (v_nt (z_tgI (z_tgI (z_tgI (z_tgR (z_tgR T2))))) (z_tgI (z_tgI (z_tgI (z_tgR (z_tgR T0))))) (by decide) (v_nt (z_tgI (z_tgI (z_tgR (z_tgR T2)))) (z_tgI (z_tgI (z_tgR (z_tgR T0)))) (by decide) (v_nt (z_tgI (z_tgR (z_tgR T2))) (z_tgI (z_tgR (z_tgR T0))) (by decide) (v_nt (z_tgR (z_tgR T2)) (z_tgR (z_tgR T0)) (by decide) (v_sR (v_sR rfl)))))) ?_
    refine k_n 1 (pc' := 64) (L' := [some (.ref a0), some (.ref x1), some (.ref x2), some (.int x3), none]) (S' := [.ref a0, .int (z_iv h x2 3)]) (h' := (z_sI (z_sI (z_sI (z_sI (z_sR (z_sR h a0 0 (some x2)) a0 1 none) a0 2 x3) a0 3 (z_iv h x2 8)) a0 4 (x3 - (z_iv h x2 13))) a0 5 (s_fm ((z_iv h x2 8) - (z_iv h x2 14)) (10000 : Int32)))) rfl ?_
    refine k_gV rfl rfl (z_tgI (z_tgI (z_tgI (z_tgI (z_tgR (z_tgR T0)))))) (v_nj (by decide) v_at) ?_
    refine k_n 2 (pc' := 69) (L' := [some (.ref a0), some (.ref x1), some (.ref x2), some (.int x3), none]) (S' := [.ref a0, .int ((z_iv h x2 3) * (x3 - (z_iv h x2 13)))]) (h' := (z_sI (z_sI (z_sI (z_sI (z_sR (z_sR h a0 0 (some x2)) a0 1 none) a0 2 x3) a0 3 (z_iv h x2 8)) a0 4 (x3 - (z_iv h x2 13))) a0 5 (s_fm ((z_iv h x2 8) - (z_iv h x2 14)) (10000 : Int32)))) rfl ?_
    refine k_gV rfl rfl (z_tgI (z_tgI (z_tgI (z_tgI (z_tgR (z_tgR T0)))))) v_at ?_
    refine k_n 4 (pc' := 77) (L' := [some (.ref a0), some (.ref x1), some (.ref x2), some (.int x3), some (.int (((z_iv h x2 3) * (x3 - (z_iv h x2 13))) - (s_fm ((z_iv h x2 8) - (z_iv h x2 14)) (10000 : Int32))))]) (S' := [.ref a0, .ref a0]) (h' := (z_sI (z_sI (z_sI (z_sI (z_sR (z_sR h a0 0 (some x2)) a0 1 none) a0 2 x3) a0 3 (z_iv h x2 8)) a0 4 (x3 - (z_iv h x2 13))) a0 5 (s_fm ((z_iv h x2 8) - (z_iv h x2 14)) (10000 : Int32)))) rfl ?_
    refine k_gV rfl rfl (z_tgI (z_tgI (z_tgI (z_tgI (z_tgR (z_tgR T0)))))) v_at ?_
    refine k_n 3 (pc' := 86) (L' := [some (.ref a0), some (.ref x1), some (.ref x2), some (.int x3), some (.int (((z_iv h x2 3) * (x3 - (z_iv h x2 13))) - (s_fm ((z_iv h x2 8) - (z_iv h x2 14)) (10000 : Int32))))]) (S' := [.int (10000 : Int32), .int (((z_iv h x2 3) * (x3 - (z_iv h x2 13))) - (s_fm ((z_iv h x2 8) - (z_iv h x2 14)) (10000 : Int32))), .int (0 : Int32), .int (s_fm ((z_iv h x2 8) - (z_iv h x2 14)) (10000 : Int32)), .ref a0]) (h' := (z_sI (z_sI (z_sI (z_sI (z_sR (z_sR h a0 0 (some x2)) a0 1 none) a0 2 x3) a0 3 (z_iv h x2 8)) a0 4 (x3 - (z_iv h x2 13))) a0 5 (s_fm ((z_iv h x2 8) - (z_iv h x2 14)) (10000 : Int32)))) rfl ?_
    refine k_d (g := (10000 : Int32) = 0) (pc' := 87) (L' := [some (.ref a0), some (.ref x1), some (.ref x2), some (.int x3), some (.int (((z_iv h x2 3) * (x3 - (z_iv h x2 13))) - (s_fm ((z_iv h x2 8) - (z_iv h x2 14)) (10000 : Int32))))]) (S' := [.int ((((z_iv h x2 3) * (x3 - (z_iv h x2 13))) - (s_fm ((z_iv h x2 8) - (z_iv h x2 14)) (10000 : Int32))) / (10000 : Int32)), .int (0 : Int32), .int (s_fm ((z_iv h x2 8) - (z_iv h x2 14)) (10000 : Int32)), .ref a0]) (h' := (z_sI (z_sI (z_sI (z_sI (z_sR (z_sR h a0 0 (some x2)) a0 1 none) a0 2 x3) a0 3 (z_iv h x2 8)) a0 4 (x3 - (z_iv h x2 13))) a0 5 (s_fm ((z_iv h x2 8) - (z_iv h x2 14)) (10000 : Int32)))) rfl rfl (by decide) ?_
    refine k_cI 12 2 rfl rfl rfl (A := [.int (0 : Int32), .int ((((z_iv h x2 3) * (x3 - (z_iv h x2 13))) - (s_fm ((z_iv h x2 8) - (z_iv h x2 14)) (10000 : Int32))) / (10000 : Int32))]) rfl rfl rfl (rest := [.int (s_fm ((z_iv h x2 8) - (z_iv h x2 14)) (10000 : Int32)), .ref a0]) rfl (z_tyI rfl rfl) ?_
    refine C_12 (0 : Int32) ((((z_iv h x2 3) * (x3 - (z_iv h x2 13))) - (s_fm ((z_iv h x2 8) - (z_iv h x2 14)) (10000 : Int32))) / (10000 : Int32)) (z_sI (z_sI (z_sI (z_sI (z_sR (z_sR h a0 0 (some x2)) a0 1 none) a0 2 x3) a0 3 (z_iv h x2 8)) a0 4 (x3 - (z_iv h x2 13))) a0 5 (s_fm ((z_iv h x2 8) - (z_iv h x2 14)) (10000 : Int32)))    ?_
    refine k_n 3 (pc' := 95) (L' := [some (.ref a0), some (.ref x1), some (.ref x2), some (.int x3), some (.int (((z_iv h x2 3) * (x3 - (z_iv h x2 13))) - (s_fm ((z_iv h x2 8) - (z_iv h x2 14)) (10000 : Int32))))]) (S' := [.int ((s_fm ((z_iv h x2 8) - (z_iv h x2 14)) (10000 : Int32)) + ((if (0 : Int32) < ((((z_iv h x2 3) * (x3 - (z_iv h x2 13))) - (s_fm ((z_iv h x2 8) - (z_iv h x2 14)) (10000 : Int32))) / (10000 : Int32)) then ((((z_iv h x2 3) * (x3 - (z_iv h x2 13))) - (s_fm ((z_iv h x2 8) - (z_iv h x2 14)) (10000 : Int32))) / (10000 : Int32)) else (0 : Int32)) * (10000 : Int32))), .ref a0]) (h' := (z_sI (z_sI (z_sI (z_sI (z_sR (z_sR h a0 0 (some x2)) a0 1 none) a0 2 x3) a0 3 (z_iv h x2 8)) a0 4 (x3 - (z_iv h x2 13))) a0 5 (s_fm ((z_iv h x2 8) - (z_iv h x2 14)) (10000 : Int32)))) rfl ?_
    refine k_pI rfl (z_tgI (z_tgI (z_tgI (z_tgI (z_tgR (z_tgR T0)))))) ?_
    refine k_n 2 (pc' := 100) (L' := [some (.ref a0), some (.ref x1), some (.ref x2), some (.int x3), some (.int (((z_iv h x2 3) * (x3 - (z_iv h x2 13))) - (s_fm ((z_iv h x2 8) - (z_iv h x2 14)) (10000 : Int32))))]) (S' := [.ref x2, .ref a0]) (h' := (z_sI (z_sI (z_sI (z_sI (z_sI (z_sR (z_sR h a0 0 (some x2)) a0 1 none) a0 2 x3) a0 3 (z_iv h x2 8)) a0 4 (x3 - (z_iv h x2 13))) a0 5 (s_fm ((z_iv h x2 8) - (z_iv h x2 14)) (10000 : Int32))) a0 6 ((s_fm ((z_iv h x2 8) - (z_iv h x2 14)) (10000 : Int32)) + ((if (0 : Int32) < ((((z_iv h x2 3) * (x3 - (z_iv h x2 13))) - (s_fm ((z_iv h x2 8) - (z_iv h x2 14)) (10000 : Int32))) / (10000 : Int32)) then ((((z_iv h x2 3) * (x3 - (z_iv h x2 13))) - (s_fm ((z_iv h x2 8) - (z_iv h x2 14)) (10000 : Int32))) / (10000 : Int32)) else (0 : Int32)) * (10000 : Int32))))) rfl ?_
    refine k_gV rfl rfl (z_tgI (z_tgI (z_tgI (z_tgI (z_tgI (z_tgR (z_tgR T2))))))) (v_nt (z_tgI (z_tgI (z_tgI (z_tgI (z_tgR (z_tgR T2)))))) (z_tgI (z_tgI (z_tgI (z_tgI (z_tgR (z_tgR T0)))))) (by decide) (v_nt (z_tgI (z_tgI (z_tgI (z_tgR (z_tgR T2))))) (z_tgI (z_tgI (z_tgI (z_tgR (z_tgR T0))))) (by decide) (v_nt (z_tgI (z_tgI (z_tgR (z_tgR T2)))) (z_tgI (z_tgI (z_tgR (z_tgR T0)))) (by decide) (v_nt (z_tgI (z_tgR (z_tgR T2))) (z_tgI (z_tgR (z_tgR T0))) (by decide) (v_nt (z_tgR (z_tgR T2)) (z_tgR (z_tgR T0)) (by decide) (v_sR (v_sR rfl))))))) ?_
    refine k_n 1 (pc' := 104) (L' := [some (.ref a0), some (.ref x1), some (.ref x2), some (.int x3), some (.int (((z_iv h x2 3) * (x3 - (z_iv h x2 13))) - (s_fm ((z_iv h x2 8) - (z_iv h x2 14)) (10000 : Int32))))]) (S' := [.ref x2, .int (z_iv h x2 12), .ref a0]) (h' := (z_sI (z_sI (z_sI (z_sI (z_sI (z_sR (z_sR h a0 0 (some x2)) a0 1 none) a0 2 x3) a0 3 (z_iv h x2 8)) a0 4 (x3 - (z_iv h x2 13))) a0 5 (s_fm ((z_iv h x2 8) - (z_iv h x2 14)) (10000 : Int32))) a0 6 ((s_fm ((z_iv h x2 8) - (z_iv h x2 14)) (10000 : Int32)) + ((if (0 : Int32) < ((((z_iv h x2 3) * (x3 - (z_iv h x2 13))) - (s_fm ((z_iv h x2 8) - (z_iv h x2 14)) (10000 : Int32))) / (10000 : Int32)) then ((((z_iv h x2 3) * (x3 - (z_iv h x2 13))) - (s_fm ((z_iv h x2 8) - (z_iv h x2 14)) (10000 : Int32))) / (10000 : Int32)) else (0 : Int32)) * (10000 : Int32))))) rfl ?_
    refine k_gV rfl rfl (z_tgI (z_tgI (z_tgI (z_tgI (z_tgI (z_tgR (z_tgR T2))))))) (v_nt (z_tgI (z_tgI (z_tgI (z_tgI (z_tgR (z_tgR T2)))))) (z_tgI (z_tgI (z_tgI (z_tgI (z_tgR (z_tgR T0)))))) (by decide) (v_nt (z_tgI (z_tgI (z_tgI (z_tgR (z_tgR T2))))) (z_tgI (z_tgI (z_tgI (z_tgR (z_tgR T0))))) (by decide) (v_nt (z_tgI (z_tgI (z_tgR (z_tgR T2)))) (z_tgI (z_tgI (z_tgR (z_tgR T0)))) (by decide) (v_nt (z_tgI (z_tgR (z_tgR T2))) (z_tgI (z_tgR (z_tgR T0))) (by decide) (v_nt (z_tgR (z_tgR T2)) (z_tgR (z_tgR T0)) (by decide) (v_sR (v_sR rfl))))))) ?_
    refine k_n 1 (pc' := 108) (L' := [some (.ref a0), some (.ref x1), some (.ref x2), some (.int x3), some (.int (((z_iv h x2 3) * (x3 - (z_iv h x2 13))) - (s_fm ((z_iv h x2 8) - (z_iv h x2 14)) (10000 : Int32))))]) (S' := [.int ((z_iv h x2 12) - (z_iv h x2 15)), .ref a0]) (h' := (z_sI (z_sI (z_sI (z_sI (z_sI (z_sR (z_sR h a0 0 (some x2)) a0 1 none) a0 2 x3) a0 3 (z_iv h x2 8)) a0 4 (x3 - (z_iv h x2 13))) a0 5 (s_fm ((z_iv h x2 8) - (z_iv h x2 14)) (10000 : Int32))) a0 6 ((s_fm ((z_iv h x2 8) - (z_iv h x2 14)) (10000 : Int32)) + ((if (0 : Int32) < ((((z_iv h x2 3) * (x3 - (z_iv h x2 13))) - (s_fm ((z_iv h x2 8) - (z_iv h x2 14)) (10000 : Int32))) / (10000 : Int32)) then ((((z_iv h x2 3) * (x3 - (z_iv h x2 13))) - (s_fm ((z_iv h x2 8) - (z_iv h x2 14)) (10000 : Int32))) / (10000 : Int32)) else (0 : Int32)) * (10000 : Int32))))) rfl ?_
    refine k_pI rfl (z_tgI (z_tgI (z_tgI (z_tgI (z_tgI (z_tgR (z_tgR T0))))))) ?_
    refine k_n 6 (pc' := 117) (L' := [some (.ref a0), some (.ref x1), some (.ref x2), some (.int x3), some (.int (((z_iv h x2 3) * (x3 - (z_iv h x2 13))) - (s_fm ((z_iv h x2 8) - (z_iv h x2 14)) (10000 : Int32))))]) (S' := [.int (5 : Int32), .int (x3 - (1 : Int32)), .ref x1, .ref a0]) (h' := (z_sI (z_sI (z_sI (z_sI (z_sI (z_sI (z_sR (z_sR h a0 0 (some x2)) a0 1 none) a0 2 x3) a0 3 (z_iv h x2 8)) a0 4 (x3 - (z_iv h x2 13))) a0 5 (s_fm ((z_iv h x2 8) - (z_iv h x2 14)) (10000 : Int32))) a0 6 ((s_fm ((z_iv h x2 8) - (z_iv h x2 14)) (10000 : Int32)) + ((if (0 : Int32) < ((((z_iv h x2 3) * (x3 - (z_iv h x2 13))) - (s_fm ((z_iv h x2 8) - (z_iv h x2 14)) (10000 : Int32))) / (10000 : Int32)) then ((((z_iv h x2 3) * (x3 - (z_iv h x2 13))) - (s_fm ((z_iv h x2 8) - (z_iv h x2 14)) (10000 : Int32))) / (10000 : Int32)) else (0 : Int32)) * (10000 : Int32)))) a0 7 ((z_iv h x2 12) - (z_iv h x2 15)))) rfl ?_
    refine k_cI 49 3 rfl rfl rfl (A := [.ref x1, .int (x3 - (1 : Int32)), .int (5 : Int32)]) rfl rfl (z_rok_ref (z_tgI (z_tgI (z_tgI (z_tgI (z_tgI (z_tgI (z_tgR (z_tgR T1))))))))) (rest := [.ref a0]) rfl (z_tyI rfl rfl) ?_
    obtain ⟨v4, k5, H⟩ := H
    refine k_P k5 ?_
    refine k_pI rfl (z_tgI (z_tgI (z_tgI (z_tgI (z_tgI (z_tgI (z_tgR (z_tgR T0)))))))) ?_
    refine k_n 2 (pc' := 125) (L' := [some (.ref a0), some (.ref x1), some (.ref x2), some (.int x3), some (.int (((z_iv h x2 3) * (x3 - (z_iv h x2 13))) - (s_fm ((z_iv h x2 8) - (z_iv h x2 14)) (10000 : Int32))))]) (S' := [.ref x1, .ref a0]) (h' := (z_sI (z_sI (z_sI (z_sI (z_sI (z_sI (z_sI (z_sR (z_sR h a0 0 (some x2)) a0 1 none) a0 2 x3) a0 3 (z_iv h x2 8)) a0 4 (x3 - (z_iv h x2 13))) a0 5 (s_fm ((z_iv h x2 8) - (z_iv h x2 14)) (10000 : Int32))) a0 6 ((s_fm ((z_iv h x2 8) - (z_iv h x2 14)) (10000 : Int32)) + ((if (0 : Int32) < ((((z_iv h x2 3) * (x3 - (z_iv h x2 13))) - (s_fm ((z_iv h x2 8) - (z_iv h x2 14)) (10000 : Int32))) / (10000 : Int32)) then ((((z_iv h x2 3) * (x3 - (z_iv h x2 13))) - (s_fm ((z_iv h x2 8) - (z_iv h x2 14)) (10000 : Int32))) / (10000 : Int32)) else (0 : Int32)) * (10000 : Int32)))) a0 7 ((z_iv h x2 12) - (z_iv h x2 15))) a0 8 v4)) rfl ?_
    refine k_gV rfl rfl (z_tgI (z_tgI (z_tgI (z_tgI (z_tgI (z_tgI (z_tgI (z_tgR (z_tgR T1))))))))) (v_nt (z_tgI (z_tgI (z_tgI (z_tgI (z_tgI (z_tgI (z_tgR (z_tgR T1)))))))) (z_tgI (z_tgI (z_tgI (z_tgI (z_tgI (z_tgI (z_tgR (z_tgR T0)))))))) (by decide) (v_nt (z_tgI (z_tgI (z_tgI (z_tgI (z_tgI (z_tgR (z_tgR T1))))))) (z_tgI (z_tgI (z_tgI (z_tgI (z_tgI (z_tgR (z_tgR T0))))))) (by decide) (v_nt (z_tgI (z_tgI (z_tgI (z_tgI (z_tgR (z_tgR T1)))))) (z_tgI (z_tgI (z_tgI (z_tgI (z_tgR (z_tgR T0)))))) (by decide) (v_nt (z_tgI (z_tgI (z_tgI (z_tgR (z_tgR T1))))) (z_tgI (z_tgI (z_tgI (z_tgR (z_tgR T0))))) (by decide) (v_nt (z_tgI (z_tgI (z_tgR (z_tgR T1)))) (z_tgI (z_tgI (z_tgR (z_tgR T0)))) (by decide) (v_nt (z_tgI (z_tgR (z_tgR T1))) (z_tgI (z_tgR (z_tgR T0))) (by decide) (v_nt (z_tgR (z_tgR T1)) (z_tgR (z_tgR T0)) (by decide) (v_sR (v_sR rfl))))))))) ?_
    refine k_pI rfl (z_tgI (z_tgI (z_tgI (z_tgI (z_tgI (z_tgI (z_tgI (z_tgR (z_tgR T0))))))))) ?_
    exact k_r rfl rfl rfl H
  · have H := H.2 b2 hb1
    have t3 : z_tg (z_sR h a0 0 (some x2)) b2 = 10 := (CW.tyOf (t := 4) (t' := 10) (CW.sR W T0 (j := 0) rfl (fun _ q_ => by cases q_; exact T2) (by decide)) (z_tgR T1) hb1 (by decide) rfl)
    refine k_gS rfl (z_tgR T1) hb1 ?_
    refine k_pR rfl (z_tgR T0) ?_
    refine k_n 2 (pc' := 19) (L' := [some (.ref a0), some (.ref x1), some (.ref x2), some (.int x3), none]) (S' := [.int x3, .ref a0]) (h' := (z_sR (z_sR h a0 0 (some x2)) a0 1 (some b2))) rfl ?_
    refine k_pI rfl (z_tgR (z_tgR T0)) ?_
    refine k_n 2 (pc' := 24) (L' := [some (.ref a0), some (.ref x1), some (.ref x2), some (.int x3), none]) (S' := [.ref x2, .ref a0]) (h' := (z_sI (z_sR (z_sR h a0 0 (some x2)) a0 1 (some b2)) a0 2 x3)) rfl ?_
    refine k_gV rfl rfl (z_tgI (z_tgR (z_tgR T2))) (v_nt (z_tgR (z_tgR T2)) (z_tgR (z_tgR T0)) (by decide) (v_sR (v_sR rfl))) ?_
    refine k_pI rfl (z_tgI (z_tgR (z_tgR T0))) ?_
    refine k_n 3 (pc' := 33) (L' := [some (.ref a0), some (.ref x1), some (.ref x2), some (.int x3), none]) (S' := [.ref x2, .int x3, .ref a0]) (h' := (z_sI (z_sI (z_sR (z_sR h a0 0 (some x2)) a0 1 (some b2)) a0 2 x3) a0 3 (z_iv h x2 8))) rfl ?_
    refine k_gV rfl rfl (z_tgI (z_tgI (z_tgR (z_tgR T2)))) (v_nt (z_tgI (z_tgR (z_tgR T2))) (z_tgI (z_tgR (z_tgR T0))) (by decide) (v_nt (z_tgR (z_tgR T2)) (z_tgR (z_tgR T0)) (by decide) (v_sR (v_sR rfl)))) ?_
    refine k_n 1 (pc' := 37) (L' := [some (.ref a0), some (.ref x1), some (.ref x2), some (.int x3), none]) (S' := [.int (x3 - (z_iv h x2 13)), .ref a0]) (h' := (z_sI (z_sI (z_sR (z_sR h a0 0 (some x2)) a0 1 (some b2)) a0 2 x3) a0 3 (z_iv h x2 8))) rfl ?_
    refine k_pI rfl (z_tgI (z_tgI (z_tgR (z_tgR T0)))) ?_
    refine k_n 2 (pc' := 42) (L' := [some (.ref a0), some (.ref x1), some (.ref x2), some (.int x3), none]) (S' := [.ref x2, .ref a0]) (h' := (z_sI (z_sI (z_sI (z_sR (z_sR h a0 0 (some x2)) a0 1 (some b2)) a0 2 x3) a0 3 (z_iv h x2 8)) a0 4 (x3 - (z_iv h x2 13)))) rfl ?_
    refine k_gV rfl rfl (z_tgI (z_tgI (z_tgI (z_tgR (z_tgR T2))))) (v_nt (z_tgI (z_tgI (z_tgR (z_tgR T2)))) (z_tgI (z_tgI (z_tgR (z_tgR T0)))) (by decide) (v_nt (z_tgI (z_tgR (z_tgR T2))) (z_tgI (z_tgR (z_tgR T0))) (by decide) (v_nt (z_tgR (z_tgR T2)) (z_tgR (z_tgR T0)) (by decide) (v_sR (v_sR rfl))))) ?_
    refine k_n 1 (pc' := 46) (L' := [some (.ref a0), some (.ref x1), some (.ref x2), some (.int x3), none]) (S' := [.ref x2, .int (z_iv h x2 8), .ref a0]) (h' := (z_sI (z_sI (z_sI (z_sR (z_sR h a0 0 (some x2)) a0 1 (some b2)) a0 2 x3) a0 3 (z_iv h x2 8)) a0 4 (x3 - (z_iv h x2 13)))) rfl ?_
    refine k_gV rfl rfl (z_tgI (z_tgI (z_tgI (z_tgR (z_tgR T2))))) (v_nt (z_tgI (z_tgI (z_tgR (z_tgR T2)))) (z_tgI (z_tgI (z_tgR (z_tgR T0)))) (by decide) (v_nt (z_tgI (z_tgR (z_tgR T2))) (z_tgI (z_tgR (z_tgR T0))) (by decide) (v_nt (z_tgR (z_tgR T2)) (z_tgR (z_tgR T0)) (by decide) (v_sR (v_sR rfl))))) ?_
    refine k_n 2 (pc' := 53) (L' := [some (.ref a0), some (.ref x1), some (.ref x2), some (.int x3), none]) (S' := [.int (10000 : Int32), .int ((z_iv h x2 8) - (z_iv h x2 14)), .ref a0]) (h' := (z_sI (z_sI (z_sI (z_sR (z_sR h a0 0 (some x2)) a0 1 (some b2)) a0 2 x3) a0 3 (z_iv h x2 8)) a0 4 (x3 - (z_iv h x2 13)))) rfl ?_
    refine k_cI 10 2 rfl rfl rfl (A := [.int ((z_iv h x2 8) - (z_iv h x2 14)), .int (10000 : Int32)]) rfl rfl rfl (rest := [.ref a0]) rfl (z_tyI rfl rfl) ?_
    refine c_fm ((z_iv h x2 8) - (z_iv h x2 14)) (10000 : Int32) (z_sI (z_sI (z_sI (z_sR (z_sR h a0 0 (some x2)) a0 1 (some b2)) a0 2 x3) a0 3 (z_iv h x2 8)) a0 4 (x3 - (z_iv h x2 13))) (by decide) ?_
    refine k_pI rfl (z_tgI (z_tgI (z_tgI (z_tgR (z_tgR T0))))) ?_
    refine k_n 1 (pc' := 60) (L' := [some (.ref a0), some (.ref x1), some (.ref x2), some (.int x3), none]) (S' := [.ref x2]) (h' := (z_sI (z_sI (z_sI (z_sI (z_sR (z_sR h a0 0 (some x2)) a0 1 (some b2)) a0 2 x3) a0 3 (z_iv h x2 8)) a0 4 (x3 - (z_iv h x2 13))) a0 5 (s_fm ((z_iv h x2 8) - (z_iv h x2 14)) (10000 : Int32)))) rfl ?_
    refine k_gV rfl rfl (z_tgI (z_tgI (z_tgI (z_tgI (z_tgR (z_tgR T2)))))) (v_nt (z_tgI (z_tgI (z_tgI (z_tgR (z_tgR T2))))) (z_tgI (z_tgI (z_tgI (z_tgR (z_tgR T0))))) (by decide) (v_nt (z_tgI (z_tgI (z_tgR (z_tgR T2)))) (z_tgI (z_tgI (z_tgR (z_tgR T0)))) (by decide) (v_nt (z_tgI (z_tgR (z_tgR T2))) (z_tgI (z_tgR (z_tgR T0))) (by decide) (v_nt (z_tgR (z_tgR T2)) (z_tgR (z_tgR T0)) (by decide) (v_sR (v_sR rfl)))))) ?_
    refine k_n 1 (pc' := 64) (L' := [some (.ref a0), some (.ref x1), some (.ref x2), some (.int x3), none]) (S' := [.ref a0, .int (z_iv h x2 3)]) (h' := (z_sI (z_sI (z_sI (z_sI (z_sR (z_sR h a0 0 (some x2)) a0 1 (some b2)) a0 2 x3) a0 3 (z_iv h x2 8)) a0 4 (x3 - (z_iv h x2 13))) a0 5 (s_fm ((z_iv h x2 8) - (z_iv h x2 14)) (10000 : Int32)))) rfl ?_
    refine k_gV rfl rfl (z_tgI (z_tgI (z_tgI (z_tgI (z_tgR (z_tgR T0)))))) (v_nj (by decide) v_at) ?_
    refine k_n 2 (pc' := 69) (L' := [some (.ref a0), some (.ref x1), some (.ref x2), some (.int x3), none]) (S' := [.ref a0, .int ((z_iv h x2 3) * (x3 - (z_iv h x2 13)))]) (h' := (z_sI (z_sI (z_sI (z_sI (z_sR (z_sR h a0 0 (some x2)) a0 1 (some b2)) a0 2 x3) a0 3 (z_iv h x2 8)) a0 4 (x3 - (z_iv h x2 13))) a0 5 (s_fm ((z_iv h x2 8) - (z_iv h x2 14)) (10000 : Int32)))) rfl ?_
    refine k_gV rfl rfl (z_tgI (z_tgI (z_tgI (z_tgI (z_tgR (z_tgR T0)))))) v_at ?_
    refine k_n 4 (pc' := 77) (L' := [some (.ref a0), some (.ref x1), some (.ref x2), some (.int x3), some (.int (((z_iv h x2 3) * (x3 - (z_iv h x2 13))) - (s_fm ((z_iv h x2 8) - (z_iv h x2 14)) (10000 : Int32))))]) (S' := [.ref a0, .ref a0]) (h' := (z_sI (z_sI (z_sI (z_sI (z_sR (z_sR h a0 0 (some x2)) a0 1 (some b2)) a0 2 x3) a0 3 (z_iv h x2 8)) a0 4 (x3 - (z_iv h x2 13))) a0 5 (s_fm ((z_iv h x2 8) - (z_iv h x2 14)) (10000 : Int32)))) rfl ?_
    refine k_gV rfl rfl (z_tgI (z_tgI (z_tgI (z_tgI (z_tgR (z_tgR T0)))))) v_at ?_
    refine k_n 3 (pc' := 86) (L' := [some (.ref a0), some (.ref x1), some (.ref x2), some (.int x3), some (.int (((z_iv h x2 3) * (x3 - (z_iv h x2 13))) - (s_fm ((z_iv h x2 8) - (z_iv h x2 14)) (10000 : Int32))))]) (S' := [.int (10000 : Int32), .int (((z_iv h x2 3) * (x3 - (z_iv h x2 13))) - (s_fm ((z_iv h x2 8) - (z_iv h x2 14)) (10000 : Int32))), .int (0 : Int32), .int (s_fm ((z_iv h x2 8) - (z_iv h x2 14)) (10000 : Int32)), .ref a0]) (h' := (z_sI (z_sI (z_sI (z_sI (z_sR (z_sR h a0 0 (some x2)) a0 1 (some b2)) a0 2 x3) a0 3 (z_iv h x2 8)) a0 4 (x3 - (z_iv h x2 13))) a0 5 (s_fm ((z_iv h x2 8) - (z_iv h x2 14)) (10000 : Int32)))) rfl ?_
    refine k_d (g := (10000 : Int32) = 0) (pc' := 87) (L' := [some (.ref a0), some (.ref x1), some (.ref x2), some (.int x3), some (.int (((z_iv h x2 3) * (x3 - (z_iv h x2 13))) - (s_fm ((z_iv h x2 8) - (z_iv h x2 14)) (10000 : Int32))))]) (S' := [.int ((((z_iv h x2 3) * (x3 - (z_iv h x2 13))) - (s_fm ((z_iv h x2 8) - (z_iv h x2 14)) (10000 : Int32))) / (10000 : Int32)), .int (0 : Int32), .int (s_fm ((z_iv h x2 8) - (z_iv h x2 14)) (10000 : Int32)), .ref a0]) (h' := (z_sI (z_sI (z_sI (z_sI (z_sR (z_sR h a0 0 (some x2)) a0 1 (some b2)) a0 2 x3) a0 3 (z_iv h x2 8)) a0 4 (x3 - (z_iv h x2 13))) a0 5 (s_fm ((z_iv h x2 8) - (z_iv h x2 14)) (10000 : Int32)))) rfl rfl (by decide) ?_
    refine k_cI 12 2 rfl rfl rfl (A := [.int (0 : Int32), .int ((((z_iv h x2 3) * (x3 - (z_iv h x2 13))) - (s_fm ((z_iv h x2 8) - (z_iv h x2 14)) (10000 : Int32))) / (10000 : Int32))]) rfl rfl rfl (rest := [.int (s_fm ((z_iv h x2 8) - (z_iv h x2 14)) (10000 : Int32)), .ref a0]) rfl (z_tyI rfl rfl) ?_
    refine C_12 (0 : Int32) ((((z_iv h x2 3) * (x3 - (z_iv h x2 13))) - (s_fm ((z_iv h x2 8) - (z_iv h x2 14)) (10000 : Int32))) / (10000 : Int32)) (z_sI (z_sI (z_sI (z_sI (z_sR (z_sR h a0 0 (some x2)) a0 1 (some b2)) a0 2 x3) a0 3 (z_iv h x2 8)) a0 4 (x3 - (z_iv h x2 13))) a0 5 (s_fm ((z_iv h x2 8) - (z_iv h x2 14)) (10000 : Int32)))    ?_
    refine k_n 3 (pc' := 95) (L' := [some (.ref a0), some (.ref x1), some (.ref x2), some (.int x3), some (.int (((z_iv h x2 3) * (x3 - (z_iv h x2 13))) - (s_fm ((z_iv h x2 8) - (z_iv h x2 14)) (10000 : Int32))))]) (S' := [.int ((s_fm ((z_iv h x2 8) - (z_iv h x2 14)) (10000 : Int32)) + ((if (0 : Int32) < ((((z_iv h x2 3) * (x3 - (z_iv h x2 13))) - (s_fm ((z_iv h x2 8) - (z_iv h x2 14)) (10000 : Int32))) / (10000 : Int32)) then ((((z_iv h x2 3) * (x3 - (z_iv h x2 13))) - (s_fm ((z_iv h x2 8) - (z_iv h x2 14)) (10000 : Int32))) / (10000 : Int32)) else (0 : Int32)) * (10000 : Int32))), .ref a0]) (h' := (z_sI (z_sI (z_sI (z_sI (z_sR (z_sR h a0 0 (some x2)) a0 1 (some b2)) a0 2 x3) a0 3 (z_iv h x2 8)) a0 4 (x3 - (z_iv h x2 13))) a0 5 (s_fm ((z_iv h x2 8) - (z_iv h x2 14)) (10000 : Int32)))) rfl ?_
    refine k_pI rfl (z_tgI (z_tgI (z_tgI (z_tgI (z_tgR (z_tgR T0)))))) ?_
    refine k_n 2 (pc' := 100) (L' := [some (.ref a0), some (.ref x1), some (.ref x2), some (.int x3), some (.int (((z_iv h x2 3) * (x3 - (z_iv h x2 13))) - (s_fm ((z_iv h x2 8) - (z_iv h x2 14)) (10000 : Int32))))]) (S' := [.ref x2, .ref a0]) (h' := (z_sI (z_sI (z_sI (z_sI (z_sI (z_sR (z_sR h a0 0 (some x2)) a0 1 (some b2)) a0 2 x3) a0 3 (z_iv h x2 8)) a0 4 (x3 - (z_iv h x2 13))) a0 5 (s_fm ((z_iv h x2 8) - (z_iv h x2 14)) (10000 : Int32))) a0 6 ((s_fm ((z_iv h x2 8) - (z_iv h x2 14)) (10000 : Int32)) + ((if (0 : Int32) < ((((z_iv h x2 3) * (x3 - (z_iv h x2 13))) - (s_fm ((z_iv h x2 8) - (z_iv h x2 14)) (10000 : Int32))) / (10000 : Int32)) then ((((z_iv h x2 3) * (x3 - (z_iv h x2 13))) - (s_fm ((z_iv h x2 8) - (z_iv h x2 14)) (10000 : Int32))) / (10000 : Int32)) else (0 : Int32)) * (10000 : Int32))))) rfl ?_
    refine k_gV rfl rfl (z_tgI (z_tgI (z_tgI (z_tgI (z_tgI (z_tgR (z_tgR T2))))))) (v_nt (z_tgI (z_tgI (z_tgI (z_tgI (z_tgR (z_tgR T2)))))) (z_tgI (z_tgI (z_tgI (z_tgI (z_tgR (z_tgR T0)))))) (by decide) (v_nt (z_tgI (z_tgI (z_tgI (z_tgR (z_tgR T2))))) (z_tgI (z_tgI (z_tgI (z_tgR (z_tgR T0))))) (by decide) (v_nt (z_tgI (z_tgI (z_tgR (z_tgR T2)))) (z_tgI (z_tgI (z_tgR (z_tgR T0)))) (by decide) (v_nt (z_tgI (z_tgR (z_tgR T2))) (z_tgI (z_tgR (z_tgR T0))) (by decide) (v_nt (z_tgR (z_tgR T2)) (z_tgR (z_tgR T0)) (by decide) (v_sR (v_sR rfl))))))) ?_
    refine k_n 1 (pc' := 104) (L' := [some (.ref a0), some (.ref x1), some (.ref x2), some (.int x3), some (.int (((z_iv h x2 3) * (x3 - (z_iv h x2 13))) - (s_fm ((z_iv h x2 8) - (z_iv h x2 14)) (10000 : Int32))))]) (S' := [.ref x2, .int (z_iv h x2 12), .ref a0]) (h' := (z_sI (z_sI (z_sI (z_sI (z_sI (z_sR (z_sR h a0 0 (some x2)) a0 1 (some b2)) a0 2 x3) a0 3 (z_iv h x2 8)) a0 4 (x3 - (z_iv h x2 13))) a0 5 (s_fm ((z_iv h x2 8) - (z_iv h x2 14)) (10000 : Int32))) a0 6 ((s_fm ((z_iv h x2 8) - (z_iv h x2 14)) (10000 : Int32)) + ((if (0 : Int32) < ((((z_iv h x2 3) * (x3 - (z_iv h x2 13))) - (s_fm ((z_iv h x2 8) - (z_iv h x2 14)) (10000 : Int32))) / (10000 : Int32)) then ((((z_iv h x2 3) * (x3 - (z_iv h x2 13))) - (s_fm ((z_iv h x2 8) - (z_iv h x2 14)) (10000 : Int32))) / (10000 : Int32)) else (0 : Int32)) * (10000 : Int32))))) rfl ?_
    refine k_gV rfl rfl (z_tgI (z_tgI (z_tgI (z_tgI (z_tgI (z_tgR (z_tgR T2))))))) (v_nt (z_tgI (z_tgI (z_tgI (z_tgI (z_tgR (z_tgR T2)))))) (z_tgI (z_tgI (z_tgI (z_tgI (z_tgR (z_tgR T0)))))) (by decide) (v_nt (z_tgI (z_tgI (z_tgI (z_tgR (z_tgR T2))))) (z_tgI (z_tgI (z_tgI (z_tgR (z_tgR T0))))) (by decide) (v_nt (z_tgI (z_tgI (z_tgR (z_tgR T2)))) (z_tgI (z_tgI (z_tgR (z_tgR T0)))) (by decide) (v_nt (z_tgI (z_tgR (z_tgR T2))) (z_tgI (z_tgR (z_tgR T0))) (by decide) (v_nt (z_tgR (z_tgR T2)) (z_tgR (z_tgR T0)) (by decide) (v_sR (v_sR rfl))))))) ?_
    refine k_n 1 (pc' := 108) (L' := [some (.ref a0), some (.ref x1), some (.ref x2), some (.int x3), some (.int (((z_iv h x2 3) * (x3 - (z_iv h x2 13))) - (s_fm ((z_iv h x2 8) - (z_iv h x2 14)) (10000 : Int32))))]) (S' := [.int ((z_iv h x2 12) - (z_iv h x2 15)), .ref a0]) (h' := (z_sI (z_sI (z_sI (z_sI (z_sI (z_sR (z_sR h a0 0 (some x2)) a0 1 (some b2)) a0 2 x3) a0 3 (z_iv h x2 8)) a0 4 (x3 - (z_iv h x2 13))) a0 5 (s_fm ((z_iv h x2 8) - (z_iv h x2 14)) (10000 : Int32))) a0 6 ((s_fm ((z_iv h x2 8) - (z_iv h x2 14)) (10000 : Int32)) + ((if (0 : Int32) < ((((z_iv h x2 3) * (x3 - (z_iv h x2 13))) - (s_fm ((z_iv h x2 8) - (z_iv h x2 14)) (10000 : Int32))) / (10000 : Int32)) then ((((z_iv h x2 3) * (x3 - (z_iv h x2 13))) - (s_fm ((z_iv h x2 8) - (z_iv h x2 14)) (10000 : Int32))) / (10000 : Int32)) else (0 : Int32)) * (10000 : Int32))))) rfl ?_
    refine k_pI rfl (z_tgI (z_tgI (z_tgI (z_tgI (z_tgI (z_tgR (z_tgR T0))))))) ?_
    refine k_n 6 (pc' := 117) (L' := [some (.ref a0), some (.ref x1), some (.ref x2), some (.int x3), some (.int (((z_iv h x2 3) * (x3 - (z_iv h x2 13))) - (s_fm ((z_iv h x2 8) - (z_iv h x2 14)) (10000 : Int32))))]) (S' := [.int (5 : Int32), .int (x3 - (1 : Int32)), .ref x1, .ref a0]) (h' := (z_sI (z_sI (z_sI (z_sI (z_sI (z_sI (z_sR (z_sR h a0 0 (some x2)) a0 1 (some b2)) a0 2 x3) a0 3 (z_iv h x2 8)) a0 4 (x3 - (z_iv h x2 13))) a0 5 (s_fm ((z_iv h x2 8) - (z_iv h x2 14)) (10000 : Int32))) a0 6 ((s_fm ((z_iv h x2 8) - (z_iv h x2 14)) (10000 : Int32)) + ((if (0 : Int32) < ((((z_iv h x2 3) * (x3 - (z_iv h x2 13))) - (s_fm ((z_iv h x2 8) - (z_iv h x2 14)) (10000 : Int32))) / (10000 : Int32)) then ((((z_iv h x2 3) * (x3 - (z_iv h x2 13))) - (s_fm ((z_iv h x2 8) - (z_iv h x2 14)) (10000 : Int32))) / (10000 : Int32)) else (0 : Int32)) * (10000 : Int32)))) a0 7 ((z_iv h x2 12) - (z_iv h x2 15)))) rfl ?_
    refine k_cI 49 3 rfl rfl rfl (A := [.ref x1, .int (x3 - (1 : Int32)), .int (5 : Int32)]) rfl rfl (z_rok_ref (z_tgI (z_tgI (z_tgI (z_tgI (z_tgI (z_tgI (z_tgR (z_tgR T1))))))))) (rest := [.ref a0]) rfl (z_tyI rfl rfl) ?_
    obtain ⟨v6, k7, H⟩ := H
    refine k_P k7 ?_
    refine k_pI rfl (z_tgI (z_tgI (z_tgI (z_tgI (z_tgI (z_tgI (z_tgR (z_tgR T0)))))))) ?_
    refine k_n 2 (pc' := 125) (L' := [some (.ref a0), some (.ref x1), some (.ref x2), some (.int x3), some (.int (((z_iv h x2 3) * (x3 - (z_iv h x2 13))) - (s_fm ((z_iv h x2 8) - (z_iv h x2 14)) (10000 : Int32))))]) (S' := [.ref x1, .ref a0]) (h' := (z_sI (z_sI (z_sI (z_sI (z_sI (z_sI (z_sI (z_sR (z_sR h a0 0 (some x2)) a0 1 (some b2)) a0 2 x3) a0 3 (z_iv h x2 8)) a0 4 (x3 - (z_iv h x2 13))) a0 5 (s_fm ((z_iv h x2 8) - (z_iv h x2 14)) (10000 : Int32))) a0 6 ((s_fm ((z_iv h x2 8) - (z_iv h x2 14)) (10000 : Int32)) + ((if (0 : Int32) < ((((z_iv h x2 3) * (x3 - (z_iv h x2 13))) - (s_fm ((z_iv h x2 8) - (z_iv h x2 14)) (10000 : Int32))) / (10000 : Int32)) then ((((z_iv h x2 3) * (x3 - (z_iv h x2 13))) - (s_fm ((z_iv h x2 8) - (z_iv h x2 14)) (10000 : Int32))) / (10000 : Int32)) else (0 : Int32)) * (10000 : Int32)))) a0 7 ((z_iv h x2 12) - (z_iv h x2 15))) a0 8 v6)) rfl ?_
    refine k_gV rfl rfl (z_tgI (z_tgI (z_tgI (z_tgI (z_tgI (z_tgI (z_tgI (z_tgR (z_tgR T1))))))))) (v_nt (z_tgI (z_tgI (z_tgI (z_tgI (z_tgI (z_tgI (z_tgR (z_tgR T1)))))))) (z_tgI (z_tgI (z_tgI (z_tgI (z_tgI (z_tgI (z_tgR (z_tgR T0)))))))) (by decide) (v_nt (z_tgI (z_tgI (z_tgI (z_tgI (z_tgI (z_tgR (z_tgR T1))))))) (z_tgI (z_tgI (z_tgI (z_tgI (z_tgI (z_tgR (z_tgR T0))))))) (by decide) (v_nt (z_tgI (z_tgI (z_tgI (z_tgI (z_tgR (z_tgR T1)))))) (z_tgI (z_tgI (z_tgI (z_tgI (z_tgR (z_tgR T0)))))) (by decide) (v_nt (z_tgI (z_tgI (z_tgI (z_tgR (z_tgR T1))))) (z_tgI (z_tgI (z_tgI (z_tgR (z_tgR T0))))) (by decide) (v_nt (z_tgI (z_tgI (z_tgR (z_tgR T1)))) (z_tgI (z_tgI (z_tgR (z_tgR T0)))) (by decide) (v_nt (z_tgI (z_tgR (z_tgR T1))) (z_tgI (z_tgR (z_tgR T0))) (by decide) (v_nt (z_tgR (z_tgR T1)) (z_tgR (z_tgR T0)) (by decide) (v_sR (v_sR rfl))))))))) ?_
    refine k_pI rfl (z_tgI (z_tgI (z_tgI (z_tgI (z_tgI (z_tgI (z_tgI (z_tgR (z_tgR T0))))))))) ?_
    exact k_r rfl rfl rfl H
set_option maxRecDepth 20000 in
theorem X_43 (a0 : Nat) (x1 : Int32) (x2 : Int32) (x3 : Int32) (x4 : Int32) (h : zH) (T0 : z_tg h a0 = 4) (La : a0 < z_nx h) {Q : Unit → zH → Prop} (H : KG z_pV 43 53 [some (.ref a0), some (.int x1), some (.int x2), some (.int x3), some (.int x4), some (.int (0 : Int32))] [] (z_sI (z_sI (z_sI (z_sI (z_sR (z_nw (z_sR (z_nw (z_sR (z_nw h 100 12 12) a0 2 (some (z_nx h))) 100 8 8) a0 3 (some (z_nx (z_sR (z_nw h 100 12 12) a0 2 (some (z_nx h)))))) 100 360 360) a0 4 (some (z_nx (z_sR (z_nw (z_sR (z_nw h 100 12 12) a0 2 (some (z_nx h))) 100 8 8) a0 3 (some (z_nx (z_sR (z_nw h 100 12 12) a0 2 (some (z_nx h))))))))) a0 0 x1) a0 1 x2) a0 5 x3) a0 6 x4) Q) : KK z_pV 43 [.ref a0, .int x1, .int x2, .int x3, .int x4] h Q := by
  refine k_K (L := [some (.ref a0), some (.int x1), some (.int x2), some (.int x3), some (.int x4), none]) rfl ?_
  refine k_n 4 (pc' := 7) (L' := [some (.ref a0), some (.int x1), some (.int x2), some (.int x3), some (.int x4), none]) (S' := [.int (12 : Int32), .ref a0]) (h' := h) rfl ?_
  refine k_na rfl (by decide) ?_
  refine k_pR rfl (z_keep La T0) ?_
  refine k_n 2 (pc' := 15) (L' := [some (.ref a0), some (.int x1), some (.int x2), some (.int x3), some (.int x4), none]) (S' := [.int (8 : Int32), .ref a0]) (h' := (z_sR (z_nw h 100 12 12) a0 2 (some (z_nx h)))) rfl ?_
  refine k_na rfl (by decide) ?_
  refine k_pR rfl (z_keep (Nat.lt_succ_of_lt La) (z_tgR (z_keep La T0))) ?_
  refine k_n 2 (pc' := 24) (L' := [some (.ref a0), some (.int x1), some (.int x2), some (.int x3), some (.int x4), none]) (S' := [.int (360 : Int32), .ref a0]) (h' := (z_sR (z_nw (z_sR (z_nw h 100 12 12) a0 2 (some (z_nx h))) 100 8 8) a0 3 (some (z_nx (z_sR (z_nw h 100 12 12) a0 2 (some (z_nx h))))))) rfl ?_
  refine k_na rfl (by decide) ?_
  refine k_pR rfl (z_keep (Nat.lt_succ_of_lt (Nat.lt_succ_of_lt La)) (z_tgR (z_keep (Nat.lt_succ_of_lt La) (z_tgR (z_keep La T0))))) ?_
  refine k_n 2 (pc' := 31) (L' := [some (.ref a0), some (.int x1), some (.int x2), some (.int x3), some (.int x4), none]) (S' := [.int x1, .ref a0]) (h' := (z_sR (z_nw (z_sR (z_nw (z_sR (z_nw h 100 12 12) a0 2 (some (z_nx h))) 100 8 8) a0 3 (some (z_nx (z_sR (z_nw h 100 12 12) a0 2 (some (z_nx h)))))) 100 360 360) a0 4 (some (z_nx (z_sR (z_nw (z_sR (z_nw h 100 12 12) a0 2 (some (z_nx h))) 100 8 8) a0 3 (some (z_nx (z_sR (z_nw h 100 12 12) a0 2 (some (z_nx h)))))))))) rfl ?_
  refine k_pI rfl (z_tgR (z_keep (Nat.lt_succ_of_lt (Nat.lt_succ_of_lt La)) (z_tgR (z_keep (Nat.lt_succ_of_lt La) (z_tgR (z_keep La T0)))))) ?_
  refine k_n 2 (pc' := 36) (L' := [some (.ref a0), some (.int x1), some (.int x2), some (.int x3), some (.int x4), none]) (S' := [.int x2, .ref a0]) (h' := (z_sI (z_sR (z_nw (z_sR (z_nw (z_sR (z_nw h 100 12 12) a0 2 (some (z_nx h))) 100 8 8) a0 3 (some (z_nx (z_sR (z_nw h 100 12 12) a0 2 (some (z_nx h)))))) 100 360 360) a0 4 (some (z_nx (z_sR (z_nw (z_sR (z_nw h 100 12 12) a0 2 (some (z_nx h))) 100 8 8) a0 3 (some (z_nx (z_sR (z_nw h 100 12 12) a0 2 (some (z_nx h))))))))) a0 0 x1)) rfl ?_
  refine k_pI rfl (z_tgI (z_tgR (z_keep (Nat.lt_succ_of_lt (Nat.lt_succ_of_lt La)) (z_tgR (z_keep (Nat.lt_succ_of_lt La) (z_tgR (z_keep La T0))))))) ?_
  refine k_n 2 (pc' := 41) (L' := [some (.ref a0), some (.int x1), some (.int x2), some (.int x3), some (.int x4), none]) (S' := [.int x3, .ref a0]) (h' := (z_sI (z_sI (z_sR (z_nw (z_sR (z_nw (z_sR (z_nw h 100 12 12) a0 2 (some (z_nx h))) 100 8 8) a0 3 (some (z_nx (z_sR (z_nw h 100 12 12) a0 2 (some (z_nx h)))))) 100 360 360) a0 4 (some (z_nx (z_sR (z_nw (z_sR (z_nw h 100 12 12) a0 2 (some (z_nx h))) 100 8 8) a0 3 (some (z_nx (z_sR (z_nw h 100 12 12) a0 2 (some (z_nx h))))))))) a0 0 x1) a0 1 x2)) rfl ?_
  refine k_pI rfl (z_tgI (z_tgI (z_tgR (z_keep (Nat.lt_succ_of_lt (Nat.lt_succ_of_lt La)) (z_tgR (z_keep (Nat.lt_succ_of_lt La) (z_tgR (z_keep La T0)))))))) ?_
  refine k_n 2 (pc' := 47) (L' := [some (.ref a0), some (.int x1), some (.int x2), some (.int x3), some (.int x4), none]) (S' := [.int x4, .ref a0]) (h' := (z_sI (z_sI (z_sI (z_sR (z_nw (z_sR (z_nw (z_sR (z_nw h 100 12 12) a0 2 (some (z_nx h))) 100 8 8) a0 3 (some (z_nx (z_sR (z_nw h 100 12 12) a0 2 (some (z_nx h)))))) 100 360 360) a0 4 (some (z_nx (z_sR (z_nw (z_sR (z_nw h 100 12 12) a0 2 (some (z_nx h))) 100 8 8) a0 3 (some (z_nx (z_sR (z_nw h 100 12 12) a0 2 (some (z_nx h))))))))) a0 0 x1) a0 1 x2) a0 5 x3)) rfl ?_
  refine k_pI rfl (z_tgI (z_tgI (z_tgI (z_tgR (z_keep (Nat.lt_succ_of_lt (Nat.lt_succ_of_lt La)) (z_tgR (z_keep (Nat.lt_succ_of_lt La) (z_tgR (z_keep La T0))))))))) ?_
  refine k_n 2 (pc' := 53) (L' := [some (.ref a0), some (.int x1), some (.int x2), some (.int x3), some (.int x4), some (.int (0 : Int32))]) (S' := []) (h' := (z_sI (z_sI (z_sI (z_sI (z_sR (z_nw (z_sR (z_nw (z_sR (z_nw h 100 12 12) a0 2 (some (z_nx h))) 100 8 8) a0 3 (some (z_nx (z_sR (z_nw h 100 12 12) a0 2 (some (z_nx h)))))) 100 360 360) a0 4 (some (z_nx (z_sR (z_nw (z_sR (z_nw h 100 12 12) a0 2 (some (z_nx h))) 100 8 8) a0 3 (some (z_nx (z_sR (z_nw h 100 12 12) a0 2 (some (z_nx h))))))))) a0 0 x1) a0 1 x2) a0 5 x3) a0 6 x4)) rfl ?_
  exact H
set_option maxRecDepth 20000 in
theorem X_43_53 (a0 : Nat) (y1 : Int32) (y2 : Int32) (y3 : Int32) (y4 : Int32) (y5 : Int32) (h : zH) (Ta0 : z_tg h a0 = 4) (F0 : z_rv h a0 4 = some (a0 + 3)) (G0 : z_tg h (a0 + 3) = 100) (J0 : z_ln h (a0 + 3) = 360) {Q : Unit → zH → Prop} (H : if (60 : Int32) ≤ y5 then (Q () h) else ((0 ≤ ((180 : Int32) + y5).toInt ∧ ((180 : Int32) + y5).toInt < 360) ∧ KG z_pV 43 53 [some (.ref a0), some (.int y1), some (.int y2), some (.int y3), some (.int y4), some (.int (y5 + (1 : Int32)))] [] (z_sI h (a0 + 3) (z_ix ((180 : Int32) + y5)) (-4 : Int32)) Q)) : KG z_pV 43 53 [some (.ref a0), some (.int y1), some (.int y2), some (.int y3), some (.int y4), some (.int y5)] [] h Q := by
  refine k_n 2 (pc' := 57) (L' := [some (.ref a0), some (.int y1), some (.int y2), some (.int y3), some (.int y4), some (.int y5)]) (S' := [.int (60 : Int32), .int y5]) (h' := h) rfl ?_
  refine k_b (g := (60 : Int32) ≤ y5) (pc' := 79) (L' := [some (.ref a0), some (.int y1), some (.int y2), some (.int y3), some (.int y4), some (.int y5)]) (S' := []) (pc2 := 60) (L2 := [some (.ref a0), some (.int y1), some (.int y2), some (.int y3), some (.int y4), some (.int y5)]) (S2 := []) (h' := h) (h2 := h) rfl rfl (fun hc => ?_) (fun hc => ?_)
  · have hc := hc
    rw [if_pos hc] at H
    exact k_r rfl rfl rfl H
  · have hc := hc
    rw [if_neg hc] at H
    refine k_n 1 (pc' := 61) (L' := [some (.ref a0), some (.int y1), some (.int y2), some (.int y3), some (.int y4), some (.int y5)]) (S' := [.ref a0]) (h' := h) rfl ?_
    refine k_gS rfl Ta0 F0 ?_
    refine k_n 4 (pc' := 72) (L' := [some (.ref a0), some (.int y1), some (.int y2), some (.int y3), some (.int y4), some (.int y5)]) (S' := [.int (-4 : Int32), .int ((180 : Int32) + y5), .ref (a0 + 3)]) (h' := h) rfl ?_
    obtain ⟨o1, H⟩ := H
    refine k_is (n := 360) rfl G0 J0 o1 ?_
    refine k_n 2 (pc' := 53) (L' := [some (.ref a0), some (.int y1), some (.int y2), some (.int y3), some (.int y4), some (.int (y5 + (1 : Int32)))]) (S' := []) (h' := (z_sI h (a0 + 3) (z_ix ((180 : Int32) + y5)) (-4 : Int32))) rfl ?_
    exact H
set_option maxRecDepth 20000 in
theorem X_87 (a0 : Nat) (x1 : Int32) (x2 : Int32) (h : zH) (T0 : z_tg h a0 = 8) (La : a0 < z_nx h) {Q : Unit → zH → Prop} (H : (0 ≤ (if (0 : Int32) < (if (48 : Int32) < x2 then (48 : Int32) else x2) then (if (48 : Int32) < x2 then (48 : Int32) else x2) else (0 : Int32)).toInt ∧ (if (0 : Int32) < (if (48 : Int32) < x2 then (48 : Int32) else x2) then (if (48 : Int32) < x2 then (48 : Int32) else x2) else (0 : Int32)).toInt ≤ 100000) ∧ Q () (z_sR (z_nw (z_sI h a0 0 x1) 100 (z_ix (if (0 : Int32) < (if (48 : Int32) < x2 then (48 : Int32) else x2) then (if (48 : Int32) < x2 then (48 : Int32) else x2) else (0 : Int32))) (z_ix (if (0 : Int32) < (if (48 : Int32) < x2 then (48 : Int32) else x2) then (if (48 : Int32) < x2 then (48 : Int32) else x2) else (0 : Int32)))) a0 1 (some (z_nx (z_sI h a0 0 x1))))) : KK z_pV 87 [.ref a0, .int x1, .int x2] h Q := by
  refine k_K (L := [some (.ref a0), some (.int x1), some (.int x2)]) rfl ?_
  refine k_n 4 (pc' := 6) (L' := [some (.ref a0), some (.int x1), some (.int x2)]) (S' := [.int x1, .ref a0]) (h' := h) rfl ?_
  refine k_pI rfl T0 ?_
  refine k_n 4 (pc' := 14) (L' := [some (.ref a0), some (.int x1), some (.int x2)]) (S' := [.int (48 : Int32), .int x2, .int (0 : Int32), .ref a0]) (h' := (z_sI h a0 0 x1)) rfl ?_
  refine k_cI 14 2 rfl rfl rfl (A := [.int x2, .int (48 : Int32)]) rfl rfl rfl (rest := [.int (0 : Int32), .ref a0]) rfl (z_tyI rfl rfl) ?_
  refine C_14 x2 (48 : Int32) (z_sI h a0 0 x1)    ?_
  refine k_cI 12 2 rfl rfl rfl (A := [.int (0 : Int32), .int (if (48 : Int32) < x2 then (48 : Int32) else x2)]) rfl rfl rfl (rest := [.ref a0]) rfl (z_tyI rfl rfl) ?_
  refine C_12 (0 : Int32) (if (48 : Int32) < x2 then (48 : Int32) else x2) (z_sI h a0 0 x1)    ?_
  obtain ⟨o1, H⟩ := H
  refine k_na rfl o1 ?_
  refine k_pR rfl (z_keep La (z_tgI T0)) ?_
  exact k_r rfl rfl rfl H
set_option maxRecDepth 20000 in
theorem X_19 (a0 : Nat) (x1 : Int32) (x2 : Int32) (x3 : Int32) (h : zH) (W : CW h) (T0 : z_tg h a0 = 1) {Q : Int32 → zH → Prop} (H : (¬ (x2 < 0) → ¬ ((7 : Int32) ≤ x2) → 0 ≤ x2.toInt ∧ x2.toInt < 7) ∧ KG z_pI 19 9 [some (.ref a0), some (.int x1), some (.int x2), some (.int x3), some (.int (if x2 < 0 then (-4 : Int32) else (if (7 : Int32) ≤ x2 then (-4 : Int32) else ((z_st.getD 0 []).getD (z_ix x2) 0)))), some (.int (0 : Int32))] [] h Q) : KK z_pI 19 [.ref a0, .int x1, .int x2, .int x3] h Q := by
  refine k_K (L := [some (.ref a0), some (.int x1), some (.int x2), some (.int x3), none, none]) rfl ?_
  refine k_n 1 (pc' := 1) (L' := [some (.ref a0), some (.int x1), some (.int x2), some (.int x3), none, none]) (S' := [.int x2]) (h' := h) rfl ?_
  refine k_cI 18 1 rfl rfl rfl (A := [.int x2]) rfl rfl rfl (rest := []) rfl (z_tyI rfl rfl) ?_
  obtain ⟨o1, H⟩ := H
  refine C_18 x2 h   o1 ?_
  refine k_n 3 (pc' := 9) (L' := [some (.ref a0), some (.int x1), some (.int x2), some (.int x3), some (.int (if x2 < 0 then (-4 : Int32) else (if (7 : Int32) ≤ x2 then (-4 : Int32) else ((z_st.getD 0 []).getD (z_ix x2) 0)))), some (.int (0 : Int32))]) (S' := []) (h' := h) rfl ?_
  exact H
set_option maxRecDepth 20000 in
theorem X_19_9 (a0 : Nat) (y1 : Int32) (y2 : Int32) (y3 : Int32) (y4 : Int32) (y5 : Int32) (h : zH) (W : CW h) (Ta0 : z_tg h a0 = 1) {Q : Int32 → zH → Prop} (H : if (z_iv h a0 5) ≤ y5 then (Q (0 : Int32) h) else (if (16 : Int32) ≤ y5 then (Q (0 : Int32) h) else ((0 ≤ y5.toInt ∧ y5.toInt < 16) ∧ (if (z_iv h (a0 + 1) (z_ix y5)) = y1 then ((0 ≤ y5.toInt ∧ y5.toInt < 16) ∧ (if (z_iv h (a0 + 3) (z_ix y5)) = y4 then ((0 ≤ y5.toInt ∧ y5.toInt < 16) ∧ (if (z_iv h (a0 + 4) (z_ix y5)) = y3 then (Q (1 : Int32) h) else (KG z_pI 19 9 [some (.ref a0), some (.int y1), some (.int y2), some (.int y3), some (.int y4), some (.int (y5 + (1 : Int32)))] [] h Q))) else (KG z_pI 19 9 [some (.ref a0), some (.int y1), some (.int y2), some (.int y3), some (.int y4), some (.int (y5 + (1 : Int32)))] [] h Q))) else (KG z_pI 19 9 [some (.ref a0), some (.int y1), some (.int y2), some (.int y3), some (.int y4), some (.int (y5 + (1 : Int32)))] [] h Q))))) : KG z_pI 19 9 [some (.ref a0), some (.int y1), some (.int y2), some (.int y3), some (.int y4), some (.int y5)] [] h Q := by
  refine k_n 2 (pc' := 12) (L' := [some (.ref a0), some (.int y1), some (.int y2), some (.int y3), some (.int y4), some (.int y5)]) (S' := [.ref a0, .int y5]) (h' := h) rfl ?_
  refine k_gI rfl rfl Ta0 ?_
  refine k_b (g := (z_iv h a0 5) ≤ y5) (pc' := 67) (L' := [some (.ref a0), some (.int y1), some (.int y2), some (.int y3), some (.int y4), some (.int y5)]) (S' := []) (pc2 := 18) (L2 := [some (.ref a0), some (.int y1), some (.int y2), some (.int y3), some (.int y4), some (.int y5)]) (S2 := []) (h' := h) (h2 := h) rfl rfl (fun hc => ?_) (fun hc => ?_)
  · have hc := hc
    rw [if_pos hc] at H
    refine k_n 1 (pc' := 68) (L' := [some (.ref a0), some (.int y1), some (.int y2), some (.int y3), some (.int y4), some (.int y5)]) (S' := [.int (0 : Int32)]) (h' := h) rfl ?_
    exact k_r rfl rfl rfl H
  · have hc := hc
    rw [if_neg hc] at H
    refine k_n 2 (pc' := 22) (L' := [some (.ref a0), some (.int y1), some (.int y2), some (.int y3), some (.int y4), some (.int y5)]) (S' := [.int (16 : Int32), .int y5]) (h' := h) rfl ?_
    refine k_b (g := (16 : Int32) ≤ y5) (pc' := 67) (L' := [some (.ref a0), some (.int y1), some (.int y2), some (.int y3), some (.int y4), some (.int y5)]) (S' := []) (pc2 := 25) (L2 := [some (.ref a0), some (.int y1), some (.int y2), some (.int y3), some (.int y4), some (.int y5)]) (S2 := []) (h' := h) (h2 := h) rfl rfl (fun hc => ?_) (fun hc => ?_)
    · have hc := hc
      rw [if_pos hc] at H
      refine k_n 1 (pc' := 68) (L' := [some (.ref a0), some (.int y1), some (.int y2), some (.int y3), some (.int y4), some (.int y5)]) (S' := [.int (0 : Int32)]) (h' := h) rfl ?_
      exact k_r rfl rfl rfl H
    · have hc := hc
      rw [if_neg hc] at H
      refine k_n 1 (pc' := 26) (L' := [some (.ref a0), some (.int y1), some (.int y2), some (.int y3), some (.int y4), some (.int y5)]) (S' := [.ref a0]) (h' := h) rfl ?_
      refine k_gS (b := (a0 + 1)) rfl Ta0 (W.reOf (t := 1) (j := 0) (o := 1) (n := 16) (by decide) Ta0).1 ?_
      refine k_n 1 (pc' := 31) (L' := [some (.ref a0), some (.int y1), some (.int y2), some (.int y3), some (.int y4), some (.int y5)]) (S' := [.int y5, .ref (a0 + 1)]) (h' := h) rfl ?_
      obtain ⟨o2, H⟩ := H
      refine k_ia (c := 0) (n := 16) rfl (CW.tyOf (t := 1) (t' := 100) W (j := 0) Ta0 (W.reOf (t := 1) (j := 0) (o := 1) (n := 16) (by decide) Ta0).1 (by decide) rfl) (W.reOf (t := 1) (j := 0) (o := 1) (n := 16) (by decide) Ta0).2 o2 ?_
      refine k_n 1 (pc' := 33) (L' := [some (.ref a0), some (.int y1), some (.int y2), some (.int y3), some (.int y4), some (.int y5)]) (S' := [.int y1, .int (z_iv h (a0 + 1) (z_ix y5))]) (h' := h) rfl ?_
      refine k_b (g := (z_iv h (a0 + 1) (z_ix y5)) = y1) (pc' := 36) (L' := [some (.ref a0), some (.int y1), some (.int y2), some (.int y3), some (.int y4), some (.int y5)]) (S' := []) (pc2 := 61) (L2 := [some (.ref a0), some (.int y1), some (.int y2), some (.int y3), some (.int y4), some (.int y5)]) (S2 := []) (h' := h) (h2 := h) rfl rfl (fun hc => ?_) (fun hc => ?_)
      · have hc := hc
        rw [if_pos hc] at H
        refine k_n 1 (pc' := 37) (L' := [some (.ref a0), some (.int y1), some (.int y2), some (.int y3), some (.int y4), some (.int y5)]) (S' := [.ref a0]) (h' := h) rfl ?_
        refine k_gS (b := (a0 + 3)) rfl Ta0 (W.reOf (t := 1) (j := 2) (o := 3) (n := 16) (by decide) Ta0).1 ?_
        refine k_n 1 (pc' := 42) (L' := [some (.ref a0), some (.int y1), some (.int y2), some (.int y3), some (.int y4), some (.int y5)]) (S' := [.int y5, .ref (a0 + 3)]) (h' := h) rfl ?_
        obtain ⟨o3, H⟩ := H
        refine k_ia (c := 0) (n := 16) rfl (CW.tyOf (t := 1) (t' := 100) W (j := 2) Ta0 (W.reOf (t := 1) (j := 2) (o := 3) (n := 16) (by decide) Ta0).1 (by decide) rfl) (W.reOf (t := 1) (j := 2) (o := 3) (n := 16) (by decide) Ta0).2 o3 ?_
        refine k_n 1 (pc' := 45) (L' := [some (.ref a0), some (.int y1), some (.int y2), some (.int y3), some (.int y4), some (.int y5)]) (S' := [.int y4, .int (z_iv h (a0 + 3) (z_ix y5))]) (h' := h) rfl ?_
        refine k_b (g := (z_iv h (a0 + 3) (z_ix y5)) = y4) (pc' := 48) (L' := [some (.ref a0), some (.int y1), some (.int y2), some (.int y3), some (.int y4), some (.int y5)]) (S' := []) (pc2 := 61) (L2 := [some (.ref a0), some (.int y1), some (.int y2), some (.int y3), some (.int y4), some (.int y5)]) (S2 := []) (h' := h) (h2 := h) rfl rfl (fun hc => ?_) (fun hc => ?_)
        · have hc := hc
          rw [if_pos hc] at H
          refine k_n 1 (pc' := 49) (L' := [some (.ref a0), some (.int y1), some (.int y2), some (.int y3), some (.int y4), some (.int y5)]) (S' := [.ref a0]) (h' := h) rfl ?_
          refine k_gS (b := (a0 + 4)) rfl Ta0 (W.reOf (t := 1) (j := 3) (o := 4) (n := 16) (by decide) Ta0).1 ?_
          refine k_n 1 (pc' := 54) (L' := [some (.ref a0), some (.int y1), some (.int y2), some (.int y3), some (.int y4), some (.int y5)]) (S' := [.int y5, .ref (a0 + 4)]) (h' := h) rfl ?_
          obtain ⟨o4, H⟩ := H
          refine k_ia (c := 0) (n := 16) rfl (CW.tyOf (t := 1) (t' := 100) W (j := 3) Ta0 (W.reOf (t := 1) (j := 3) (o := 4) (n := 16) (by decide) Ta0).1 (by decide) rfl) (W.reOf (t := 1) (j := 3) (o := 4) (n := 16) (by decide) Ta0).2 o4 ?_
          refine k_n 1 (pc' := 56) (L' := [some (.ref a0), some (.int y1), some (.int y2), some (.int y3), some (.int y4), some (.int y5)]) (S' := [.int y3, .int (z_iv h (a0 + 4) (z_ix y5))]) (h' := h) rfl ?_
          refine k_b (g := (z_iv h (a0 + 4) (z_ix y5)) = y3) (pc' := 59) (L' := [some (.ref a0), some (.int y1), some (.int y2), some (.int y3), some (.int y4), some (.int y5)]) (S' := []) (pc2 := 61) (L2 := [some (.ref a0), some (.int y1), some (.int y2), some (.int y3), some (.int y4), some (.int y5)]) (S2 := []) (h' := h) (h2 := h) rfl rfl (fun hc => ?_) (fun hc => ?_)
          · have hc := hc
            rw [if_pos hc] at H
            refine k_n 1 (pc' := 60) (L' := [some (.ref a0), some (.int y1), some (.int y2), some (.int y3), some (.int y4), some (.int y5)]) (S' := [.int (1 : Int32)]) (h' := h) rfl ?_
            exact k_r rfl rfl rfl H
          · have hc := hc
            rw [if_neg hc] at H
            refine k_n 2 (pc' := 9) (L' := [some (.ref a0), some (.int y1), some (.int y2), some (.int y3), some (.int y4), some (.int (y5 + (1 : Int32)))]) (S' := []) (h' := h) rfl ?_
            exact H
        · have hc := hc
          rw [if_neg hc] at H
          refine k_n 2 (pc' := 9) (L' := [some (.ref a0), some (.int y1), some (.int y2), some (.int y3), some (.int y4), some (.int (y5 + (1 : Int32)))]) (S' := []) (h' := h) rfl ?_
          exact H
      · have hc := hc
        rw [if_neg hc] at H
        refine k_n 2 (pc' := 9) (L' := [some (.ref a0), some (.int y1), some (.int y2), some (.int y3), some (.int y4), some (.int (y5 + (1 : Int32)))]) (S' := []) (h' := h) rfl ?_
        exact H
set_option maxRecDepth 20000 in
theorem X_20 (a0 : Nat) (x1 : Int32) (x2 : Int32) (x3 : Int32) (h : zH) (W : CW h) (T0 : z_tg h a0 = 1) {Q : Int32 → zH → Prop} (H : KG z_pI 20 10 [some (.ref a0), some (.int x1), some (.int x2), some (.int x3), some (.int (-4 : Int32)), some (.int (-1 : Int32)), some (.int (0 : Int32)), none] [] h Q) : KK z_pI 20 [.ref a0, .int x1, .int x2, .int x3] h Q := by
  refine k_K (L := [some (.ref a0), some (.int x1), some (.int x2), some (.int x3), none, none, none, none]) rfl ?_
  refine k_n 6 (pc' := 10) (L' := [some (.ref a0), some (.int x1), some (.int x2), some (.int x3), some (.int (-4 : Int32)), some (.int (-1 : Int32)), some (.int (0 : Int32)), none]) (S' := []) (h' := h) rfl ?_
  exact H
set_option maxRecDepth 20000 in
theorem X_20_10 (a0 : Nat) (y1 : Int32) (y2 : Int32) (y3 : Int32) (y4 : Int32) (y5 : Int32) (y6 : Int32) (u7 : Option Value) (h : zH) (W : CW h) (Ta0 : z_tg h a0 = 1) {Q : Int32 → zH → Prop} (H : if (z_iv h a0 5) ≤ y6 then (Q y4 h) else (if (16 : Int32) ≤ y6 then (Q y4 h) else ((0 ≤ y6.toInt ∧ y6.toInt < 16) ∧ (((z_iv h (a0 + 3) (z_ix y6)) = y1) → 0 ≤ y6.toInt ∧ y6.toInt < 16) ∧ ((((z_iv h (a0 + 3) (z_ix y6)) = y1) ∧ ((z_iv h (a0 + 4) (z_ix y6)) = y2)) → 0 ≤ y6.toInt ∧ y6.toInt < 16) ∧ ((((z_iv h (a0 + 3) (z_ix y6)) = y1) ∧ ((z_iv h (a0 + 4) (z_ix y6)) = y2)) → ¬ (y3 < (z_iv h (a0 + 1) (z_ix y6))) → 0 ≤ y6.toInt ∧ y6.toInt < 16) ∧ ((((z_iv h (a0 + 3) (z_ix y6)) = y1) ∧ ((z_iv h (a0 + 4) (z_ix y6)) = y2)) → ¬ (y3 < (z_iv h (a0 + 1) (z_ix y6))) → ¬ ((z_iv h (a0 + 1) (z_ix y6)) ≤ y5) → 0 ≤ y6.toInt ∧ y6.toInt < 16) ∧ (∀ m12 : Int32, m12 = (if ((z_iv h (a0 + 3) (z_ix y6)) = y1) ∧ ((z_iv h (a0 + 4) (z_ix y6)) = y2) then (if y3 < (z_iv h (a0 + 1) (z_ix y6)) then y4 else (if (z_iv h (a0 + 1) (z_ix y6)) ≤ y5 then y4 else y6)) else y4) → ∀ m13 : Int32, m13 = (if ((z_iv h (a0 + 3) (z_ix y6)) = y1) ∧ ((z_iv h (a0 + 4) (z_ix y6)) = y2) then (if y3 < (z_iv h (a0 + 1) (z_ix y6)) then y5 else (if (z_iv h (a0 + 1) (z_ix y6)) ≤ y5 then y5 else (z_iv h (a0 + 1) (z_ix y6)))) else y5) → KG z_pI 20 10 [some (.ref a0), some (.int y1), some (.int y2), some (.int y3), some (.int m12), some (.int m13), some (.int (y6 + (1 : Int32))), some (.int (z_bt (((z_iv h (a0 + 3) (z_ix y6)) = y1) ∧ ((z_iv h (a0 + 4) (z_ix y6)) = y2))))] [] h Q)))) : KG z_pI 20 10 [some (.ref a0), some (.int y1), some (.int y2), some (.int y3), some (.int y4), some (.int y5), some (.int y6), u7] [] h Q := by
  refine k_n 2 (pc' := 13) (L' := [some (.ref a0), some (.int y1), some (.int y2), some (.int y3), some (.int y4), some (.int y5), some (.int y6), u7]) (S' := [.ref a0, .int y6]) (h' := h) rfl ?_
  refine k_gI rfl rfl Ta0 ?_
  refine k_b (g := (z_iv h a0 5) ≤ y6) (pc' := 102) (L' := [some (.ref a0), some (.int y1), some (.int y2), some (.int y3), some (.int y4), some (.int y5), some (.int y6), u7]) (S' := []) (pc2 := 19) (L2 := [some (.ref a0), some (.int y1), some (.int y2), some (.int y3), some (.int y4), some (.int y5), some (.int y6), u7]) (S2 := []) (h' := h) (h2 := h) rfl rfl (fun hc => ?_) (fun hc => ?_)
  · have hc := hc
    rw [if_pos hc] at H
    refine k_n 1 (pc' := 104) (L' := [some (.ref a0), some (.int y1), some (.int y2), some (.int y3), some (.int y4), some (.int y5), some (.int y6), u7]) (S' := [.int y4]) (h' := h) rfl ?_
    exact k_r rfl rfl rfl H
  · have hc := hc
    rw [if_neg hc] at H
    refine k_n 2 (pc' := 23) (L' := [some (.ref a0), some (.int y1), some (.int y2), some (.int y3), some (.int y4), some (.int y5), some (.int y6), u7]) (S' := [.int (16 : Int32), .int y6]) (h' := h) rfl ?_
    refine k_b (g := (16 : Int32) ≤ y6) (pc' := 102) (L' := [some (.ref a0), some (.int y1), some (.int y2), some (.int y3), some (.int y4), some (.int y5), some (.int y6), u7]) (S' := []) (pc2 := 26) (L2 := [some (.ref a0), some (.int y1), some (.int y2), some (.int y3), some (.int y4), some (.int y5), some (.int y6), u7]) (S2 := []) (h' := h) (h2 := h) rfl rfl (fun hc => ?_) (fun hc => ?_)
    · have hc := hc
      rw [if_pos hc] at H
      refine k_n 1 (pc' := 104) (L' := [some (.ref a0), some (.int y1), some (.int y2), some (.int y3), some (.int y4), some (.int y5), some (.int y6), u7]) (S' := [.int y4]) (h' := h) rfl ?_
      exact k_r rfl rfl rfl H
    · have hc := hc
      rw [if_neg hc] at H
      refine k_n 1 (pc' := 27) (L' := [some (.ref a0), some (.int y1), some (.int y2), some (.int y3), some (.int y4), some (.int y5), some (.int y6), u7]) (S' := [.ref a0]) (h' := h) rfl ?_
      refine k_gS (b := (a0 + 3)) rfl Ta0 (W.reOf (t := 1) (j := 2) (o := 3) (n := 16) (by decide) Ta0).1 ?_
      refine k_n 1 (pc' := 32) (L' := [some (.ref a0), some (.int y1), some (.int y2), some (.int y3), some (.int y4), some (.int y5), some (.int y6), u7]) (S' := [.int y6, .ref (a0 + 3)]) (h' := h) rfl ?_
      obtain ⟨o1, H⟩ := H
      refine k_ia (c := 0) (n := 16) rfl (CW.tyOf (t := 1) (t' := 100) W (j := 2) Ta0 (W.reOf (t := 1) (j := 2) (o := 3) (n := 16) (by decide) Ta0).1 (by decide) rfl) (W.reOf (t := 1) (j := 2) (o := 3) (n := 16) (by decide) Ta0).2 o1 ?_
      refine k_n 1 (pc' := 34) (L' := [some (.ref a0), some (.int y1), some (.int y2), some (.int y3), some (.int y4), some (.int y5), some (.int y6), u7]) (S' := [.int y1, .int (z_iv h (a0 + 3) (z_ix y6))]) (h' := h) rfl ?_
      obtain ⟨o3, H⟩ := H
      have hj5 : KG z_pI 20 53 [some (.ref a0), some (.int y1), some (.int y2), some (.int y3), some (.int y4), some (.int y5), some (.int y6), u7] [.int (z_bt (((z_iv h (a0 + 3) (z_ix y6)) = y1) ∧ ((z_iv h (a0 + 4) (z_ix y6)) = y2)))] h Q := by
        refine k_n 2 (pc' := 57) (L' := [some (.ref a0), some (.int y1), some (.int y2), some (.int y3), some (.int y4), some (.int y5), some (.int y6), some (.int (z_bt (((z_iv h (a0 + 3) (z_ix y6)) = y1) ∧ ((z_iv h (a0 + 4) (z_ix y6)) = y2))))]) (S' := [.int (z_bt (((z_iv h (a0 + 3) (z_ix y6)) = y1) ∧ ((z_iv h (a0 + 4) (z_ix y6)) = y2)))]) (h' := h) rfl ?_
        obtain ⟨o7, H⟩ := H
        obtain ⟨o9, H⟩ := H
        obtain ⟨o11, H⟩ := H
        obtain ⟨m12, em12⟩ : ∃ m : Int32, m = (if ((z_iv h (a0 + 3) (z_ix y6)) = y1) ∧ ((z_iv h (a0 + 4) (z_ix y6)) = y2) then (if y3 < (z_iv h (a0 + 1) (z_ix y6)) then y4 else (if (z_iv h (a0 + 1) (z_ix y6)) ≤ y5 then y4 else y6)) else y4) := ⟨_, rfl⟩
        have H := H m12 em12
        obtain ⟨m13, em13⟩ : ∃ m : Int32, m = (if ((z_iv h (a0 + 3) (z_ix y6)) = y1) ∧ ((z_iv h (a0 + 4) (z_ix y6)) = y2) then (if y3 < (z_iv h (a0 + 1) (z_ix y6)) then y5 else (if (z_iv h (a0 + 1) (z_ix y6)) ≤ y5 then y5 else (z_iv h (a0 + 1) (z_ix y6)))) else y5) := ⟨_, rfl⟩
        have H := H m13 em13
        have hj14 : KG z_pI 20 96 [some (.ref a0), some (.int y1), some (.int y2), some (.int y3), some (.int m12), some (.int m13), some (.int y6), some (.int (z_bt (((z_iv h (a0 + 3) (z_ix y6)) = y1) ∧ ((z_iv h (a0 + 4) (z_ix y6)) = y2))))] [] h Q := by
          refine k_n 2 (pc' := 10) (L' := [some (.ref a0), some (.int y1), some (.int y2), some (.int y3), some (.int m12), some (.int m13), some (.int (y6 + (1 : Int32))), some (.int (z_bt (((z_iv h (a0 + 3) (z_ix y6)) = y1) ∧ ((z_iv h (a0 + 4) (z_ix y6)) = y2))))]) (S' := []) (h' := h) rfl ?_
          exact H
        refine k_b (g := z_bt (((z_iv h (a0 + 3) (z_ix y6)) = y1) ∧ ((z_iv h (a0 + 4) (z_ix y6)) = y2)) = 0) (pc' := 96) (L' := [some (.ref a0), some (.int y1), some (.int y2), some (.int y3), some (.int y4), some (.int y5), some (.int y6), some (.int (z_bt (((z_iv h (a0 + 3) (z_ix y6)) = y1) ∧ ((z_iv h (a0 + 4) (z_ix y6)) = y2))))]) (S' := []) (pc2 := 60) (L2 := [some (.ref a0), some (.int y1), some (.int y2), some (.int y3), some (.int y4), some (.int y5), some (.int y6), some (.int (z_bt (((z_iv h (a0 + 3) (z_ix y6)) = y1) ∧ ((z_iv h (a0 + 4) (z_ix y6)) = y2))))]) (S2 := []) (h' := h) (h2 := h) rfl rfl (fun hc => ?_) (fun hc => ?_)
        · have c6 := z_bt_0.mp hc
          rw [(em12.trans (by rw [if_neg c6]) : m12 = y4)] at hj14
          rw [(em13.trans (by rw [if_neg c6]) : m13 = y5)] at hj14
          exact hj14
        · have c6 := Decidable.not_not.mp (fun q => hc (z_bt_0.mpr q))
          refine k_n 1 (pc' := 61) (L' := [some (.ref a0), some (.int y1), some (.int y2), some (.int y3), some (.int y4), some (.int y5), some (.int y6), some (.int (z_bt (((z_iv h (a0 + 3) (z_ix y6)) = y1) ∧ ((z_iv h (a0 + 4) (z_ix y6)) = y2))))]) (S' := [.ref a0]) (h' := h) rfl ?_
          refine k_gS (b := (a0 + 1)) rfl Ta0 (W.reOf (t := 1) (j := 0) (o := 1) (n := 16) (by decide) Ta0).1 ?_
          refine k_n 1 (pc' := 66) (L' := [some (.ref a0), some (.int y1), some (.int y2), some (.int y3), some (.int y4), some (.int y5), some (.int y6), some (.int (z_bt (((z_iv h (a0 + 3) (z_ix y6)) = y1) ∧ ((z_iv h (a0 + 4) (z_ix y6)) = y2))))]) (S' := [.int y6, .ref (a0 + 1)]) (h' := h) rfl ?_
          refine k_ia (c := 0) (n := 16) rfl (CW.tyOf (t := 1) (t' := 100) W (j := 0) Ta0 (W.reOf (t := 1) (j := 0) (o := 1) (n := 16) (by decide) Ta0).1 (by decide) rfl) (W.reOf (t := 1) (j := 0) (o := 1) (n := 16) (by decide) Ta0).2 (o7 c6) ?_
          refine k_n 1 (pc' := 68) (L' := [some (.ref a0), some (.int y1), some (.int y2), some (.int y3), some (.int y4), some (.int y5), some (.int y6), some (.int (z_bt (((z_iv h (a0 + 3) (z_ix y6)) = y1) ∧ ((z_iv h (a0 + 4) (z_ix y6)) = y2))))]) (S' := [.int y3, .int (z_iv h (a0 + 1) (z_ix y6))]) (h' := h) rfl ?_
          refine k_b (g := y3 < (z_iv h (a0 + 1) (z_ix y6))) (pc' := 96) (L' := [some (.ref a0), some (.int y1), some (.int y2), some (.int y3), some (.int y4), some (.int y5), some (.int y6), some (.int (z_bt (((z_iv h (a0 + 3) (z_ix y6)) = y1) ∧ ((z_iv h (a0 + 4) (z_ix y6)) = y2))))]) (S' := []) (pc2 := 71) (L2 := [some (.ref a0), some (.int y1), some (.int y2), some (.int y3), some (.int y4), some (.int y5), some (.int y6), some (.int (z_bt (((z_iv h (a0 + 3) (z_ix y6)) = y1) ∧ ((z_iv h (a0 + 4) (z_ix y6)) = y2))))]) (S2 := []) (h' := h) (h2 := h) rfl rfl (fun hc => ?_) (fun hc => ?_)
          · have c8 := hc
            rw [(em12.trans (by rw [if_pos c6, if_pos c8]) : m12 = y4)] at hj14
            rw [(em13.trans (by rw [if_pos c6, if_pos c8]) : m13 = y5)] at hj14
            exact hj14
          · have c8 := hc
            refine k_n 1 (pc' := 72) (L' := [some (.ref a0), some (.int y1), some (.int y2), some (.int y3), some (.int y4), some (.int y5), some (.int y6), some (.int (z_bt (((z_iv h (a0 + 3) (z_ix y6)) = y1) ∧ ((z_iv h (a0 + 4) (z_ix y6)) = y2))))]) (S' := [.ref a0]) (h' := h) rfl ?_
            refine k_gS (b := (a0 + 1)) rfl Ta0 (W.reOf (t := 1) (j := 0) (o := 1) (n := 16) (by decide) Ta0).1 ?_
            refine k_n 1 (pc' := 77) (L' := [some (.ref a0), some (.int y1), some (.int y2), some (.int y3), some (.int y4), some (.int y5), some (.int y6), some (.int (z_bt (((z_iv h (a0 + 3) (z_ix y6)) = y1) ∧ ((z_iv h (a0 + 4) (z_ix y6)) = y2))))]) (S' := [.int y6, .ref (a0 + 1)]) (h' := h) rfl ?_
            refine k_ia (c := 0) (n := 16) rfl (CW.tyOf (t := 1) (t' := 100) W (j := 0) Ta0 (W.reOf (t := 1) (j := 0) (o := 1) (n := 16) (by decide) Ta0).1 (by decide) rfl) (W.reOf (t := 1) (j := 0) (o := 1) (n := 16) (by decide) Ta0).2 (o9 c6 c8) ?_
            refine k_n 1 (pc' := 80) (L' := [some (.ref a0), some (.int y1), some (.int y2), some (.int y3), some (.int y4), some (.int y5), some (.int y6), some (.int (z_bt (((z_iv h (a0 + 3) (z_ix y6)) = y1) ∧ ((z_iv h (a0 + 4) (z_ix y6)) = y2))))]) (S' := [.int y5, .int (z_iv h (a0 + 1) (z_ix y6))]) (h' := h) rfl ?_
            refine k_b (g := (z_iv h (a0 + 1) (z_ix y6)) ≤ y5) (pc' := 96) (L' := [some (.ref a0), some (.int y1), some (.int y2), some (.int y3), some (.int y4), some (.int y5), some (.int y6), some (.int (z_bt (((z_iv h (a0 + 3) (z_ix y6)) = y1) ∧ ((z_iv h (a0 + 4) (z_ix y6)) = y2))))]) (S' := []) (pc2 := 83) (L2 := [some (.ref a0), some (.int y1), some (.int y2), some (.int y3), some (.int y4), some (.int y5), some (.int y6), some (.int (z_bt (((z_iv h (a0 + 3) (z_ix y6)) = y1) ∧ ((z_iv h (a0 + 4) (z_ix y6)) = y2))))]) (S2 := []) (h' := h) (h2 := h) rfl rfl (fun hc => ?_) (fun hc => ?_)
            · have c10 := hc
              rw [(em12.trans (by rw [if_pos c6, if_neg c8, if_pos c10]) : m12 = y4)] at hj14
              rw [(em13.trans (by rw [if_pos c6, if_neg c8, if_pos c10]) : m13 = y5)] at hj14
              exact hj14
            · have c10 := hc
              refine k_n 3 (pc' := 88) (L' := [some (.ref a0), some (.int y1), some (.int y2), some (.int y3), some (.int y6), some (.int y5), some (.int y6), some (.int (z_bt (((z_iv h (a0 + 3) (z_ix y6)) = y1) ∧ ((z_iv h (a0 + 4) (z_ix y6)) = y2))))]) (S' := [.ref a0]) (h' := h) rfl ?_
              refine k_gS (b := (a0 + 1)) rfl Ta0 (W.reOf (t := 1) (j := 0) (o := 1) (n := 16) (by decide) Ta0).1 ?_
              refine k_n 1 (pc' := 93) (L' := [some (.ref a0), some (.int y1), some (.int y2), some (.int y3), some (.int y6), some (.int y5), some (.int y6), some (.int (z_bt (((z_iv h (a0 + 3) (z_ix y6)) = y1) ∧ ((z_iv h (a0 + 4) (z_ix y6)) = y2))))]) (S' := [.int y6, .ref (a0 + 1)]) (h' := h) rfl ?_
              refine k_ia (c := 0) (n := 16) rfl (CW.tyOf (t := 1) (t' := 100) W (j := 0) Ta0 (W.reOf (t := 1) (j := 0) (o := 1) (n := 16) (by decide) Ta0).1 (by decide) rfl) (W.reOf (t := 1) (j := 0) (o := 1) (n := 16) (by decide) Ta0).2 (o11 c6 c8 c10) ?_
              refine k_n 1 (pc' := 96) (L' := [some (.ref a0), some (.int y1), some (.int y2), some (.int y3), some (.int y6), some (.int (z_iv h (a0 + 1) (z_ix y6))), some (.int y6), some (.int (z_bt (((z_iv h (a0 + 3) (z_ix y6)) = y1) ∧ ((z_iv h (a0 + 4) (z_ix y6)) = y2))))]) (S' := []) (h' := h) rfl ?_
              rw [(em12.trans (by rw [if_pos c6, if_neg c8, if_neg c10]) : m12 = y6)] at hj14
              rw [(em13.trans (by rw [if_pos c6, if_neg c8, if_neg c10]) : m13 = (z_iv h (a0 + 1) (z_ix y6)))] at hj14
              exact hj14
      refine k_b (g := (z_iv h (a0 + 3) (z_ix y6)) = y1) (pc' := 37) (L' := [some (.ref a0), some (.int y1), some (.int y2), some (.int y3), some (.int y4), some (.int y5), some (.int y6), u7]) (S' := []) (pc2 := 52) (L2 := [some (.ref a0), some (.int y1), some (.int y2), some (.int y3), some (.int y4), some (.int y5), some (.int y6), u7]) (S2 := []) (h' := h) (h2 := h) rfl rfl (fun hc => ?_) (fun hc => ?_)
      · have c2 := hc
        refine k_n 1 (pc' := 38) (L' := [some (.ref a0), some (.int y1), some (.int y2), some (.int y3), some (.int y4), some (.int y5), some (.int y6), u7]) (S' := [.ref a0]) (h' := h) rfl ?_
        refine k_gS (b := (a0 + 4)) rfl Ta0 (W.reOf (t := 1) (j := 3) (o := 4) (n := 16) (by decide) Ta0).1 ?_
        refine k_n 1 (pc' := 43) (L' := [some (.ref a0), some (.int y1), some (.int y2), some (.int y3), some (.int y4), some (.int y5), some (.int y6), u7]) (S' := [.int y6, .ref (a0 + 4)]) (h' := h) rfl ?_
        refine k_ia (c := 0) (n := 16) rfl (CW.tyOf (t := 1) (t' := 100) W (j := 3) Ta0 (W.reOf (t := 1) (j := 3) (o := 4) (n := 16) (by decide) Ta0).1 (by decide) rfl) (W.reOf (t := 1) (j := 3) (o := 4) (n := 16) (by decide) Ta0).2 (o3 c2) ?_
        refine k_n 1 (pc' := 45) (L' := [some (.ref a0), some (.int y1), some (.int y2), some (.int y3), some (.int y4), some (.int y5), some (.int y6), u7]) (S' := [.int y2, .int (z_iv h (a0 + 4) (z_ix y6))]) (h' := h) rfl ?_
        refine k_b (g := (z_iv h (a0 + 4) (z_ix y6)) = y2) (pc' := 48) (L' := [some (.ref a0), some (.int y1), some (.int y2), some (.int y3), some (.int y4), some (.int y5), some (.int y6), u7]) (S' := []) (pc2 := 52) (L2 := [some (.ref a0), some (.int y1), some (.int y2), some (.int y3), some (.int y4), some (.int y5), some (.int y6), u7]) (S2 := []) (h' := h) (h2 := h) rfl rfl (fun hc => ?_) (fun hc => ?_)
        · have c4 := hc
          refine k_n 2 (pc' := 53) (L' := [some (.ref a0), some (.int y1), some (.int y2), some (.int y3), some (.int y4), some (.int y5), some (.int y6), u7]) (S' := [.int (1 : Int32)]) (h' := h) rfl ?_
          rw [show z_bt (((z_iv h (a0 + 3) (z_ix y6)) = y1) ∧ ((z_iv h (a0 + 4) (z_ix y6)) = y2)) = 1 from z_bt_1.mpr (⟨c2, c4⟩)] at hj5
          exact hj5
        · have c4 := hc
          refine k_n 1 (pc' := 53) (L' := [some (.ref a0), some (.int y1), some (.int y2), some (.int y3), some (.int y4), some (.int y5), some (.int y6), u7]) (S' := [.int (0 : Int32)]) (h' := h) rfl ?_
          rw [show z_bt (((z_iv h (a0 + 3) (z_ix y6)) = y1) ∧ ((z_iv h (a0 + 4) (z_ix y6)) = y2)) = 0 from z_bt_0.mpr ((fun q => c4 q.2))] at hj5
          exact hj5
      · have c2 := hc
        refine k_n 1 (pc' := 53) (L' := [some (.ref a0), some (.int y1), some (.int y2), some (.int y3), some (.int y4), some (.int y5), some (.int y6), u7]) (S' := [.int (0 : Int32)]) (h' := h) rfl ?_
        rw [show z_bt (((z_iv h (a0 + 3) (z_ix y6)) = y1) ∧ ((z_iv h (a0 + 4) (z_ix y6)) = y2)) = 0 from z_bt_0.mpr ((fun q => c2 q.1))] at hj5
        exact hj5
set_option maxRecDepth 20000 in
theorem X_21 (a0 : Nat) (x1 : Int32) (x2 : Int32) (x3 : Int32) (h : zH) (W : CW h) (T0 : z_tg h a0 = 1) {Q : Int32 → zH → Prop} (H : (¬ (x1 < 0) → ¬ ((7 : Int32) ≤ x1) → 0 ≤ x1.toInt ∧ x1.toInt < 7) ∧ (∃ v2 : Int32, KV z_pI 20 [.ref a0, .int (if x1 < 0 then (-4 : Int32) else (if (7 : Int32) ≤ x1 then (-4 : Int32) else ((z_st.getD 0 []).getD (z_ix x1) 0))), .int x2, .int x3] h v2 ∧ (if v2 < 0 then (Q (-4 : Int32) h) else (if (16 : Int32) ≤ v2 then (Q (-4 : Int32) h) else ((0 ≤ v2.toInt ∧ v2.toInt < 16) ∧ (if (z_iv h (a0 + 2) (z_ix v2)) = x1 then ((0 ≤ v2.toInt ∧ v2.toInt < 16) ∧ Q (z_iv h (a0 + 5) (z_ix v2)) h) else (Q (-4 : Int32) h))))))) : KK z_pI 21 [.ref a0, .int x1, .int x2, .int x3] h Q := by
  refine k_K (L := [some (.ref a0), some (.int x1), some (.int x2), some (.int x3), none]) rfl ?_
  refine k_n 2 (pc' := 2) (L' := [some (.ref a0), some (.int x1), some (.int x2), some (.int x3), none]) (S' := [.int x1, .ref a0]) (h' := h) rfl ?_
  refine k_cI 18 1 rfl rfl rfl (A := [.int x1]) rfl rfl rfl (rest := [.ref a0]) rfl (z_tyI rfl rfl) ?_
  obtain ⟨o1, H⟩ := H
  refine C_18 x1 h   o1 ?_
  refine k_n 2 (pc' := 7) (L' := [some (.ref a0), some (.int x1), some (.int x2), some (.int x3), none]) (S' := [.int x3, .int x2, .int (if x1 < 0 then (-4 : Int32) else (if (7 : Int32) ≤ x1 then (-4 : Int32) else ((z_st.getD 0 []).getD (z_ix x1) 0))), .ref a0]) (h' := h) rfl ?_
  refine k_cI 20 4 rfl rfl rfl (A := [.ref a0, .int (if x1 < 0 then (-4 : Int32) else (if (7 : Int32) ≤ x1 then (-4 : Int32) else ((z_st.getD 0 []).getD (z_ix x1) 0))), .int x2, .int x3]) rfl rfl (z_rok_ref T0) (rest := []) rfl (z_tyI rfl rfl) ?_
  obtain ⟨v2, k3, H⟩ := H
  refine k_P k3 ?_
  refine k_n 2 (pc' := 14) (L' := [some (.ref a0), some (.int x1), some (.int x2), some (.int x3), some (.int v2)]) (S' := [.int v2]) (h' := h) rfl ?_
  refine k_b (g := v2 < 0) (pc' := 35) (L' := [some (.ref a0), some (.int x1), some (.int x2), some (.int x3), some (.int v2)]) (S' := []) (pc2 := 17) (L2 := [some (.ref a0), some (.int x1), some (.int x2), some (.int x3), some (.int v2)]) (S2 := []) (h' := h) (h2 := h) rfl rfl (fun hc => ?_) (fun hc => ?_)
  · have hc := hc
    rw [if_pos hc] at H
    refine k_n 1 (pc' := 37) (L' := [some (.ref a0), some (.int x1), some (.int x2), some (.int x3), some (.int v2)]) (S' := [.int (-4 : Int32)]) (h' := h) rfl ?_
    exact k_r rfl rfl rfl H
  · have hc := hc
    rw [if_neg hc] at H
    refine k_n 2 (pc' := 21) (L' := [some (.ref a0), some (.int x1), some (.int x2), some (.int x3), some (.int v2)]) (S' := [.int (16 : Int32), .int v2]) (h' := h) rfl ?_
    refine k_b (g := (16 : Int32) ≤ v2) (pc' := 35) (L' := [some (.ref a0), some (.int x1), some (.int x2), some (.int x3), some (.int v2)]) (S' := []) (pc2 := 24) (L2 := [some (.ref a0), some (.int x1), some (.int x2), some (.int x3), some (.int v2)]) (S2 := []) (h' := h) (h2 := h) rfl rfl (fun hc => ?_) (fun hc => ?_)
    · have hc := hc
      rw [if_pos hc] at H
      refine k_n 1 (pc' := 37) (L' := [some (.ref a0), some (.int x1), some (.int x2), some (.int x3), some (.int v2)]) (S' := [.int (-4 : Int32)]) (h' := h) rfl ?_
      exact k_r rfl rfl rfl H
    · have hc := hc
      rw [if_neg hc] at H
      refine k_n 1 (pc' := 25) (L' := [some (.ref a0), some (.int x1), some (.int x2), some (.int x3), some (.int v2)]) (S' := [.ref a0]) (h' := h) rfl ?_
      refine k_gS (b := (a0 + 2)) rfl T0 (W.reOf (t := 1) (j := 1) (o := 2) (n := 16) (by decide) T0).1 ?_
      refine k_n 1 (pc' := 30) (L' := [some (.ref a0), some (.int x1), some (.int x2), some (.int x3), some (.int v2)]) (S' := [.int v2, .ref (a0 + 2)]) (h' := h) rfl ?_
      obtain ⟨o4, H⟩ := H
      refine k_ia (c := 0) (n := 16) rfl (CW.tyOf (t := 1) (t' := 100) W (j := 1) T0 (W.reOf (t := 1) (j := 1) (o := 2) (n := 16) (by decide) T0).1 (by decide) rfl) (W.reOf (t := 1) (j := 1) (o := 2) (n := 16) (by decide) T0).2 o4 ?_
      refine k_n 1 (pc' := 32) (L' := [some (.ref a0), some (.int x1), some (.int x2), some (.int x3), some (.int v2)]) (S' := [.int x1, .int (z_iv h (a0 + 2) (z_ix v2))]) (h' := h) rfl ?_
      refine k_b (g := (z_iv h (a0 + 2) (z_ix v2)) = x1) (pc' := 38) (L' := [some (.ref a0), some (.int x1), some (.int x2), some (.int x3), some (.int v2)]) (S' := []) (pc2 := 35) (L2 := [some (.ref a0), some (.int x1), some (.int x2), some (.int x3), some (.int v2)]) (S2 := []) (h' := h) (h2 := h) rfl rfl (fun hc => ?_) (fun hc => ?_)
      · have hc := hc
        rw [if_pos hc] at H
        refine k_n 1 (pc' := 39) (L' := [some (.ref a0), some (.int x1), some (.int x2), some (.int x3), some (.int v2)]) (S' := [.ref a0]) (h' := h) rfl ?_
        refine k_gS (b := (a0 + 5)) rfl T0 (W.reOf (t := 1) (j := 4) (o := 5) (n := 16) (by decide) T0).1 ?_
        refine k_n 1 (pc' := 44) (L' := [some (.ref a0), some (.int x1), some (.int x2), some (.int x3), some (.int v2)]) (S' := [.int v2, .ref (a0 + 5)]) (h' := h) rfl ?_
        obtain ⟨o5, H⟩ := H
        refine k_ia (c := 0) (n := 16) rfl (CW.tyOf (t := 1) (t' := 100) W (j := 4) T0 (W.reOf (t := 1) (j := 4) (o := 5) (n := 16) (by decide) T0).1 (by decide) rfl) (W.reOf (t := 1) (j := 4) (o := 5) (n := 16) (by decide) T0).2 o5 ?_
        exact k_r rfl rfl rfl H
      · have hc := hc
        rw [if_neg hc] at H
        refine k_n 1 (pc' := 37) (L' := [some (.ref a0), some (.int x1), some (.int x2), some (.int x3), some (.int v2)]) (S' := [.int (-4 : Int32)]) (h' := h) rfl ?_
        exact k_r rfl rfl rfl H
set_option maxRecDepth 20000 in
theorem X_22 (a0 : Nat) (x1 : Int32) (x2 : Int32) (h : zH) (W : CW h) (T0 : z_tg h a0 = 1) {Q : Int32 → zH → Prop} (H : ∃ v1 : Int32, KV z_pI 21 [.ref a0, .int (0 : Int32), .int x1, .int x2] h v1 ∧ Q v1 h) : KK z_pI 22 [.ref a0, .int x1, .int x2] h Q := by
  refine k_K (L := [some (.ref a0), some (.int x1), some (.int x2)]) rfl ?_
  refine k_n 4 (pc' := 4) (L' := [some (.ref a0), some (.int x1), some (.int x2)]) (S' := [.int x2, .int x1, .int (0 : Int32), .ref a0]) (h' := h) rfl ?_
  refine k_cI 21 4 rfl rfl rfl (A := [.ref a0, .int (0 : Int32), .int x1, .int x2]) rfl rfl (z_rok_ref T0) (rest := []) rfl (z_tyI rfl rfl) ?_
  obtain ⟨v1, k2, H⟩ := H
  refine k_P k2 ?_
  exact k_r rfl rfl rfl H
set_option maxRecDepth 20000 in
theorem X_23 (a0 : Nat) (x1 : Int32) (x2 : Int32) (h : zH) (W : CW h) (T0 : z_tg h a0 = 1) {Q : Int32 → zH → Prop} (H : ∃ v1 : Int32, KV z_pI 21 [.ref a0, .int (1 : Int32), .int x1, .int x2] h v1 ∧ Q v1 h) : KK z_pI 23 [.ref a0, .int x1, .int x2] h Q := by
  refine k_K (L := [some (.ref a0), some (.int x1), some (.int x2)]) rfl ?_
  refine k_n 4 (pc' := 4) (L' := [some (.ref a0), some (.int x1), some (.int x2)]) (S' := [.int x2, .int x1, .int (1 : Int32), .ref a0]) (h' := h) rfl ?_
  refine k_cI 21 4 rfl rfl rfl (A := [.ref a0, .int (1 : Int32), .int x1, .int x2]) rfl rfl (z_rok_ref T0) (rest := []) rfl (z_tyI rfl rfl) ?_
  obtain ⟨v1, k2, H⟩ := H
  refine k_P k2 ?_
  exact k_r rfl rfl rfl H
set_option maxRecDepth 20000 in
theorem X_24 (a0 : Nat) (x1 : Int32) (x2 : Int32) (h : zH) (W : CW h) (T0 : z_tg h a0 = 1) {Q : Int32 → zH → Prop} (H : ∃ v1 : Int32, KV z_pI 21 [.ref a0, .int (2 : Int32), .int x1, .int x2] h v1 ∧ (∀ m4 : Int32, m4 = (if v1 = (-4 : Int32) then (3 : Int32) else v1) → Q m4 h)) : KK z_pI 24 [.ref a0, .int x1, .int x2] h Q := by
  refine k_K (L := [some (.ref a0), some (.int x1), some (.int x2), none]) rfl ?_
  refine k_n 4 (pc' := 4) (L' := [some (.ref a0), some (.int x1), some (.int x2), none]) (S' := [.int x2, .int x1, .int (2 : Int32), .ref a0]) (h' := h) rfl ?_
  refine k_cI 21 4 rfl rfl rfl (A := [.ref a0, .int (2 : Int32), .int x1, .int x2]) rfl rfl (z_rok_ref T0) (rest := []) rfl (z_tyI rfl rfl) ?_
  obtain ⟨v1, k2, H⟩ := H
  refine k_P k2 ?_
  refine k_n 3 (pc' := 11) (L' := [some (.ref a0), some (.int x1), some (.int x2), some (.int v1)]) (S' := [.int (-4 : Int32), .int v1]) (h' := h) rfl ?_
  obtain ⟨m4, em4⟩ : ∃ m : Int32, m = (if v1 = (-4 : Int32) then (3 : Int32) else v1) := ⟨_, rfl⟩
  have H := H m4 em4
  have hj5 : KG z_pI 24 19 [some (.ref a0), some (.int x1), some (.int x2), some (.int v1)] [.int m4] h Q := by
    exact k_r rfl rfl rfl H
  refine k_b (g := v1 = (-4 : Int32)) (pc' := 14) (L' := [some (.ref a0), some (.int x1), some (.int x2), some (.int v1)]) (S' := []) (pc2 := 18) (L2 := [some (.ref a0), some (.int x1), some (.int x2), some (.int v1)]) (S2 := []) (h' := h) (h2 := h) rfl rfl (fun hc => ?_) (fun hc => ?_)
  · have c3 := hc
    refine k_n 2 (pc' := 19) (L' := [some (.ref a0), some (.int x1), some (.int x2), some (.int v1)]) (S' := [.int (3 : Int32)]) (h' := h) rfl ?_
    rw [(em4.trans (by rw [if_pos c3]) : m4 = (3 : Int32))] at hj5
    exact hj5
  · have c3 := hc
    refine k_n 1 (pc' := 19) (L' := [some (.ref a0), some (.int x1), some (.int x2), some (.int v1)]) (S' := [.int v1]) (h' := h) rfl ?_
    rw [(em4.trans (by rw [if_neg c3]) : m4 = v1)] at hj5
    exact hj5
set_option maxRecDepth 20000 in
theorem X_25 (a0 : Nat) (x1 : Int32) (x2 : Int32) (h : zH) (W : CW h) (T0 : z_tg h a0 = 1) {Q : Int32 → zH → Prop} (H : ∃ v1 : Int32, KV z_pI 21 [.ref a0, .int (3 : Int32), .int x1, .int x2] h v1 ∧ (∀ m4 : Int32, m4 = (if v1 = (-4 : Int32) then (99 : Int32) else v1) → Q m4 h)) : KK z_pI 25 [.ref a0, .int x1, .int x2] h Q := by
  refine k_K (L := [some (.ref a0), some (.int x1), some (.int x2), none]) rfl ?_
  refine k_n 4 (pc' := 4) (L' := [some (.ref a0), some (.int x1), some (.int x2), none]) (S' := [.int x2, .int x1, .int (3 : Int32), .ref a0]) (h' := h) rfl ?_
  refine k_cI 21 4 rfl rfl rfl (A := [.ref a0, .int (3 : Int32), .int x1, .int x2]) rfl rfl (z_rok_ref T0) (rest := []) rfl (z_tyI rfl rfl) ?_
  obtain ⟨v1, k2, H⟩ := H
  refine k_P k2 ?_
  refine k_n 3 (pc' := 11) (L' := [some (.ref a0), some (.int x1), some (.int x2), some (.int v1)]) (S' := [.int (-4 : Int32), .int v1]) (h' := h) rfl ?_
  obtain ⟨m4, em4⟩ : ∃ m : Int32, m = (if v1 = (-4 : Int32) then (99 : Int32) else v1) := ⟨_, rfl⟩
  have H := H m4 em4
  have hj5 : KG z_pI 25 20 [some (.ref a0), some (.int x1), some (.int x2), some (.int v1)] [.int m4] h Q := by
    exact k_r rfl rfl rfl H
  refine k_b (g := v1 = (-4 : Int32)) (pc' := 14) (L' := [some (.ref a0), some (.int x1), some (.int x2), some (.int v1)]) (S' := []) (pc2 := 19) (L2 := [some (.ref a0), some (.int x1), some (.int x2), some (.int v1)]) (S2 := []) (h' := h) (h2 := h) rfl rfl (fun hc => ?_) (fun hc => ?_)
  · have c3 := hc
    refine k_n 2 (pc' := 20) (L' := [some (.ref a0), some (.int x1), some (.int x2), some (.int v1)]) (S' := [.int (99 : Int32)]) (h' := h) rfl ?_
    rw [(em4.trans (by rw [if_pos c3]) : m4 = (99 : Int32))] at hj5
    exact hj5
  · have c3 := hc
    refine k_n 1 (pc' := 20) (L' := [some (.ref a0), some (.int x1), some (.int x2), some (.int v1)]) (S' := [.int v1]) (h' := h) rfl ?_
    rw [(em4.trans (by rw [if_neg c3]) : m4 = v1)] at hj5
    exact hj5
set_option maxRecDepth 20000 in
theorem X_26 (a0 : Nat) (x1 : Int32) (x2 : Int32) (h : zH) (W : CW h) (T0 : z_tg h a0 = 1) {Q : Int32 → zH → Prop} (H : ∃ v1 : Int32, KV z_pI 21 [.ref a0, .int (4 : Int32), .int x1, .int x2] h v1 ∧ (∀ m4 : Int32, m4 = (if v1 = (-4 : Int32) then (0 : Int32) else v1) → Q m4 h)) : KK z_pI 26 [.ref a0, .int x1, .int x2] h Q := by
  refine k_K (L := [some (.ref a0), some (.int x1), some (.int x2), none]) rfl ?_
  refine k_n 4 (pc' := 4) (L' := [some (.ref a0), some (.int x1), some (.int x2), none]) (S' := [.int x2, .int x1, .int (4 : Int32), .ref a0]) (h' := h) rfl ?_
  refine k_cI 21 4 rfl rfl rfl (A := [.ref a0, .int (4 : Int32), .int x1, .int x2]) rfl rfl (z_rok_ref T0) (rest := []) rfl (z_tyI rfl rfl) ?_
  obtain ⟨v1, k2, H⟩ := H
  refine k_P k2 ?_
  refine k_n 3 (pc' := 11) (L' := [some (.ref a0), some (.int x1), some (.int x2), some (.int v1)]) (S' := [.int (-4 : Int32), .int v1]) (h' := h) rfl ?_
  obtain ⟨m4, em4⟩ : ∃ m : Int32, m = (if v1 = (-4 : Int32) then (0 : Int32) else v1) := ⟨_, rfl⟩
  have H := H m4 em4
  have hj5 : KG z_pI 26 19 [some (.ref a0), some (.int x1), some (.int x2), some (.int v1)] [.int m4] h Q := by
    exact k_r rfl rfl rfl H
  refine k_b (g := v1 = (-4 : Int32)) (pc' := 14) (L' := [some (.ref a0), some (.int x1), some (.int x2), some (.int v1)]) (S' := []) (pc2 := 18) (L2 := [some (.ref a0), some (.int x1), some (.int x2), some (.int v1)]) (S2 := []) (h' := h) (h2 := h) rfl rfl (fun hc => ?_) (fun hc => ?_)
  · have c3 := hc
    refine k_n 2 (pc' := 19) (L' := [some (.ref a0), some (.int x1), some (.int x2), some (.int v1)]) (S' := [.int (0 : Int32)]) (h' := h) rfl ?_
    rw [(em4.trans (by rw [if_pos c3]) : m4 = (0 : Int32))] at hj5
    exact hj5
  · have c3 := hc
    refine k_n 1 (pc' := 19) (L' := [some (.ref a0), some (.int x1), some (.int x2), some (.int v1)]) (S' := [.int v1]) (h' := h) rfl ?_
    rw [(em4.trans (by rw [if_neg c3]) : m4 = v1)] at hj5
    exact hj5
set_option maxRecDepth 20000 in
theorem X_27 (a0 : Nat) (x1 : Int32) (h : zH) (W : CW h) (T0 : z_tg h a0 = 1) {Q : Int32 → zH → Prop} (H : ∃ v1 : Int32, KV z_pI 21 [.ref a0, .int (5 : Int32), .int (0 : Int32), .int x1] h v1 ∧ Q (z_bt (¬ (v1 = (-4 : Int32)))) h) : KK z_pI 27 [.ref a0, .int x1] h Q := by
  refine k_K (L := [some (.ref a0), some (.int x1)]) rfl ?_
  refine k_n 4 (pc' := 4) (L' := [some (.ref a0), some (.int x1)]) (S' := [.int x1, .int (0 : Int32), .int (5 : Int32), .ref a0]) (h' := h) rfl ?_
  refine k_cI 21 4 rfl rfl rfl (A := [.ref a0, .int (5 : Int32), .int (0 : Int32), .int x1]) rfl rfl (z_rok_ref T0) (rest := []) rfl (z_tyI rfl rfl) ?_
  obtain ⟨v1, k2, H⟩ := H
  refine k_P k2 ?_
  refine k_n 1 (pc' := 9) (L' := [some (.ref a0), some (.int x1)]) (S' := [.int (-4 : Int32), .int v1]) (h' := h) rfl ?_
  have hj4 : KG z_pI 27 17 [some (.ref a0), some (.int x1)] [.int (z_bt (¬ (v1 = (-4 : Int32))))] h Q := by
    exact k_r rfl (z_retB z_bt_01) rfl H
  refine k_b (g := v1 = (-4 : Int32)) (pc' := 16) (L' := [some (.ref a0), some (.int x1)]) (S' := []) (pc2 := 12) (L2 := [some (.ref a0), some (.int x1)]) (S2 := []) (h' := h) (h2 := h) rfl rfl (fun hc => ?_) (fun hc => ?_)
  · have c3 := hc
    refine k_n 1 (pc' := 17) (L' := [some (.ref a0), some (.int x1)]) (S' := [.int (0 : Int32)]) (h' := h) rfl ?_
    rw [show z_bt (¬ (v1 = (-4 : Int32))) = 0 from z_bt_0.mpr ((fun q => q c3))] at hj4
    exact hj4
  · have c3 := hc
    refine k_n 2 (pc' := 17) (L' := [some (.ref a0), some (.int x1)]) (S' := [.int (1 : Int32)]) (h' := h) rfl ?_
    rw [show z_bt (¬ (v1 = (-4 : Int32))) = 1 from z_bt_1.mpr (c3)] at hj4
    exact hj4
set_option maxRecDepth 20000 in
theorem X_28 (a0 : Nat) (x1 : Int32) (h : zH) (W : CW h) (T0 : z_tg h a0 = 1) {Q : Int32 → zH → Prop} (H : KG z_pI 28 4 [some (.ref a0), some (.int x1), some (.int (0 : Int32)), some (.int (0 : Int32))] [] h Q) : KK z_pI 28 [.ref a0, .int x1] h Q := by
  refine k_K (L := [some (.ref a0), some (.int x1), none, none]) rfl ?_
  refine k_n 4 (pc' := 4) (L' := [some (.ref a0), some (.int x1), some (.int (0 : Int32)), some (.int (0 : Int32))]) (S' := []) (h' := h) rfl ?_
  exact H
set_option maxRecDepth 20000 in
theorem X_28_4 (a0 : Nat) (y1 : Int32) (y2 : Int32) (y3 : Int32) (h : zH) (W : CW h) (Ta0 : z_tg h a0 = 1) {Q : Int32 → zH → Prop} (H : if (8 : Int32) ≤ y3 then (Q y2 h) else (∃ v1 : Int32, KV z_pI 26 [.ref a0, .int y3, .int y1] h v1 ∧ (∀ m4 : Int32, m4 = (if v1 ≤ y1 then y2 else (y2 ||| ((1 : Int32) <<< (y3 &&& 31)))) → KG z_pI 28 4 [some (.ref a0), some (.int y1), some (.int m4), some (.int (y3 + (1 : Int32)))] [] h Q))) : KG z_pI 28 4 [some (.ref a0), some (.int y1), some (.int y2), some (.int y3)] [] h Q := by
  refine k_n 2 (pc' := 7) (L' := [some (.ref a0), some (.int y1), some (.int y2), some (.int y3)]) (S' := [.int (8 : Int32), .int y3]) (h' := h) rfl ?_
  refine k_b (g := (8 : Int32) ≤ y3) (pc' := 32) (L' := [some (.ref a0), some (.int y1), some (.int y2), some (.int y3)]) (S' := []) (pc2 := 10) (L2 := [some (.ref a0), some (.int y1), some (.int y2), some (.int y3)]) (S2 := []) (h' := h) (h2 := h) rfl rfl (fun hc => ?_) (fun hc => ?_)
  · have hc := hc
    rw [if_pos hc] at H
    refine k_n 1 (pc' := 33) (L' := [some (.ref a0), some (.int y1), some (.int y2), some (.int y3)]) (S' := [.int y2]) (h' := h) rfl ?_
    exact k_r rfl rfl rfl H
  · have hc := hc
    rw [if_neg hc] at H
    refine k_n 3 (pc' := 13) (L' := [some (.ref a0), some (.int y1), some (.int y2), some (.int y3)]) (S' := [.int y1, .int y3, .ref a0]) (h' := h) rfl ?_
    refine k_cI 26 3 rfl rfl rfl (A := [.ref a0, .int y3, .int y1]) rfl rfl (z_rok_ref Ta0) (rest := []) rfl (z_tyI rfl rfl) ?_
    obtain ⟨v1, k2, H⟩ := H
    refine k_P k2 ?_
    refine k_n 1 (pc' := 17) (L' := [some (.ref a0), some (.int y1), some (.int y2), some (.int y3)]) (S' := [.int y1, .int v1]) (h' := h) rfl ?_
    obtain ⟨m4, em4⟩ : ∃ m : Int32, m = (if v1 ≤ y1 then y2 else (y2 ||| ((1 : Int32) <<< (y3 &&& 31)))) := ⟨_, rfl⟩
    have H := H m4 em4
    have hj5 : KG z_pI 28 26 [some (.ref a0), some (.int y1), some (.int m4), some (.int y3)] [] h Q := by
      refine k_n 2 (pc' := 4) (L' := [some (.ref a0), some (.int y1), some (.int m4), some (.int (y3 + (1 : Int32)))]) (S' := []) (h' := h) rfl ?_
      exact H
    refine k_b (g := v1 ≤ y1) (pc' := 26) (L' := [some (.ref a0), some (.int y1), some (.int y2), some (.int y3)]) (S' := []) (pc2 := 20) (L2 := [some (.ref a0), some (.int y1), some (.int y2), some (.int y3)]) (S2 := []) (h' := h) (h2 := h) rfl rfl (fun hc => ?_) (fun hc => ?_)
    · have c3 := hc
      rw [(em4.trans (by rw [if_pos c3]) : m4 = y2)] at hj5
      exact hj5
    · have c3 := hc
      refine k_n 6 (pc' := 26) (L' := [some (.ref a0), some (.int y1), some (.int (y2 ||| ((1 : Int32) <<< (y3 &&& 31)))), some (.int y3)]) (S' := []) (h' := h) rfl ?_
      rw [(em4.trans (by rw [if_neg c3]) : m4 = (y2 ||| ((1 : Int32) <<< (y3 &&& 31))))] at hj5
      exact hj5
set_option maxRecDepth 20000 in
theorem X_50 (a0 : Nat) (h : zH) (W : CW h) (T0 : z_tg h a0 = 4) {Q : Int32 → zH → Prop} (H : KG z_pI 50 4 [some (.ref a0), some (.int (0 : Int32)), some (.int (0 : Int32))] [] h Q) : KK z_pI 50 [.ref a0] h Q := by
  refine k_K (L := [some (.ref a0), none, none]) rfl ?_
  refine k_n 4 (pc' := 4) (L' := [some (.ref a0), some (.int (0 : Int32)), some (.int (0 : Int32))]) (S' := []) (h' := h) rfl ?_
  exact H
set_option maxRecDepth 20000 in
theorem X_50_4 (a0 : Nat) (y1 : Int32) (y2 : Int32) (h : zH) (W : CW h) (Ta0 : z_tg h a0 = 4) {Q : Int32 → zH → Prop} (H : if (8 : Int32) ≤ y2 then (Q y1 h) else ((0 ≤ y2.toInt ∧ y2.toInt < 8) ∧ KG z_pI 50 4 [some (.ref a0), some (.int (y1 + (z_iv h (a0 + 2) (z_ix y2)))), some (.int (y2 + (1 : Int32)))] [] h Q)) : KG z_pI 50 4 [some (.ref a0), some (.int y1), some (.int y2)] [] h Q := by
  refine k_n 2 (pc' := 7) (L' := [some (.ref a0), some (.int y1), some (.int y2)]) (S' := [.int (8 : Int32), .int y2]) (h' := h) rfl ?_
  refine k_b (g := (8 : Int32) ≤ y2) (pc' := 25) (L' := [some (.ref a0), some (.int y1), some (.int y2)]) (S' := []) (pc2 := 10) (L2 := [some (.ref a0), some (.int y1), some (.int y2)]) (S2 := []) (h' := h) (h2 := h) rfl rfl (fun hc => ?_) (fun hc => ?_)
  · have hc := hc
    rw [if_pos hc] at H
    refine k_n 1 (pc' := 26) (L' := [some (.ref a0), some (.int y1), some (.int y2)]) (S' := [.int y1]) (h' := h) rfl ?_
    exact k_r rfl rfl rfl H
  · have hc := hc
    rw [if_neg hc] at H
    refine k_n 2 (pc' := 12) (L' := [some (.ref a0), some (.int y1), some (.int y2)]) (S' := [.ref a0, .int y1]) (h' := h) rfl ?_
    refine k_gS (b := (a0 + 2)) rfl Ta0 (W.reOf (t := 4) (j := 3) (o := 2) (n := 8) (by decide) Ta0).1 ?_
    refine k_n 1 (pc' := 16) (L' := [some (.ref a0), some (.int y1), some (.int y2)]) (S' := [.int y2, .ref (a0 + 2), .int y1]) (h' := h) rfl ?_
    obtain ⟨o1, H⟩ := H
    refine k_ia (c := 0) (n := 8) rfl (CW.tyOf (t := 4) (t' := 100) W (j := 3) Ta0 (W.reOf (t := 4) (j := 3) (o := 2) (n := 8) (by decide) Ta0).1 (by decide) rfl) (W.reOf (t := 4) (j := 3) (o := 2) (n := 8) (by decide) Ta0).2 o1 ?_
    refine k_n 4 (pc' := 4) (L' := [some (.ref a0), some (.int (y1 + (z_iv h (a0 + 2) (z_ix y2)))), some (.int (y2 + (1 : Int32)))]) (S' := []) (h' := h) rfl ?_
    exact H
set_option maxRecDepth 20000 in
theorem X_51 (a0 : Nat) (x1 : Int32) (x2 : Int32) (x3 : Int32) (h : zH) (W : CW h) (T0 : z_tg h a0 = 4) {Q : Int32 → zH → Prop} (H : KG z_pI 51 10 [some (.ref a0), some (.int x1), some (.int x2), some (.int x3), some (.long x2.toInt64), none, some (.int (0 : Int32)), some (.int (0 : Int32)), none, none] [] h Q) : KK z_pI 51 [.ref a0, .int x1, .int x2, .int x3] h Q := by
  refine k_K (L := [some (.ref a0), some (.int x1), some (.int x2), some (.int x3), none, none, none, none, none, none]) rfl ?_
  refine k_n 7 (pc' := 10) (L' := [some (.ref a0), some (.int x1), some (.int x2), some (.int x3), some (.long x2.toInt64), none, some (.int (0 : Int32)), some (.int (0 : Int32)), none, none]) (S' := []) (h' := h) rfl ?_
  exact H
set_option maxRecDepth 20000 in
theorem X_51_10 (a0 : Nat) (y1 : Int32) (y2 : Int32) (y3 : Int32) (y4 : Int64) (y6 : Int32) (y7 : Int32) (u8 : Option Value) (u9 : Option Value) (h : zH) (W : CW h) (Ta0 : z_tg h a0 = 4) {Q : Int32 → zH → Prop} (H : if (8 : Int32) ≤ y7 then (∃ v1 : Int64, KV z_pL 52 [.ref a0, .int y1, .int y2, .int y3] h v1 ∧ (∃ v3 : Int32, KV z_pI 53 [.ref a0, .int y1] h v3 ∧ (∀ m9 : Int64, m9 = (if ¬ (v3 ≤ 0) ∧ (¬ (y4 ≤ y6.toInt64)) then (v1 + (1 : Int64)) else v1) → Q m9.toInt32 h))) else (∃ v11 : Int64, KV z_pL 52 [.ref a0, .int y7, .int y2, .int y3] h v11 ∧ (¬ (y1 ≤ y7) → 0 ≤ y7.toInt ∧ y7.toInt < 8) ∧ (∀ m16 : Int32, m16 = (if y1 ≤ y7 then y6 else (if (z_iv h (a0 + 2) (z_ix y7)) ≤ 0 then y6 else (y6 + (1 : Int32)))) → KG z_pI 51 10 [some (.ref a0), some (.int y1), some (.int y2), some (.int y3), some (.long (y4 - v11)), none, some (.int m16), some (.int (y7 + (1 : Int32))), u8, u9] [] h Q))) : KG z_pI 51 10 [some (.ref a0), some (.int y1), some (.int y2), some (.int y3), some (.long y4), none, some (.int y6), some (.int y7), u8, u9] [] h Q := by
  refine k_n 2 (pc' := 14) (L' := [some (.ref a0), some (.int y1), some (.int y2), some (.int y3), some (.long y4), none, some (.int y6), some (.int y7), u8, u9]) (S' := [.int (8 : Int32), .int y7]) (h' := h) rfl ?_
  refine k_b (g := (8 : Int32) ≤ y7) (pc' := 55) (L' := [some (.ref a0), some (.int y1), some (.int y2), some (.int y3), some (.long y4), none, some (.int y6), some (.int y7), u8, u9]) (S' := []) (pc2 := 17) (L2 := [some (.ref a0), some (.int y1), some (.int y2), some (.int y3), some (.long y4), none, some (.int y6), some (.int y7), u8, u9]) (S2 := []) (h' := h) (h2 := h) rfl rfl (fun hc => ?_) (fun hc => ?_)
  · have hc := hc
    rw [if_pos hc] at H
    refine k_n 4 (pc' := 59) (L' := [some (.ref a0), some (.int y1), some (.int y2), some (.int y3), some (.long y4), none, some (.int y6), some (.int y7), u8, u9]) (S' := [.int y3, .int y2, .int y1, .ref a0]) (h' := h) rfl ?_
    refine k_cL 52 4 rfl rfl rfl (A := [.ref a0, .int y1, .int y2, .int y3]) rfl rfl (z_rok_ref Ta0) (rest := []) rfl rfl ?_
    obtain ⟨v1, k2, H⟩ := H
    refine k_P k2 ?_
    refine k_n 3 (pc' := 66) (L' := [some (.ref a0), some (.int y1), some (.int y2), some (.int y3), some (.long y4), none, some (.int y6), some (.long v1), none, u9]) (S' := [.int y1, .ref a0]) (h' := h) rfl ?_
    refine k_cI 53 2 rfl rfl rfl (A := [.ref a0, .int y1]) rfl rfl (z_rok_ref Ta0) (rest := []) rfl (z_tyI rfl rfl) ?_
    obtain ⟨v3, k4, H⟩ := H
    refine k_P k4 ?_
    have hj7 : KG z_pI 51 86 [some (.ref a0), some (.int y1), some (.int y2), some (.int y3), some (.long y4), none, some (.int y6), some (.long v1), none, u9] [.int (z_bt (¬ (v3 ≤ 0) ∧ (¬ (y4 ≤ y6.toInt64))))] h Q := by
      refine k_n 2 (pc' := 90) (L' := [some (.ref a0), some (.int y1), some (.int y2), some (.int y3), some (.long y4), none, some (.int y6), some (.long v1), none, some (.int (z_bt (¬ (v3 ≤ 0) ∧ (¬ (y4 ≤ y6.toInt64)))))]) (S' := [.int (z_bt (¬ (v3 ≤ 0) ∧ (¬ (y4 ≤ y6.toInt64))))]) (h' := h) rfl ?_
      obtain ⟨m9, em9⟩ : ∃ m : Int64, m = (if ¬ (v3 ≤ 0) ∧ (¬ (y4 ≤ y6.toInt64)) then (v1 + (1 : Int64)) else v1) := ⟨_, rfl⟩
      have H := H m9 em9
      have hj10 : KG z_pI 51 102 [some (.ref a0), some (.int y1), some (.int y2), some (.int y3), some (.long y4), none, some (.int y6), some (.long v1), none, some (.int (z_bt (¬ (v3 ≤ 0) ∧ (¬ (y4 ≤ y6.toInt64)))))] [.long m9] h Q := by
        refine k_n 1 (pc' := 103) (L' := [some (.ref a0), some (.int y1), some (.int y2), some (.int y3), some (.long y4), none, some (.int y6), some (.long v1), none, some (.int (z_bt (¬ (v3 ≤ 0) ∧ (¬ (y4 ≤ y6.toInt64)))))]) (S' := [.int m9.toInt32]) (h' := h) rfl ?_
        exact k_r rfl rfl rfl H
      refine k_b (g := z_bt (¬ (v3 ≤ 0) ∧ (¬ (y4 ≤ y6.toInt64))) = 0) (pc' := 100) (L' := [some (.ref a0), some (.int y1), some (.int y2), some (.int y3), some (.long y4), none, some (.int y6), some (.long v1), none, some (.int (z_bt (¬ (v3 ≤ 0) ∧ (¬ (y4 ≤ y6.toInt64)))))]) (S' := []) (pc2 := 93) (L2 := [some (.ref a0), some (.int y1), some (.int y2), some (.int y3), some (.long y4), none, some (.int y6), some (.long v1), none, some (.int (z_bt (¬ (v3 ≤ 0) ∧ (¬ (y4 ≤ y6.toInt64)))))]) (S2 := []) (h' := h) (h2 := h) rfl rfl (fun hc => ?_) (fun hc => ?_)
      · have c8 := z_bt_0.mp hc
        refine k_n 1 (pc' := 102) (L' := [some (.ref a0), some (.int y1), some (.int y2), some (.int y3), some (.long y4), none, some (.int y6), some (.long v1), none, some (.int (z_bt (¬ (v3 ≤ 0) ∧ (¬ (y4 ≤ y6.toInt64)))))]) (S' := [.long v1]) (h' := h) rfl ?_
        rw [(em9.trans (by rw [if_neg c8]) : m9 = v1)] at hj10
        exact hj10
      · have c8 := Decidable.not_not.mp (fun q => hc (z_bt_0.mpr q))
        refine k_n 4 (pc' := 102) (L' := [some (.ref a0), some (.int y1), some (.int y2), some (.int y3), some (.long y4), none, some (.int y6), some (.long v1), none, some (.int (z_bt (¬ (v3 ≤ 0) ∧ (¬ (y4 ≤ y6.toInt64)))))]) (S' := [.long (v1 + (1 : Int64))]) (h' := h) rfl ?_
        rw [(em9.trans (by rw [if_pos c8]) : m9 = (v1 + (1 : Int64)))] at hj10
        exact hj10
    refine k_b (g := v3 ≤ 0) (pc' := 85) (L' := [some (.ref a0), some (.int y1), some (.int y2), some (.int y3), some (.long y4), none, some (.int y6), some (.long v1), none, u9]) (S' := []) (pc2 := 72) (L2 := [some (.ref a0), some (.int y1), some (.int y2), some (.int y3), some (.long y4), none, some (.int y6), some (.long v1), none, u9]) (S2 := []) (h' := h) (h2 := h) rfl rfl (fun hc => ?_) (fun hc => ?_)
    · have c5 := hc
      refine k_n 1 (pc' := 86) (L' := [some (.ref a0), some (.int y1), some (.int y2), some (.int y3), some (.long y4), none, some (.int y6), some (.long v1), none, u9]) (S' := [.int (0 : Int32)]) (h' := h) rfl ?_
      rw [show z_bt (¬ (v3 ≤ 0) ∧ (¬ (y4 ≤ y6.toInt64))) = 0 from z_bt_0.mpr ((fun q => q.1 c5))] at hj7
      exact hj7
    · have c5 := hc
      refine k_n 4 (pc' := 78) (L' := [some (.ref a0), some (.int y1), some (.int y2), some (.int y3), some (.long y4), none, some (.int y6), some (.long v1), none, u9]) (S' := [.int (z_cmp y6.toInt64 y4)]) (h' := h) rfl ?_
      refine k_b (g := 0 ≤ z_cmp y6.toInt64 y4) (pc' := 85) (L' := [some (.ref a0), some (.int y1), some (.int y2), some (.int y3), some (.long y4), none, some (.int y6), some (.long v1), none, u9]) (S' := []) (pc2 := 81) (L2 := [some (.ref a0), some (.int y1), some (.int y2), some (.int y3), some (.long y4), none, some (.int y6), some (.long v1), none, u9]) (S2 := []) (h' := h) (h2 := h) rfl rfl (fun hc => ?_) (fun hc => ?_)
      · have c6 := z_cmp_ge.mp hc
        refine k_n 1 (pc' := 86) (L' := [some (.ref a0), some (.int y1), some (.int y2), some (.int y3), some (.long y4), none, some (.int y6), some (.long v1), none, u9]) (S' := [.int (0 : Int32)]) (h' := h) rfl ?_
        rw [show z_bt (¬ (v3 ≤ 0) ∧ (¬ (y4 ≤ y6.toInt64))) = 0 from z_bt_0.mpr ((fun q => (fun q => q c6) q.2))] at hj7
        exact hj7
      · have c6 := (fun q => hc (z_cmp_ge.mpr q))
        refine k_n 2 (pc' := 86) (L' := [some (.ref a0), some (.int y1), some (.int y2), some (.int y3), some (.long y4), none, some (.int y6), some (.long v1), none, u9]) (S' := [.int (1 : Int32)]) (h' := h) rfl ?_
        rw [show z_bt (¬ (v3 ≤ 0) ∧ (¬ (y4 ≤ y6.toInt64))) = 1 from z_bt_1.mpr (⟨c5, c6⟩)] at hj7
        exact hj7
  · have hc := hc
    rw [if_neg hc] at H
    refine k_n 5 (pc' := 24) (L' := [some (.ref a0), some (.int y1), some (.int y2), some (.int y3), some (.long y4), none, some (.int y6), some (.int y7), u8, u9]) (S' := [.int y3, .int y2, .int y7, .ref a0, .long y4]) (h' := h) rfl ?_
    refine k_cL 52 4 rfl rfl rfl (A := [.ref a0, .int y7, .int y2, .int y3]) rfl rfl (z_rok_ref Ta0) (rest := [.long y4]) rfl rfl ?_
    obtain ⟨v11, k12, H⟩ := H
    refine k_P k12 ?_
    refine k_n 4 (pc' := 33) (L' := [some (.ref a0), some (.int y1), some (.int y2), some (.int y3), some (.long (y4 - v11)), none, some (.int y6), some (.int y7), u8, u9]) (S' := [.int y1, .int y7]) (h' := h) rfl ?_
    obtain ⟨o14, H⟩ := H
    obtain ⟨m16, em16⟩ : ∃ m : Int32, m = (if y1 ≤ y7 then y6 else (if (z_iv h (a0 + 2) (z_ix y7)) ≤ 0 then y6 else (y6 + (1 : Int32)))) := ⟨_, rfl⟩
    have H := H m16 em16
    have hj17 : KG z_pI 51 49 [some (.ref a0), some (.int y1), some (.int y2), some (.int y3), some (.long (y4 - v11)), none, some (.int m16), some (.int y7), u8, u9] [] h Q := by
      refine k_n 2 (pc' := 10) (L' := [some (.ref a0), some (.int y1), some (.int y2), some (.int y3), some (.long (y4 - v11)), none, some (.int m16), some (.int (y7 + (1 : Int32))), u8, u9]) (S' := []) (h' := h) rfl ?_
      exact H
    refine k_b (g := y1 ≤ y7) (pc' := 49) (L' := [some (.ref a0), some (.int y1), some (.int y2), some (.int y3), some (.long (y4 - v11)), none, some (.int y6), some (.int y7), u8, u9]) (S' := []) (pc2 := 36) (L2 := [some (.ref a0), some (.int y1), some (.int y2), some (.int y3), some (.long (y4 - v11)), none, some (.int y6), some (.int y7), u8, u9]) (S2 := []) (h' := h) (h2 := h) rfl rfl (fun hc => ?_) (fun hc => ?_)
    · have c13 := hc
      rw [(em16.trans (by rw [if_pos c13]) : m16 = y6)] at hj17
      exact hj17
    · have c13 := hc
      refine k_n 1 (pc' := 37) (L' := [some (.ref a0), some (.int y1), some (.int y2), some (.int y3), some (.long (y4 - v11)), none, some (.int y6), some (.int y7), u8, u9]) (S' := [.ref a0]) (h' := h) rfl ?_
      refine k_gS (b := (a0 + 2)) rfl Ta0 (W.reOf (t := 4) (j := 3) (o := 2) (n := 8) (by decide) Ta0).1 ?_
      refine k_n 1 (pc' := 42) (L' := [some (.ref a0), some (.int y1), some (.int y2), some (.int y3), some (.long (y4 - v11)), none, some (.int y6), some (.int y7), u8, u9]) (S' := [.int y7, .ref (a0 + 2)]) (h' := h) rfl ?_
      refine k_ia (c := 0) (n := 8) rfl (CW.tyOf (t := 4) (t' := 100) W (j := 3) Ta0 (W.reOf (t := 4) (j := 3) (o := 2) (n := 8) (by decide) Ta0).1 (by decide) rfl) (W.reOf (t := 4) (j := 3) (o := 2) (n := 8) (by decide) Ta0).2 (o14 c13) ?_
      refine k_b (g := (z_iv h (a0 + 2) (z_ix y7)) ≤ 0) (pc' := 49) (L' := [some (.ref a0), some (.int y1), some (.int y2), some (.int y3), some (.long (y4 - v11)), none, some (.int y6), some (.int y7), u8, u9]) (S' := []) (pc2 := 46) (L2 := [some (.ref a0), some (.int y1), some (.int y2), some (.int y3), some (.long (y4 - v11)), none, some (.int y6), some (.int y7), u8, u9]) (S2 := []) (h' := h) (h2 := h) rfl rfl (fun hc => ?_) (fun hc => ?_)
      · have c15 := hc
        rw [(em16.trans (by rw [if_neg c13, if_pos c15]) : m16 = y6)] at hj17
        exact hj17
      · have c15 := hc
        refine k_n 1 (pc' := 49) (L' := [some (.ref a0), some (.int y1), some (.int y2), some (.int y3), some (.long (y4 - v11)), none, some (.int (y6 + (1 : Int32))), some (.int y7), u8, u9]) (S' := []) (h' := h) rfl ?_
        rw [(em16.trans (by rw [if_neg c13, if_neg c15]) : m16 = (y6 + (1 : Int32)))] at hj17
        exact hj17
set_option maxRecDepth 20000 in
theorem X_47 (a0 : Nat) (x1 : Int32) (h : zH) (W : CW h) (T0 : z_tg h a0 = 4) {Q : Int32 → zH → Prop} (H : ∃ v1 : Int32, KV z_pI 45 [.ref a0, .int x1] h v1 ∧ (∃ v3 : Option Nat, KV z_pA 44 [.ref a0] h v3 ∧ (∀ b_, v3 = some b_ → z_tg h b_ = 3) ∧ ((v3 = none → KK z_pV 48 [.ref a0, .int x1, .int (0 : Int32), .int (0 : Int32)] h (fun _ h11 => Sh h h11 ∧ KK z_pV 48 [.ref a0, .int x1, .int (1 : Int32), .int (0 : Int32)] h11 (fun _ h13 => Sh h11 h13 ∧ KK z_pV 48 [.ref a0, .int x1, .int (2 : Int32), .int (z_bt (¬ (v1 ≤ 0)))] h13 (fun _ h15 => Sh h13 h15 ∧ KK z_pV 48 [.ref a0, .int x1, .int (3 : Int32), .int (-4 : Int32)] h15 (fun _ h17 => Sh h15 h17 ∧ KK z_pV 48 [.ref a0, .int x1, .int (4 : Int32), .int (z_iv h17 a0 5)] h17 (fun _ h19 => Sh h17 h19 ∧ KK z_pV 48 [.ref a0, .int x1, .int (5 : Int32), .int (z_iv h19 a0 6)] h19 (fun _ h21 => Sh h19 h21 ∧ Q (z_bt (¬ (v1 ≤ 0))) (z_sI h21 a0 7 ((z_iv h21 a0 7) + z_bt (¬ (v1 ≤ 0))))))))))) ∧ (∀ b7, v3 = some b7 → ∃ v25 : Int32, KV z_pI 39 [.ref b7, .int v1, .int (z_iv h a0 5)] h v25 ∧ (∃ v29 : Int32, KV z_pI 40 [.ref b7, .int (if (z_iv h b7 3) < v25 then (z_iv h b7 3) else v25), .int (z_iv h b7 2), .int (z_iv h b7 7)] h v29 ∧ KK z_pV 41 [.ref b7, .int (if (z_iv h b7 3) < v25 then (z_iv h b7 3) else v25), .int v29] h (fun _ h31 => Sh h h31 ∧ KK z_pV 48 [.ref a0, .int x1, .int (0 : Int32), .int (if (z_iv h b7 3) < v25 then (z_iv h b7 3) else v25)] h31 (fun _ h33 => Sh h31 h33 ∧ KK z_pV 48 [.ref a0, .int x1, .int (1 : Int32), .int v29] h33 (fun _ h35 => Sh h33 h35 ∧ KK z_pV 48 [.ref a0, .int x1, .int (2 : Int32), .int (z_bt (¬ (v25 ≤ (z_iv h b7 3))))] h35 (fun _ h37 => Sh h35 h37 ∧ KK z_pV 48 [.ref a0, .int x1, .int (3 : Int32), .int (z_iv h b7 6)] h37 (fun _ h39 => Sh h37 h39 ∧ KK z_pV 48 [.ref a0, .int x1, .int (4 : Int32), .int (z_iv h39 a0 5)] h39 (fun _ h41 => Sh h39 h41 ∧ KK z_pV 48 [.ref a0, .int x1, .int (5 : Int32), .int (z_iv h41 a0 6)] h41 (fun _ h43 => Sh h41 h43 ∧ Q (z_bt (¬ (v25 ≤ (z_iv h b7 3)))) (z_sI h43 a0 7 ((z_iv h43 a0 7) + z_bt (¬ (v25 ≤ (z_iv h b7 3))))))))))))))))) : KK z_pI 47 [.ref a0, .int x1] h Q := by
  refine k_K (L := [some (.ref a0), some (.int x1), none, none, none, none, none, none, none]) rfl ?_
  refine k_n 2 (pc' := 2) (L' := [some (.ref a0), some (.int x1), none, none, none, none, none, none, none]) (S' := [.int x1, .ref a0]) (h' := h) rfl ?_
  refine k_cI 45 2 rfl rfl rfl (A := [.ref a0, .int x1]) rfl rfl (z_rok_ref T0) (rest := []) rfl (z_tyI rfl rfl) ?_
  obtain ⟨v1, k2, H⟩ := H
  refine k_P k2 ?_
  refine k_n 2 (pc' := 7) (L' := [some (.ref a0), some (.int x1), some (.int v1), none, none, none, none, none, none]) (S' := [.ref a0]) (h' := h) rfl ?_
  refine k_cA 44 1 "SavedThird$Engine" rfl rfl rfl (A := [.ref a0]) rfl rfl (z_rok_ref T0) (rest := []) rfl rfl (by decide) ?_
  obtain ⟨v3, k4, tv5, H⟩ := H
  refine k_P k4 ?_
  obtain hb6 | ⟨b7, hb6⟩ := z_opt (v3)
  · have H := H.1 hb6
    refine k_oN hb6 ?_
    refine k_n 2 (pc' := 12) (L' := [some (.ref a0), some (.int x1), some (.int v1), some (.null), none, none, none, none, none]) (S' := [.int v1]) (h' := h) rfl ?_
    have hj10 : KG z_pI 47 20 [some (.ref a0), some (.int x1), some (.int v1), some (.null), none, none, none, none, none] [.int (z_bt (¬ (v1 ≤ 0)))] h Q := by
      refine k_n 13 (pc' := 109) (L' := [some (.ref a0), some (.int x1), some (.int v1), some (.null), some (.int (z_bt (¬ (v1 ≤ 0)))), some (.int (0 : Int32)), some (.int (0 : Int32)), some (.int (-4 : Int32)), none]) (S' := [.int (0 : Int32), .int (0 : Int32), .int x1, .ref a0]) (h' := h) rfl ?_
      refine k_cV 48 4 rfl rfl rfl (A := [.ref a0, .int x1, .int (0 : Int32), .int (0 : Int32)]) rfl rfl (z_rok_ref T0) (rest := []) rfl rfl ?_
      refine H.mono (fun _ h11 H => ?_)
      obtain ⟨E12, H⟩ := H
      refine k_n 4 (pc' := 117) (L' := [some (.ref a0), some (.int x1), some (.int v1), some (.null), some (.int (z_bt (¬ (v1 ≤ 0)))), some (.int (0 : Int32)), some (.int (0 : Int32)), some (.int (-4 : Int32)), none]) (S' := [.int (0 : Int32), .int (1 : Int32), .int x1, .ref a0]) (h' := h11) rfl ?_
      refine k_cV 48 4 rfl rfl rfl (A := [.ref a0, .int x1, .int (1 : Int32), .int (0 : Int32)]) rfl rfl (z_rok_ref (Sh.tg E12 T0)) (rest := []) rfl rfl ?_
      refine H.mono (fun _ h13 H => ?_)
      obtain ⟨E14, H⟩ := H
      refine k_n 4 (pc' := 125) (L' := [some (.ref a0), some (.int x1), some (.int v1), some (.null), some (.int (z_bt (¬ (v1 ≤ 0)))), some (.int (0 : Int32)), some (.int (0 : Int32)), some (.int (-4 : Int32)), none]) (S' := [.int (z_bt (¬ (v1 ≤ 0))), .int (2 : Int32), .int x1, .ref a0]) (h' := h13) rfl ?_
      refine k_cI 145 1 rfl rfl rfl (A := [.int (z_bt (¬ (v1 ≤ 0)))]) rfl rfl rfl (rest := [.int (2 : Int32), .int x1, .ref a0]) rfl (z_tyI rfl rfl) ?_
      refine c_bit (¬ (v1 ≤ 0)) h13 ?_
      refine k_cV 48 4 rfl rfl rfl (A := [.ref a0, .int x1, .int (2 : Int32), .int (z_bt (¬ (v1 ≤ 0)))]) rfl rfl (z_rok_ref (Sh.tg E14 (Sh.tg E12 T0))) (rest := []) rfl rfl ?_
      refine H.mono (fun _ h15 H => ?_)
      obtain ⟨E16, H⟩ := H
      refine k_n 4 (pc' := 136) (L' := [some (.ref a0), some (.int x1), some (.int v1), some (.null), some (.int (z_bt (¬ (v1 ≤ 0)))), some (.int (0 : Int32)), some (.int (0 : Int32)), some (.int (-4 : Int32)), none]) (S' := [.int (-4 : Int32), .int (3 : Int32), .int x1, .ref a0]) (h' := h15) rfl ?_
      refine k_cV 48 4 rfl rfl rfl (A := [.ref a0, .int x1, .int (3 : Int32), .int (-4 : Int32)]) rfl rfl (z_rok_ref (Sh.tg E16 (Sh.tg E14 (Sh.tg E12 T0)))) (rest := []) rfl rfl ?_
      refine H.mono (fun _ h17 H => ?_)
      obtain ⟨E18, H⟩ := H
      refine k_n 4 (pc' := 143) (L' := [some (.ref a0), some (.int x1), some (.int v1), some (.null), some (.int (z_bt (¬ (v1 ≤ 0)))), some (.int (0 : Int32)), some (.int (0 : Int32)), some (.int (-4 : Int32)), none]) (S' := [.ref a0, .int (4 : Int32), .int x1, .ref a0]) (h' := h17) rfl ?_
      refine k_gI rfl rfl (Sh.tg E18 (Sh.tg E16 (Sh.tg E14 (Sh.tg E12 T0)))) ?_
      refine k_cV 48 4 rfl rfl rfl (A := [.ref a0, .int x1, .int (4 : Int32), .int (z_iv h17 a0 5)]) rfl rfl (z_rok_ref (Sh.tg E18 (Sh.tg E16 (Sh.tg E14 (Sh.tg E12 T0))))) (rest := []) rfl rfl ?_
      refine H.mono (fun _ h19 H => ?_)
      obtain ⟨E20, H⟩ := H
      refine k_n 4 (pc' := 153) (L' := [some (.ref a0), some (.int x1), some (.int v1), some (.null), some (.int (z_bt (¬ (v1 ≤ 0)))), some (.int (0 : Int32)), some (.int (0 : Int32)), some (.int (-4 : Int32)), none]) (S' := [.ref a0, .int (5 : Int32), .int x1, .ref a0]) (h' := h19) rfl ?_
      refine k_gI rfl rfl (Sh.tg E20 (Sh.tg E18 (Sh.tg E16 (Sh.tg E14 (Sh.tg E12 T0))))) ?_
      refine k_cV 48 4 rfl rfl rfl (A := [.ref a0, .int x1, .int (5 : Int32), .int (z_iv h19 a0 6)]) rfl rfl (z_rok_ref (Sh.tg E20 (Sh.tg E18 (Sh.tg E16 (Sh.tg E14 (Sh.tg E12 T0)))))) (rest := []) rfl rfl ?_
      refine H.mono (fun _ h21 H => ?_)
      obtain ⟨E22, H⟩ := H
      refine k_n 2 (pc' := 161) (L' := [some (.ref a0), some (.int x1), some (.int v1), some (.null), some (.int (z_bt (¬ (v1 ≤ 0)))), some (.int (0 : Int32)), some (.int (0 : Int32)), some (.int (-4 : Int32)), none]) (S' := [.ref a0, .ref a0]) (h' := h21) rfl ?_
      refine k_gI rfl rfl (Sh.tg E22 (Sh.tg E20 (Sh.tg E18 (Sh.tg E16 (Sh.tg E14 (Sh.tg E12 T0)))))) ?_
      refine k_n 1 (pc' := 166) (L' := [some (.ref a0), some (.int x1), some (.int v1), some (.null), some (.int (z_bt (¬ (v1 ≤ 0)))), some (.int (0 : Int32)), some (.int (0 : Int32)), some (.int (-4 : Int32)), none]) (S' := [.int (z_bt (¬ (v1 ≤ 0))), .int (z_iv h21 a0 7), .ref a0]) (h' := h21) rfl ?_
      refine k_cI 145 1 rfl rfl rfl (A := [.int (z_bt (¬ (v1 ≤ 0)))]) rfl rfl rfl (rest := [.int (z_iv h21 a0 7), .ref a0]) rfl (z_tyI rfl rfl) ?_
      refine c_bit (¬ (v1 ≤ 0)) h21 ?_
      refine k_n 1 (pc' := 170) (L' := [some (.ref a0), some (.int x1), some (.int v1), some (.null), some (.int (z_bt (¬ (v1 ≤ 0)))), some (.int (0 : Int32)), some (.int (0 : Int32)), some (.int (-4 : Int32)), none]) (S' := [.int ((z_iv h21 a0 7) + z_bt (¬ (v1 ≤ 0))), .ref a0]) (h' := h21) rfl ?_
      refine k_pI rfl (Sh.tg E22 (Sh.tg E20 (Sh.tg E18 (Sh.tg E16 (Sh.tg E14 (Sh.tg E12 T0)))))) ?_
      refine k_n 1 (pc' := 175) (L' := [some (.ref a0), some (.int x1), some (.int v1), some (.null), some (.int (z_bt (¬ (v1 ≤ 0)))), some (.int (0 : Int32)), some (.int (0 : Int32)), some (.int (-4 : Int32)), none]) (S' := [.int (z_bt (¬ (v1 ≤ 0)))]) (h' := (z_sI h21 a0 7 ((z_iv h21 a0 7) + z_bt (¬ (v1 ≤ 0))))) rfl ?_
      exact k_r rfl (z_retB z_bt_01) rfl H
    refine k_b (g := v1 ≤ 0) (pc' := 19) (L' := [some (.ref a0), some (.int x1), some (.int v1), some (.null), none, none, none, none, none]) (S' := []) (pc2 := 15) (L2 := [some (.ref a0), some (.int x1), some (.int v1), some (.null), none, none, none, none, none]) (S2 := []) (h' := h) (h2 := h) rfl rfl (fun hc => ?_) (fun hc => ?_)
    · have c9 := hc
      refine k_n 1 (pc' := 20) (L' := [some (.ref a0), some (.int x1), some (.int v1), some (.null), none, none, none, none, none]) (S' := [.int (0 : Int32)]) (h' := h) rfl ?_
      rw [show z_bt (¬ (v1 ≤ 0)) = 0 from z_bt_0.mpr ((fun q => q c9))] at hj10
      exact hj10
    · have c9 := hc
      refine k_n 2 (pc' := 20) (L' := [some (.ref a0), some (.int x1), some (.int v1), some (.null), none, none, none, none, none]) (S' := [.int (1 : Int32)]) (h' := h) rfl ?_
      rw [show z_bt (¬ (v1 ≤ 0)) = 1 from z_bt_1.mpr (c9)] at hj10
      exact hj10
  · have H := H.2 b7 hb6
    have t8 : z_tg h b7 = 3 := tv5 _ hb6
    refine k_oS hb6 ?_
    refine k_n 2 (pc' := 12) (L' := [some (.ref a0), some (.int x1), some (.int v1), some (.ref b7), none, none, none, none, none]) (S' := [.int v1]) (h' := h) rfl ?_
    have hj24 : KG z_pI 47 20 [some (.ref a0), some (.int x1), some (.int v1), some (.ref b7), none, none, none, none, none] [.int (z_bt (¬ (v1 ≤ 0)))] h Q := by
      refine k_n 12 (pc' := 39) (L' := [some (.ref a0), some (.int x1), some (.int v1), some (.ref b7), some (.int (z_bt (¬ (v1 ≤ 0)))), some (.int (0 : Int32)), some (.int (0 : Int32)), some (.int (-4 : Int32)), none]) (S' := [.ref a0, .int v1, .ref b7]) (h' := h) rfl ?_
      refine k_gI rfl rfl T0 ?_
      refine k_cI 39 3 rfl rfl rfl (A := [.ref b7, .int v1, .int (z_iv h a0 5)]) rfl rfl (z_rok_ref t8) (rest := []) rfl (z_tyI rfl rfl) ?_
      obtain ⟨v25, k26, H⟩ := H
      refine k_P k26 ?_
      refine k_n 3 (pc' := 50) (L' := [some (.ref a0), some (.int x1), some (.int v1), some (.ref b7), some (.int (z_bt (¬ (v1 ≤ 0)))), some (.int (0 : Int32)), some (.int (0 : Int32)), some (.int (-4 : Int32)), some (.int v25)]) (S' := [.ref b7, .int v25]) (h' := h) rfl ?_
      refine k_gI rfl rfl t8 ?_
      have hj28 : KG z_pI 47 61 [some (.ref a0), some (.int x1), some (.int v1), some (.ref b7), some (.int (z_bt (¬ (v1 ≤ 0)))), some (.int (0 : Int32)), some (.int (0 : Int32)), some (.int (-4 : Int32)), some (.int v25)] [.int (z_bt (¬ (v25 ≤ (z_iv h b7 3))))] h Q := by
        refine k_n 3 (pc' := 66) (L' := [some (.ref a0), some (.int x1), some (.int v1), some (.ref b7), some (.int (z_bt (¬ (v25 ≤ (z_iv h b7 3))))), some (.int (0 : Int32)), some (.int (0 : Int32)), some (.int (-4 : Int32)), some (.int v25)]) (S' := [.ref b7, .int v25]) (h' := h) rfl ?_
        refine k_gI rfl rfl t8 ?_
        refine k_cI 14 2 rfl rfl rfl (A := [.int v25, .int (z_iv h b7 3)]) rfl rfl rfl (rest := []) rfl (z_tyI rfl rfl) ?_
        refine C_14 v25 (z_iv h b7 3) h    ?_
        refine k_n 4 (pc' := 78) (L' := [some (.ref a0), some (.int x1), some (.int v1), some (.ref b7), some (.int (z_bt (¬ (v25 ≤ (z_iv h b7 3))))), some (.int (if (z_iv h b7 3) < v25 then (z_iv h b7 3) else v25)), some (.int (0 : Int32)), some (.int (-4 : Int32)), some (.int v25)]) (S' := [.ref b7, .int (if (z_iv h b7 3) < v25 then (z_iv h b7 3) else v25), .ref b7]) (h' := h) rfl ?_
        refine k_gI rfl rfl t8 ?_
        refine k_n 1 (pc' := 82) (L' := [some (.ref a0), some (.int x1), some (.int v1), some (.ref b7), some (.int (z_bt (¬ (v25 ≤ (z_iv h b7 3))))), some (.int (if (z_iv h b7 3) < v25 then (z_iv h b7 3) else v25)), some (.int (0 : Int32)), some (.int (-4 : Int32)), some (.int v25)]) (S' := [.ref b7, .int (z_iv h b7 2), .int (if (z_iv h b7 3) < v25 then (z_iv h b7 3) else v25), .ref b7]) (h' := h) rfl ?_
        refine k_gI rfl rfl t8 ?_
        refine k_cI 40 4 rfl rfl rfl (A := [.ref b7, .int (if (z_iv h b7 3) < v25 then (z_iv h b7 3) else v25), .int (z_iv h b7 2), .int (z_iv h b7 7)]) rfl rfl (z_rok_ref t8) (rest := []) rfl (z_tyI rfl rfl) ?_
        obtain ⟨v29, k30, H⟩ := H
        refine k_P k30 ?_
        refine k_n 2 (pc' := 91) (L' := [some (.ref a0), some (.int x1), some (.int v1), some (.ref b7), some (.int (z_bt (¬ (v25 ≤ (z_iv h b7 3))))), some (.int (if (z_iv h b7 3) < v25 then (z_iv h b7 3) else v25)), some (.int v29), some (.int (-4 : Int32)), some (.int v25)]) (S' := [.ref b7]) (h' := h) rfl ?_
        refine k_gI rfl rfl t8 ?_
        refine k_n 4 (pc' := 101) (L' := [some (.ref a0), some (.int x1), some (.int v1), some (.ref b7), some (.int (z_bt (¬ (v25 ≤ (z_iv h b7 3))))), some (.int (if (z_iv h b7 3) < v25 then (z_iv h b7 3) else v25)), some (.int v29), some (.int (z_iv h b7 6)), some (.int v25)]) (S' := [.int v29, .int (if (z_iv h b7 3) < v25 then (z_iv h b7 3) else v25), .ref b7]) (h' := h) rfl ?_
        refine k_cV 41 3 rfl rfl rfl (A := [.ref b7, .int (if (z_iv h b7 3) < v25 then (z_iv h b7 3) else v25), .int v29]) rfl rfl (z_rok_ref t8) (rest := []) rfl rfl ?_
        refine H.mono (fun _ h31 H => ?_)
        obtain ⟨E32, H⟩ := H
        refine k_n 4 (pc' := 109) (L' := [some (.ref a0), some (.int x1), some (.int v1), some (.ref b7), some (.int (z_bt (¬ (v25 ≤ (z_iv h b7 3))))), some (.int (if (z_iv h b7 3) < v25 then (z_iv h b7 3) else v25)), some (.int v29), some (.int (z_iv h b7 6)), some (.int v25)]) (S' := [.int (if (z_iv h b7 3) < v25 then (z_iv h b7 3) else v25), .int (0 : Int32), .int x1, .ref a0]) (h' := h31) rfl ?_
        refine k_cV 48 4 rfl rfl rfl (A := [.ref a0, .int x1, .int (0 : Int32), .int (if (z_iv h b7 3) < v25 then (z_iv h b7 3) else v25)]) rfl rfl (z_rok_ref (Sh.tg E32 T0)) (rest := []) rfl rfl ?_
        refine H.mono (fun _ h33 H => ?_)
        obtain ⟨E34, H⟩ := H
        refine k_n 4 (pc' := 117) (L' := [some (.ref a0), some (.int x1), some (.int v1), some (.ref b7), some (.int (z_bt (¬ (v25 ≤ (z_iv h b7 3))))), some (.int (if (z_iv h b7 3) < v25 then (z_iv h b7 3) else v25)), some (.int v29), some (.int (z_iv h b7 6)), some (.int v25)]) (S' := [.int v29, .int (1 : Int32), .int x1, .ref a0]) (h' := h33) rfl ?_
        refine k_cV 48 4 rfl rfl rfl (A := [.ref a0, .int x1, .int (1 : Int32), .int v29]) rfl rfl (z_rok_ref (Sh.tg E34 (Sh.tg E32 T0))) (rest := []) rfl rfl ?_
        refine H.mono (fun _ h35 H => ?_)
        obtain ⟨E36, H⟩ := H
        refine k_n 4 (pc' := 125) (L' := [some (.ref a0), some (.int x1), some (.int v1), some (.ref b7), some (.int (z_bt (¬ (v25 ≤ (z_iv h b7 3))))), some (.int (if (z_iv h b7 3) < v25 then (z_iv h b7 3) else v25)), some (.int v29), some (.int (z_iv h b7 6)), some (.int v25)]) (S' := [.int (z_bt (¬ (v25 ≤ (z_iv h b7 3)))), .int (2 : Int32), .int x1, .ref a0]) (h' := h35) rfl ?_
        refine k_cI 145 1 rfl rfl rfl (A := [.int (z_bt (¬ (v25 ≤ (z_iv h b7 3))))]) rfl rfl rfl (rest := [.int (2 : Int32), .int x1, .ref a0]) rfl (z_tyI rfl rfl) ?_
        refine c_bit (¬ (v25 ≤ (z_iv h b7 3))) h35 ?_
        refine k_cV 48 4 rfl rfl rfl (A := [.ref a0, .int x1, .int (2 : Int32), .int (z_bt (¬ (v25 ≤ (z_iv h b7 3))))]) rfl rfl (z_rok_ref (Sh.tg E36 (Sh.tg E34 (Sh.tg E32 T0)))) (rest := []) rfl rfl ?_
        refine H.mono (fun _ h37 H => ?_)
        obtain ⟨E38, H⟩ := H
        refine k_n 4 (pc' := 136) (L' := [some (.ref a0), some (.int x1), some (.int v1), some (.ref b7), some (.int (z_bt (¬ (v25 ≤ (z_iv h b7 3))))), some (.int (if (z_iv h b7 3) < v25 then (z_iv h b7 3) else v25)), some (.int v29), some (.int (z_iv h b7 6)), some (.int v25)]) (S' := [.int (z_iv h b7 6), .int (3 : Int32), .int x1, .ref a0]) (h' := h37) rfl ?_
        refine k_cV 48 4 rfl rfl rfl (A := [.ref a0, .int x1, .int (3 : Int32), .int (z_iv h b7 6)]) rfl rfl (z_rok_ref (Sh.tg E38 (Sh.tg E36 (Sh.tg E34 (Sh.tg E32 T0))))) (rest := []) rfl rfl ?_
        refine H.mono (fun _ h39 H => ?_)
        obtain ⟨E40, H⟩ := H
        refine k_n 4 (pc' := 143) (L' := [some (.ref a0), some (.int x1), some (.int v1), some (.ref b7), some (.int (z_bt (¬ (v25 ≤ (z_iv h b7 3))))), some (.int (if (z_iv h b7 3) < v25 then (z_iv h b7 3) else v25)), some (.int v29), some (.int (z_iv h b7 6)), some (.int v25)]) (S' := [.ref a0, .int (4 : Int32), .int x1, .ref a0]) (h' := h39) rfl ?_
        refine k_gI rfl rfl (Sh.tg E40 (Sh.tg E38 (Sh.tg E36 (Sh.tg E34 (Sh.tg E32 T0))))) ?_
        refine k_cV 48 4 rfl rfl rfl (A := [.ref a0, .int x1, .int (4 : Int32), .int (z_iv h39 a0 5)]) rfl rfl (z_rok_ref (Sh.tg E40 (Sh.tg E38 (Sh.tg E36 (Sh.tg E34 (Sh.tg E32 T0)))))) (rest := []) rfl rfl ?_
        refine H.mono (fun _ h41 H => ?_)
        obtain ⟨E42, H⟩ := H
        refine k_n 4 (pc' := 153) (L' := [some (.ref a0), some (.int x1), some (.int v1), some (.ref b7), some (.int (z_bt (¬ (v25 ≤ (z_iv h b7 3))))), some (.int (if (z_iv h b7 3) < v25 then (z_iv h b7 3) else v25)), some (.int v29), some (.int (z_iv h b7 6)), some (.int v25)]) (S' := [.ref a0, .int (5 : Int32), .int x1, .ref a0]) (h' := h41) rfl ?_
        refine k_gI rfl rfl (Sh.tg E42 (Sh.tg E40 (Sh.tg E38 (Sh.tg E36 (Sh.tg E34 (Sh.tg E32 T0)))))) ?_
        refine k_cV 48 4 rfl rfl rfl (A := [.ref a0, .int x1, .int (5 : Int32), .int (z_iv h41 a0 6)]) rfl rfl (z_rok_ref (Sh.tg E42 (Sh.tg E40 (Sh.tg E38 (Sh.tg E36 (Sh.tg E34 (Sh.tg E32 T0))))))) (rest := []) rfl rfl ?_
        refine H.mono (fun _ h43 H => ?_)
        obtain ⟨E44, H⟩ := H
        refine k_n 2 (pc' := 161) (L' := [some (.ref a0), some (.int x1), some (.int v1), some (.ref b7), some (.int (z_bt (¬ (v25 ≤ (z_iv h b7 3))))), some (.int (if (z_iv h b7 3) < v25 then (z_iv h b7 3) else v25)), some (.int v29), some (.int (z_iv h b7 6)), some (.int v25)]) (S' := [.ref a0, .ref a0]) (h' := h43) rfl ?_
        refine k_gI rfl rfl (Sh.tg E44 (Sh.tg E42 (Sh.tg E40 (Sh.tg E38 (Sh.tg E36 (Sh.tg E34 (Sh.tg E32 T0))))))) ?_
        refine k_n 1 (pc' := 166) (L' := [some (.ref a0), some (.int x1), some (.int v1), some (.ref b7), some (.int (z_bt (¬ (v25 ≤ (z_iv h b7 3))))), some (.int (if (z_iv h b7 3) < v25 then (z_iv h b7 3) else v25)), some (.int v29), some (.int (z_iv h b7 6)), some (.int v25)]) (S' := [.int (z_bt (¬ (v25 ≤ (z_iv h b7 3)))), .int (z_iv h43 a0 7), .ref a0]) (h' := h43) rfl ?_
        refine k_cI 145 1 rfl rfl rfl (A := [.int (z_bt (¬ (v25 ≤ (z_iv h b7 3))))]) rfl rfl rfl (rest := [.int (z_iv h43 a0 7), .ref a0]) rfl (z_tyI rfl rfl) ?_
        refine c_bit (¬ (v25 ≤ (z_iv h b7 3))) h43 ?_
        refine k_n 1 (pc' := 170) (L' := [some (.ref a0), some (.int x1), some (.int v1), some (.ref b7), some (.int (z_bt (¬ (v25 ≤ (z_iv h b7 3))))), some (.int (if (z_iv h b7 3) < v25 then (z_iv h b7 3) else v25)), some (.int v29), some (.int (z_iv h b7 6)), some (.int v25)]) (S' := [.int ((z_iv h43 a0 7) + z_bt (¬ (v25 ≤ (z_iv h b7 3)))), .ref a0]) (h' := h43) rfl ?_
        refine k_pI rfl (Sh.tg E44 (Sh.tg E42 (Sh.tg E40 (Sh.tg E38 (Sh.tg E36 (Sh.tg E34 (Sh.tg E32 T0))))))) ?_
        refine k_n 1 (pc' := 175) (L' := [some (.ref a0), some (.int x1), some (.int v1), some (.ref b7), some (.int (z_bt (¬ (v25 ≤ (z_iv h b7 3))))), some (.int (if (z_iv h b7 3) < v25 then (z_iv h b7 3) else v25)), some (.int v29), some (.int (z_iv h b7 6)), some (.int v25)]) (S' := [.int (z_bt (¬ (v25 ≤ (z_iv h b7 3))))]) (h' := (z_sI h43 a0 7 ((z_iv h43 a0 7) + z_bt (¬ (v25 ≤ (z_iv h b7 3)))))) rfl ?_
        exact k_r rfl (z_retB z_bt_01) rfl H
      refine k_b (g := v25 ≤ (z_iv h b7 3)) (pc' := 60) (L' := [some (.ref a0), some (.int x1), some (.int v1), some (.ref b7), some (.int (z_bt (¬ (v1 ≤ 0)))), some (.int (0 : Int32)), some (.int (0 : Int32)), some (.int (-4 : Int32)), some (.int v25)]) (S' := []) (pc2 := 56) (L2 := [some (.ref a0), some (.int x1), some (.int v1), some (.ref b7), some (.int (z_bt (¬ (v1 ≤ 0)))), some (.int (0 : Int32)), some (.int (0 : Int32)), some (.int (-4 : Int32)), some (.int v25)]) (S2 := []) (h' := h) (h2 := h) rfl rfl (fun hc => ?_) (fun hc => ?_)
      · have c27 := hc
        refine k_n 1 (pc' := 61) (L' := [some (.ref a0), some (.int x1), some (.int v1), some (.ref b7), some (.int (z_bt (¬ (v1 ≤ 0)))), some (.int (0 : Int32)), some (.int (0 : Int32)), some (.int (-4 : Int32)), some (.int v25)]) (S' := [.int (0 : Int32)]) (h' := h) rfl ?_
        rw [show z_bt (¬ (v25 ≤ (z_iv h b7 3))) = 0 from z_bt_0.mpr ((fun q => q c27))] at hj28
        exact hj28
      · have c27 := hc
        refine k_n 2 (pc' := 61) (L' := [some (.ref a0), some (.int x1), some (.int v1), some (.ref b7), some (.int (z_bt (¬ (v1 ≤ 0)))), some (.int (0 : Int32)), some (.int (0 : Int32)), some (.int (-4 : Int32)), some (.int v25)]) (S' := [.int (1 : Int32)]) (h' := h) rfl ?_
        rw [show z_bt (¬ (v25 ≤ (z_iv h b7 3))) = 1 from z_bt_1.mpr (c27)] at hj28
        exact hj28
    refine k_b (g := v1 ≤ 0) (pc' := 19) (L' := [some (.ref a0), some (.int x1), some (.int v1), some (.ref b7), none, none, none, none, none]) (S' := []) (pc2 := 15) (L2 := [some (.ref a0), some (.int x1), some (.int v1), some (.ref b7), none, none, none, none, none]) (S2 := []) (h' := h) (h2 := h) rfl rfl (fun hc => ?_) (fun hc => ?_)
    · have c23 := hc
      refine k_n 1 (pc' := 20) (L' := [some (.ref a0), some (.int x1), some (.int v1), some (.ref b7), none, none, none, none, none]) (S' := [.int (0 : Int32)]) (h' := h) rfl ?_
      rw [show z_bt (¬ (v1 ≤ 0)) = 0 from z_bt_0.mpr ((fun q => q c23))] at hj24
      exact hj24
    · have c23 := hc
      refine k_n 2 (pc' := 20) (L' := [some (.ref a0), some (.int x1), some (.int v1), some (.ref b7), none, none, none, none, none]) (S' := [.int (1 : Int32)]) (h' := h) rfl ?_
      rw [show z_bt (¬ (v1 ≤ 0)) = 1 from z_bt_1.mpr (c23)] at hj24
      exact hj24
set_option maxRecDepth 20000 in
theorem X_55 (a0 : Nat) (x1 : Int32) (x2 : Nat) (h : zH) (W : CW h) (T0 : z_tg h a0 = 5) (T2 : z_tg h x2 = 1) {Q : Int32 → zH → Prop} (H : (z_rv h a0 0 = none → False) ∧ (∀ b2, z_rv h a0 0 = some b2 → if (z_iv h b2 0) = (1 : Int32) then ((z_rv h a0 1 = none → Q (0 : Int32) h) ∧ (∀ b5, z_rv h a0 1 = some b5 → if 0 < (z_iv h a0 4) then (∃ v7 : Int32, KV z_pI 23 [.ref x2, .int (z_iv h b2 5), .int (z_iv h a0 2)] h v7 ∧ (if v7 = (-4 : Int32) then (∃ v9 : Int32, KV z_pI 22 [.ref x2, .int (z_iv h b2 5), .int (z_iv h a0 2)] h v9 ∧ (if v9 = (-4 : Int32) then (Q (0 : Int32) h) else (∃ v11 : Int32, KV z_pI 97 [.ref b5, .int x1, .int (z_iv h b2 1), .int (z_iv h a0 7), .int (z_iv h a0 8), .int v9] h v11 ∧ Q v11 h))) else (Q (v7 * (z_iv h a0 4)) h))) else (Q (0 : Int32) h))) else (Q (0 : Int32) h))) : KK z_pI 55 [.ref a0, .int x1, .ref x2] h Q := by
  refine k_K (L := [some (.ref a0), some (.int x1), some (.ref x2), none, none]) rfl ?_
  refine k_n 1 (pc' := 1) (L' := [some (.ref a0), some (.int x1), some (.ref x2), none, none]) (S' := [.ref a0]) (h' := h) rfl ?_
  obtain hb1 | ⟨b2, hb1⟩ := z_opt (z_rv h a0 0)
  · have H := H.1 hb1
    refine k_gN rfl T0 hb1 ?_
    exact H.elim
  · have H := H.2 b2 hb1
    have t3 : z_tg h b2 = 3 := (CW.tyOf (t := 5) (t' := 3) W T0 hb1 (by decide) rfl)
    refine k_gS rfl T0 hb1 ?_
    refine k_gI rfl rfl t3 ?_
    refine k_n 1 (pc' := 8) (L' := [some (.ref a0), some (.int x1), some (.ref x2), none, none]) (S' := [.int (1 : Int32), .int (z_iv h b2 0)]) (h' := h) rfl ?_
    refine k_b (g := (z_iv h b2 0) = (1 : Int32)) (pc' := 11) (L' := [some (.ref a0), some (.int x1), some (.ref x2), none, none]) (S' := []) (pc2 := 25) (L2 := [some (.ref a0), some (.int x1), some (.ref x2), none, none]) (S2 := []) (h' := h) (h2 := h) rfl rfl (fun hc => ?_) (fun hc => ?_)
    · have hc := hc
      rw [if_pos hc] at H
      refine k_n 1 (pc' := 12) (L' := [some (.ref a0), some (.int x1), some (.ref x2), none, none]) (S' := [.ref a0]) (h' := h) rfl ?_
      obtain hb4 | ⟨b5, hb4⟩ := z_opt (z_rv h a0 1)
      · have H := H.1 hb4
        refine k_gN rfl T0 hb4 ?_
        refine k_n 2 (pc' := 26) (L' := [some (.ref a0), some (.int x1), some (.ref x2), none, none]) (S' := [.int (0 : Int32)]) (h' := h) rfl ?_
        exact k_r rfl rfl rfl H
      · have H := H.2 b5 hb4
        have t6 : z_tg h b5 = 10 := (CW.tyOf (t := 5) (t' := 10) W T0 hb4 (by decide) rfl)
        refine k_gS rfl T0 hb4 ?_
        refine k_n 2 (pc' := 19) (L' := [some (.ref a0), some (.int x1), some (.ref x2), none, none]) (S' := [.ref a0]) (h' := h) rfl ?_
        refine k_gI rfl rfl T0 ?_
        refine k_b (g := 0 < (z_iv h a0 4)) (pc' := 27) (L' := [some (.ref a0), some (.int x1), some (.ref x2), none, none]) (S' := []) (pc2 := 25) (L2 := [some (.ref a0), some (.int x1), some (.ref x2), none, none]) (S2 := []) (h' := h) (h2 := h) rfl rfl (fun hc => ?_) (fun hc => ?_)
        · have hc := hc
          rw [if_pos hc] at H
          refine k_n 2 (pc' := 29) (L' := [some (.ref a0), some (.int x1), some (.ref x2), none, none]) (S' := [.ref a0, .ref x2]) (h' := h) rfl ?_
          refine k_gS rfl T0 hb1 ?_
          refine k_gI rfl rfl t3 ?_
          refine k_n 1 (pc' := 36) (L' := [some (.ref a0), some (.int x1), some (.ref x2), none, none]) (S' := [.ref a0, .int (z_iv h b2 5), .ref x2]) (h' := h) rfl ?_
          refine k_gI rfl rfl T0 ?_
          refine k_cI 23 3 rfl rfl rfl (A := [.ref x2, .int (z_iv h b2 5), .int (z_iv h a0 2)]) rfl rfl (z_rok_ref T2) (rest := []) rfl (z_tyI rfl rfl) ?_
          obtain ⟨v7, k8, H⟩ := H
          refine k_P k8 ?_
          refine k_n 3 (pc' := 46) (L' := [some (.ref a0), some (.int x1), some (.ref x2), some (.int v7), none]) (S' := [.int (-4 : Int32), .int v7]) (h' := h) rfl ?_
          refine k_b (g := v7 = (-4 : Int32)) (pc' := 56) (L' := [some (.ref a0), some (.int x1), some (.ref x2), some (.int v7), none]) (S' := []) (pc2 := 49) (L2 := [some (.ref a0), some (.int x1), some (.ref x2), some (.int v7), none]) (S2 := []) (h' := h) (h2 := h) rfl rfl (fun hc => ?_) (fun hc => ?_)
          · have hc := hc
            rw [if_pos hc] at H
            refine k_n 2 (pc' := 58) (L' := [some (.ref a0), some (.int x1), some (.ref x2), some (.int v7), none]) (S' := [.ref a0, .ref x2]) (h' := h) rfl ?_
            refine k_gS rfl T0 hb1 ?_
            refine k_gI rfl rfl t3 ?_
            refine k_n 1 (pc' := 65) (L' := [some (.ref a0), some (.int x1), some (.ref x2), some (.int v7), none]) (S' := [.ref a0, .int (z_iv h b2 5), .ref x2]) (h' := h) rfl ?_
            refine k_gI rfl rfl T0 ?_
            refine k_cI 22 3 rfl rfl rfl (A := [.ref x2, .int (z_iv h b2 5), .int (z_iv h a0 2)]) rfl rfl (z_rok_ref T2) (rest := []) rfl (z_tyI rfl rfl) ?_
            obtain ⟨v9, k10, H⟩ := H
            refine k_P k10 ?_
            refine k_n 3 (pc' := 77) (L' := [some (.ref a0), some (.int x1), some (.ref x2), some (.int v7), some (.int v9)]) (S' := [.int (-4 : Int32), .int v9]) (h' := h) rfl ?_
            refine k_b (g := v9 = (-4 : Int32)) (pc' := 80) (L' := [some (.ref a0), some (.int x1), some (.ref x2), some (.int v7), some (.int v9)]) (S' := []) (pc2 := 82) (L2 := [some (.ref a0), some (.int x1), some (.ref x2), some (.int v7), some (.int v9)]) (S2 := []) (h' := h) (h2 := h) rfl rfl (fun hc => ?_) (fun hc => ?_)
            · have hc := hc
              rw [if_pos hc] at H
              refine k_n 1 (pc' := 81) (L' := [some (.ref a0), some (.int x1), some (.ref x2), some (.int v7), some (.int v9)]) (S' := [.int (0 : Int32)]) (h' := h) rfl ?_
              exact k_r rfl rfl rfl H
            · have hc := hc
              rw [if_neg hc] at H
              refine k_n 1 (pc' := 83) (L' := [some (.ref a0), some (.int x1), some (.ref x2), some (.int v7), some (.int v9)]) (S' := [.ref a0]) (h' := h) rfl ?_
              refine k_gS rfl T0 hb4 ?_
              refine k_n 2 (pc' := 88) (L' := [some (.ref a0), some (.int x1), some (.ref x2), some (.int v7), some (.int v9)]) (S' := [.ref a0, .int x1, .ref b5]) (h' := h) rfl ?_
              refine k_gS rfl T0 hb1 ?_
              refine k_gI rfl rfl t3 ?_
              refine k_n 1 (pc' := 95) (L' := [some (.ref a0), some (.int x1), some (.ref x2), some (.int v7), some (.int v9)]) (S' := [.ref a0, .int (z_iv h b2 1), .int x1, .ref b5]) (h' := h) rfl ?_
              refine k_gI rfl rfl T0 ?_
              refine k_n 1 (pc' := 99) (L' := [some (.ref a0), some (.int x1), some (.ref x2), some (.int v7), some (.int v9)]) (S' := [.ref a0, .int (z_iv h a0 7), .int (z_iv h b2 1), .int x1, .ref b5]) (h' := h) rfl ?_
              refine k_gI rfl rfl T0 ?_
              refine k_n 1 (pc' := 104) (L' := [some (.ref a0), some (.int x1), some (.ref x2), some (.int v7), some (.int v9)]) (S' := [.int v9, .int (z_iv h a0 8), .int (z_iv h a0 7), .int (z_iv h b2 1), .int x1, .ref b5]) (h' := h) rfl ?_
              refine k_cI 97 6 rfl rfl rfl (A := [.ref b5, .int x1, .int (z_iv h b2 1), .int (z_iv h a0 7), .int (z_iv h a0 8), .int v9]) rfl rfl (z_rok_ref t6) (rest := []) rfl (z_tyI rfl rfl) ?_
              obtain ⟨v11, k12, H⟩ := H
              refine k_P k12 ?_
              exact k_r rfl rfl rfl H
          · have hc := hc
            rw [if_neg hc] at H
            refine k_n 2 (pc' := 51) (L' := [some (.ref a0), some (.int x1), some (.ref x2), some (.int v7), none]) (S' := [.ref a0, .int v7]) (h' := h) rfl ?_
            refine k_gI rfl rfl T0 ?_
            refine k_n 1 (pc' := 55) (L' := [some (.ref a0), some (.int x1), some (.ref x2), some (.int v7), none]) (S' := [.int (v7 * (z_iv h a0 4))]) (h' := h) rfl ?_
            exact k_r rfl rfl rfl H
        · have hc := hc
          rw [if_neg hc] at H
          refine k_n 1 (pc' := 26) (L' := [some (.ref a0), some (.int x1), some (.ref x2), none, none]) (S' := [.int (0 : Int32)]) (h' := h) rfl ?_
          exact k_r rfl rfl rfl H
    · have hc := hc
      rw [if_neg hc] at H
      refine k_n 1 (pc' := 26) (L' := [some (.ref a0), some (.int x1), some (.ref x2), none, none]) (S' := [.int (0 : Int32)]) (h' := h) rfl ?_
      exact k_r rfl rfl rfl H
set_option maxRecDepth 20000 in
theorem X_56 (a0 : Nat) (x1 : Nat) (h : zH) (W : CW h) (T0 : z_tg h a0 = 5) (T1 : z_tg h x1 = 1) {Q : Int32 → zH → Prop} (H : (z_rv h a0 1 = none → Q (0 : Int32) h) ∧ (∀ b2, z_rv h a0 1 = some b2 → (z_rv h a0 0 = none → False) ∧ (∀ b5, z_rv h a0 0 = some b5 → ∃ v7 : Int32, KV z_pI 25 [.ref x1, .int (z_iv h b5 5), .int (z_iv h a0 2)] h v7 ∧ Q (z_bt (¬ ((if 0 ≤ ((z_iv h a0 9) - (z_iv h b2 3)) then ((z_iv h a0 9) - (z_iv h b2 3)) else (-((z_iv h a0 9) - (z_iv h b2 3)))) < v7))) h))) : KK z_pI 56 [.ref a0, .ref x1] h Q := by
  refine k_K (L := [some (.ref a0), some (.ref x1)]) rfl ?_
  refine k_n 1 (pc' := 1) (L' := [some (.ref a0), some (.ref x1)]) (S' := [.ref a0]) (h' := h) rfl ?_
  obtain hb1 | ⟨b2, hb1⟩ := z_opt (z_rv h a0 1)
  · have H := H.1 hb1
    refine k_gN rfl T0 hb1 ?_
    refine k_n 2 (pc' := 45) (L' := [some (.ref a0), some (.ref x1)]) (S' := [.int (0 : Int32)]) (h' := h) rfl ?_
    exact k_r rfl rfl rfl H
  · have H := H.2 b2 hb1
    have t3 : z_tg h b2 = 10 := (CW.tyOf (t := 5) (t' := 10) W T0 hb1 (by decide) rfl)
    refine k_gS rfl T0 hb1 ?_
    refine k_n 2 (pc' := 8) (L' := [some (.ref a0), some (.ref x1)]) (S' := [.ref a0]) (h' := h) rfl ?_
    refine k_gI rfl rfl T0 ?_
    refine k_n 1 (pc' := 12) (L' := [some (.ref a0), some (.ref x1)]) (S' := [.ref a0, .int (z_iv h a0 9)]) (h' := h) rfl ?_
    refine k_gS rfl T0 hb1 ?_
    refine k_gI rfl rfl t3 ?_
    refine k_n 1 (pc' := 19) (L' := [some (.ref a0), some (.ref x1)]) (S' := [.int ((z_iv h a0 9) - (z_iv h b2 3))]) (h' := h) rfl ?_
    refine k_cI 11 1 rfl rfl rfl (A := [.int ((z_iv h a0 9) - (z_iv h b2 3))]) rfl rfl rfl (rest := []) rfl (z_tyI rfl rfl) ?_
    refine C_11 ((z_iv h a0 9) - (z_iv h b2 3)) h    ?_
    refine k_n 2 (pc' := 24) (L' := [some (.ref a0), some (.ref x1)]) (S' := [.ref a0, .ref x1, .int (if 0 ≤ ((z_iv h a0 9) - (z_iv h b2 3)) then ((z_iv h a0 9) - (z_iv h b2 3)) else (-((z_iv h a0 9) - (z_iv h b2 3))))]) (h' := h) rfl ?_
    obtain hb4 | ⟨b5, hb4⟩ := z_opt (z_rv h a0 0)
    · have H := H.1 hb4
      refine k_gN rfl T0 hb4 ?_
      exact H.elim
    · have H := H.2 b5 hb4
      have t6 : z_tg h b5 = 3 := (CW.tyOf (t := 5) (t' := 3) W T0 hb4 (by decide) rfl)
      refine k_gS rfl T0 hb4 ?_
      refine k_gI rfl rfl t6 ?_
      refine k_n 1 (pc' := 31) (L' := [some (.ref a0), some (.ref x1)]) (S' := [.ref a0, .int (z_iv h b5 5), .ref x1, .int (if 0 ≤ ((z_iv h a0 9) - (z_iv h b2 3)) then ((z_iv h a0 9) - (z_iv h b2 3)) else (-((z_iv h a0 9) - (z_iv h b2 3))))]) (h' := h) rfl ?_
      refine k_gI rfl rfl T0 ?_
      refine k_cI 25 3 rfl rfl rfl (A := [.ref x1, .int (z_iv h b5 5), .int (z_iv h a0 2)]) rfl rfl (z_rok_ref T1) (rest := [.int (if 0 ≤ ((z_iv h a0 9) - (z_iv h b2 3)) then ((z_iv h a0 9) - (z_iv h b2 3)) else (-((z_iv h a0 9) - (z_iv h b2 3))))]) rfl (z_tyI rfl rfl) ?_
      obtain ⟨v7, k8, H⟩ := H
      refine k_P k8 ?_
      have hj10 : KG z_pI 56 45 [some (.ref a0), some (.ref x1)] [.int (z_bt (¬ ((if 0 ≤ ((z_iv h a0 9) - (z_iv h b2 3)) then ((z_iv h a0 9) - (z_iv h b2 3)) else (-((z_iv h a0 9) - (z_iv h b2 3)))) < v7)))] h Q := by
        exact k_r rfl (z_retB z_bt_01) rfl H
      refine k_b (g := (if 0 ≤ ((z_iv h a0 9) - (z_iv h b2 3)) then ((z_iv h a0 9) - (z_iv h b2 3)) else (-((z_iv h a0 9) - (z_iv h b2 3)))) < v7) (pc' := 44) (L' := [some (.ref a0), some (.ref x1)]) (S' := []) (pc2 := 40) (L2 := [some (.ref a0), some (.ref x1)]) (S2 := []) (h' := h) (h2 := h) rfl rfl (fun hc => ?_) (fun hc => ?_)
      · have c9 := hc
        refine k_n 1 (pc' := 45) (L' := [some (.ref a0), some (.ref x1)]) (S' := [.int (0 : Int32)]) (h' := h) rfl ?_
        rw [show z_bt (¬ ((if 0 ≤ ((z_iv h a0 9) - (z_iv h b2 3)) then ((z_iv h a0 9) - (z_iv h b2 3)) else (-((z_iv h a0 9) - (z_iv h b2 3)))) < v7)) = 0 from z_bt_0.mpr ((fun q => q c9))] at hj10
        exact hj10
      · have c9 := hc
        refine k_n 2 (pc' := 45) (L' := [some (.ref a0), some (.ref x1)]) (S' := [.int (1 : Int32)]) (h' := h) rfl ?_
        rw [show z_bt (¬ ((if 0 ≤ ((z_iv h a0 9) - (z_iv h b2 3)) then ((z_iv h a0 9) - (z_iv h b2 3)) else (-((z_iv h a0 9) - (z_iv h b2 3)))) < v7)) = 1 from z_bt_1.mpr (c9)] at hj10
        exact hj10
set_option maxRecDepth 20000 in
theorem X_92 (a0 : Nat) (x1 : Int64) (h : zH) (W : CW h) (T0 : z_tg h a0 = 9) {Q : Int32 → zH → Prop} (H : if (z_iv h a0 1) < 0 then (Q (0 : Int32) h) else (if ((z_iv h a0 1) + (8 : Int32)) ≤ (200 : Int32) then (KG z_pI 92 24 [some (.ref a0), some (.long x1), none, some (.int (0 : Int32))] [] h Q) else (Q (0 : Int32) h))) : KK z_pI 92 [.ref a0, .long x1] h Q := by
  refine k_K (L := [some (.ref a0), some (.long x1), none, none]) rfl ?_
  refine k_n 1 (pc' := 1) (L' := [some (.ref a0), some (.long x1), none, none]) (S' := [.ref a0]) (h' := h) rfl ?_
  refine k_gI rfl rfl T0 ?_
  refine k_b (g := (z_iv h a0 1) < 0) (pc' := 20) (L' := [some (.ref a0), some (.long x1), none, none]) (S' := []) (pc2 := 7) (L2 := [some (.ref a0), some (.long x1), none, none]) (S2 := []) (h' := h) (h2 := h) rfl rfl (fun hc => ?_) (fun hc => ?_)
  · have hc := hc
    rw [if_pos hc] at H
    refine k_n 1 (pc' := 21) (L' := [some (.ref a0), some (.long x1), none, none]) (S' := [.int (0 : Int32)]) (h' := h) rfl ?_
    exact k_r rfl rfl rfl H
  · have hc := hc
    rw [if_neg hc] at H
    refine k_n 1 (pc' := 8) (L' := [some (.ref a0), some (.long x1), none, none]) (S' := [.ref a0]) (h' := h) rfl ?_
    refine k_gI rfl rfl T0 ?_
    refine k_n 3 (pc' := 17) (L' := [some (.ref a0), some (.long x1), none, none]) (S' := [.int (200 : Int32), .int ((z_iv h a0 1) + (8 : Int32))]) (h' := h) rfl ?_
    refine k_b (g := ((z_iv h a0 1) + (8 : Int32)) ≤ (200 : Int32)) (pc' := 22) (L' := [some (.ref a0), some (.long x1), none, none]) (S' := []) (pc2 := 20) (L2 := [some (.ref a0), some (.long x1), none, none]) (S2 := []) (h' := h) (h2 := h) rfl rfl (fun hc => ?_) (fun hc => ?_)
    · have hc := hc
      rw [if_pos hc] at H
      refine k_n 2 (pc' := 24) (L' := [some (.ref a0), some (.long x1), none, some (.int (0 : Int32))]) (S' := []) (h' := h) rfl ?_
      exact H
    · have hc := hc
      rw [if_neg hc] at H
      refine k_n 1 (pc' := 21) (L' := [some (.ref a0), some (.long x1), none, none]) (S' := [.int (0 : Int32)]) (h' := h) rfl ?_
      exact k_r rfl rfl rfl H
set_option maxRecDepth 20000 in
theorem X_92_24 (a0 : Nat) (y1 : Int64) (y3 : Int32) (h : zH) (W : CW h) (Ta0 : z_tg h a0 = 9) {Q : Int32 → zH → Prop} (H : if (8 : Int32) ≤ y3 then (Q (1 : Int32) (z_sI h a0 1 ((z_iv h a0 1) + (8 : Int32)))) else ((0 ≤ ((z_iv h a0 1) + y3).toInt ∧ ((z_iv h a0 1) + y3).toInt < 200) ∧ KG z_pI 92 24 [some (.ref a0), some (.long y1), none, some (.int (y3 + (1 : Int32)))] [] (z_sI h (a0 + 1) (z_ix ((z_iv h a0 1) + y3)) (((y1.toUInt64 >>> (((56 : Int32) - ((8 : Int32) * y3)).toInt64.toUInt64 &&& Int64.toUInt64 63)).toInt64).toInt32 &&& (255 : Int32))) Q)) : KG z_pI 92 24 [some (.ref a0), some (.long y1), none, some (.int y3)] [] h Q := by
  refine k_n 2 (pc' := 27) (L' := [some (.ref a0), some (.long y1), none, some (.int y3)]) (S' := [.int (8 : Int32), .int y3]) (h' := h) rfl ?_
  refine k_b (g := (8 : Int32) ≤ y3) (pc' := 61) (L' := [some (.ref a0), some (.long y1), none, some (.int y3)]) (S' := []) (pc2 := 30) (L2 := [some (.ref a0), some (.long y1), none, some (.int y3)]) (S2 := []) (h' := h) (h2 := h) rfl rfl (fun hc => ?_) (fun hc => ?_)
  · have hc := hc
    rw [if_pos hc] at H
    refine k_n 2 (pc' := 63) (L' := [some (.ref a0), some (.long y1), none, some (.int y3)]) (S' := [.ref a0, .ref a0]) (h' := h) rfl ?_
    refine k_gI rfl rfl Ta0 ?_
    refine k_n 2 (pc' := 69) (L' := [some (.ref a0), some (.long y1), none, some (.int y3)]) (S' := [.int ((z_iv h a0 1) + (8 : Int32)), .ref a0]) (h' := h) rfl ?_
    refine k_pI rfl Ta0 ?_
    refine k_n 1 (pc' := 73) (L' := [some (.ref a0), some (.long y1), none, some (.int y3)]) (S' := [.int (1 : Int32)]) (h' := (z_sI h a0 1 ((z_iv h a0 1) + (8 : Int32)))) rfl ?_
    exact k_r rfl rfl rfl H
  · have hc := hc
    rw [if_neg hc] at H
    refine k_n 1 (pc' := 31) (L' := [some (.ref a0), some (.long y1), none, some (.int y3)]) (S' := [.ref a0]) (h' := h) rfl ?_
    refine k_gS (b := (a0 + 1)) rfl Ta0 (W.reOf (t := 9) (j := 0) (o := 1) (n := 200) (by decide) Ta0).1 ?_
    refine k_n 1 (pc' := 35) (L' := [some (.ref a0), some (.long y1), none, some (.int y3)]) (S' := [.ref a0, .ref (a0 + 1)]) (h' := h) rfl ?_
    refine k_gI rfl rfl Ta0 ?_
    refine k_n 12 (pc' := 54) (L' := [some (.ref a0), some (.long y1), none, some (.int y3)]) (S' := [.int (((y1.toUInt64 >>> (((56 : Int32) - ((8 : Int32) * y3)).toInt64.toUInt64 &&& Int64.toUInt64 63)).toInt64).toInt32 &&& (255 : Int32)), .int ((z_iv h a0 1) + y3), .ref (a0 + 1)]) (h' := h) rfl ?_
    obtain ⟨o1, H⟩ := H
    refine k_is (n := 200) rfl (CW.tyOf (t := 9) (t' := 100) W (j := 0) Ta0 (W.reOf (t := 9) (j := 0) (o := 1) (n := 200) (by decide) Ta0).1 (by decide) rfl) (W.reOf (t := 9) (j := 0) (o := 1) (n := 200) (by decide) Ta0).2 o1 ?_
    refine k_n 2 (pc' := 24) (L' := [some (.ref a0), some (.long y1), none, some (.int (y3 + (1 : Int32)))]) (S' := []) (h' := (z_sI h (a0 + 1) (z_ix ((z_iv h a0 1) + y3)) (((y1.toUInt64 >>> (((56 : Int32) - ((8 : Int32) * y3)).toInt64.toUInt64 &&& Int64.toUInt64 63)).toInt64).toInt32 &&& (255 : Int32)))) rfl ?_
    exact H
