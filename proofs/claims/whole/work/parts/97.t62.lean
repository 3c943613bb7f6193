/-! the law: one case after the other -/
abbrev z_lw (i : Int32) : zL := [some (.retAddr 19), some (.ref 0), some (.ref 27), some (.int i)]
/-- the script, and where both objects stand -/
def Sq (xs : Nat → Int32) (Ls : Nat) (h : zH) : Prop := z_tg h 0 = 11 ∧ z_tg h 27 = 12 ∧ z_iv h z_SC = xs ∧ z_ln h z_SC = Ls ∧ Ls ≤ 3584
theorem k_scr {p : Option Value → Option Int32} {y pc : Nat} {L : zL} {S : zS} {h : zH} {Q : Int32 → zH → Prop} {xs : Nat → Int32} {Ls : Nat} {a b : Nat} {v : Int} {j k : Nat} {x : Int32} (s : Sq xs Ls h) (e : z_c y pc = (.iaload, 1, a, b, v)) (hx : x = Int32.ofNat (j + k)) (hj : j + k < Ls) (q : KG p y (pc + 1) L (.int (xs (j + k)) :: S) h Q) : KG p y pc L (.int x :: .retAddr 19 :: S) h Q := by
  obtain ⟨_, _, s3, s4, s5⟩ := s
  have l : z_sl h 19 = Ls := s4
  have tx : x.toInt = ((j + k : Nat) : Int) := by rw [hx]; exact n_i (by omega)
  refine k_g (g := (19 < 3 ∨ 19 = 19) ∧ (0 ≤ x.toInt ∧ x.toInt < (z_sl h 19 : Int))) (pc' := pc + 1) (L' := L) (S' := .int (z_sv h 19 (z_ix x)) :: S) (h' := h) (by rw [e]; rfl) (by rw [e]; rfl) ⟨Or.inr rfl, by omega, by rw [l]; omega⟩ ?_
  have ev : z_sv h 19 (z_ix x) = xs (j + k) := by
    show z_iv h z_SC (z_ix x) = _
    rw [s3, hx, n_ix (by omega)]
  rw [ev]
  exact q
theorem L_0 {xs : Nat → Int32} {Ls j : Nat} {h : zH} {Q : Int32 → zH → Prop} (s : Sq xs Ls h) (hj : j + 7 ≤ Ls) (H : KK z_pI 99 [.ref 0, .int (xs (j + 1)), .int (xs (j + 2)), .int (xs (j + 3)), .int (xs (j + 4))] h (fun v1 h1 => Sq xs Ls h1 ∧ KK z_pI 165 [.ref 27, .int (xs (j + 1)), .int (xs (j + 2)), .int (xs (j + 3)), .int (xs (j + 4))] h1 (fun v2 h2 => v2 = v1 ∧ KG z_pI 233 1539 (z_lw (Int32.ofNat j)) [] h2 Q))) : KG z_pI 233 192 (z_lw (Int32.ofNat j)) [] h Q := by
  refine k_n 5 (pc' := 197) (L' := z_lw (Int32.ofNat j)) (S' := [.int ((Int32.ofNat j) + (1 : Int32)), .retAddr 19, .ref 0]) (h' := h) rfl ?_
  refine k_scr (j := j) (k := 1) s rfl n_add (by omega) ?_
  refine k_n 4 (pc' := 202) (L' := z_lw (Int32.ofNat j)) (S' := [.int ((Int32.ofNat j) + (2 : Int32)), .retAddr 19, .int (xs (j + 1)), .ref 0]) (h' := h) rfl ?_
  refine k_scr (j := j) (k := 2) s rfl n_add (by omega) ?_
  refine k_n 4 (pc' := 207) (L' := z_lw (Int32.ofNat j)) (S' := [.int ((Int32.ofNat j) + (3 : Int32)), .retAddr 19, .int (xs (j + 2)), .int (xs (j + 1)), .ref 0]) (h' := h) rfl ?_
  refine k_scr (j := j) (k := 3) s rfl n_add (by omega) ?_
  refine k_n 4 (pc' := 212) (L' := z_lw (Int32.ofNat j)) (S' := [.int ((Int32.ofNat j) + (4 : Int32)), .retAddr 19, .int (xs (j + 3)), .int (xs (j + 2)), .int (xs (j + 1)), .ref 0]) (h' := h) rfl ?_
  refine k_scr (j := j) (k := 4) s rfl n_add (by omega) ?_
  refine k_cI 99 5 rfl rfl rfl (A := [.ref 0, .int (xs (j + 1)), .int (xs (j + 2)), .int (xs (j + 3)), .int (xs (j + 4))]) rfl rfl (z_rok_ref s.1) (rest := []) rfl (z_tyI rfl rfl) ?_
  refine H.mono (fun v1 h1 q => ?_)
  obtain ⟨s1, H1⟩ := q
  refine k_n 5 (pc' := 221) (L' := z_lw (Int32.ofNat j)) (S' := [.int ((Int32.ofNat j) + (1 : Int32)), .retAddr 19, .ref 27, .int v1]) (h' := h1) rfl ?_
  refine k_scr (j := j) (k := 1) s1 rfl n_add (by omega) ?_
  refine k_n 4 (pc' := 226) (L' := z_lw (Int32.ofNat j)) (S' := [.int ((Int32.ofNat j) + (2 : Int32)), .retAddr 19, .int (xs (j + 1)), .ref 27, .int v1]) (h' := h1) rfl ?_
  refine k_scr (j := j) (k := 2) s1 rfl n_add (by omega) ?_
  refine k_n 4 (pc' := 231) (L' := z_lw (Int32.ofNat j)) (S' := [.int ((Int32.ofNat j) + (3 : Int32)), .retAddr 19, .int (xs (j + 2)), .int (xs (j + 1)), .ref 27, .int v1]) (h' := h1) rfl ?_
  refine k_scr (j := j) (k := 3) s1 rfl n_add (by omega) ?_
  refine k_n 4 (pc' := 236) (L' := z_lw (Int32.ofNat j)) (S' := [.int ((Int32.ofNat j) + (4 : Int32)), .retAddr 19, .int (xs (j + 3)), .int (xs (j + 2)), .int (xs (j + 1)), .ref 27, .int v1]) (h' := h1) rfl ?_
  refine k_scr (j := j) (k := 4) s1 rfl n_add (by omega) ?_
  refine k_cI 165 5 rfl rfl rfl (A := [.ref 27, .int (xs (j + 1)), .int (xs (j + 2)), .int (xs (j + 3)), .int (xs (j + 4))]) rfl rfl (z_rok_ref s1.2.1) (rest := [.int v1]) rfl (z_tyI rfl rfl) ?_
  refine H1.mono (fun v2 h2 q => ?_)
  obtain ⟨e, H2⟩ := q
  subst e
  exact k_b (g := v2 = v2) (pc' := 1539) (L' := z_lw (Int32.ofNat j)) (S' := []) (pc2 := 243) (L2 := z_lw (Int32.ofNat j)) (S2 := []) (h' := h2) (h2 := h2) rfl rfl (fun _ => H2) (fun hc => absurd rfl hc)
theorem L_1 {xs : Nat → Int32} {Ls j : Nat} {h : zH} {Q : Int32 → zH → Prop} (s : Sq xs Ls h) (hj : j + 7 ≤ Ls) (H : KK z_pI 100 [.ref 0, .int (xs (j + 1)), .int (xs (j + 2)), .int (xs (j + 3))] h (fun v1 h1 => Sq xs Ls h1 ∧ KK z_pI 166 [.ref 27, .int (xs (j + 1)), .int (xs (j + 2)), .int (xs (j + 3))] h1 (fun v2 h2 => v2 = v1 ∧ KG z_pI 233 1539 (z_lw (Int32.ofNat j)) [] h2 Q))) : KG z_pI 233 245 (z_lw (Int32.ofNat j)) [] h Q := by
  refine k_n 5 (pc' := 250) (L' := z_lw (Int32.ofNat j)) (S' := [.int ((Int32.ofNat j) + (1 : Int32)), .retAddr 19, .ref 0]) (h' := h) rfl ?_
  refine k_scr (j := j) (k := 1) s rfl n_add (by omega) ?_
  refine k_n 4 (pc' := 255) (L' := z_lw (Int32.ofNat j)) (S' := [.int ((Int32.ofNat j) + (2 : Int32)), .retAddr 19, .int (xs (j + 1)), .ref 0]) (h' := h) rfl ?_
  refine k_scr (j := j) (k := 2) s rfl n_add (by omega) ?_
  refine k_n 4 (pc' := 260) (L' := z_lw (Int32.ofNat j)) (S' := [.int ((Int32.ofNat j) + (3 : Int32)), .retAddr 19, .int (xs (j + 2)), .int (xs (j + 1)), .ref 0]) (h' := h) rfl ?_
  refine k_scr (j := j) (k := 3) s rfl n_add (by omega) ?_
  refine k_cI 100 4 rfl rfl rfl (A := [.ref 0, .int (xs (j + 1)), .int (xs (j + 2)), .int (xs (j + 3))]) rfl rfl (z_rok_ref s.1) (rest := []) rfl (z_tyI rfl rfl) ?_
  refine H.mono (fun v1 h1 q => ?_)
  obtain ⟨s1, H1⟩ := q
  refine k_n 5 (pc' := 269) (L' := z_lw (Int32.ofNat j)) (S' := [.int ((Int32.ofNat j) + (1 : Int32)), .retAddr 19, .ref 27, .int v1]) (h' := h1) rfl ?_
  refine k_scr (j := j) (k := 1) s1 rfl n_add (by omega) ?_
  refine k_n 4 (pc' := 274) (L' := z_lw (Int32.ofNat j)) (S' := [.int ((Int32.ofNat j) + (2 : Int32)), .retAddr 19, .int (xs (j + 1)), .ref 27, .int v1]) (h' := h1) rfl ?_
  refine k_scr (j := j) (k := 2) s1 rfl n_add (by omega) ?_
  refine k_n 4 (pc' := 279) (L' := z_lw (Int32.ofNat j)) (S' := [.int ((Int32.ofNat j) + (3 : Int32)), .retAddr 19, .int (xs (j + 2)), .int (xs (j + 1)), .ref 27, .int v1]) (h' := h1) rfl ?_
  refine k_scr (j := j) (k := 3) s1 rfl n_add (by omega) ?_
  refine k_cI 166 4 rfl rfl rfl (A := [.ref 27, .int (xs (j + 1)), .int (xs (j + 2)), .int (xs (j + 3))]) rfl rfl (z_rok_ref s1.2.1) (rest := [.int v1]) rfl (z_tyI rfl rfl) ?_
  refine H1.mono (fun v2 h2 q => ?_)
  obtain ⟨e, H2⟩ := q
  subst e
  exact k_b (g := v2 = v2) (pc' := 1539) (L' := z_lw (Int32.ofNat j)) (S' := []) (pc2 := 286) (L2 := z_lw (Int32.ofNat j)) (S2 := []) (h' := h2) (h2 := h2) rfl rfl (fun _ => H2) (fun hc => absurd rfl hc)
theorem L_2 {xs : Nat → Int32} {Ls j : Nat} {h : zH} {Q : Int32 → zH → Prop} (s : Sq xs Ls h) (hj : j + 7 ≤ Ls) (H : KK z_pI 101 [.ref 0, .int (xs (j + 1)), .int (xs (j + 2)), .int (xs (j + 3))] h (fun v1 h1 => Sq xs Ls h1 ∧ KK z_pI 167 [.ref 27, .int (xs (j + 1)), .int (xs (j + 2)), .int (xs (j + 3))] h1 (fun v2 h2 => v2 = v1 ∧ KG z_pI 233 1539 (z_lw (Int32.ofNat j)) [] h2 Q))) : KG z_pI 233 288 (z_lw (Int32.ofNat j)) [] h Q := by
  refine k_n 5 (pc' := 293) (L' := z_lw (Int32.ofNat j)) (S' := [.int ((Int32.ofNat j) + (1 : Int32)), .retAddr 19, .ref 0]) (h' := h) rfl ?_
  refine k_scr (j := j) (k := 1) s rfl n_add (by omega) ?_
  refine k_n 4 (pc' := 298) (L' := z_lw (Int32.ofNat j)) (S' := [.int ((Int32.ofNat j) + (2 : Int32)), .retAddr 19, .int (xs (j + 1)), .ref 0]) (h' := h) rfl ?_
  refine k_scr (j := j) (k := 2) s rfl n_add (by omega) ?_
  refine k_n 4 (pc' := 303) (L' := z_lw (Int32.ofNat j)) (S' := [.int ((Int32.ofNat j) + (3 : Int32)), .retAddr 19, .int (xs (j + 2)), .int (xs (j + 1)), .ref 0]) (h' := h) rfl ?_
  refine k_scr (j := j) (k := 3) s rfl n_add (by omega) ?_
  refine k_cI 101 4 rfl rfl rfl (A := [.ref 0, .int (xs (j + 1)), .int (xs (j + 2)), .int (xs (j + 3))]) rfl rfl (z_rok_ref s.1) (rest := []) rfl (z_tyI rfl rfl) ?_
  refine H.mono (fun v1 h1 q => ?_)
  obtain ⟨s1, H1⟩ := q
  refine k_n 5 (pc' := 312) (L' := z_lw (Int32.ofNat j)) (S' := [.int ((Int32.ofNat j) + (1 : Int32)), .retAddr 19, .ref 27, .int v1]) (h' := h1) rfl ?_
  refine k_scr (j := j) (k := 1) s1 rfl n_add (by omega) ?_
  refine k_n 4 (pc' := 317) (L' := z_lw (Int32.ofNat j)) (S' := [.int ((Int32.ofNat j) + (2 : Int32)), .retAddr 19, .int (xs (j + 1)), .ref 27, .int v1]) (h' := h1) rfl ?_
  refine k_scr (j := j) (k := 2) s1 rfl n_add (by omega) ?_
  refine k_n 4 (pc' := 322) (L' := z_lw (Int32.ofNat j)) (S' := [.int ((Int32.ofNat j) + (3 : Int32)), .retAddr 19, .int (xs (j + 2)), .int (xs (j + 1)), .ref 27, .int v1]) (h' := h1) rfl ?_
  refine k_scr (j := j) (k := 3) s1 rfl n_add (by omega) ?_
  refine k_cI 167 4 rfl rfl rfl (A := [.ref 27, .int (xs (j + 1)), .int (xs (j + 2)), .int (xs (j + 3))]) rfl rfl (z_rok_ref s1.2.1) (rest := [.int v1]) rfl (z_tyI rfl rfl) ?_
  refine H1.mono (fun v2 h2 q => ?_)
  obtain ⟨e, H2⟩ := q
  subst e
  exact k_b (g := v2 = v2) (pc' := 1539) (L' := z_lw (Int32.ofNat j)) (S' := []) (pc2 := 329) (L2 := z_lw (Int32.ofNat j)) (S2 := []) (h' := h2) (h2 := h2) rfl rfl (fun _ => H2) (fun hc => absurd rfl hc)
theorem L_3 {xs : Nat → Int32} {Ls j : Nat} {h : zH} {Q : Int32 → zH → Prop} (s : Sq xs Ls h) (hj : j + 7 ≤ Ls) (H : KK z_pI 102 [.ref 0, .int (xs (j + 1)), .int (xs (j + 2)), .int (xs (j + 3)), .int (xs (j + 4)), .int (xs (j + 5)), .int (xs (j + 6))] h (fun v1 h1 => Sq xs Ls h1 ∧ KK z_pI 168 [.ref 27, .int (xs (j + 1)), .int (xs (j + 2)), .int (xs (j + 3)), .int (xs (j + 4)), .int (xs (j + 5)), .int (xs (j + 6))] h1 (fun v2 h2 => v2 = v1 ∧ KG z_pI 233 1539 (z_lw (Int32.ofNat j)) [] h2 Q))) : KG z_pI 233 331 (z_lw (Int32.ofNat j)) [] h Q := by
  refine k_n 5 (pc' := 336) (L' := z_lw (Int32.ofNat j)) (S' := [.int ((Int32.ofNat j) + (1 : Int32)), .retAddr 19, .ref 0]) (h' := h) rfl ?_
  refine k_scr (j := j) (k := 1) s rfl n_add (by omega) ?_
  refine k_n 4 (pc' := 341) (L' := z_lw (Int32.ofNat j)) (S' := [.int ((Int32.ofNat j) + (2 : Int32)), .retAddr 19, .int (xs (j + 1)), .ref 0]) (h' := h) rfl ?_
  refine k_scr (j := j) (k := 2) s rfl n_add (by omega) ?_
  refine k_n 4 (pc' := 346) (L' := z_lw (Int32.ofNat j)) (S' := [.int ((Int32.ofNat j) + (3 : Int32)), .retAddr 19, .int (xs (j + 2)), .int (xs (j + 1)), .ref 0]) (h' := h) rfl ?_
  refine k_scr (j := j) (k := 3) s rfl n_add (by omega) ?_
  refine k_n 4 (pc' := 351) (L' := z_lw (Int32.ofNat j)) (S' := [.int ((Int32.ofNat j) + (4 : Int32)), .retAddr 19, .int (xs (j + 3)), .int (xs (j + 2)), .int (xs (j + 1)), .ref 0]) (h' := h) rfl ?_
  refine k_scr (j := j) (k := 4) s rfl n_add (by omega) ?_
  refine k_n 4 (pc' := 356) (L' := z_lw (Int32.ofNat j)) (S' := [.int ((Int32.ofNat j) + (5 : Int32)), .retAddr 19, .int (xs (j + 4)), .int (xs (j + 3)), .int (xs (j + 2)), .int (xs (j + 1)), .ref 0]) (h' := h) rfl ?_
  refine k_scr (j := j) (k := 5) s rfl n_add (by omega) ?_
  refine k_n 4 (pc' := 362) (L' := z_lw (Int32.ofNat j)) (S' := [.int ((Int32.ofNat j) + (6 : Int32)), .retAddr 19, .int (xs (j + 5)), .int (xs (j + 4)), .int (xs (j + 3)), .int (xs (j + 2)), .int (xs (j + 1)), .ref 0]) (h' := h) rfl ?_
  refine k_scr (j := j) (k := 6) s rfl n_add (by omega) ?_
  refine k_cI 102 7 rfl rfl rfl (A := [.ref 0, .int (xs (j + 1)), .int (xs (j + 2)), .int (xs (j + 3)), .int (xs (j + 4)), .int (xs (j + 5)), .int (xs (j + 6))]) rfl rfl (z_rok_ref s.1) (rest := []) rfl (z_tyI rfl rfl) ?_
  refine H.mono (fun v1 h1 q => ?_)
  obtain ⟨s1, H1⟩ := q
  refine k_n 5 (pc' := 371) (L' := z_lw (Int32.ofNat j)) (S' := [.int ((Int32.ofNat j) + (1 : Int32)), .retAddr 19, .ref 27, .int v1]) (h' := h1) rfl ?_
  refine k_scr (j := j) (k := 1) s1 rfl n_add (by omega) ?_
  refine k_n 4 (pc' := 376) (L' := z_lw (Int32.ofNat j)) (S' := [.int ((Int32.ofNat j) + (2 : Int32)), .retAddr 19, .int (xs (j + 1)), .ref 27, .int v1]) (h' := h1) rfl ?_
  refine k_scr (j := j) (k := 2) s1 rfl n_add (by omega) ?_
  refine k_n 4 (pc' := 381) (L' := z_lw (Int32.ofNat j)) (S' := [.int ((Int32.ofNat j) + (3 : Int32)), .retAddr 19, .int (xs (j + 2)), .int (xs (j + 1)), .ref 27, .int v1]) (h' := h1) rfl ?_
  refine k_scr (j := j) (k := 3) s1 rfl n_add (by omega) ?_
  refine k_n 4 (pc' := 386) (L' := z_lw (Int32.ofNat j)) (S' := [.int ((Int32.ofNat j) + (4 : Int32)), .retAddr 19, .int (xs (j + 3)), .int (xs (j + 2)), .int (xs (j + 1)), .ref 27, .int v1]) (h' := h1) rfl ?_
  refine k_scr (j := j) (k := 4) s1 rfl n_add (by omega) ?_
  refine k_n 4 (pc' := 391) (L' := z_lw (Int32.ofNat j)) (S' := [.int ((Int32.ofNat j) + (5 : Int32)), .retAddr 19, .int (xs (j + 4)), .int (xs (j + 3)), .int (xs (j + 2)), .int (xs (j + 1)), .ref 27, .int v1]) (h' := h1) rfl ?_
  refine k_scr (j := j) (k := 5) s1 rfl n_add (by omega) ?_
  refine k_n 4 (pc' := 397) (L' := z_lw (Int32.ofNat j)) (S' := [.int ((Int32.ofNat j) + (6 : Int32)), .retAddr 19, .int (xs (j + 5)), .int (xs (j + 4)), .int (xs (j + 3)), .int (xs (j + 2)), .int (xs (j + 1)), .ref 27, .int v1]) (h' := h1) rfl ?_
  refine k_scr (j := j) (k := 6) s1 rfl n_add (by omega) ?_
  refine k_cI 168 7 rfl rfl rfl (A := [.ref 27, .int (xs (j + 1)), .int (xs (j + 2)), .int (xs (j + 3)), .int (xs (j + 4)), .int (xs (j + 5)), .int (xs (j + 6))]) rfl rfl (z_rok_ref s1.2.1) (rest := [.int v1]) rfl (z_tyI rfl rfl) ?_
  refine H1.mono (fun v2 h2 q => ?_)
  obtain ⟨e, H2⟩ := q
  subst e
  exact k_b (g := v2 = v2) (pc' := 1539) (L' := z_lw (Int32.ofNat j)) (S' := []) (pc2 := 404) (L2 := z_lw (Int32.ofNat j)) (S2 := []) (h' := h2) (h2 := h2) rfl rfl (fun _ => H2) (fun hc => absurd rfl hc)
theorem L_4 {xs : Nat → Int32} {Ls j : Nat} {h : zH} {Q : Int32 → zH → Prop} (s : Sq xs Ls h) (hj : j + 7 ≤ Ls) (H : KK z_pI 103 [.ref 0, .int (xs (j + 1)), .int (xs (j + 2))] h (fun v1 h1 => Sq xs Ls h1 ∧ KK z_pI 171 [.ref 27, .int (xs (j + 1)), .int (xs (j + 2))] h1 (fun v2 h2 => v2 = v1 ∧ KG z_pI 233 1539 (z_lw (Int32.ofNat j)) [] h2 Q))) : KG z_pI 233 406 (z_lw (Int32.ofNat j)) [] h Q := by
  refine k_n 5 (pc' := 411) (L' := z_lw (Int32.ofNat j)) (S' := [.int ((Int32.ofNat j) + (1 : Int32)), .retAddr 19, .ref 0]) (h' := h) rfl ?_
  refine k_scr (j := j) (k := 1) s rfl n_add (by omega) ?_
  refine k_n 4 (pc' := 416) (L' := z_lw (Int32.ofNat j)) (S' := [.int ((Int32.ofNat j) + (2 : Int32)), .retAddr 19, .int (xs (j + 1)), .ref 0]) (h' := h) rfl ?_
  refine k_scr (j := j) (k := 2) s rfl n_add (by omega) ?_
  refine k_cI 103 3 rfl rfl rfl (A := [.ref 0, .int (xs (j + 1)), .int (xs (j + 2))]) rfl rfl (z_rok_ref s.1) (rest := []) rfl (z_tyI rfl rfl) ?_
  refine H.mono (fun v1 h1 q => ?_)
  obtain ⟨s1, H1⟩ := q
  refine k_n 5 (pc' := 425) (L' := z_lw (Int32.ofNat j)) (S' := [.int ((Int32.ofNat j) + (1 : Int32)), .retAddr 19, .ref 27, .int v1]) (h' := h1) rfl ?_
  refine k_scr (j := j) (k := 1) s1 rfl n_add (by omega) ?_
  refine k_n 4 (pc' := 430) (L' := z_lw (Int32.ofNat j)) (S' := [.int ((Int32.ofNat j) + (2 : Int32)), .retAddr 19, .int (xs (j + 1)), .ref 27, .int v1]) (h' := h1) rfl ?_
  refine k_scr (j := j) (k := 2) s1 rfl n_add (by omega) ?_
  refine k_cI 171 3 rfl rfl rfl (A := [.ref 27, .int (xs (j + 1)), .int (xs (j + 2))]) rfl rfl (z_rok_ref s1.2.1) (rest := [.int v1]) rfl (z_tyI rfl rfl) ?_
  refine H1.mono (fun v2 h2 q => ?_)
  obtain ⟨e, H2⟩ := q
  subst e
  exact k_b (g := v2 = v2) (pc' := 1539) (L' := z_lw (Int32.ofNat j)) (S' := []) (pc2 := 437) (L2 := z_lw (Int32.ofNat j)) (S2 := []) (h' := h2) (h2 := h2) rfl rfl (fun _ => H2) (fun hc => absurd rfl hc)
theorem L_5z {xs : Nat → Int32} {Ls j : Nat} {h : zH} {Q : Int32 → zH → Prop} (s : Sq xs Ls h) (hj : j + 7 ≤ Ls) (z :  xs (j + 2) = 0) (H : KK z_pI 104 [.ref 0, .int (xs (j + 1)), .int (0 : Int32)] h (fun v1 h1 => Sq xs Ls h1 ∧ KK z_pI 172 [.ref 27, .int (xs (j + 1)), .int (0 : Int32)] h1 (fun v2 h2 => v2 = v1 ∧ KG z_pI 233 1539 (z_lw (Int32.ofNat j)) [] h2 Q))) : KG z_pI 233 439 (z_lw (Int32.ofNat j)) [] h Q := by
  refine k_n 5 (pc' := 444) (L' := z_lw (Int32.ofNat j)) (S' := [.int ((Int32.ofNat j) + (1 : Int32)), .retAddr 19, .ref 0]) (h' := h) rfl ?_
  refine k_scr (j := j) (k := 1) s rfl n_add (by omega) ?_
  refine k_n 4 (pc' := 449) (L' := z_lw (Int32.ofNat j)) (S' := [.int ((Int32.ofNat j) + (2 : Int32)), .retAddr 19, .int (xs (j + 1)), .ref 0]) (h' := h) rfl ?_
  refine k_scr (j := j) (k := 2) s rfl n_add (by omega) ?_
  refine k_b (g := (xs (j + 2)) = 0) (pc' := 457) (L' := z_lw (Int32.ofNat j)) (S' := [.int (xs (j + 1)), .ref 0]) (pc2 := 453) (L2 := z_lw (Int32.ofNat j)) (S2 := [.int (xs (j + 1)), .ref 0]) (h' := h) (h2 := h) rfl rfl (fun _ => ?_) (fun hc => absurd z hc)
  refine k_n 1 (pc' := 458) (L' := z_lw (Int32.ofNat j)) (S' := [.int (0 : Int32), .int (xs (j + 1)), .ref 0]) (h' := h) rfl ?_
  refine k_cI 104 3 rfl rfl rfl (A := [.ref 0, .int (xs (j + 1)), .int (0 : Int32)]) rfl rfl (z_rok_ref s.1) (rest := []) rfl (z_tyI rfl rfl) ?_
  refine H.mono (fun v1 h1 q => ?_)
  obtain ⟨s1, H1⟩ := q
  refine k_n 5 (pc' := 466) (L' := z_lw (Int32.ofNat j)) (S' := [.int ((Int32.ofNat j) + (1 : Int32)), .retAddr 19, .ref 27, .int v1]) (h' := h1) rfl ?_
  refine k_scr (j := j) (k := 1) s1 rfl n_add (by omega) ?_
  refine k_n 4 (pc' := 471) (L' := z_lw (Int32.ofNat j)) (S' := [.int ((Int32.ofNat j) + (2 : Int32)), .retAddr 19, .int (xs (j + 1)), .ref 27, .int v1]) (h' := h1) rfl ?_
  refine k_scr (j := j) (k := 2) s1 rfl n_add (by omega) ?_
  refine k_b (g := (xs (j + 2)) = 0) (pc' := 479) (L' := z_lw (Int32.ofNat j)) (S' := [.int (xs (j + 1)), .ref 27, .int v1]) (pc2 := 475) (L2 := z_lw (Int32.ofNat j)) (S2 := [.int (xs (j + 1)), .ref 27, .int v1]) (h' := h1) (h2 := h1) rfl rfl (fun _ => ?_) (fun hc => absurd z hc)
  refine k_n 1 (pc' := 480) (L' := z_lw (Int32.ofNat j)) (S' := [.int (0 : Int32), .int (xs (j + 1)), .ref 27, .int v1]) (h' := h1) rfl ?_
  refine k_cI 172 3 rfl rfl rfl (A := [.ref 27, .int (xs (j + 1)), .int (0 : Int32)]) rfl rfl (z_rok_ref s1.2.1) (rest := [.int v1]) rfl (z_tyI rfl rfl) ?_
  refine H1.mono (fun v2 h2 q => ?_)
  obtain ⟨e, H2⟩ := q
  subst e
  exact k_b (g := v2 = v2) (pc' := 1539) (L' := z_lw (Int32.ofNat j)) (S' := []) (pc2 := 486) (L2 := z_lw (Int32.ofNat j)) (S2 := []) (h' := h2) (h2 := h2) rfl rfl (fun _ => H2) (fun hc => absurd rfl hc)
theorem L_5n {xs : Nat → Int32} {Ls j : Nat} {h : zH} {Q : Int32 → zH → Prop} (s : Sq xs Ls h) (hj : j + 7 ≤ Ls) (z : ¬ xs (j + 2) = 0) (H : KK z_pI 104 [.ref 0, .int (xs (j + 1)), .int (1 : Int32)] h (fun v1 h1 => Sq xs Ls h1 ∧ KK z_pI 172 [.ref 27, .int (xs (j + 1)), .int (1 : Int32)] h1 (fun v2 h2 => v2 = v1 ∧ KG z_pI 233 1539 (z_lw (Int32.ofNat j)) [] h2 Q))) : KG z_pI 233 439 (z_lw (Int32.ofNat j)) [] h Q := by
  refine k_n 5 (pc' := 444) (L' := z_lw (Int32.ofNat j)) (S' := [.int ((Int32.ofNat j) + (1 : Int32)), .retAddr 19, .ref 0]) (h' := h) rfl ?_
  refine k_scr (j := j) (k := 1) s rfl n_add (by omega) ?_
  refine k_n 4 (pc' := 449) (L' := z_lw (Int32.ofNat j)) (S' := [.int ((Int32.ofNat j) + (2 : Int32)), .retAddr 19, .int (xs (j + 1)), .ref 0]) (h' := h) rfl ?_
  refine k_scr (j := j) (k := 2) s rfl n_add (by omega) ?_
  refine k_b (g := (xs (j + 2)) = 0) (pc' := 457) (L' := z_lw (Int32.ofNat j)) (S' := [.int (xs (j + 1)), .ref 0]) (pc2 := 453) (L2 := z_lw (Int32.ofNat j)) (S2 := [.int (xs (j + 1)), .ref 0]) (h' := h) (h2 := h) rfl rfl (fun hc => absurd hc z) (fun _ => ?_)
  refine k_n 2 (pc' := 458) (L' := z_lw (Int32.ofNat j)) (S' := [.int (1 : Int32), .int (xs (j + 1)), .ref 0]) (h' := h) rfl ?_
  refine k_cI 104 3 rfl rfl rfl (A := [.ref 0, .int (xs (j + 1)), .int (1 : Int32)]) rfl rfl (z_rok_ref s.1) (rest := []) rfl (z_tyI rfl rfl) ?_
  refine H.mono (fun v1 h1 q => ?_)
  obtain ⟨s1, H1⟩ := q
  refine k_n 5 (pc' := 466) (L' := z_lw (Int32.ofNat j)) (S' := [.int ((Int32.ofNat j) + (1 : Int32)), .retAddr 19, .ref 27, .int v1]) (h' := h1) rfl ?_
  refine k_scr (j := j) (k := 1) s1 rfl n_add (by omega) ?_
  refine k_n 4 (pc' := 471) (L' := z_lw (Int32.ofNat j)) (S' := [.int ((Int32.ofNat j) + (2 : Int32)), .retAddr 19, .int (xs (j + 1)), .ref 27, .int v1]) (h' := h1) rfl ?_
  refine k_scr (j := j) (k := 2) s1 rfl n_add (by omega) ?_
  refine k_b (g := (xs (j + 2)) = 0) (pc' := 479) (L' := z_lw (Int32.ofNat j)) (S' := [.int (xs (j + 1)), .ref 27, .int v1]) (pc2 := 475) (L2 := z_lw (Int32.ofNat j)) (S2 := [.int (xs (j + 1)), .ref 27, .int v1]) (h' := h1) (h2 := h1) rfl rfl (fun hc => absurd hc z) (fun _ => ?_)
  refine k_n 2 (pc' := 480) (L' := z_lw (Int32.ofNat j)) (S' := [.int (1 : Int32), .int (xs (j + 1)), .ref 27, .int v1]) (h' := h1) rfl ?_
  refine k_cI 172 3 rfl rfl rfl (A := [.ref 27, .int (xs (j + 1)), .int (1 : Int32)]) rfl rfl (z_rok_ref s1.2.1) (rest := [.int v1]) rfl (z_tyI rfl rfl) ?_
  refine H1.mono (fun v2 h2 q => ?_)
  obtain ⟨e, H2⟩ := q
  subst e
  exact k_b (g := v2 = v2) (pc' := 1539) (L' := z_lw (Int32.ofNat j)) (S' := []) (pc2 := 486) (L2 := z_lw (Int32.ofNat j)) (S2 := []) (h' := h2) (h2 := h2) rfl rfl (fun _ => H2) (fun hc => absurd rfl hc)
theorem L_6 {xs : Nat → Int32} {Ls j : Nat} {h : zH} {Q : Int32 → zH → Prop} (s : Sq xs Ls h) (hj : j + 7 ≤ Ls) (H : KK z_pI 105 [.ref 0, .int (xs (j + 1))] h (fun v1 h1 => Sq xs Ls h1 ∧ KK z_pI 173 [.ref 27, .int (xs (j + 1))] h1 (fun v2 h2 => v2 = v1 ∧ KG z_pI 233 1539 (z_lw (Int32.ofNat j)) [] h2 Q))) : KG z_pI 233 488 (z_lw (Int32.ofNat j)) [] h Q := by
  refine k_n 5 (pc' := 493) (L' := z_lw (Int32.ofNat j)) (S' := [.int ((Int32.ofNat j) + (1 : Int32)), .retAddr 19, .ref 0]) (h' := h) rfl ?_
  refine k_scr (j := j) (k := 1) s rfl n_add (by omega) ?_
  refine k_cI 105 2 rfl rfl rfl (A := [.ref 0, .int (xs (j + 1))]) rfl rfl (z_rok_ref s.1) (rest := []) rfl (z_tyI rfl rfl) ?_
  refine H.mono (fun v1 h1 q => ?_)
  obtain ⟨s1, H1⟩ := q
  refine k_n 5 (pc' := 502) (L' := z_lw (Int32.ofNat j)) (S' := [.int ((Int32.ofNat j) + (1 : Int32)), .retAddr 19, .ref 27, .int v1]) (h' := h1) rfl ?_
  refine k_scr (j := j) (k := 1) s1 rfl n_add (by omega) ?_
  refine k_cI 173 2 rfl rfl rfl (A := [.ref 27, .int (xs (j + 1))]) rfl rfl (z_rok_ref s1.2.1) (rest := [.int v1]) rfl (z_tyI rfl rfl) ?_
  refine H1.mono (fun v2 h2 q => ?_)
  obtain ⟨e, H2⟩ := q
  subst e
  exact k_b (g := v2 = v2) (pc' := 1539) (L' := z_lw (Int32.ofNat j)) (S' := []) (pc2 := 509) (L2 := z_lw (Int32.ofNat j)) (S2 := []) (h' := h2) (h2 := h2) rfl rfl (fun _ => H2) (fun hc => absurd rfl hc)
theorem L_7 {xs : Nat → Int32} {Ls j : Nat} {h : zH} {Q : Int32 → zH → Prop} (s : Sq xs Ls h) (hj : j + 7 ≤ Ls) (H : KK z_pI 106 [.ref 0] h (fun v1 h1 => Sq xs Ls h1 ∧ KK z_pI 177 [.ref 27] h1 (fun v2 h2 => v2 = v1 ∧ KG z_pI 233 1539 (z_lw (Int32.ofNat j)) [] h2 Q))) : KG z_pI 233 511 (z_lw (Int32.ofNat j)) [] h Q := by
  refine k_n 1 (pc' := 512) (L' := z_lw (Int32.ofNat j)) (S' := [.ref 0]) (h' := h) rfl ?_
  refine k_cI 106 1 rfl rfl rfl (A := [.ref 0]) rfl rfl (z_rok_ref s.1) (rest := []) rfl (z_tyI rfl rfl) ?_
  refine H.mono (fun v1 h1 q => ?_)
  obtain ⟨s1, H1⟩ := q
  refine k_n 1 (pc' := 516) (L' := z_lw (Int32.ofNat j)) (S' := [.ref 27, .int v1]) (h' := h1) rfl ?_
  refine k_cI 177 1 rfl rfl rfl (A := [.ref 27]) rfl rfl (z_rok_ref s1.2.1) (rest := [.int v1]) rfl (z_tyI rfl rfl) ?_
  refine H1.mono (fun v2 h2 q => ?_)
  obtain ⟨e, H2⟩ := q
  subst e
  exact k_b (g := v2 = v2) (pc' := 1539) (L' := z_lw (Int32.ofNat j)) (S' := []) (pc2 := 522) (L2 := z_lw (Int32.ofNat j)) (S2 := []) (h' := h2) (h2 := h2) rfl rfl (fun _ => H2) (fun hc => absurd rfl hc)
theorem L_8 {xs : Nat → Int32} {Ls j : Nat} {h : zH} {Q : Int32 → zH → Prop} (s : Sq xs Ls h) (hj : j + 7 ≤ Ls) (H : KK z_pI 107 [.ref 0, .int (xs (j + 1)), .int (xs (j + 2)), .int (xs (j + 3))] h (fun v1 h1 => Sq xs Ls h1 ∧ KK z_pI 178 [.ref 27, .int (xs (j + 1)), .int (xs (j + 2)), .int (xs (j + 3))] h1 (fun v2 h2 => v2 = v1 ∧ KG z_pI 233 1539 (z_lw (Int32.ofNat j)) [] h2 Q))) : KG z_pI 233 524 (z_lw (Int32.ofNat j)) [] h Q := by
  refine k_n 5 (pc' := 529) (L' := z_lw (Int32.ofNat j)) (S' := [.int ((Int32.ofNat j) + (1 : Int32)), .retAddr 19, .ref 0]) (h' := h) rfl ?_
  refine k_scr (j := j) (k := 1) s rfl n_add (by omega) ?_
  refine k_n 4 (pc' := 534) (L' := z_lw (Int32.ofNat j)) (S' := [.int ((Int32.ofNat j) + (2 : Int32)), .retAddr 19, .int (xs (j + 1)), .ref 0]) (h' := h) rfl ?_
  refine k_scr (j := j) (k := 2) s rfl n_add (by omega) ?_
  refine k_n 4 (pc' := 539) (L' := z_lw (Int32.ofNat j)) (S' := [.int ((Int32.ofNat j) + (3 : Int32)), .retAddr 19, .int (xs (j + 2)), .int (xs (j + 1)), .ref 0]) (h' := h) rfl ?_
  refine k_scr (j := j) (k := 3) s rfl n_add (by omega) ?_
  refine k_cI 107 4 rfl rfl rfl (A := [.ref 0, .int (xs (j + 1)), .int (xs (j + 2)), .int (xs (j + 3))]) rfl rfl (z_rok_ref s.1) (rest := []) rfl (z_tyI rfl rfl) ?_
  refine H.mono (fun v1 h1 q => ?_)
  obtain ⟨s1, H1⟩ := q
  refine k_n 5 (pc' := 548) (L' := z_lw (Int32.ofNat j)) (S' := [.int ((Int32.ofNat j) + (1 : Int32)), .retAddr 19, .ref 27, .int v1]) (h' := h1) rfl ?_
  refine k_scr (j := j) (k := 1) s1 rfl n_add (by omega) ?_
  refine k_n 4 (pc' := 553) (L' := z_lw (Int32.ofNat j)) (S' := [.int ((Int32.ofNat j) + (2 : Int32)), .retAddr 19, .int (xs (j + 1)), .ref 27, .int v1]) (h' := h1) rfl ?_
  refine k_scr (j := j) (k := 2) s1 rfl n_add (by omega) ?_
  refine k_n 4 (pc' := 558) (L' := z_lw (Int32.ofNat j)) (S' := [.int ((Int32.ofNat j) + (3 : Int32)), .retAddr 19, .int (xs (j + 2)), .int (xs (j + 1)), .ref 27, .int v1]) (h' := h1) rfl ?_
  refine k_scr (j := j) (k := 3) s1 rfl n_add (by omega) ?_
  refine k_cI 178 4 rfl rfl rfl (A := [.ref 27, .int (xs (j + 1)), .int (xs (j + 2)), .int (xs (j + 3))]) rfl rfl (z_rok_ref s1.2.1) (rest := [.int v1]) rfl (z_tyI rfl rfl) ?_
  refine H1.mono (fun v2 h2 q => ?_)
  obtain ⟨e, H2⟩ := q
  subst e
  exact k_b (g := v2 = v2) (pc' := 1539) (L' := z_lw (Int32.ofNat j)) (S' := []) (pc2 := 565) (L2 := z_lw (Int32.ofNat j)) (S2 := []) (h' := h2) (h2 := h2) rfl rfl (fun _ => H2) (fun hc => absurd rfl hc)
theorem L_9 {xs : Nat → Int32} {Ls j : Nat} {h : zH} {Q : Int32 → zH → Prop} (s : Sq xs Ls h) (hj : j + 7 ≤ Ls) (H : KK z_pI 108 [.ref 0, .int (xs (j + 1)), .int (xs (j + 2))] h (fun v1 h1 => Sq xs Ls h1 ∧ KK z_pI 180 [.ref 27, .int (xs (j + 1)), .int (xs (j + 2))] h1 (fun v2 h2 => v2 = v1 ∧ KG z_pI 233 1539 (z_lw (Int32.ofNat j)) [] h2 Q))) : KG z_pI 233 567 (z_lw (Int32.ofNat j)) [] h Q := by
  refine k_n 5 (pc' := 572) (L' := z_lw (Int32.ofNat j)) (S' := [.int ((Int32.ofNat j) + (1 : Int32)), .retAddr 19, .ref 0]) (h' := h) rfl ?_
  refine k_scr (j := j) (k := 1) s rfl n_add (by omega) ?_
  refine k_n 4 (pc' := 577) (L' := z_lw (Int32.ofNat j)) (S' := [.int ((Int32.ofNat j) + (2 : Int32)), .retAddr 19, .int (xs (j + 1)), .ref 0]) (h' := h) rfl ?_
  refine k_scr (j := j) (k := 2) s rfl n_add (by omega) ?_
  refine k_cI 108 3 rfl rfl rfl (A := [.ref 0, .int (xs (j + 1)), .int (xs (j + 2))]) rfl rfl (z_rok_ref s.1) (rest := []) rfl (z_tyI rfl rfl) ?_
  refine H.mono (fun v1 h1 q => ?_)
  obtain ⟨s1, H1⟩ := q
  refine k_n 5 (pc' := 586) (L' := z_lw (Int32.ofNat j)) (S' := [.int ((Int32.ofNat j) + (1 : Int32)), .retAddr 19, .ref 27, .int v1]) (h' := h1) rfl ?_
  refine k_scr (j := j) (k := 1) s1 rfl n_add (by omega) ?_
  refine k_n 4 (pc' := 591) (L' := z_lw (Int32.ofNat j)) (S' := [.int ((Int32.ofNat j) + (2 : Int32)), .retAddr 19, .int (xs (j + 1)), .ref 27, .int v1]) (h' := h1) rfl ?_
  refine k_scr (j := j) (k := 2) s1 rfl n_add (by omega) ?_
  refine k_cI 180 3 rfl rfl rfl (A := [.ref 27, .int (xs (j + 1)), .int (xs (j + 2))]) rfl rfl (z_rok_ref s1.2.1) (rest := [.int v1]) rfl (z_tyI rfl rfl) ?_
  refine H1.mono (fun v2 h2 q => ?_)
  obtain ⟨e, H2⟩ := q
  subst e
  exact k_b (g := v2 = v2) (pc' := 1539) (L' := z_lw (Int32.ofNat j)) (S' := []) (pc2 := 598) (L2 := z_lw (Int32.ofNat j)) (S2 := []) (h' := h2) (h2 := h2) rfl rfl (fun _ => H2) (fun hc => absurd rfl hc)
theorem L_10 {xs : Nat → Int32} {Ls j : Nat} {h : zH} {Q : Int32 → zH → Prop} (s : Sq xs Ls h) (hj : j + 7 ≤ Ls) (H : KK z_pI 109 [.ref 0, .int (xs (j + 1)), .int (xs (j + 2)), .int (xs (j + 3)), .int (xs (j + 4))] h (fun v1 h1 => Sq xs Ls h1 ∧ KK z_pI 182 [.ref 27, .int (xs (j + 1)), .int (xs (j + 2)), .int (xs (j + 3)), .int (xs (j + 4))] h1 (fun v2 h2 => v2 = v1 ∧ KG z_pI 233 1539 (z_lw (Int32.ofNat j)) [] h2 Q))) : KG z_pI 233 600 (z_lw (Int32.ofNat j)) [] h Q := by
  refine k_n 5 (pc' := 605) (L' := z_lw (Int32.ofNat j)) (S' := [.int ((Int32.ofNat j) + (1 : Int32)), .retAddr 19, .ref 0]) (h' := h) rfl ?_
  refine k_scr (j := j) (k := 1) s rfl n_add (by omega) ?_
  refine k_n 4 (pc' := 610) (L' := z_lw (Int32.ofNat j)) (S' := [.int ((Int32.ofNat j) + (2 : Int32)), .retAddr 19, .int (xs (j + 1)), .ref 0]) (h' := h) rfl ?_
  refine k_scr (j := j) (k := 2) s rfl n_add (by omega) ?_
  refine k_n 4 (pc' := 615) (L' := z_lw (Int32.ofNat j)) (S' := [.int ((Int32.ofNat j) + (3 : Int32)), .retAddr 19, .int (xs (j + 2)), .int (xs (j + 1)), .ref 0]) (h' := h) rfl ?_
  refine k_scr (j := j) (k := 3) s rfl n_add (by omega) ?_
  refine k_n 4 (pc' := 620) (L' := z_lw (Int32.ofNat j)) (S' := [.int ((Int32.ofNat j) + (4 : Int32)), .retAddr 19, .int (xs (j + 3)), .int (xs (j + 2)), .int (xs (j + 1)), .ref 0]) (h' := h) rfl ?_
  refine k_scr (j := j) (k := 4) s rfl n_add (by omega) ?_
  refine k_cI 109 5 rfl rfl rfl (A := [.ref 0, .int (xs (j + 1)), .int (xs (j + 2)), .int (xs (j + 3)), .int (xs (j + 4))]) rfl rfl (z_rok_ref s.1) (rest := []) rfl (z_tyI rfl rfl) ?_
  refine H.mono (fun v1 h1 q => ?_)
  obtain ⟨s1, H1⟩ := q
  refine k_n 5 (pc' := 629) (L' := z_lw (Int32.ofNat j)) (S' := [.int ((Int32.ofNat j) + (1 : Int32)), .retAddr 19, .ref 27, .int v1]) (h' := h1) rfl ?_
  refine k_scr (j := j) (k := 1) s1 rfl n_add (by omega) ?_
  refine k_n 4 (pc' := 634) (L' := z_lw (Int32.ofNat j)) (S' := [.int ((Int32.ofNat j) + (2 : Int32)), .retAddr 19, .int (xs (j + 1)), .ref 27, .int v1]) (h' := h1) rfl ?_
  refine k_scr (j := j) (k := 2) s1 rfl n_add (by omega) ?_
  refine k_n 4 (pc' := 639) (L' := z_lw (Int32.ofNat j)) (S' := [.int ((Int32.ofNat j) + (3 : Int32)), .retAddr 19, .int (xs (j + 2)), .int (xs (j + 1)), .ref 27, .int v1]) (h' := h1) rfl ?_
  refine k_scr (j := j) (k := 3) s1 rfl n_add (by omega) ?_
  refine k_n 4 (pc' := 644) (L' := z_lw (Int32.ofNat j)) (S' := [.int ((Int32.ofNat j) + (4 : Int32)), .retAddr 19, .int (xs (j + 3)), .int (xs (j + 2)), .int (xs (j + 1)), .ref 27, .int v1]) (h' := h1) rfl ?_
  refine k_scr (j := j) (k := 4) s1 rfl n_add (by omega) ?_
  refine k_cI 182 5 rfl rfl rfl (A := [.ref 27, .int (xs (j + 1)), .int (xs (j + 2)), .int (xs (j + 3)), .int (xs (j + 4))]) rfl rfl (z_rok_ref s1.2.1) (rest := [.int v1]) rfl (z_tyI rfl rfl) ?_
  refine H1.mono (fun v2 h2 q => ?_)
  obtain ⟨e, H2⟩ := q
  subst e
  exact k_b (g := v2 = v2) (pc' := 1539) (L' := z_lw (Int32.ofNat j)) (S' := []) (pc2 := 651) (L2 := z_lw (Int32.ofNat j)) (S2 := []) (h' := h2) (h2 := h2) rfl rfl (fun _ => H2) (fun hc => absurd rfl hc)
theorem L_11 {xs : Nat → Int32} {Ls j : Nat} {h : zH} {Q : Int32 → zH → Prop} (s : Sq xs Ls h) (hj : j + 7 ≤ Ls) (H : ∀ x : Int64, KK z_pI 110 [.ref 0, .long x] h (fun v1 h1 => Sq xs Ls h1 ∧ KK z_pI 183 [.ref 27, .long x] h1 (fun v2 h2 => v2 = v1 ∧ KG z_pI 233 1539 (z_lw (Int32.ofNat j)) [] h2 Q))) : KG z_pI 233 653 (z_lw (Int32.ofNat j)) [] h Q := by
  have H := H ((((xs (j + 1)).toInt64 <<< ((32 : Int32).toInt64 &&& 63)) ||| ((xs (j + 2)).toInt64 &&& (Int64.ofInt 4294967295))))
  refine k_n 5 (pc' := 658) (L' := z_lw (Int32.ofNat j)) (S' := [.int ((Int32.ofNat j) + (1 : Int32)), .retAddr 19, .ref 0]) (h' := h) rfl ?_
  refine k_scr (j := j) (k := 1) s rfl n_add (by omega) ?_
  refine k_n 7 (pc' := 667) (L' := z_lw (Int32.ofNat j)) (S' := [.int ((Int32.ofNat j) + (2 : Int32)), .retAddr 19, .long ((xs (j + 1)).toInt64 <<< ((32 : Int32).toInt64 &&& 63)), .ref 0]) (h' := h) rfl ?_
  refine k_scr (j := j) (k := 2) s rfl n_add (by omega) ?_
  refine k_n 4 (pc' := 674) (L' := z_lw (Int32.ofNat j)) (S' := [.long (((xs (j + 1)).toInt64 <<< ((32 : Int32).toInt64 &&& 63)) ||| ((xs (j + 2)).toInt64 &&& (Int64.ofInt 4294967295))), .ref 0]) (h' := h) rfl ?_
  refine k_cI 110 2 rfl rfl rfl (A := [.ref 0, .long (((xs (j + 1)).toInt64 <<< ((32 : Int32).toInt64 &&& 63)) ||| ((xs (j + 2)).toInt64 &&& (Int64.ofInt 4294967295)))]) rfl rfl (z_rok_ref s.1) (rest := []) rfl (z_tyI rfl rfl) ?_
  refine H.mono (fun v1 h1 q => ?_)
  obtain ⟨s1, H1⟩ := q
  refine k_n 5 (pc' := 682) (L' := z_lw (Int32.ofNat j)) (S' := [.int ((Int32.ofNat j) + (1 : Int32)), .retAddr 19, .ref 27, .int v1]) (h' := h1) rfl ?_
  refine k_scr (j := j) (k := 1) s1 rfl n_add (by omega) ?_
  refine k_n 7 (pc' := 691) (L' := z_lw (Int32.ofNat j)) (S' := [.int ((Int32.ofNat j) + (2 : Int32)), .retAddr 19, .long ((xs (j + 1)).toInt64 <<< ((32 : Int32).toInt64 &&& 63)), .ref 27, .int v1]) (h' := h1) rfl ?_
  refine k_scr (j := j) (k := 2) s1 rfl n_add (by omega) ?_
  refine k_n 4 (pc' := 698) (L' := z_lw (Int32.ofNat j)) (S' := [.long (((xs (j + 1)).toInt64 <<< ((32 : Int32).toInt64 &&& 63)) ||| ((xs (j + 2)).toInt64 &&& (Int64.ofInt 4294967295))), .ref 27, .int v1]) (h' := h1) rfl ?_
  refine k_cI 183 2 rfl rfl rfl (A := [.ref 27, .long (((xs (j + 1)).toInt64 <<< ((32 : Int32).toInt64 &&& 63)) ||| ((xs (j + 2)).toInt64 &&& (Int64.ofInt 4294967295)))]) rfl rfl (z_rok_ref s1.2.1) (rest := [.int v1]) rfl (z_tyI rfl rfl) ?_
  refine H1.mono (fun v2 h2 q => ?_)
  obtain ⟨e, H2⟩ := q
  subst e
  exact k_b (g := v2 = v2) (pc' := 1539) (L' := z_lw (Int32.ofNat j)) (S' := []) (pc2 := 704) (L2 := z_lw (Int32.ofNat j)) (S2 := []) (h' := h2) (h2 := h2) rfl rfl (fun _ => H2) (fun hc => absurd rfl hc)
theorem L_12 {xs : Nat → Int32} {Ls j : Nat} {h : zH} {Q : Int32 → zH → Prop} (s : Sq xs Ls h) (hj : j + 7 ≤ Ls) (H : KK z_pI 111 [.ref 0, .int (xs (j + 1))] h (fun v1 h1 => Sq xs Ls h1 ∧ KK z_pI 184 [.ref 27, .int (xs (j + 1))] h1 (fun v2 h2 => v2 = v1 ∧ KG z_pI 233 1539 (z_lw (Int32.ofNat j)) [] h2 Q))) : KG z_pI 233 706 (z_lw (Int32.ofNat j)) [] h Q := by
  refine k_n 5 (pc' := 711) (L' := z_lw (Int32.ofNat j)) (S' := [.int ((Int32.ofNat j) + (1 : Int32)), .retAddr 19, .ref 0]) (h' := h) rfl ?_
  refine k_scr (j := j) (k := 1) s rfl n_add (by omega) ?_
  refine k_cI 111 2 rfl rfl rfl (A := [.ref 0, .int (xs (j + 1))]) rfl rfl (z_rok_ref s.1) (rest := []) rfl (z_tyI rfl rfl) ?_
  refine H.mono (fun v1 h1 q => ?_)
  obtain ⟨s1, H1⟩ := q
  refine k_n 5 (pc' := 720) (L' := z_lw (Int32.ofNat j)) (S' := [.int ((Int32.ofNat j) + (1 : Int32)), .retAddr 19, .ref 27, .int v1]) (h' := h1) rfl ?_
  refine k_scr (j := j) (k := 1) s1 rfl n_add (by omega) ?_
  refine k_cI 184 2 rfl rfl rfl (A := [.ref 27, .int (xs (j + 1))]) rfl rfl (z_rok_ref s1.2.1) (rest := [.int v1]) rfl (z_tyI rfl rfl) ?_
  refine H1.mono (fun v2 h2 q => ?_)
  obtain ⟨e, H2⟩ := q
  subst e
  exact k_b (g := v2 = v2) (pc' := 1539) (L' := z_lw (Int32.ofNat j)) (S' := []) (pc2 := 727) (L2 := z_lw (Int32.ofNat j)) (S2 := []) (h' := h2) (h2 := h2) rfl rfl (fun _ => H2) (fun hc => absurd rfl hc)
theorem L_13 {xs : Nat → Int32} {Ls j : Nat} {h : zH} {Q : Int32 → zH → Prop} (s : Sq xs Ls h) (hj : j + 7 ≤ Ls) (H : KK z_pI 112 [.ref 0] h (fun v1 h1 => Sq xs Ls h1 ∧ KK z_pI 195 [.ref 27] h1 (fun v2 h2 => v2 = v1 ∧ KG z_pI 233 1539 (z_lw (Int32.ofNat j)) [] h2 Q))) : KG z_pI 233 729 (z_lw (Int32.ofNat j)) [] h Q := by
  refine k_n 1 (pc' := 730) (L' := z_lw (Int32.ofNat j)) (S' := [.ref 0]) (h' := h) rfl ?_
  refine k_cI 112 1 rfl rfl rfl (A := [.ref 0]) rfl rfl (z_rok_ref s.1) (rest := []) rfl (z_tyI rfl rfl) ?_
  refine H.mono (fun v1 h1 q => ?_)
  obtain ⟨s1, H1⟩ := q
  refine k_n 1 (pc' := 734) (L' := z_lw (Int32.ofNat j)) (S' := [.ref 27, .int v1]) (h' := h1) rfl ?_
  refine k_cI 195 1 rfl rfl rfl (A := [.ref 27]) rfl rfl (z_rok_ref s1.2.1) (rest := [.int v1]) rfl (z_tyI rfl rfl) ?_
  refine H1.mono (fun v2 h2 q => ?_)
  obtain ⟨e, H2⟩ := q
  subst e
  exact k_b (g := v2 = v2) (pc' := 1539) (L' := z_lw (Int32.ofNat j)) (S' := []) (pc2 := 740) (L2 := z_lw (Int32.ofNat j)) (S2 := []) (h' := h2) (h2 := h2) rfl rfl (fun _ => H2) (fun hc => absurd rfl hc)
theorem L_14 {xs : Nat → Int32} {Ls j : Nat} {h : zH} {Q : Int32 → zH → Prop} (s : Sq xs Ls h) (hj : j + 7 ≤ Ls) (H : KK z_pI 113 [.ref 0] h (fun v1 h1 => Sq xs Ls h1 ∧ KK z_pI 196 [.ref 27] h1 (fun v2 h2 => v2 = v1 ∧ KG z_pI 233 1539 (z_lw (Int32.ofNat j)) [] h2 Q))) : KG z_pI 233 742 (z_lw (Int32.ofNat j)) [] h Q := by
  refine k_n 1 (pc' := 743) (L' := z_lw (Int32.ofNat j)) (S' := [.ref 0]) (h' := h) rfl ?_
  refine k_cI 113 1 rfl rfl rfl (A := [.ref 0]) rfl rfl (z_rok_ref s.1) (rest := []) rfl (z_tyI rfl rfl) ?_
  refine H.mono (fun v1 h1 q => ?_)
  obtain ⟨s1, H1⟩ := q
  refine k_n 1 (pc' := 747) (L' := z_lw (Int32.ofNat j)) (S' := [.ref 27, .int v1]) (h' := h1) rfl ?_
  refine k_cI 196 1 rfl rfl rfl (A := [.ref 27]) rfl rfl (z_rok_ref s1.2.1) (rest := [.int v1]) rfl (z_tyI rfl rfl) ?_
  refine H1.mono (fun v2 h2 q => ?_)
  obtain ⟨e, H2⟩ := q
  subst e
  exact k_b (g := v2 = v2) (pc' := 1539) (L' := z_lw (Int32.ofNat j)) (S' := []) (pc2 := 753) (L2 := z_lw (Int32.ofNat j)) (S2 := []) (h' := h2) (h2 := h2) rfl rfl (fun _ => H2) (fun hc => absurd rfl hc)
theorem L_15 {xs : Nat → Int32} {Ls j : Nat} {h : zH} {Q : Int32 → zH → Prop} (s : Sq xs Ls h) (hj : j + 7 ≤ Ls) (H : KK z_pI 114 [.ref 0, .int (xs (j + 1)), .int (xs (j + 2)), .int (xs (j + 3))] h (fun v1 h1 => Sq xs Ls h1 ∧ KK z_pI 200 [.ref 27, .int (xs (j + 1)), .int (xs (j + 2)), .int (xs (j + 3))] h1 (fun v2 h2 => v2 = v1 ∧ KG z_pI 233 1539 (z_lw (Int32.ofNat j)) [] h2 Q))) : KG z_pI 233 755 (z_lw (Int32.ofNat j)) [] h Q := by
  refine k_n 5 (pc' := 760) (L' := z_lw (Int32.ofNat j)) (S' := [.int ((Int32.ofNat j) + (1 : Int32)), .retAddr 19, .ref 0]) (h' := h) rfl ?_
  refine k_scr (j := j) (k := 1) s rfl n_add (by omega) ?_
  refine k_n 4 (pc' := 765) (L' := z_lw (Int32.ofNat j)) (S' := [.int ((Int32.ofNat j) + (2 : Int32)), .retAddr 19, .int (xs (j + 1)), .ref 0]) (h' := h) rfl ?_
  refine k_scr (j := j) (k := 2) s rfl n_add (by omega) ?_
  refine k_n 4 (pc' := 770) (L' := z_lw (Int32.ofNat j)) (S' := [.int ((Int32.ofNat j) + (3 : Int32)), .retAddr 19, .int (xs (j + 2)), .int (xs (j + 1)), .ref 0]) (h' := h) rfl ?_
  refine k_scr (j := j) (k := 3) s rfl n_add (by omega) ?_
  refine k_cI 114 4 rfl rfl rfl (A := [.ref 0, .int (xs (j + 1)), .int (xs (j + 2)), .int (xs (j + 3))]) rfl rfl (z_rok_ref s.1) (rest := []) rfl (z_tyI rfl rfl) ?_
  refine H.mono (fun v1 h1 q => ?_)
  obtain ⟨s1, H1⟩ := q
  refine k_n 5 (pc' := 779) (L' := z_lw (Int32.ofNat j)) (S' := [.int ((Int32.ofNat j) + (1 : Int32)), .retAddr 19, .ref 27, .int v1]) (h' := h1) rfl ?_
  refine k_scr (j := j) (k := 1) s1 rfl n_add (by omega) ?_
  refine k_n 4 (pc' := 784) (L' := z_lw (Int32.ofNat j)) (S' := [.int ((Int32.ofNat j) + (2 : Int32)), .retAddr 19, .int (xs (j + 1)), .ref 27, .int v1]) (h' := h1) rfl ?_
  refine k_scr (j := j) (k := 2) s1 rfl n_add (by omega) ?_
  refine k_n 4 (pc' := 789) (L' := z_lw (Int32.ofNat j)) (S' := [.int ((Int32.ofNat j) + (3 : Int32)), .retAddr 19, .int (xs (j + 2)), .int (xs (j + 1)), .ref 27, .int v1]) (h' := h1) rfl ?_
  refine k_scr (j := j) (k := 3) s1 rfl n_add (by omega) ?_
  refine k_cI 200 4 rfl rfl rfl (A := [.ref 27, .int (xs (j + 1)), .int (xs (j + 2)), .int (xs (j + 3))]) rfl rfl (z_rok_ref s1.2.1) (rest := [.int v1]) rfl (z_tyI rfl rfl) ?_
  refine H1.mono (fun v2 h2 q => ?_)
  obtain ⟨e, H2⟩ := q
  subst e
  exact k_b (g := v2 = v2) (pc' := 1539) (L' := z_lw (Int32.ofNat j)) (S' := []) (pc2 := 796) (L2 := z_lw (Int32.ofNat j)) (S2 := []) (h' := h2) (h2 := h2) rfl rfl (fun _ => H2) (fun hc => absurd rfl hc)
theorem L_16 {xs : Nat → Int32} {Ls j : Nat} {h : zH} {Q : Int32 → zH → Prop} (s : Sq xs Ls h) (hj : j + 7 ≤ Ls) (H : KK z_pI 115 [.ref 0, .int (xs (j + 1))] h (fun v1 h1 => Sq xs Ls h1 ∧ KK z_pI 201 [.ref 27, .int (xs (j + 1))] h1 (fun v2 h2 => v2 = v1 ∧ KG z_pI 233 1539 (z_lw (Int32.ofNat j)) [] h2 Q))) : KG z_pI 233 798 (z_lw (Int32.ofNat j)) [] h Q := by
  refine k_n 5 (pc' := 803) (L' := z_lw (Int32.ofNat j)) (S' := [.int ((Int32.ofNat j) + (1 : Int32)), .retAddr 19, .ref 0]) (h' := h) rfl ?_
  refine k_scr (j := j) (k := 1) s rfl n_add (by omega) ?_
  refine k_cI 115 2 rfl rfl rfl (A := [.ref 0, .int (xs (j + 1))]) rfl rfl (z_rok_ref s.1) (rest := []) rfl (z_tyI rfl rfl) ?_
  refine H.mono (fun v1 h1 q => ?_)
  obtain ⟨s1, H1⟩ := q
  refine k_n 5 (pc' := 812) (L' := z_lw (Int32.ofNat j)) (S' := [.int ((Int32.ofNat j) + (1 : Int32)), .retAddr 19, .ref 27, .int v1]) (h' := h1) rfl ?_
  refine k_scr (j := j) (k := 1) s1 rfl n_add (by omega) ?_
  refine k_cI 201 2 rfl rfl rfl (A := [.ref 27, .int (xs (j + 1))]) rfl rfl (z_rok_ref s1.2.1) (rest := [.int v1]) rfl (z_tyI rfl rfl) ?_
  refine H1.mono (fun v2 h2 q => ?_)
  obtain ⟨e, H2⟩ := q
  subst e
  exact k_b (g := v2 = v2) (pc' := 1539) (L' := z_lw (Int32.ofNat j)) (S' := []) (pc2 := 819) (L2 := z_lw (Int32.ofNat j)) (S2 := []) (h' := h2) (h2 := h2) rfl rfl (fun _ => H2) (fun hc => absurd rfl hc)
theorem L_17 {xs : Nat → Int32} {Ls j : Nat} {h : zH} {Q : Int32 → zH → Prop} (s : Sq xs Ls h) (hj : j + 7 ≤ Ls) (H : KK z_pI 116 [.ref 0, .int (xs (j + 1)), .int (xs (j + 2))] h (fun v1 h1 => Sq xs Ls h1 ∧ KK z_pI 203 [.ref 27, .int (xs (j + 1)), .int (xs (j + 2))] h1 (fun v2 h2 => v2 = v1 ∧ KG z_pI 233 1539 (z_lw (Int32.ofNat j)) [] h2 Q))) : KG z_pI 233 821 (z_lw (Int32.ofNat j)) [] h Q := by
  refine k_n 5 (pc' := 826) (L' := z_lw (Int32.ofNat j)) (S' := [.int ((Int32.ofNat j) + (1 : Int32)), .retAddr 19, .ref 0]) (h' := h) rfl ?_
  refine k_scr (j := j) (k := 1) s rfl n_add (by omega) ?_
  refine k_n 4 (pc' := 831) (L' := z_lw (Int32.ofNat j)) (S' := [.int ((Int32.ofNat j) + (2 : Int32)), .retAddr 19, .int (xs (j + 1)), .ref 0]) (h' := h) rfl ?_
  refine k_scr (j := j) (k := 2) s rfl n_add (by omega) ?_
  refine k_cI 116 3 rfl rfl rfl (A := [.ref 0, .int (xs (j + 1)), .int (xs (j + 2))]) rfl rfl (z_rok_ref s.1) (rest := []) rfl (z_tyI rfl rfl) ?_
  refine H.mono (fun v1 h1 q => ?_)
  obtain ⟨s1, H1⟩ := q
  refine k_n 5 (pc' := 840) (L' := z_lw (Int32.ofNat j)) (S' := [.int ((Int32.ofNat j) + (1 : Int32)), .retAddr 19, .ref 27, .int v1]) (h' := h1) rfl ?_
  refine k_scr (j := j) (k := 1) s1 rfl n_add (by omega) ?_
  refine k_n 4 (pc' := 845) (L' := z_lw (Int32.ofNat j)) (S' := [.int ((Int32.ofNat j) + (2 : Int32)), .retAddr 19, .int (xs (j + 1)), .ref 27, .int v1]) (h' := h1) rfl ?_
  refine k_scr (j := j) (k := 2) s1 rfl n_add (by omega) ?_
  refine k_cI 203 3 rfl rfl rfl (A := [.ref 27, .int (xs (j + 1)), .int (xs (j + 2))]) rfl rfl (z_rok_ref s1.2.1) (rest := [.int v1]) rfl (z_tyI rfl rfl) ?_
  refine H1.mono (fun v2 h2 q => ?_)
  obtain ⟨e, H2⟩ := q
  subst e
  exact k_b (g := v2 = v2) (pc' := 1539) (L' := z_lw (Int32.ofNat j)) (S' := []) (pc2 := 852) (L2 := z_lw (Int32.ofNat j)) (S2 := []) (h' := h2) (h2 := h2) rfl rfl (fun _ => H2) (fun hc => absurd rfl hc)
theorem L_18 {xs : Nat → Int32} {Ls j : Nat} {h : zH} {Q : Int32 → zH → Prop} (s : Sq xs Ls h) (hj : j + 7 ≤ Ls) (H : KK z_pI 117 [.ref 0, .int (xs (j + 1)), .int (xs (j + 2))] h (fun v1 h1 => Sq xs Ls h1 ∧ KK z_pI 206 [.ref 27, .int (xs (j + 1)), .int (xs (j + 2))] h1 (fun v2 h2 => v2 = v1 ∧ KG z_pI 233 1539 (z_lw (Int32.ofNat j)) [] h2 Q))) : KG z_pI 233 854 (z_lw (Int32.ofNat j)) [] h Q := by
  refine k_n 5 (pc' := 859) (L' := z_lw (Int32.ofNat j)) (S' := [.int ((Int32.ofNat j) + (1 : Int32)), .retAddr 19, .ref 0]) (h' := h) rfl ?_
  refine k_scr (j := j) (k := 1) s rfl n_add (by omega) ?_
  refine k_n 4 (pc' := 864) (L' := z_lw (Int32.ofNat j)) (S' := [.int ((Int32.ofNat j) + (2 : Int32)), .retAddr 19, .int (xs (j + 1)), .ref 0]) (h' := h) rfl ?_
  refine k_scr (j := j) (k := 2) s rfl n_add (by omega) ?_
  refine k_cI 117 3 rfl rfl rfl (A := [.ref 0, .int (xs (j + 1)), .int (xs (j + 2))]) rfl rfl (z_rok_ref s.1) (rest := []) rfl (z_tyI rfl rfl) ?_
  refine H.mono (fun v1 h1 q => ?_)
  obtain ⟨s1, H1⟩ := q
  refine k_n 5 (pc' := 873) (L' := z_lw (Int32.ofNat j)) (S' := [.int ((Int32.ofNat j) + (1 : Int32)), .retAddr 19, .ref 27, .int v1]) (h' := h1) rfl ?_
  refine k_scr (j := j) (k := 1) s1 rfl n_add (by omega) ?_
  refine k_n 4 (pc' := 878) (L' := z_lw (Int32.ofNat j)) (S' := [.int ((Int32.ofNat j) + (2 : Int32)), .retAddr 19, .int (xs (j + 1)), .ref 27, .int v1]) (h' := h1) rfl ?_
  refine k_scr (j := j) (k := 2) s1 rfl n_add (by omega) ?_
  refine k_cI 206 3 rfl rfl rfl (A := [.ref 27, .int (xs (j + 1)), .int (xs (j + 2))]) rfl rfl (z_rok_ref s1.2.1) (rest := [.int v1]) rfl (z_tyI rfl rfl) ?_
  refine H1.mono (fun v2 h2 q => ?_)
  obtain ⟨e, H2⟩ := q
  subst e
  exact k_b (g := v2 = v2) (pc' := 1539) (L' := z_lw (Int32.ofNat j)) (S' := []) (pc2 := 885) (L2 := z_lw (Int32.ofNat j)) (S2 := []) (h' := h2) (h2 := h2) rfl rfl (fun _ => H2) (fun hc => absurd rfl hc)
theorem L_19 {xs : Nat → Int32} {Ls j : Nat} {h : zH} {Q : Int32 → zH → Prop} (s : Sq xs Ls h) (hj : j + 7 ≤ Ls) (H : KK z_pI 118 [.ref 0, .int (xs (j + 1)), .int (xs (j + 2))] h (fun v1 h1 => Sq xs Ls h1 ∧ KK z_pI 207 [.ref 27, .int (xs (j + 1)), .int (xs (j + 2))] h1 (fun v2 h2 => v2 = v1 ∧ KG z_pI 233 1539 (z_lw (Int32.ofNat j)) [] h2 Q))) : KG z_pI 233 887 (z_lw (Int32.ofNat j)) [] h Q := by
  refine k_n 5 (pc' := 892) (L' := z_lw (Int32.ofNat j)) (S' := [.int ((Int32.ofNat j) + (1 : Int32)), .retAddr 19, .ref 0]) (h' := h) rfl ?_
  refine k_scr (j := j) (k := 1) s rfl n_add (by omega) ?_
  refine k_n 4 (pc' := 897) (L' := z_lw (Int32.ofNat j)) (S' := [.int ((Int32.ofNat j) + (2 : Int32)), .retAddr 19, .int (xs (j + 1)), .ref 0]) (h' := h) rfl ?_
  refine k_scr (j := j) (k := 2) s rfl n_add (by omega) ?_
  refine k_cI 118 3 rfl rfl rfl (A := [.ref 0, .int (xs (j + 1)), .int (xs (j + 2))]) rfl rfl (z_rok_ref s.1) (rest := []) rfl (z_tyI rfl rfl) ?_
  refine H.mono (fun v1 h1 q => ?_)
  obtain ⟨s1, H1⟩ := q
  refine k_n 5 (pc' := 906) (L' := z_lw (Int32.ofNat j)) (S' := [.int ((Int32.ofNat j) + (1 : Int32)), .retAddr 19, .ref 27, .int v1]) (h' := h1) rfl ?_
  refine k_scr (j := j) (k := 1) s1 rfl n_add (by omega) ?_
  refine k_n 4 (pc' := 911) (L' := z_lw (Int32.ofNat j)) (S' := [.int ((Int32.ofNat j) + (2 : Int32)), .retAddr 19, .int (xs (j + 1)), .ref 27, .int v1]) (h' := h1) rfl ?_
  refine k_scr (j := j) (k := 2) s1 rfl n_add (by omega) ?_
  refine k_cI 207 3 rfl rfl rfl (A := [.ref 27, .int (xs (j + 1)), .int (xs (j + 2))]) rfl rfl (z_rok_ref s1.2.1) (rest := [.int v1]) rfl (z_tyI rfl rfl) ?_
  refine H1.mono (fun v2 h2 q => ?_)
  obtain ⟨e, H2⟩ := q
  subst e
  exact k_b (g := v2 = v2) (pc' := 1539) (L' := z_lw (Int32.ofNat j)) (S' := []) (pc2 := 918) (L2 := z_lw (Int32.ofNat j)) (S2 := []) (h' := h2) (h2 := h2) rfl rfl (fun _ => H2) (fun hc => absurd rfl hc)
theorem L_20 {xs : Nat → Int32} {Ls j : Nat} {h : zH} {Q : Int32 → zH → Prop} (s : Sq xs Ls h) (hj : j + 7 ≤ Ls) (H : KK z_pI 119 [.ref 0, .int (xs (j + 1)), .int (xs (j + 2))] h (fun v1 h1 => Sq xs Ls h1 ∧ KK z_pI 208 [.ref 27, .int (xs (j + 1)), .int (xs (j + 2))] h1 (fun v2 h2 => v2 = v1 ∧ KG z_pI 233 1539 (z_lw (Int32.ofNat j)) [] h2 Q))) : KG z_pI 233 920 (z_lw (Int32.ofNat j)) [] h Q := by
  refine k_n 5 (pc' := 925) (L' := z_lw (Int32.ofNat j)) (S' := [.int ((Int32.ofNat j) + (1 : Int32)), .retAddr 19, .ref 0]) (h' := h) rfl ?_
  refine k_scr (j := j) (k := 1) s rfl n_add (by omega) ?_
  refine k_n 4 (pc' := 930) (L' := z_lw (Int32.ofNat j)) (S' := [.int ((Int32.ofNat j) + (2 : Int32)), .retAddr 19, .int (xs (j + 1)), .ref 0]) (h' := h) rfl ?_
  refine k_scr (j := j) (k := 2) s rfl n_add (by omega) ?_
  refine k_cI 119 3 rfl rfl rfl (A := [.ref 0, .int (xs (j + 1)), .int (xs (j + 2))]) rfl rfl (z_rok_ref s.1) (rest := []) rfl (z_tyI rfl rfl) ?_
  refine H.mono (fun v1 h1 q => ?_)
  obtain ⟨s1, H1⟩ := q
  refine k_n 5 (pc' := 939) (L' := z_lw (Int32.ofNat j)) (S' := [.int ((Int32.ofNat j) + (1 : Int32)), .retAddr 19, .ref 27, .int v1]) (h' := h1) rfl ?_
  refine k_scr (j := j) (k := 1) s1 rfl n_add (by omega) ?_
  refine k_n 4 (pc' := 944) (L' := z_lw (Int32.ofNat j)) (S' := [.int ((Int32.ofNat j) + (2 : Int32)), .retAddr 19, .int (xs (j + 1)), .ref 27, .int v1]) (h' := h1) rfl ?_
  refine k_scr (j := j) (k := 2) s1 rfl n_add (by omega) ?_
  refine k_cI 208 3 rfl rfl rfl (A := [.ref 27, .int (xs (j + 1)), .int (xs (j + 2))]) rfl rfl (z_rok_ref s1.2.1) (rest := [.int v1]) rfl (z_tyI rfl rfl) ?_
  refine H1.mono (fun v2 h2 q => ?_)
  obtain ⟨e, H2⟩ := q
  subst e
  exact k_b (g := v2 = v2) (pc' := 1539) (L' := z_lw (Int32.ofNat j)) (S' := []) (pc2 := 951) (L2 := z_lw (Int32.ofNat j)) (S2 := []) (h' := h2) (h2 := h2) rfl rfl (fun _ => H2) (fun hc => absurd rfl hc)
theorem L_21 {xs : Nat → Int32} {Ls j : Nat} {h : zH} {Q : Int32 → zH → Prop} (s : Sq xs Ls h) (hj : j + 7 ≤ Ls) (H : KK z_pI 120 [.ref 0, .int (xs (j + 1))] h (fun v1 h1 => Sq xs Ls h1 ∧ KK z_pI 209 [.ref 27, .int (xs (j + 1))] h1 (fun v2 h2 => v2 = v1 ∧ KG z_pI 233 1539 (z_lw (Int32.ofNat j)) [] h2 Q))) : KG z_pI 233 953 (z_lw (Int32.ofNat j)) [] h Q := by
  refine k_n 5 (pc' := 958) (L' := z_lw (Int32.ofNat j)) (S' := [.int ((Int32.ofNat j) + (1 : Int32)), .retAddr 19, .ref 0]) (h' := h) rfl ?_
  refine k_scr (j := j) (k := 1) s rfl n_add (by omega) ?_
  refine k_cI 120 2 rfl rfl rfl (A := [.ref 0, .int (xs (j + 1))]) rfl rfl (z_rok_ref s.1) (rest := []) rfl (z_tyI rfl rfl) ?_
  refine H.mono (fun v1 h1 q => ?_)
  obtain ⟨s1, H1⟩ := q
  refine k_n 5 (pc' := 967) (L' := z_lw (Int32.ofNat j)) (S' := [.int ((Int32.ofNat j) + (1 : Int32)), .retAddr 19, .ref 27, .int v1]) (h' := h1) rfl ?_
  refine k_scr (j := j) (k := 1) s1 rfl n_add (by omega) ?_
  refine k_cI 209 2 rfl rfl rfl (A := [.ref 27, .int (xs (j + 1))]) rfl rfl (z_rok_ref s1.2.1) (rest := [.int v1]) rfl (z_tyI rfl rfl) ?_
  refine H1.mono (fun v2 h2 q => ?_)
  obtain ⟨e, H2⟩ := q
  subst e
  exact k_b (g := v2 = v2) (pc' := 1539) (L' := z_lw (Int32.ofNat j)) (S' := []) (pc2 := 974) (L2 := z_lw (Int32.ofNat j)) (S2 := []) (h' := h2) (h2 := h2) rfl rfl (fun _ => H2) (fun hc => absurd rfl hc)
theorem L_22 {xs : Nat → Int32} {Ls j : Nat} {h : zH} {Q : Int32 → zH → Prop} (s : Sq xs Ls h) (hj : j + 7 ≤ Ls) (H : KK z_pI 121 [.ref 0, .int (xs (j + 1))] h (fun v1 h1 => Sq xs Ls h1 ∧ KK z_pI 210 [.ref 27, .int (xs (j + 1))] h1 (fun v2 h2 => v2 = v1 ∧ KG z_pI 233 1539 (z_lw (Int32.ofNat j)) [] h2 Q))) : KG z_pI 233 976 (z_lw (Int32.ofNat j)) [] h Q := by
  refine k_n 5 (pc' := 981) (L' := z_lw (Int32.ofNat j)) (S' := [.int ((Int32.ofNat j) + (1 : Int32)), .retAddr 19, .ref 0]) (h' := h) rfl ?_
  refine k_scr (j := j) (k := 1) s rfl n_add (by omega) ?_
  refine k_cI 121 2 rfl rfl rfl (A := [.ref 0, .int (xs (j + 1))]) rfl rfl (z_rok_ref s.1) (rest := []) rfl (z_tyI rfl rfl) ?_
  refine H.mono (fun v1 h1 q => ?_)
  obtain ⟨s1, H1⟩ := q
  refine k_n 5 (pc' := 990) (L' := z_lw (Int32.ofNat j)) (S' := [.int ((Int32.ofNat j) + (1 : Int32)), .retAddr 19, .ref 27, .int v1]) (h' := h1) rfl ?_
  refine k_scr (j := j) (k := 1) s1 rfl n_add (by omega) ?_
  refine k_cI 210 2 rfl rfl rfl (A := [.ref 27, .int (xs (j + 1))]) rfl rfl (z_rok_ref s1.2.1) (rest := [.int v1]) rfl (z_tyI rfl rfl) ?_
  refine H1.mono (fun v2 h2 q => ?_)
  obtain ⟨e, H2⟩ := q
  subst e
  exact k_b (g := v2 = v2) (pc' := 1539) (L' := z_lw (Int32.ofNat j)) (S' := []) (pc2 := 997) (L2 := z_lw (Int32.ofNat j)) (S2 := []) (h' := h2) (h2 := h2) rfl rfl (fun _ => H2) (fun hc => absurd rfl hc)
theorem L_23 {xs : Nat → Int32} {Ls j : Nat} {h : zH} {Q : Int32 → zH → Prop} (s : Sq xs Ls h) (hj : j + 7 ≤ Ls) (H : KK z_pI 122 [.ref 0, .int (xs (j + 1)), .int (xs (j + 2)), .int (xs (j + 3))] h (fun v1 h1 => Sq xs Ls h1 ∧ KK z_pI 212 [.ref 27, .int (xs (j + 1)), .int (xs (j + 2)), .int (xs (j + 3))] h1 (fun v2 h2 => v2 = v1 ∧ KG z_pI 233 1539 (z_lw (Int32.ofNat j)) [] h2 Q))) : KG z_pI 233 999 (z_lw (Int32.ofNat j)) [] h Q := by
  refine k_n 5 (pc' := 1004) (L' := z_lw (Int32.ofNat j)) (S' := [.int ((Int32.ofNat j) + (1 : Int32)), .retAddr 19, .ref 0]) (h' := h) rfl ?_
  refine k_scr (j := j) (k := 1) s rfl n_add (by omega) ?_
  refine k_n 4 (pc' := 1009) (L' := z_lw (Int32.ofNat j)) (S' := [.int ((Int32.ofNat j) + (2 : Int32)), .retAddr 19, .int (xs (j + 1)), .ref 0]) (h' := h) rfl ?_
  refine k_scr (j := j) (k := 2) s rfl n_add (by omega) ?_
  refine k_n 4 (pc' := 1014) (L' := z_lw (Int32.ofNat j)) (S' := [.int ((Int32.ofNat j) + (3 : Int32)), .retAddr 19, .int (xs (j + 2)), .int (xs (j + 1)), .ref 0]) (h' := h) rfl ?_
  refine k_scr (j := j) (k := 3) s rfl n_add (by omega) ?_
  refine k_cI 122 4 rfl rfl rfl (A := [.ref 0, .int (xs (j + 1)), .int (xs (j + 2)), .int (xs (j + 3))]) rfl rfl (z_rok_ref s.1) (rest := []) rfl (z_tyI rfl rfl) ?_
  refine H.mono (fun v1 h1 q => ?_)
  obtain ⟨s1, H1⟩ := q
  refine k_n 5 (pc' := 1023) (L' := z_lw (Int32.ofNat j)) (S' := [.int ((Int32.ofNat j) + (1 : Int32)), .retAddr 19, .ref 27, .int v1]) (h' := h1) rfl ?_
  refine k_scr (j := j) (k := 1) s1 rfl n_add (by omega) ?_
  refine k_n 4 (pc' := 1028) (L' := z_lw (Int32.ofNat j)) (S' := [.int ((Int32.ofNat j) + (2 : Int32)), .retAddr 19, .int (xs (j + 1)), .ref 27, .int v1]) (h' := h1) rfl ?_
  refine k_scr (j := j) (k := 2) s1 rfl n_add (by omega) ?_
  refine k_n 4 (pc' := 1033) (L' := z_lw (Int32.ofNat j)) (S' := [.int ((Int32.ofNat j) + (3 : Int32)), .retAddr 19, .int (xs (j + 2)), .int (xs (j + 1)), .ref 27, .int v1]) (h' := h1) rfl ?_
  refine k_scr (j := j) (k := 3) s1 rfl n_add (by omega) ?_
  refine k_cI 212 4 rfl rfl rfl (A := [.ref 27, .int (xs (j + 1)), .int (xs (j + 2)), .int (xs (j + 3))]) rfl rfl (z_rok_ref s1.2.1) (rest := [.int v1]) rfl (z_tyI rfl rfl) ?_
  refine H1.mono (fun v2 h2 q => ?_)
  obtain ⟨e, H2⟩ := q
  subst e
  exact k_b (g := v2 = v2) (pc' := 1539) (L' := z_lw (Int32.ofNat j)) (S' := []) (pc2 := 1040) (L2 := z_lw (Int32.ofNat j)) (S2 := []) (h' := h2) (h2 := h2) rfl rfl (fun _ => H2) (fun hc => absurd rfl hc)
theorem L_24 {xs : Nat → Int32} {Ls j : Nat} {h : zH} {Q : Int32 → zH → Prop} (s : Sq xs Ls h) (hj : j + 7 ≤ Ls) (H : KK z_pI 123 [.ref 0, .int (xs (j + 1)), .int (xs (j + 2)), .int (xs (j + 3))] h (fun v1 h1 => Sq xs Ls h1 ∧ KK z_pI 213 [.ref 27, .int (xs (j + 1)), .int (xs (j + 2)), .int (xs (j + 3))] h1 (fun v2 h2 => v2 = v1 ∧ KG z_pI 233 1539 (z_lw (Int32.ofNat j)) [] h2 Q))) : KG z_pI 233 1042 (z_lw (Int32.ofNat j)) [] h Q := by
  refine k_n 5 (pc' := 1047) (L' := z_lw (Int32.ofNat j)) (S' := [.int ((Int32.ofNat j) + (1 : Int32)), .retAddr 19, .ref 0]) (h' := h) rfl ?_
  refine k_scr (j := j) (k := 1) s rfl n_add (by omega) ?_
  refine k_n 4 (pc' := 1052) (L' := z_lw (Int32.ofNat j)) (S' := [.int ((Int32.ofNat j) + (2 : Int32)), .retAddr 19, .int (xs (j + 1)), .ref 0]) (h' := h) rfl ?_
  refine k_scr (j := j) (k := 2) s rfl n_add (by omega) ?_
  refine k_n 4 (pc' := 1057) (L' := z_lw (Int32.ofNat j)) (S' := [.int ((Int32.ofNat j) + (3 : Int32)), .retAddr 19, .int (xs (j + 2)), .int (xs (j + 1)), .ref 0]) (h' := h) rfl ?_
  refine k_scr (j := j) (k := 3) s rfl n_add (by omega) ?_
  refine k_cI 123 4 rfl rfl rfl (A := [.ref 0, .int (xs (j + 1)), .int (xs (j + 2)), .int (xs (j + 3))]) rfl rfl (z_rok_ref s.1) (rest := []) rfl (z_tyI rfl rfl) ?_
  refine H.mono (fun v1 h1 q => ?_)
  obtain ⟨s1, H1⟩ := q
  refine k_n 5 (pc' := 1066) (L' := z_lw (Int32.ofNat j)) (S' := [.int ((Int32.ofNat j) + (1 : Int32)), .retAddr 19, .ref 27, .int v1]) (h' := h1) rfl ?_
  refine k_scr (j := j) (k := 1) s1 rfl n_add (by omega) ?_
  refine k_n 4 (pc' := 1071) (L' := z_lw (Int32.ofNat j)) (S' := [.int ((Int32.ofNat j) + (2 : Int32)), .retAddr 19, .int (xs (j + 1)), .ref 27, .int v1]) (h' := h1) rfl ?_
  refine k_scr (j := j) (k := 2) s1 rfl n_add (by omega) ?_
  refine k_n 4 (pc' := 1076) (L' := z_lw (Int32.ofNat j)) (S' := [.int ((Int32.ofNat j) + (3 : Int32)), .retAddr 19, .int (xs (j + 2)), .int (xs (j + 1)), .ref 27, .int v1]) (h' := h1) rfl ?_
  refine k_scr (j := j) (k := 3) s1 rfl n_add (by omega) ?_
  refine k_cI 213 4 rfl rfl rfl (A := [.ref 27, .int (xs (j + 1)), .int (xs (j + 2)), .int (xs (j + 3))]) rfl rfl (z_rok_ref s1.2.1) (rest := [.int v1]) rfl (z_tyI rfl rfl) ?_
  refine H1.mono (fun v2 h2 q => ?_)
  obtain ⟨e, H2⟩ := q
  subst e
  exact k_b (g := v2 = v2) (pc' := 1539) (L' := z_lw (Int32.ofNat j)) (S' := []) (pc2 := 1083) (L2 := z_lw (Int32.ofNat j)) (S2 := []) (h' := h2) (h2 := h2) rfl rfl (fun _ => H2) (fun hc => absurd rfl hc)
theorem L_25 {xs : Nat → Int32} {Ls j : Nat} {h : zH} {Q : Int32 → zH → Prop} (s : Sq xs Ls h) (hj : j + 7 ≤ Ls) (H : KK z_pI 124 [.ref 0, .int (xs (j + 1)), .int (xs (j + 2)), .int (xs (j + 3))] h (fun v1 h1 => Sq xs Ls h1 ∧ KK z_pI 214 [.ref 27, .int (xs (j + 1)), .int (xs (j + 2)), .int (xs (j + 3))] h1 (fun v2 h2 => v2 = v1 ∧ KG z_pI 233 1539 (z_lw (Int32.ofNat j)) [] h2 Q))) : KG z_pI 233 1085 (z_lw (Int32.ofNat j)) [] h Q := by
  refine k_n 5 (pc' := 1090) (L' := z_lw (Int32.ofNat j)) (S' := [.int ((Int32.ofNat j) + (1 : Int32)), .retAddr 19, .ref 0]) (h' := h) rfl ?_
  refine k_scr (j := j) (k := 1) s rfl n_add (by omega) ?_
  refine k_n 4 (pc' := 1095) (L' := z_lw (Int32.ofNat j)) (S' := [.int ((Int32.ofNat j) + (2 : Int32)), .retAddr 19, .int (xs (j + 1)), .ref 0]) (h' := h) rfl ?_
  refine k_scr (j := j) (k := 2) s rfl n_add (by omega) ?_
  refine k_n 4 (pc' := 1100) (L' := z_lw (Int32.ofNat j)) (S' := [.int ((Int32.ofNat j) + (3 : Int32)), .retAddr 19, .int (xs (j + 2)), .int (xs (j + 1)), .ref 0]) (h' := h) rfl ?_
  refine k_scr (j := j) (k := 3) s rfl n_add (by omega) ?_
  refine k_cI 124 4 rfl rfl rfl (A := [.ref 0, .int (xs (j + 1)), .int (xs (j + 2)), .int (xs (j + 3))]) rfl rfl (z_rok_ref s.1) (rest := []) rfl (z_tyI rfl rfl) ?_
  refine H.mono (fun v1 h1 q => ?_)
  obtain ⟨s1, H1⟩ := q
  refine k_n 5 (pc' := 1109) (L' := z_lw (Int32.ofNat j)) (S' := [.int ((Int32.ofNat j) + (1 : Int32)), .retAddr 19, .ref 27, .int v1]) (h' := h1) rfl ?_
  refine k_scr (j := j) (k := 1) s1 rfl n_add (by omega) ?_
  refine k_n 4 (pc' := 1114) (L' := z_lw (Int32.ofNat j)) (S' := [.int ((Int32.ofNat j) + (2 : Int32)), .retAddr 19, .int (xs (j + 1)), .ref 27, .int v1]) (h' := h1) rfl ?_
  refine k_scr (j := j) (k := 2) s1 rfl n_add (by omega) ?_
  refine k_n 4 (pc' := 1119) (L' := z_lw (Int32.ofNat j)) (S' := [.int ((Int32.ofNat j) + (3 : Int32)), .retAddr 19, .int (xs (j + 2)), .int (xs (j + 1)), .ref 27, .int v1]) (h' := h1) rfl ?_
  refine k_scr (j := j) (k := 3) s1 rfl n_add (by omega) ?_
  refine k_cI 214 4 rfl rfl rfl (A := [.ref 27, .int (xs (j + 1)), .int (xs (j + 2)), .int (xs (j + 3))]) rfl rfl (z_rok_ref s1.2.1) (rest := [.int v1]) rfl (z_tyI rfl rfl) ?_
  refine H1.mono (fun v2 h2 q => ?_)
  obtain ⟨e, H2⟩ := q
  subst e
  exact k_b (g := v2 = v2) (pc' := 1539) (L' := z_lw (Int32.ofNat j)) (S' := []) (pc2 := 1126) (L2 := z_lw (Int32.ofNat j)) (S2 := []) (h' := h2) (h2 := h2) rfl rfl (fun _ => H2) (fun hc => absurd rfl hc)
theorem L_26 {xs : Nat → Int32} {Ls j : Nat} {h : zH} {Q : Int32 → zH → Prop} (s : Sq xs Ls h) (hj : j + 7 ≤ Ls) (H : KK z_pL 125 [.ref 0, .int (xs (j + 1)), .int (xs (j + 2)), .int (xs (j + 3)), .int (xs (j + 4)), .int (xs (j + 5))] h (fun v1 h1 => Sq xs Ls h1 ∧ KK z_pL 218 [.ref 27, .int (xs (j + 1)), .int (xs (j + 2)), .int (xs (j + 3)), .int (xs (j + 4)), .int (xs (j + 5))] h1 (fun v2 h2 => v2 = v1 ∧ KG z_pI 233 1539 (z_lw (Int32.ofNat j)) [] h2 Q))) : KG z_pI 233 1128 (z_lw (Int32.ofNat j)) [] h Q := by
  refine k_n 5 (pc' := 1133) (L' := z_lw (Int32.ofNat j)) (S' := [.int ((Int32.ofNat j) + (1 : Int32)), .retAddr 19, .ref 0]) (h' := h) rfl ?_
  refine k_scr (j := j) (k := 1) s rfl n_add (by omega) ?_
  refine k_n 4 (pc' := 1138) (L' := z_lw (Int32.ofNat j)) (S' := [.int ((Int32.ofNat j) + (2 : Int32)), .retAddr 19, .int (xs (j + 1)), .ref 0]) (h' := h) rfl ?_
  refine k_scr (j := j) (k := 2) s rfl n_add (by omega) ?_
  refine k_n 4 (pc' := 1143) (L' := z_lw (Int32.ofNat j)) (S' := [.int ((Int32.ofNat j) + (3 : Int32)), .retAddr 19, .int (xs (j + 2)), .int (xs (j + 1)), .ref 0]) (h' := h) rfl ?_
  refine k_scr (j := j) (k := 3) s rfl n_add (by omega) ?_
  refine k_n 4 (pc' := 1148) (L' := z_lw (Int32.ofNat j)) (S' := [.int ((Int32.ofNat j) + (4 : Int32)), .retAddr 19, .int (xs (j + 3)), .int (xs (j + 2)), .int (xs (j + 1)), .ref 0]) (h' := h) rfl ?_
  refine k_scr (j := j) (k := 4) s rfl n_add (by omega) ?_
  refine k_n 4 (pc' := 1153) (L' := z_lw (Int32.ofNat j)) (S' := [.int ((Int32.ofNat j) + (5 : Int32)), .retAddr 19, .int (xs (j + 4)), .int (xs (j + 3)), .int (xs (j + 2)), .int (xs (j + 1)), .ref 0]) (h' := h) rfl ?_
  refine k_scr (j := j) (k := 5) s rfl n_add (by omega) ?_
  refine k_cL 125 6 rfl rfl rfl (A := [.ref 0, .int (xs (j + 1)), .int (xs (j + 2)), .int (xs (j + 3)), .int (xs (j + 4)), .int (xs (j + 5))]) rfl rfl (z_rok_ref s.1) (rest := []) rfl rfl ?_
  refine H.mono (fun v1 h1 q => ?_)
  obtain ⟨s1, H1⟩ := q
  refine k_n 5 (pc' := 1162) (L' := z_lw (Int32.ofNat j)) (S' := [.int ((Int32.ofNat j) + (1 : Int32)), .retAddr 19, .ref 27, .long v1]) (h' := h1) rfl ?_
  refine k_scr (j := j) (k := 1) s1 rfl n_add (by omega) ?_
  refine k_n 4 (pc' := 1167) (L' := z_lw (Int32.ofNat j)) (S' := [.int ((Int32.ofNat j) + (2 : Int32)), .retAddr 19, .int (xs (j + 1)), .ref 27, .long v1]) (h' := h1) rfl ?_
  refine k_scr (j := j) (k := 2) s1 rfl n_add (by omega) ?_
  refine k_n 4 (pc' := 1172) (L' := z_lw (Int32.ofNat j)) (S' := [.int ((Int32.ofNat j) + (3 : Int32)), .retAddr 19, .int (xs (j + 2)), .int (xs (j + 1)), .ref 27, .long v1]) (h' := h1) rfl ?_
  refine k_scr (j := j) (k := 3) s1 rfl n_add (by omega) ?_
  refine k_n 4 (pc' := 1177) (L' := z_lw (Int32.ofNat j)) (S' := [.int ((Int32.ofNat j) + (4 : Int32)), .retAddr 19, .int (xs (j + 3)), .int (xs (j + 2)), .int (xs (j + 1)), .ref 27, .long v1]) (h' := h1) rfl ?_
  refine k_scr (j := j) (k := 4) s1 rfl n_add (by omega) ?_
  refine k_n 4 (pc' := 1182) (L' := z_lw (Int32.ofNat j)) (S' := [.int ((Int32.ofNat j) + (5 : Int32)), .retAddr 19, .int (xs (j + 4)), .int (xs (j + 3)), .int (xs (j + 2)), .int (xs (j + 1)), .ref 27, .long v1]) (h' := h1) rfl ?_
  refine k_scr (j := j) (k := 5) s1 rfl n_add (by omega) ?_
  refine k_cL 218 6 rfl rfl rfl (A := [.ref 27, .int (xs (j + 1)), .int (xs (j + 2)), .int (xs (j + 3)), .int (xs (j + 4)), .int (xs (j + 5))]) rfl rfl (z_rok_ref s1.2.1) (rest := [.long v1]) rfl rfl ?_
  refine H1.mono (fun v2 h2 q => ?_)
  obtain ⟨e, H2⟩ := q
  subst e
  refine k_n 1 (pc' := 1187) (L' := z_lw (Int32.ofNat j)) (S' := [.int (z_cmp v2 v2)]) (h' := h2) rfl ?_
  exact k_b (g := z_cmp v2 v2 = 0) (pc' := 1539) (L' := z_lw (Int32.ofNat j)) (S' := []) (pc2 := 1190) (L2 := z_lw (Int32.ofNat j)) (S2 := []) (h' := h2) (h2 := h2) rfl rfl (fun _ => H2) (fun hc => absurd (z_cmp_eq.mpr rfl) hc)
theorem L_27 {xs : Nat → Int32} {Ls j : Nat} {h : zH} {Q : Int32 → zH → Prop} (s : Sq xs Ls h) (hj : j + 7 ≤ Ls) (H : KK z_pI 126 [.ref 0, .int (xs (j + 1)), .int (xs (j + 2)), .int (xs (j + 3)), .int (xs (j + 4))] h (fun v1 h1 => Sq xs Ls h1 ∧ KK z_pI 219 [.ref 27, .int (xs (j + 1)), .int (xs (j + 2)), .int (xs (j + 3)), .int (xs (j + 4))] h1 (fun v2 h2 => v2 = v1 ∧ KG z_pI 233 1539 (z_lw (Int32.ofNat j)) [] h2 Q))) : KG z_pI 233 1192 (z_lw (Int32.ofNat j)) [] h Q := by
  refine k_n 5 (pc' := 1197) (L' := z_lw (Int32.ofNat j)) (S' := [.int ((Int32.ofNat j) + (1 : Int32)), .retAddr 19, .ref 0]) (h' := h) rfl ?_
  refine k_scr (j := j) (k := 1) s rfl n_add (by omega) ?_
  refine k_n 4 (pc' := 1202) (L' := z_lw (Int32.ofNat j)) (S' := [.int ((Int32.ofNat j) + (2 : Int32)), .retAddr 19, .int (xs (j + 1)), .ref 0]) (h' := h) rfl ?_
  refine k_scr (j := j) (k := 2) s rfl n_add (by omega) ?_
  refine k_n 4 (pc' := 1207) (L' := z_lw (Int32.ofNat j)) (S' := [.int ((Int32.ofNat j) + (3 : Int32)), .retAddr 19, .int (xs (j + 2)), .int (xs (j + 1)), .ref 0]) (h' := h) rfl ?_
  refine k_scr (j := j) (k := 3) s rfl n_add (by omega) ?_
  refine k_n 4 (pc' := 1212) (L' := z_lw (Int32.ofNat j)) (S' := [.int ((Int32.ofNat j) + (4 : Int32)), .retAddr 19, .int (xs (j + 3)), .int (xs (j + 2)), .int (xs (j + 1)), .ref 0]) (h' := h) rfl ?_
  refine k_scr (j := j) (k := 4) s rfl n_add (by omega) ?_
  refine k_cI 126 5 rfl rfl rfl (A := [.ref 0, .int (xs (j + 1)), .int (xs (j + 2)), .int (xs (j + 3)), .int (xs (j + 4))]) rfl rfl (z_rok_ref s.1) (rest := []) rfl (z_tyI rfl rfl) ?_
  refine H.mono (fun v1 h1 q => ?_)
  obtain ⟨s1, H1⟩ := q
  refine k_n 5 (pc' := 1221) (L' := z_lw (Int32.ofNat j)) (S' := [.int ((Int32.ofNat j) + (1 : Int32)), .retAddr 19, .ref 27, .int v1]) (h' := h1) rfl ?_
  refine k_scr (j := j) (k := 1) s1 rfl n_add (by omega) ?_
  refine k_n 4 (pc' := 1226) (L' := z_lw (Int32.ofNat j)) (S' := [.int ((Int32.ofNat j) + (2 : Int32)), .retAddr 19, .int (xs (j + 1)), .ref 27, .int v1]) (h' := h1) rfl ?_
  refine k_scr (j := j) (k := 2) s1 rfl n_add (by omega) ?_
  refine k_n 4 (pc' := 1231) (L' := z_lw (Int32.ofNat j)) (S' := [.int ((Int32.ofNat j) + (3 : Int32)), .retAddr 19, .int (xs (j + 2)), .int (xs (j + 1)), .ref 27, .int v1]) (h' := h1) rfl ?_
  refine k_scr (j := j) (k := 3) s1 rfl n_add (by omega) ?_
  refine k_n 4 (pc' := 1236) (L' := z_lw (Int32.ofNat j)) (S' := [.int ((Int32.ofNat j) + (4 : Int32)), .retAddr 19, .int (xs (j + 3)), .int (xs (j + 2)), .int (xs (j + 1)), .ref 27, .int v1]) (h' := h1) rfl ?_
  refine k_scr (j := j) (k := 4) s1 rfl n_add (by omega) ?_
  refine k_cI 219 5 rfl rfl rfl (A := [.ref 27, .int (xs (j + 1)), .int (xs (j + 2)), .int (xs (j + 3)), .int (xs (j + 4))]) rfl rfl (z_rok_ref s1.2.1) (rest := [.int v1]) rfl (z_tyI rfl rfl) ?_
  refine H1.mono (fun v2 h2 q => ?_)
  obtain ⟨e, H2⟩ := q
  subst e
  exact k_b (g := v2 = v2) (pc' := 1539) (L' := z_lw (Int32.ofNat j)) (S' := []) (pc2 := 1243) (L2 := z_lw (Int32.ofNat j)) (S2 := []) (h' := h2) (h2 := h2) rfl rfl (fun _ => H2) (fun hc => absurd rfl hc)
theorem L_28 {xs : Nat → Int32} {Ls j : Nat} {h : zH} {Q : Int32 → zH → Prop} (s : Sq xs Ls h) (hj : j + 7 ≤ Ls) (H : KK z_pI 127 [.ref 0, .int (xs (j + 1)), .int (xs (j + 2)), .int (xs (j + 3)), .int (xs (j + 4)), .int (xs (j + 5))] h (fun v1 h1 => Sq xs Ls h1 ∧ KK z_pI 220 [.ref 27, .int (xs (j + 1)), .int (xs (j + 2)), .int (xs (j + 3)), .int (xs (j + 4)), .int (xs (j + 5))] h1 (fun v2 h2 => v2 = v1 ∧ KG z_pI 233 1539 (z_lw (Int32.ofNat j)) [] h2 Q))) : KG z_pI 233 1245 (z_lw (Int32.ofNat j)) [] h Q := by
  refine k_n 5 (pc' := 1250) (L' := z_lw (Int32.ofNat j)) (S' := [.int ((Int32.ofNat j) + (1 : Int32)), .retAddr 19, .ref 0]) (h' := h) rfl ?_
  refine k_scr (j := j) (k := 1) s rfl n_add (by omega) ?_
  refine k_n 4 (pc' := 1255) (L' := z_lw (Int32.ofNat j)) (S' := [.int ((Int32.ofNat j) + (2 : Int32)), .retAddr 19, .int (xs (j + 1)), .ref 0]) (h' := h) rfl ?_
  refine k_scr (j := j) (k := 2) s rfl n_add (by omega) ?_
  refine k_n 4 (pc' := 1260) (L' := z_lw (Int32.ofNat j)) (S' := [.int ((Int32.ofNat j) + (3 : Int32)), .retAddr 19, .int (xs (j + 2)), .int (xs (j + 1)), .ref 0]) (h' := h) rfl ?_
  refine k_scr (j := j) (k := 3) s rfl n_add (by omega) ?_
  refine k_n 4 (pc' := 1265) (L' := z_lw (Int32.ofNat j)) (S' := [.int ((Int32.ofNat j) + (4 : Int32)), .retAddr 19, .int (xs (j + 3)), .int (xs (j + 2)), .int (xs (j + 1)), .ref 0]) (h' := h) rfl ?_
  refine k_scr (j := j) (k := 4) s rfl n_add (by omega) ?_
  refine k_n 4 (pc' := 1270) (L' := z_lw (Int32.ofNat j)) (S' := [.int ((Int32.ofNat j) + (5 : Int32)), .retAddr 19, .int (xs (j + 4)), .int (xs (j + 3)), .int (xs (j + 2)), .int (xs (j + 1)), .ref 0]) (h' := h) rfl ?_
  refine k_scr (j := j) (k := 5) s rfl n_add (by omega) ?_
  refine k_cI 127 6 rfl rfl rfl (A := [.ref 0, .int (xs (j + 1)), .int (xs (j + 2)), .int (xs (j + 3)), .int (xs (j + 4)), .int (xs (j + 5))]) rfl rfl (z_rok_ref s.1) (rest := []) rfl (z_tyI rfl rfl) ?_
  refine H.mono (fun v1 h1 q => ?_)
  obtain ⟨s1, H1⟩ := q
  refine k_n 5 (pc' := 1279) (L' := z_lw (Int32.ofNat j)) (S' := [.int ((Int32.ofNat j) + (1 : Int32)), .retAddr 19, .ref 27, .int v1]) (h' := h1) rfl ?_
  refine k_scr (j := j) (k := 1) s1 rfl n_add (by omega) ?_
  refine k_n 4 (pc' := 1284) (L' := z_lw (Int32.ofNat j)) (S' := [.int ((Int32.ofNat j) + (2 : Int32)), .retAddr 19, .int (xs (j + 1)), .ref 27, .int v1]) (h' := h1) rfl ?_
  refine k_scr (j := j) (k := 2) s1 rfl n_add (by omega) ?_
  refine k_n 4 (pc' := 1289) (L' := z_lw (Int32.ofNat j)) (S' := [.int ((Int32.ofNat j) + (3 : Int32)), .retAddr 19, .int (xs (j + 2)), .int (xs (j + 1)), .ref 27, .int v1]) (h' := h1) rfl ?_
  refine k_scr (j := j) (k := 3) s1 rfl n_add (by omega) ?_
  refine k_n 4 (pc' := 1294) (L' := z_lw (Int32.ofNat j)) (S' := [.int ((Int32.ofNat j) + (4 : Int32)), .retAddr 19, .int (xs (j + 3)), .int (xs (j + 2)), .int (xs (j + 1)), .ref 27, .int v1]) (h' := h1) rfl ?_
  refine k_scr (j := j) (k := 4) s1 rfl n_add (by omega) ?_
  refine k_n 4 (pc' := 1299) (L' := z_lw (Int32.ofNat j)) (S' := [.int ((Int32.ofNat j) + (5 : Int32)), .retAddr 19, .int (xs (j + 4)), .int (xs (j + 3)), .int (xs (j + 2)), .int (xs (j + 1)), .ref 27, .int v1]) (h' := h1) rfl ?_
  refine k_scr (j := j) (k := 5) s1 rfl n_add (by omega) ?_
  refine k_cI 220 6 rfl rfl rfl (A := [.ref 27, .int (xs (j + 1)), .int (xs (j + 2)), .int (xs (j + 3)), .int (xs (j + 4)), .int (xs (j + 5))]) rfl rfl (z_rok_ref s1.2.1) (rest := [.int v1]) rfl (z_tyI rfl rfl) ?_
  refine H1.mono (fun v2 h2 q => ?_)
  obtain ⟨e, H2⟩ := q
  subst e
  exact k_b (g := v2 = v2) (pc' := 1539) (L' := z_lw (Int32.ofNat j)) (S' := []) (pc2 := 1306) (L2 := z_lw (Int32.ofNat j)) (S2 := []) (h' := h2) (h2 := h2) rfl rfl (fun _ => H2) (fun hc => absurd rfl hc)
theorem L_29 {xs : Nat → Int32} {Ls j : Nat} {h : zH} {Q : Int32 → zH → Prop} (s : Sq xs Ls h) (hj : j + 7 ≤ Ls) (H : KK z_pI 128 [.ref 0, .int (xs (j + 1)), .int (xs (j + 2))] h (fun v1 h1 => Sq xs Ls h1 ∧ KK z_pI 226 [.ref 27, .int (xs (j + 1)), .int (xs (j + 2))] h1 (fun v2 h2 => v2 = v1 ∧ KG z_pI 233 1539 (z_lw (Int32.ofNat j)) [] h2 Q))) : KG z_pI 233 1308 (z_lw (Int32.ofNat j)) [] h Q := by
  refine k_n 5 (pc' := 1313) (L' := z_lw (Int32.ofNat j)) (S' := [.int ((Int32.ofNat j) + (1 : Int32)), .retAddr 19, .ref 0]) (h' := h) rfl ?_
  refine k_scr (j := j) (k := 1) s rfl n_add (by omega) ?_
  refine k_n 4 (pc' := 1318) (L' := z_lw (Int32.ofNat j)) (S' := [.int ((Int32.ofNat j) + (2 : Int32)), .retAddr 19, .int (xs (j + 1)), .ref 0]) (h' := h) rfl ?_
  refine k_scr (j := j) (k := 2) s rfl n_add (by omega) ?_
  refine k_cI 128 3 rfl rfl rfl (A := [.ref 0, .int (xs (j + 1)), .int (xs (j + 2))]) rfl rfl (z_rok_ref s.1) (rest := []) rfl (z_tyI rfl rfl) ?_
  refine H.mono (fun v1 h1 q => ?_)
  obtain ⟨s1, H1⟩ := q
  refine k_n 5 (pc' := 1327) (L' := z_lw (Int32.ofNat j)) (S' := [.int ((Int32.ofNat j) + (1 : Int32)), .retAddr 19, .ref 27, .int v1]) (h' := h1) rfl ?_
  refine k_scr (j := j) (k := 1) s1 rfl n_add (by omega) ?_
  refine k_n 4 (pc' := 1332) (L' := z_lw (Int32.ofNat j)) (S' := [.int ((Int32.ofNat j) + (2 : Int32)), .retAddr 19, .int (xs (j + 1)), .ref 27, .int v1]) (h' := h1) rfl ?_
  refine k_scr (j := j) (k := 2) s1 rfl n_add (by omega) ?_
  refine k_cI 226 3 rfl rfl rfl (A := [.ref 27, .int (xs (j + 1)), .int (xs (j + 2))]) rfl rfl (z_rok_ref s1.2.1) (rest := [.int v1]) rfl (z_tyI rfl rfl) ?_
  refine H1.mono (fun v2 h2 q => ?_)
  obtain ⟨e, H2⟩ := q
  subst e
  exact k_b (g := v2 = v2) (pc' := 1539) (L' := z_lw (Int32.ofNat j)) (S' := []) (pc2 := 1339) (L2 := z_lw (Int32.ofNat j)) (S2 := []) (h' := h2) (h2 := h2) rfl rfl (fun _ => H2) (fun hc => absurd rfl hc)
theorem L_30 {xs : Nat → Int32} {Ls j : Nat} {h : zH} {Q : Int32 → zH → Prop} (s : Sq xs Ls h) (hj : j + 7 ≤ Ls) (H : KK z_pI 129 [.ref 0, .int (xs (j + 1))] h (fun v1 h1 => Sq xs Ls h1 ∧ KK z_pI 227 [.ref 27, .int (xs (j + 1))] h1 (fun v2 h2 => v2 = v1 ∧ KG z_pI 233 1539 (z_lw (Int32.ofNat j)) [] h2 Q))) : KG z_pI 233 1341 (z_lw (Int32.ofNat j)) [] h Q := by
  refine k_n 5 (pc' := 1346) (L' := z_lw (Int32.ofNat j)) (S' := [.int ((Int32.ofNat j) + (1 : Int32)), .retAddr 19, .ref 0]) (h' := h) rfl ?_
  refine k_scr (j := j) (k := 1) s rfl n_add (by omega) ?_
  refine k_cI 129 2 rfl rfl rfl (A := [.ref 0, .int (xs (j + 1))]) rfl rfl (z_rok_ref s.1) (rest := []) rfl (z_tyI rfl rfl) ?_
  refine H.mono (fun v1 h1 q => ?_)
  obtain ⟨s1, H1⟩ := q
  refine k_n 5 (pc' := 1355) (L' := z_lw (Int32.ofNat j)) (S' := [.int ((Int32.ofNat j) + (1 : Int32)), .retAddr 19, .ref 27, .int v1]) (h' := h1) rfl ?_
  refine k_scr (j := j) (k := 1) s1 rfl n_add (by omega) ?_
  refine k_cI 227 2 rfl rfl rfl (A := [.ref 27, .int (xs (j + 1))]) rfl rfl (z_rok_ref s1.2.1) (rest := [.int v1]) rfl (z_tyI rfl rfl) ?_
  refine H1.mono (fun v2 h2 q => ?_)
  obtain ⟨e, H2⟩ := q
  subst e
  exact k_b (g := v2 = v2) (pc' := 1539) (L' := z_lw (Int32.ofNat j)) (S' := []) (pc2 := 1362) (L2 := z_lw (Int32.ofNat j)) (S2 := []) (h' := h2) (h2 := h2) rfl rfl (fun _ => H2) (fun hc => absurd rfl hc)
theorem L_31 {xs : Nat → Int32} {Ls j : Nat} {h : zH} {Q : Int32 → zH → Prop} (s : Sq xs Ls h) (hj : j + 7 ≤ Ls) (H : KK z_pI 130 [.ref 0, .int (xs (j + 1)), .int (xs (j + 2)), .int (xs (j + 3))] h (fun v1 h1 => Sq xs Ls h1 ∧ KK z_pI 228 [.ref 27, .int (xs (j + 1)), .int (xs (j + 2)), .int (xs (j + 3))] h1 (fun v2 h2 => v2 = v1 ∧ KG z_pI 233 1539 (z_lw (Int32.ofNat j)) [] h2 Q))) : KG z_pI 233 1364 (z_lw (Int32.ofNat j)) [] h Q := by
  refine k_n 5 (pc' := 1369) (L' := z_lw (Int32.ofNat j)) (S' := [.int ((Int32.ofNat j) + (1 : Int32)), .retAddr 19, .ref 0]) (h' := h) rfl ?_
  refine k_scr (j := j) (k := 1) s rfl n_add (by omega) ?_
  refine k_n 4 (pc' := 1374) (L' := z_lw (Int32.ofNat j)) (S' := [.int ((Int32.ofNat j) + (2 : Int32)), .retAddr 19, .int (xs (j + 1)), .ref 0]) (h' := h) rfl ?_
  refine k_scr (j := j) (k := 2) s rfl n_add (by omega) ?_
  refine k_n 4 (pc' := 1379) (L' := z_lw (Int32.ofNat j)) (S' := [.int ((Int32.ofNat j) + (3 : Int32)), .retAddr 19, .int (xs (j + 2)), .int (xs (j + 1)), .ref 0]) (h' := h) rfl ?_
  refine k_scr (j := j) (k := 3) s rfl n_add (by omega) ?_
  refine k_cI 130 4 rfl rfl rfl (A := [.ref 0, .int (xs (j + 1)), .int (xs (j + 2)), .int (xs (j + 3))]) rfl rfl (z_rok_ref s.1) (rest := []) rfl (z_tyI rfl rfl) ?_
  refine H.mono (fun v1 h1 q => ?_)
  obtain ⟨s1, H1⟩ := q
  refine k_n 5 (pc' := 1388) (L' := z_lw (Int32.ofNat j)) (S' := [.int ((Int32.ofNat j) + (1 : Int32)), .retAddr 19, .ref 27, .int v1]) (h' := h1) rfl ?_
  refine k_scr (j := j) (k := 1) s1 rfl n_add (by omega) ?_
  refine k_n 4 (pc' := 1393) (L' := z_lw (Int32.ofNat j)) (S' := [.int ((Int32.ofNat j) + (2 : Int32)), .retAddr 19, .int (xs (j + 1)), .ref 27, .int v1]) (h' := h1) rfl ?_
  refine k_scr (j := j) (k := 2) s1 rfl n_add (by omega) ?_
  refine k_n 4 (pc' := 1398) (L' := z_lw (Int32.ofNat j)) (S' := [.int ((Int32.ofNat j) + (3 : Int32)), .retAddr 19, .int (xs (j + 2)), .int (xs (j + 1)), .ref 27, .int v1]) (h' := h1) rfl ?_
  refine k_scr (j := j) (k := 3) s1 rfl n_add (by omega) ?_
  refine k_cI 228 4 rfl rfl rfl (A := [.ref 27, .int (xs (j + 1)), .int (xs (j + 2)), .int (xs (j + 3))]) rfl rfl (z_rok_ref s1.2.1) (rest := [.int v1]) rfl (z_tyI rfl rfl) ?_
  refine H1.mono (fun v2 h2 q => ?_)
  obtain ⟨e, H2⟩ := q
  subst e
  exact k_b (g := v2 = v2) (pc' := 1539) (L' := z_lw (Int32.ofNat j)) (S' := []) (pc2 := 1405) (L2 := z_lw (Int32.ofNat j)) (S2 := []) (h' := h2) (h2 := h2) rfl rfl (fun _ => H2) (fun hc => absurd rfl hc)
theorem L_32 {xs : Nat → Int32} {Ls j : Nat} {h : zH} {Q : Int32 → zH → Prop} (s : Sq xs Ls h) (hj : j + 7 ≤ Ls) (H : KK z_pI 131 [.ref 0, .int (xs (j + 1)), .int (xs (j + 2)), .int (xs (j + 3))] h (fun v1 h1 => Sq xs Ls h1 ∧ KK z_pI 229 [.ref 27, .int (xs (j + 1)), .int (xs (j + 2)), .int (xs (j + 3))] h1 (fun v2 h2 => v2 = v1 ∧ KG z_pI 233 1539 (z_lw (Int32.ofNat j)) [] h2 Q))) : KG z_pI 233 1407 (z_lw (Int32.ofNat j)) [] h Q := by
  refine k_n 5 (pc' := 1412) (L' := z_lw (Int32.ofNat j)) (S' := [.int ((Int32.ofNat j) + (1 : Int32)), .retAddr 19, .ref 0]) (h' := h) rfl ?_
  refine k_scr (j := j) (k := 1) s rfl n_add (by omega) ?_
  refine k_n 4 (pc' := 1417) (L' := z_lw (Int32.ofNat j)) (S' := [.int ((Int32.ofNat j) + (2 : Int32)), .retAddr 19, .int (xs (j + 1)), .ref 0]) (h' := h) rfl ?_
  refine k_scr (j := j) (k := 2) s rfl n_add (by omega) ?_
  refine k_n 4 (pc' := 1422) (L' := z_lw (Int32.ofNat j)) (S' := [.int ((Int32.ofNat j) + (3 : Int32)), .retAddr 19, .int (xs (j + 2)), .int (xs (j + 1)), .ref 0]) (h' := h) rfl ?_
  refine k_scr (j := j) (k := 3) s rfl n_add (by omega) ?_
  refine k_cI 131 4 rfl rfl rfl (A := [.ref 0, .int (xs (j + 1)), .int (xs (j + 2)), .int (xs (j + 3))]) rfl rfl (z_rok_ref s.1) (rest := []) rfl (z_tyI rfl rfl) ?_
  refine H.mono (fun v1 h1 q => ?_)
  obtain ⟨s1, H1⟩ := q
  refine k_n 5 (pc' := 1431) (L' := z_lw (Int32.ofNat j)) (S' := [.int ((Int32.ofNat j) + (1 : Int32)), .retAddr 19, .ref 27, .int v1]) (h' := h1) rfl ?_
  refine k_scr (j := j) (k := 1) s1 rfl n_add (by omega) ?_
  refine k_n 4 (pc' := 1436) (L' := z_lw (Int32.ofNat j)) (S' := [.int ((Int32.ofNat j) + (2 : Int32)), .retAddr 19, .int (xs (j + 1)), .ref 27, .int v1]) (h' := h1) rfl ?_
  refine k_scr (j := j) (k := 2) s1 rfl n_add (by omega) ?_
  refine k_n 4 (pc' := 1441) (L' := z_lw (Int32.ofNat j)) (S' := [.int ((Int32.ofNat j) + (3 : Int32)), .retAddr 19, .int (xs (j + 2)), .int (xs (j + 1)), .ref 27, .int v1]) (h' := h1) rfl ?_
  refine k_scr (j := j) (k := 3) s1 rfl n_add (by omega) ?_
  refine k_cI 229 4 rfl rfl rfl (A := [.ref 27, .int (xs (j + 1)), .int (xs (j + 2)), .int (xs (j + 3))]) rfl rfl (z_rok_ref s1.2.1) (rest := [.int v1]) rfl (z_tyI rfl rfl) ?_
  refine H1.mono (fun v2 h2 q => ?_)
  obtain ⟨e, H2⟩ := q
  subst e
  exact k_b (g := v2 = v2) (pc' := 1539) (L' := z_lw (Int32.ofNat j)) (S' := []) (pc2 := 1448) (L2 := z_lw (Int32.ofNat j)) (S2 := []) (h' := h2) (h2 := h2) rfl rfl (fun _ => H2) (fun hc => absurd rfl hc)
theorem L_33 {xs : Nat → Int32} {Ls j : Nat} {h : zH} {Q : Int32 → zH → Prop} (s : Sq xs Ls h) (hj : j + 7 ≤ Ls) (H : KK z_pI 132 [.ref 0, .int (xs (j + 1)), .int (xs (j + 2)), .int (xs (j + 3)), .int (xs (j + 4))] h (fun v1 h1 => Sq xs Ls h1 ∧ KK z_pI 230 [.ref 27, .int (xs (j + 1)), .int (xs (j + 2)), .int (xs (j + 3)), .int (xs (j + 4))] h1 (fun v2 h2 => v2 = v1 ∧ KG z_pI 233 1539 (z_lw (Int32.ofNat j)) [] h2 Q))) : KG z_pI 233 1450 (z_lw (Int32.ofNat j)) [] h Q := by
  refine k_n 5 (pc' := 1455) (L' := z_lw (Int32.ofNat j)) (S' := [.int ((Int32.ofNat j) + (1 : Int32)), .retAddr 19, .ref 0]) (h' := h) rfl ?_
  refine k_scr (j := j) (k := 1) s rfl n_add (by omega) ?_
  refine k_n 4 (pc' := 1460) (L' := z_lw (Int32.ofNat j)) (S' := [.int ((Int32.ofNat j) + (2 : Int32)), .retAddr 19, .int (xs (j + 1)), .ref 0]) (h' := h) rfl ?_
  refine k_scr (j := j) (k := 2) s rfl n_add (by omega) ?_
  refine k_n 4 (pc' := 1465) (L' := z_lw (Int32.ofNat j)) (S' := [.int ((Int32.ofNat j) + (3 : Int32)), .retAddr 19, .int (xs (j + 2)), .int (xs (j + 1)), .ref 0]) (h' := h) rfl ?_
  refine k_scr (j := j) (k := 3) s rfl n_add (by omega) ?_
  refine k_n 4 (pc' := 1470) (L' := z_lw (Int32.ofNat j)) (S' := [.int ((Int32.ofNat j) + (4 : Int32)), .retAddr 19, .int (xs (j + 3)), .int (xs (j + 2)), .int (xs (j + 1)), .ref 0]) (h' := h) rfl ?_
  refine k_scr (j := j) (k := 4) s rfl n_add (by omega) ?_
  refine k_cI 132 5 rfl rfl rfl (A := [.ref 0, .int (xs (j + 1)), .int (xs (j + 2)), .int (xs (j + 3)), .int (xs (j + 4))]) rfl rfl (z_rok_ref s.1) (rest := []) rfl (z_tyI rfl rfl) ?_
  refine H.mono (fun v1 h1 q => ?_)
  obtain ⟨s1, H1⟩ := q
  refine k_n 5 (pc' := 1479) (L' := z_lw (Int32.ofNat j)) (S' := [.int ((Int32.ofNat j) + (1 : Int32)), .retAddr 19, .ref 27, .int v1]) (h' := h1) rfl ?_
  refine k_scr (j := j) (k := 1) s1 rfl n_add (by omega) ?_
  refine k_n 4 (pc' := 1484) (L' := z_lw (Int32.ofNat j)) (S' := [.int ((Int32.ofNat j) + (2 : Int32)), .retAddr 19, .int (xs (j + 1)), .ref 27, .int v1]) (h' := h1) rfl ?_
  refine k_scr (j := j) (k := 2) s1 rfl n_add (by omega) ?_
  refine k_n 4 (pc' := 1489) (L' := z_lw (Int32.ofNat j)) (S' := [.int ((Int32.ofNat j) + (3 : Int32)), .retAddr 19, .int (xs (j + 2)), .int (xs (j + 1)), .ref 27, .int v1]) (h' := h1) rfl ?_
  refine k_scr (j := j) (k := 3) s1 rfl n_add (by omega) ?_
  refine k_n 4 (pc' := 1494) (L' := z_lw (Int32.ofNat j)) (S' := [.int ((Int32.ofNat j) + (4 : Int32)), .retAddr 19, .int (xs (j + 3)), .int (xs (j + 2)), .int (xs (j + 1)), .ref 27, .int v1]) (h' := h1) rfl ?_
  refine k_scr (j := j) (k := 4) s1 rfl n_add (by omega) ?_
  refine k_cI 230 5 rfl rfl rfl (A := [.ref 27, .int (xs (j + 1)), .int (xs (j + 2)), .int (xs (j + 3)), .int (xs (j + 4))]) rfl rfl (z_rok_ref s1.2.1) (rest := [.int v1]) rfl (z_tyI rfl rfl) ?_
  refine H1.mono (fun v2 h2 q => ?_)
  obtain ⟨e, H2⟩ := q
  subst e
  exact k_b (g := v2 = v2) (pc' := 1539) (L' := z_lw (Int32.ofNat j)) (S' := []) (pc2 := 1501) (L2 := z_lw (Int32.ofNat j)) (S2 := []) (h' := h2) (h2 := h2) rfl rfl (fun _ => H2) (fun hc => absurd rfl hc)
theorem L_34 {xs : Nat → Int32} {Ls j : Nat} {h : zH} {Q : Int32 → zH → Prop} (s : Sq xs Ls h) (hj : j + 7 ≤ Ls) (H : KK z_pI 133 [.ref 0] h (fun v1 h1 => Sq xs Ls h1 ∧ KK z_pI 231 [.ref 27] h1 (fun v2 h2 => v2 = v1 ∧ KG z_pI 233 1539 (z_lw (Int32.ofNat j)) [] h2 Q))) : KG z_pI 233 1503 (z_lw (Int32.ofNat j)) [] h Q := by
  refine k_n 1 (pc' := 1504) (L' := z_lw (Int32.ofNat j)) (S' := [.ref 0]) (h' := h) rfl ?_
  refine k_cI 133 1 rfl rfl rfl (A := [.ref 0]) rfl rfl (z_rok_ref s.1) (rest := []) rfl (z_tyI rfl rfl) ?_
  refine H.mono (fun v1 h1 q => ?_)
  obtain ⟨s1, H1⟩ := q
  refine k_n 1 (pc' := 1508) (L' := z_lw (Int32.ofNat j)) (S' := [.ref 27, .int v1]) (h' := h1) rfl ?_
  refine k_cI 231 1 rfl rfl rfl (A := [.ref 27]) rfl rfl (z_rok_ref s1.2.1) (rest := [.int v1]) rfl (z_tyI rfl rfl) ?_
  refine H1.mono (fun v2 h2 q => ?_)
  obtain ⟨e, H2⟩ := q
  subst e
  exact k_b (g := v2 = v2) (pc' := 1539) (L' := z_lw (Int32.ofNat j)) (S' := []) (pc2 := 1514) (L2 := z_lw (Int32.ofNat j)) (S2 := []) (h' := h2) (h2 := h2) rfl rfl (fun _ => H2) (fun hc => absurd rfl hc)
theorem L_35 {xs : Nat → Int32} {Ls j : Nat} {h : zH} {Q : Int32 → zH → Prop} (s : Sq xs Ls h) (hj : j + 7 ≤ Ls) (H : KK z_pI 134 [.ref 0, .int (xs (j + 1))] h (fun v1 h1 => Sq xs Ls h1 ∧ KK z_pI 232 [.ref 27, .int (xs (j + 1))] h1 (fun v2 h2 => v2 = v1 ∧ KG z_pI 233 1539 (z_lw (Int32.ofNat j)) [] h2 Q))) : KG z_pI 233 1516 (z_lw (Int32.ofNat j)) [] h Q := by
  refine k_n 5 (pc' := 1521) (L' := z_lw (Int32.ofNat j)) (S' := [.int ((Int32.ofNat j) + (1 : Int32)), .retAddr 19, .ref 0]) (h' := h) rfl ?_
  refine k_scr (j := j) (k := 1) s rfl n_add (by omega) ?_
  refine k_cI 134 2 rfl rfl rfl (A := [.ref 0, .int (xs (j + 1))]) rfl rfl (z_rok_ref s.1) (rest := []) rfl (z_tyI rfl rfl) ?_
  refine H.mono (fun v1 h1 q => ?_)
  obtain ⟨s1, H1⟩ := q
  refine k_n 5 (pc' := 1530) (L' := z_lw (Int32.ofNat j)) (S' := [.int ((Int32.ofNat j) + (1 : Int32)), .retAddr 19, .ref 27, .int v1]) (h' := h1) rfl ?_
  refine k_scr (j := j) (k := 1) s1 rfl n_add (by omega) ?_
  refine k_cI 232 2 rfl rfl rfl (A := [.ref 27, .int (xs (j + 1))]) rfl rfl (z_rok_ref s1.2.1) (rest := [.int v1]) rfl (z_tyI rfl rfl) ?_
  refine H1.mono (fun v2 h2 q => ?_)
  obtain ⟨e, H2⟩ := q
  subst e
  exact k_b (g := v2 = v2) (pc' := 1539) (L' := z_lw (Int32.ofNat j)) (S' := []) (pc2 := 1537) (L2 := z_lw (Int32.ofNat j)) (S2 := []) (h' := h2) (h2 := h2) rfl rfl (fun _ => H2) (fun hc => absurd rfl hc)
set_option maxRecDepth 20000 in
theorem L_sw {xs : Nat → Int32} {Ls j : Nat} {h : zH} {Q : Int32 → zH → Prop} (s : Sq xs Ls h) (hj : j + 7 ≤ Ls) (c0 : (xs j &&& (63 : Int32)) = (0 : Int32) → KG z_pI 233 192 (z_lw (Int32.ofNat j)) [] h Q) (c1 : (xs j &&& (63 : Int32)) = (1 : Int32) → KG z_pI 233 245 (z_lw (Int32.ofNat j)) [] h Q) (c2 : (xs j &&& (63 : Int32)) = (2 : Int32) → KG z_pI 233 288 (z_lw (Int32.ofNat j)) [] h Q) (c3 : (xs j &&& (63 : Int32)) = (3 : Int32) → KG z_pI 233 331 (z_lw (Int32.ofNat j)) [] h Q) (c4 : (xs j &&& (63 : Int32)) = (4 : Int32) → KG z_pI 233 406 (z_lw (Int32.ofNat j)) [] h Q) (c5 : (xs j &&& (63 : Int32)) = (5 : Int32) → KG z_pI 233 439 (z_lw (Int32.ofNat j)) [] h Q) (c6 : (xs j &&& (63 : Int32)) = (6 : Int32) → KG z_pI 233 488 (z_lw (Int32.ofNat j)) [] h Q) (c7 : (xs j &&& (63 : Int32)) = (7 : Int32) → KG z_pI 233 511 (z_lw (Int32.ofNat j)) [] h Q) (c8 : (xs j &&& (63 : Int32)) = (8 : Int32) → KG z_pI 233 524 (z_lw (Int32.ofNat j)) [] h Q) (c9 : (xs j &&& (63 : Int32)) = (9 : Int32) → KG z_pI 233 567 (z_lw (Int32.ofNat j)) [] h Q) (c10 : (xs j &&& (63 : Int32)) = (10 : Int32) → KG z_pI 233 600 (z_lw (Int32.ofNat j)) [] h Q) (c11 : (xs j &&& (63 : Int32)) = (11 : Int32) → KG z_pI 233 653 (z_lw (Int32.ofNat j)) [] h Q) (c12 : (xs j &&& (63 : Int32)) = (12 : Int32) → KG z_pI 233 706 (z_lw (Int32.ofNat j)) [] h Q) (c13 : (xs j &&& (63 : Int32)) = (13 : Int32) → KG z_pI 233 729 (z_lw (Int32.ofNat j)) [] h Q) (c14 : (xs j &&& (63 : Int32)) = (14 : Int32) → KG z_pI 233 742 (z_lw (Int32.ofNat j)) [] h Q) (c15 : (xs j &&& (63 : Int32)) = (15 : Int32) → KG z_pI 233 755 (z_lw (Int32.ofNat j)) [] h Q) (c16 : (xs j &&& (63 : Int32)) = (16 : Int32) → KG z_pI 233 798 (z_lw (Int32.ofNat j)) [] h Q) (c17 : (xs j &&& (63 : Int32)) = (17 : Int32) → KG z_pI 233 821 (z_lw (Int32.ofNat j)) [] h Q) (c18 : (xs j &&& (63 : Int32)) = (18 : Int32) → KG z_pI 233 854 (z_lw (Int32.ofNat j)) [] h Q) (c19 : (xs j &&& (63 : Int32)) = (19 : Int32) → KG z_pI 233 887 (z_lw (Int32.ofNat j)) [] h Q) (c20 : (xs j &&& (63 : Int32)) = (20 : Int32) → KG z_pI 233 920 (z_lw (Int32.ofNat j)) [] h Q) (c21 : (xs j &&& (63 : Int32)) = (21 : Int32) → KG z_pI 233 953 (z_lw (Int32.ofNat j)) [] h Q) (c22 : (xs j &&& (63 : Int32)) = (22 : Int32) → KG z_pI 233 976 (z_lw (Int32.ofNat j)) [] h Q) (c23 : (xs j &&& (63 : Int32)) = (23 : Int32) → KG z_pI 233 999 (z_lw (Int32.ofNat j)) [] h Q) (c24 : (xs j &&& (63 : Int32)) = (24 : Int32) → KG z_pI 233 1042 (z_lw (Int32.ofNat j)) [] h Q) (c25 : (xs j &&& (63 : Int32)) = (25 : Int32) → KG z_pI 233 1085 (z_lw (Int32.ofNat j)) [] h Q) (c26 : (xs j &&& (63 : Int32)) = (26 : Int32) → KG z_pI 233 1128 (z_lw (Int32.ofNat j)) [] h Q) (c27 : (xs j &&& (63 : Int32)) = (27 : Int32) → KG z_pI 233 1192 (z_lw (Int32.ofNat j)) [] h Q) (c28 : (xs j &&& (63 : Int32)) = (28 : Int32) → KG z_pI 233 1245 (z_lw (Int32.ofNat j)) [] h Q) (c29 : (xs j &&& (63 : Int32)) = (29 : Int32) → KG z_pI 233 1308 (z_lw (Int32.ofNat j)) [] h Q) (c30 : (xs j &&& (63 : Int32)) = (30 : Int32) → KG z_pI 233 1341 (z_lw (Int32.ofNat j)) [] h Q) (c31 : (xs j &&& (63 : Int32)) = (31 : Int32) → KG z_pI 233 1364 (z_lw (Int32.ofNat j)) [] h Q) (c32 : (xs j &&& (63 : Int32)) = (32 : Int32) → KG z_pI 233 1407 (z_lw (Int32.ofNat j)) [] h Q) (c33 : (xs j &&& (63 : Int32)) = (33 : Int32) → KG z_pI 233 1450 (z_lw (Int32.ofNat j)) [] h Q) (c34 : (xs j &&& (63 : Int32)) = (34 : Int32) → KG z_pI 233 1503 (z_lw (Int32.ofNat j)) [] h Q) (c35 : (xs j &&& (63 : Int32)) = (35 : Int32) → KG z_pI 233 1516 (z_lw (Int32.ofNat j)) [] h Q) (cd : KG z_pI 233 1539 (z_lw (Int32.ofNat j)) [] h Q) : KG z_pI 233 27 (z_lw (Int32.ofNat j)) [] h Q := by
  refine k_n 2 (pc' := 29) (L' := z_lw (Int32.ofNat j)) (S' := [.int (Int32.ofNat j), .retAddr 19]) (h' := h) rfl ?_
  refine k_scr (j := j) (k := 0) s rfl rfl (by omega) ?_
  refine k_n 2 (pc' := 33) (L' := z_lw (Int32.ofNat j)) (S' := [.int (xs j &&& (63 : Int32))]) (h' := h) rfl ?_
  by_cases w0 : (xs j &&& (63 : Int32)) = (0 : Int32)
  · refine k_sw (pc' := 192) rfl (congrArg (z_tgt 33) (z_swT (k := (0 : Int32)) w0 rfl)) (c0 w0)
  by_cases w1 : (xs j &&& (63 : Int32)) = (1 : Int32)
  · refine k_sw (pc' := 245) rfl (congrArg (z_tgt 33) (z_swN (k := (0 : Int32)) w0 rfl (z_swT (k := (1 : Int32)) w1 rfl))) (c1 w1)
  by_cases w2 : (xs j &&& (63 : Int32)) = (2 : Int32)
  · refine k_sw (pc' := 288) rfl (congrArg (z_tgt 33) (z_swN (k := (0 : Int32)) w0 rfl (z_swN (k := (1 : Int32)) w1 rfl (z_swT (k := (2 : Int32)) w2 rfl)))) (c2 w2)
  by_cases w3 : (xs j &&& (63 : Int32)) = (3 : Int32)
  · refine k_sw (pc' := 331) rfl (congrArg (z_tgt 33) (z_swN (k := (0 : Int32)) w0 rfl (z_swN (k := (1 : Int32)) w1 rfl (z_swN (k := (2 : Int32)) w2 rfl (z_swT (k := (3 : Int32)) w3 rfl))))) (c3 w3)
  by_cases w4 : (xs j &&& (63 : Int32)) = (4 : Int32)
  · refine k_sw (pc' := 406) rfl (congrArg (z_tgt 33) (z_swN (k := (0 : Int32)) w0 rfl (z_swN (k := (1 : Int32)) w1 rfl (z_swN (k := (2 : Int32)) w2 rfl (z_swN (k := (3 : Int32)) w3 rfl (z_swT (k := (4 : Int32)) w4 rfl)))))) (c4 w4)
  by_cases w5 : (xs j &&& (63 : Int32)) = (5 : Int32)
  · refine k_sw (pc' := 439) rfl (congrArg (z_tgt 33) (z_swN (k := (0 : Int32)) w0 rfl (z_swN (k := (1 : Int32)) w1 rfl (z_swN (k := (2 : Int32)) w2 rfl (z_swN (k := (3 : Int32)) w3 rfl (z_swN (k := (4 : Int32)) w4 rfl (z_swT (k := (5 : Int32)) w5 rfl))))))) (c5 w5)
  by_cases w6 : (xs j &&& (63 : Int32)) = (6 : Int32)
  · refine k_sw (pc' := 488) rfl (congrArg (z_tgt 33) (z_swN (k := (0 : Int32)) w0 rfl (z_swN (k := (1 : Int32)) w1 rfl (z_swN (k := (2 : Int32)) w2 rfl (z_swN (k := (3 : Int32)) w3 rfl (z_swN (k := (4 : Int32)) w4 rfl (z_swN (k := (5 : Int32)) w5 rfl (z_swT (k := (6 : Int32)) w6 rfl)))))))) (c6 w6)
  by_cases w7 : (xs j &&& (63 : Int32)) = (7 : Int32)
  · refine k_sw (pc' := 511) rfl (congrArg (z_tgt 33) (z_swN (k := (0 : Int32)) w0 rfl (z_swN (k := (1 : Int32)) w1 rfl (z_swN (k := (2 : Int32)) w2 rfl (z_swN (k := (3 : Int32)) w3 rfl (z_swN (k := (4 : Int32)) w4 rfl (z_swN (k := (5 : Int32)) w5 rfl (z_swN (k := (6 : Int32)) w6 rfl (z_swT (k := (7 : Int32)) w7 rfl))))))))) (c7 w7)
  by_cases w8 : (xs j &&& (63 : Int32)) = (8 : Int32)
  · refine k_sw (pc' := 524) rfl (congrArg (z_tgt 33) (z_swN (k := (0 : Int32)) w0 rfl (z_swN (k := (1 : Int32)) w1 rfl (z_swN (k := (2 : Int32)) w2 rfl (z_swN (k := (3 : Int32)) w3 rfl (z_swN (k := (4 : Int32)) w4 rfl (z_swN (k := (5 : Int32)) w5 rfl (z_swN (k := (6 : Int32)) w6 rfl (z_swN (k := (7 : Int32)) w7 rfl (z_swT (k := (8 : Int32)) w8 rfl)))))))))) (c8 w8)
  by_cases w9 : (xs j &&& (63 : Int32)) = (9 : Int32)
  · refine k_sw (pc' := 567) rfl (congrArg (z_tgt 33) (z_swN (k := (0 : Int32)) w0 rfl (z_swN (k := (1 : Int32)) w1 rfl (z_swN (k := (2 : Int32)) w2 rfl (z_swN (k := (3 : Int32)) w3 rfl (z_swN (k := (4 : Int32)) w4 rfl (z_swN (k := (5 : Int32)) w5 rfl (z_swN (k := (6 : Int32)) w6 rfl (z_swN (k := (7 : Int32)) w7 rfl (z_swN (k := (8 : Int32)) w8 rfl (z_swT (k := (9 : Int32)) w9 rfl))))))))))) (c9 w9)
  by_cases w10 : (xs j &&& (63 : Int32)) = (10 : Int32)
  · refine k_sw (pc' := 600) rfl (congrArg (z_tgt 33) (z_swN (k := (0 : Int32)) w0 rfl (z_swN (k := (1 : Int32)) w1 rfl (z_swN (k := (2 : Int32)) w2 rfl (z_swN (k := (3 : Int32)) w3 rfl (z_swN (k := (4 : Int32)) w4 rfl (z_swN (k := (5 : Int32)) w5 rfl (z_swN (k := (6 : Int32)) w6 rfl (z_swN (k := (7 : Int32)) w7 rfl (z_swN (k := (8 : Int32)) w8 rfl (z_swN (k := (9 : Int32)) w9 rfl (z_swT (k := (10 : Int32)) w10 rfl)))))))))))) (c10 w10)
  by_cases w11 : (xs j &&& (63 : Int32)) = (11 : Int32)
  · refine k_sw (pc' := 653) rfl (congrArg (z_tgt 33) (z_swN (k := (0 : Int32)) w0 rfl (z_swN (k := (1 : Int32)) w1 rfl (z_swN (k := (2 : Int32)) w2 rfl (z_swN (k := (3 : Int32)) w3 rfl (z_swN (k := (4 : Int32)) w4 rfl (z_swN (k := (5 : Int32)) w5 rfl (z_swN (k := (6 : Int32)) w6 rfl (z_swN (k := (7 : Int32)) w7 rfl (z_swN (k := (8 : Int32)) w8 rfl (z_swN (k := (9 : Int32)) w9 rfl (z_swN (k := (10 : Int32)) w10 rfl (z_swT (k := (11 : Int32)) w11 rfl))))))))))))) (c11 w11)
  by_cases w12 : (xs j &&& (63 : Int32)) = (12 : Int32)
  · refine k_sw (pc' := 706) rfl (congrArg (z_tgt 33) (z_swN (k := (0 : Int32)) w0 rfl (z_swN (k := (1 : Int32)) w1 rfl (z_swN (k := (2 : Int32)) w2 rfl (z_swN (k := (3 : Int32)) w3 rfl (z_swN (k := (4 : Int32)) w4 rfl (z_swN (k := (5 : Int32)) w5 rfl (z_swN (k := (6 : Int32)) w6 rfl (z_swN (k := (7 : Int32)) w7 rfl (z_swN (k := (8 : Int32)) w8 rfl (z_swN (k := (9 : Int32)) w9 rfl (z_swN (k := (10 : Int32)) w10 rfl (z_swN (k := (11 : Int32)) w11 rfl (z_swT (k := (12 : Int32)) w12 rfl)))))))))))))) (c12 w12)
  by_cases w13 : (xs j &&& (63 : Int32)) = (13 : Int32)
  · refine k_sw (pc' := 729) rfl (congrArg (z_tgt 33) (z_swN (k := (0 : Int32)) w0 rfl (z_swN (k := (1 : Int32)) w1 rfl (z_swN (k := (2 : Int32)) w2 rfl (z_swN (k := (3 : Int32)) w3 rfl (z_swN (k := (4 : Int32)) w4 rfl (z_swN (k := (5 : Int32)) w5 rfl (z_swN (k := (6 : Int32)) w6 rfl (z_swN (k := (7 : Int32)) w7 rfl (z_swN (k := (8 : Int32)) w8 rfl (z_swN (k := (9 : Int32)) w9 rfl (z_swN (k := (10 : Int32)) w10 rfl (z_swN (k := (11 : Int32)) w11 rfl (z_swN (k := (12 : Int32)) w12 rfl (z_swT (k := (13 : Int32)) w13 rfl))))))))))))))) (c13 w13)
  by_cases w14 : (xs j &&& (63 : Int32)) = (14 : Int32)
  · refine k_sw (pc' := 742) rfl (congrArg (z_tgt 33) (z_swN (k := (0 : Int32)) w0 rfl (z_swN (k := (1 : Int32)) w1 rfl (z_swN (k := (2 : Int32)) w2 rfl (z_swN (k := (3 : Int32)) w3 rfl (z_swN (k := (4 : Int32)) w4 rfl (z_swN (k := (5 : Int32)) w5 rfl (z_swN (k := (6 : Int32)) w6 rfl (z_swN (k := (7 : Int32)) w7 rfl (z_swN (k := (8 : Int32)) w8 rfl (z_swN (k := (9 : Int32)) w9 rfl (z_swN (k := (10 : Int32)) w10 rfl (z_swN (k := (11 : Int32)) w11 rfl (z_swN (k := (12 : Int32)) w12 rfl (z_swN (k := (13 : Int32)) w13 rfl (z_swT (k := (14 : Int32)) w14 rfl)))))))))))))))) (c14 w14)
  by_cases w15 : (xs j &&& (63 : Int32)) = (15 : Int32)
  · refine k_sw (pc' := 755) rfl (congrArg (z_tgt 33) (z_swN (k := (0 : Int32)) w0 rfl (z_swN (k := (1 : Int32)) w1 rfl (z_swN (k := (2 : Int32)) w2 rfl (z_swN (k := (3 : Int32)) w3 rfl (z_swN (k := (4 : Int32)) w4 rfl (z_swN (k := (5 : Int32)) w5 rfl (z_swN (k := (6 : Int32)) w6 rfl (z_swN (k := (7 : Int32)) w7 rfl (z_swN (k := (8 : Int32)) w8 rfl (z_swN (k := (9 : Int32)) w9 rfl (z_swN (k := (10 : Int32)) w10 rfl (z_swN (k := (11 : Int32)) w11 rfl (z_swN (k := (12 : Int32)) w12 rfl (z_swN (k := (13 : Int32)) w13 rfl (z_swN (k := (14 : Int32)) w14 rfl (z_swT (k := (15 : Int32)) w15 rfl))))))))))))))))) (c15 w15)
  by_cases w16 : (xs j &&& (63 : Int32)) = (16 : Int32)
  · refine k_sw (pc' := 798) rfl (congrArg (z_tgt 33) (z_swN (k := (0 : Int32)) w0 rfl (z_swN (k := (1 : Int32)) w1 rfl (z_swN (k := (2 : Int32)) w2 rfl (z_swN (k := (3 : Int32)) w3 rfl (z_swN (k := (4 : Int32)) w4 rfl (z_swN (k := (5 : Int32)) w5 rfl (z_swN (k := (6 : Int32)) w6 rfl (z_swN (k := (7 : Int32)) w7 rfl (z_swN (k := (8 : Int32)) w8 rfl (z_swN (k := (9 : Int32)) w9 rfl (z_swN (k := (10 : Int32)) w10 rfl (z_swN (k := (11 : Int32)) w11 rfl (z_swN (k := (12 : Int32)) w12 rfl (z_swN (k := (13 : Int32)) w13 rfl (z_swN (k := (14 : Int32)) w14 rfl (z_swN (k := (15 : Int32)) w15 rfl (z_swT (k := (16 : Int32)) w16 rfl)))))))))))))))))) (c16 w16)
  by_cases w17 : (xs j &&& (63 : Int32)) = (17 : Int32)
  · refine k_sw (pc' := 821) rfl (congrArg (z_tgt 33) (z_swN (k := (0 : Int32)) w0 rfl (z_swN (k := (1 : Int32)) w1 rfl (z_swN (k := (2 : Int32)) w2 rfl (z_swN (k := (3 : Int32)) w3 rfl (z_swN (k := (4 : Int32)) w4 rfl (z_swN (k := (5 : Int32)) w5 rfl (z_swN (k := (6 : Int32)) w6 rfl (z_swN (k := (7 : Int32)) w7 rfl (z_swN (k := (8 : Int32)) w8 rfl (z_swN (k := (9 : Int32)) w9 rfl (z_swN (k := (10 : Int32)) w10 rfl (z_swN (k := (11 : Int32)) w11 rfl (z_swN (k := (12 : Int32)) w12 rfl (z_swN (k := (13 : Int32)) w13 rfl (z_swN (k := (14 : Int32)) w14 rfl (z_swN (k := (15 : Int32)) w15 rfl (z_swN (k := (16 : Int32)) w16 rfl (z_swT (k := (17 : Int32)) w17 rfl))))))))))))))))))) (c17 w17)
  by_cases w18 : (xs j &&& (63 : Int32)) = (18 : Int32)
  · refine k_sw (pc' := 854) rfl (congrArg (z_tgt 33) (z_swN (k := (0 : Int32)) w0 rfl (z_swN (k := (1 : Int32)) w1 rfl (z_swN (k := (2 : Int32)) w2 rfl (z_swN (k := (3 : Int32)) w3 rfl (z_swN (k := (4 : Int32)) w4 rfl (z_swN (k := (5 : Int32)) w5 rfl (z_swN (k := (6 : Int32)) w6 rfl (z_swN (k := (7 : Int32)) w7 rfl (z_swN (k := (8 : Int32)) w8 rfl (z_swN (k := (9 : Int32)) w9 rfl (z_swN (k := (10 : Int32)) w10 rfl (z_swN (k := (11 : Int32)) w11 rfl (z_swN (k := (12 : Int32)) w12 rfl (z_swN (k := (13 : Int32)) w13 rfl (z_swN (k := (14 : Int32)) w14 rfl (z_swN (k := (15 : Int32)) w15 rfl (z_swN (k := (16 : Int32)) w16 rfl (z_swN (k := (17 : Int32)) w17 rfl (z_swT (k := (18 : Int32)) w18 rfl)))))))))))))))))))) (c18 w18)
  by_cases w19 : (xs j &&& (63 : Int32)) = (19 : Int32)
  · refine k_sw (pc' := 887) rfl (congrArg (z_tgt 33) (z_swN (k := (0 : Int32)) w0 rfl (z_swN (k := (1 : Int32)) w1 rfl (z_swN (k := (2 : Int32)) w2 rfl (z_swN (k := (3 : Int32)) w3 rfl (z_swN (k := (4 : Int32)) w4 rfl (z_swN (k := (5 : Int32)) w5 rfl (z_swN (k := (6 : Int32)) w6 rfl (z_swN (k := (7 : Int32)) w7 rfl (z_swN (k := (8 : Int32)) w8 rfl (z_swN (k := (9 : Int32)) w9 rfl (z_swN (k := (10 : Int32)) w10 rfl (z_swN (k := (11 : Int32)) w11 rfl (z_swN (k := (12 : Int32)) w12 rfl (z_swN (k := (13 : Int32)) w13 rfl (z_swN (k := (14 : Int32)) w14 rfl (z_swN (k := (15 : Int32)) w15 rfl (z_swN (k := (16 : Int32)) w16 rfl (z_swN (k := (17 : Int32)) w17 rfl (z_swN (k := (18 : Int32)) w18 rfl (z_swT (k := (19 : Int32)) w19 rfl))))))))))))))))))))) (c19 w19)
  by_cases w20 : (xs j &&& (63 : Int32)) = (20 : Int32)
  · refine k_sw (pc' := 920) rfl (congrArg (z_tgt 33) (z_swN (k := (0 : Int32)) w0 rfl (z_swN (k := (1 : Int32)) w1 rfl (z_swN (k := (2 : Int32)) w2 rfl (z_swN (k := (3 : Int32)) w3 rfl (z_swN (k := (4 : Int32)) w4 rfl (z_swN (k := (5 : Int32)) w5 rfl (z_swN (k := (6 : Int32)) w6 rfl (z_swN (k := (7 : Int32)) w7 rfl (z_swN (k := (8 : Int32)) w8 rfl (z_swN (k := (9 : Int32)) w9 rfl (z_swN (k := (10 : Int32)) w10 rfl (z_swN (k := (11 : Int32)) w11 rfl (z_swN (k := (12 : Int32)) w12 rfl (z_swN (k := (13 : Int32)) w13 rfl (z_swN (k := (14 : Int32)) w14 rfl (z_swN (k := (15 : Int32)) w15 rfl (z_swN (k := (16 : Int32)) w16 rfl (z_swN (k := (17 : Int32)) w17 rfl (z_swN (k := (18 : Int32)) w18 rfl (z_swN (k := (19 : Int32)) w19 rfl (z_swT (k := (20 : Int32)) w20 rfl)))))))))))))))))))))) (c20 w20)
  by_cases w21 : (xs j &&& (63 : Int32)) = (21 : Int32)
  · refine k_sw (pc' := 953) rfl (congrArg (z_tgt 33) (z_swN (k := (0 : Int32)) w0 rfl (z_swN (k := (1 : Int32)) w1 rfl (z_swN (k := (2 : Int32)) w2 rfl (z_swN (k := (3 : Int32)) w3 rfl (z_swN (k := (4 : Int32)) w4 rfl (z_swN (k := (5 : Int32)) w5 rfl (z_swN (k := (6 : Int32)) w6 rfl (z_swN (k := (7 : Int32)) w7 rfl (z_swN (k := (8 : Int32)) w8 rfl (z_swN (k := (9 : Int32)) w9 rfl (z_swN (k := (10 : Int32)) w10 rfl (z_swN (k := (11 : Int32)) w11 rfl (z_swN (k := (12 : Int32)) w12 rfl (z_swN (k := (13 : Int32)) w13 rfl (z_swN (k := (14 : Int32)) w14 rfl (z_swN (k := (15 : Int32)) w15 rfl (z_swN (k := (16 : Int32)) w16 rfl (z_swN (k := (17 : Int32)) w17 rfl (z_swN (k := (18 : Int32)) w18 rfl (z_swN (k := (19 : Int32)) w19 rfl (z_swN (k := (20 : Int32)) w20 rfl (z_swT (k := (21 : Int32)) w21 rfl))))))))))))))))))))))) (c21 w21)
  by_cases w22 : (xs j &&& (63 : Int32)) = (22 : Int32)
  · refine k_sw (pc' := 976) rfl (congrArg (z_tgt 33) (z_swN (k := (0 : Int32)) w0 rfl (z_swN (k := (1 : Int32)) w1 rfl (z_swN (k := (2 : Int32)) w2 rfl (z_swN (k := (3 : Int32)) w3 rfl (z_swN (k := (4 : Int32)) w4 rfl (z_swN (k := (5 : Int32)) w5 rfl (z_swN (k := (6 : Int32)) w6 rfl (z_swN (k := (7 : Int32)) w7 rfl (z_swN (k := (8 : Int32)) w8 rfl (z_swN (k := (9 : Int32)) w9 rfl (z_swN (k := (10 : Int32)) w10 rfl (z_swN (k := (11 : Int32)) w11 rfl (z_swN (k := (12 : Int32)) w12 rfl (z_swN (k := (13 : Int32)) w13 rfl (z_swN (k := (14 : Int32)) w14 rfl (z_swN (k := (15 : Int32)) w15 rfl (z_swN (k := (16 : Int32)) w16 rfl (z_swN (k := (17 : Int32)) w17 rfl (z_swN (k := (18 : Int32)) w18 rfl (z_swN (k := (19 : Int32)) w19 rfl (z_swN (k := (20 : Int32)) w20 rfl (z_swN (k := (21 : Int32)) w21 rfl (z_swT (k := (22 : Int32)) w22 rfl)))))))))))))))))))))))) (c22 w22)
  by_cases w23 : (xs j &&& (63 : Int32)) = (23 : Int32)
  · refine k_sw (pc' := 999) rfl (congrArg (z_tgt 33) (z_swN (k := (0 : Int32)) w0 rfl (z_swN (k := (1 : Int32)) w1 rfl (z_swN (k := (2 : Int32)) w2 rfl (z_swN (k := (3 : Int32)) w3 rfl (z_swN (k := (4 : Int32)) w4 rfl (z_swN (k := (5 : Int32)) w5 rfl (z_swN (k := (6 : Int32)) w6 rfl (z_swN (k := (7 : Int32)) w7 rfl (z_swN (k := (8 : Int32)) w8 rfl (z_swN (k := (9 : Int32)) w9 rfl (z_swN (k := (10 : Int32)) w10 rfl (z_swN (k := (11 : Int32)) w11 rfl (z_swN (k := (12 : Int32)) w12 rfl (z_swN (k := (13 : Int32)) w13 rfl (z_swN (k := (14 : Int32)) w14 rfl (z_swN (k := (15 : Int32)) w15 rfl (z_swN (k := (16 : Int32)) w16 rfl (z_swN (k := (17 : Int32)) w17 rfl (z_swN (k := (18 : Int32)) w18 rfl (z_swN (k := (19 : Int32)) w19 rfl (z_swN (k := (20 : Int32)) w20 rfl (z_swN (k := (21 : Int32)) w21 rfl (z_swN (k := (22 : Int32)) w22 rfl (z_swT (k := (23 : Int32)) w23 rfl))))))))))))))))))))))))) (c23 w23)
  by_cases w24 : (xs j &&& (63 : Int32)) = (24 : Int32)
  · refine k_sw (pc' := 1042) rfl (congrArg (z_tgt 33) (z_swN (k := (0 : Int32)) w0 rfl (z_swN (k := (1 : Int32)) w1 rfl (z_swN (k := (2 : Int32)) w2 rfl (z_swN (k := (3 : Int32)) w3 rfl (z_swN (k := (4 : Int32)) w4 rfl (z_swN (k := (5 : Int32)) w5 rfl (z_swN (k := (6 : Int32)) w6 rfl (z_swN (k := (7 : Int32)) w7 rfl (z_swN (k := (8 : Int32)) w8 rfl (z_swN (k := (9 : Int32)) w9 rfl (z_swN (k := (10 : Int32)) w10 rfl (z_swN (k := (11 : Int32)) w11 rfl (z_swN (k := (12 : Int32)) w12 rfl (z_swN (k := (13 : Int32)) w13 rfl (z_swN (k := (14 : Int32)) w14 rfl (z_swN (k := (15 : Int32)) w15 rfl (z_swN (k := (16 : Int32)) w16 rfl (z_swN (k := (17 : Int32)) w17 rfl (z_swN (k := (18 : Int32)) w18 rfl (z_swN (k := (19 : Int32)) w19 rfl (z_swN (k := (20 : Int32)) w20 rfl (z_swN (k := (21 : Int32)) w21 rfl (z_swN (k := (22 : Int32)) w22 rfl (z_swN (k := (23 : Int32)) w23 rfl (z_swT (k := (24 : Int32)) w24 rfl)))))))))))))))))))))))))) (c24 w24)
  by_cases w25 : (xs j &&& (63 : Int32)) = (25 : Int32)
  · refine k_sw (pc' := 1085) rfl (congrArg (z_tgt 33) (z_swN (k := (0 : Int32)) w0 rfl (z_swN (k := (1 : Int32)) w1 rfl (z_swN (k := (2 : Int32)) w2 rfl (z_swN (k := (3 : Int32)) w3 rfl (z_swN (k := (4 : Int32)) w4 rfl (z_swN (k := (5 : Int32)) w5 rfl (z_swN (k := (6 : Int32)) w6 rfl (z_swN (k := (7 : Int32)) w7 rfl (z_swN (k := (8 : Int32)) w8 rfl (z_swN (k := (9 : Int32)) w9 rfl (z_swN (k := (10 : Int32)) w10 rfl (z_swN (k := (11 : Int32)) w11 rfl (z_swN (k := (12 : Int32)) w12 rfl (z_swN (k := (13 : Int32)) w13 rfl (z_swN (k := (14 : Int32)) w14 rfl (z_swN (k := (15 : Int32)) w15 rfl (z_swN (k := (16 : Int32)) w16 rfl (z_swN (k := (17 : Int32)) w17 rfl (z_swN (k := (18 : Int32)) w18 rfl (z_swN (k := (19 : Int32)) w19 rfl (z_swN (k := (20 : Int32)) w20 rfl (z_swN (k := (21 : Int32)) w21 rfl (z_swN (k := (22 : Int32)) w22 rfl (z_swN (k := (23 : Int32)) w23 rfl (z_swN (k := (24 : Int32)) w24 rfl (z_swT (k := (25 : Int32)) w25 rfl))))))))))))))))))))))))))) (c25 w25)
  by_cases w26 : (xs j &&& (63 : Int32)) = (26 : Int32)
  · refine k_sw (pc' := 1128) rfl (congrArg (z_tgt 33) (z_swN (k := (0 : Int32)) w0 rfl (z_swN (k := (1 : Int32)) w1 rfl (z_swN (k := (2 : Int32)) w2 rfl (z_swN (k := (3 : Int32)) w3 rfl (z_swN (k := (4 : Int32)) w4 rfl (z_swN (k := (5 : Int32)) w5 rfl (z_swN (k := (6 : Int32)) w6 rfl (z_swN (k := (7 : Int32)) w7 rfl (z_swN (k := (8 : Int32)) w8 rfl (z_swN (k := (9 : Int32)) w9 rfl (z_swN (k := (10 : Int32)) w10 rfl (z_swN (k := (11 : Int32)) w11 rfl (z_swN (k := (12 : Int32)) w12 rfl (z_swN (k := (13 : Int32)) w13 rfl (z_swN (k := (14 : Int32)) w14 rfl (z_swN (k := (15 : Int32)) w15 rfl (z_swN (k := (16 : Int32)) w16 rfl (z_swN (k := (17 : Int32)) w17 rfl (z_swN (k := (18 : Int32)) w18 rfl (z_swN (k := (19 : Int32)) w19 rfl (z_swN (k := (20 : Int32)) w20 rfl (z_swN (k := (21 : Int32)) w21 rfl (z_swN (k := (22 : Int32)) w22 rfl (z_swN (k := (23 : Int32)) w23 rfl (z_swN (k := (24 : Int32)) w24 rfl (z_swN (k := (25 : Int32)) w25 rfl (z_swT (k := (26 : Int32)) w26 rfl)))))))))))))))))))))))))))) (c26 w26)
  by_cases w27 : (xs j &&& (63 : Int32)) = (27 : Int32)
  · refine k_sw (pc' := 1192) rfl (congrArg (z_tgt 33) (z_swN (k := (0 : Int32)) w0 rfl (z_swN (k := (1 : Int32)) w1 rfl (z_swN (k := (2 : Int32)) w2 rfl (z_swN (k := (3 : Int32)) w3 rfl (z_swN (k := (4 : Int32)) w4 rfl (z_swN (k := (5 : Int32)) w5 rfl (z_swN (k := (6 : Int32)) w6 rfl (z_swN (k := (7 : Int32)) w7 rfl (z_swN (k := (8 : Int32)) w8 rfl (z_swN (k := (9 : Int32)) w9 rfl (z_swN (k := (10 : Int32)) w10 rfl (z_swN (k := (11 : Int32)) w11 rfl (z_swN (k := (12 : Int32)) w12 rfl (z_swN (k := (13 : Int32)) w13 rfl (z_swN (k := (14 : Int32)) w14 rfl (z_swN (k := (15 : Int32)) w15 rfl (z_swN (k := (16 : Int32)) w16 rfl (z_swN (k := (17 : Int32)) w17 rfl (z_swN (k := (18 : Int32)) w18 rfl (z_swN (k := (19 : Int32)) w19 rfl (z_swN (k := (20 : Int32)) w20 rfl (z_swN (k := (21 : Int32)) w21 rfl (z_swN (k := (22 : Int32)) w22 rfl (z_swN (k := (23 : Int32)) w23 rfl (z_swN (k := (24 : Int32)) w24 rfl (z_swN (k := (25 : Int32)) w25 rfl (z_swN (k := (26 : Int32)) w26 rfl (z_swT (k := (27 : Int32)) w27 rfl))))))))))))))))))))))))))))) (c27 w27)
  by_cases w28 : (xs j &&& (63 : Int32)) = (28 : Int32)
  · refine k_sw (pc' := 1245) rfl (congrArg (z_tgt 33) (z_swN (k := (0 : Int32)) w0 rfl (z_swN (k := (1 : Int32)) w1 rfl (z_swN (k := (2 : Int32)) w2 rfl (z_swN (k := (3 : Int32)) w3 rfl (z_swN (k := (4 : Int32)) w4 rfl (z_swN (k := (5 : Int32)) w5 rfl (z_swN (k := (6 : Int32)) w6 rfl (z_swN (k := (7 : Int32)) w7 rfl (z_swN (k := (8 : Int32)) w8 rfl (z_swN (k := (9 : Int32)) w9 rfl (z_swN (k := (10 : Int32)) w10 rfl (z_swN (k := (11 : Int32)) w11 rfl (z_swN (k := (12 : Int32)) w12 rfl (z_swN (k := (13 : Int32)) w13 rfl (z_swN (k := (14 : Int32)) w14 rfl (z_swN (k := (15 : Int32)) w15 rfl (z_swN (k := (16 : Int32)) w16 rfl (z_swN (k := (17 : Int32)) w17 rfl (z_swN (k := (18 : Int32)) w18 rfl (z_swN (k := (19 : Int32)) w19 rfl (z_swN (k := (20 : Int32)) w20 rfl (z_swN (k := (21 : Int32)) w21 rfl (z_swN (k := (22 : Int32)) w22 rfl (z_swN (k := (23 : Int32)) w23 rfl (z_swN (k := (24 : Int32)) w24 rfl (z_swN (k := (25 : Int32)) w25 rfl (z_swN (k := (26 : Int32)) w26 rfl (z_swN (k := (27 : Int32)) w27 rfl (z_swT (k := (28 : Int32)) w28 rfl)))))))))))))))))))))))))))))) (c28 w28)
  by_cases w29 : (xs j &&& (63 : Int32)) = (29 : Int32)
  · refine k_sw (pc' := 1308) rfl (congrArg (z_tgt 33) (z_swN (k := (0 : Int32)) w0 rfl (z_swN (k := (1 : Int32)) w1 rfl (z_swN (k := (2 : Int32)) w2 rfl (z_swN (k := (3 : Int32)) w3 rfl (z_swN (k := (4 : Int32)) w4 rfl (z_swN (k := (5 : Int32)) w5 rfl (z_swN (k := (6 : Int32)) w6 rfl (z_swN (k := (7 : Int32)) w7 rfl (z_swN (k := (8 : Int32)) w8 rfl (z_swN (k := (9 : Int32)) w9 rfl (z_swN (k := (10 : Int32)) w10 rfl (z_swN (k := (11 : Int32)) w11 rfl (z_swN (k := (12 : Int32)) w12 rfl (z_swN (k := (13 : Int32)) w13 rfl (z_swN (k := (14 : Int32)) w14 rfl (z_swN (k := (15 : Int32)) w15 rfl (z_swN (k := (16 : Int32)) w16 rfl (z_swN (k := (17 : Int32)) w17 rfl (z_swN (k := (18 : Int32)) w18 rfl (z_swN (k := (19 : Int32)) w19 rfl (z_swN (k := (20 : Int32)) w20 rfl (z_swN (k := (21 : Int32)) w21 rfl (z_swN (k := (22 : Int32)) w22 rfl (z_swN (k := (23 : Int32)) w23 rfl (z_swN (k := (24 : Int32)) w24 rfl (z_swN (k := (25 : Int32)) w25 rfl (z_swN (k := (26 : Int32)) w26 rfl (z_swN (k := (27 : Int32)) w27 rfl (z_swN (k := (28 : Int32)) w28 rfl (z_swT (k := (29 : Int32)) w29 rfl))))))))))))))))))))))))))))))) (c29 w29)
  by_cases w30 : (xs j &&& (63 : Int32)) = (30 : Int32)
  · refine k_sw (pc' := 1341) rfl (congrArg (z_tgt 33) (z_swN (k := (0 : Int32)) w0 rfl (z_swN (k := (1 : Int32)) w1 rfl (z_swN (k := (2 : Int32)) w2 rfl (z_swN (k := (3 : Int32)) w3 rfl (z_swN (k := (4 : Int32)) w4 rfl (z_swN (k := (5 : Int32)) w5 rfl (z_swN (k := (6 : Int32)) w6 rfl (z_swN (k := (7 : Int32)) w7 rfl (z_swN (k := (8 : Int32)) w8 rfl (z_swN (k := (9 : Int32)) w9 rfl (z_swN (k := (10 : Int32)) w10 rfl (z_swN (k := (11 : Int32)) w11 rfl (z_swN (k := (12 : Int32)) w12 rfl (z_swN (k := (13 : Int32)) w13 rfl (z_swN (k := (14 : Int32)) w14 rfl (z_swN (k := (15 : Int32)) w15 rfl (z_swN (k := (16 : Int32)) w16 rfl (z_swN (k := (17 : Int32)) w17 rfl (z_swN (k := (18 : Int32)) w18 rfl (z_swN (k := (19 : Int32)) w19 rfl (z_swN (k := (20 : Int32)) w20 rfl (z_swN (k := (21 : Int32)) w21 rfl (z_swN (k := (22 : Int32)) w22 rfl (z_swN (k := (23 : Int32)) w23 rfl (z_swN (k := (24 : Int32)) w24 rfl (z_swN (k := (25 : Int32)) w25 rfl (z_swN (k := (26 : Int32)) w26 rfl (z_swN (k := (27 : Int32)) w27 rfl (z_swN (k := (28 : Int32)) w28 rfl (z_swN (k := (29 : Int32)) w29 rfl (z_swT (k := (30 : Int32)) w30 rfl)))))))))))))))))))))))))))))))) (c30 w30)
  by_cases w31 : (xs j &&& (63 : Int32)) = (31 : Int32)
  · refine k_sw (pc' := 1364) rfl (congrArg (z_tgt 33) (z_swN (k := (0 : Int32)) w0 rfl (z_swN (k := (1 : Int32)) w1 rfl (z_swN (k := (2 : Int32)) w2 rfl (z_swN (k := (3 : Int32)) w3 rfl (z_swN (k := (4 : Int32)) w4 rfl (z_swN (k := (5 : Int32)) w5 rfl (z_swN (k := (6 : Int32)) w6 rfl (z_swN (k := (7 : Int32)) w7 rfl (z_swN (k := (8 : Int32)) w8 rfl (z_swN (k := (9 : Int32)) w9 rfl (z_swN (k := (10 : Int32)) w10 rfl (z_swN (k := (11 : Int32)) w11 rfl (z_swN (k := (12 : Int32)) w12 rfl (z_swN (k := (13 : Int32)) w13 rfl (z_swN (k := (14 : Int32)) w14 rfl (z_swN (k := (15 : Int32)) w15 rfl (z_swN (k := (16 : Int32)) w16 rfl (z_swN (k := (17 : Int32)) w17 rfl (z_swN (k := (18 : Int32)) w18 rfl (z_swN (k := (19 : Int32)) w19 rfl (z_swN (k := (20 : Int32)) w20 rfl (z_swN (k := (21 : Int32)) w21 rfl (z_swN (k := (22 : Int32)) w22 rfl (z_swN (k := (23 : Int32)) w23 rfl (z_swN (k := (24 : Int32)) w24 rfl (z_swN (k := (25 : Int32)) w25 rfl (z_swN (k := (26 : Int32)) w26 rfl (z_swN (k := (27 : Int32)) w27 rfl (z_swN (k := (28 : Int32)) w28 rfl (z_swN (k := (29 : Int32)) w29 rfl (z_swN (k := (30 : Int32)) w30 rfl (z_swT (k := (31 : Int32)) w31 rfl))))))))))))))))))))))))))))))))) (c31 w31)
  by_cases w32 : (xs j &&& (63 : Int32)) = (32 : Int32)
  · refine k_sw (pc' := 1407) rfl (congrArg (z_tgt 33) (z_swN (k := (0 : Int32)) w0 rfl (z_swN (k := (1 : Int32)) w1 rfl (z_swN (k := (2 : Int32)) w2 rfl (z_swN (k := (3 : Int32)) w3 rfl (z_swN (k := (4 : Int32)) w4 rfl (z_swN (k := (5 : Int32)) w5 rfl (z_swN (k := (6 : Int32)) w6 rfl (z_swN (k := (7 : Int32)) w7 rfl (z_swN (k := (8 : Int32)) w8 rfl (z_swN (k := (9 : Int32)) w9 rfl (z_swN (k := (10 : Int32)) w10 rfl (z_swN (k := (11 : Int32)) w11 rfl (z_swN (k := (12 : Int32)) w12 rfl (z_swN (k := (13 : Int32)) w13 rfl (z_swN (k := (14 : Int32)) w14 rfl (z_swN (k := (15 : Int32)) w15 rfl (z_swN (k := (16 : Int32)) w16 rfl (z_swN (k := (17 : Int32)) w17 rfl (z_swN (k := (18 : Int32)) w18 rfl (z_swN (k := (19 : Int32)) w19 rfl (z_swN (k := (20 : Int32)) w20 rfl (z_swN (k := (21 : Int32)) w21 rfl (z_swN (k := (22 : Int32)) w22 rfl (z_swN (k := (23 : Int32)) w23 rfl (z_swN (k := (24 : Int32)) w24 rfl (z_swN (k := (25 : Int32)) w25 rfl (z_swN (k := (26 : Int32)) w26 rfl (z_swN (k := (27 : Int32)) w27 rfl (z_swN (k := (28 : Int32)) w28 rfl (z_swN (k := (29 : Int32)) w29 rfl (z_swN (k := (30 : Int32)) w30 rfl (z_swN (k := (31 : Int32)) w31 rfl (z_swT (k := (32 : Int32)) w32 rfl)))))))))))))))))))))))))))))))))) (c32 w32)
  by_cases w33 : (xs j &&& (63 : Int32)) = (33 : Int32)
  · refine k_sw (pc' := 1450) rfl (congrArg (z_tgt 33) (z_swN (k := (0 : Int32)) w0 rfl (z_swN (k := (1 : Int32)) w1 rfl (z_swN (k := (2 : Int32)) w2 rfl (z_swN (k := (3 : Int32)) w3 rfl (z_swN (k := (4 : Int32)) w4 rfl (z_swN (k := (5 : Int32)) w5 rfl (z_swN (k := (6 : Int32)) w6 rfl (z_swN (k := (7 : Int32)) w7 rfl (z_swN (k := (8 : Int32)) w8 rfl (z_swN (k := (9 : Int32)) w9 rfl (z_swN (k := (10 : Int32)) w10 rfl (z_swN (k := (11 : Int32)) w11 rfl (z_swN (k := (12 : Int32)) w12 rfl (z_swN (k := (13 : Int32)) w13 rfl (z_swN (k := (14 : Int32)) w14 rfl (z_swN (k := (15 : Int32)) w15 rfl (z_swN (k := (16 : Int32)) w16 rfl (z_swN (k := (17 : Int32)) w17 rfl (z_swN (k := (18 : Int32)) w18 rfl (z_swN (k := (19 : Int32)) w19 rfl (z_swN (k := (20 : Int32)) w20 rfl (z_swN (k := (21 : Int32)) w21 rfl (z_swN (k := (22 : Int32)) w22 rfl (z_swN (k := (23 : Int32)) w23 rfl (z_swN (k := (24 : Int32)) w24 rfl (z_swN (k := (25 : Int32)) w25 rfl (z_swN (k := (26 : Int32)) w26 rfl (z_swN (k := (27 : Int32)) w27 rfl (z_swN (k := (28 : Int32)) w28 rfl (z_swN (k := (29 : Int32)) w29 rfl (z_swN (k := (30 : Int32)) w30 rfl (z_swN (k := (31 : Int32)) w31 rfl (z_swN (k := (32 : Int32)) w32 rfl (z_swT (k := (33 : Int32)) w33 rfl))))))))))))))))))))))))))))))))))) (c33 w33)
  by_cases w34 : (xs j &&& (63 : Int32)) = (34 : Int32)
  · refine k_sw (pc' := 1503) rfl (congrArg (z_tgt 33) (z_swN (k := (0 : Int32)) w0 rfl (z_swN (k := (1 : Int32)) w1 rfl (z_swN (k := (2 : Int32)) w2 rfl (z_swN (k := (3 : Int32)) w3 rfl (z_swN (k := (4 : Int32)) w4 rfl (z_swN (k := (5 : Int32)) w5 rfl (z_swN (k := (6 : Int32)) w6 rfl (z_swN (k := (7 : Int32)) w7 rfl (z_swN (k := (8 : Int32)) w8 rfl (z_swN (k := (9 : Int32)) w9 rfl (z_swN (k := (10 : Int32)) w10 rfl (z_swN (k := (11 : Int32)) w11 rfl (z_swN (k := (12 : Int32)) w12 rfl (z_swN (k := (13 : Int32)) w13 rfl (z_swN (k := (14 : Int32)) w14 rfl (z_swN (k := (15 : Int32)) w15 rfl (z_swN (k := (16 : Int32)) w16 rfl (z_swN (k := (17 : Int32)) w17 rfl (z_swN (k := (18 : Int32)) w18 rfl (z_swN (k := (19 : Int32)) w19 rfl (z_swN (k := (20 : Int32)) w20 rfl (z_swN (k := (21 : Int32)) w21 rfl (z_swN (k := (22 : Int32)) w22 rfl (z_swN (k := (23 : Int32)) w23 rfl (z_swN (k := (24 : Int32)) w24 rfl (z_swN (k := (25 : Int32)) w25 rfl (z_swN (k := (26 : Int32)) w26 rfl (z_swN (k := (27 : Int32)) w27 rfl (z_swN (k := (28 : Int32)) w28 rfl (z_swN (k := (29 : Int32)) w29 rfl (z_swN (k := (30 : Int32)) w30 rfl (z_swN (k := (31 : Int32)) w31 rfl (z_swN (k := (32 : Int32)) w32 rfl (z_swN (k := (33 : Int32)) w33 rfl (z_swT (k := (34 : Int32)) w34 rfl)))))))))))))))))))))))))))))))))))) (c34 w34)
  by_cases w35 : (xs j &&& (63 : Int32)) = (35 : Int32)
  · refine k_sw (pc' := 1516) rfl (congrArg (z_tgt 33) (z_swN (k := (0 : Int32)) w0 rfl (z_swN (k := (1 : Int32)) w1 rfl (z_swN (k := (2 : Int32)) w2 rfl (z_swN (k := (3 : Int32)) w3 rfl (z_swN (k := (4 : Int32)) w4 rfl (z_swN (k := (5 : Int32)) w5 rfl (z_swN (k := (6 : Int32)) w6 rfl (z_swN (k := (7 : Int32)) w7 rfl (z_swN (k := (8 : Int32)) w8 rfl (z_swN (k := (9 : Int32)) w9 rfl (z_swN (k := (10 : Int32)) w10 rfl (z_swN (k := (11 : Int32)) w11 rfl (z_swN (k := (12 : Int32)) w12 rfl (z_swN (k := (13 : Int32)) w13 rfl (z_swN (k := (14 : Int32)) w14 rfl (z_swN (k := (15 : Int32)) w15 rfl (z_swN (k := (16 : Int32)) w16 rfl (z_swN (k := (17 : Int32)) w17 rfl (z_swN (k := (18 : Int32)) w18 rfl (z_swN (k := (19 : Int32)) w19 rfl (z_swN (k := (20 : Int32)) w20 rfl (z_swN (k := (21 : Int32)) w21 rfl (z_swN (k := (22 : Int32)) w22 rfl (z_swN (k := (23 : Int32)) w23 rfl (z_swN (k := (24 : Int32)) w24 rfl (z_swN (k := (25 : Int32)) w25 rfl (z_swN (k := (26 : Int32)) w26 rfl (z_swN (k := (27 : Int32)) w27 rfl (z_swN (k := (28 : Int32)) w28 rfl (z_swN (k := (29 : Int32)) w29 rfl (z_swN (k := (30 : Int32)) w30 rfl (z_swN (k := (31 : Int32)) w31 rfl (z_swN (k := (32 : Int32)) w32 rfl (z_swN (k := (33 : Int32)) w33 rfl (z_swN (k := (34 : Int32)) w34 rfl (z_swT (k := (35 : Int32)) w35 rfl))))))))))))))))))))))))))))))))))))) (c35 w35)
  exact k_sw (pc' := 1539) rfl (congrArg (z_tgt 33) (z_swN (k := (0 : Int32)) w0 rfl (z_swN (k := (1 : Int32)) w1 rfl (z_swN (k := (2 : Int32)) w2 rfl (z_swN (k := (3 : Int32)) w3 rfl (z_swN (k := (4 : Int32)) w4 rfl (z_swN (k := (5 : Int32)) w5 rfl (z_swN (k := (6 : Int32)) w6 rfl (z_swN (k := (7 : Int32)) w7 rfl (z_swN (k := (8 : Int32)) w8 rfl (z_swN (k := (9 : Int32)) w9 rfl (z_swN (k := (10 : Int32)) w10 rfl (z_swN (k := (11 : Int32)) w11 rfl (z_swN (k := (12 : Int32)) w12 rfl (z_swN (k := (13 : Int32)) w13 rfl (z_swN (k := (14 : Int32)) w14 rfl (z_swN (k := (15 : Int32)) w15 rfl (z_swN (k := (16 : Int32)) w16 rfl (z_swN (k := (17 : Int32)) w17 rfl (z_swN (k := (18 : Int32)) w18 rfl (z_swN (k := (19 : Int32)) w19 rfl (z_swN (k := (20 : Int32)) w20 rfl (z_swN (k := (21 : Int32)) w21 rfl (z_swN (k := (22 : Int32)) w22 rfl (z_swN (k := (23 : Int32)) w23 rfl (z_swN (k := (24 : Int32)) w24 rfl (z_swN (k := (25 : Int32)) w25 rfl (z_swN (k := (26 : Int32)) w26 rfl (z_swN (k := (27 : Int32)) w27 rfl (z_swN (k := (28 : Int32)) w28 rfl (z_swN (k := (29 : Int32)) w29 rfl (z_swN (k := (30 : Int32)) w30 rfl (z_swN (k := (31 : Int32)) w31 rfl (z_swN (k := (32 : Int32)) w32 rfl (z_swN (k := (33 : Int32)) w33 rfl (z_swN (k := (34 : Int32)) w34 rfl (z_swN (k := (35 : Int32)) w35 rfl (rfl)))))))))))))))))))))))))))))))))))))) cd
