/-! the law's loop -/
theorem L_go {α : Type} {p : Option Value → Option α} {yc ym : Nat} {A B : zS} {c : Nat} {g : zG} {h : zH} {xs : Nat → Int32} {Ls j : Nat} {Q : Int32 → zH → Prop} (S : ST p yc A ym B c g h) (M : RM g h) (s : Sq xs Ls h) (N : ∀ h2, (∃ g3, AL (c + 1) g3 h2) → Sq xs Ls h2 → z_nx h2 ≤ z_nx h + 4 → z_us h2 ≤ z_us h + 400 → KG z_pI 233 1539 (z_lw (Int32.ofNat j)) [] h2 Q) : KK p yc A h (fun v1 h1 => Sq xs Ls h1 ∧ KK p ym B h1 (fun v2 h2 => v2 = v1 ∧ KG z_pI 233 1539 (z_lw (Int32.ofNat j)) [] h2 Q)) := by
  obtain ⟨s1, s2, s3, s4, s5⟩ := s
  have S' := S
  refine (S.run M).mono (fun v1 h1 q => ?_)
  obtain ⟨kq, rm, k⟩ := q
  obtain ⟨k1, k2, k3, k4⟩ := kq
  have t27 : z_tg h1 27 = 12 := (k1 27 (by omega) (by omega)).1.trans s2
  have x1 : z_iv h1 z_SC = xs := k3.trans s3
  have x2 : z_ln h1 z_SC = Ls := k4.trans s4
  obtain ⟨v, h2, e, ⟨e1, ⟨g3, a⟩, f⟩⟩ := k
  have t0 : z_tg h1 0 = 11 := by
    have w := a.2.1.w.t0
    rw [f.2.2.1] at w
    exact w
  refine ⟨⟨t0, t27, x1, x2, s5⟩, v, h2, e, e1, N h2 ⟨g3, a⟩ ⟨a.2.1.w.t0, ?_, ?_, ?_, s5⟩ ?_ ?_⟩
  · rw [f.2.2.1]; exact t27
  · rw [f.2.2.2.2.2 z_SC (by unfold z_SC; omega)]; exact x1
  · rw [f.2.2.2.1]; exact x2
  · rw [f.1]; exact rm.1
  · rw [f.2.1]; exact rm.2
theorem L_one {c : Nat} {g : zG} {h : zH} {xs : Nat → Int32} {Ls j : Nat} {Q : Int32 → zH → Prop} (X : AH c g h) (M : RM g h) (s : Sq xs Ls h) (hj : j + 7 ≤ Ls) (N : ∀ h2, (∃ g3, AL (c + 1) g3 h2) → Sq xs Ls h2 → z_nx h2 ≤ z_nx h + 4 → z_us h2 ≤ z_us h + 400 → KG z_pI 233 1539 (z_lw (Int32.ofNat j)) [] h2 Q) : KG z_pI 233 27 (z_lw (Int32.ofNat j)) [] h Q := by
  refine L_sw s hj (fun _ => L_0 s hj (L_go (T_mine X _ _ _ _) M s N))
    (fun _ => L_1 s hj (L_go (T_water X _ _ _) M s N))
    (fun _ => L_2 s hj (L_go (T_change X _ _ _) M s N))
    (fun _ => L_3 s hj (L_go (T_engine X _ _ _ _ _ _) M s N))
    (fun _ => L_4 s hj (L_go (T_of X _ _) M s N))
    (fun _ => by
      by_cases z : xs (j + 2) = 0
      · exact L_5z s hj z (L_go (T_stick X _ _ (Or.inl rfl)) M s N)
      · exact L_5n s hj z (L_go (T_stick X _ _ (Or.inr rfl)) M s N))
    (fun _ => L_6 s hj (L_go (T_mend X _) M s N))
    (fun _ => L_7 s hj (L_go (T_month X) M s N))
    (fun _ => L_8 s hj (L_go (T_was X _ _ _) M s N))
    (fun _ => L_9 s hj (L_go (T_at X _ _) M s N))
    (fun _ => L_10 s hj (L_go (T_trial X _ _ _ _) M s N))
    (fun _ => L_11 s hj (fun x => L_go (T_feed X x) M s N))
    (fun _ => L_12 s hj (L_go (T_end X _) M s N))
    (fun _ => L_13 s hj (L_go (T_text X) M s N))
    (fun _ => L_14 s hj (L_go (T_fault X) M s N))
    (fun _ => L_15 s hj (L_go (T_rule X _ _ _) M s N))
    (fun _ => L_16 s hj (L_go (T_read X _) M s N))
    (fun _ => L_17 s hj (L_go (T_reading X _ _) M s N))
    (fun _ => L_18 s hj (L_go (T_pay X _ _) M s N))
    (fun _ => L_19 s hj (L_go (T_owed X _ _) M s N))
    (fun _ => L_20 s hj (L_go (T_known X _ _) M s N))
    (fun _ => L_21 s hj (L_go (T_stop X _) M s N))
    (fun _ => L_22 s hj (L_go (T_go X _) M s N))
    (fun _ => L_23 s hj (L_go (T_theirs X _ _ _) M s N))
    (fun _ => L_24 s hj (L_go (T_shares X _ _ _) M s N))
    (fun _ => L_25 s hj (L_go (T_deal X _ _ _) M s N))
    (fun _ => L_26 s hj (L_go (T_brings X _ _ _ _ _) M s N))
    (fun _ => L_27 s hj (L_go (T_best X _ _ _ _) M s N))
    (fun _ => L_28 s hj (L_go (T_fair X _ _ _ _ _) M s N))
    (fun _ => L_29 s hj (L_go (T_round X _ _) M s N))
    (fun _ => L_30 s hj (L_go (T_waits X _) M s N))
    (fun _ => L_31 s hj (L_go (T_sheet X _ _ _) M s N))
    (fun _ => L_32 s hj (L_go (T_lay X _ _ _) M s N))
    (fun _ => L_33 s hj (L_go (T_book X _ _ _ _) M s N))
    (fun _ => L_34 s hj (L_go (T_torn X) M s N))
    (fun _ => L_35 s hj (L_go (T_count X _) M s N)) (N h ⟨g, X.1.t_c (Nat.le_succ c), X.2.1, M⟩ s (by omega) (by omega))
theorem L_loop {xs : Nat → Int32} {Ls U : Nat} (hU : U ≤ 100000) {h : zH} {g : zG} (a : AL 0 g h) (s : Sq xs Ls h) (b1 : z_nx h ≤ 89) (b2 : z_us h ≤ U) : KG z_pI 233 18 (z_lw (0 : Int32)) [] h (fun v h2 => v = 1 ∧ z_nx h2 ≤ 600000 ∧ z_us h2 ≤ 7302250) := by
  have L5 := s.2.2.2.2
  have t7 : (7 : Int32).toInt = 7 := by decide
  refine z_lp (N := Ls / 7) (G := fun c => ∀ h g, AL c g h → Sq xs Ls h → z_nx h ≤ 89 + 4 * c → z_us h ≤ U + 400 * c → KG z_pI 233 18 (z_lw (Int32.ofNat (7 * c))) [] h (fun v h2 => v = 1 ∧ z_nx h2 ≤ 600000 ∧ z_us h2 ≤ 7302250)) ?_ ?_ h g a s b1 b2
  · intro h g a s b1 b2
    have l : z_sl h 19 = Ls := s.2.2.2.1
    refine k_n 2 (pc' := 20) (L' := z_lw (Int32.ofNat (7 * (Ls / 7)))) (S' := [.retAddr 19, .int (Int32.ofNat (7 * (Ls / 7)))]) (h' := h) rfl ?_
    refine k_g (g := 19 < 3 ∨ (11 ≤ 19 ∧ 19 < 20)) (pc' := 21) (L' := z_lw (Int32.ofNat (7 * (Ls / 7)))) (S' := [.int (Int32.ofNat (z_sl h 19)), .int (Int32.ofNat (7 * (Ls / 7)))]) (h' := h) rfl rfl (by decide) ?_
    refine k_n 2 (pc' := 24) (L' := z_lw (Int32.ofNat (7 * (Ls / 7)))) (S' := [.int (Int32.ofNat (z_sl h 19) - (7 : Int32)), .int (Int32.ofNat (7 * (Ls / 7)))]) (h' := h) rfl ?_
    rw [l]
    have sb : (Int32.ofNat Ls - (7 : Int32)).toInt = (Ls : Int) - 7 := by rw [i_sub (by rw [n_i (by omega), t7]; omega) (by rw [n_i (by omega), t7]; omega), n_i (by omega), t7]
    refine k_b (g := (Int32.ofNat Ls - (7 : Int32)) < Int32.ofNat (7 * (Ls / 7))) (pc' := 1545) (L' := z_lw (Int32.ofNat (7 * (Ls / 7)))) (S' := []) (pc2 := 27) (L2 := z_lw (Int32.ofNat (7 * (Ls / 7)))) (S2 := []) (h' := h) (h2 := h) rfl rfl (fun hc => ?_) (fun hc => absurd (n_lt.mpr (by rw [sb, n_i (by omega)]; omega)) hc)
    refine k_n 1 (pc' := 1546) (L' := z_lw (Int32.ofNat (7 * (Ls / 7)))) (S' := [.int (1 : Int32)]) (h' := h) rfl ?_
    exact k_r rfl rfl rfl ⟨rfl, by omega, by omega⟩
  · intro c hc k h g a s b1 b2
    have l : z_sl h 19 = Ls := s.2.2.2.1
    refine k_n 2 (pc' := 20) (L' := z_lw (Int32.ofNat (7 * c))) (S' := [.retAddr 19, .int (Int32.ofNat (7 * c))]) (h' := h) rfl ?_
    refine k_g (g := 19 < 3 ∨ (11 ≤ 19 ∧ 19 < 20)) (pc' := 21) (L' := z_lw (Int32.ofNat (7 * c))) (S' := [.int (Int32.ofNat (z_sl h 19)), .int (Int32.ofNat (7 * c))]) (h' := h) rfl rfl (by decide) ?_
    refine k_n 2 (pc' := 24) (L' := z_lw (Int32.ofNat (7 * c))) (S' := [.int (Int32.ofNat (z_sl h 19) - (7 : Int32)), .int (Int32.ofNat (7 * c))]) (h' := h) rfl ?_
    rw [l]
    have sb : (Int32.ofNat Ls - (7 : Int32)).toInt = (Ls : Int) - 7 := by rw [i_sub (by rw [n_i (by omega), t7]; omega) (by rw [n_i (by omega), t7]; omega), n_i (by omega), t7]
    refine k_b (g := (Int32.ofNat Ls - (7 : Int32)) < Int32.ofNat (7 * c)) (pc' := 1545) (L' := z_lw (Int32.ofNat (7 * c))) (S' := []) (pc2 := 27) (L2 := z_lw (Int32.ofNat (7 * c))) (S2 := []) (h' := h) (h2 := h) rfl rfl (fun w => absurd (n_lt.mp w) (by rw [sb, n_i (by omega)]; omega)) (fun w => ?_)
    refine L_one (c := c) ⟨a.1, a.2.1, by omega, by omega⟩ a.2.2 s (by omega) (fun h2 ⟨g3, a3⟩ s3 c1 c2 => ?_)
    refine k_n 2 (pc' := 18) (L' := z_lw (Int32.ofNat (7 * c) + (7 : Int32))) (S' := []) (h' := h2) rfl ?_
    have e : Int32.ofNat (7 * c) + (7 : Int32) = Int32.ofNat (7 * (c + 1)) := by
      rw [show 7 * (c + 1) = 7 * c + 7 by omega]
      exact n_add
    rw [e]
    exact k h2 g3 a3 s3 (Nat.le_trans c1 (by rw [Nat.mul_add, Nat.mul_one, ← Nat.add_assoc]; exact Nat.add_le_add_right b1 4)) (Nat.le_trans c2 (by rw [Nat.mul_add, Nat.mul_one, ← Nat.add_assoc]; exact Nat.add_le_add_right b2 400))
