section RD
variable {c n : Nat} {lm : Nat → Nat} {g : zG} {h : zH} {l : List Nat}
theorem n_abs {x y : Int32} (hx : 0 ≤ x.toInt ∧ x.toInt ≤ 99) (hy : 0 ≤ y.toInt ∧ y.toInt ≤ 99) : 0 ≤ (if 0 ≤ (x - y) then (x - y) else (-(x - y))).toInt ∧ (if 0 ≤ (x - y) then (x - y) else (-(x - y))).toInt ≤ 99 := by
  have e : (x - y).toInt = x.toInt - y.toInt := i_sub (by omega) (by omega)
  have t0 : (0 : Int32).toInt = 0 := by decide
  by_cases z : 0 ≤ (x - y)
  · rw [if_pos z, e]
    have := n_le.mp z
    rw [t0, e] at this
    omega
  · rw [if_neg z, i_neg (by omega), e]
    have : ¬ (0 : Int32).toInt ≤ (x - y).toInt := fun w => z (n_le.mpr w)
    rw [t0, e] at this
    omega
theorem K_59 (R : RC lm g h) (I : INV c lm g) {a b x y : Nat} (ha : a < q_n g 1) (hx : z_rv h 1 a = some x) (hb : b < q_n g 1) (hy : z_rv h 1 b = some y) : KV z_pI 59 [.ref x, .ref y] h (q_dd g a b) := by
  refine kv_of (C_59 x y h R.w (R.w.mt R.f hx) (R.w.mt R.f hy) ⟨?_, rfl⟩)
  rw [R.f28 ha hx, R.f28 hb hy, R.f29 ha hx, R.f29 hb hy]
  have x1 := I.bm.at (k := 28) (a := 0) (b := 99) (by decide) ha
  have x2 := I.bm.at (k := 28) (a := 0) (b := 99) (by decide) hb
  have y1 := I.bm.at (k := 29) (a := 0) (b := 99) (by decide) ha
  have y2 := I.bm.at (k := 29) (a := 0) (b := 99) (by decide) hb
  have a1 := n_abs x1 x2
  have a2 := n_abs y1 y2
  unfold q_dd
  generalize (if 0 ≤ (g 28 a - g 28 b) then (g 28 a - g 28 b) else (-(g 28 a - g 28 b))) = u at a1
  generalize (if 0 ≤ (g 29 a - g 29 b) then (g 29 a - g 29 b) else (-(g 29 a - g 29 b))) = v at a2
  have t9 : (9 : Int32).toInt = 9 := by decide
  have t10 : (10 : Int32).toInt = 10 := by decide
  have l10 : (10 : Int64).toInt = 10 := by decide
  have e1 : (u + v).toInt = u.toInt + v.toInt := i_add (by omega) (by omega)
  have e2 : (u + v + 9).toInt = u.toInt + v.toInt + 9 := by rw [i_add (by omega) (by omega), e1, t9]
  have e3 : (s_up (u + v).toInt64 10).toInt = (u.toInt + v.toInt + 10 - 1) / 10 := by rw [d_upt (by rw [l_i]; omega) (by omega), l_i, e1, l10]
  apply Int32.toInt_inj.mp
  rw [i_div (by omega), e2, t10, Int.tdiv_eq_ediv_of_nonneg (by omega), i_l (by omega) (by omega), e3]
  omega
theorem K_58 (R : RC lm g h) (I : INV c lm g) {Q : Unit → zH → Prop} (q : ∀ h', Sc h h' → Rd g (q_n g 1) h' → Q () h') : KK z_pV 58 [.ref 9, .ref 1, .int (g 27 1), .int (g 27 0)] h Q := by
  have N : g 27 1 = Int32.ofNat (q_n g 1) := (n_of I.cnt.2.1.1).symm
  have n6 : q_n g 1 ≤ 6 := by have := I.cnt.2.1; unfold q_n z_ix; omega
  have F : z_tg h 9 = 6 := R.f.at (by omega) rfl
  have N1 : z_ln h 1 = 6 := (R.w.abOf (t := 11) (j := 0) (o := 1) (n := 6) (by decide) R.w.t0).2
  refine X_58 9 1 _ _ h R.w F R.f.t1 N1 ?_
  have ec : ∀ k, k < 7 → (if (0 : Int32) < (if (if (6 : Int32) < (6 : Int32) then (6 : Int32) else (6 : Int32)) < Int32.ofNat k then (if (6 : Int32) < (6 : Int32) then (6 : Int32) else (6 : Int32)) else Int32.ofNat k) then (if (if (6 : Int32) < (6 : Int32) then (6 : Int32) else (6 : Int32)) < Int32.ofNat k then (if (6 : Int32) < (6 : Int32) then (6 : Int32) else (6 : Int32)) else Int32.ofNat k) else (0 : Int32)) = Int32.ofNat k := by decide +kernel
  rw [N, ec _ (by omega)]
  refine z_lp (N := q_n g 1) (G := fun a => ∀ u5 h', Sc h h' → z_iv h' 9 6 = Int32.ofNat (q_n g 1) → (∀ a', a' < a → z_iv h' (9 + 3) a' = q_un g (Int32.ofNat a')) → (∀ a', a' < a → ∀ b, b < q_n g 1 → z_iv h' (9 + 4) (6 * a' + b) = q_dd g a' b) → KG z_pV 58 22 [some (.ref 9), some (.ref 1), some (.int (Int32.ofNat (q_n g 1))), some (.int (g 27 0)), some (.int (Int32.ofNat a)), u5] [] h' Q) ?_ ?_ none _ ((Sc.refl h).sI (by omega)) v_at (fun _ z => absurd z (by omega)) (fun _ z => absurd z (by omega))
  · intro u5 h' s e6 eu ed
    refine X_58_22 9 1 _ _ _ _ h' (s.1.cw R.w) (s.1.tg F) (s.1.tg R.f.t1) (s.1.ln N1) ?_
    rw [e6, if_pos ((n_lit_le (by omega) (by omega)).mpr (by omega))]
    exact q h' s ⟨e6, eu, ed⟩
  · intro a ha w u5 h' s e6 eu ed
    obtain ⟨x, hx⟩ := R.mine ha
    have R' := R.sc s
    have hx' := s.1.rv hx
    have ba := n_bd (i := a) (N := 6) (by omega) (by omega)
    refine X_58_22 9 1 _ _ _ _ h' R'.w (s.1.tg F) (s.1.tg R.f.t1) (s.1.ln N1) ?_
    rw [e6, if_neg (fun z => by have := (n_lit_le (by omega) (by omega)).mp z; omega), n_ix (by omega)]
    refine ⟨ba, o_S hx' ⟨ba, _, K_un R' I ha hx', ba, ?_⟩⟩
    refine z_lp (N := q_n g 1) (G := fun b => ∀ h2, Sc h h2 → z_iv h2 9 6 = Int32.ofNat (q_n g 1) → (∀ a', a' < a + 1 → z_iv h2 (9 + 3) a' = q_un g (Int32.ofNat a')) → (∀ a', a' < a → ∀ b, b < q_n g 1 → z_iv h2 (9 + 4) (6 * a' + b) = q_dd g a' b) → (∀ b', b' < b → z_iv h2 (9 + 4) (6 * a + b') = q_dd g a b') → KG z_pV 58 60 [some (.ref 9), some (.ref 1), some (.int (Int32.ofNat (q_n g 1))), some (.int (g 27 0)), some (.int (Int32.ofNat a)), some (.int (Int32.ofNat b))] [] h2 Q) ?_ ?_ _ (s.sI (by omega)) ?_ ?_ ?_ (fun _ z => absurd z (by omega))
    · intro h2 s2 f6 fu fd fe
      refine X_58_60 9 1 _ _ _ _ h2 (s2.1.cw R.w) (s2.1.tg F) (s2.1.tg R.f.t1) (s2.1.ln N1) ?_
      rw [f6, if_pos ((n_lit_le (by omega) (by omega)).mpr (by omega)), n_s]
      refine w _ h2 s2 f6 fu (fun a' h1 b hb => ?_)
      by_cases e : a' = a
      · subst e; exact fe b hb
      · exact fd a' (by omega) b hb
    · intro b hb w2 h2 s2 f6 fu fd fe
      obtain ⟨y, hy⟩ := R.mine hb
      have R2 := R.sc s2
      have bb := n_bd (i := b) (N := 6) (by omega) (by omega)
      refine X_58_60 9 1 _ _ _ _ h2 R2.w (s2.1.tg F) (s2.1.tg R.f.t1) (s2.1.ln N1) ?_
      rw [f6, if_neg (fun z => by have := (n_lit_le (by omega) (by omega)).mp z; omega), n_ix (by omega), n_ix (by omega), ry_m5 _ (by omega) _ (by omega), n_ix (by omega), n_s]
      refine ⟨ba, o_S (s2.1.rv hx) ⟨bb, o_S (s2.1.rv hy) ⟨_, K_59 R2 I ha (s2.1.rv hx) hb (s2.1.rv hy), n_bd (N := 36) (by omega) (by omega), w2 _ (s2.sI (by omega)) ?_ ?_ ?_ ?_⟩⟩⟩
      · rw [v_no (by omega)]; exact f6
      · intro a' h1
        rw [v_no (by omega)]; exact fu a' h1
      · intro a' h1 b' hb'
        rw [v_no (by omega)]; exact fd a' h1 b' hb'
      · intro b' h1
        by_cases e : b' = b
        · subst e; exact v_at
        · rw [v_no (by omega)]; exact fe b' (by omega)
    · rw [v_no (by omega)]; exact e6
    · intro a' h1
      by_cases e : a' = a
      · subst e; exact v_at
      · rw [v_no (by omega)]; exact eu a' (by omega)
    · intro a' h1 b hb
      rw [v_no (by omega)]; exact ed a' h1 b hb
theorem K_67 (W : CW h) (F : z_tg h 9 = 6) (D : Rd g n h) (B : Bs g n l h) (hn : n ≤ 6) {j : Nat} (hj : j < 6) : KV z_pI 67 [.ref 9, .int (Int32.ofNat j)] h (if Int32.ofNat n ≤ Int32.ofNat j then (-4 : Int32) else Int32.ofNat (o_at l j)) := by
  refine kv_of (X_67 9 _ h W F ⟨fun _ _ _ => n_bd (N := 6) hj (by omega), fun m5 e5 => ⟨?_, rfl⟩⟩)
  have c5 : ∀ x, x < 6 → ¬ (Int32.ofNat x < 0) ∧ ¬ ((6 : Int32) ≤ Int32.ofNat x) := by decide +kernel
  rw [if_neg (c5 j hj).1, D.1, if_neg (c5 j hj).2, n_ix (by omega)] at e5
  rw [e5]
  by_cases z : Int32.ofNat n ≤ Int32.ofNat j
  · rw [if_pos z, if_pos z]
  · rw [if_neg z, if_neg z]
    exact B.2.2 j (by have : ¬ n ≤ j := fun q => z ((n_lit_le (by omega) (by omega)).mpr q); omega)
theorem K_68 (W : CW h) (F : z_tg h 9 = 6) (D : Rd g n h) (hn : n ≤ 6) {v : Nat} (hv : v < 2147483648) {Q : Int32 → zH → Prop} (q : ∀ h', Sh h h' → (∀ k, ¬ k = 9 + 2 → z_iv h' k = z_iv h k) → (ry_ok n v = true → Ro n (ry_dg n v) h') → Q (if ry_ok n v = true then 1 else 0) h') : KK z_pI 68 [.ref 9, .int (Int32.ofNat v)] h Q := by
  refine X_68 9 _ h W F ?_
  rw [D.1]
  refine z_lp (N := n) (G := fun j => ∀ u5 u6 h', Sh h h' → (∀ k, ¬ k = 9 + 2 → z_iv h' k = z_iv h k) → (∀ i, n - j ≤ i → i < n → z_iv h' (9 + 2) i = Int32.ofNat (o_at (ry_dg n v) i)) → (∀ j', j' < j → v / 10 ^ j' % 10 < n ∧ ry_ms n v j' / 2 ^ (v / 10 ^ j' % 10) % 2 = 0) → KG z_pI 68 12 [some (.ref 9), some (.int (Int32.ofNat v)), some (.int (Int32.ofNat (v / 10 ^ j))), some (.int (Int32.ofNat (ry_ms n v j))), some (.int (Int32.ofNat (n - j) - (1 : Int32))), u5, u6] [] h' Q) ?_ ?_ none none h (Sh.refl h) (fun _ _ => rfl) (fun i h1 h2 => absurd h1 (by omega)) (fun _ w => absurd w (by omega)) |> (fun z => ?_)
  · rw [Nat.pow_zero, Nat.div_one, Nat.sub_zero] at z
    exact z
  · intro u5 u6 h' s r e p
    refine X_68_12 9 _ _ _ _ _ _ h' (s.cw W) (s.tg F) ?_
    rw [Nat.sub_self, if_pos (by decide)]
    have dv : v / 10 ^ n < 2147483648 := Nat.lt_of_le_of_lt (Nat.div_le_self _ _) hv
    have o := dig_ok (by omega) p
    have eo : z_bt (Int32.ofNat (v / 10 ^ n) = 0) = if ry_ok n v = true then 1 else 0 := by
      by_cases k : ry_ok n v = true
      · rw [if_pos k]
        exact z_bt_1.mpr (by rw [(ok_iff.mp k).1]; rfl)
      · rw [if_neg k]
        exact z_bt_0.mpr (fun z => k (ok_iff.mpr ⟨n_inj (b := 0) dv (by omega) z, o⟩))
    rw [eo]
    refine q h' s r (fun _ => ⟨dg_len, fun i hi => ⟨e i (by omega) hi, ?_⟩⟩)
    rw [dg_at hi]
    exact (p (n - 1 - i) (by omega)).1
  · intro j hj m u5 u6 h' s r e p
    obtain ⟨k, ek⟩ : ∃ k, n - j = k + 1 := ⟨n - j - 1, by omega⟩
    have ek' : n - (j + 1) = k := by omega
    have dv : v / 10 ^ j < 2147483648 := Nat.lt_of_le_of_lt (Nat.div_le_self _ _) hv
    have d10 := n_d10 dv
    have lt := ms_lt (n := n) (v := v) (by omega) j
    have m2 := (ry_m2 n (by omega)).2.1
    have md : v / 10 ^ j % 10 < 10 := Nat.mod_lt _ (by omega)
    refine X_68_12 9 _ _ _ _ _ _ h' (s.cw W) (s.tg F) ?_
    rw [ek, n_p1, if_neg (fun z => by have := n_lt.mp z; rw [n_i (by omega)] at this; exact absurd this (by show ¬ ((k : Int) < 0); omega)), n_ix (by omega), d10.2, d10.1, r 9 (by omega), D.1]
    by_cases cd : v / 10 ^ j % 10 < n ∧ ry_ms n v j / 2 ^ (v / 10 ^ j % 10) % 2 = 0
    · have m3 := ry_m3 (v / 10 ^ j % 10) (by omega) (ry_ms n v j) (by omega)
      have c0 : ¬ (Int32.ofNat (v / 10 ^ j % 10) < 0) ∧ (¬ (Int32.ofNat n ≤ Int32.ofNat (v / 10 ^ j % 10)) ∧ (((Int32.ofNat (ry_ms n v j) >>> (Int32.ofNat (v / 10 ^ j % 10) &&& 31)) &&& (1 : Int32)) = 0)) := by
        refine ⟨fun z => ?_, fun z => ?_, m3.2.mpr cd.2⟩
        · have := n_lt.mp z
          rw [n_i (by omega), show (0 : Int32).toInt = 0 by decide] at this
          omega
        · have := (n_lit_le (by omega) (by omega)).mp z
          omega
      have e9 : Int32.ofNat (ry_ms n v j) ||| ((1 : Int32) <<< (Int32.ofNat (v / 10 ^ j % 10) &&& 31)) = Int32.ofNat (ry_ms n v (j + 1)) := by
        show _ = Int32.ofNat (ry_ms n v j ||| ry_bt n (v / 10 ^ j % 10))
        unfold ry_bt
        rw [if_pos cd.1]
        exact m3.1
      rw [if_pos c0, e9, n_dec, Nat.div_div_eq_div_mul, ← Nat.pow_succ]
      refine ⟨n_bd (N := 6) (by omega) (by omega), ?_⟩
      have m := fun u5 u6 => m u5 u6 (z_sI h' (9 + 2) k (Int32.ofNat (v / 10 ^ j % 10))) (s.trans Sh.sI) (fun k hk => (iv_ne hk).trans (r k hk)) (fun i h1 h2 => by
        rw [ek'] at h1
        by_cases ei : i = k
        · subst ei
          rw [v_at, dg_at h2, show n - 1 - i = j by omega]
        · rw [v_no (fun z => ei z.2)]
          exact e i (by omega) h2) (fun j' h1 => by
        by_cases ej : j' = j
        · subst ej; exact cd
        · exact p j' (by omega))
      rw [ek'] at m
      exact m _ _
    · have c0 : ¬ (¬ (Int32.ofNat (v / 10 ^ j % 10) < 0) ∧ (¬ (Int32.ofNat n ≤ Int32.ofNat (v / 10 ^ j % 10)) ∧ (((Int32.ofNat (ry_ms n v j) >>> (Int32.ofNat (v / 10 ^ j % 10) &&& 31)) &&& (1 : Int32)) = 0))) := by
        rintro ⟨z1, z2, z3⟩
        have dn : v / 10 ^ j % 10 < n := by
          apply Decidable.byContradiction
          intro w
          exact z2 ((n_lit_le (by omega) (by omega)).mpr (by omega))
        exact cd ⟨dn, (ry_m3 (v / 10 ^ j % 10) (by omega) (ry_ms n v j) (by omega)).2.mp z3⟩
      rw [if_neg c0]
      have no : ¬ ry_ok n v = true := fun z => cd (ok_dig (by omega) (ok_iff.mp z).2 hj)
      have q := q h' s r (fun z => absurd z no)
      rw [if_neg no] at q
      exact q
end RD
