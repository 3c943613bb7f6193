/-! calls, one by one -/
section XA
variable {z t : Nat} {A : zS} {h : zH} {P : Prop} {F : Nat → Prop}
theorem xa_N (k : KV z_pA z A h none) (p : P) : ∃ v : Option Nat, KV z_pA z A h v ∧ (∀ b_, v = some b_ → z_tg h b_ = t) ∧ ((v = none → P) ∧ (∀ b, v = some b → F b)) := ⟨none, k, (fun _ q => nomatch q), (fun _ => p), (fun _ q => nomatch q)⟩
theorem xa_S {a : Nat} (k : KV z_pA z A h (some a)) (ht : z_tg h a = t) (f : F a) : ∃ v : Option Nat, KV z_pA z A h v ∧ (∀ b_, v = some b_ → z_tg h b_ = t) ∧ ((v = none → P) ∧ (∀ b, v = some b → F b)) := ⟨some a, k, (fun b q => by cases q; exact ht), (fun q => nomatch q), (fun b q => by cases q; exact f)⟩
end XA
theorem n_lit {x : Int32} (N : Nat) (hN : N < 2147483648) (h : (0 : Int32) ≤ x ∧ x ≤ Int32.ofNat N) : ∃ j, j ≤ N ∧ x = Int32.ofNat j := by
  have h1 : (0 : Int) ≤ x.toInt := n_le.mp h.1
  have h2 := n_le.mp h.2
  rw [n_i hN] at h2
  exact ⟨z_ix x, by unfold z_ix; omega, (n_of h1).symm⟩
theorem n_ma {a b c : Nat} : Int32.ofNat a * Int32.ofNat b + Int32.ofNat c = Int32.ofNat (a * b + c) := by
  rw [Int32.ofNat_add, Int32.ofNat_mul]
theorem n_bnd {x : Int32} {a b : Nat} (ha : a < 2147483648) (hb : b < 2147483648) (h : Int32.ofNat a ≤ x ∧ x ≤ Int32.ofNat b) : (a : Int) ≤ x.toInt ∧ x.toInt ≤ (b : Int) := by
  have h1 := n_le.mp h.1
  have h2 := n_le.mp h.2
  rw [n_i ha] at h1
  rw [n_i hb] at h2
  exact ⟨h1, h2⟩
section T1
variable {c : Nat} {g : zG} {h : zH}
theorem AH.i (X : AH c g h) : INV c (fun _ => q_n g 0) g := X.1
theorem AH.r (X : AH c g h) : RC (fun _ => q_n g 0) g h := X.2.1
theorem T_water (X : AH c g h) (x1 x2 x3 : Int32) : ST z_pI 100 [.ref 0, .int x1, .int x2, .int x3] 166 [.ref 27, .int x1, .int x2, .int x3] c g h := by
  have I := X.i
  have R := X.r
  rcases I.mi x1 with hx | ⟨m, hm, hm6, rfl⟩
  · exact ST.ro X (-1) (X_166 _ _ _ g (by rw [if_neg hx]; exact ⟨rfl, SE.refl g⟩)) (kv_of (X_100 _ _ _ h R.w (xa_N (K_mineN R hx) ⟨rfl, rfl⟩)))
  obtain ⟨a, ha⟩ := R.mine hm
  have kS := K_mineS R I hm ha
  have ta := R.w.mt R.f ha
  by_cases c2 : (0 : Int32) ≤ x2 ∧ x2 ≤ (11 : Int32)
  · by_cases c3 : (0 : Int32) ≤ x3 ∧ x3 ≤ (999 : Int32)
    · obtain ⟨j, hj, rfl⟩ := n_lit 11 (by omega) c2
      have e : (12 : Int32) * Int32.ofNat m + Int32.ofNat j = Int32.ofNat (12 * m + j) := n_ma (a := 12)
      refine ST.up X (g 32 (12 * m + j)) (k := 32) (i := 12 * m + j) (d := a + 1) (j := j) (w := x3) ⟨m, a, hm, ha, Or.inl ⟨rfl, rfl, by omega, rfl⟩⟩ (by omega) ((I.t_c (Nat.le_succ c)).u32 (by omega) (n_bnd (a := 0) (b := 999) (by omega) (by omega) c3)) ?_ ?_
      · refine X_166 _ _ _ g ?_
        rw [if_pos (I.mv hm), if_pos c2, if_pos c3, e, n_ix (by omega)]
        exact ⟨n_bd (N := 72) (by omega) (by omega), n_bd (N := 72) (by omega) (by omega), rfl, rfl⟩
      · refine X_100 _ _ _ h R.w (xa_S kS ta ?_)
        rw [if_pos c2, if_pos c3, n_ix (by omega)]
        exact ⟨n_bd (N := 12) (by omega) (by omega), n_bd (N := 12) (by omega) (by omega), R.f32 hm ha (by omega), rfl⟩
    · exact ST.ro X (-1) (X_166 _ _ _ g (by rw [if_pos (I.mv hm), if_pos c2, if_neg c3]; exact ⟨rfl, SE.refl g⟩)) (kv_of (X_100 _ _ _ h R.w (xa_S kS ta (by rw [if_pos c2, if_neg c3]; exact ⟨rfl, rfl⟩))))
  · exact ST.ro X (-1) (X_166 _ _ _ g (by rw [if_pos (I.mv hm), if_neg c2]; exact ⟨rfl, SE.refl g⟩)) (kv_of (X_100 _ _ _ h R.w (xa_S kS ta (by rw [if_neg c2]; exact ⟨rfl, rfl⟩))))
theorem T_shares (X : AH c g h) (x1 x2 x3 : Int32) : ST z_pI 123 [.ref 0, .int x1, .int x2, .int x3] 213 [.ref 27, .int x1, .int x2, .int x3] c g h := by
  have I := X.i
  have R := X.r
  rcases I.mi x1 with hx | ⟨m, hm, hm6, rfl⟩
  · exact ST.ro X (-1) (X_213 _ _ _ g (by rw [if_neg hx]; exact ⟨rfl, SE.refl g⟩)) (kv_of (X_123 _ _ _ h R.w (xa_N (K_mineN R hx) ⟨rfl, rfl⟩)))
  obtain ⟨a, ha⟩ := R.mine hm
  have kS := K_mineS R I hm ha
  have ta := R.w.mt R.f ha
  by_cases c2 : (0 : Int32) ≤ x2 ∧ x2 ≤ (7 : Int32)
  · by_cases c3 : (0 : Int32) ≤ x3 ∧ x3 ≤ (99 : Int32)
    · obtain ⟨j, hj, rfl⟩ := n_lit 7 (by omega) c2
      have e : (8 : Int32) * Int32.ofNat m + Int32.ofNat j = Int32.ofNat (8 * m + j) := n_ma (a := 8)
      refine ST.up X (g 35 (8 * m + j)) (k := 35) (i := 8 * m + j) (d := a + 2) (j := j) (w := x3) ⟨m, a, hm, ha, Or.inr (Or.inl ⟨rfl, rfl, by omega, rfl⟩)⟩ (by omega) ((I.t_c (Nat.le_succ c)).u35 (by omega) (n_bnd (a := 0) (b := 99) (by omega) (by omega) c3)) ?_ ?_
      · refine X_213 _ _ _ g ?_
        rw [if_pos (I.mv hm), if_pos c2, if_pos c3, e, n_ix (by omega)]
        exact ⟨n_bd (N := 48) (by omega) (by omega), n_bd (N := 48) (by omega) (by omega), rfl, rfl⟩
      · refine X_123 _ _ _ h R.w (xa_S kS ta ?_)
        rw [if_pos c2, if_pos c3, n_ix (by omega)]
        exact ⟨n_bd (N := 8) (by omega) (by omega), n_bd (N := 8) (by omega) (by omega), R.f35 hm ha (by omega), rfl⟩
    · exact ST.ro X (-1) (X_213 _ _ _ g (by rw [if_pos (I.mv hm), if_pos c2, if_neg c3]; exact ⟨rfl, SE.refl g⟩)) (kv_of (X_123 _ _ _ h R.w (xa_S kS ta (by rw [if_pos c2, if_neg c3]; exact ⟨rfl, rfl⟩))))
  · exact ST.ro X (-1) (X_213 _ _ _ g (by rw [if_pos (I.mv hm), if_neg c2]; exact ⟨rfl, SE.refl g⟩)) (kv_of (X_123 _ _ _ h R.w (xa_S kS ta (by rw [if_neg c2]; exact ⟨rfl, rfl⟩))))
theorem T_stick (X : AH c g h) (x1 x2 : Int32) (h2 : x2 = 0 ∨ x2 = 1) : ST z_pI 104 [.ref 0, .int x1, .int x2] 172 [.ref 27, .int x1, .int x2] c g h := by
  have I := X.i
  have R := X.r
  rcases I.ei x1 with hx | ⟨m, hm, hm6, rfl⟩
  · exact ST.ro X (-1) (X_172 _ _ g (by rw [if_neg hx]; exact ⟨rfl, SE.refl g⟩)) (kv_of (X_104 _ _ h R.w (xa_N (K_engN R hx) ⟨rfl, rfl⟩)))
  obtain ⟨a, ha⟩ := R.engine hm
  refine ST.up X (z_bt (¬ (g 54 m = 0))) (k := 54) (i := m) (d := a) (j := 9) (w := x2) ⟨hm, ha, by omega, rfl⟩ (by omega) ((I.t_c (Nat.le_succ c)).u54 hm (by rcases h2 with q | q <;> rw [q] <;> decide)) ?_ ?_
  · refine X_172 _ _ g ?_
    rw [if_pos (I.ev hm), n_ix (by omega)]
    exact ⟨n_bd (N := 12) hm6 (by omega), ⟨n_bd (N := 12) hm6 (by omega), h2⟩, rfl, rfl⟩
  · refine X_104 _ _ h R.w (xa_S (K_engS R I hm ha) (R.w.et R.f ha) ⟨h2, ?_⟩)
    rw [R.f54 hm ha]
    exact ⟨rfl, rfl⟩
theorem T_mend (X : AH c g h) (x1 : Int32) : ST z_pI 105 [.ref 0, .int x1] 173 [.ref 27, .int x1] c g h := by
  have I := X.i
  have R := X.r
  rcases I.ei x1 with hx | ⟨m, hm, hm6, rfl⟩
  · exact ST.ro X (-1) (X_173 _ g (by rw [if_neg hx]; exact ⟨rfl, SE.refl g⟩)) (kv_of (X_105 _ h R.w (xa_N (K_engN R hx) ⟨rfl, rfl⟩)))
  obtain ⟨a, ha⟩ := R.engine hm
  refine ST.up X (g 52 m) (k := 52) (i := m) (d := a) (j := 7) (w := 0) ⟨hm, ha, by omega, rfl⟩ (by omega) ((I.t_c (Nat.le_succ c)).u52 hm rfl) ?_ ?_
  · refine X_173 _ g ?_
    rw [if_pos (I.ev hm), n_ix (by omega)]
    exact ⟨n_bd (N := 12) hm6 (by omega), n_bd (N := 12) hm6 (by omega), rfl, rfl⟩
  · refine X_105 _ h R.w (xa_S (K_engS R I hm ha) (R.w.et R.f ha) ?_)
    exact ⟨R.f52 hm ha, rfl⟩
theorem T_end (X : AH c g h) (x1 : Int32) : ST z_pI 111 [.ref 0, .int x1] 184 [.ref 27, .int x1] c g h := by
  have I := X.i
  have R := X.r
  by_cases k : (0 : Int32) ≤ x1 ∧ x1 ≤ g 27 35
  · have hv : 0 ≤ x1.toInt ∧ x1.toInt ≤ 200 := by
      have h1 : (0 : Int) ≤ x1.toInt := n_le.mp k.1
      have h2 := n_le.mp k.2
      have h3 := I.cnt.2.2.2.2.2.2
      omega
    refine ST.up X (g 27 35) (k := 27) (i := 35) (d := 6) (j := 1) (w := x1) (Or.inr (Or.inr (Or.inl ⟨rfl, rfl, rfl⟩))) (by omega) ((I.t_c (Nat.le_succ c)).u2735 hv) (X_184 _ g (by rw [if_pos k]; exact ⟨rfl, rfl⟩)) (X_111 _ h R.w (by rw [R.n35, if_pos k]; exact ⟨rfl, rfl⟩))
  · exact ST.ro X (-1) (X_184 _ g (by rw [if_neg k]; exact ⟨rfl, SE.refl g⟩)) (kv_of (X_111 _ h R.w (by rw [R.n35, if_neg k]; exact ⟨rfl, rfl⟩)))
theorem T_fault (X : AH c g h) : ST z_pI 113 [.ref 0] 196 [.ref 27] c g h := ST.ro X (g 27 36) (X_196 g ⟨rfl, SE.refl g⟩) (kv_of (X_113 h X.r.w ⟨X.r.n36, rfl⟩))
theorem T_torn (X : AH c g h) : ST z_pI 133 [.ref 0] 231 [.ref 27] c g h := ST.ro X (g 27 76) (X_231 g ⟨rfl, SE.refl g⟩) (kv_of (X_133 h X.r.w ⟨X.r.n76, rfl⟩))
theorem n_i64b {x : Int32} {a b : Nat} (ha : a < 2147483648) (hb : b < 2147483648) : (Int64.ofNat a ≤ x.toInt64 ∧ x.toInt64 ≤ Int64.ofNat b) ↔ (Int32.ofNat a ≤ x ∧ x ≤ Int32.ofNat b) := by
  have e : ∀ n, n < 2147483648 → Int64.ofNat n = (Int32.ofNat n).toInt64 := by
    intro n hn
    apply Int64.toInt_inj.mp
    rw [l_i, n_i hn, Int64.toInt_ofNat']
    have hs : (Int64.size : Int) = 18446744073709551616 := rfl
    exact Int.bmod_eq_of_le (by omega) (by omega)
  rw [e a ha, e b hb, z_i64_le, z_i64_le]
theorem T_change (X : AH c g h) (x1 x2 x3 : Int32) : ST z_pI 101 [.ref 0, .int x1, .int x2, .int x3] 167 [.ref 27, .int x1, .int x2, .int x3] c g h := by
  have I := X.i
  have R := X.r
  rcases I.mi x1 with hx | ⟨m, hm, hm6, rfl⟩
  · exact ST.ro X (-1) (X_167 _ _ _ g (by rw [if_neg hx]; exact ⟨rfl, SE.refl g⟩)) (kv_of (X_101 _ _ _ h R.w (xa_N (K_mineN R hx) ⟨rfl, rfl⟩)))
  obtain ⟨a, ha⟩ := R.mine hm
  have kS := K_mineS R I hm ha
  have ta := R.w.mt R.f ha
  have bd := n_bd (N := 6) hm6 (by omega)
  have n10 : ¬ (1 : Int32) = 0 := by decide
  by_cases c2 : x2 = 0
  · subst c2
    have b01 : (0 : Int32) ≤ (0 : Int32) ∧ (0 : Int32) ≤ (1 : Int32) := by decide
    by_cases c3 : (1 : Int32) ≤ x3 ∧ x3 ≤ (300 : Int32)
    · have c3' : (1 : Int64) ≤ x3.toInt64 ∧ x3.toInt64 ≤ (300 : Int64) := (n_i64b (a := 1) (b := 300) (by omega) (by omega)).mpr c3
      refine ST.up X (g 30 m) (k := 30) (i := m) (d := a) (j := 5) (w := x3) ⟨hm, ha, by omega, rfl⟩ (by omega) ((I.t_c (Nat.le_succ c)).u30 (n_bnd (a := 1) (b := 300) (by omega) (by omega) c3)) ?_ ?_
      · refine X_167 _ _ _ g ?_
        rw [if_pos (I.mv hm), if_pos b01]
        intro m2 e2
        rw [if_pos rfl] at e2
        rw [e2, if_pos c3', n_ix (by omega)]
        refine ⟨fun _ => bd, fun _ => bd, fun m7 e7 => ?_⟩
        rw [if_pos rfl] at e7 ⊢
        exact ⟨bd, e7, rfl⟩
      · refine X_101 _ _ _ h R.w (xa_S kS ta ?_)
        rw [if_pos rfl, if_pos c3]
        exact ⟨R.f30 hm ha, rfl⟩
    · have c3' : ¬ ((1 : Int64) ≤ x3.toInt64 ∧ x3.toInt64 ≤ (300 : Int64)) := fun q => c3 ((n_i64b (a := 1) (b := 300) (by omega) (by omega)).mp q)
      refine ST.ro X (-1) (X_167 _ _ _ g ?_) (kv_of (X_101 _ _ _ h R.w (xa_S kS ta ?_)))
      · rw [if_pos (I.mv hm), if_pos b01]
        intro m2 e2
        rw [if_pos rfl] at e2
        rw [e2, if_neg c3']
        exact ⟨rfl, SE.refl g⟩
      · rw [if_pos rfl, if_neg c3, if_neg (by decide)]
        exact ⟨rfl, rfl⟩
  · by_cases c1 : x2 = 1
    · subst c1
      have b01 : (0 : Int32) ≤ (1 : Int32) ∧ (1 : Int32) ≤ (1 : Int32) := by decide
      by_cases c3 : (1 : Int32) ≤ x3 ∧ x3 ≤ (99 : Int32)
      · have c3' : (1 : Int64) ≤ x3.toInt64 ∧ x3.toInt64 ≤ (99 : Int64) := (n_i64b (a := 1) (b := 99) (by omega) (by omega)).mpr c3
        refine ST.up X (g 31 m) (k := 31) (i := m) (d := a) (j := 6) (w := x3) ⟨hm, ha, by omega, rfl⟩ (by omega) ((I.t_c (Nat.le_succ c)).u31 (n_bnd (a := 1) (b := 99) (by omega) (by omega) c3)) ?_ ?_
        · refine X_167 _ _ _ g ?_
          rw [if_pos (I.mv hm), if_pos b01]
          intro m2 e2
          rw [if_neg n10] at e2
          rw [e2, if_pos c3', n_ix (by omega)]
          refine ⟨fun _ => bd, fun _ => bd, fun m7 e7 => ?_⟩
          rw [if_neg n10] at e7 ⊢
          exact ⟨bd, e7, rfl⟩
        · refine X_101 _ _ _ h R.w (xa_S kS ta ?_)
          rw [if_neg n10, if_pos rfl, if_pos c3]
          exact ⟨R.f31 hm ha, rfl⟩
      · have c3' : ¬ ((1 : Int64) ≤ x3.toInt64 ∧ x3.toInt64 ≤ (99 : Int64)) := fun q => c3 ((n_i64b (a := 1) (b := 99) (by omega) (by omega)).mp q)
        refine ST.ro X (-1) (X_167 _ _ _ g ?_) (kv_of (X_101 _ _ _ h R.w (xa_S kS ta ?_)))
        · rw [if_pos (I.mv hm), if_pos b01]
          intro m2 e2
          rw [if_neg n10] at e2
          rw [e2, if_neg c3']
          exact ⟨rfl, SE.refl g⟩
        · rw [if_neg n10, if_pos rfl, if_neg c3]
          exact ⟨rfl, rfl⟩
    · have b01 : ¬ ((0 : Int32) ≤ x2 ∧ x2 ≤ (1 : Int32)) := by
        intro q
        obtain ⟨j, hj, rfl⟩ := n_lit 1 (by omega) q
        have : j = 0 ∨ j = 1 := by omega
        rcases this with r | r <;> subst r
        · exact c2 rfl
        · exact c1 rfl
      refine ST.ro X (-1) (X_167 _ _ _ g ?_) (kv_of (X_101 _ _ _ h R.w (xa_S kS ta ?_)))
      · rw [if_pos (I.mv hm), if_neg b01]
        exact ⟨rfl, SE.refl g⟩
      · rw [if_neg c2, if_neg c1]
        exact ⟨rfl, rfl⟩
end T1
