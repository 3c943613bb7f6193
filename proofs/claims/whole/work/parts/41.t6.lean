theorem z_bt_cg {P P2 : Prop} [Decidable P] [Decidable P2] (e : P ↔ P2) : z_bt P = z_bt P2 := by
  by_cases c : P
  · rw [z_bt_1.mpr c, z_bt_1.mpr (e.mp c)]
  · rw [z_bt_0.mpr c, z_bt_0.mpr (fun q => c (e.mpr q))]
theorem z_bt_nn {P : Prop} [Decidable P] : z_bt (¬ z_bt P = 0) = z_bt P := z_bt_cg (by rw [z_bt_0]; exact Decidable.not_not)
theorem s_no_eq {o : Option Nat} {m : Nat} (ho : ∀ e, o = some e → e < 1000) (hm : m < 1000) : s_no o = Int32.ofNat m ↔ o = some m := by
  cases o with
  | none =>
    constructor
    · intro q
      have := congrArg Int32.toInt q
      rw [n_i (by omega)] at this
      have h4 : (s_no none).toInt = -4 := by decide
      omega
    · intro q; cases q
  | some e =>
    have he := ho e rfl
    constructor
    · intro q
      rw [n_inj (by omega) (by omega) q]
    · intro q; injection q with q; rw [q]; rfl
section T6
variable {c : Nat} {g : zG} {h : zH}
theorem T_of (X : AH c g h) (x1 x2 : Int32) : ST z_pI 103 [.ref 0, .int x1, .int x2] 171 [.ref 27, .int x1, .int x2] c g h := by
  have I := X.i
  have R := X.r
  rcases I.ei x1 with hx | ⟨m, hm, hm6, rfl⟩
  · exact ST.ro X (-1) (X_171 _ _ g (by rw [if_neg hx]; exact ⟨rfl, SE.refl g⟩)) (kv_of (X_103 _ _ h R.w (xa_N (K_engN R hx) ⟨rfl, rfl⟩)))
  obtain ⟨a, ha⟩ := R.engine hm
  have kS := K_engS R I hm ha
  have ta := R.w.et R.f ha
  have bd := n_bd (N := 12) hm6 (by omega)
  by_cases c0 : x2 = (0 : Int32)
  · subst c0
    exact ST.ro X (g 46 m) (X_171 _ _ g (by rw [if_pos (I.ev hm), if_pos rfl, n_ix (by omega)]; exact ⟨bd, rfl, SE.refl g⟩)) (kv_of (X_103 _ _ h R.w (xa_S kS ta (by rw [if_pos rfl]; exact ⟨R.f46 hm ha, rfl⟩))))
  by_cases c1 : x2 = (1 : Int32)
  · subst c1
    exact ST.ro X (g 47 m) (X_171 _ _ g (by rw [if_pos (I.ev hm), if_neg (by decide), if_pos rfl, n_ix (by omega)]; exact ⟨bd, rfl, SE.refl g⟩)) (kv_of (X_103 _ _ h R.w (xa_S kS ta (by rw [if_neg (by decide), if_pos rfl]; exact ⟨R.f47 hm ha, rfl⟩))))
  by_cases c2 : x2 = (2 : Int32)
  · subst c2
    exact ST.ro X (g 48 m) (X_171 _ _ g (by rw [if_pos (I.ev hm), if_neg (by decide), if_neg (by decide), if_pos rfl, n_ix (by omega)]; exact ⟨bd, rfl, SE.refl g⟩)) (kv_of (X_103 _ _ h R.w (xa_S kS ta (by rw [if_neg (by decide), if_neg (by decide), if_pos rfl]; exact ⟨R.f48 hm ha, rfl⟩))))
  by_cases c3 : x2 = (3 : Int32)
  · subst c3
    exact ST.ro X (g 49 m) (X_171 _ _ g (by rw [if_pos (I.ev hm), if_neg (by decide), if_neg (by decide), if_neg (by decide), if_pos rfl, n_ix (by omega)]; exact ⟨bd, rfl, SE.refl g⟩)) (kv_of (X_103 _ _ h R.w (xa_S kS ta (by rw [if_neg (by decide), if_neg (by decide), if_neg (by decide), if_pos rfl]; exact ⟨R.f49 hm ha, rfl⟩))))
  by_cases c4 : x2 = (4 : Int32)
  · subst c4
    exact ST.ro X (g 50 m) (X_171 _ _ g (by rw [if_pos (I.ev hm), if_neg (by decide), if_neg (by decide), if_neg (by decide), if_neg (by decide), if_pos rfl, n_ix (by omega)]; exact ⟨bd, rfl, SE.refl g⟩)) (kv_of (X_103 _ _ h R.w (xa_S kS ta (by rw [if_neg (by decide), if_neg (by decide), if_neg (by decide), if_neg (by decide), if_pos rfl]; exact ⟨R.f50 hm ha, rfl⟩))))
  by_cases c5 : x2 = (5 : Int32)
  · subst c5
    exact ST.ro X (g 51 m) (X_171 _ _ g (by rw [if_pos (I.ev hm), if_neg (by decide), if_neg (by decide), if_neg (by decide), if_neg (by decide), if_neg (by decide), if_pos rfl, n_ix (by omega)]; exact ⟨bd, rfl, SE.refl g⟩)) (kv_of (X_103 _ _ h R.w (xa_S kS ta (by rw [if_neg (by decide), if_neg (by decide), if_neg (by decide), if_neg (by decide), if_neg (by decide), if_pos rfl]; exact ⟨R.f51 hm ha, rfl⟩))))
  by_cases c6 : x2 = (6 : Int32)
  · subst c6
    exact ST.ro X (g 52 m) (X_171 _ _ g (by rw [if_pos (I.ev hm), if_neg (by decide), if_neg (by decide), if_neg (by decide), if_neg (by decide), if_neg (by decide), if_neg (by decide), if_pos rfl, n_ix (by omega)]; exact ⟨bd, rfl, SE.refl g⟩)) (kv_of (X_103 _ _ h R.w (xa_S kS ta (by rw [if_neg (by decide), if_neg (by decide), if_neg (by decide), if_neg (by decide), if_neg (by decide), if_neg (by decide), if_pos rfl]; exact ⟨R.f52 hm ha, rfl⟩))))
  by_cases c7 : x2 = (7 : Int32)
  · subst c7
    exact ST.ro X (g 53 m) (X_171 _ _ g (by rw [if_pos (I.ev hm), if_neg (by decide), if_neg (by decide), if_neg (by decide), if_neg (by decide), if_neg (by decide), if_neg (by decide), if_neg (by decide), if_pos rfl, n_ix (by omega)]; exact ⟨bd, rfl, SE.refl g⟩)) (kv_of (X_103 _ _ h R.w (xa_S kS ta (by rw [if_neg (by decide), if_neg (by decide), if_neg (by decide), if_neg (by decide), if_neg (by decide), if_neg (by decide), if_neg (by decide), if_pos rfl]; exact ⟨R.f53 hm ha, rfl⟩))))
  by_cases c8 : x2 = (8 : Int32)
  · subst c8
    exact ST.ro X (z_bt (¬ (g 54 m = 0))) (X_171 _ _ g (by rw [if_pos (I.ev hm), if_neg (by decide), if_neg (by decide), if_neg (by decide), if_neg (by decide), if_neg (by decide), if_neg (by decide), if_neg (by decide), if_neg (by decide), if_pos rfl, n_ix (by omega)]; exact ⟨bd, rfl, SE.refl g⟩)) (kv_of (X_103 _ _ h R.w (xa_S kS ta (by rw [if_neg (by decide), if_neg (by decide), if_neg (by decide), if_neg (by decide), if_neg (by decide), if_neg (by decide), if_neg (by decide), if_neg (by decide), if_pos rfl]; exact ⟨by rw [R.f54 hm ha], rfl⟩))))
  by_cases c9 : x2 = (9 : Int32)
  · subst c9
    refine ST.ro X (z_bt (q_wk g (g 46 m) = some m)) (X_171 _ _ g (by rw [if_pos (I.ev hm), if_neg (by decide), if_neg (by decide), if_neg (by decide), if_neg (by decide), if_neg (by decide), if_neg (by decide), if_neg (by decide), if_neg (by decide), if_neg (by decide), if_pos rfl, n_ix (by omega)]; exact ⟨bd, I.cn, z_bt_cg (s_no_eq (fun e he => by have := q_wk_12 I.cn he; omega) (by omega)), SE.refl g⟩)) (kv_of (X_103 _ _ h R.w (xa_S kS ta (by rw [if_neg (by decide), if_neg (by decide), if_neg (by decide), if_neg (by decide), if_neg (by decide), if_neg (by decide), if_neg (by decide), if_neg (by decide), if_neg (by decide), if_pos rfl]; exact ⟨_, K_iw R I hm ha, z_bt_nn, rfl⟩))))
  by_cases c10 : x2 = (10 : Int32)
  · subst c10
    exact ST.ro X (z_bt (¬ (g 55 m = 0))) (X_171 _ _ g (by rw [if_pos (I.ev hm), if_neg (by decide), if_neg (by decide), if_neg (by decide), if_neg (by decide), if_neg (by decide), if_neg (by decide), if_neg (by decide), if_neg (by decide), if_neg (by decide), if_neg (by decide), if_pos rfl, n_ix (by omega)]; exact ⟨bd, rfl, SE.refl g⟩)) (kv_of (X_103 _ _ h R.w (xa_S kS ta (by rw [if_neg (by decide), if_neg (by decide), if_neg (by decide), if_neg (by decide), if_neg (by decide), if_neg (by decide), if_neg (by decide), if_neg (by decide), if_neg (by decide), if_neg (by decide), if_pos rfl]; exact ⟨by rw [R.f55 hm ha], rfl⟩))))
  by_cases c11 : x2 = (11 : Int32)
  · subst c11
    exact ST.ro X (g 56 m) (X_171 _ _ g (by rw [if_pos (I.ev hm), if_neg (by decide), if_neg (by decide), if_neg (by decide), if_neg (by decide), if_neg (by decide), if_neg (by decide), if_neg (by decide), if_neg (by decide), if_neg (by decide), if_neg (by decide), if_neg (by decide), if_pos rfl, n_ix (by omega)]; exact ⟨bd, rfl, SE.refl g⟩)) (kv_of (X_103 _ _ h R.w (xa_S kS ta (by rw [if_neg (by decide), if_neg (by decide), if_neg (by decide), if_neg (by decide), if_neg (by decide), if_neg (by decide), if_neg (by decide), if_neg (by decide), if_neg (by decide), if_neg (by decide), if_neg (by decide), if_pos rfl]; exact ⟨R.f56 hm ha, rfl⟩))))
  by_cases c12 : x2 = (12 : Int32)
  · subst c12
    exact ST.ro X (g 57 m) (X_171 _ _ g (by rw [if_pos (I.ev hm), if_neg (by decide), if_neg (by decide), if_neg (by decide), if_neg (by decide), if_neg (by decide), if_neg (by decide), if_neg (by decide), if_neg (by decide), if_neg (by decide), if_neg (by decide), if_neg (by decide), if_neg (by decide), if_pos rfl, n_ix (by omega)]; exact ⟨bd, rfl, SE.refl g⟩)) (kv_of (X_103 _ _ h R.w (xa_S kS ta (by rw [if_neg (by decide), if_neg (by decide), if_neg (by decide), if_neg (by decide), if_neg (by decide), if_neg (by decide), if_neg (by decide), if_neg (by decide), if_neg (by decide), if_neg (by decide), if_neg (by decide), if_neg (by decide), if_pos rfl]; exact ⟨R.f57 hm ha, rfl⟩))))
  exact ST.ro X (-1) (X_171 _ _ g (by rw [if_pos (I.ev hm), if_neg c0, if_neg c1, if_neg c2, if_neg c3, if_neg c4, if_neg c5, if_neg c6, if_neg c7, if_neg c8, if_neg c9, if_neg c10, if_neg c11, if_neg c12]; exact ⟨rfl, SE.refl g⟩)) (kv_of (X_103 _ _ h R.w (xa_S kS ta (by rw [if_neg c0, if_neg c1, if_neg c2, if_neg c3, if_neg c4, if_neg c5, if_neg c6, if_neg c7, if_neg c8, if_neg c9, if_neg c10, if_neg c11, if_neg c12]; exact ⟨rfl, rfl⟩))))
theorem T_was (X : AH c g h) (x1 x2 x3 : Int32) : ST z_pI 107 [.ref 0, .int x1, .int x2, .int x3] 178 [.ref 27, .int x1, .int x2, .int x3] c g h := by
  have I := X.i
  have R := X.r
  rcases I.mi x1 with hx | ⟨m, hm, hm6, rfl⟩
  · exact ST.ro X (-1) (X_178 _ _ _ g (by rw [if_neg hx]; exact ⟨rfl, SE.refl g⟩)) (kv_of (X_107 _ _ _ h R.w (xa_N (K_mineN R hx) ⟨rfl, rfl⟩)))
  obtain ⟨a, ha⟩ := R.mine hm
  have kS := K_mineS R I hm ha
  have ta := R.w.mt R.f ha
  by_cases c2 : (0 : Int32) ≤ x2 ∧ x2 ≤ g 27 0 - 1
  · by_cases c3 : (0 : Int32) ≤ x3 ∧ x3 ≤ (5 : Int32)
    · obtain ⟨t, ht, rfl⟩ := n_rng I.cnt.1.1 c2
      have ht60 := n_cb (N := 60) I.cnt.1.1 I.cnt.1.2 ht
      obtain ⟨w, hw, rfl⟩ := n_lit 5 (by omega) c3
      have e : (60 : Int32) * Int32.ofNat m + Int32.ofNat t = Int32.ofNat (60 * m + t) := n_ma (a := 60)
      have bd := n_bd (i := 60 * m + t) (N := 360) (by omega) (by omega)
      have e2 : Int32.ofNat w * (60 : Int32) + Int32.ofNat t = Int32.ofNat (w * 60 + t) := n_ma (b := 60)
      have t59 : (0 : Int32) ≤ Int32.ofNat t ∧ Int32.ofNat t ≤ (59 : Int32) := by
        rw [n_le, n_le, n_i (by omega)]
        show (0 : Int) ≤ _ ∧ _ ≤ (59 : Int)
        omega
      refine ST.ro X (g (36 + w) (60 * m + t)) (X_178 _ _ _ g ?_) (kv_of (X_107 _ _ _ h R.w (xa_S kS ta ?_)))
      · rw [if_pos (I.mv hm), if_pos c2, if_pos c3, e, n_ix (by omega)]
        refine ⟨fun _ => bd, fun _ _ => bd, fun _ _ _ => bd, fun _ _ _ _ => bd, fun _ _ _ _ _ => bd, fun _ _ _ _ _ => bd, fun m12 e12 => ?_⟩
        refine ⟨e12.trans ?_, SE.refl g⟩
        have : w = 0 ∨ w = 1 ∨ w = 2 ∨ w = 3 ∨ w = 4 ∨ w = 5 := by omega
        rcases this with q | q | q | q | q | q <;> subst q
        · rw [if_pos (by decide)]
        · rw [if_neg (by decide), if_pos (by decide)]
        · rw [if_neg (by decide), if_neg (by decide), if_pos (by decide)]
        · rw [if_neg (by decide), if_neg (by decide), if_neg (by decide), if_pos (by decide)]
        · rw [if_neg (by decide), if_neg (by decide), if_neg (by decide), if_neg (by decide), if_pos (by decide)]
        · rw [if_neg (by decide), if_neg (by decide), if_neg (by decide), if_neg (by decide), if_neg (by decide)]
      · rw [R.n0, if_pos c2, if_pos c3]
        refine ⟨_, kv_of (C_49 a _ _ h R.w ta (fun _ _ => by rw [e2]; exact n_bd (N := 360) (by omega) (by omega)) ⟨rfl, rfl⟩), ?_, rfl⟩
        rw [if_pos t59, if_pos c3, e2, n_ix (by omega)]
        have : w = 0 ∨ w = 1 ∨ w = 2 ∨ w = 3 ∨ w = 4 ∨ w = 5 := by omega
        rcases this with q | q | q | q | q | q <;> subst q
        · exact R.f36 hm ha ht60 ht
        · exact R.f37 hm ha ht60 ht
        · exact R.f38 hm ha ht60 ht
        · exact R.f39 hm ha ht60 ht
        · exact R.f40 hm ha ht60 ht
        · exact R.f41 hm ha ht60 ht
    · exact ST.ro X (-1) (X_178 _ _ _ g (by rw [if_pos (I.mv hm), if_pos c2, if_neg c3]; exact ⟨rfl, SE.refl g⟩)) (kv_of (X_107 _ _ _ h R.w (xa_S kS ta (by rw [R.n0, if_pos c2, if_neg c3]; exact ⟨rfl, rfl⟩))))
  · exact ST.ro X (-1) (X_178 _ _ _ g (by rw [if_pos (I.mv hm), if_neg c2]; exact ⟨rfl, SE.refl g⟩)) (kv_of (X_107 _ _ _ h R.w (xa_S kS ta (by rw [R.n0, if_neg c2]; exact ⟨rfl, rfl⟩))))
theorem T_rule (X : AH c g h) (x1 x2 x3 : Int32) : ST z_pI 114 [.ref 0, .int x1, .int x2, .int x3] 200 [.ref 27, .int x1, .int x2, .int x3] c g h := by
  have I := X.i
  have R := X.r
  obtain ⟨B, hB⟩ := R.bs
  by_cases c1 : (0 : Int32) ≤ x1 ∧ x1 ≤ (5 : Int32)
  · by_cases c2 : (0 : Int32) ≤ x2 ∧ x2 ≤ (60 : Int32)
    · by_cases c3 : (10 : Int32) ≤ x3 ∧ x3 ≤ (17 : Int32)
      · exact ST.ro X _ (X_200 _ _ _ g (by rw [if_pos c1, if_pos c2, if_pos c3]; exact ⟨I.cn, rfl, SE.refl g⟩)) (kv_of (X_114 _ _ _ h R.w (by rw [if_pos c1, if_pos c2, if_pos c3]; exact o_S hB ⟨_, K_until R I hB _ _, rfl, rfl⟩)))
      by_cases d0 : x3 = (0 : Int32)
      · subst d0
        exact ST.ro X _ (X_200 _ _ _ g (by rw [if_pos c1, if_pos c2, if_neg (by decide), if_pos rfl]; exact ⟨I.cn, rfl, SE.refl g⟩)) (kv_of (X_114 _ _ _ h R.w (by rw [if_pos c1, if_pos c2, if_neg (by decide), if_pos rfl]; exact o_S hB ⟨_, K_share R I hB _ _, rfl, rfl⟩)))
      by_cases d1 : x3 = (1 : Int32)
      · subst d1
        exact ST.ro X _ (X_200 _ _ _ g (by rw [if_pos c1, if_pos c2, if_neg (by decide), if_neg (by decide), if_pos rfl]; exact ⟨I.cn, rfl, SE.refl g⟩)) (kv_of (X_114 _ _ _ h R.w (by rw [if_pos c1, if_pos c2, if_neg (by decide), if_neg (by decide), if_pos rfl]; exact o_S hB ⟨_, K_fixed R I hB _ _, rfl, rfl⟩)))
      by_cases d2 : x3 = (2 : Int32)
      · subst d2
        exact ST.ro X _ (X_200 _ _ _ g (by rw [if_pos c1, if_pos c2, if_neg (by decide), if_neg (by decide), if_neg (by decide), if_pos rfl]; exact ⟨I.cn, rfl, SE.refl g⟩)) (kv_of (X_114 _ _ _ h R.w (by rw [if_pos c1, if_pos c2, if_neg (by decide), if_neg (by decide), if_neg (by decide), if_pos rfl]; exact o_S hB ⟨_, K_stop R I hB _ _, rfl, rfl⟩)))
      by_cases d3 : x3 = (3 : Int32)
      · subst d3
        exact ST.ro X _ (X_200 _ _ _ g (by rw [if_pos c1, if_pos c2, if_neg (by decide), if_neg (by decide), if_neg (by decide), if_neg (by decide), if_pos rfl]; exact ⟨I.cn, rfl, SE.refl g⟩)) (kv_of (X_114 _ _ _ h R.w (by rw [if_pos c1, if_pos c2, if_neg (by decide), if_neg (by decide), if_neg (by decide), if_neg (by decide), if_pos rfl]; exact o_S hB ⟨_, K_again R I hB _ _, rfl, rfl⟩)))
      by_cases d4 : x3 = (4 : Int32)
      · subst d4
        exact ST.ro X _ (X_200 _ _ _ g (by rw [if_pos c1, if_pos c2, if_neg (by decide), if_neg (by decide), if_neg (by decide), if_neg (by decide), if_neg (by decide), if_pos rfl]; exact ⟨I.cn, rfl, SE.refl g⟩)) (kv_of (X_114 _ _ _ h R.w (by rw [if_pos c1, if_pos c2, if_neg (by decide), if_neg (by decide), if_neg (by decide), if_neg (by decide), if_neg (by decide), if_pos rfl]; exact o_S hB ⟨_, K_wide R I hB _, rfl, rfl⟩)))
      exact ST.ro X (-1) (X_200 _ _ _ g (by rw [if_pos c1, if_pos c2, if_neg c3, if_neg d0, if_neg d1, if_neg d2, if_neg d3, if_neg d4]; exact ⟨rfl, SE.refl g⟩)) (kv_of (X_114 _ _ _ h R.w (by rw [if_pos c1, if_pos c2, if_neg c3, if_neg d0, if_neg d1, if_neg d2, if_neg d3, if_neg d4]; exact ⟨rfl, rfl⟩)))
    · exact ST.ro X (-1) (X_200 _ _ _ g (by rw [if_pos c1, if_neg c2]; exact ⟨rfl, SE.refl g⟩)) (kv_of (X_114 _ _ _ h R.w (by rw [if_pos c1, if_neg c2]; exact ⟨rfl, rfl⟩)))
  · exact ST.ro X (-1) (X_200 _ _ _ g (by rw [if_neg c1]; exact ⟨rfl, SE.refl g⟩)) (kv_of (X_114 _ _ _ h R.w (by rw [if_neg c1]; exact ⟨rfl, rfl⟩)))
theorem T_at (X : AH c g h) (x1 x2 : Int32) : ST z_pI 108 [.ref 0, .int x1, .int x2] 180 [.ref 27, .int x1, .int x2] c g h := by
  have I := X.i
  have R := X.r
  rcases I.mi x1 with hx | ⟨m, hm, hm6, rfl⟩
  · exact ST.ro X (-1) (X_180 _ _ g (by rw [if_neg hx]; exact ⟨rfl, SE.refl g⟩)) (kv_of (X_108 _ _ h R.w (xa_N (K_mineN R hx) ⟨rfl, rfl⟩)))
  obtain ⟨a, ha⟩ := R.mine hm
  have kS := K_mineS R I hm ha
  have ta := R.w.mt R.f ha
  have bd := n_bd (N := 6) hm6 (by omega)
  have o := I.cn
  have kw := K_wk R hm ha
  have kU : KV z_pI 46 [.ref a, .int (z_iv h 0 11)] h (q_un g (Int32.ofNat m)) := by rw [R.n0]; exact K_un R I hm ha
  cases k : q_wk g (Int32.ofNat m) with
  | none =>
    rw [k] at kw
    have kw : KV z_pA 44 [.ref a] h none := kw
    have s4 : s_no (q_wk g (Int32.ofNat m)) = (-4 : Int32) := by rw [k]; rfl
    by_cases c0 : x2 = (0 : Int32)
    · subst c0
      exact ST.ro X (g 30 m) (X_180 _ _ g (by rw [if_pos (I.mv hm)]; refine ⟨o, ?_⟩; rw [if_pos rfl, n_ix (by omega)]; exact ⟨bd, rfl, SE.refl g⟩)) (kv_of (X_108 _ _ h R.w (xa_S kS ta (xa_N kw (by rw [if_pos rfl]; exact ⟨R.f30 hm ha, rfl⟩)))))
    by_cases c1 : x2 = (1 : Int32)
    · subst c1
      exact ST.ro X (g 31 m) (X_180 _ _ g (by rw [if_pos (I.mv hm)]; refine ⟨o, ?_⟩; rw [if_neg (by decide), if_pos rfl, n_ix (by omega)]; exact ⟨bd, rfl, SE.refl g⟩)) (kv_of (X_108 _ _ h R.w (xa_S kS ta (xa_N kw (by rw [if_neg (by decide), if_pos rfl]; exact ⟨R.f31 hm ha, rfl⟩)))))
    by_cases c2 : x2 = (2 : Int32)
    · subst c2
      exact ST.ro X ((-4)) (X_180 _ _ g (by rw [if_pos (I.mv hm)]; refine ⟨o, ?_⟩; rw [if_neg (by decide), if_neg (by decide), if_pos rfl]; exact ⟨s4, SE.refl g⟩)) (kv_of (X_108 _ _ h R.w (xa_S kS ta (xa_N kw (by rw [if_neg (by decide), if_neg (by decide), if_pos rfl]; exact ⟨rfl, rfl⟩)))))
    by_cases c3 : x2 = (3 : Int32)
    · subst c3
      exact ST.ro X ((-4)) (X_180 _ _ g (by rw [if_pos (I.mv hm)]; refine ⟨o, ?_⟩; rw [if_neg (by decide), if_neg (by decide), if_neg (by decide), if_pos rfl]; exact by rw [if_pos s4]; exact ⟨rfl, SE.refl g⟩)) (kv_of (X_108 _ _ h R.w (xa_S kS ta (xa_N kw (by rw [if_neg (by decide), if_neg (by decide), if_neg (by decide), if_pos rfl]; exact ⟨rfl, rfl⟩)))))
    by_cases c4 : x2 = (4 : Int32)
    · subst c4
      exact ST.ro X (g 33 m) (X_180 _ _ g (by rw [if_pos (I.mv hm)]; refine ⟨o, ?_⟩; rw [if_neg (by decide), if_neg (by decide), if_neg (by decide), if_neg (by decide), if_pos rfl, n_ix (by omega)]; exact ⟨bd, rfl, SE.refl g⟩)) (kv_of (X_108 _ _ h R.w (xa_S kS ta (xa_N kw (by rw [if_neg (by decide), if_neg (by decide), if_neg (by decide), if_neg (by decide), if_pos rfl]; exact ⟨R.f33 hm ha, rfl⟩)))))
    by_cases c5 : x2 = (5 : Int32)
    · subst c5
      exact ST.ro X (q_un g (Int32.ofNat m)) (X_180 _ _ g (by rw [if_pos (I.mv hm)]; refine ⟨o, ?_⟩; rw [if_neg (by decide), if_neg (by decide), if_neg (by decide), if_neg (by decide), if_neg (by decide), if_pos rfl]; exact ⟨o, rfl, SE.refl g⟩)) (kv_of (X_108 _ _ h R.w (xa_S kS ta (xa_N kw (by rw [if_neg (by decide), if_neg (by decide), if_neg (by decide), if_neg (by decide), if_neg (by decide), if_pos rfl]; exact ⟨_, kU, rfl, rfl⟩)))))
    exact ST.ro X (-1) (X_180 _ _ g (by rw [if_pos (I.mv hm)]; refine ⟨o, ?_⟩; rw [if_neg c0, if_neg c1, if_neg c2, if_neg c3, if_neg c4, if_neg c5]; exact ⟨rfl, SE.refl g⟩)) (kv_of (X_108 _ _ h R.w (xa_S kS ta (xa_N kw (by rw [if_neg c0, if_neg c1, if_neg c2, if_neg c3, if_neg c4, if_neg c5]; exact ⟨rfl, rfl⟩)))))
  | some e =>
    have he := (q_wk_some k).1
    have he12 := I.e12 he
    obtain ⟨b, hb⟩ := R.engine he
    rw [k] at kw
    have kw : KV z_pA 44 [.ref a] h (some b) := by
      have w : (some e).bind (z_rv h 2) = some b := hb
      rw [w] at kw
      exact kw
    have s4 : ¬ s_no (q_wk g (Int32.ofNat m)) = (-4 : Int32) := by rw [k]; exact s_no_ne (by omega)
    have six : z_ix (s_no (q_wk g (Int32.ofNat m))) = e := by rw [k]; exact s_no_ix (by omega)
    have sbd : 0 ≤ (s_no (q_wk g (Int32.ofNat m))).toInt ∧ (s_no (q_wk g (Int32.ofNat m))).toInt < 12 := by rw [k]; exact s_no_bd (N := 12) he12 (by omega)
    have tb := R.w.et R.f hb
    have n0 := I.cnt.1
    have e12 := a_m12 (x := g 27 0) n0.1 (by omega)
    have ema : (12 : Int32) * Int32.ofNat m + Int32.ofNat (z_ix (g 27 0) % 12) = Int32.ofNat (12 * m + z_ix (g 27 0) % 12) := n_ma (a := 12)
    have wb := I.bw.at (k := 32) (i := 12 * m + z_ix (g 27 0) % 12) (a := 0) (b := 999) (by decide) (by omega)
    have db := I.bm.at (k := 30) (a := 1) (b := 300) (by decide) hm
    have lb := I.be.at (k := 48) (a := 1) (b := 99) (by decide) he
    have l0 : ¬ (g 48 e).toInt64 = 0 := fun q => by
      have := congrArg Int64.toInt q
      rw [l_i] at this
      have z : (0 : Int64).toInt = 0 := by decide
      omega
    by_cases c0 : x2 = (0 : Int32)
    · subst c0
      exact ST.ro X (g 30 m) (X_180 _ _ g (by rw [if_pos (I.mv hm)]; refine ⟨o, ?_⟩; rw [if_pos rfl, n_ix (by omega)]; exact ⟨bd, rfl, SE.refl g⟩)) (kv_of (X_108 _ _ h R.w (xa_S kS ta (xa_S kw tb (by rw [if_pos rfl]; exact ⟨R.f30 hm ha, rfl⟩)))))
    by_cases c1 : x2 = (1 : Int32)
    · subst c1
      exact ST.ro X (g 31 m) (X_180 _ _ g (by rw [if_pos (I.mv hm)]; refine ⟨o, ?_⟩; rw [if_neg (by decide), if_pos rfl, n_ix (by omega)]; exact ⟨bd, rfl, SE.refl g⟩)) (kv_of (X_108 _ _ h R.w (xa_S kS ta (xa_S kw tb (by rw [if_neg (by decide), if_pos rfl]; exact ⟨R.f31 hm ha, rfl⟩)))))
    by_cases c2 : x2 = (2 : Int32)
    · subst c2
      exact ST.ro X (Int32.ofNat e) (X_180 _ _ g (by rw [if_pos (I.mv hm)]; refine ⟨o, ?_⟩; rw [if_neg (by decide), if_neg (by decide), if_pos rfl]; exact ⟨by rw [k]; rfl, SE.refl g⟩)) (kv_of (X_108 _ _ h R.w (xa_S kS ta (xa_S kw tb (by rw [if_neg (by decide), if_neg (by decide), if_pos rfl]; exact ⟨(R.f204 he hb).trans (I.gs e he).2.2, rfl⟩)))))
    by_cases c3 : x2 = (3 : Int32)
    · subst c3
      exact ST.ro X ((a_nd (g 32 (12 * m + z_ix (g 27 0) % 12)) (g 30 m) (g 48 e)).toInt32) (X_180 _ _ g (by rw [if_pos (I.mv hm)]; refine ⟨o, ?_⟩; rw [if_neg (by decide), if_neg (by decide), if_neg (by decide), if_pos rfl]; exact (by rw [if_neg s4, six, e12, ema, n_ix (by omega), n_ix (by omega)]; exact ⟨sbd, n_bd (N := 72) (by omega) (by omega), bd, l0, rfl, SE.refl g⟩))) (kv_of (X_108 _ _ h R.w (xa_S kS ta (xa_S kw tb (by rw [if_neg (by decide), if_neg (by decide), if_neg (by decide), if_pos rfl]; exact (by rw [R.n0, R.f30 hm ha]; exact ⟨_, K_wat R hm ha n0.1 (by omega), _, K_need R I he hb wb db, rfl, rfl⟩))))))
    by_cases c4 : x2 = (4 : Int32)
    · subst c4
      exact ST.ro X (g 33 m) (X_180 _ _ g (by rw [if_pos (I.mv hm)]; refine ⟨o, ?_⟩; rw [if_neg (by decide), if_neg (by decide), if_neg (by decide), if_neg (by decide), if_pos rfl, n_ix (by omega)]; exact ⟨bd, rfl, SE.refl g⟩)) (kv_of (X_108 _ _ h R.w (xa_S kS ta (xa_S kw tb (by rw [if_neg (by decide), if_neg (by decide), if_neg (by decide), if_neg (by decide), if_pos rfl]; exact ⟨R.f33 hm ha, rfl⟩)))))
    by_cases c5 : x2 = (5 : Int32)
    · subst c5
      exact ST.ro X (q_un g (Int32.ofNat m)) (X_180 _ _ g (by rw [if_pos (I.mv hm)]; refine ⟨o, ?_⟩; rw [if_neg (by decide), if_neg (by decide), if_neg (by decide), if_neg (by decide), if_neg (by decide), if_pos rfl]; exact ⟨o, rfl, SE.refl g⟩)) (kv_of (X_108 _ _ h R.w (xa_S kS ta (xa_S kw tb (by rw [if_neg (by decide), if_neg (by decide), if_neg (by decide), if_neg (by decide), if_neg (by decide), if_pos rfl]; exact ⟨_, kU, rfl, rfl⟩)))))
    exact ST.ro X (-1) (X_180 _ _ g (by rw [if_pos (I.mv hm)]; refine ⟨o, ?_⟩; rw [if_neg c0, if_neg c1, if_neg c2, if_neg c3, if_neg c4, if_neg c5]; exact ⟨rfl, SE.refl g⟩)) (kv_of (X_108 _ _ h R.w (xa_S kS ta (xa_S kw tb (by rw [if_neg c0, if_neg c1, if_neg c2, if_neg c3, if_neg c4, if_neg c5]; exact ⟨rfl, rfl⟩)))))
theorem T_known (X : AH c g h) (x1 x2 : Int32) : ST z_pI 119 [.ref 0, .int x1, .int x2] 208 [.ref 27, .int x1, .int x2] c g h := by
  have I := X.i
  have R := X.r
  rcases I.mi x1 with hx | ⟨m, hm, hm6, rfl⟩
  · exact ST.ro X (-1) (X_208 _ _ g (by rw [if_neg hx]; exact ⟨rfl, SE.refl g⟩)) (kv_of (X_119 _ _ h R.w (xa_N (K_mineN R hx) ⟨rfl, rfl⟩)))
  obtain ⟨a, ha⟩ := R.mine hm
  have kS := K_mineS R I hm ha
  have ta := R.w.mt R.f ha
  by_cases c2 : (0 : Int32) ≤ x2 ∧ x2 ≤ (60 : Int32)
  · exact ST.ro X _ (X_208 _ _ g (by rw [if_pos (I.mv hm), if_pos c2]; exact ⟨I.so, rfl, SE.refl g⟩)) (kv_of (X_119 _ _ h R.w (xa_S kS ta (by rw [if_pos c2]; exact ⟨_, K_os0 R I _ _, rfl, rfl⟩))))
  · exact ST.ro X (-1) (X_208 _ _ g (by rw [if_pos (I.mv hm), if_neg c2]; exact ⟨rfl, SE.refl g⟩)) (kv_of (X_119 _ _ h R.w (xa_S kS ta (by rw [if_neg c2]; exact ⟨rfl, rfl⟩))))
theorem T_theirs (X : AH c g h) (x1 x2 x3 : Int32) : ST z_pI 122 [.ref 0, .int x1, .int x2, .int x3] 212 [.ref 27, .int x1, .int x2, .int x3] c g h := by
  have I := X.i
  have R := X.r
  obtain ⟨B, hB⟩ := R.bs
  rcases I.ei x1 with hx | ⟨m, hm, hm6, rfl⟩
  · exact ST.ro X (-1) (X_212 _ _ _ g (by rw [if_neg hx]; exact ⟨rfl, SE.refl g⟩)) (kv_of (X_122 _ _ _ h R.w (xa_N (K_engN R hx) ⟨rfl, rfl⟩)))
  obtain ⟨a, ha⟩ := R.engine hm
  have kS := K_engS R I hm ha
  have ta := R.w.et R.f ha
  have bd := n_bd (N := 12) hm6 (by omega)
  by_cases c2 : (0 : Int32) ≤ x2 ∧ x2 ≤ (60 : Int32)
  · by_cases c3 : (0 : Int32) ≤ x3 ∧ x3 ≤ (1 : Int32)
    · by_cases c4 : x3 = 0
      · refine ST.ro X (q_tp g x2 &&& g 51 m) (X_212 _ _ _ g (by rw [if_pos (I.ev hm), if_pos c2, if_pos c3, if_pos c4, n_ix (by omega)]; exact ⟨I.cn, bd, rfl, SE.refl g⟩)) (kv_of (X_122 _ _ _ h R.w (xa_S kS ta (by rw [if_pos c2, if_pos c3]; refine o_S hB ⟨_, K_claim R I hB _, ?_⟩; rw [if_pos c4, R.f51 hm ha, Int32.and_comm]; exact ⟨rfl, rfl⟩))))
      · refine ST.ro X (z_bt ((g 47 m = (2 : Int32)) ∧ (((q_wi g x2 = 0) ∧ (¬ (q_tp g x2 = 0) ∧ ((q_tp g x2 &&& g 51 m) = q_tp g x2))) ∨ (¬ (q_wi g x2 = 0) ∧ (¬ ((q_tp g x2 &&& g 51 m) = 0)))))) (X_212 _ _ _ g (by rw [if_pos (I.ev hm), if_pos c2, if_pos c3, if_neg c4, n_ix (by omega)]; exact ⟨I.cn, bd, I.cn, bd, rfl, SE.refl g⟩)) (kv_of (X_122 _ _ _ h R.w (xa_S kS ta (by rw [if_pos c2, if_pos c3]; refine o_S hB ⟨_, K_claim R I hB _, ?_⟩; rw [if_neg c4]; exact ⟨_, K_wide R I hB _, _, kv_of (C_42 a _ _ h R.w ta ⟨rfl, rfl⟩), z_bt_nn.trans (by rw [R.f47 hm ha, R.f51 hm ha, Int32.and_comm (g 51 m)]), rfl⟩))))
    · exact ST.ro X (-1) (X_212 _ _ _ g (by rw [if_pos (I.ev hm), if_pos c2, if_neg c3]; exact ⟨rfl, SE.refl g⟩)) (kv_of (X_122 _ _ _ h R.w (xa_S kS ta (by rw [if_pos c2, if_neg c3]; exact ⟨rfl, rfl⟩))))
  · exact ST.ro X (-1) (X_212 _ _ _ g (by rw [if_pos (I.ev hm), if_neg c2]; exact ⟨rfl, SE.refl g⟩)) (kv_of (X_122 _ _ _ h R.w (xa_S kS ta (by rw [if_neg c2]; exact ⟨rfl, rfl⟩))))
end T6
