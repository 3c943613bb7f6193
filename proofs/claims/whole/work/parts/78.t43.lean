section CU
variable {c : Nat} {lm : Nat → Nat} {g : zG} {h : zH}
theorem INV.hnb (I : INV c lm g) {m e n : Nat} {pt : Int32} (hm : m < q_n g 1) (he : e < q_n g 20) (hz : ¬ g 42 m = 0) (hn : n < 24) (hp : 1 ≤ pt.toInt ∧ pt.toInt ≤ 9) : 0 ≤ (h_n g m e pt n).toInt64.toInt ∧ (h_n g m e pt n).toInt64.toInt ≤ 9900000 := by
  rw [← I.yh hm he hz hn hp]
  rcases I.tm m (I.m6 hm) with z | ⟨q1, q2, q3, _⟩
  · exact absurd z.1 hz
  have sb := (I.mnn (n := n) hm he).2.2
  have o := (a_old (s := s_n g m e n) (l := g 48 e) (s2 := g 42 m) (l2 := g 43 m) (c := g 44 m) (by omega) (I.be.at (k := 48) (a := 1) (b := 99) (by decide) he) q1 q2 q3).2.1
  have o : 0 ≤ (o_n g m e n).toInt ∧ (o_n g m e n).toInt ≤ 100000 := o
  have cb := I.cnb (n := n) hm he (I.d49 he) (I.a60 he) hn
  have cb' : 0 ≤ (c_n g m e (g 49 e) (g 52 e) n).toInt64.toInt ∧ (c_n g m e (g 49 e) (g 52 e) n).toInt64.toInt ≤ 989901 := by
    rw [l_i]
    unfold c_n
    rw [i_l (by omega) (by omega)]
    omega
  have p31 := I.bm.at (k := 31) (a := 1) (b := 99) (by decide) hm
  have z0 : (0 : Int64).toInt = 0 := by decide
  generalize o_n g m e n = x at o
  generalize (c_n g m e (g 49 e) (g 52 e) n).toInt64 = y at cb'
  have es : (x - y).toInt = x.toInt - y.toInt := l_sub (by omega) (by omega)
  by_cases q : (0 : Int64) ≤ (x - y)
  · rw [if_pos q]
    have q' := l_le.mp q
    rw [z0, es] at q'
    have mb := m_bd (a := x.toInt - y.toInt) (A := 100000) (b := (g 31 m).toInt) (B := 99) q' (by omega) (by omega) p31.2
    have em : ((x - y) * (g 31 m).toInt64).toInt = (x.toInt - y.toInt) * (g 31 m).toInt := by rw [l_mul (by rw [es, l_i]; omega) (by rw [es, l_i]; omega), es, l_i]
    have ed : (((x - y) * (g 31 m).toInt64) / pt.toInt64).toInt = (x.toInt - y.toInt) * (g 31 m).toInt / pt.toInt := by
      rw [d_dv (by rw [em]; exact mb.1) (by rw [l_i]; omega), em, l_i]
    have b0 : 0 ≤ (x.toInt - y.toInt) * (g 31 m).toInt / pt.toInt := Int.ediv_nonneg mb.1 (by omega)
    have b1 := Int.ediv_le_self (a := (x.toInt - y.toInt) * (g 31 m).toInt) pt.toInt mb.1
    rw [ed]
    omega
  · rw [if_neg q]
    decide
theorem INV.pyb (I : INV c lm g) {m e M : Nat} (hm : m < q_n g 1) (he : e < q_n g 20) (hM : M ≤ 24) : 0 ≤ (q_py g m e M).toInt ∧ (q_py g m e M).toInt ≤ 237600000 := by
  unfold q_py
  by_cases p1 : g 47 e = 1
  · rw [if_pos p1]
    by_cases z : g 42 m = 0
    · rw [if_pos z]; decide
    · rw [if_neg z]
      by_cases p2 : q_hd g 1 (Int32.ofNat m) (g 27 0) (-4) = (-4 : Int32)
      · rw [if_pos p2]
        by_cases p3 : q_hd g 0 (Int32.ofNat m) (g 27 0) (-4) = (-4 : Int32)
        · rw [if_pos p3]; decide
        · rw [if_neg p3]
          have pt := q_hd_share I p3
          generalize q_hd g 0 (Int32.ofNat m) (g 27 0) (-4) = x at p3 pt
          have : ∀ n, n ≤ 24 → 0 ≤ (p_n g m e x n).toInt ∧ (p_n g m e x n).toInt ≤ 9900000 * (n : Int) := by
            intro n
            induction n with
            | zero => intro _; show 0 ≤ (0 : Int64).toInt ∧ (0 : Int64).toInt ≤ 9900000 * ((0 : Nat) : Int); decide
            | succ n ih =>
              intro hn
              have i1 := ih (by omega)
              have i2 := I.hnb (n := n) hm he z (by omega) pt
              unfold p_n
              rw [l_add (by omega) (by omega)]
              omega
          have := this M hM
          omega
      · rw [if_neg p2]
        have fx := q_hd_fixed I p2
        generalize q_hd g 1 (Int32.ofNat m) (g 27 0) (-4) = x at p2 fx
        have mb := m_bd (a := x.toInt) (A := 9999) (b := (M : Int)) (B := 24) fx.1 fx.2 (by omega) (by omega)
        have tM : (Int32.ofNat M).toInt = (M : Int) := n_i (by omega)
        rw [l_mul (by rw [l_i, l_i, tM]; omega) (by rw [l_i, l_i, tM]; omega), l_i, l_i, tM]
        omega
  · rw [if_neg p1]; decide
/-- the fixed sums, as the class has them -/
def s_fa (p d m : Int64) (x : Int32) : Int32 := if s_up p m ≤ (if s_dn d m < (9999 : Int64) then s_dn d m else (9999 : Int64)) then (if x = 0 then s_up p m else (if s_dn d m < (9999 : Int64) then s_dn d m else (9999 : Int64))).toInt32 else (-4 : Int32)
theorem a_fa0 : ∀ M, M < 25 → 1 ≤ M → s_dn (-9223372036854775808) (Int32.ofNat M).toInt64 < 0 := by decide +kernel
theorem a_fair {p d m12 m15 : Int64} {M : Nat} {x m19 : Int32} (hp : 0 ≤ p.toInt ∧ p.toInt ≤ 1000000000) (h1 : 1 ≤ M) (hM : M ≤ 24)
    (e12 : m12 = (if (0 : Int64) ≤ d then (d / (Int32.ofNat M).toInt64) else (-1 : Int64))) (e15 : m15 = (if m12 ≤ (9999 : Int64) then m12 else (9999 : Int64)))
    (e19 : m19 = (if (((p + (Int32.ofNat M).toInt64) - (1 : Int64)) / (Int32.ofNat M).toInt64) ≤ m15 then (if x = 0 then (((p + (Int32.ofNat M).toInt64) - (1 : Int64)) / (Int32.ofNat M).toInt64).toInt32 else m15.toInt32) else (-4 : Int32))) : m19 = s_fa p d (Int32.ofNat M).toInt64 x := by
  have tm : ((Int32.ofNat M).toInt64).toInt = (M : Int) := by rw [l_i, n_i (by omega)]
  have z0 : (0 : Int64).toInt = 0 := by decide
  have z9 : (9999 : Int64).toInt = 9999 := by decide
  have zm : (-1 : Int64).toInt = -1 := by decide
  have up := d_up (x := p) (y := (Int32.ofNat M).toInt64) hp.1 (by omega) (by omega)
  have ut := d_upt (x := p) (y := (Int32.ofNat M).toInt64) hp.1 (by omega)
  have u0 : 0 ≤ (s_up p (Int32.ofNat M).toInt64).toInt := by
    rw [ut]
    exact Int.ediv_nonneg (by omega) (by omega)
  rw [← up] at e19
  unfold s_fa
  have a0 := a_fa0 M (by omega) h1
  by_cases q : (0 : Int64) ≤ d
  · have q' := l_le.mp q
    rw [z0] at q'
    rw [if_pos q, ← d_dn (x := d) (y := (Int32.ofNat M).toInt64) q' (by omega)] at e12
    subst e12
    have e : m15 = (if s_dn d (Int32.ofNat M).toInt64 < (9999 : Int64) then s_dn d (Int32.ofNat M).toInt64 else (9999 : Int64)) := by
      rw [e15]
      generalize s_dn d (Int32.ofNat M).toInt64 = w
      by_cases c1 : w < (9999 : Int64)
      · rw [if_pos c1, if_pos (l_le.mpr (by have := l_lt.mp c1; omega))]
      · rw [if_neg c1]
        by_cases c2 : w ≤ (9999 : Int64)
        · rw [if_pos c2]
          apply Int64.toInt_inj.mp
          have := l_le.mp c2
          have : ¬ w.toInt < (9999 : Int64).toInt := fun z => c1 (l_lt.mpr z)
          omega
        · rw [if_neg c2]
    rw [← e, e19]
    generalize s_up p (Int32.ofNat M).toInt64 = u
    by_cases c1 : u ≤ m15
    · rw [if_pos c1, if_pos c1]
      by_cases c2 : x = 0
      · rw [if_pos c2, if_pos c2]
      · rw [if_neg c2, if_neg c2]
    · rw [if_neg c1, if_neg c1]
  · rw [if_neg q] at e12
    subst e12
    rw [if_pos (by decide)] at e15
    subst e15
    have ng : (s_dn d (Int32.ofNat M).toInt64).toInt < 0 := by
      have q' : ¬ (0 : Int64).toInt ≤ d.toInt := fun z => q (l_le.mpr z)
      have lo := Int64.le_toInt d
      by_cases c1 : d.toInt = -9223372036854775808
      · have : d = -9223372036854775808 := Int64.toInt_inj.mp (by rw [c1]; decide)
        rw [this]
        have := l_lt.mp a0
        omega
      · unfold s_dn
        rw [if_pos (l_lt.mpr (by omega)), d_fdi (by omega) (by omega)]
        exact Int.ediv_neg_of_neg_of_pos (by omega) (by omega)
    rw [e19]
    generalize s_up p (Int32.ofNat M).toInt64 = u at u0
    generalize s_dn d (Int32.ofNat M).toInt64 = w at ng
    rw [if_neg (fun z => by have := l_le.mp z; omega), if_pos (l_lt.mpr (by omega)), if_neg (fun z => by have := l_le.mp z; omega)]
theorem T_fair (X : AH c g h) (x1 x2 x3 x4 x5 : Int32) : ST z_pI 127 [.ref 0, .int x1, .int x2, .int x3, .int x4, .int x5] 220 [.ref 27, .int x1, .int x2, .int x3, .int x4, .int x5] c g h := by
  have I := X.i
  have R := X.r
  obtain ⟨B, hB⟩ := R.bs
  rcases (Decidable.em ((0 : Int32) ≤ x1 ∧ x1 ≤ ((g 27 1) - (1 : Int32)))).symm with c1 | c1
  · exact ST.ro X (-1) (X_220 _ _ _ _ _ g (M_217N (fun z => c1 z.1) (by rw [if_pos rfl]; exact ⟨rfl, SE.refl g⟩))) (kv_of (X_127 _ _ _ _ _ h R.w (xa_N (K_mineN R c1) ⟨rfl, rfl⟩)))
  obtain ⟨m, hm, em⟩ := n_rng I.cnt.2.1.1 c1
  have hm : m < q_n g 1 := hm
  subst em
  obtain ⟨a, ha⟩ := R.mine hm
  have ta := R.w.mt R.f ha
  have kS := K_mineS R I hm ha
  rcases (Decidable.em (((1 : Int32) ≤ x2 ∧ x2 ≤ (24 : Int32)) ∧ (((0 : Int32) ≤ x3 ∧ x3 ≤ (9999 : Int32)) ∧ ((0 : Int32) ≤ x4 ∧ x4 ≤ (99999 : Int32))))).symm with c2 | c2
  · refine ST.ro X (-1) (X_220 _ _ _ _ _ g (M_217N (fun z => c2 z.2) (by rw [if_pos rfl]; exact ⟨rfl, SE.refl g⟩))) (kv_of (X_127 _ _ _ _ _ h R.w (xa_S kS ta ?_)))
    rw [if_neg c2]; exact ⟨rfl, rfl⟩
  rcases (Decidable.em ((0 : Int32) ≤ x5 ∧ x5 ≤ (1 : Int32))).symm with c3 | c3
  · refine ST.ro X (-1) (X_220 _ _ _ _ _ g (M_217Y ⟨c1, c2⟩ (by rw [if_neg (by decide), if_neg c3]; exact ⟨rfl, SE.refl g⟩))) (kv_of (X_127 _ _ _ _ _ h R.w (xa_S kS ta ?_)))
    rw [if_pos c2, if_neg c3]; exact ⟨rfl, rfl⟩
  have t1 : (1 : Int32).toInt = 1 := by decide
  have t0 : (0 : Int32).toInt = 0 := by decide
  have z3 : (0 : Int32) ≤ x2 := by
    have w := n_le.mp c2.1.1
    exact n_le.mpr (by omega)
  obtain ⟨M, hM, eM⟩ := n_lit (x := x2) 24 (by omega) ⟨z3, c2.1.2⟩
  subst eM
  have tM : (Int32.ofNat M).toInt = (M : Int) := n_i (by omega)
  have hM1 : 1 ≤ M := by
    have w := n_le.mp c2.1.1
    rw [t1, tM] at w
    omega
  have hp := n_bnd (a := 0) (b := 99999) (by omega) (by omega) c2.2.2
  refine ⟨if q_wk g (Int32.ofNat m) = none then -2 else (if g 42 m = 0 then -2 else s_fa (q_py g m ((q_wk g (Int32.ofNat m)).getD 0) M) (f_n g m ((q_wk g (Int32.ofNat m)).getD 0) (g 49 ((q_wk g (Int32.ofNat m)).getD 0)) (g 52 ((q_wk g (Int32.ofNat m)).getD 0)) (Int32.ofNat M) x3 M - q_gn g m ((q_wk g (Int32.ofNat m)).getD 0) M x3 1 x4) (Int32.ofNat M).toInt64 x5), g, ?_, I.t_c (Nat.le_succ c), ?_⟩
  · refine X_220 _ _ _ _ _ g (M_217Y ⟨c1, c2⟩ ?_)
    have im : z_ix (Int32.ofNat m) = m := n_ix (by have := I.m6 hm; omega)
    have bm := n_bd (N := 6) (I.m6 hm) (by omega)
    rw [if_neg (by decide), if_pos c3, im]
    refine ⟨I.cn, ?_⟩
    cases k : q_wk g (Int32.ofNat m) with
    | none =>
      rw [if_pos (show s_no none = (-4 : Int32) from rfl), if_pos rfl]
      exact ⟨rfl, SE.refl g⟩
    | some e =>
      obtain ⟨he, e46, _, _⟩ := q_wk_some k
      rw [if_neg (s_no_ne (by have := I.e12 he; omega)), if_neg (show ¬ (some e : Option Nat) = none from fun z => nomatch z)]
      refine ⟨bm, ?_⟩
      by_cases z : g 42 m = 0
      · rw [if_pos z, if_pos z]
        exact ⟨rfl, SE.refl g⟩
      · rw [if_neg z, if_neg z]
        refine M_216G I (fun _ _ => rfl) hm k hM (Or.inr (Or.inl rfl)) (fun _ => z) ?_
        refine M_215G I (fun k hk => z_row_ne hk) hm k hM (Or.inl rfl) (fun w => absurd w (by decide)) ?_
        have nz : ¬ (Int32.ofNat M).toInt64 = 0 := by
          intro w
          have := congrArg Int64.toInt w
          rw [l_i, tM, show (0 : Int64).toInt = 0 by decide] at this
          omega
        refine ⟨nz, fun _ => nz, fun m12 e12 m15 e15 m19 e19 => ⟨?_, SE.r26⟩⟩
        rw [z_row_at, z_dec_enc, I.pye hm he hM] at e19
        have r0 : q_rf g m e M x3 0 x4 = f_n g m e (g 49 e) (g 52 e) (Int32.ofNat M) x3 M := by
          unfold q_rf
          rw [if_neg (by decide), if_neg (fun z => absurd z.1 (by decide)), Int64.zero_add]
        rw [r0, I.bre hm he hM (Or.inr (Or.inl rfl)) (fun _ => z) hp] at e12
        have pb := I.pyb (M := M) hm he hM
        have pb' : 0 ≤ (q_py g m e M).toInt ∧ (q_py g m e M).toInt ≤ 1000000000 := ⟨pb.1, by omega⟩
        exact a_fair pb' hM1 hM e12 e15 e19
  · refine X_127 _ _ _ _ _ h R.w (xa_S kS ta ?_)
    rw [if_pos c2, if_pos c3, R.n0]
    refine o_S hB (K_open R hm ha hB (fun h' R' C rO kq rm => ?_))
    have ha' : z_rv h' 1 m = some a := by rw [rO 1 (by omega)]; exact ha
    have hB' : z_rv h' 0 9 = some B := by rw [rO 0 (by omega)]; exact hB
    have ta' := R'.w.mt R'.f ha'
    refine X_127_53 _ _ _ _ _ a _ _ _ _ _ _ _ h' R'.w ta' ?_
    cases k : q_wk g (Int32.ofNat m) with
    | none =>
      rw [if_pos (show (if (none : Option Nat).bind (z_rv h 2) = none then (0 : Int32) else 1) = 0 from if_pos rfl), if_pos rfl]
      exact ⟨rfl, R', kq, rm⟩
    | some e =>
      obtain ⟨he, e46, _, _⟩ := q_wk_some k
      obtain ⟨b, hb⟩ := R.engine he
      have hb' : z_rv h' 2 e = some b := by rw [rO 2 (by omega)]; exact hb
      have eb : (some e).bind (z_rv h 2) = some b := hb
      rw [k, eb] at C
      rw [eb, if_neg (show ¬ (if (some b : Option Nat) = none then (0 : Int32) else 1) = 0 by rw [if_neg (fun z => nomatch z)]; decide), if_neg (show ¬ (some e : Option Nat) = none from fun z => nomatch z)]
      rcases R'.mtrial hm ha' with ⟨w, z⟩ | ⟨t, w, z, _⟩
      · rw [if_pos z]
        exact o_N w ⟨rfl, R', kq, rm⟩
      · rw [if_neg z]
        refine o_S w ⟨_, K_34 R' I hm ha' hB' he e46 hb' C hM, _, K_32 R' I hm ha' he hb' C hM, _, K_31 R' I hm ha' hB' he e46 hb' C hM 1 x4, ?_⟩
        show _
        unfold s_fa
        simp only [Option.getD_some]
        generalize s_up (q_py g m e M) (Int32.ofNat M).toInt64 = u
        generalize s_dn (f_n g m e (g 49 e) (g 52 e) (Int32.ofNat M) x3 M - q_gn g m e M x3 1 x4) (Int32.ofNat M).toInt64 = v
        by_cases c4 : u ≤ (if v < (9999 : Int64) then v else (9999 : Int64))
        · rw [if_pos c4, if_pos c4]
          intro m20 e20
          exact ⟨by rw [e20], R', kq, rm⟩
        · rw [if_neg c4, if_neg c4]
          exact ⟨rfl, R', kq, rm⟩
end CU
