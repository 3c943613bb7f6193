section CO
variable {c : Nat} {lm : Nat → Nat} {g : zG}
/-- both sides' payments -/
theorem INV.yh (I : INV c lm g) {m e n : Nat} {pt : Int32} (hm : m < q_n g 1) (he : e < q_n g 20) (hz : ¬ g 42 m = 0) (hn : n < 24) (hp : 1 ≤ pt.toInt ∧ pt.toInt ≤ 9) : (if (0 : Int64) ≤ (o_n g m e n - (c_n g m e (g 49 e) (g 52 e) n).toInt64) then (((o_n g m e n - (c_n g m e (g 49 e) (g 52 e) n).toInt64) * (g 31 m).toInt64) / pt.toInt64) else (0 : Int64)) = (h_n g m e pt n).toInt64 := by
  unfold h_n
  rcases I.tm m (I.m6 hm) with z | ⟨q1, q2, q3, _⟩
  · exact absurd z.1 hz
  have sb := (I.mnn (n := n) hm he).2.2
  have o := (a_old (s := s_n g m e n) (l := g 48 e) (s2 := g 42 m) (l2 := g 43 m) (c := g 44 m) (by omega) (I.be.at (k := 48) (a := 1) (b := 99) (by decide) he) q1 q2 q3).2.1
  have o : 0 ≤ (o_n g m e n).toInt ∧ (o_n g m e n).toInt ≤ 100000 := o
  have cb := I.cnb (n := n) hm he (I.d49 he) (I.a60 he) hn
  have cb' : 0 ≤ (c_n g m e (g 49 e) (g 52 e) n).toInt64.toInt ∧ (c_n g m e (g 49 e) (g 52 e) n).toInt64.toInt ≤ 989901 := by
    rw [l_i]
    unfold c_n
    rw [i_l (by omega) (by omega)]
    omega
  have p31 := I.bm.at (k := 31) (a := 1) (b := 99) (by decide) hm
  have z0 : (0 : Int64).toInt = 0 := by decide
  generalize o_n g m e n = x at o
  generalize (c_n g m e (g 49 e) (g 52 e) n).toInt64 = y at cb'
  have es : (x - y).toInt = x.toInt - y.toInt := l_sub (by omega) (by omega)
  by_cases q : (0 : Int64) ≤ (x - y)
  · rw [if_pos q, if_pos q]
    have q' := l_le.mp q
    rw [z0, es] at q'
    have mb := m_bd (a := x.toInt - y.toInt) (A := 100000) (b := (g 31 m).toInt) (B := 99) q' (by omega) (by omega) p31.2
    have em : ((x - y) * (g 31 m).toInt64).toInt = (x.toInt - y.toInt) * (g 31 m).toInt := by rw [l_mul (by rw [es, l_i]; omega) (by rw [es, l_i]; omega), es, l_i]
    have ed : (((x - y) * (g 31 m).toInt64) / pt.toInt64).toInt = (x.toInt - y.toInt) * (g 31 m).toInt / pt.toInt := by
      rw [d_dv (by rw [em]; exact mb.1) (by rw [l_i]; omega), em, l_i]
    have b0 : 0 ≤ (x.toInt - y.toInt) * (g 31 m).toInt / pt.toInt := Int.ediv_nonneg mb.1 (by omega)
    have b1 := Int.ediv_le_self (a := (x.toInt - y.toInt) * (g 31 m).toInt) pt.toInt mb.1
    apply Int64.toInt_inj.mp
    rw [l_i, i_l (by omega) (by omega)]
  · rw [if_neg q, if_neg q]
    decide
theorem INV.pye (I : INV c lm g) {m e M : Nat} (hm : m < q_n g 1) (he : e < q_n g 20) (hM : M ≤ 24) : q_rp g m e M 0 = q_py g m e M := by
  have t0 : (0 : Int32).toInt = 0 := by decide
  unfold q_rp q_py
  by_cases p1 : g 47 e = 1
  · rw [if_pos p1]
    by_cases z : g 42 m = 0
    · rw [if_pos z, if_neg (fun w => w.2.2 (by rw [z]; decide))]
    · have z' : ¬ g 42 m ≤ 0 := by
        rcases I.tm m (I.m6 hm) with w | ⟨q1, _⟩
        · exact absurd w.1 z
        · intro w
          have := n_le.mp w
          rw [t0] at this
          omega
      rw [if_neg z, if_pos ⟨rfl, p1, z'⟩]
      by_cases p2 : q_hd g 1 (Int32.ofNat m) (g 27 0) (-4) = (-4 : Int32)
      · rw [if_pos p2, p2]
        by_cases p3 : q_hd g 0 (Int32.ofNat m) (g 27 0) (-4) = (-4 : Int32)
        · rw [if_pos p3, p3]
          have : ∀ n, py_n g m e (g 49 e) (g 52 e) (-4) (-4) n = 0 := by
            intro n
            induction n with
            | zero => rfl
            | succ n ih =>
              unfold py_n y_n
              rw [ih, if_pos rfl, if_pos rfl]
              rfl
          exact this M
        · rw [if_neg p3]
          have pt := q_hd_share I p3
          generalize q_hd g 0 (Int32.ofNat m) (g 27 0) (-4) = x at p3 pt
          have : ∀ n, n ≤ 24 → py_n g m e (g 49 e) (g 52 e) (-4) x n = p_n g m e x n := by
            intro n
            induction n with
            | zero => intro _; rfl
            | succ n ih =>
              intro hn
              unfold py_n y_n p_n
              rw [ih (by omega), if_pos rfl, if_neg p3, I.yh hm he z (by omega) pt]
          exact this M hM
      · rw [if_neg p2]
        have fx := q_hd_fixed I p2
        generalize q_hd g 1 (Int32.ofNat m) (g 27 0) (-4) = x at p2 fx
        have : ∀ n, n ≤ 24 → (py_n g m e (g 49 e) (g 52 e) x (q_hd g 0 (Int32.ofNat m) (g 27 0) (-4)) n).toInt = x.toInt * (n : Int) := by
          intro n
          induction n with
          | zero => intro _; show (0 : Int64).toInt = x.toInt * ((0 : Nat) : Int); rw [Int.natCast_zero, Int.mul_zero]; decide
          | succ n ih =>
            intro hn
            have i1 := ih (by omega)
            have mb := m_bd (a := x.toInt) (A := 9999) (b := (n : Int)) (B := 24) fx.1 fx.2 (by omega) (by omega)
            unfold py_n y_n
            rw [if_neg p2, l_add (by rw [i1, l_i]; omega) (by rw [i1, l_i]; omega), i1, l_i, Int.natCast_succ, Int.mul_add, Int.mul_one]
        apply Int64.toInt_inj.mp
        have mb := m_bd (a := x.toInt) (A := 9999) (b := (M : Int)) (B := 24) fx.1 fx.2 (by omega) (by omega)
        have tM : (Int32.ofNat M).toInt = (M : Int) := n_i (by omega)
        rw [this M hM, l_mul (by rw [l_i, l_i, tM]; omega) (by rw [l_i, l_i, tM]; omega), l_i, l_i, tM]
  · rw [if_neg p1, if_neg (fun w => p1 w.2.1)]
end CO
