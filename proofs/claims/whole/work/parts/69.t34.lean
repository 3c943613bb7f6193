/-! choices: a month of the reference -/
section CK
variable {c : Nat} {lm : Nat → Nat} {g : zG}
theorem INV.c64 (I : INV c lm g) {m e n : Nat} {d a : Int32} (hm : m < q_n g 1) (he : e < q_n g 20) (hd : 0 ≤ d.toInt ∧ d.toInt ≤ 1000000) (ha : 0 ≤ a.toInt ∧ a.toInt ≤ 60) (hn : n < 24) : a_cl (s_n g m e n).toInt64 (g 48 e) d (a + Int32.ofNat n) = (c_n g m e d a n).toInt64 := by
  have cb := I.cnb (n := n) hm he hd ha hn
  apply Int64.toInt_inj.mp
  unfold c_n
  rw [l_i, i_l (by omega) (by omega)]
theorem INV.s64 (I : INV c lm g) {m e n : Nat} (hm : m < q_n g 1) (he : e < q_n g 20) : (if d_n g m e n ≤ (g 50 e).toInt64 then d_n g m e n else (g 50 e).toInt64) = (s_n g m e n).toInt64 := by
  obtain ⟨s1, _, _⟩ := I.mnn (n := n) hm he
  have db := I.dnb (n := n) hm he
  have mb := I.be.at (k := 50) (a := 1) (b := 9999) (by decide) he
  apply Int64.toInt_inj.mp
  rw [l_i, ← s1]
  by_cases q : d_n g m e n ≤ (g 50 e).toInt64
  · rw [if_pos q, i_l (by omega) (by omega)]
  · rw [if_neg q, i_l (by rw [l_i]; omega) (by rw [l_i]; omega)]
def y_n (g : zG) (m e : Nat) (d a y12 y13 : Int32) (n : Nat) : Int64 := if y12 = (-4 : Int32) then (if y13 = (-4 : Int32) then (0 : Int64) else (if (0 : Int64) ≤ (o_n g m e n - (c_n g m e d a n).toInt64) then (((o_n g m e n - (c_n g m e d a n).toInt64) * (g 31 m).toInt64) / y13.toInt64) else (0 : Int64))) else y12.toInt64
theorem M_gA (I : INV c lm g) {G : zG} (hG : ∀ k, ¬ k = 26 → G k = g k) {m e n M : Nat} {y2 y4 y5 y7 y10 y11 y12 y13 y14 : Int32} {y8 y15 : Int64} {u18 u19 u20 u21 u22 u23 u24 u25 u26 u27 : Option Value} {Q : Int64 → zG → Prop} (hm : m < q_n g 1) (he : e < q_n g 20) (hn : n < M) (hM : M ≤ 24) (P : ¬ (y2 = (2 : Int32)) ∨ ((y7 = 0) ∨ (¬ (y14 ≤ Int32.ofNat n)))) (h10 : 0 ≤ y10.toInt ∧ y10.toInt ≤ 1000000) (h11 : 0 ≤ y11.toInt ∧ y11.toInt ≤ 60) (h13 : y12 = (-4 : Int32) → ¬ y13 = (-4 : Int32) → 1 ≤ y13.toInt)
    (w : ∀ v18 v19 v21 v23 v25 v26 v27, MG z_pL 215 181 [some (.ref 27), some (.int (Int32.ofNat m)), some (.int y2), some (.int (Int32.ofNat M)), some (.int y4), some (.int y5), some (.int (Int32.ofNat e)), some (.int y7), some (.long y8), none, some (.int y10), some (.int y11), some (.int y12), some (.int y13), some (.int y14), some (.long ((y15 + (if ¬ ((d_n g m e n).toInt32 ≤ g 50 e) then (0 : Int64) else y4.toInt64)) - (c_n g m e y10 y11 n).toInt64 * (g 31 m).toInt64)), none, some (.int (Int32.ofNat (n + 1))), v18, v19, none, v21, none, v23, none, v25, v26, v27] [] (if y2 = 0 ∧ ¬ y7 = 0 ∧ ¬ (g 42 m ≤ 0) then z_row G 26 (z_enc (z_dec (G 26) + y_n g m e y10 y11 y12 y13 n)) else G) Q) :
    MG z_pL 215 181 [some (.ref 27), some (.int (Int32.ofNat m)), some (.int y2), some (.int (Int32.ofNat M)), some (.int y4), some (.int y5), some (.int (Int32.ofNat e)), some (.int y7), some (.long y8), none, some (.int y10), some (.int y11), some (.int y12), some (.int y13), some (.int y14), some (.long y15), none, some (.int (Int32.ofNat n)), u18, u19, u20, u21, u22, u23, u24, u25, u26, u27] [] G Q := by
  have hm6 := I.m6 hm
  have he12 := I.e12 he
  have k0 := I.cnt.1
  have tn : (Int32.ofNat n).toInt = (n : Int) := n_i (by omega)
  have tx : (g 27 0 + Int32.ofNat n).toInt = (g 27 0).toInt + n := by rw [i_add (by omega) (by omega), tn]
  have ty : (y11 + Int32.ofNat n).toInt = y11.toInt + n := by rw [i_add (by omega) (by omega), tn]
  have e12 := a_m12 (x := g 27 0 + Int32.ofNat n) (by omega) (by omega)
  have ema : (12 : Int32) * Int32.ofNat m + Int32.ofNat (z_ix (g 27 0 + Int32.ofNat n) % 12) = Int32.ofNat (12 * m + z_ix (g 27 0 + Int32.ofNat n) % 12) := n_ma (a := 12)
  have i12 : z_ix (Int32.ofNat (12 * m + z_ix (g 27 0 + Int32.ofNat n) % 12)) = 12 * m + z_ix (g 27 0 + Int32.ofNat n) % 12 := n_ix (by omega)
  have im : z_ix (Int32.ofNat m) = m := n_ix (by omega)
  have ie : z_ix (Int32.ofNat e) = e := n_ix (by omega)
  have b12 := n_bd (i := 12 * m + z_ix (g 27 0 + Int32.ofNat n) % 12) (N := 72) (by omega) (by omega)
  have bm := n_bd (N := 6) hm6 (by omega)
  have bE := n_bd (N := 12) he12 (by omega)
  have l48 := I.be.at (k := 48) (a := 1) (b := 99) (by decide) he
  have z0 : (0 : Int64).toInt = 0 := by decide
  have nl : ¬ (g 48 e).toInt64 = 0 := by
    intro z
    have := congrArg Int64.toInt z
    rw [l_i] at this
    omega
  have ha : 0 ≤ (y11 + Int32.ofNat n).toInt ∧ (y11 + Int32.ofNat n).toInt ≤ 100000 := by omega
  have n100 : ¬ ((100 : Int32) + (y11 + Int32.ofNat n)).toInt64 = 0 := by
    intro z
    have := congrArg Int64.toInt z
    rw [l_i, (a_100 ha).1] at this
    omega
  have nw : ¬ a_wn y10 (y11 + Int32.ofNat n) = 0 := by
    intro z
    have := congrArg Int64.toInt z
    have := (a_worn h10 ha).2.1
    omega
  obtain ⟨_, s2, _⟩ := I.mnn (n := n) hm he
  refine X_215_181 _ _ _ _ _ _ _ _ _ _ _ _ _ _ _ _ _ _ _ _ _ _ _ _ _ _ ?_
  rw [if_neg (fun z => by have := (n_lit_le (by omega) (by omega)).mp z; omega), if_pos P, hG 27 (by decide), e12, ema, i12, im, ie, hG 32 (by decide), hG 30 (by decide), hG 48 (by decide), hG 50 (by decide), hG 31 (by decide), hG 42 (by decide), hG 43 (by decide), hG 44 (by decide), n_s]
  refine ⟨bE, b12, bm, nl, bE, fun _ => bE, fun m73 e73 => ⟨bE, n100, fun m76 e76 => ⟨?_, fun _ => b12, fun _ => bE, fun m86 e86 => ⟨bm, ?_⟩⟩⟩⟩
  · rw [show m76 = a_wn y10 (y11 + Int32.ofNat n) from e76]
    exact nw
  have e73 : m73 = (s_n g m e n).toInt64 := e73.trans (I.s64 hm he)
  have e76 : m76 = a_wn y10 (y11 + Int32.ofNat n) := e76
  have eC : (((m73 * (g 48 e).toInt64) + m76) - (1 : Int64)) / m76 = (c_n g m e y10 y11 n).toInt64 := by
    rw [e73, e76]
    exact I.c64 hm he h10 h11 (by omega)
  have e86 : m86 = (if ¬ ((d_n g m e n).toInt32 ≤ g 50 e) then (0 : Int64) else y4.toInt64) := by
    rw [e86]
    by_cases q : (d_n g m e n).toInt32 ≤ g 50 e
    · have q' : ¬ ¬ d_n g m e n ≤ (g 50 e).toInt64 := fun z => (s2.mp z) q
      rw [if_neg (fun z => by rcases z with z | z; exact q' z.2; exact z.1 P), if_neg (fun z => z q)]
    · rw [if_pos (Or.inl ⟨P, s2.mpr q⟩), if_pos q]
  rw [eC, e86]
  by_cases p0 : y2 = 0
  · rw [if_pos p0]
    by_cases p7 : y7 = 0
    · rw [if_pos p7]
      have w := w
      rw [if_neg (show ¬ (y2 = 0 ∧ ¬ y7 = 0 ∧ ¬ (g 42 m ≤ 0)) from fun z => z.2.1 p7)] at w
      exact w _ _ _ _ _ _ _
    · rw [if_neg p7]
      refine ⟨bm, ?_⟩
      by_cases p4 : g 42 m ≤ 0
      · rw [if_pos p4]
        have w := w
        rw [if_neg (show ¬ (y2 = 0 ∧ ¬ y7 = 0 ∧ ¬ (g 42 m ≤ 0)) from fun z => z.2.2 p4)] at w
        exact w _ _ _ _ _ _ _
      · rw [if_neg p4]
        rcases I.tm m hm6 with z | ⟨q1, q2, q3, _⟩
        · exact absurd (show g 42 m ≤ 0 by rw [z.1]; decide) p4
        have q2 : 1 ≤ (g 43 m).toInt ∧ (g 43 m).toInt ≤ 99 := q2
        have nd := (a_old (s := 0) (l := 1) (s2 := g 42 m) (l2 := g 43 m) (c := g 44 m) (by decide) (by decide) q1 q2 q3).2.2
        refine ⟨bE, bm, bm, bm, nd, fun m94 e94 => ⟨fun _ _ _ => bm, fun a1 a2 _ z => ?_, fun m101 e101 => ?_⟩⟩
        · have := congrArg Int64.toInt z
          rw [l_i] at this
          have := h13 a1 a2
          omega
        · have e94 : m94 = o_n g m e n := by rw [e94, e73]; rfl
          rw [e94] at e101
          have e101 : m101 = y_n g m e y10 y11 y12 y13 n := e101
          rw [e101]
          have w := w
          rw [if_pos (show y2 = 0 ∧ ¬ y7 = 0 ∧ ¬ (g 42 m ≤ 0) from ⟨p0, p7, p4⟩)] at w
          exact w _ _ _ _ _ _ _
  · rw [if_neg p0]
    have w := w
    rw [if_neg (show ¬ (y2 = 0 ∧ ¬ y7 = 0 ∧ ¬ (g 42 m ≤ 0)) from fun z => p0 z.1)] at w
    exact w _ _ _ _ _ _ _
end CK
