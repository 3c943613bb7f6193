section CL
variable {c : Nat} {lm : Nat → Nat} {g : zG}
theorem l_al {s f x y : Int64} : (s + f + x) - y = s + ((f - y) + x) := by
  simp only [Int64.sub_eq_add_neg]
  ac_rfl
theorem row_row {g : zG} {k : Nat} {r r' : Nat → Int32} : z_row (z_row g k r) k r' = z_row g k r' := by
  funext x y
  unfold z_row
  by_cases q : x = k
  · rw [if_pos q, if_pos q]
  · rw [if_neg q, if_neg q, if_neg q]
theorem M_gB (I : INV c lm g) {G : zG} (hG : ∀ k, ¬ k = 26 → G k = g k) {m e n M : Nat} {y2 y4 y5 y7 y10 y11 y12 y13 y14 : Int32} {y8 y15 : Int64} {u18 u19 u20 u21 u22 u23 u24 u25 u26 u27 : Option Value} {Q : Int64 → zG → Prop} (hm : m < q_n g 1) (he : e < q_n g 20) (hn : n < M) (hM : M ≤ 24) (p2 : y2 = (2 : Int32)) (p7 : ¬ y7 = 0) (p14 : y14 ≤ Int32.ofNat n) (h10 : 0 ≤ y10.toInt ∧ y10.toInt ≤ 1000000) (h11 : 0 ≤ y11.toInt ∧ y11.toInt ≤ 60)
    (w : ∀ v18 v19 v21 v23 v25 v26 v27, MG z_pL 215 181 [some (.ref 27), some (.int (Int32.ofNat m)), some (.int y2), some (.int (Int32.ofNat M)), some (.int y4), some (.int y5), some (.int (Int32.ofNat e)), some (.int y7), some (.long y8), none, some (.int y10), some (.int y11), some (.int y12), some (.int y13), some (.int y14), some (.long (y15 + (if ¬ (w_n g m n ≤ 0) then (0 : Int64) else y4.toInt64))), none, some (.int (Int32.ofNat (n + 1))), v18, v19, none, v21, none, v23, none, v25, v26, v27] [] G Q) :
    MG z_pL 215 181 [some (.ref 27), some (.int (Int32.ofNat m)), some (.int y2), some (.int (Int32.ofNat M)), some (.int y4), some (.int y5), some (.int (Int32.ofNat e)), some (.int y7), some (.long y8), none, some (.int y10), some (.int y11), some (.int y12), some (.int y13), some (.int y14), some (.long y15), none, some (.int (Int32.ofNat n)), u18, u19, u20, u21, u22, u23, u24, u25, u26, u27] [] G Q := by
  have hm6 := I.m6 hm
  have he12 := I.e12 he
  have k0 := I.cnt.1
  have tn : (Int32.ofNat n).toInt = (n : Int) := n_i (by omega)
  have tx : (g 27 0 + Int32.ofNat n).toInt = (g 27 0).toInt + n := by rw [i_add (by omega) (by omega), tn]
  have ty : (y11 + Int32.ofNat n).toInt = y11.toInt + n := by rw [i_add (by omega) (by omega), tn]
  have e12 := a_m12 (x := g 27 0 + Int32.ofNat n) (by omega) (by omega)
  have ema : (12 : Int32) * Int32.ofNat m + Int32.ofNat (z_ix (g 27 0 + Int32.ofNat n) % 12) = Int32.ofNat (12 * m + z_ix (g 27 0 + Int32.ofNat n) % 12) := n_ma (a := 12)
  have i12 : z_ix (Int32.ofNat (12 * m + z_ix (g 27 0 + Int32.ofNat n) % 12)) = 12 * m + z_ix (g 27 0 + Int32.ofNat n) % 12 := n_ix (by omega)
  have im : z_ix (Int32.ofNat m) = m := n_ix (by omega)
  have ie : z_ix (Int32.ofNat e) = e := n_ix (by omega)
  have b12 := n_bd (i := 12 * m + z_ix (g 27 0 + Int32.ofNat n) % 12) (N := 72) (by omega) (by omega)
  have bm := n_bd (N := 6) hm6 (by omega)
  have bE := n_bd (N := 12) he12 (by omega)
  have m50 := I.be.at (k := 50) (a := 1) (b := 9999) (by decide) he
  have z0 : (0 : Int64).toInt = 0 := by decide
  have z1 : (1 : Int64).toInt = 1 := by decide
  have ha : 0 ≤ (y11 + Int32.ofNat n).toInt ∧ (y11 + Int32.ofNat n).toInt ≤ 100000 := by omega
  have n100 : ¬ ((100 : Int32) + (y11 + Int32.ofNat n)).toInt64 = 0 := by
    intro z
    have := congrArg Int64.toInt z
    rw [l_i, (a_100 ha).1] at this
    omega
  have wb := (a_worn h10 ha).2
  have nw : ¬ a_wn y10 (y11 + Int32.ofNat n) = 0 := by
    intro z
    have := congrArg Int64.toInt z
    omega
  have NP : ¬ (¬ (y2 = (2 : Int32)) ∨ ((y7 = 0) ∨ (¬ (y14 ≤ Int32.ofNat n)))) := by
    intro z
    rcases z with z | z | z
    · exact z p2
    · exact p7 z
    · exact z p14
  refine X_215_181 _ _ _ _ _ _ _ _ _ _ _ _ _ _ _ _ _ _ _ _ _ _ _ _ _ _ ?_
  rw [if_neg (fun z => by have := (n_lit_le (by omega) (by omega)).mp z; omega), if_neg NP, hG 27 (by decide), e12, ema, i12, im, ie, hG 32 (by decide), hG 48 (by decide), hG 50 (by decide), hG 31 (by decide), n_s]
  refine ⟨bE, fun _ => bE, fun m36 e36 => ⟨bE, n100, fun m39 e39 => ⟨?_, fun _ => b12, fun _ => bE, fun m49 e49 => ⟨bm, ?_⟩⟩⟩⟩
  · rw [show m39 = a_wn y10 (y11 + Int32.ofNat n) from e39]
    exact nw
  have e39 : m39 = a_wn y10 (y11 + Int32.ofNat n) := e39
  have e36 : m36 = 0 := by
    rw [e36, if_pos (l_le.mpr (by rw [z0, l_i]; omega))]
  have eC : (((m36 * (g 48 e).toInt64) + m39) - (1 : Int64)) / m39 = 0 := by
    rw [e36, e39, Int64.zero_mul, Int64.zero_add]
    have t : (a_wn y10 (y11 + Int32.ofNat n) - 1).toInt = (a_wn y10 (y11 + Int32.ofNat n)).toInt - 1 := by
      rw [l_sub (by omega) (by omega), z1]
    apply Int64.toInt_inj.mp
    rw [d_dv (by omega) (by omega), t, z0]
    exact Int.ediv_eq_zero_of_lt (by omega) (by omega)
  have e49 : m49 = (if ¬ (w_n g m n ≤ 0) then (0 : Int64) else y4.toInt64) := by
    rw [e49]
    by_cases q : w_n g m n ≤ 0
    · rw [if_neg (fun z => by rcases z with z | z; exact NP z.1; exact z.2 q), if_neg (fun z => z q)]
    · rw [if_pos (Or.inr ⟨NP, q⟩), if_pos q]
  rw [eC, e49, Int64.zero_mul, Int64.sub_zero, if_neg (by rw [p2]; decide)]
  exact w _ _ _ _ _ _ _
end CL
