section CM
variable {c : Nat} {lm : Nat → Nat} {g : zG}
def py_n (g : zG) (m e : Nat) (d a y12 y13 : Int32) : Nat → Int64
  | 0 => 0
  | n + 1 => py_n g m e d a y12 y13 n + y_n g m e d a y12 y13 n
theorem M_loopA (I : INV c lm g) {m e M : Nat} {y2 y4 y5 y7 y10 y11 y12 y13 y14 : Int32} {y8 st : Int64} {Q : Int64 → zG → Prop} (hm : m < q_n g 1) (he : e < q_n g 20) (hM : M ≤ 24) (P : ∀ n, n < M → ¬ (y2 = (2 : Int32)) ∨ ((y7 = 0) ∨ (¬ (y14 ≤ Int32.ofNat n)))) (h10 : 0 ≤ y10.toInt ∧ y10.toInt ≤ 1000000) (h11 : 0 ≤ y11.toInt ∧ y11.toInt ≤ 60) (h13 : y12 = (-4 : Int32) → ¬ y13 = (-4 : Int32) → 1 ≤ y13.toInt)
    (q : Q (st + f_n g m e y10 y11 (Int32.ofNat M) y4 M) (z_row g 26 (z_enc (if y2 = 0 ∧ ¬ y7 = 0 ∧ ¬ (g 42 m ≤ 0) then py_n g m e y10 y11 y12 y13 M else 0)))) :
    MG z_pL 215 181 [some (.ref 27), some (.int (Int32.ofNat m)), some (.int y2), some (.int (Int32.ofNat M)), some (.int y4), some (.int y5), some (.int (Int32.ofNat e)), some (.int y7), some (.long y8), none, some (.int y10), some (.int y11), some (.int y12), some (.int y13), some (.int y14), some (.long st), none, some (.int (0 : Int32)), none, none, none, none, none, none, none, none, none, none] [] (z_row g 26 (z_enc (0 : Int64))) Q := by
  have L := z_lp (N := M) (G := fun n => ∀ u18 u19 u20 u21 u22 u23 u24 u25 u26 u27, MG z_pL 215 181 [some (.ref 27), some (.int (Int32.ofNat m)), some (.int y2), some (.int (Int32.ofNat M)), some (.int y4), some (.int y5), some (.int (Int32.ofNat e)), some (.int y7), some (.long y8), none, some (.int y10), some (.int y11), some (.int y12), some (.int y13), some (.int y14), some (.long (st + f_n g m e y10 y11 (Int32.ofNat M) y4 n)), none, some (.int (Int32.ofNat n)), u18, u19, u20, u21, u22, u23, u24, u25, u26, u27] [] (z_row g 26 (z_enc (if y2 = 0 ∧ ¬ y7 = 0 ∧ ¬ (g 42 m ≤ 0) then py_n g m e y10 y11 y12 y13 n else 0))) Q) ?_ ?_ none none none none none none none none none none
  · have e0 : st + f_n g m e y10 y11 (Int32.ofNat M) y4 0 = st := Int64.add_zero st
    have e1 : (if y2 = 0 ∧ ¬ y7 = 0 ∧ ¬ (g 42 m ≤ 0) then py_n g m e y10 y11 y12 y13 0 else (0 : Int64)) = 0 := ite_self (0 : Int64)
    rw [e0, e1] at L
    exact L
  · intro u18 u19 u20 u21 u22 u23 u24 u25 u26 u27
    refine X_215_181 _ _ _ _ _ _ _ _ _ _ _ _ _ _ _ _ _ _ _ _ _ _ _ _ _ _ ?_
    rw [if_pos ((n_lit_le (by omega) (by omega)).mpr (Nat.le_refl _))]
    exact q
  · intro n hn w u18 u19 u20 u21 u22 u23 u24 u25 u26 u27
    refine M_gA I (fun k hk => z_row_ne hk) hm he hn hM (P n hn) h10 h11 h13 (fun v18 v19 v21 v23 v25 v26 v27 => ?_)
    have w := w v18 v19 none v21 none v23 none v25 v26 v27
    have ef : f_n g m e y10 y11 (Int32.ofNat M) y4 (n + 1) = (f_n g m e y10 y11 (Int32.ofNat M) y4 n - (c_n g m e y10 y11 n).toInt64 * (g 31 m).toInt64) + (if ¬ ((d_n g m e n).toInt32 ≤ g 50 e) then (0 : Int64) else y4.toInt64) := if_neg (fun z => by have := (n_lit_le (by omega) (by omega)).mp z; omega)
    rw [l_al, ← ef]
    by_cases B : y2 = 0 ∧ ¬ y7 = 0 ∧ ¬ (g 42 m ≤ 0)
    · rw [if_pos B] at w
      rw [if_pos B, if_pos B, row_row, z_row_at, z_dec_enc]
      exact w
    · rw [if_neg B] at w
      rw [if_neg B, if_neg B]
      exact w
theorem M_loopB (I : INV c lm g) {m e M : Nat} {y2 y4 y5 y7 y10 y11 y12 y13 y14 : Int32} {y8 st : Int64} {Q : Int64 → zG → Prop} (hm : m < q_n g 1) (he : e < q_n g 20) (hM : M ≤ 24) (p2 : y2 = (2 : Int32)) (p7 : ¬ y7 = 0) (h10 : 0 ≤ y10.toInt ∧ y10.toInt ≤ 1000000) (h11 : 0 ≤ y11.toInt ∧ y11.toInt ≤ 60) (h13 : y12 = (-4 : Int32) → ¬ y13 = (-4 : Int32) → 1 ≤ y13.toInt)
    (q : Q (st + f_n g m e y10 y11 y14 y4 M) (z_row g 26 (z_enc 0))) :
    MG z_pL 215 181 [some (.ref 27), some (.int (Int32.ofNat m)), some (.int y2), some (.int (Int32.ofNat M)), some (.int y4), some (.int y5), some (.int (Int32.ofNat e)), some (.int y7), some (.long y8), none, some (.int y10), some (.int y11), some (.int y12), some (.int y13), some (.int y14), some (.long st), none, some (.int (0 : Int32)), none, none, none, none, none, none, none, none, none, none] [] (z_row g 26 (z_enc (0 : Int64))) Q := by
  have nB : ¬ (y2 = 0 ∧ ¬ y7 = 0 ∧ ¬ (g 42 m ≤ 0)) := by rw [p2]; exact fun z => absurd z.1 (by decide)
  have L := z_lp (N := M) (G := fun n => ∀ u18 u19 u20 u21 u22 u23 u24 u25 u26 u27, MG z_pL 215 181 [some (.ref 27), some (.int (Int32.ofNat m)), some (.int y2), some (.int (Int32.ofNat M)), some (.int y4), some (.int y5), some (.int (Int32.ofNat e)), some (.int y7), some (.long y8), none, some (.int y10), some (.int y11), some (.int y12), some (.int y13), some (.int y14), some (.long (st + f_n g m e y10 y11 y14 y4 n)), none, some (.int (Int32.ofNat n)), u18, u19, u20, u21, u22, u23, u24, u25, u26, u27] [] (z_row g 26 (z_enc 0)) Q) ?_ ?_ none none none none none none none none none none
  · have e0 : st + f_n g m e y10 y11 y14 y4 0 = st := Int64.add_zero st
    rw [e0] at L
    exact L
  · intro u18 u19 u20 u21 u22 u23 u24 u25 u26 u27
    refine X_215_181 _ _ _ _ _ _ _ _ _ _ _ _ _ _ _ _ _ _ _ _ _ _ _ _ _ _ ?_
    rw [if_pos ((n_lit_le (by omega) (by omega)).mpr (Nat.le_refl _))]
    exact q
  · intro n hn w u18 u19 u20 u21 u22 u23 u24 u25 u26 u27
    by_cases p14 : y14 ≤ Int32.ofNat n
    · refine M_gB I (fun k hk => z_row_ne hk) hm he hn hM p2 p7 p14 h10 h11 (fun v18 v19 v21 v23 v25 v26 v27 => ?_)
      have w := w v18 v19 none v21 none v23 none v25 v26 v27
      have ef : f_n g m e y10 y11 y14 y4 (n + 1) = f_n g m e y10 y11 y14 y4 n + (if ¬ (w_n g m n ≤ 0) then (0 : Int64) else y4.toInt64) := if_pos p14
      rw [ef, ← Int64.add_assoc] at w
      exact w
    · refine M_gA I (fun k hk => z_row_ne hk) hm he hn hM (Or.inr (Or.inr p14)) h10 h11 h13 (fun v18 v19 v21 v23 v25 v26 v27 => ?_)
      have w := w v18 v19 none v21 none v23 none v25 v26 v27
      have ef : f_n g m e y10 y11 y14 y4 (n + 1) = (f_n g m e y10 y11 y14 y4 n - (c_n g m e y10 y11 n).toInt64 * (g 31 m).toInt64) + (if ¬ ((d_n g m e n).toInt32 ≤ g 50 e) then (0 : Int64) else y4.toInt64) := if_neg p14
      rw [l_al, ← ef, if_neg nB]
      exact w
end CM
