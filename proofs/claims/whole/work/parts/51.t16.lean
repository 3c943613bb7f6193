/-! sheet -/
def g_sh (g : zG) (n : Nat) (la le : Int32) (m : Nat) : zG := fun k i => if k = 86 ∧ i = n then la else if k = 87 ∧ i = n then le else if k = 88 ∧ 48 * n ≤ i ∧ i < 48 * n + m then 0 else g k i
theorem g_sh_ne {g : zG} {n m : Nat} {la le : Int32} : ∀ k, [86, 87, 88].contains k = false → g_sh g n la le m k = g k := by
  intro k hk
  simp at hk
  funext i
  unfold g_sh
  rw [if_neg (by omega), if_neg (by omega), if_neg (by omega)]
theorem RC.sht {lm : Nat → Nat} {g : zG} {h : zH} (R : RC lm g h) {n s : Nat} {la le : Int32} (hn : n < 4) (ts : z_tg h s = 8) (fr : ∀ i, i < 4 → ¬ z_rv h 4 i = some s) (v0 : z_iv h s 0 = la) (vz : ∀ j, z_iv h (s + 1) j = 0) (vl : z_ln h (s + 1) = z_ix le) (hl : ¬ la = -4) : RC lm (g_sh g n la le 48) (z_sR h 4 n (some s)) := by
  have ne := g_sh_ne (g := g) (n := n) (m := 48) (la := la) (le := le)
  have n27 : g_sh g n la le 48 27 = g 27 := ne 27 rfl
  have qn : ∀ j, q_n (g_sh g n la le 48) j = q_n g j := fun j => by unfold q_n; rw [n27]
  have rO : ∀ x, ¬ x = 4 → z_rv (z_sR h 4 n (some s)) x = z_rv h x := fun x hx => sR_ne hx
  have r4 : ∀ i, ¬ i = n → z_rv (z_sR h 4 n (some s)) 4 i = z_rv h 4 i := fun i hi => sR_nj (by omega)
  have r4n : z_rv (z_sR h 4 n (some s)) 4 n = some s := sR_at
  have W2 : CW (z_sR h 4 n (some s)) := R.w.sR (t := 105) R.f.t4 rfl (fun x q => by injection q with q; subst q; exact ts) (show ¬ (8 : Nat) = 0 by decide)
  have F2 : FX (z_sR h 4 n (some s)) := R.f
  have B2 : BD (z_sR h 4 n (some s)) := by
    have := R.b
    unfold BD
    rw [rO 0 (by omega)]
    exact this
  unfold RC
  rw [qn, qn, qn, qn]
  refine ⟨W2, F2, B2, ?_, ?_, ?_⟩
  · obtain ⟨j1, j2, j3, j4⟩ := R.j
    unfold IJ
    rw [rO 1 (by omega), rO 2 (by omega), rO 3 (by omega)]
    refine ⟨j1, j2, j3, fun p q x hp hq e1 e2 => ?_⟩
    by_cases c1 : p = n
    · by_cases c2 : q = n
      · omega
      · exfalso
        rw [c1, r4n] at e1
        rw [r4 q c2] at e2
        injection e1 with e1
        subst e1
        exact fr q hq e2
    · by_cases c2 : q = n
      · exfalso
        rw [c2, r4n] at e2
        rw [r4 p c1] at e1
        injection e2 with e2
        subst e2
        exact fr p hp e1
      · rw [r4 p c1] at e1
        rw [r4 q c2] at e2
        exact j4 p q x hp hq e1 e2
  · intro k i x j L
    show z_iv h x j = g_sh g n la le 48 k i
    have key : kd k = 7 ∨ kd k = 8 ∨ (¬ kd k = 7 ∧ ¬ kd k = 8) := by omega
    rcases key with q | q | ⟨q1, q2⟩
    · have k86 := x_kd 7 86 (by decide +kernel) (by decide) k q
      unfold Loc at L
      rw [q] at L
      obtain ⟨l1, l2, l3⟩ := L
      subst l3
      unfold g_sh
      by_cases w : i = n
      · subst w
        rw [r4n] at l2
        injection l2 with l2
        subst l2
        rw [if_pos ⟨k86, rfl⟩]
        exact v0
      · rw [r4 i w] at l2
        rw [if_neg (by omega), if_neg (by omega), if_neg (by omega), k86]
        exact R.f86 l1 l2
    · have k88 := x_kd 8 88 (by decide +kernel) (by decide) k q
      unfold Loc at L
      rw [q] at L
      obtain ⟨p, s', l1, l2, l3, l4, l5⟩ := L
      subst l3
      unfold g_sh
      rw [if_neg (by omega), if_neg (by omega)]
      by_cases w : p = n
      · subst w
        rw [r4n] at l2
        injection l2 with l2
        subst l2
        rw [if_pos (by omega)]
        exact vz j
      · rw [r4 p w] at l2
        rw [if_neg (by omega), k88, l5]
        exact R.f88 l1 l2 l4
    · have L' : Loc (q_n g 1) (q_n g 20) (q_n g 55) (q_n g 45) lm h k i x j := by
        unfold Loc at L ⊢
        generalize hkk : kd k = kk at L q1 q2 ⊢
        match kk, L with
        | 0, L =>
          rcases L with w | w | w | ⟨w, w2⟩
          · exact Or.inl w
          · exact Or.inr (Or.inl w)
          · exact Or.inr (Or.inr (Or.inl w))
          · rw [rO 0 (by omega)] at w
            exact Or.inr (Or.inr (Or.inr ⟨w, w2⟩))
        | 1, L => exact L
        | 2, L =>
          obtain ⟨B, e, w⟩ := L
          rw [rO 0 (by omega)] at e
          exact ⟨B, e, w⟩
        | 3, L => rw [Lk, rO 1 (by omega)] at L; exact L
        | 4, L =>
          obtain ⟨m, a, hm, e, w⟩ := L
          rw [rO 1 (by omega)] at e
          exact ⟨m, a, hm, e, w⟩
        | 5, L => rw [Lk, rO 2 (by omega)] at L; exact L
        | 6, L => rw [Lk, rO 3 (by omega)] at L; exact L
        | 7, L => exact absurd rfl q1
        | 8, L => exact absurd rfl q2
        | kk + 9, L => exact L.elim
      have hk : [86, 87, 88].contains k = false := by
        rcases Bool.eq_false_or_eq_true ([86, 87, 88].contains k) with w | w
        · exfalso
          have w2 : k = 86 ∨ k = 87 ∨ k = 88 := by simp at w; omega
          rcases w2 with w2 | w2 | w2 <;> subst w2
          · exact q1 rfl
          · unfold Loc at L'
            exact L'
          · exact q2 rfl
        · exact w
      rw [ne k hk]
      exact R.i k i x j L'
  · obtain ⟨x1, x2, x3, x4, x5, x6, x7, x8⟩ := R.x
    have lt : ∀ x, q_lt (g_sh g n la le 48) x = q_lt g x := by intro x; unfold q_lt; rw [qn, ne 46 rfl]
    have big : ∀ {x t'}, z_tg h x = t' → (t' = 4 ∨ t' = 5) → z_rv (z_sR h 4 n (some s)) x = z_rv h x := fun e q => rO _ (by have := R.f.ge e (by omega); omega)
    have tr : ∀ o k p, (k = 42 ∨ k = 80) → TrR (z_iv h) o g k p → TrR (z_iv h) o (g_sh g n la le 48) k p := by
      intro o k p hk q
      unfold TrR at q ⊢
      rcases hk with r | r <;> subst r
      · rw [ne 42 rfl, ne (42 + 1) rfl, ne (42 + 2) rfl, ne (42 + 3) rfl]; exact q
      · rw [ne 80 rfl, ne (80 + 1) rfl, ne (80 + 2) rfl, ne (80 + 3) rfl]; exact q
    unfold RX
    rw [qn, qn, qn, rO 1 (by omega), rO 2 (by omega), rO 3 (by omega), ne 71 rfl]
    refine ⟨x1, x2, x3, fun m a hm ha => by rw [lt, big (R.w.mt R.f ha) (by omega)]; exact x4 m a hm ha, fun k c hk hc => by rw [big (R.w.rt R.f hc) (by omega)]; exact x5 k c hk hc, fun p hp => ?_, fun m a hm ha => by rw [big (R.w.mt R.f ha) (by omega)]; exact tr _ _ _ (by omega) (x7 m a hm ha), fun k c hk hc => by rw [big (R.w.rt R.f hc) (by omega)]; exact tr _ _ _ (by omega) (x8 k c hk hc)⟩
    by_cases w : p = n
    · subst w
      refine Or.inr ⟨?_, s, r4n, ?_⟩
      · unfold g_sh; rw [if_pos ⟨rfl, rfl⟩]; exact hl
      · rw [show g_sh g p la le 48 87 p = le from by unfold g_sh; rw [if_neg (by omega), if_pos ⟨rfl, rfl⟩]]
        exact vl
    · rw [r4 p w, show g_sh g n la le 48 86 p = g 86 p from by unfold g_sh; rw [if_neg (by omega), if_neg (by omega), if_neg (by omega)], show g_sh g n la le 48 87 p = g 87 p from by unfold g_sh; rw [if_neg (by omega), if_neg (by omega), if_neg (by omega)]]
      exact x6 p hp
