/-! slots, rows behind the counts, counts -/
section CT
variable {lm : Nat → Nat} {g g2 : zG} {h : zH}
/-- worlds that are alike where the class looks -/
theorem RC.gw (R : RC lm g h) (n1 : g2 27 1 = g 27 1) (n20 : g2 27 20 = g 27 20) (n55 : g2 27 55 = g 27 55) (n45 : g2 27 45 = g 27 45)
    (el : ∀ k i c j, Loc (q_n g 1) (q_n g 20) (q_n g 55) (q_n g 45) lm h k i c j → g2 k i = g k i)
    (e46 : ∀ i, i < q_n g 20 → g2 46 i = g 46 i) (er : ∀ k i, (k = 71 ∨ (80 ≤ k ∧ k ≤ 83)) → i < q_n g 55 → g2 k i = g k i) (em : ∀ k i, 42 ≤ k → k ≤ 45 → i < q_n g 1 → g2 k i = g k i) (es : ∀ k i, (k = 86 ∨ k = 87) → i < 4 → g2 k i = g k i) : RC lm g2 h := by
  have q1 : q_n g2 1 = q_n g 1 := by unfold q_n; rw [n1]
  have q20 : q_n g2 20 = q_n g 20 := by unfold q_n; rw [n20]
  have q55 : q_n g2 55 = q_n g 55 := by unfold q_n; rw [n55]
  have q45 : q_n g2 45 = q_n g 45 := by unfold q_n; rw [n45]
  unfold RC
  rw [q1, q20, q55, q45]
  refine ⟨R.w, R.f, R.b, R.j, fun k i c j L => (R.i k i c j L).trans (el k i c j L).symm, ?_⟩
  obtain ⟨x1, x2, x3, x4, x5, x6, x7, x8⟩ := R.x
  have lt : ∀ x, q_lt g2 x = q_lt g x := by intro x; unfold q_lt; rw [q20]; exact s_lat_cg e46
  unfold RX
  rw [q1, q20, q55]
  refine ⟨x1, x2, x3, fun m a hm ha => by rw [lt]; exact x4 m a hm ha, fun k c hk hc => by rw [er 71 k (by omega) hk]; exact x5 k c hk hc, fun n hn => by rw [es 86 n (by omega) hn, es 87 n (by omega) hn]; exact x6 n hn, fun m a hm ha => ?_, fun k c hk hc => ?_⟩
  · have w := x7 m a hm ha
    unfold TrR at w ⊢
    rw [em 42 m (by omega) (by omega) hm, em (42 + 1) m (by omega) (by omega) hm, em (42 + 2) m (by omega) (by omega) hm, em (42 + 3) m (by omega) (by omega) hm]
    exact w
  · have w := x8 k c hk hc
    unfold TrR at w ⊢
    rw [er 80 k (by omega) hk, er (80 + 1) k (by omega) hk, er (80 + 2) k (by omega) hk, er (80 + 3) k (by omega) hk]
    exact w
/-- a slot of a table that is not counted yet -/
theorem RC.slot (R : RC lm g h) {t i b : Nat} (ht : (t = 1 ∧ q_n g 1 ≤ i ∧ z_tg h b = 4) ∨ (t = 3 ∧ q_n g 55 ≤ i ∧ z_tg h b = 5)) : RC lm g (z_sR h t i (some b)) := by
  have rO : ∀ x, ¬ x = t → z_rv (z_sR h t i (some b)) x = z_rv h x := fun x hx => sR_ne hx
  have r1 : ∀ j, j < q_n g 1 → z_rv (z_sR h t i (some b)) 1 j = z_rv h 1 j := fun j hj => sR_nj (by omega)
  have r3 : ∀ j, j < q_n g 55 → z_rv (z_sR h t i (some b)) 3 j = z_rv h 3 j := fun j hj => sR_nj (by omega)
  have W2 : CW (z_sR h t i (some b)) := by
    rcases ht with ⟨rfl, -, tb⟩ | ⟨rfl, -, tb⟩
    · exact R.w.sR (t := 102) R.f.t1 rfl (fun x q => by injection q with q; subst q; exact tb) (show ¬ (4 : Nat) = 0 by decide)
    · exact R.w.sR (t := 104) R.f.t3 rfl (fun x q => by injection q with q; subst q; exact tb) (show ¬ (5 : Nat) = 0 by decide)
  refine ⟨W2, R.f, ?_, ?_, ?_, ?_⟩
  · have := R.b
    unfold BD
    rw [rO 0 (by omega)]
    exact this
  · obtain ⟨j1, j2, j3, j4⟩ := R.j
    unfold IJ
    rw [rO 2 (by omega), rO 4 (by omega)]
    refine ⟨fun m n a hm hn e1 e2 => ?_, j2, fun m n a hm hn e1 e2 => ?_, j4⟩
    · rw [r1 m hm] at e1
      rw [r1 n hn] at e2
      exact j1 m n a hm hn e1 e2
    · rw [r3 m hm] at e1
      rw [r3 n hn] at e2
      exact j3 m n a hm hn e1 e2
  · intro k i' c j L
    have L' := L.eq (h := h) (by rw [rO 0 (by omega)]) r1 (fun i _ => by rw [rO 2 (by omega)]) r3 (fun i _ => by rw [rO 4 (by omega)])
    exact R.i k i' c j L'
  · obtain ⟨x1, x2, x3, x4, x5, x6, x7, x8⟩ := R.x
    have big : ∀ {x t'}, z_tg h x = t' → (t' = 4 ∨ t' = 5) → z_rv (z_sR h t i (some b)) x = z_rv h x := fun e q => rO _ (by have := R.f.ge e (by omega); omega)
    unfold RX
    rw [rO 2 (by omega), rO 4 (by omega)]
    refine ⟨fun m hm => by rw [r1 m hm]; exact x1 m hm, x2, fun k hk => by rw [r3 k hk]; exact x3 k hk, fun m a hm ha => ?_, fun k c hk hc => ?_, x6, fun m a hm ha => ?_, fun k c hk hc => ?_⟩
    · rw [r1 m hm] at ha
      rw [big (R.w.mt R.f ha) (by omega)]
      exact x4 m a hm ha
    · rw [r3 k hk] at hc
      rw [big (R.w.rt R.f hc) (by omega)]
      exact x5 k c hk hc
    · rw [r1 m hm] at ha
      rw [big (R.w.mt R.f ha) (by omega)]
      exact x7 m a hm ha
    · rw [r3 k hk] at hc
      rw [big (R.w.rt R.f hc) (by omega)]
      exact x8 k c hk hc
theorem LocR {nm ne nr nl : Nat} {lm : Nat → Nat} {h : zH} {k i c j : Nat} (L : Loc nm ne (nr + 1) nl lm h k i c j) : (kd k = 6 ∧ i = nr ∧ z_rv h 3 nr = some c ∧ j < 10 ∧ fr j = k) ∨ Loc nm ne nr nl lm h k i c j := by
  unfold Loc at L ⊢
  generalize kd k = n at L ⊢
  match n, L with
  | 0, L => exact Or.inr L
  | 1, L => exact Or.inr L
  | 2, L => exact Or.inr L
  | 3, L => exact Or.inr L
  | 4, L => exact Or.inr L
  | 5, L => exact Or.inr L
  | 6, L =>
    by_cases q : i = nr
    · subst q; exact Or.inl ⟨rfl, rfl, L.2.1, L.2.2⟩
    · exact Or.inr ⟨by have := L.1; omega, L.2⟩
  | 7, L => exact Or.inr L
  | 8, L => exact Or.inr L
  | n + 9, L => exact L.elim
theorem LocM {nm ne nr nl : Nat} {lm : Nat → Nat} {h : zH} {k i c j : Nat} (L : Loc (nm + 1) ne nr nl lm h k i c j) : (kd k = 3 ∧ i = nm ∧ z_rv h 1 nm = some c ∧ j < 9 ∧ fm j = k) ∨ (kd k = 4 ∧ ∃ a, z_rv h 1 nm = some a ∧ ((c = a + 1 ∧ k = 32 ∧ j < 12 ∧ i = 12 * nm + j) ∨ (c = a + 2 ∧ k = 35 ∧ j < 8 ∧ i = 8 * nm + j) ∨ (c = a + 3 ∧ ∃ w t, w < 6 ∧ t < 60 ∧ t < lm nm ∧ k = 36 + w ∧ i = 60 * nm + t ∧ j = 60 * w + t))) ∨ Loc nm ne nr nl lm h k i c j := by
  unfold Loc at L ⊢
  generalize kd k = n at L ⊢
  match n, L with
  | 0, L => exact Or.inr (Or.inr L)
  | 1, L => exact Or.inr (Or.inr L)
  | 2, L => exact Or.inr (Or.inr L)
  | 3, L =>
    by_cases q : i = nm
    · subst q; exact Or.inl ⟨rfl, rfl, L.2.1, L.2.2⟩
    · exact Or.inr (Or.inr ⟨by have := L.1; omega, L.2⟩)
  | 4, L =>
    obtain ⟨m, a, hm, e, q⟩ := L
    by_cases w : m = nm
    · subst w; exact Or.inr (Or.inl ⟨rfl, a, e, q⟩)
    · exact Or.inr (Or.inr ⟨m, a, by omega, e, q⟩)
  | 5, L => exact Or.inr (Or.inr L)
  | 6, L => exact Or.inr (Or.inr L)
  | 7, L => exact Or.inr (Or.inr L)
  | 8, L => exact Or.inr (Or.inr L)
  | n + 9, L => exact L.elim
/-- one more reading -/
theorem RC.c55 (R : RC lm g h) {b : Nat} (h55 : 0 ≤ (g 27 55).toInt ∧ (g 27 55).toInt < 60) (hb : z_rv h 3 (q_n g 55) = some b) (fr' : ∀ i, i < q_n g 55 → ¬ z_rv h 3 i = some b) (vals : ∀ j, j < 10 → 2 ≤ j → z_iv h b j = g (fr j) (q_n g 55)) (en : z_rv h b 0 = z_rv h 2 (z_ix (g 71 (q_n g 55)))) (tr : TrR (z_iv h) (z_rv h b 1) g 80 (q_n g 55)) : RC lm (z_up2 g 27 55 (g 27 55 + 1)) (z_sI h 0 14 (g 27 55 + 1)) := by
  have s55 := n_suc h55.1 (by omega)
  have tb := R.w.rt R.f hb
  have gb := R.f.ge tb (by omega)
  have n1 : q_n (z_up2 g 27 55 (g 27 55 + 1)) 1 = q_n g 1 := by unfold q_n; rw [up_nj (by omega)]
  have n2 : q_n (z_up2 g 27 55 (g 27 55 + 1)) 20 = q_n g 20 := by unfold q_n; rw [up_nj (by omega)]
  have n4 : q_n (z_up2 g 27 55 (g 27 55 + 1)) 45 = q_n g 45 := by unfold q_n; rw [up_nj (by omega)]
  have n3 : q_n (z_up2 g 27 55 (g 27 55 + 1)) 55 = q_n g 55 + 1 := by unfold q_n; rw [up_at, s55.2]
  unfold RC
  rw [n1, n2, n3, n4]
  have rw0 : ∀ {x j}, ¬ (x = 0 ∧ j = 14) → z_iv (z_sI h 0 14 (g 27 55 + 1)) x j = z_iv h x j := fun q => up_nj q
  refine ⟨R.w.sI, R.f, R.b, ?_, ?_, ?_⟩
  · obtain ⟨j1, j2, j3, j4⟩ := R.j
    refine ⟨j1, j2, fun m n a hm hn e1 e2 => ?_, j4⟩
    have e1 : z_rv h 3 m = some a := e1
    have e2 : z_rv h 3 n = some a := e2
    by_cases c1 : m = q_n g 55
    · by_cases c2 : n = q_n g 55
      · omega
      · exfalso
        rw [c1, hb] at e1
        injection e1 with e1
        subst e1
        exact fr' n (by omega) e2
    · by_cases c2 : n = q_n g 55
      · exfalso
        rw [c2, hb] at e2
        injection e2 with e2
        subst e2
        exact fr' m (by omega) e1
      · exact j3 m n a (by omega) (by omega) e1 e2
  · intro k i c j L
    have L : Loc (q_n g 1) (q_n g 20) (q_n g 55 + 1) (q_n g 45) lm h k i c j := L
    rcases LocR L with ⟨l1, l2, l3, l4, l5⟩ | L
    · rw [hb] at l3
      injection l3 with l3
      subst l3
      have hj : 2 ≤ j := by
        have : j = 0 ∨ j = 1 ∨ 2 ≤ j := by omega
        rcases this with q | q | q
        · subst q; rw [← l5] at l1; exact absurd l1 (by decide)
        · subst q; rw [← l5] at l1; exact absurd l1 (by decide)
        · exact q
      rw [rw0 (by omega), vals j l4 hj, l5, l2, up_ne (fun q => by rw [q] at l1; exact absurd l1 (by decide))]
    · by_cases hk : k = 27 ∧ i = 55
      · obtain ⟨rfl, rfl⟩ := hk
        have : c = 0 ∧ j = 14 := L.fn R.b (Or.inl ⟨rfl, Or.inr (Or.inr (Or.inr (Or.inl ⟨rfl, rfl⟩)))⟩)
        obtain ⟨rfl, rfl⟩ := this
        rw [up_at]
        exact v_at
      · have hx : ¬ (c = 0 ∧ j = 14) := by
          rintro ⟨rfl, rfl⟩
          have L0 : Loc (q_n g 1) (q_n g 20) (q_n g 55) (q_n g 45) lm h 27 55 0 14 := Or.inl ⟨rfl, Or.inr (Or.inr (Or.inr (Or.inl ⟨rfl, rfl⟩)))⟩
          exact hk (L.inj R.w R.f R.b R.j L0)
        rw [rw0 hx, up_nj hk]
        exact R.i k i c j L
  · obtain ⟨x1, x2, x3, x4, x5, x6, x7, x8⟩ := R.x
    have lt : ∀ x, q_lt (z_up2 g 27 55 (g 27 55 + 1)) x = q_lt g x := by intro x; unfold q_lt; rw [n2, up_ne (by decide)]
    have trw : ∀ o k p, (∀ c, o = some c → z_tg h c = 10) → (k = 42 ∨ k = 80) → TrR (z_iv h) o g k p → TrR (z_iv (z_sI h 0 14 (g 27 55 + 1))) o (z_up2 g 27 55 (g 27 55 + 1)) k p := by
      intro o k p ho hk q
      unfold TrR at q ⊢
      rw [up_ne (by omega), up_ne (by omega), up_ne (by omega), up_ne (by omega)]
      rcases q with q | ⟨t, q, w⟩
      · exact Or.inl q
      · have gt := R.f.ge (ho t q) (by omega)
        refine Or.inr ⟨t, q, ?_⟩
        rw [rw0 (by omega), rw0 (by omega), rw0 (by omega), rw0 (by omega)]
        exact w
    have tg9 : ∀ {m a}, z_rv h 1 m = some a → ∀ c, z_rv h a 9 = some c → z_tg h c = 10 := fun ha c hc => R.w.tyOf (R.w.mt R.f ha) hc (by decide) rfl
    have tg1 : ∀ {a}, z_tg h a = 5 → ∀ c, z_rv h a 1 = some c → z_tg h c = 10 := fun ha c hc => R.w.tyOf ha hc (by decide) rfl
    unfold RX
    rw [n1, n2, n3, up_ne (show ¬ 71 = 27 by decide), up_ne (show ¬ 86 = 27 by decide), up_ne (show ¬ 87 = 27 by decide)]
    refine ⟨x1, x2, fun k hk => ?_, fun m a hm ha => by rw [lt]; exact x4 m a hm ha, fun k c hk hc => ?_, x6, fun m a hm ha => trw _ _ _ (tg9 ha) (by omega) (x7 m a hm ha), fun k c hk hc => ?_⟩
    · by_cases q : k = q_n g 55
      · exact ⟨b, by rw [q]; exact hb⟩
      · exact x3 k (by omega)
    · by_cases q : k = q_n g 55
      · have hc : z_rv h 3 k = some c := hc
        rw [q, hb] at hc
        injection hc with hc
        subst hc
        rw [q]
        exact en
      · exact x5 k c (by omega) hc
    · by_cases q : k = q_n g 55
      · have hc : z_rv h 3 k = some c := hc
        rw [q, hb] at hc
        injection hc with hc
        subst hc
        rw [q]
        exact trw _ _ _ (tg1 tb) (by omega) tr
      · exact trw _ _ _ (tg1 (R.w.rt R.f hc)) (by omega) (x8 k c (by omega) hc)
end CT
