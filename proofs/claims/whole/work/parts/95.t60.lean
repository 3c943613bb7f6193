/-! texts: both sides -/
theorem INV.tx {c : Nat} {lm : Nat → Nat} {g g2 : zG} (I : INV c lm g) (n0 : g2 27 0 = g 27 0) (n1 : g2 27 1 = g 27 1) (n20 : g2 27 20 = g 27 20) (n55 : g2 27 55 = g 27 55) (e35 : 0 ≤ (g2 27 35).toInt ∧ (g2 27 35).toInt ≤ 200) (e45 : 0 ≤ (g2 27 45).toInt ∧ (g2 27 45).toInt ≤ 16) (er : ∀ k, [27, 62, 63, 64, 65, 203].contains k = false → g2 k = g k) (bl : TB BL (q_n g2 45) g2) (lv : ∀ i, i < q_n g2 45 → s_lv (g2 62 i) (g2 65 i)) (gg : ∀ i, i < q_n g2 45 → g2 203 i = s_cg (g2 62 i)) : INV c lm g2 := by
  have nn : ∀ j, j = 0 ∨ j = 1 ∨ j = 20 ∨ j = 55 → g2 27 j = g 27 j := by
    intro j hj
    rcases hj with e | e | e | e <;> subst e
    · exact n0
    · exact n1
    · exact n20
    · exact n55
  exact ⟨⟨by rw [n0]; exact I.cnt.1, by rw [n1]; exact I.cnt.2.1, by rw [n20]; exact I.cnt.2.2.1, by rw [n55]; exact I.cnt.2.2.2.1, e45, e35⟩,
    INV.t_bm (fun j hj => nn j (by simp at hj; omega)) (ag_of er rfl) I.bm,
    INV.t_pd (fun j hj => nn j (by simp at hj; omega)) (ag_of er rfl) I.pd,
    INV.t_bw (fun j hj => nomatch hj) (ag_of er rfl) I.bw,
    INV.t_bs (fun j hj => nomatch hj) (ag_of er rfl) I.bs,
    INV.t_be (fun j hj => nn j (by simp at hj; omega)) (ag_of er rfl) I.be,
    INV.t_br (fun j hj => nn j (by simp at hj; omega)) (ag_of er rfl) I.br,
    bl,
    INV.t_bt (fun j hj => nomatch hj) (ag_of er rfl) I.bt,
    INV.t_wc (fun j hj => nomatch hj) (ag_of er rfl) I.wc,
    INV.t_wn (fun j hj => nomatch hj) (ag_of er rfl) I.wn,
    INV.t_sh (fun j hj => nomatch hj) (ag_of er rfl) I.sh,
    INV.t_la (fun j hj => nomatch hj) (ag_of er rfl) I.la,
    lv,
    INV.t_em (fun j hj => nn j (by simp at hj; omega)) (ag_of er rfl) I.em,
    INV.t_ca (fun j hj => nn j (by simp at hj; omega)) (ag_of er rfl) I.ca,
    INV.t_ag (fun j hj => nn j (by simp at hj; omega)) (ag_of er rfl) I.ag,
    INV.t_re (fun j hj => nn j (by simp at hj; omega)) (ag_of er rfl) I.re,
    INV.t_tm (fun j hj => nomatch hj) (ag_of er rfl) I.tm,
    INV.t_tk (fun j hj => nn j (by simp at hj; omega)) (ag_of er rfl) I.tk,
    INV.t_zm (fun j hj => nn j (by simp at hj; omega)) (ag_of er rfl) I.zm,
    INV.t_ze (fun j hj => nn j (by simp at hj; omega)) (ag_of er rfl) I.ze,
    INV.t_gs (fun j hj => nn j (by simp at hj; omega)) (ag_of er rfl) I.gs,
    INV.t_gc (fun j hj => nn j (by simp at hj; omega)) (ag_of er rfl) I.gc,
    gg,
    INV.t_gk (fun j hj => nn j (by simp at hj; omega)) (ag_of er rfl) I.gk,
    INV.t_wl (fun j hj => nn j (by simp at hj; omega)) (ag_of er rfl) I.wl⟩
section TM
variable {lm : Nat → Nat} {g g2 : zG} {h h4 : zH}
theorem RC.s83 (R : RC lm g h) {x : Option Nat} (hx : ∀ b, x = some b → z_tg h b = 1) : RC lm g (z_sR h 8 3 x) := by
  have rO : ∀ y, ¬ y = 8 → z_rv (z_sR h 8 3 x) y = z_rv h y := fun y hy => sR_ne hy
  have t8 : z_tg h 8 = 7 := R.f.at (by omega) rfl
  have W2 : CW (z_sR h 8 3 x) := R.w.sR (t := 7) t8 rfl hx (by decide)
  refine ⟨W2, R.f, ?_, ?_, ?_, ?_⟩
  · have := R.b
    unfold BD
    rw [rO 0 (by omega)]
    exact this
  · have := R.j
    unfold IJ
    rw [rO 1 (by omega), rO 2 (by omega), rO 3 (by omega), rO 4 (by omega)]
    exact this
  · intro k i' c j L
    have L' := L.eq (h := h) (by rw [rO 0 (by omega)]) (fun i _ => by rw [rO 1 (by omega)]) (fun i _ => by rw [rO 2 (by omega)]) (fun i _ => by rw [rO 3 (by omega)]) (fun i _ => by rw [rO 4 (by omega)])
    exact R.i k i' c j L'
  · obtain ⟨x1, x2, x3, x4, x5, x6, x7, x8⟩ := R.x
    have big : ∀ {y t'}, z_tg h y = t' → (t' = 4 ∨ t' = 5) → z_rv (z_sR h 8 3 x) y = z_rv h y := fun e q => rO _ (by have := R.f.ge e (by omega); omega)
    unfold RX
    rw [rO 1 (by omega), rO 2 (by omega), rO 3 (by omega), rO 4 (by omega)]
    refine ⟨x1, x2, x3, fun m a hm ha => ?_, fun k c hk hc => ?_, x6, fun m a hm ha => ?_, fun k c hk hc => ?_⟩
    · rw [big (R.w.mt R.f ha) (by omega)]; exact x4 m a hm ha
    · rw [big (R.w.rt R.f hc) (by omega)]; exact x5 k c hk hc
    · rw [big (R.w.mt R.f ha) (by omega)]; exact x7 m a hm ha
    · rw [big (R.w.rt R.f hc) (by omega)]; exact x8 k c hk hc
theorem RC.tx (R : RC lm g h) (W4 : CW h4) (et : z_tg h4 = z_tg h) (el : z_ln h4 = z_ln h) (er : ∀ y, ¬ y = 0 → z_rv h4 y = z_rv h y) (bd : BD h4) (ei : ∀ c, (c = 7 ∨ 89 ≤ c) → z_iv h4 c = z_iv h c) (n1 : g2 27 1 = g 27 1) (n20 : g2 27 20 = g 27 20) (n55 : g2 27 55 = g 27 55) (eg : ∀ k, [27, 62, 63, 64, 65, 203].contains k = false → g2 k = g k)
    (k0 : ∀ i c j, Lk (q_n g 1) (q_n g 20) (q_n g 55) (q_n g2 45) lm h4 27 i c j 0 → z_iv h4 c j = g2 27 i) (k2 : ∀ k i c j, Lk (q_n g 1) (q_n g 20) (q_n g 55) (q_n g2 45) lm h4 k i c j 2 → z_iv h4 c j = g2 k i) : RC lm g2 h4 := by
  have q1 : q_n g2 1 = q_n g 1 := by unfold q_n; rw [n1]
  have q20 : q_n g2 20 = q_n g 20 := by unfold q_n; rw [n20]
  have q55 : q_n g2 55 = q_n g 55 := by unfold q_n; rw [n55]
  unfold RC
  rw [q1, q20, q55]
  refine ⟨W4, fun a ha => by rw [et]; exact R.f a ha, bd, ?_, ?_, ?_⟩
  · unfold IJ
    rw [er 1 (by omega), er 2 (by omega), er 3 (by omega), er 4 (by omega)]
    exact R.j
  · intro k i c j L
    have h27 : ∀ k, kd k = 0 → k = 27 := x_kd 0 27 (by decide +kernel)
    by_cases z0 : kd k = 0
    · have := h27 k z0
      subst this
      exact k0 i c j L
    · by_cases z2 : kd k = 2
      · unfold Loc at L
        rw [z2] at L
        exact k2 k i c j L
      · have ek : [27, 62, 63, 64, 65, 203].contains k = false := by
          cases hc : [27, 62, 63, 64, 65, 203].contains k with
          | false => rfl
          | true =>
            have w : k ∈ [27, 62, 63, 64, 65, 203] := by simpa using hc
            have : ∀ k, k ∈ [27, 62, 63, 64, 65, 203] → kd k = 0 ∨ kd k = 2 := by decide
            rcases this k w with y | y
            · exact absurd y z0
            · exact absurd y z2
        have both : Loc (q_n g 1) (q_n g 20) (q_n g 55) (q_n g 45) lm h k i c j ∧ (c = 7 ∨ 89 ≤ c) := by
          unfold Loc at L ⊢
          generalize kd k = n at L z0 z2 ⊢
          match n, L, z0, z2 with
          | 0, _, z0, _ => exact absurd rfl z0
          | 1, L, _, _ => exact ⟨L, Or.inl L.1⟩
          | 2, _, _, z2 => exact absurd rfl z2
          | 3, L, _, _ =>
            obtain ⟨a1, a2, a3⟩ := L
            rw [er 1 (by omega)] at a2
            exact ⟨⟨a1, a2, a3⟩, Or.inr (R.f.ge (R.w.mt R.f a2) (by omega))⟩
          | 4, L, _, _ =>
            obtain ⟨m, a, a1, a2, a3⟩ := L
            rw [er 1 (by omega)] at a2
            have ga := R.f.ge (R.w.mt R.f a2) (by omega)
            refine ⟨⟨m, a, a1, a2, a3⟩, Or.inr ?_⟩
            rcases a3 with ⟨y, _⟩ | ⟨y, _⟩ | ⟨y, _⟩ <;> omega
          | 5, L, _, _ =>
            obtain ⟨a1, a2, a3⟩ := L
            rw [er 2 (by omega)] at a2
            exact ⟨⟨a1, a2, a3⟩, Or.inr (R.f.ge (R.w.et R.f a2) (by omega))⟩
          | 6, L, _, _ =>
            obtain ⟨a1, a2, a3⟩ := L
            rw [er 3 (by omega)] at a2
            exact ⟨⟨a1, a2, a3⟩, Or.inr (R.f.ge (R.w.rt R.f a2) (by omega))⟩
          | 7, L, _, _ =>
            obtain ⟨a1, a2, a3⟩ := L
            rw [er 4 (by omega)] at a2
            exact ⟨⟨a1, a2, a3⟩, Or.inr (R.f.ge (R.w.st R.f a2) (by omega))⟩
          | 8, L, _, _ =>
            obtain ⟨n, s, a1, a2, a3⟩ := L
            rw [er 4 (by omega)] at a2
            have gs := R.f.ge (R.w.st R.f a2) (by omega)
            exact ⟨⟨n, s, a1, a2, a3⟩, Or.inr (by have := a3.1; omega)⟩
          | n + 9, L, _, _ => exact L.elim
        rw [ei c both.2, eg k ek]
        exact R.i k i c j both.1
  · have X := R.x.g n1 n20 n55 (fun k hk => eg k (by
      have : k = 46 ∨ k = 71 ∨ k = 86 ∨ k = 87 ∨ k = 42 ∨ k = 43 ∨ k = 44 ∨ k = 45 ∨ k = 80 ∨ k = 81 ∨ k = 82 ∨ k = 83 := by omega
      rcases this with q | q | q | q | q | q | q | q | q | q | q | q <;> subst q <;> rfl))
    have tr : ∀ o k m, (∀ c, o = some c → z_tg h c = 10) → TrR (z_iv h) o g2 k m → TrR (z_iv h4) o g2 k m := by
      intro o k m ho q
      rcases q with q | ⟨c, q, r⟩
      · exact Or.inl q
      · refine Or.inr ⟨c, q, ?_⟩
        rw [ei c (Or.inr (R.f.ge (ho c q) (by omega)))]
        exact r
    have big : ∀ {y t'}, z_tg h y = t' → (t' = 4 ∨ t' = 5) → z_rv h4 y = z_rv h y := fun e q => er _ (by have := R.f.ge e (by omega); omega)
    obtain ⟨x1, x2, x3, x4, x5, x6, x7, x8⟩ := X
    unfold RX
    rw [er 1 (by omega), er 2 (by omega), er 3 (by omega), er 4 (by omega), el]
    refine ⟨x1, x2, x3, fun m a hm ha => ?_, fun k c hk hc => ?_, x6, fun m a hm ha => ?_, fun k c hk hc => ?_⟩
    · rw [big (R.w.mt R.f ha) (by omega)]; exact x4 m a hm ha
    · rw [big (R.w.rt R.f hc) (by omega)]; exact x5 k c hk hc
    · rw [big (R.w.mt R.f ha) (by omega)]
      exact tr _ _ _ (fun c hc => R.w.tyOf (R.w.mt R.f ha) hc (by decide) rfl) (x7 m a hm ha)
    · rw [big (R.w.rt R.f hc) (by omega)]
      exact tr _ _ _ (fun d hd => R.w.tyOf (R.w.rt R.f hc) hd (by decide) rfl) (x8 k c hk hc)
end TM
