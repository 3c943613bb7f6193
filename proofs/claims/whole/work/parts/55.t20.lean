/-! mine -/
def g_m39 (g : zG) (n t : Nat) (x1 x2 x3 x4 : Int32) : zG := fun k i => if k = 28 ∧ i = n then x1 else if k = 29 ∧ i = n then x2 else if k = 30 ∧ i = n then x3 else if k = 31 ∧ i = n then x4 else if k = 39 ∧ 60 * n ≤ i ∧ i < 60 * n + t then -4 else g k i
theorem g_m39_ne {g : zG} {n t : Nat} {x1 x2 x3 x4 : Int32} {k i : Nat} (h1 : ¬ (28 ≤ k ∧ k ≤ 31 ∧ i = n)) (h2 : ¬ (k = 39 ∧ 60 * n ≤ i ∧ i < 60 * n + t)) : g_m39 g n t x1 x2 x3 x4 k i = g k i := by
  unfold g_m39
  rw [if_neg (by omega), if_neg (by omega), if_neg (by omega), if_neg (by omega), if_neg h2]
theorem g_m39_0 {g : zG} {n : Nat} {x1 x2 x3 x4 : Int32} : z_up2 (z_up2 (z_up2 (z_up2 g 28 n x1) 29 n x2) 30 n x3) 31 n x4 = g_m39 g n 0 x1 x2 x3 x4 := by
  funext k i
  by_cases c1 : k = 28 ∧ i = n
  · rw [c1.1, c1.2, up_ne (by decide), up_ne (by decide), up_ne (by decide), up_at]
    exact (if_pos ⟨rfl, rfl⟩).symm
  · by_cases c2 : k = 29 ∧ i = n
    · rw [c2.1, c2.2, up_ne (by decide), up_ne (by decide), up_at]
      exact ((if_neg (by omega)).trans (if_pos ⟨rfl, rfl⟩)).symm
    · by_cases c3 : k = 30 ∧ i = n
      · rw [c3.1, c3.2, up_ne (by decide), up_at]
        exact ((if_neg (by omega)).trans ((if_neg (by omega)).trans (if_pos ⟨rfl, rfl⟩))).symm
      · by_cases c4 : k = 31 ∧ i = n
        · rw [c4.1, c4.2, up_at]
          exact ((if_neg (by omega)).trans ((if_neg (by omega)).trans ((if_neg (by omega)).trans (if_pos ⟨rfl, rfl⟩)))).symm
        · rw [up_nj c4, up_nj c3, up_nj c2, up_nj c1, g_m39_ne (by omega) (by omega)]
theorem g_m39_s {g : zG} {n t : Nat} {x1 x2 x3 x4 : Int32} : z_up2 (g_m39 g n t x1 x2 x3 x4) 39 (60 * n + t) (-4) = g_m39 g n (t + 1) x1 x2 x3 x4 := by
  funext k i
  by_cases q : k = 39 ∧ i = 60 * n + t
  · rw [q.1, q.2, up_at]
    unfold g_m39
    rw [if_neg (by omega), if_neg (by omega), if_neg (by omega), if_neg (by omega), if_pos (by omega)]
  · rw [up_nj q]
    unfold g_m39
    by_cases w : k = 39 ∧ 60 * n ≤ i ∧ i < 60 * n + t
    · rw [if_neg (by omega), if_neg (by omega), if_neg (by omega), if_neg (by omega), if_pos w, if_neg (by omega), if_neg (by omega), if_neg (by omega), if_neg (by omega), if_pos (by omega)]
    · rw [if_neg w, if_neg (show ¬ (k = 39 ∧ 60 * n ≤ i ∧ i < 60 * n + (t + 1)) by omega)]
def g_mn (g : zG) (x1 x2 x3 x4 : Int32) : zG := z_up2 (g_m39 g (q_n g 1) (q_n g 0) x1 x2 x3 x4) 27 1 (g 27 1 + 1)
theorem s_cs_cg {w w2 r r2 : Nat → Int32} {e : Int32} {o a : Nat} : ∀ {n}, (∀ i, i < n → w (o + (a + i)) = w2 (o + (a + i)) ∧ r (o + (a + i)) = r2 (o + (a + i))) → s_cs w r e o a n = s_cs w2 r2 e o a n := by
  intro n
  induction n with
  | zero => intro _; rfl
  | succ n ih => intro h; unfold s_cs; rw [(h n (by omega)).1, (h n (by omega)).2, ih (fun i hi => h i (by omega))]
section MN
variable {c : Nat} {lm : Nat → Nat} {g : zG} {h : zH}
theorem mn_i {x1 x2 x3 x4 : Int32} {k i : Nat} (h0 : ¬ (k = 27 ∧ i = 1)) (h1 : ¬ (28 ≤ k ∧ k ≤ 31 ∧ i = q_n g 1)) (h2 : ¬ (k = 39 ∧ 60 * q_n g 1 ≤ i ∧ i < 60 * q_n g 1 + q_n g 0)) : g_mn g x1 x2 x3 x4 k i = g k i := by
  unfold g_mn
  rw [up_nj h0]
  exact g_m39_ne h1 h2
theorem mn_ne {x1 x2 x3 x4 : Int32} : ∀ k, [27, 28, 29, 30, 31, 39].contains k = false → g_mn g x1 x2 x3 x4 k = g k := by
  intro k hk
  simp at hk
  funext i
  exact mn_i (by omega) (by omega) (by omega)
theorem mn_27 {x1 x2 x3 x4 : Int32} {i : Nat} (hi : ¬ i = 1) : g_mn g x1 x2 x3 x4 27 i = g 27 i := mn_i (by omega) (by omega) (by omega)
theorem mn_1 {x1 x2 x3 x4 : Int32} : g_mn g x1 x2 x3 x4 27 1 = g 27 1 + 1 := up_at
theorem mn_v {x1 x2 x3 x4 : Int32} : g_mn g x1 x2 x3 x4 28 (q_n g 1) = x1 ∧ g_mn g x1 x2 x3 x4 29 (q_n g 1) = x2 ∧ g_mn g x1 x2 x3 x4 30 (q_n g 1) = x3 ∧ g_mn g x1 x2 x3 x4 31 (q_n g 1) = x4 := by
  unfold g_mn
  refine ⟨?_, ?_, ?_, ?_⟩ <;> rw [up_ne (by decide)]
  · exact if_pos ⟨rfl, rfl⟩
  · exact (if_neg (by omega)).trans (if_pos ⟨rfl, rfl⟩)
  · exact (if_neg (by omega)).trans ((if_neg (by omega)).trans (if_pos ⟨rfl, rfl⟩))
  · exact (if_neg (by omega)).trans ((if_neg (by omega)).trans ((if_neg (by omega)).trans (if_pos ⟨rfl, rfl⟩)))
theorem INV.mn (I : INV c lm g) {x1 x2 x3 x4 : Int32} (h1 : (g 27 1).toInt < 6) (b1 : 0 ≤ x1.toInt ∧ x1.toInt ≤ 99) (b2 : 0 ≤ x2.toInt ∧ x2.toInt ≤ 99) (b3 : 1 ≤ x3.toInt ∧ x3.toInt ≤ 300) (b4 : 1 ≤ x4.toInt ∧ x4.toInt ≤ 99) : INV c lm (g_mn g x1 x2 x3 x4) := by
  have c1 := I.cnt.2.1
  have c0 := I.cnt.1
  have s1 := n_suc c1.1 (by omega)
  have n6 : q_n g 1 < 6 := by unfold q_n z_ix; omega
  obtain ⟨g2, hg2⟩ : ∃ g2, g2 = g_mn g x1 x2 x3 x4 := ⟨_, rfl⟩
  rw [← hg2]
  have en : ∀ k, [27, 28, 29, 30, 31, 39].contains k = false → g2 k = g k := by rw [hg2]; exact mn_ne
  have e27 : ∀ {i}, ¬ i = 1 → g2 27 i = g 27 i := by rw [hg2]; exact mn_27
  have e1 : g2 27 1 = g 27 1 + 1 := by rw [hg2]; exact mn_1
  have q1 : q_n g2 1 = q_n g 1 + 1 := by unfold q_n; rw [e1, s1.2]
  have n : ∀ N : List Nat, N.all (fun j => !(j == 1)) = true → ∀ j, j ∈ N → g2 27 j = g 27 j := fun N hN j hj => e27 (fun q => by have := List.all_eq_true.mp hN j hj; simp at this; omega)
  exact ⟨by
      rw [e27 (i := 0) (by decide), e1, e27 (i := 20) (by decide), e27 (i := 55) (by decide), e27 (i := 45) (by decide), e27 (i := 35) (by decide)]
      have a := I.cnt
      exact ⟨a.1, by omega, a.2.2.1, a.2.2.2.1, a.2.2.2.2.1, a.2.2.2.2.2⟩,
    by
      rw [q1]
      refine TB.push (fun q hq i hi => ?_) (fun q hq => ?_)
      · have d : ∀ q, q ∈ BM → 28 ≤ q.1 ∧ q.1 ≤ 31 := by decide
        have := d q hq
        rw [hg2, mn_i (by omega) (by omega) (by omega)]
        exact I.bm q hq i hi
      · obtain ⟨v1, v2, v3, v4⟩ := mn_v (g := g) (x1 := x1) (x2 := x2) (x3 := x3) (x4 := x4)
        rw [← hg2] at v1 v2 v3 v4
        have d : q = (28, 0, 99) ∨ q = (29, 0, 99) ∨ q = (30, 1, 300) ∨ q = (31, 1, 99) := by simpa [BM] using hq
        rcases d with r | r | r | r <;> subst r <;> dsimp only
        · rw [v1]; exact b1
        · rw [v2]; exact b2
        · rw [v3]; exact b3
        · rw [v4]; exact b4,
    fun m hm => by
      rw [q1] at hm
      rw [en 34 rfl]
      by_cases q : m = q_n g 1
      · rw [q, (I.zm (q_n g 1) (Nat.le_refl _) n6).2.1]
        exact ⟨by decide, by show (0 : Int) ≤ _; omega⟩
      · exact I.pd m (by omega),
    INV.t_bw (n _ rfl) (ag_of en rfl) I.bw,
    INV.t_bs (n _ rfl) (ag_of en rfl) I.bs,
    INV.t_be (n _ rfl) (ag_of en rfl) I.be,
    INV.t_br (n _ rfl) (ag_of en rfl) I.br,
    INV.t_bl (n _ rfl) (ag_of en rfl) I.bl,
    INV.t_bt (n _ rfl) (ag_of en rfl) I.bt,
    INV.t_wc (n _ rfl) (ag_of en rfl) I.wc,
    INV.t_wn (n _ rfl) (ag_of en rfl) I.wn,
    INV.t_sh (n _ rfl) (ag_of en rfl) I.sh,
    INV.t_la (n _ rfl) (ag_of en rfl) I.la,
    INV.t_lv (n _ rfl) (ag_of en rfl) I.lv,
    fun e he => by
      rw [show q_n g2 20 = q_n g 20 by unfold q_n; rw [e27 (by decide)]] at he
      rw [en 46 rfl, e1, s1.1]
      have := I.em e he
      omega,
    INV.t_ca (n _ rfl) (ag_of en rfl) I.ca,
    INV.t_ag (n _ rfl) (ag_of en rfl) I.ag,
    INV.t_re (n _ rfl) (ag_of en rfl) I.re,
    INV.t_tm (n _ rfl) (ag_of en rfl) I.tm,
    INV.t_tk (n _ rfl) (ag_of en rfl) I.tk,
    fun m h1 h2 => by
      rw [q1] at h1
      obtain ⟨a1, a2, a3, a4, a5, a6⟩ := I.zm m (by omega) h2
      rw [en 33 rfl, en 34 rfl, en 42 rfl, en 32 rfl, en 35 rfl]
      refine ⟨a1, a2, a3, a4, a5, fun w t hw ht => ?_⟩
      have T : q_n g 0 ≤ 60 := by unfold q_n z_ix; omega
      rw [hg2, mn_i (by omega) (by omega) (by omega)]
      exact a6 w t hw ht,
    INV.t_ze (n _ rfl) (ag_of en rfl) I.ze,
    INV.t_gs (n _ rfl) (ag_of en rfl) I.gs,
    fun e he => by
      rw [show q_n g2 20 = q_n g 20 by unfold q_n; rw [e27 (by decide)]] at he
      have q55 : q_n g2 55 = q_n g 55 := by unfold q_n; rw [e27 (by decide)]
      have si : q_si g2 e = q_si g e := by unfold q_si; rw [q55, en 71 rfl, en 72 rfl, en 58 rfl]
      obtain ⟨m, hm, hm6, em⟩ := I.mo he
      have l60 := (I.wl m hm6).1
      have gc := I.gc e he
      rw [si, en 202 rfl, en 37 rfl, en 46 rfl, en 57 rfl, ← gc, em, n_ix (by omega)]
      rw [s_cs_cg (w2 := g 39) (r2 := g 37) (fun i hi => ⟨by rw [hg2]; exact mn_i (by omega) (by omega) (by omega), rfl⟩)],
    INV.t_gg (n _ rfl) (ag_of en rfl) I.gg,
    INV.t_gk (n _ rfl) (ag_of en rfl) I.gk,
    INV.t_wl (n _ rfl) (ag_of en rfl) I.wl⟩
/-- one more mine -/
theorem RC.c1 (R : RC lm g h) {a : Nat} (h1 : 0 ≤ (g 27 1).toInt ∧ (g 27 1).toInt < 6) (hb : z_rv h 1 (q_n g 1) = some a) (fr' : ∀ i, i < q_n g 1 → ¬ z_rv h 1 i = some a)
    (vals : z_iv h a 0 = g 28 (q_n g 1) ∧ z_iv h a 1 = g 29 (q_n g 1) ∧ z_iv h a 5 = g 30 (q_n g 1) ∧ z_iv h a 6 = g 31 (q_n g 1) ∧ z_iv h a 7 = g 33 (q_n g 1) ∧ z_iv h a 8 = g 34 (q_n g 1))
    (w32 : ∀ i, i < 12 → z_iv h (a + 1) i = g 32 (12 * q_n g 1 + i)) (w35 : ∀ i, i < 8 → z_iv h (a + 2) i = g 35 (8 * q_n g 1 + i)) (wps : ∀ w t, w < 6 → t < 60 → t < lm (q_n g 1) → z_iv h (a + 3) (60 * w + t) = g (36 + w) (60 * q_n g 1 + t))
    (lat : z_rv h a 10 = (q_lt g (Int32.ofNat (q_n g 1))).bind (z_rv h 2)) (tr : TrR (z_iv h) (z_rv h a 9) g 42 (q_n g 1)) : RC lm (z_up2 g 27 1 (g 27 1 + 1)) (z_sI h 0 12 (g 27 1 + 1)) := by
  have s1 := n_suc h1.1 (by omega)
  have ta := R.w.mt R.f hb
  have ga := R.f.ge ta (by omega)
  have n2 : q_n (z_up2 g 27 1 (g 27 1 + 1)) 20 = q_n g 20 := by unfold q_n; rw [up_nj (by omega)]
  have n3 : q_n (z_up2 g 27 1 (g 27 1 + 1)) 55 = q_n g 55 := by unfold q_n; rw [up_nj (by omega)]
  have n4 : q_n (z_up2 g 27 1 (g 27 1 + 1)) 45 = q_n g 45 := by unfold q_n; rw [up_nj (by omega)]
  have n1 : q_n (z_up2 g 27 1 (g 27 1 + 1)) 1 = q_n g 1 + 1 := by unfold q_n; rw [up_at, s1.2]
  unfold RC
  rw [n1, n2, n3, n4]
  have rw0 : ∀ {x j}, ¬ (x = 0 ∧ j = 12) → z_iv (z_sI h 0 12 (g 27 1 + 1)) x j = z_iv h x j := fun q => up_nj q
  have rwg : ∀ {k i}, ¬ k = 27 → z_up2 g 27 1 (g 27 1 + 1) k i = g k i := fun q => up_nj (by omega)
  refine ⟨R.w.sI, R.f, R.b, ?_, ?_, ?_⟩
  · obtain ⟨j1, j2, j3, j4⟩ := R.j
    refine ⟨fun m n x hm hn e1 e2 => ?_, j2, j3, j4⟩
    have e1 : z_rv h 1 m = some x := e1
    have e2 : z_rv h 1 n = some x := e2
    by_cases c1 : m = q_n g 1
    · by_cases c2 : n = q_n g 1
      · omega
      · exfalso
        rw [c1, hb] at e1
        injection e1 with e1
        subst e1
        exact fr' n (by omega) e2
    · by_cases c2 : n = q_n g 1
      · exfalso
        rw [c2, hb] at e2
        injection e2 with e2
        subst e2
        exact fr' m (by omega) e1
      · exact j1 m n x (by omega) (by omega) e1 e2
  · intro k i x j L
    have L : Loc (q_n g 1 + 1) (q_n g 20) (q_n g 55) (q_n g 45) lm h k i x j := L
    rcases LocM L with ⟨l1, l2, l3, l4, l5⟩ | ⟨l1, b, l2, l3⟩ | L
    · rw [hb] at l3
      injection l3 with l3
      subst l3
      have k27 : ¬ k = 27 := fun q => by rw [q] at l1; exact absurd l1 (by decide)
      rw [rw0 (by omega), rwg k27, l2]
      obtain ⟨v0, v1, v5, v6, v7, v8⟩ := vals
      have d : j = 0 ∨ j = 1 ∨ j = 2 ∨ j = 3 ∨ j = 4 ∨ j = 5 ∨ j = 6 ∨ j = 7 ∨ j = 8 := by omega
      rcases d with r | r | r | r | r | r | r | r | r <;> subst r <;> subst l5
      · exact v0
      · exact v1
      · exact absurd l1 (by decide)
      · exact absurd l1 (by decide)
      · exact absurd l1 (by decide)
      · exact v5
      · exact v6
      · exact v7
      · exact v8
    · rw [hb] at l2
      injection l2 with l2
      subst l2
      rcases l3 with ⟨rfl, rfl, l4, rfl⟩ | ⟨rfl, rfl, l4, rfl⟩ | ⟨rfl, w, t, w1, w2, w3, rfl, rfl, rfl⟩
      · rw [rw0 (by omega), rwg (by omega)]; exact w32 j l4
      · rw [rw0 (by omega), rwg (by omega)]; exact w35 j l4
      · rw [rw0 (by omega), rwg (by omega)]; exact wps w t w1 w2 w3
    · by_cases hk : k = 27 ∧ i = 1
      · obtain ⟨rfl, rfl⟩ := hk
        have : x = 0 ∧ j = 12 := L.fn R.b (Or.inl ⟨rfl, Or.inr (Or.inl ⟨rfl, rfl⟩)⟩)
        obtain ⟨rfl, rfl⟩ := this
        rw [up_at]
        exact v_at
      · have hx : ¬ (x = 0 ∧ j = 12) := by
          rintro ⟨rfl, rfl⟩
          have L0 : Loc (q_n g 1) (q_n g 20) (q_n g 55) (q_n g 45) lm h 27 1 0 12 := Or.inl ⟨rfl, Or.inr (Or.inl ⟨rfl, rfl⟩)⟩
          exact hk (L.inj R.w R.f R.b R.j L0)
        rw [rw0 hx, up_nj hk]
        exact R.i k i x j L
  · obtain ⟨x1, x2, x3, x4, x5, x6, x7, x8⟩ := R.x
    have lt : ∀ x, q_lt (z_up2 g 27 1 (g 27 1 + 1)) x = q_lt g x := by intro x; unfold q_lt; rw [n2, up_ne (by decide)]
    have trw : ∀ o k p, (∀ c, o = some c → z_tg h c = 10) → (k = 42 ∨ k = 80) → TrR (z_iv h) o g k p → TrR (z_iv (z_sI h 0 12 (g 27 1 + 1))) o (z_up2 g 27 1 (g 27 1 + 1)) k p := by
      intro o k p ho hk q
      unfold TrR at q ⊢
      rw [up_ne (by omega), up_ne (by omega), up_ne (by omega), up_ne (by omega)]
      rcases q with q | ⟨t, q, w⟩
      · exact Or.inl q
      · have gt := R.f.ge (ho t q) (by omega)
        refine Or.inr ⟨t, q, ?_⟩
        rw [rw0 (by omega), rw0 (by omega), rw0 (by omega), rw0 (by omega)]
        exact w
    have tg9 : ∀ {a}, z_tg h a = 4 → ∀ c, z_rv h a 9 = some c → z_tg h c = 10 := fun ha c hc => R.w.tyOf ha hc (by decide) rfl
    have tg1 : ∀ {a}, z_tg h a = 5 → ∀ c, z_rv h a 1 = some c → z_tg h c = 10 := fun ha c hc => R.w.tyOf ha hc (by decide) rfl
    unfold RX
    rw [n1, n2, n3, up_ne (show ¬ 71 = 27 by decide), up_ne (show ¬ 86 = 27 by decide), up_ne (show ¬ 87 = 27 by decide)]
    refine ⟨fun m hm => ?_, x2, x3, fun m b hm hb2 => ?_, x5, x6, fun m b hm hb2 => ?_, fun k c hk hc => trw _ _ _ (tg1 (R.w.rt R.f hc)) (by omega) (x8 k c hk hc)⟩
    · by_cases q : m = q_n g 1
      · exact ⟨a, by rw [q]; exact hb⟩
      · exact x1 m (by omega)
    · rw [lt]
      by_cases q : m = q_n g 1
      · have hb2 : z_rv h 1 m = some b := hb2
        rw [q, hb] at hb2
        injection hb2 with hb2
        subst hb2
        rw [q]
        exact lat
      · exact x4 m b (by omega) hb2
    · by_cases q : m = q_n g 1
      · have hb2 : z_rv h 1 m = some b := hb2
        rw [q, hb] at hb2
        injection hb2 with hb2
        subst hb2
        rw [q]
        exact trw _ _ _ (tg9 ta) (by omega) tr
      · exact trw _ _ _ (tg9 (R.w.mt R.f hb2)) (by omega) (x7 m b (by omega) hb2)
end MN
