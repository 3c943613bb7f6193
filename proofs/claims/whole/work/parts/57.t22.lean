/-! month: a mine goes through one more month -/
theorem Loc.lm {nm ne nr nl : Nat} {lm2 : Nat → Nat} {h : zH} {k i c j : Nat} (lm : Nat → Nat) (L : Loc nm ne nr nl lm2 h k i c j) : Loc nm ne nr nl lm h k i c j ∨ (kd k = 4 ∧ ∃ m a w t, m < nm ∧ z_rv h 1 m = some a ∧ c = a + 3 ∧ w < 6 ∧ t < 60 ∧ t < lm2 m ∧ k = 36 + w ∧ i = 60 * m + t ∧ j = 60 * w + t) := by
  unfold Loc at L ⊢
  generalize kd k = n at L ⊢
  match n, L with
  | 0, L => exact Or.inl L
  | 1, L => exact Or.inl L
  | 2, L => exact Or.inl L
  | 3, L => exact Or.inl L
  | 4, L =>
    obtain ⟨m, a, hm, ha, L⟩ := L
    rcases L with L | L | ⟨e, w, t, hw, ht, hl, ek, ei, ej⟩
    · exact Or.inl ⟨m, a, hm, ha, Or.inl L⟩
    · exact Or.inl ⟨m, a, hm, ha, Or.inr (Or.inl L)⟩
    · exact Or.inr ⟨rfl, m, a, w, t, hm, ha, e, hw, ht, hl, ek, ei, ej⟩
  | 5, L => exact Or.inl L
  | 6, L => exact Or.inl L
  | 7, L => exact Or.inl L
  | 8, L => exact Or.inl L
  | n + 9, L => exact L.elim
theorem kd_36 {w : Nat} (hw : w < 6) : kd (36 + w) = 4 := by
  have d : w = 0 ∨ w = 1 ∨ w = 2 ∨ w = 3 ∨ w = 4 ∨ w = 5 := by omega
  rcases d with r | r | r | r | r | r <;> subst r <;> rfl
theorem Loc.m36 {nm ne nr nl : Nat} {lm : Nat → Nat} {h : zH} {m a w t : Nat} (hm : m < nm) (ha : z_rv h 1 m = some a) (hw : w < 6) (ht : t < 60) (hl : t < lm m) : Loc nm ne nr nl lm h (36 + w) (60 * m + t) (a + 3) (60 * w + t) := by
  unfold Loc
  rw [kd_36 hw]
  exact ⟨m, a, hm, ha, Or.inr (Or.inr ⟨rfl, w, t, hw, ht, hl, rfl, rfl, rfl⟩)⟩
/-- no place of a month that is not written yet -/
theorem Loc.no36 {nm ne nr nl : Nat} {lm : Nat → Nat} {h : zH} {k m t c j : Nat} (hk : 36 ≤ k ∧ k ≤ 41) (ht : t < 60) (hl : lm m ≤ t) (L : Loc nm ne nr nl lm h k (60 * m + t) c j) : False := by
  have ek : kd k = 4 := by
    have := kd_36 (w := k - 36) (by omega)
    rwa [show 36 + (k - 36) = k by omega] at this
  unfold Loc at L
  rw [ek] at L
  obtain ⟨m', a, hm, ha, L⟩ := L
  rcases L with ⟨_, q, _⟩ | ⟨_, q, _⟩ | ⟨e, w, t', hw, ht', hl', ek, ei, ej⟩
  · omega
  · omega
  · have e1 : m' = m := by omega
    have e2 : t' = t := by omega
    rw [e1] at hl'
    omega
section MO
variable {c : Nat} {lm lm2 : Nat → Nat} {g g2 : zG} {h : zH}
theorem RC.gp (R : RC lm g h) {k m t : Nat} {v : Int32} (hk : 36 ≤ k ∧ k ≤ 41) (ht : t < 60) (hl : lm m ≤ t) : RC lm (z_up2 g k (60 * m + t) v) h := by
  refine R.gw (up_nj (by omega)) (up_nj (by omega)) (up_nj (by omega)) (up_nj (by omega)) ?_ (fun i _ => up_nj (by omega)) (fun k' i _ _ => up_nj (by omega)) (fun k' i _ _ _ => up_nj (by omega)) (fun k' i _ _ => up_nj (by omega))
  intro k' i c' j L
  refine up_nj (fun q => ?_)
  obtain ⟨q1, q2⟩ := q
  subst q1
  subst q2
  exact L.no36 hk ht hl
theorem RC.nl (R : RC lm g h) {m a w t : Nat} {v : Int32} (hm : m < q_n g 1) (ha : z_rv h 1 m = some a) (hw : w < 6) (ht : t < 60) (hl : lm m ≤ t) : RC lm g (z_sI h (a + 3) (60 * w + t) v) := by
  have L0 : Loc (q_n g 1) (q_n g 20) (q_n g 55) (q_n g 45) (fun _ => 60) h (36 + w) (60 * m + t) (a + 3) (60 * w + t) := Loc.m36 hm ha hw ht ht
  have t3 := (R.w.m1 (R.w.mt R.f ha)).2.2
  refine ⟨R.w.sI, R.f, R.b, R.j, ?_, ?_⟩
  · intro k i c' j L
    have L : Loc (q_n g 1) (q_n g 20) (q_n g 55) (q_n g 45) lm h k i c' j := L
    have n : ¬ (c' = a + 3 ∧ j = 60 * w + t) := by
      intro q
      obtain ⟨q1, q2⟩ := q
      subst q1
      subst q2
      have L1 : Loc (q_n g 1) (q_n g 20) (q_n g 55) (q_n g 45) (fun _ => 60) h k i (a + 3) (60 * w + t) := by
        rcases L.lm (fun _ => 60) with L1 | ⟨_, m', a', w', t', hm', ha', ec, hw', ht', hl', ek, ei, ej⟩
        · exact L1
        · rw [ek, ei, ec, ej]
          exact Loc.m36 hm' ha' hw' ht' ht'
      obtain ⟨e1, e2⟩ := L1.inj R.w R.f R.b R.j L0
      subst e1
      subst e2
      exact L.no36 (by omega) ht hl
    exact (up_nj n).trans (R.i k i c' j L)
  · exact R.x.iv (h2 := z_sI h (a + 3) (60 * w + t) v) rfl rfl (fun d hd => up_ne (fun q => by rw [q, t3] at hd; cases hd)) R.w R.f
theorem RC.lm1 (R : RC lm g h) {m a t : Nat} (hm : m < q_n g 1) (ha : z_rv h 1 m = some a) (h1 : lm m = t) (h2 : lm2 m = t + 1) (ho : ∀ m', m' < q_n g 1 → ¬ m' = m → lm2 m' = lm m')
    (v0 : z_iv h (a + 3) (60 * 0 + t) = g 36 (60 * m + t)) (v1 : z_iv h (a + 3) (60 * 1 + t) = g 37 (60 * m + t)) (v2 : z_iv h (a + 3) (60 * 2 + t) = g 38 (60 * m + t)) (v3 : z_iv h (a + 3) (60 * 3 + t) = g 39 (60 * m + t)) (v4 : z_iv h (a + 3) (60 * 4 + t) = g 40 (60 * m + t)) (v5 : z_iv h (a + 3) (60 * 5 + t) = g 41 (60 * m + t)) : RC lm2 g h := by
  refine ⟨R.w, R.f, R.b, R.j, ?_, R.x⟩
  intro k i c' j L
  rcases L.lm lm with L1 | ⟨_, m', a', w, t', hm', ha', ec, hw', ht', hl', ek, ei, ej⟩
  · exact R.i k i c' j L1
  · by_cases q : t' < lm m'
    · rw [ek, ei, ec, ej]
      exact R.i _ _ _ _ (Loc.m36 hm' ha' hw' ht' q)
    · have em : m' = m := by
        rcases Decidable.em (m' = m) with z | z
        · exact z
        · rw [ho m' hm' z] at hl'
          exact absurd hl' q
      subst em
      have ea : a' = a := Option.some.inj (ha'.symm.trans ha)
      have et : t' = t := by omega
      subst ea
      subst et
      subst ek
      subst ei
      subst ec
      subst ej
      have d : w = 0 ∨ w = 1 ∨ w = 2 ∨ w = 3 ∨ w = 4 ∨ w = 5 := by omega
      rcases d with r | r | r | r | r | r <;> subst r
      · exact v0
      · exact v1
      · exact v2
      · exact v3
      · exact v4
      · exact v5
theorem RC.lme (R : RC lm g h) (e : ∀ m, m < q_n g 1 → lm m = lm2 m) : RC lm2 g h := by
  refine ⟨R.w, R.f, R.b, R.j, ?_, R.x⟩
  intro k i c' j L
  rcases L.lm lm with L1 | ⟨_, m', a', w, t', hm', ha', ec, hw', ht', hl', ek, ei, ej⟩
  · exact R.i k i c' j L1
  · rw [ek, ei, ec, ej]
    exact R.i _ _ _ _ (Loc.m36 hm' ha' hw' ht' (by rw [e m' hm']; exact hl'))
def S22 : List Nat := [33, 36, 37, 38, 39, 40, 41, 52, 53, 56, 57]
theorem INV.gom (I : INV c lm g) {m t : Nat} {cc : Int32} (hm : m < q_n g 1) (et : g 27 0 = Int32.ofNat t) (ht : t < 60) (l1 : lm m = t) (l2 : lm2 m = t + 1) (lo : ∀ m', m' < 6 → ¬ m' = m → lm2 m' = lm m')
    (e : ∀ k, S22.contains k = false → g2 k = g k) (eN : ∀ k i, 36 ≤ k → k ≤ 41 → ¬ i = 60 * m + t → g2 k i = g k i) (e33 : ∀ i, ¬ i = m → g2 33 i = g 33 i) (v37 : g2 37 (60 * m + t) = cc) (bc' : 0 ≤ cc.toInt ∧ cc.toInt ≤ 989901) (v41 : g2 41 (60 * m + t) = g 31 m)
    (E : ((∀ k, k ∈ ([52, 53, 56, 57] : List Nat) → g2 k = g k) ∧ ∀ i, i < q_n g 20 → ¬ g2 39 (60 * m + t) = Int32.ofNat i) ∨ ∃ x, x < q_n g 20 ∧ g 46 x = Int32.ofNat m ∧ g2 39 (60 * m + t) = Int32.ofNat x ∧ (∀ k i, k ∈ ([52, 53, 56, 57] : List Nat) → ¬ i = x → g2 k i = g k i) ∧ g2 52 x = g 52 x + 1 ∧ (0 ≤ (g2 53 x).toInt ∧ (g2 53 x).toInt ≤ 9999) ∧ g2 57 x = g 57 x + cc) : INV c lm2 g2 := by
  have bc : 0 ≤ (g2 37 (60 * m + t)).toInt ∧ (g2 37 (60 * m + t)).toInt ≤ 989901 := by rw [v37]; exact bc'
  rw [← v37] at E
  have hm6 := I.m6 hm
  have e27 : g2 27 = g 27 := e 27 rfl
  have q1 : q_n g2 1 = q_n g 1 := by unfold q_n; rw [e27]
  have q20 : q_n g2 20 = q_n g 20 := by unfold q_n; rw [e27]
  have q55 : q_n g2 55 = q_n g 55 := by unfold q_n; rw [e27]
  have n0 : g2 27 0 = g 27 0 := by rw [e27]
  have et' : (g 27 0).toInt = (t : Int) := by
    rw [et, Int32.toInt_ofNat_of_lt (by omega)]
  have e46 := e 46 rfl
  have e34 := e 34 rfl
  have e42 := e 42 rfl
  have e32 := e 32 rfl
  have e35 := e 35 rfl
  have e54 := e 54 rfl
  have e55 := e 55 rfl
  have e202 := e 202 rfl
  have e71 := e 71 rfl
  have e72 := e 72 rfl
  have e58 := e 58 rfl
  have s1 : ∀ e, q_si g2 e = q_si g e := by intro x; unfold q_si; rw [q55, e71, e72, e58]
  exact ⟨INV.t_cnt (an_of e rfl) (ag_of e rfl) I.cnt,
    INV.t_bm (an_of e rfl) (ag_of e rfl) I.bm,
    INV.t_pd (an_of e rfl) (ag_of e rfl) I.pd,
    INV.t_bw (an_of e rfl) (ag_of e rfl) I.bw,
    INV.t_bs (an_of e rfl) (ag_of e rfl) I.bs,
    by
      intro q hq i hi
      rw [q20] at hi
      by_cases q53 : q.1 = 53
      · have d : ∀ q, q ∈ BE → q.1 = 53 → q = (53, 0, 9999) := by decide
        have d := d q hq q53
        subst d
        rcases E with ⟨E, _⟩ | ⟨x, hx, _, _, E, _, b, _⟩
        · rw [E 53 (by decide)]
          exact I.be _ hq i hi
        · by_cases z : i = x
          · rw [z]; exact b
          · rw [E 53 i (by decide) z]
            exact I.be _ hq i hi
      · have d : ∀ q, q ∈ BE → q.1 = 53 ∨ S22.contains q.1 = false := by decide
        rw [e q.1 ((d q hq).resolve_left q53)]
        exact I.be q hq i hi,
    INV.t_br (an_of e rfl) (ag_of e rfl) I.br,
    INV.t_bl (an_of e rfl) (ag_of e rfl) I.bl,
    INV.t_bt (an_of e rfl) (ag_of e rfl) I.bt,
    by
      intro q hq i hi
      have d : q = (37, 0, 989901) := by simpa using hq
      subst d
      by_cases z : i = 60 * m + t
      · rw [z]; exact bc
      · show 0 ≤ (g2 37 i).toInt ∧ (g2 37 i).toInt ≤ 989901
        rw [eN 37 i (by decide) (by decide) z]
        exact I.wc _ hq i hi,
    by
      intro q hq i hi
      have d : q = (41, 0, 99) := by simpa using hq
      subst d
      by_cases z : i = 60 * m + t
      · have w := I.bm.at (k := 31) (a := 1) (b := 99) (by decide) hm
        show 0 ≤ (g2 41 i).toInt ∧ (g2 41 i).toInt ≤ 99
        rw [z, v41]
        omega
      · show 0 ≤ (g2 41 i).toInt ∧ (g2 41 i).toInt ≤ 99
        rw [eN 41 i (by decide) (by decide) z]
        exact I.wn _ hq i hi,
    INV.t_sh (an_of e rfl) (ag_of e rfl) I.sh,
    INV.t_la (an_of e rfl) (ag_of e rfl) I.la,
    INV.t_lv (an_of e rfl) (ag_of e rfl) I.lv,
    INV.t_em (an_of e rfl) (ag_of e rfl) I.em,
    INV.t_ca (an_of e rfl) (ag_of e rfl) I.ca,
    by
      intro i hi
      rw [q20] at hi
      rw [e46]
      have w := I.ag i hi
      obtain ⟨m', hm', hm6', em'⟩ := I.mo hi
      have ez : z_ix (g 46 i) = m' := by rw [em', n_ix (by omega)]
      rw [ez] at w ⊢
      rcases E with ⟨E, _⟩ | ⟨x, hx, e4, _, E, e5, _, _⟩
      · rw [E 52 (by decide)]
        by_cases z : m' = m
        · rw [z] at w ⊢; rw [l2]; rw [l1] at w; omega
        · rw [lo m' hm6' z]; exact w
      · by_cases z : i = x
        · rw [z] at w em' ⊢
          have z2 : m' = m := n_inj (by omega) (by omega) (em'.symm.trans e4)
          rw [z2] at w ⊢
          rw [l1] at w
          rw [l2, e5, i_add (by have t1 : (1 : Int32).toInt = 1 := by decide
                                omega) (by have t1 : (1 : Int32).toInt = 1 := by decide
                                           omega)]
          have t1 : (1 : Int32).toInt = 1 := by decide
          omega
        · rw [E 52 i (by decide) z]
          by_cases z : m' = m
          · rw [z] at w ⊢; rw [l2]; rw [l1] at w; omega
          · rw [lo m' hm6' z]; exact w,
    INV.t_re (an_of e rfl) (ag_of e rfl) I.re,
    INV.t_tm (an_of e rfl) (ag_of e rfl) I.tm,
    INV.t_tk (an_of e rfl) (ag_of e rfl) I.tk,
    by
      intro m' h1 h2
      rw [q1] at h1
      rw [e34, e42, e32, e35, e33 m' (by omega)]
      obtain ⟨a1, a2, a3, a4, a5, a6⟩ := I.zm m' h1 h2
      refine ⟨a1, a2, a3, a4, a5, fun w t' hw ht' => ?_⟩
      rw [eN (36 + w) (60 * m' + t') (by omega) (by omega) (by omega)]
      exact a6 w t' hw ht',
    by
      intro x h1 h2
      rw [q20] at h1
      obtain ⟨a1, a2, a3, a4, a5, a6⟩ := I.ze x h1 h2
      rw [e54, e55]
      rcases E with ⟨E, _⟩ | ⟨y, hy, _, _, E, _, _, _⟩
      · rw [E 52 (by decide), E 53 (by decide), E 56 (by decide), E 57 (by decide)]
        exact ⟨a1, a2, a3, a4, a5, a6⟩
      · rw [E 52 x (by decide) (by omega), E 53 x (by decide) (by omega), E 56 x (by decide) (by omega), E 57 x (by decide) (by omega)]
        exact ⟨a1, a2, a3, a4, a5, a6⟩,
    INV.t_gs (an_of e rfl) (ag_of e rfl) I.gs,
    by
      intro i hi
      rw [q20] at hi
      rw [s1, e202, e46]
      have w := I.gc i hi
      have hs := I.si hi
      obtain ⟨m', hm', hm6', em'⟩ := I.mo hi
      have ez : z_ix (g 46 i) = m' := by rw [em', n_ix (by omega)]
      rw [ez] at w ⊢
      have i12 := I.e12 hi
      by_cases z : m' = m
      · rw [z] at w ⊢
        rw [l1] at w
        have hst : z_ix (q_si g i) ≤ t := by unfold z_ix; rw [et'] at hs; omega
        have ee : t + 1 - z_ix (q_si g i) = (t - z_ix (q_si g i)) + 1 := by omega
        have ep : 60 * m + (z_ix (q_si g i) + (t - z_ix (q_si g i))) = 60 * m + t := by omega
        rw [l2, ee]
        unfold s_cs
        rw [ep, s_cs_cg (w := g2 39) (r := g2 37) (w2 := g 39) (r2 := g 37) (fun n hn => ⟨eN 39 _ (by decide) (by decide) (by omega), eN 37 _ (by decide) (by decide) (by omega)⟩)]
        rcases E with ⟨E, n4⟩ | ⟨x, hx, e4, e39, E, _, _, e57⟩
        · rw [if_neg (n4 i hi), Int32.add_zero, E 57 (by decide)]
          exact w
        · have x12 := I.e12 hx
          by_cases y : i = x
          · rw [if_pos (by rw [e39, y]), ← Int32.add_assoc, w, y, e57]
          · rw [if_neg (by rw [e39]; exact fun q => y (n_inj (by omega) (by omega) q.symm)), Int32.add_zero, E 57 i (by decide) y]
            exact w
      · have w6 := I.wl m' hm6'
        rw [lo m' hm6' z, s_cs_cg (w := g2 39) (r := g2 37) (w2 := g 39) (r2 := g 37) (fun n hn => ⟨eN 39 _ (by decide) (by decide) (by omega), eN 37 _ (by decide) (by decide) (by omega)⟩)]
        rcases E with ⟨E, n4⟩ | ⟨x, hx, e4, e39, E, _, _, e57⟩
        · rw [E 57 (by decide)]
          exact w
        · have y : ¬ i = x := by
            intro y
            rw [y] at em'
            exact z (n_inj (by omega) (by omega) (em'.symm.trans e4))
          rw [E 57 i (by decide) y]
          exact w,
    INV.t_gg (an_of e rfl) (ag_of e rfl) I.gg,
    INV.t_gk (an_of e rfl) (ag_of e rfl) I.gk,
    by
      intro m' hm6'
      rw [n0]
      have w := I.wl m' hm6'
      by_cases z : m' = m
      · rw [z, l2, et']
        omega
      · rw [lo m' hm6' z]
        exact w⟩
theorem INV.lme (I : INV c lm g) (e : ∀ m, m < q_n g 1 → lm m = lm2 m) (wl : ∀ m, m < 6 → lm2 m ≤ 60 ∧ (g 27 0).toInt ≤ (lm2 m : Int)) : INV c lm2 g := by
  have ez : ∀ i, i < q_n g 20 → lm (z_ix (g 46 i)) = lm2 (z_ix (g 46 i)) := by
    intro i hi
    obtain ⟨m', hm', hm6', em'⟩ := I.mo hi
    rw [em', n_ix (by omega)]
    exact e m' hm'
  exact ⟨I.cnt, I.bm, I.pd, I.bw, I.bs, I.be, I.br, I.bl, I.bt, I.wc, I.wn, I.sh, I.la, I.lv, I.em, I.ca, fun i hi => by rw [← ez i hi]; exact I.ag i hi, I.re, I.tm, I.tk, I.zm, I.ze, I.gs, fun i hi => by rw [← ez i hi]; exact I.gc i hi, I.gg, I.gk, wl⟩
end MO
