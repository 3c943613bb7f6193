/-! readings: what is owed -/
section T4
variable {c : Nat} {lm : Nat → Nat} {g : zG} {h : zH}
theorem K_wat (R : RC lm g h) {m a : Nat} (hm : m < q_n g 1) (ha : z_rv h 1 m = some a) {x : Int32} (h0 : 0 ≤ x.toInt) (h1 : x.toInt ≤ 100000) : KV z_pI 45 [.ref a, .int x] h (g 32 (12 * m + z_ix x % 12)) := by
  have e := a_fm12 h0 h1
  refine kv_of (C_45 a x h R.w (R.w.mt R.f ha) (by rw [e]; exact n_bd (N := 12) (by omega) (by omega)) ⟨?_, rfl⟩)
  rw [e, n_ix (by omega)]
  exact R.f32 hm ha (by omega)
theorem K_need (R : RC lm g h) (I : INV c lm g) {e b : Nat} (he : e < q_n g 20) (hb : z_rv h 2 e = some b) {w d : Int32} (hw : 0 ≤ w.toInt ∧ w.toInt ≤ 999) (hd : 1 ≤ d.toInt ∧ d.toInt ≤ 300) : KV z_pI 39 [.ref b, .int w, .int d] h (a_nd w d (g 48 e)).toInt32 := by
  refine kv_of (C_39 b w d h R.w (R.w.et R.f hb) ⟨?_, rfl⟩)
  rw [R.f48 he hb, (a_need hw hd (I.be.at (k := 48) (a := 1) (b := 99) (by decide) he)).1]
theorem K_coal (R : RC lm g h) (I : INV c lm g) {e b : Nat} (he : e < q_n g 20) (hb : z_rv h 2 e = some b) {s d a : Int32} (hs : 0 ≤ s.toInt ∧ s.toInt ≤ 9999) (hd : 0 ≤ d.toInt ∧ d.toInt ≤ 1000000) (ha : 0 ≤ a.toInt ∧ a.toInt ≤ 100000) : KV z_pI 40 [.ref b, .int s, .int d, .int a] h (a_cl s.toInt64 (g 48 e) d a).toInt32 := by
  refine kv_of (C_40 b s d a h R.w (R.w.et R.f hb) ⟨?_, rfl⟩)
  rw [R.f48 he hb, (a_worn hd ha).1, (a_coal hs (I.be.at (k := 48) (a := 1) (b := 99) (by decide) he) hd ha).1]
theorem INV.o202 (I : INV c lm g) {k : Nat} (hk : k < q_n g 55) (s : Int32) : O_202 (Int32.ofNat k) s g := by
  have hk60 := I.r60 hk
  have bd := n_bd (N := 60) hk60 (by omega)
  have be : 0 ≤ (g 71 k).toInt ∧ (g 71 k).toInt < 12 := by
    have := (I.re k hk).1
    have := I.cnt.2.2.1
    omega
  have o := I.cn
  unfold O_202
  rw [n_ix (by omega)]
  refine ⟨bd, bd, be, fun _ => bd, fun _ _ => bd, fun _ _ _ => bd, fun _ _ _ => o, fun _ _ _ => bd, fun _ _ _ => o, fun _ _ _ _ => bd, fun _ _ _ _ => be, fun _ _ _ _ => bd, fun _ _ _ _ => bd, fun _ _ _ _ => bd, fun _ z _ _ => ?_, fun _ _ _ _ => bd, fun _ _ _ _ _ _ => bd, fun _ _ _ _ z _ => ?_, fun _ _ _ _ => bd⟩
  · rcases I.tk k hk with q | ⟨q1, q2, q3, q4⟩
    · exact absurd q.1 z
    · exact (a_old (s := 0) (l := 1) (s2 := g 80 k) (l2 := g 81 k) (c := g 82 k) (by decide) (by decide) q1 q2 q3).2.2
  · intro q
    have q' : q_hd g 0 (g 70 k) (g 72 k) (-4) = 0 := by
      have := congrArg Int64.toInt q
      rw [l_i] at this
      apply Int32.toInt_inj.mp
      exact this
    cases kk : q_la g (s_gr 0) (g 70 k) (g 72 k) with
    | none => exact z (q_hd_none kk)
    | some d =>
      by_cases w : g 62 d = 0
      · rw [q_hd_yes kk w] at q'
        have := (I.lv d (s_hold_some kk).1).1 w
        rw [q'] at this
        exact absurd this.1 (by decide)
      · exact z (q_hd_no kk w)
/-- the part that is told -/
theorem q_hd_share (I : INV c lm g) {x y : Int32} (z : ¬ q_hd g 0 x y (-4) = (-4 : Int32)) : 1 ≤ (q_hd g 0 x y (-4)).toInt ∧ (q_hd g 0 x y (-4)).toInt ≤ 9 := by
  cases kk : q_la g (s_gr 0) x y with
  | none => exact absurd (q_hd_none kk) z
  | some d =>
    by_cases w : g 62 d = 0
    · rw [q_hd_yes kk w]
      exact (I.lv d (s_hold_some kk).1).1 w
    · exact absurd (q_hd_no kk w) z
theorem q_hd_fixed (I : INV c lm g) {x y : Int32} (z : ¬ q_hd g 1 x y (-4) = (-4 : Int32)) : 0 ≤ (q_hd g 1 x y (-4)).toInt ∧ (q_hd g 1 x y (-4)).toInt ≤ 9999 := by
  cases kk : q_la g (s_gr 1) x y with
  | none => exact absurd (q_hd_none kk) z
  | some d =>
    by_cases w : g 62 d = 1
    · rw [q_hd_yes kk w]
      exact (I.lv d (s_hold_some kk).1).2.1 w
    · exact absurd (q_hd_no kk w) z
theorem RC.reng (R : RC lm g h) (I : INV c lm g) {k cc : Nat} (hk : k < q_n g 55) (hc : z_rv h 3 k = some cc) : ∃ b, z_rv h cc 0 = some b ∧ z_rv h 2 (z_ix (g 71 k)) = some b ∧ z_ix (g 71 k) < q_n g 20 ∧ z_iv h b 5 = g 70 k := by
  have he := (I.eo hk).1
  obtain ⟨b, hb⟩ := R.engine he
  exact ⟨b, (R.rengine hk hc).trans hb, hb, he, (R.f46 he hb).trans (I.re k hk).2.1.symm⟩
theorem K_ow (R : RC lm g h) (I : INV c lm g) {k cc B : Nat} (hk : k < q_n g 55) (hc : z_rv h 3 k = some cc) (hB : z_rv h 0 9 = some B) {s : Int32} (hs : 0 ≤ s.toInt ∧ s.toInt ≤ 700000) : KV z_pI 55 [.ref cc, .int s, .ref B] h (v_202 (Int32.ofNat k) s g) := by
  have hk60 := I.r60 hk
  obtain ⟨b, hr0, hb, he, hmo⟩ := R.reng I hk hc
  have e205 : 0 < (g 74 k).toInt → g 205 k = g 78 k := I.gk k hk
  have ix : z_ix (Int32.ofNat k) = k := n_ix (by omega)
  have b74 := I.br.at (k := 74) (a := 0) (b := 60) (by decide) hk
  refine kv_of (X_55 cc s B h R.w (R.w.rt R.f hc) (R.bt hB) (o_S hr0 ?_))
  rw [R.f47 he hb, hmo, R.f72 hk hc, R.f74 hk hc, R.f77 hk hc, R.f205 hk hc, R.f48 he hb]
  by_cases c1 : g 47 (z_ix (g 71 k)) = 1
  · rw [if_pos c1]
    rcases R.rtrial hk hc with ⟨t1, t2⟩ | ⟨t, t1, t2, i0, i1, i2, i3⟩
    · have hv : v_202 (Int32.ofNat k) s g = 0 := by unfold v_202; rw [ix, if_pos c1, if_pos t2]
      exact o_N t1 ⟨hv.symm, rfl⟩
    · refine o_S t1 ?_
      by_cases c2 : 0 < g 74 k
      · have c2i : 0 < (g 74 k).toInt := n_lt.mp c2
        have c2' : ¬ g 74 k = 0 := fun q => by rw [q] at c2i; exact absurd c2i (by decide)
        rw [if_pos c2, e205 c2i]
        refine ⟨_, K_fixed R I hB (g 70 k) (g 72 k), ?_⟩
        by_cases c3 : q_hd g 1 (g 70 k) (g 72 k) (-4) = (-4 : Int32)
        · rw [if_pos c3]
          refine ⟨_, K_share R I hB (g 70 k) (g 72 k), ?_⟩
          by_cases c4 : q_hd g 0 (g 70 k) (g 72 k) (-4) = (-4 : Int32)
          · have hv : v_202 (Int32.ofNat k) s g = 0 := by unfold v_202; rw [ix, if_pos c1, if_neg t2, if_neg c2', if_pos c3, if_pos c4]
            rw [if_pos c4]
            exact ⟨hv.symm, rfl⟩
          · rw [if_neg c4]
            rcases I.tk k hk with q | ⟨q1, q2, q3, q4⟩
            · exact absurd q.1 t2
            have bl := I.be.at (k := 48) (a := 1) (b := 99) (by decide) he
            have ol := a_old (s := s) (l := g 48 (z_ix (g 71 k))) (s2 := g 80 k) (l2 := g 81 k) (c := g 82 k) hs bl q1 q2 q3
            have sh := a_share (oc := a_oc s.toInt64 (g 48 (z_ix (g 71 k))) (g 80 k) (g 81 k) (g 82 k)) (b := g 77 k) (cn := g 78 k) (pt := q_hd g 0 (g 70 k) (g 72 k) (-4)) ol.2.1 (I.br.at (k := 77) (a := 0) (b := 59394060) (by decide) hk) (I.br.at (k := 78) (a := 0) (b := 99) (by decide) hk) (q_hd_share I c4)
            have hv : v_202 (Int32.ofNat k) s g = (if (0 : Int64) ≤ (a_oc s.toInt64 (g 48 (z_ix (g 71 k))) (g 80 k) (g 81 k) (g 82 k) - (g 77 k).toInt64) then (((a_oc s.toInt64 (g 48 (z_ix (g 71 k))) (g 80 k) (g 81 k) (g 82 k) - (g 77 k).toInt64) * (g 78 k).toInt64) / (q_hd g 0 (g 70 k) (g 72 k) (-4)).toInt64).toInt32 else (0 : Int32)) := by
              unfold v_202
              rw [ix, if_pos c1, if_neg t2, if_neg c2', if_pos c3, if_neg c4]
              rfl
            refine ⟨_, kv_of (C_97 t s (g 48 (z_ix (g 71 k))) (g 77 k) (g 78 k) (q_hd g 0 (g 70 k) (g 72 k) (-4)) h R.w (R.w.tyOf (R.w.rt R.f hc) t1 (by decide) rfl) ⟨rfl, rfl⟩), ?_, rfl⟩
            rw [i0, i1, i2]
            have e1 : g (80 + 1) k = g 81 k := rfl
            have e2 : g (80 + 2) k = g 82 k := rfl
            rw [e1, e2, ol.1, sh, hv]
        · have hv : v_202 (Int32.ofNat k) s g = q_hd g 1 (g 70 k) (g 72 k) (-4) * g 74 k := by unfold v_202; rw [ix, if_pos c1, if_neg t2, if_neg c2', if_neg c3]
          rw [if_neg c3]
          exact ⟨hv.symm, rfl⟩
      · have c2' : g 74 k = 0 := by
          apply Int32.toInt_inj.mp
          have : ¬ (0 : Int32).toInt < (g 74 k).toInt := fun q => c2 (n_lt.mpr q)
          have z : (0 : Int32).toInt = 0 := by decide
          omega
        have hv : v_202 (Int32.ofNat k) s g = 0 := by unfold v_202; rw [ix, if_pos c1, if_neg t2, if_pos c2']
        rw [if_neg c2]
        exact ⟨hv.symm, rfl⟩
  · have hv : v_202 (Int32.ofNat k) s g = 0 := by unfold v_202; rw [ix, if_neg c1]
    rw [if_neg c1]
    exact ⟨hv.symm, rfl⟩
/-- what is owed is never below 0, and has a bound -/
theorem v_202_bd (I : INV c lm g) {k : Nat} (hk : k < q_n g 55) {s : Int32} (hs : 0 ≤ s.toInt ∧ s.toInt ≤ 700000) : 0 ≤ (v_202 (Int32.ofNat k) s g).toInt ∧ (v_202 (Int32.ofNat k) s g).toInt ≤ 9900000 := by
  have hk60 := I.r60 hk
  have ix : z_ix (Int32.ofNat k) = k := n_ix (by omega)
  have z0 : (0 : Int32).toInt = 0 := by decide
  have he := (I.eo hk).1
  unfold v_202
  rw [ix]
  by_cases c1 : g 47 (z_ix (g 71 k)) = 1
  · rw [if_pos c1]
    by_cases t2 : g 80 k = 0
    · rw [if_pos t2, z0]; omega
    rw [if_neg t2]
    by_cases c2 : g 74 k = 0
    · rw [if_pos c2, z0]; omega
    rw [if_neg c2]
    by_cases c3 : q_hd g 1 (g 70 k) (g 72 k) (-4) = (-4 : Int32)
    · rw [if_pos c3]
      by_cases c4 : q_hd g 0 (g 70 k) (g 72 k) (-4) = (-4 : Int32)
      · rw [if_pos c4, z0]; omega
      rw [if_neg c4]
      rcases I.tk k hk with q | ⟨q1, q2, q3, q4⟩
      · exact absurd q.1 t2
      have bl := I.be.at (k := 48) (a := 1) (b := 99) (by decide) he
      have ol := a_old (s := s) (l := g 48 (z_ix (g 71 k))) (s2 := g 80 k) (l2 := g 81 k) (c := g 82 k) hs bl q1 q2 q3
      have b77 := I.br.at (k := 77) (a := 0) (b := 59394060) (by decide) hk
      have b78 := I.br.at (k := 78) (a := 0) (b := 99) (by decide) hk
      have sp := q_hd_share I c4
      change 0 ≤ (if (0 : Int64) ≤ (a_oc s.toInt64 (g 48 (z_ix (g 71 k))) (g 80 k) (g 81 k) (g 82 k) - (g 77 k).toInt64) then (((a_oc s.toInt64 (g 48 (z_ix (g 71 k))) (g 80 k) (g 81 k) (g 82 k) - (g 77 k).toInt64) * (g 78 k).toInt64) / (q_hd g 0 (g 70 k) (g 72 k) (-4)).toInt64).toInt32 else (0 : Int32)).toInt ∧ (if (0 : Int64) ≤ (a_oc s.toInt64 (g 48 (z_ix (g 71 k))) (g 80 k) (g 81 k) (g 82 k) - (g 77 k).toInt64) then (((a_oc s.toInt64 (g 48 (z_ix (g 71 k))) (g 80 k) (g 81 k) (g 82 k) - (g 77 k).toInt64) * (g 78 k).toInt64) / (q_hd g 0 (g 70 k) (g 72 k) (-4)).toInt64).toInt32 else (0 : Int32)).toInt ≤ 9900000
      generalize a_oc s.toInt64 (g 48 (z_ix (g 71 k))) (g 80 k) (g 81 k) (g 82 k) = oc at ol
      generalize q_hd g 0 (g 70 k) (g 72 k) (-4) = pt at sp
      have e2 : (oc - (g 77 k).toInt64).toInt = oc.toInt - (g 77 k).toInt := by rw [l_sub (by rw [l_i]; omega) (by rw [l_i]; omega), l_i]
      by_cases c5 : (0 : Int64) ≤ oc - (g 77 k).toInt64
      · rw [if_pos c5]
        have h5 : (0 : Int) ≤ (oc - (g 77 k).toInt64).toInt := l_le.mp c5
        have bb := m_bd (by omega : 0 ≤ oc.toInt - (g 77 k).toInt) (by omega : oc.toInt - (g 77 k).toInt ≤ 100000) b78.1 b78.2
        have e3 : ((oc - (g 77 k).toInt64) * (g 78 k).toInt64).toInt = (oc.toInt - (g 77 k).toInt) * (g 78 k).toInt := by rw [l_mul (by rw [e2, l_i]; omega) (by rw [e2, l_i]; omega), e2, l_i]
        have e4 : ((oc - (g 77 k).toInt64) * (g 78 k).toInt64 / pt.toInt64).toInt = (oc.toInt - (g 77 k).toInt) * (g 78 k).toInt / pt.toInt := by rw [d_dv (by rw [e3]; exact bb.1) (by rw [l_i]; omega), e3, l_i]
        have p1 := Int.ediv_nonneg bb.1 (by omega : 0 ≤ pt.toInt)
        have p2 := Int.ediv_le_self pt.toInt bb.1
        rw [i_l (by rw [e4]; omega) (by rw [e4]; omega), e4]
        omega
      · rw [if_neg c5, z0]; omega
    · rw [if_neg c3]
      have b74 := I.br.at (k := 74) (a := 0) (b := 60) (by decide) hk
      have fx := q_hd_fixed I c3
      have bb := m_bd fx.1 fx.2 b74.1 b74.2
      rw [i_mul (by omega) (by omega)]
      omega
  · rw [if_neg c1, z0]; omega
end T4
