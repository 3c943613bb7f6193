theorem INV.u88 {c : Nat} {lm : Nat → Nat} {g : zG} (I : INV c lm g) {i : Nat} {v : Int32} : INV c lm (z_up2 g 88 i v) := by
  have e := e_up (g := g) (r := 88) (i := i) (v := v)
  exact ⟨INV.t_cnt (an_of e rfl) (ag_of e rfl) I.cnt,
    INV.t_bm (an_of e rfl) (ag_of e rfl) I.bm,
    INV.t_pd (an_of e rfl) (ag_of e rfl) I.pd,
    INV.t_bw (an_of e rfl) (ag_of e rfl) I.bw,
    INV.t_bs (an_of e rfl) (ag_of e rfl) I.bs,
    INV.t_be (an_of e rfl) (ag_of e rfl) I.be,
    INV.t_br (an_of e rfl) (ag_of e rfl) I.br,
    INV.t_bl (an_of e rfl) (ag_of e rfl) I.bl,
    INV.t_bt (an_of e rfl) (ag_of e rfl) I.bt,
    INV.t_wc (an_of e rfl) (ag_of e rfl) I.wc,
    INV.t_wn (an_of e rfl) (ag_of e rfl) I.wn,
    INV.t_sh (an_of e rfl) (ag_of e rfl) I.sh,
    INV.t_la (an_of e rfl) (ag_of e rfl) I.la,
    INV.t_lv (an_of e rfl) (ag_of e rfl) I.lv,
    INV.t_em (an_of e rfl) (ag_of e rfl) I.em,
    INV.t_ca (an_of e rfl) (ag_of e rfl) I.ca,
    INV.t_ag (an_of e rfl) (ag_of e rfl) I.ag,
    INV.t_re (an_of e rfl) (ag_of e rfl) I.re,
    INV.t_tm (an_of e rfl) (ag_of e rfl) I.tm,
    INV.t_tk (an_of e rfl) (ag_of e rfl) I.tk,
    INV.t_zm (an_of e rfl) (ag_of e rfl) I.zm,
    INV.t_ze (an_of e rfl) (ag_of e rfl) I.ze,
    INV.t_gs (an_of e rfl) (ag_of e rfl) I.gs,
    INV.t_gc (an_of e rfl) (ag_of e rfl) I.gc,
    INV.t_gg (an_of e rfl) (ag_of e rfl) I.gg,
    INV.t_gk (an_of e rfl) (ag_of e rfl) I.gk,
    INV.t_wl (an_of e rfl) (ag_of e rfl) I.wl⟩
theorem INV.u59 {c : Nat} {lm : Nat → Nat} {g : zG} (I : INV c lm g) {i : Nat} {v : Int32} (hv : 0 ≤ v.toInt ∧ v.toInt ≤ 255) : INV c lm (z_up2 g 59 i v) := by
  have e := e_up (g := g) (r := 59) (i := i) (v := v)
  exact ⟨INV.t_cnt (an_of e rfl) (ag_of e rfl) I.cnt,
    INV.t_bm (an_of e rfl) (ag_of e rfl) I.bm,
    INV.t_pd (an_of e rfl) (ag_of e rfl) I.pd,
    INV.t_bw (an_of e rfl) (ag_of e rfl) I.bw,
    INV.t_bs (an_of e rfl) (ag_of e rfl) I.bs,
    INV.t_be (an_of e rfl) (ag_of e rfl) I.be,
    INV.t_br (an_of e rfl) (ag_of e rfl) I.br,
    INV.t_bl (an_of e rfl) (ag_of e rfl) I.bl,
    I.bt.up1 (a := 0) (b := 255) (by decide) hv,
    INV.t_wc (an_of e rfl) (ag_of e rfl) I.wc,
    INV.t_wn (an_of e rfl) (ag_of e rfl) I.wn,
    INV.t_sh (an_of e rfl) (ag_of e rfl) I.sh,
    INV.t_la (an_of e rfl) (ag_of e rfl) I.la,
    INV.t_lv (an_of e rfl) (ag_of e rfl) I.lv,
    INV.t_em (an_of e rfl) (ag_of e rfl) I.em,
    INV.t_ca (an_of e rfl) (ag_of e rfl) I.ca,
    INV.t_ag (an_of e rfl) (ag_of e rfl) I.ag,
    INV.t_re (an_of e rfl) (ag_of e rfl) I.re,
    INV.t_tm (an_of e rfl) (ag_of e rfl) I.tm,
    INV.t_tk (an_of e rfl) (ag_of e rfl) I.tk,
    INV.t_zm (an_of e rfl) (ag_of e rfl) I.zm,
    INV.t_ze (an_of e rfl) (ag_of e rfl) I.ze,
    INV.t_gs (an_of e rfl) (ag_of e rfl) I.gs,
    INV.t_gc (an_of e rfl) (ag_of e rfl) I.gc,
    INV.t_gg (an_of e rfl) (ag_of e rfl) I.gg,
    INV.t_gk (an_of e rfl) (ag_of e rfl) I.gk,
    INV.t_wl (an_of e rfl) (ag_of e rfl) I.wl⟩
section T14
variable {c : Nat} {g : zG} {h : zH}
theorem T_lay (X : AH c g h) (x1 x2 x3 : Int32) : ST z_pI 131 [.ref 0, .int x1, .int x2, .int x3] 229 [.ref 27, .int x1, .int x2, .int x3] c g h := by
  have I := X.i
  have R := X.r
  by_cases c1 : (0 : Int32) ≤ x1 ∧ x1 ≤ (3 : Int32)
  · obtain ⟨n, hn, rfl⟩ := n_lit 3 (by omega) c1
    have bd := n_bd (i := n) (N := 4) (by omega) (by omega)
    have ix : z_ix (Int32.ofNat n) = n := n_ix (by omega)
    rcases R.sheet (n := n) (by omega) with ⟨s1, s2⟩ | ⟨s1, s, s2, s3⟩
    · refine ST.ro X (-11) (X_229 _ _ _ g ?_) (kv_of (X_131 _ _ _ h R.w ?_))
      · rw [if_pos c1, ix, if_pos s1]; exact ⟨bd, rfl, SE.refl g⟩
      · rw [if_pos c1, ix]; exact ⟨bd, o_N s2 ⟨rfl, rfl⟩⟩
    · have lb := I.sh.at (k := 87) (i := n) (a := 0) (b := 48) (by decide) (by omega)
      have el : Int32.ofNat (z_ln h (s + 1)) = g 87 n := by rw [s3]; exact n_of lb.1
      by_cases c2 : (0 : Int32) ≤ x2 ∧ x2 ≤ g 87 n - 1
      · obtain ⟨j, hj, rfl⟩ := n_rng lb.1 c2
        have hj48 : j < 48 := by unfold z_ix at hj; omega
        have e : (48 : Int32) * Int32.ofNat n + Int32.ofNat j = Int32.ofNat (48 * n + j) := n_ma (a := 48)
        obtain ⟨w, hw⟩ : ∃ w, w = (if g 86 n = 0 then x3.toInt8.toInt32 else (if g 86 n = (1 : Int32) then x3.toInt16.toInt32 else x3)) := ⟨_, rfl⟩
        refine ST.up X 1 (k := 88) (i := 48 * n + j) (d := s + 1) (j := j) (w := w) ⟨n, s, by omega, s2, rfl, hj48, rfl⟩ (by omega) (I.t_c (Nat.le_succ c)).u88 ?_ ?_
        · refine X_229 _ _ _ g ?_
          rw [if_pos c1, ix, if_neg s1, if_pos c2, e, n_ix (by omega), bv_8, bv_16, ← hw]
          refine ⟨bd, bd, bd, fun _ => bd, fun m7 e7 => ?_⟩
          rw [e7]
          exact ⟨n_bd (N := 192) (by omega) (by omega), rfl, rfl⟩
        · refine X_131 _ _ _ h R.w ?_
          rw [if_pos c1, ix]
          refine ⟨bd, o_S s2 ?_⟩
          rw [el, if_pos c2, if_pos c2, R.f86 (by omega) s2, ← hw, s3, n_ix (by omega)]
          intro m6 e6
          rw [e6]
          refine ⟨?_, rfl, rfl⟩
          rw [n_i (by omega)]
          exact ⟨by omega, by omega⟩
      · refine ST.ro X (-12) (X_229 _ _ _ g ?_) (kv_of (X_131 _ _ _ h R.w ?_))
        · rw [if_pos c1, ix, if_neg s1, if_neg c2]; exact ⟨bd, bd, rfl, SE.refl g⟩
        · rw [if_pos c1, ix]
          refine ⟨bd, o_S s2 ?_⟩
          rw [el, if_neg c2]
          exact ⟨rfl, rfl⟩
  · exact ST.ro X (-1) (X_229 _ _ _ g (by rw [if_neg c1]; exact ⟨rfl, SE.refl g⟩)) (kv_of (X_131 _ _ _ h R.w (by rw [if_neg c1]; exact ⟨rfl, rfl⟩)))
/-! count -/
theorem n12 {i : Nat} (h : i < 12) : ¬ (12 : Int32) ≤ Int32.ofNat i := lit_le (a := 12) (by omega) (by omega) h
theorem INV.eno {lm : Nat → Nat} (I : INV c lm g) {i : Nat} (hi : ¬ i < q_n g 20) (h12 : i < 12) : ¬ ((0 : Int32) ≤ Int32.ofNat i ∧ Int32.ofNat i ≤ g 27 20 - 1) := by
  intro z
  obtain ⟨m, h1, h2⟩ := n_rng I.cnt.2.2.1.1 z
  have := I.e12 h1
  have := n_inj (by omega) (by omega) h2
  subst this
  exact hi h1
def q_e1 (g : zG) : Int32 := s_sum (fun i => z_bt (q_wk g (g 46 i) = some i)) (q_n g 20)
def q_e2 (g : zG) : Int32 := s_sum (fun i => z_bt (¬ g 55 i = 0)) (q_n g 20)
def q_e3 (g : zG) : Int32 := s_sum (fun i => g 57 i) (q_n g 20)
theorem INV.e20 {lm : Nat → Nat} (I : INV c lm g) : q_n g 20 ≤ 12 := by
  have := I.cnt.2.2.1
  unfold q_n z_ix; omega
theorem K_152 {lm : Nat → Nat} (R : RC lm g h) (I : INV c lm g) : KV z_pI 152 [.ref 0] h (q_e1 g) := by
  have hn := I.e20
  refine kv_of (X_152 h R.w ?_)
  refine z_lp (N := 12) (G := fun i => ∀ u, KG z_pI 152 4 [some (.ref 0), some (.int (s_sum (fun i => z_bt (q_wk g (g 46 i) = some i)) (min i (q_n g 20)))), some (.int (Int32.ofNat i)), u] [] h _) ?_ ?_ none
  · intro u
    refine X_152_4 _ _ u h R.w ?_
    rw [if_pos (show (12 : Int32) ≤ Int32.ofNat 12 from by decide), show min 12 (q_n g 20) = q_n g 20 by omega]
    exact ⟨rfl, rfl⟩
  · intro i hi w u
    refine X_152_4 _ _ u h R.w ?_
    rw [if_neg (n12 hi), n_s]
    by_cases hk : i < q_n g 20
    · rw [show min (i + 1) (q_n g 20) = i + 1 by omega] at w
      rw [show min i (q_n g 20) = i by omega]
      obtain ⟨b, ha⟩ := R.engine hk
      refine xa_S (K_engS R I hk ha) (R.w.et R.f ha) ?_
      refine ⟨_, K_iw R I hk ha, fun m10 e10 => ?_⟩
      have : m10 = s_sum (fun i => z_bt (q_wk g (g 46 i) = some i)) (i + 1) := by
        rw [e10, s_sum_s]
        by_cases z : q_wk g (g 46 i) = some i
        · rw [z_bt_1.mpr z, if_neg (by decide)]
        · rw [z_bt_0.mpr z, if_pos rfl, Int32.add_zero]
      rw [this]
      exact w _
    · rw [show min (i + 1) (q_n g 20) = q_n g 20 by omega] at w
      rw [show min i (q_n g 20) = q_n g 20 by omega]
      exact xa_N (K_engN R (I.eno hk hi)) (w _)
theorem K_153 {lm : Nat → Nat} (R : RC lm g h) (I : INV c lm g) : KV z_pI 153 [.ref 0] h (q_e2 g) := by
  have hn := I.e20
  refine kv_of (X_153 h R.w ?_)
  refine z_lp (N := 12) (G := fun i => ∀ u, KG z_pI 153 4 [some (.ref 0), some (.int (s_sum (fun i => z_bt (¬ g 55 i = 0)) (min i (q_n g 20)))), some (.int (Int32.ofNat i)), u] [] h _) ?_ ?_ none
  · intro u
    refine X_153_4 _ _ u h R.w ?_
    rw [if_pos (show (12 : Int32) ≤ Int32.ofNat 12 from by decide), show min 12 (q_n g 20) = q_n g 20 by omega]
    exact ⟨rfl, rfl⟩
  · intro i hi w u
    refine X_153_4 _ _ u h R.w ?_
    rw [if_neg (n12 hi), n_s]
    by_cases hk : i < q_n g 20
    · rw [show min (i + 1) (q_n g 20) = i + 1 by omega] at w
      rw [show min i (q_n g 20) = i by omega]
      obtain ⟨b, ha⟩ := R.engine hk
      refine xa_S (K_engS R I hk ha) (R.w.et R.f ha) ?_
      rw [R.f55 hk ha]
      intro m8 e8
      have : m8 = s_sum (fun i => z_bt (¬ g 55 i = 0)) (i + 1) := by
        rw [e8, s_sum_s]
        by_cases z : g 55 i = 0
        · rw [if_pos z, z_bt_0.mpr (fun q => q z), Int32.add_zero]
        · rw [if_neg z, z_bt_1.mpr z]
      rw [this]
      exact w _
    · rw [show min (i + 1) (q_n g 20) = q_n g 20 by omega] at w
      rw [show min i (q_n g 20) = q_n g 20 by omega]
      exact xa_N (K_engN R (I.eno hk hi)) (w _)
theorem K_154 {lm : Nat → Nat} (R : RC lm g h) (I : INV c lm g) : KV z_pI 154 [.ref 0] h (q_e3 g) := by
  have hn := I.e20
  refine kv_of (X_154 h R.w ?_)
  refine z_lp (N := 12) (G := fun i => ∀ u, KG z_pI 154 4 [some (.ref 0), some (.int (s_sum (fun i => g 57 i) (min i (q_n g 20)))), some (.int (Int32.ofNat i)), u] [] h _) ?_ ?_ none
  · intro u
    refine X_154_4 _ _ u h R.w ?_
    rw [if_pos (show (12 : Int32) ≤ Int32.ofNat 12 from by decide), show min 12 (q_n g 20) = q_n g 20 by omega]
    exact ⟨rfl, rfl⟩
  · intro i hi w u
    refine X_154_4 _ _ u h R.w ?_
    rw [if_neg (n12 hi), n_s]
    by_cases hk : i < q_n g 20
    · rw [show min (i + 1) (q_n g 20) = i + 1 by omega] at w
      rw [show min i (q_n g 20) = i by omega]
      obtain ⟨b, ha⟩ := R.engine hk
      refine xa_S (K_engS R I hk ha) (R.w.et R.f ha) ?_
      rw [R.f57 hk ha]
      exact w _
    · rw [show min (i + 1) (q_n g 20) = q_n g 20 by omega] at w
      rw [show min i (q_n g 20) = q_n g 20 by omega]
      exact xa_N (K_engN R (I.eno hk hi)) (w _)
theorem T_count (X : AH c g h) (x1 : Int32) : ST z_pI 134 [.ref 0, .int x1] 232 [.ref 27, .int x1] c g h := by
  have I := X.i
  have R := X.r
  obtain ⟨B, hB⟩ := R.bs
  have fin : ∀ {Q : Int32 → zG → Prop}, (MG z_pI 232 10 [some (.ref 27), some (.int x1), some (.int (q_e1 g)), some (.int (q_e2 g)), some (.int (q_e3 g)), some (.int (Int32.ofNat (q_n g 20)))] [] g Q) → MK z_pI 232 [.ref 27, .int x1] g Q := by
    intro Q q
    refine X_232 _ g ?_
    refine z_lp (N := q_n g 20) (G := fun i => MG z_pI 232 10 [some (.ref 27), some (.int x1), some (.int (s_sum (fun i => z_bt (q_wk g (g 46 i) = some i)) i)), some (.int (s_sum (fun i => z_bt (¬ g 55 i = 0)) i)), some (.int (s_sum (fun i => g 57 i) i)), some (.int (Int32.ofNat i))] [] g Q) q ?_
    intro i hi w
    have hb := I.e12 hi
    have bi := n_bd (N := 12) hb (by omega)
    refine X_232_10 _ _ _ _ _ g ?_
    rw [if_neg (n_cnt I.cnt.2.2.1.1 hi), n_ix (by omega), n_s]
    rw [s_sum_s, s_sum_s, s_sum_s] at w
    refine ⟨bi, I.cn, bi, bi, ?_⟩
    rw [z_bt_cg (s_no_eq (fun e he => by have := q_wk_12 I.cn he; omega) (by omega) : s_no (q_wk g (g 46 i)) = Int32.ofNat i ↔ q_wk g (g 46 i) = some i)]
    exact w
  have fin2 : ∀ {Q : Int32 → zG → Prop} (v : Int32), (if x1 = (0 : Int32) then v = g 27 0 else (if x1 = (1 : Int32) then v = g 27 1 else (if x1 = (2 : Int32) then v = g 27 20 else (if x1 = (3 : Int32) then v = q_e1 g else (if x1 = (4 : Int32) then v = q_e2 g else (if x1 = (5 : Int32) then v = g 27 55 else (if x1 = (6 : Int32) then v = g 27 45 else (if x1 = (7 : Int32) then v = q_e3 g else (if x1 = (8 : Int32) then v = g 27 35 else (if x1 = (9 : Int32) then v = (if g 86 0 = (-4 : Int32) then (-4 : Int32) else g 87 0) else v = (-1 : Int32))))))))))) → Q v g → MK z_pI 232 [.ref 27, .int x1] g Q := by
    intro Q v hv q
    refine fin (X_232_10 _ _ _ _ _ g ?_)
    rw [if_pos (q_end I.cnt.2.2.1.1)]
    refine z_ifd (fun c0 => ?_) (fun c0 => ?_)
    · rw [if_pos c0] at hv
      rw [← hv]; exact q
    rw [if_neg c0] at hv
    refine z_ifd (fun c1 => ?_) (fun c1 => ?_)
    · rw [if_pos c1] at hv
      rw [← hv]; exact q
    rw [if_neg c1] at hv
    refine z_ifd (fun c2 => ?_) (fun c2 => ?_)
    · rw [if_pos c2] at hv
      rw [← hv]; exact q
    rw [if_neg c2] at hv
    refine z_ifd (fun c3 => ?_) (fun c3 => ?_)
    · rw [if_pos c3] at hv
      rw [← hv]; exact q
    rw [if_neg c3] at hv
    refine z_ifd (fun c4 => ?_) (fun c4 => ?_)
    · rw [if_pos c4] at hv
      rw [← hv]; exact q
    rw [if_neg c4] at hv
    refine z_ifd (fun c5 => ?_) (fun c5 => ?_)
    · rw [if_pos c5] at hv
      rw [← hv]; exact q
    rw [if_neg c5] at hv
    refine z_ifd (fun c6 => ?_) (fun c6 => ?_)
    · rw [if_pos c6] at hv
      rw [← hv]; exact q
    rw [if_neg c6] at hv
    refine z_ifd (fun c7 => ?_) (fun c7 => ?_)
    · rw [if_pos c7] at hv
      rw [← hv]; exact q
    rw [if_neg c7] at hv
    refine z_ifd (fun c8 => ?_) (fun c8 => ?_)
    · rw [if_pos c8] at hv
      rw [← hv]; exact q
    rw [if_neg c8] at hv
    refine z_ifd (fun c9 => ?_) (fun c9 => ?_)
    · rw [if_pos c9] at hv
      exact ⟨fun _ => by decide, fun m13 e13 => by rw [e13]; rw [show z_ix (0 : Int32) = 0 from by decide, ← hv]; exact q⟩
    rw [if_neg c9] at hv
    rw [← hv]; exact q
  by_cases c0 : x1 = (0 : Int32)
  · subst c0
    refine ST.ro X (g 27 0) (fin2 _ (by rw [if_pos rfl]) ⟨rfl, SE.refl g⟩) (kv_of (X_134 _ h R.w ?_))
    rw [if_pos rfl]
    exact ⟨R.n0, rfl⟩
  by_cases c1 : x1 = (1 : Int32)
  · subst c1
    refine ST.ro X (g 27 1) (fin2 _ (by rw [if_neg (by decide), if_pos rfl]) ⟨rfl, SE.refl g⟩) (kv_of (X_134 _ h R.w ?_))
    rw [if_neg (by decide), if_pos rfl]
    exact ⟨R.n1, rfl⟩
  by_cases c2 : x1 = (2 : Int32)
  · subst c2
    refine ST.ro X (g 27 20) (fin2 _ (by rw [if_neg (by decide), if_neg (by decide), if_pos rfl]) ⟨rfl, SE.refl g⟩) (kv_of (X_134 _ h R.w ?_))
    rw [if_neg (by decide), if_neg (by decide), if_pos rfl]
    exact ⟨R.n20, rfl⟩
  by_cases c3 : x1 = (3 : Int32)
  · subst c3
    refine ST.ro X (q_e1 g) (fin2 _ (by rw [if_neg (by decide), if_neg (by decide), if_neg (by decide), if_pos rfl]) ⟨rfl, SE.refl g⟩) (kv_of (X_134 _ h R.w ?_))
    rw [if_neg (by decide), if_neg (by decide), if_neg (by decide), if_pos rfl]
    exact ⟨_, K_152 R I, rfl, rfl⟩
  by_cases c4 : x1 = (4 : Int32)
  · subst c4
    refine ST.ro X (q_e2 g) (fin2 _ (by rw [if_neg (by decide), if_neg (by decide), if_neg (by decide), if_neg (by decide), if_pos rfl]) ⟨rfl, SE.refl g⟩) (kv_of (X_134 _ h R.w ?_))
    rw [if_neg (by decide), if_neg (by decide), if_neg (by decide), if_neg (by decide), if_pos rfl]
    exact ⟨_, K_153 R I, rfl, rfl⟩
  by_cases c5 : x1 = (5 : Int32)
  · subst c5
    refine ST.ro X (g 27 55) (fin2 _ (by rw [if_neg (by decide), if_neg (by decide), if_neg (by decide), if_neg (by decide), if_neg (by decide), if_pos rfl]) ⟨rfl, SE.refl g⟩) (kv_of (X_134 _ h R.w ?_))
    rw [if_neg (by decide), if_neg (by decide), if_neg (by decide), if_neg (by decide), if_neg (by decide), if_pos rfl]
    exact ⟨R.n55, rfl⟩
  by_cases c6 : x1 = (6 : Int32)
  · subst c6
    refine ST.ro X (g 27 45) (fin2 _ (by rw [if_neg (by decide), if_neg (by decide), if_neg (by decide), if_neg (by decide), if_neg (by decide), if_neg (by decide), if_pos rfl]) ⟨rfl, SE.refl g⟩) (kv_of (X_134 _ h R.w ?_))
    rw [if_neg (by decide), if_neg (by decide), if_neg (by decide), if_neg (by decide), if_neg (by decide), if_neg (by decide), if_pos rfl]
    exact o_S hB ⟨R.n45 hB, rfl⟩
  by_cases c7 : x1 = (7 : Int32)
  · subst c7
    refine ST.ro X (q_e3 g) (fin2 _ (by rw [if_neg (by decide), if_neg (by decide), if_neg (by decide), if_neg (by decide), if_neg (by decide), if_neg (by decide), if_neg (by decide), if_pos rfl]) ⟨rfl, SE.refl g⟩) (kv_of (X_134 _ h R.w ?_))
    rw [if_neg (by decide), if_neg (by decide), if_neg (by decide), if_neg (by decide), if_neg (by decide), if_neg (by decide), if_neg (by decide), if_pos rfl]
    exact ⟨_, K_154 R I, rfl, rfl⟩
  by_cases c8 : x1 = (8 : Int32)
  · subst c8
    refine ST.ro X (g 27 35) (fin2 _ (by rw [if_neg (by decide), if_neg (by decide), if_neg (by decide), if_neg (by decide), if_neg (by decide), if_neg (by decide), if_neg (by decide), if_neg (by decide), if_pos rfl]) ⟨rfl, SE.refl g⟩) (kv_of (X_134 _ h R.w ?_))
    rw [if_neg (by decide), if_neg (by decide), if_neg (by decide), if_neg (by decide), if_neg (by decide), if_neg (by decide), if_neg (by decide), if_neg (by decide), if_pos rfl]
    exact ⟨R.n35, rfl⟩
  by_cases c9 : x1 = (9 : Int32)
  · subst c9
    refine ST.ro X ((if g 86 0 = (-4 : Int32) then (-4 : Int32) else g 87 0)) (fin2 _ (by rw [if_neg (by decide), if_neg (by decide), if_neg (by decide), if_neg (by decide), if_neg (by decide), if_neg (by decide), if_neg (by decide), if_neg (by decide), if_neg (by decide), if_pos rfl]) ⟨rfl, SE.refl g⟩) (kv_of (X_134 _ h R.w ?_))
    rw [if_neg (by decide), if_neg (by decide), if_neg (by decide), if_neg (by decide), if_neg (by decide), if_neg (by decide), if_neg (by decide), if_neg (by decide), if_neg (by decide), if_pos rfl]
    exact (by
      rw [show z_ix (0 : Int32) = 0 from by decide]
      rcases R.sheet (n := 0) (by omega) with ⟨s1, s2⟩ | ⟨s1, s, s2, s3⟩
      · exact o_N s2 ⟨by rw [if_pos s1], rfl⟩
      · refine o_S s2 ⟨?_, rfl⟩
        rw [if_neg s1, s3]
        exact n_of (I.sh.at (k := 87) (i := 0) (a := 0) (b := 48) (by decide) (by omega)).1)
  exact ST.ro X (-1) (fin2 _ (by rw [if_neg c0, if_neg c1, if_neg c2, if_neg c3, if_neg c4, if_neg c5, if_neg c6, if_neg c7, if_neg c8, if_neg c9]) ⟨rfl, SE.refl g⟩) (kv_of (X_134 _ h R.w (by rw [if_neg c0, if_neg c1, if_neg c2, if_neg c3, if_neg c4, if_neg c5, if_neg c6, if_neg c7, if_neg c8, if_neg c9]; exact ⟨rfl, rfl⟩)))
/-! deal -/
theorem a_part {x s al : Int32} (hx : 0 ≤ x.toInt ∧ x.toInt ≤ 999999) (hs : 0 ≤ s.toInt ∧ s.toInt ≤ 99) (ha : 1 ≤ al.toInt ∧ al.toInt ≤ 792) : s_dn (x.toInt64 * s.toInt64) al.toInt64 = (x * s / al).toInt64 ∧ 0 ≤ (x * s / al).toInt ∧ (x * s / al).toInt ≤ 98999901 := by
  have b := m_bd hx.1 hx.2 hs.1 hs.2
  have e1 : (x.toInt64 * s.toInt64).toInt = x.toInt * s.toInt := by rw [l_mul (by rw [l_i, l_i]; omega) (by rw [l_i, l_i]; omega), l_i, l_i]
  have e2 : (x * s).toInt = x.toInt * s.toInt := i_mul (by omega) (by omega)
  have e3 : (x * s / al).toInt = x.toInt * s.toInt / al.toInt := by rw [i_div (by rw [e2]; omega), e2, Int.tdiv_eq_ediv_of_nonneg b.1]
  have p1 := Int.ediv_nonneg b.1 (by omega : 0 ≤ al.toInt)
  have p2 := Int.ediv_le_self al.toInt b.1
  refine ⟨?_, by rw [e3]; exact p1, by rw [e3]; omega⟩
  apply Int64.toInt_inj.mp
  rw [d_dn (by rw [e1]; exact b.1) (by rw [l_i]; omega), d_dv (by rw [e1]; exact b.1) (by rw [l_i]; omega), e1, l_i, l_i, e3]
def q_al (g : zG) (m : Nat) : Int32 := s_sum (fun i => g 35 (8 * m + i)) 8
theorem K_al {lm : Nat → Nat} (R : RC lm g h) {m a : Nat} (hm : m < q_n g 1) (ha : z_rv h 1 m = some a) : KV z_pI 50 [.ref a] h (q_al g m) := by
  have ta := R.w.mt R.f ha
  refine kv_of (X_50 a h R.w ta ?_)
  refine z_lp (N := 8) (G := fun i => KG z_pI 50 4 [some (.ref a), some (.int (s_sum (fun i => g 35 (8 * m + i)) i)), some (.int (Int32.ofNat i))] [] h _) ?_ ?_
  · refine X_50_4 a _ _ h R.w ta ?_
    rw [if_pos (show (8 : Int32) ≤ Int32.ofNat 8 from by decide)]
    exact ⟨rfl, rfl⟩
  · intro i hi w
    refine X_50_4 a _ _ h R.w ta ?_
    rw [if_neg (show ¬ (8 : Int32) ≤ _ from lit_le (a := 8) (by omega) (by omega) hi), n_ix (by omega), n_s, R.f35 hm ha hi]
    rw [s_sum_s] at w
    exact ⟨n_bd (N := 8) hi (by omega), w⟩
theorem q_al_bd {lm : Nat → Nat} (I : INV c lm g) {m : Nat} (hm6 : m < 6) : 0 ≤ (q_al g m).toInt ∧ (q_al g m).toInt ≤ 792 := by
  have := s_sum_bd (f := fun i => g 35 (8 * m + i)) (A := 99) (n := 8) (by omega) (by omega) (by omega) (fun i hi => I.bs.at (k := 35) (a := 0) (b := 99) (by decide) (by omega))
  unfold q_al
  omega
def q_dl (g : zG) (m : Nat) (x : Int32) (n : Nat) : Int32 := s_sum (fun i => x * g 35 (8 * m + i) / q_al g m) n
def q_hd2 (g : zG) (m : Nat) (p : Int32) (n : Nat) : Int32 := s_sum (fun i => z_bt (¬ (p ≤ Int32.ofNat i) ∧ ¬ (g 35 (8 * m + i) ≤ 0))) n
theorem K_part {lm : Nat → Nat} (R : RC lm g h) {m a p : Nat} (hm : m < q_n g 1) (ha : z_rv h 1 m = some a) (hp : p < 8) : KV z_pI 53 [.ref a, .int (Int32.ofNat p)] h (g 35 (8 * m + p)) := by
  have hb : (0 : Int32) ≤ Int32.ofNat p ∧ Int32.ofNat p ≤ (7 : Int32) := by
    rw [n_le, n_le, n_i (by omega)]
    show (0 : Int) ≤ _ ∧ _ ≤ (7 : Int)
    omega
  refine kv_of (C_53 a _ h R.w (R.w.mt R.f ha) (fun _ => n_bd (N := 8) hp (by omega)) ⟨?_, rfl⟩)
  rw [if_pos hb, n_ix (by omega)]
  exact R.f35 hm ha hp
theorem K_whole {lm : Nat → Nat} (R : RC lm g h) (I : INV c lm g) {m a p : Nat} (hm : m < q_n g 1) (ha : z_rv h 1 m = some a) (hp : p < 8) {x : Int32} (hx : 0 ≤ x.toInt ∧ x.toInt ≤ 999999) (hal : ¬ q_al g m = 0) : KV z_pL 52 [.ref a, .int (Int32.ofNat p), .int x, .int (q_al g m)] h (x * g 35 (8 * m + p) / q_al g m).toInt64 := by
  have hm6 := I.m6 hm
  have hb : (0 : Int32) ≤ Int32.ofNat p ∧ Int32.ofNat p ≤ (7 : Int32) := by
    rw [n_le, n_le, n_i (by omega)]
    show (0 : Int) ≤ _ ∧ _ ≤ (7 : Int)
    omega
  have ab := q_al_bd I hm6
  have a1 : 1 ≤ (q_al g m).toInt := by
    have : ¬ (q_al g m).toInt = 0 := fun q => hal (Int32.toInt_inj.mp (by rw [q]; rfl))
    omega
  refine kv_of (C_52 a _ x (q_al g m) h R.w (R.w.mt R.f ha) (fun _ => n_bd (N := 8) hp (by omega)) ⟨?_, rfl⟩)
  rw [if_pos hb, n_ix (by omega), R.f35 hm ha hp]
  exact (a_part hx (I.bs.at (k := 35) (a := 0) (b := 99) (by decide) (by omega)) ⟨a1, ab.2⟩).1
theorem T_deal (X : AH c g h) (x1 x2 x3 : Int32) : ST z_pI 124 [.ref 0, .int x1, .int x2, .int x3] 214 [.ref 27, .int x1, .int x2, .int x3] c g h := by
  have I := X.i
  have R := X.r
  rcases I.mi x1 with hx | ⟨m, hm, hm6, rfl⟩
  · exact ST.ro X (-1) (X_214 _ _ _ g (by rw [if_neg hx]; exact ⟨rfl, SE.refl g⟩)) (kv_of (X_124 _ _ _ h R.w (xa_N (K_mineN R hx) ⟨rfl, rfl⟩)))
  obtain ⟨a, ha⟩ := R.mine hm
  have kS := K_mineS R I hm ha
  have ta := R.w.mt R.f ha
  by_cases c2 : (0 : Int32) ≤ x2 ∧ x2 ≤ (999999 : Int32)
  · by_cases c3 : (0 : Int32) ≤ x3 ∧ x3 ≤ (7 : Int32)
    · obtain ⟨p, hp, rfl⟩ := n_lit 7 (by omega) c3
      have xb := n_bnd (a := 0) (b := 999999) (by omega) (by omega) c2
      have e8 : ∀ i, (8 : Int32) * Int32.ofNat m + Int32.ofNat i = Int32.ofNat (8 * m + i) := fun i => n_ma (a := 8)
      have sb : ∀ i, i < 8 → 0 ≤ (g 35 (8 * m + i)).toInt ∧ (g 35 (8 * m + i)).toInt ≤ 99 := fun i hi => I.bs.at (k := 35) (a := 0) (b := 99) (by decide) (by omega)
      have l1 : ∀ {Q : Int32 → zG → Prop}, (if q_al g m = 0 then Q (-4) g else MG z_pI 214 87 [some (.ref 27), some (.int (Int32.ofNat m)), some (.int x2), some (.int (Int32.ofNat p)), some (.int (q_al g m)), some (.int (0 : Int32)), some (.int (0 : Int32)), some (.int (0 : Int32))] [] g Q) → MK z_pI 214 [.ref 27, .int (Int32.ofNat m), .int x2, .int (Int32.ofNat p)] g Q := by
        intro Q q
        refine X_214 _ _ _ g ?_
        rw [if_pos (I.mv hm), if_pos c2, if_pos c3]
        refine z_lp (N := 8) (G := fun i => MG z_pI 214 40 [some (.ref 27), some (.int (Int32.ofNat m)), some (.int x2), some (.int (Int32.ofNat p)), some (.int (s_sum (fun i => g 35 (8 * m + i)) i)), some (.int (Int32.ofNat i)), none, none] [] g Q) ?_ ?_
        · refine X_214_40 _ _ _ _ _ _ _ g ?_
          rw [if_pos (show (8 : Int32) ≤ Int32.ofNat 8 from by decide)]
          exact q
        · intro i hi w
          refine X_214_40 _ _ _ _ _ _ _ g ?_
          rw [if_neg (show ¬ (8 : Int32) ≤ _ from lit_le (a := 8) (by omega) (by omega) hi), e8, n_ix (by omega), n_s]
          rw [s_sum_s] at w
          exact ⟨n_bd (N := 48) (by omega) (by omega), w⟩
      by_cases c4 : q_al g m = 0
      · refine ST.ro X (-4) (l1 (by rw [if_pos c4]; exact ⟨rfl, SE.refl g⟩)) (kv_of (X_124 _ _ _ h R.w (xa_S kS ta ?_)))
        rw [if_pos c2, if_pos c3]
        refine ⟨_, K_al R hm ha, ?_⟩
        rw [if_pos c4]
        exact ⟨rfl, rfl⟩
      have ab := q_al_bd I hm6
      have a1 : 1 ≤ (q_al g m).toInt := by
        have : ¬ (q_al g m).toInt = 0 := fun q => c4 (Int32.toInt_inj.mp (by rw [q]; rfl))
        omega
      have pt : ∀ i, i < 8 → _ := fun i hi => a_part xb (sb i hi) ⟨a1, ab.2⟩
      have db : ∀ n, n ≤ 8 → 0 ≤ (q_dl g m x2 n).toInt ∧ (q_dl g m x2 n).toInt ≤ 98999901 * (n : Int) := by
        intro n
        induction n with
        | zero => intro _; unfold q_dl s_sum; exact ⟨by decide, by decide⟩
        | succ n ih =>
          intro hn
          have i1 := ih (by omega)
          have i2 := (pt n (by omega)).2
          unfold q_dl at i1 ⊢
          rw [s_sum_s, i_add (by omega) (by omega)]
          omega
      obtain ⟨s, hs⟩ : ∃ s, s = g 35 (8 * m + p) := ⟨_, rfl⟩
      obtain ⟨D, hD⟩ : ∃ D, D = q_dl g m x2 8 := ⟨_, rfl⟩
      obtain ⟨A, hA⟩ : ∃ A, A = q_hd2 g m (Int32.ofNat p) 8 := ⟨_, rfl⟩
      have dD := db 8 (by omega)
      rw [← hD] at dD
      have eD : (x2 - D).toInt = x2.toInt - D.toInt := i_sub (by omega) (by omega)
      have pp := (pt p (by omega)).2
      refine ST.ro X (x2 * s / q_al g m + z_bt (¬ (s ≤ 0) ∧ ¬ (x2 - D ≤ A))) (l1 ?_) (kv_of (X_124 _ _ _ h R.w (xa_S kS ta ?_)))
      · rw [if_neg c4]
        refine z_lp (N := 8) (G := fun i => MG z_pI 214 87 [some (.ref 27), some (.int (Int32.ofNat m)), some (.int x2), some (.int (Int32.ofNat p)), some (.int (q_al g m)), some (.int (q_dl g m x2 i)), some (.int (q_hd2 g m (Int32.ofNat p) i)), some (.int (Int32.ofNat i))] [] g _) ?_ ?_
        · refine X_214_87 _ _ _ _ _ _ _ g ?_
          rw [if_pos (show (8 : Int32) ≤ Int32.ofNat 8 from by decide), e8, n_ix (by omega), ← hs, ← hD, ← hA]
          exact ⟨n_bd (N := 48) (by omega) (by omega), c4, rfl, SE.refl g⟩
        · intro i hi w
          have bd := n_bd (i := 8 * m + i) (N := 48) (by omega) (by omega)
          refine X_214_87 _ _ _ _ _ _ _ g ?_
          rw [if_neg (show ¬ (8 : Int32) ≤ _ from lit_le (a := 8) (by omega) (by omega) hi), e8, n_ix (by omega), n_s]
          exact ⟨bd, c4, fun _ => bd, w⟩
      · rw [if_pos c2, if_pos c3]
        refine ⟨_, K_al R hm ha, ?_⟩
        rw [if_neg c4]
        refine ⟨x2 * s / q_al g m + z_bt (¬ (s ≤ 0) ∧ ¬ (x2 - D ≤ A)), ?_, rfl, rfl⟩
        refine kv_of (X_51 a _ _ _ h R.w ta ?_)
        have e0 : x2.toInt64 = x2.toInt64 - (q_dl g m x2 0).toInt64 := by
          apply Int64.toInt_inj.mp
          have z : (q_dl g m x2 0).toInt = 0 := by unfold q_dl s_sum; decide
          rw [l_sub (by rw [l_i, l_i, z]; omega) (by rw [l_i, l_i, z]; omega), l_i, l_i, z]
          omega
        rw [e0]
        refine z_lp (N := 8) (G := fun i => KG z_pI 51 10 [some (.ref a), some (.int (Int32.ofNat p)), some (.int x2), some (.int (q_al g m)), some (.long (x2.toInt64 - (q_dl g m x2 i).toInt64)), none, some (.int (q_hd2 g m (Int32.ofNat p) i)), some (.int (Int32.ofNat i)), none, none] [] h _) ?_ ?_
        · refine X_51_10 a _ _ _ _ _ _ _ _ h R.w ta ?_
          rw [if_pos (show (8 : Int32) ≤ Int32.ofNat 8 from by decide), ← hD, ← hA]
          refine ⟨_, K_whole R I hm ha (by omega) xb c4, _, K_part R hm ha (by omega), fun m9 e9 => ?_⟩
          rw [← hs] at e9
          refine ⟨?_, rfl⟩
          have cond : (¬ (s ≤ 0) ∧ (¬ (x2.toInt64 - D.toInt64 ≤ A.toInt64))) ↔ (¬ (s ≤ 0) ∧ ¬ (x2 - D ≤ A)) := by
            have : x2.toInt64 - D.toInt64 ≤ A.toInt64 ↔ x2 - D ≤ A := by
              rw [l_le, n_le, eD, l_sub (by rw [l_i, l_i]; omega) (by rw [l_i, l_i]; omega), l_i, l_i, l_i]
            rw [this]
          rw [← hs] at pp
          by_cases z : ¬ (s ≤ 0) ∧ ¬ (x2 - D ≤ A)
          · rw [if_pos (cond.mpr z)] at e9
            rw [e9, z_bt_1.mpr z]
            apply Int32.toInt_inj.mp
            have t1 : (1 : Int64).toInt = 1 := by decide
            have t2 : (1 : Int32).toInt = 1 := by decide
            have e10 : ((x2 * s / q_al g m).toInt64 + 1).toInt = (x2 * s / q_al g m).toInt + 1 := by rw [l_add (by rw [l_i, t1]; omega) (by rw [l_i, t1]; omega), l_i, t1]
            rw [i_l (by rw [e10]; omega) (by rw [e10]; omega), e10, i_add (by rw [t2]; omega) (by rw [t2]; omega), t2]
          · rw [if_neg (fun q => z (cond.mp q))] at e9
            rw [e9, z_bt_0.mpr z, Int32.add_zero]
            apply Int32.toInt_inj.mp
            rw [i_l (by rw [l_i]; omega) (by rw [l_i]; omega), l_i]
        · intro i hi w
          refine X_51_10 a _ _ _ _ _ _ _ _ h R.w ta ?_
          rw [if_neg (show ¬ (8 : Int32) ≤ _ from lit_le (a := 8) (by omega) (by omega) hi), n_ix (by omega), n_s, R.f35 hm ha hi]
          refine ⟨_, K_whole R I hm ha hi xb c4, fun _ => n_bd (N := 8) hi (by omega), fun m16 e16 => ?_⟩
          have dn := db i (by omega)
          have pi := (pt i hi).2
          have w1 : x2.toInt64 - (q_dl g m x2 i).toInt64 - (x2 * g 35 (8 * m + i) / q_al g m).toInt64 = x2.toInt64 - (q_dl g m x2 (i + 1)).toInt64 := by
            apply Int64.toInt_inj.mp
            have f1 : (q_dl g m x2 (i + 1)).toInt = (q_dl g m x2 i).toInt + (x2 * g 35 (8 * m + i) / q_al g m).toInt := by
              unfold q_dl at dn ⊢
              rw [s_sum_s, i_add (by omega) (by omega)]
            have f2 : (x2.toInt64 - (q_dl g m x2 i).toInt64).toInt = x2.toInt - (q_dl g m x2 i).toInt := by rw [l_sub (by rw [l_i, l_i]; omega) (by rw [l_i, l_i]; omega), l_i, l_i]
            rw [l_sub (by rw [f2, l_i]; omega) (by rw [f2, l_i]; omega), f2, l_i, l_sub (by rw [l_i, l_i, f1]; omega) (by rw [l_i, l_i, f1]; omega), l_i, l_i, f1]
            omega
          have w2 : m16 = q_hd2 g m (Int32.ofNat p) (i + 1) := by
            unfold q_hd2
            rw [e16, s_sum_s]
            by_cases z1 : Int32.ofNat p ≤ Int32.ofNat i
            · rw [if_pos z1, z_bt_0.mpr (fun q => q.1 z1), Int32.add_zero]; rfl
            · by_cases z2 : g 35 (8 * m + i) ≤ 0
              · rw [if_neg z1, if_pos z2, z_bt_0.mpr (fun q => q.2 z2), Int32.add_zero]; rfl
              · rw [if_neg z1, if_neg z2, z_bt_1.mpr ⟨z1, z2⟩]; rfl
          rw [w1, w2]
          exact w
    · exact ST.ro X (-1) (X_214 _ _ _ g (by rw [if_pos (I.mv hm), if_pos c2, if_neg c3]; exact ⟨rfl, SE.refl g⟩)) (kv_of (X_124 _ _ _ h R.w (xa_S kS ta (by rw [if_pos c2, if_neg c3]; exact ⟨rfl, rfl⟩))))
  · exact ST.ro X (-1) (X_214 _ _ _ g (by rw [if_pos (I.mv hm), if_neg c2]; exact ⟨rfl, SE.refl g⟩)) (kv_of (X_124 _ _ _ h R.w (xa_S kS ta (by rw [if_neg c2]; exact ⟨rfl, rfl⟩))))
end T14
