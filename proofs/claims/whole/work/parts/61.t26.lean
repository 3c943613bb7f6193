def g_mo (g : zG) : Nat → zG
  | 0 => g
  | n + 1 => g_go (g_mo g n) n
def n_mo (g : zG) : Nat → Int32
  | 0 => 0
  | n + 1 => n_mo g n + g_mo g (n + 1) 38 (60 * n + q_n g 0)
theorem go_27 {g : zG} {m : Nat} : g_go g m 27 = g 27 := by
  cases k : q_wk g (Int32.ofNat m) with
  | none => rw [g_go_N k, gT_ne (by omega)]; rfl
  | some e => rw [g_go_S k, gT_ne (by omega)]; rfl
theorem mo_27 {g : zG} : ∀ {n}, g_mo g n 27 = g 27 := by
  intro n
  induction n with
  | zero => rfl
  | succ n ih => exact go_27.trans ih
theorem mo_q {g : zG} {n j : Nat} : q_n (g_mo g n) j = q_n g j := by unfold q_n; rw [mo_27]
theorem go_01 {g : zG} {m : Nat} : g_go g m 38 (60 * m + q_n g 0) = 0 ∨ g_go g m 38 (60 * m + q_n g 0) = 1 := by
  cases k : q_wk g (Int32.ofNat m) with
  | none => rw [g_go_N k, gT_38]; exact z_bt_01
  | some e => rw [g_go_S k, gT_38]; exact z_bt_01
def l_mo (t k m : Nat) : Nat := if m < k then t + 1 else t
section MS
variable {c : Nat} {lm : Nat → Nat} {g : zG} {h : zH}
theorem INV.mo' (I : INV c (fun _ => q_n g 0) g) (ht : q_n g 0 < 60) : ∀ k, k ≤ q_n g 1 → INV c (l_mo (q_n g 0) k) (g_mo g k) := by
  intro k
  induction k with
  | zero =>
    intro _
    have e : l_mo (q_n g 0) 0 = fun _ => q_n g 0 := by funext m; exact if_neg (by omega)
    rw [e]
    exact I
  | succ k ih =>
    intro hk
    refine (ih (by omega)).go (by rw [mo_q]; omega) (by rw [mo_q]; exact ht) ?_ ?_ ?_
    · rw [mo_q]; exact if_neg (by omega)
    · rw [mo_q]; exact if_pos (by omega)
    · intro m' _ q
      unfold l_mo
      by_cases z : m' < k
      · rw [if_pos z, if_pos (by omega)]
      · rw [if_neg z, if_neg (by omega)]
theorem INV.nxt (I : INV c lm g) (ht : (g 27 0).toInt < 60) (hl : ∀ m, m < 6 → (g 27 0).toInt + 1 ≤ (lm m : Int)) : INV c lm (z_up2 g 27 0 (g 27 0 + 1)) := by
  have c0 := I.cnt.1
  have t1 : (1 : Int32).toInt = 1 := by decide
  have e : ∀ k, [27].contains k = false → z_up2 g 27 0 (g 27 0 + 1) k = g k := by
    intro k hk
    simp at hk
    exact up_ne (by omega)
  have en : ∀ {N : List Nat}, N.contains 0 = false → ∀ j, j ∈ N → z_up2 g 27 0 (g 27 0 + 1) 27 j = g 27 j := by
    intro N hN j hj
    refine up_nj (fun q => ?_)
    rw [q.2] at hj
    simp at hN
    exact hN hj
  have v0 : (z_up2 g 27 0 (g 27 0 + 1) 27 0).toInt = (g 27 0).toInt + 1 := by
    rw [up_at, i_add (by omega) (by omega), t1]
  have q20 : q_n (z_up2 g 27 0 (g 27 0 + 1)) 20 = q_n g 20 := rfl
  have q55 : q_n (z_up2 g 27 0 (g 27 0 + 1)) 55 = q_n g 55 := rfl
  exact ⟨by
      have a := I.cnt
      rw [v0, up_nj (by omega), up_nj (by omega), up_nj (by omega), up_nj (by omega), up_nj (by omega)]
      exact ⟨by omega, a.2⟩,
    INV.t_bm (en rfl) (ag_of e rfl) I.bm,
    INV.t_pd (en rfl) (ag_of e rfl) I.pd,
    INV.t_bw (en rfl) (ag_of e rfl) I.bw,
    INV.t_bs (en rfl) (ag_of e rfl) I.bs,
    INV.t_be (en rfl) (ag_of e rfl) I.be,
    INV.t_br (en rfl) (ag_of e rfl) I.br,
    INV.t_bl (en rfl) (ag_of e rfl) I.bl,
    INV.t_bt (en rfl) (ag_of e rfl) I.bt,
    INV.t_wc (en rfl) (ag_of e rfl) I.wc,
    INV.t_wn (en rfl) (ag_of e rfl) I.wn,
    INV.t_sh (en rfl) (ag_of e rfl) I.sh,
    INV.t_la (en rfl) (ag_of e rfl) I.la,
    INV.t_lv (en rfl) (ag_of e rfl) I.lv,
    INV.t_em (en rfl) (ag_of e rfl) I.em,
    by
      intro x hx
      rw [q20] at hx
      have := I.ca x hx
      rw [v0, e 58 rfl]
      omega,
    INV.t_ag (en rfl) (ag_of e rfl) I.ag,
    by
      intro k hk
      rw [q55] at hk
      have w := I.re k hk
      rw [v0, e 71 rfl, e 70 rfl, e 46 rfl, e 72 rfl, up_nj (by omega)]
      exact ⟨w.1, w.2.1, w.2.2.1, by omega⟩,
    INV.t_tm (en rfl) (ag_of e rfl) I.tm,
    INV.t_tk (en rfl) (ag_of e rfl) I.tk,
    INV.t_zm (en rfl) (ag_of e rfl) I.zm,
    INV.t_ze (en rfl) (ag_of e rfl) I.ze,
    INV.t_gs (en rfl) (ag_of e rfl) I.gs,
    INV.t_gc (en rfl) (ag_of e rfl) I.gc,
    INV.t_gg (en rfl) (ag_of e rfl) I.gg,
    INV.t_gk (en rfl) (ag_of e rfl) I.gk,
    by
      intro m hm
      rw [v0]
      have := I.wl m hm
      have := hl m hm
      omega⟩
theorem T_month (X : AH c g h) : ST z_pI 106 [.ref 0] 177 [.ref 27] c g h := by
  have I := X.i
  have R := X.r
  have c0 := I.cnt.1
  have c1 := I.cnt.2.1
  have t60 : (60 : Int32).toInt = 60 := by decide
  have t1 : (1 : Int32).toInt = 1 := by decide
  by_cases q : g 27 0 = 60
  · have q' : ¬ g 27 0 < 60 := by rw [q]; decide
    exact ST.ro X (-3) (X_177 g (by rw [if_pos q]; exact ⟨rfl, SE.refl g⟩)) (kv_of (X_106 h R.w (by rw [R.n0, if_neg q']; exact ⟨rfl, rfl⟩)))
  have h60 : (g 27 0).toInt < 60 := by
    have : ¬ (g 27 0).toInt = 60 := fun z => q (Int32.toInt_inj.mp (by rw [z, t60]))
    omega
  have q' : g 27 0 < 60 := n_lt.mpr (by rw [t60]; exact h60)
  have ht : q_n g 0 < 60 := by unfold q_n z_ix; omega
  have N6 : q_n g 1 ≤ 6 := by unfold q_n z_ix; omega
  have q0 : (q_n g 0 : Int) = (g 27 0).toInt := by unfold q_n z_ix; omega
  have hN := X.2.2.1
  obtain ⟨g2, hg2⟩ : ∃ g2, g2 = z_up2 (g_mo g (q_n g 1)) 27 0 (g 27 0 + 1) := ⟨_, rfl⟩
  have n0 : q_n g2 0 = q_n g 0 + 1 := by
    rw [hg2]
    unfold q_n z_ix
    rw [up_at, i_add (by omega) (by omega), t1]
    omega
  have lmE : ∀ m, m < q_n g 1 → l_mo (q_n g 0) (q_n g 1) m = (fun _ => q_n g 0 + 1) m := fun m hm => if_pos hm
  refine ST.mk (n_mo g (q_n g 1)) g2 ?_ ?_ ?_
  · refine X_177 g ?_
    rw [if_neg q]
    refine z_lp (N := q_n g 1) (G := fun k => MG z_pI 177 16 [some (.ref 27), some (.int (n_mo g k)), some (.int (Int32.ofNat k))] [] (g_mo g k) _) ?_ ?_
    · refine X_177_16 _ _ _ ?_
      rw [mo_27, if_pos (q_end c1.1)]
      exact ⟨rfl, fun k _ => by rw [hg2]⟩
    · intro i hi w
      refine X_177_16 _ _ _ ?_
      rw [mo_27, if_neg (n_cnt c1.1 hi)]
      refine M_go (I.mo' ht i (by omega)) (by rw [mo_q]; exact hi) (by rw [mo_q]; exact ht) ?_
      have ep : (60 : Int32) * Int32.ofNat i + g 27 0 = Int32.ofNat (60 * i + q_n g 0) := by
        have z : (60 : Int32) * Int32.ofNat i + Int32.ofNat (q_n g 0) = Int32.ofNat (60 * i + q_n g 0) := n_ma (a := 60)
        rwa [show Int32.ofNat (q_n g 0) = g 27 0 from n_of c0.1] at z
      rw [go_27, mo_27, ep, n_ix (by omega), n_s]
      exact ⟨n_bd (N := 360) (by omega) (by omega), w⟩
  · have J := (I.mo' ht (q_n g 1) (Nat.le_refl _)).lme (lm2 := fun _ => q_n g 0 + 1) (by rw [mo_q]; exact lmE) (by intro m _; rw [mo_27]; constructor <;> omega)
    have J2 := J.nxt (by rw [mo_27]; exact h60) (by intro m _; rw [mo_27]; omega)
    rw [mo_27, ← hg2] at J2
    rw [n0]
    exact J2.t_c (Nat.le_succ c)
  · refine X_106 h R.w ?_
    rw [R.n0, if_pos q']
    have L := z_lp (N := q_n g 1) (G := fun k => ∀ h' u, RC (l_mo (q_n g 0) k) (g_mo g k) h' → Sh h h' → Kq h h' → KG z_pI 106 16 [some (.ref 0), some (.int (n_mo g k)), some (.int (Int32.ofNat k)), u] [] h' (fun v1 h1 => v1 = n_mo g (q_n g 1) ∧ RC (fun _ => q_n g2 0) g2 h1 ∧ Kq h h1 ∧ Rm h h1)) ?_ ?_
    · refine L h none ?_ (Sh.refl h) (Kq.refl h)
      have e : l_mo (q_n g 0) 0 = fun _ => q_n g 0 := by funext m; exact if_neg (by omega)
      rw [e]
      exact R
    · intro h' u R' s k
      have D : ∀ d j, j + d = 6 → q_n g 1 ≤ j → ∀ u, KG z_pI 106 16 [some (.ref 0), some (.int (n_mo g (q_n g 1))), some (.int (Int32.ofNat j)), u] [] h' (fun v1 h1 => v1 = n_mo g (q_n g 1) ∧ RC (fun _ => q_n g2 0) g2 h1 ∧ Kq h h1 ∧ Rm h h1) := by
        intro d
        induction d with
        | zero =>
          intro j hj hq u
          have hj : j = 6 := by omega
          subst hj
          refine X_106_16 _ _ _ h' R'.w ?_
          rw [if_pos (show (6 : Int32) ≤ Int32.ofNat 6 from by decide)]
          refine ⟨rfl, ?_, k.trans (Kq.sI (by omega) (by omega)), ?_⟩
          · rw [R'.n0, mo_27, n0, hg2]
            exact (R'.lme (by rw [mo_q]; exact lmE)).up (k := 27) (i := 0) (c := 0) (j := 11) (Or.inl ⟨rfl, Or.inl ⟨rfl, rfl⟩⟩) (by omega)
          · exact ⟨by show z_nx h' ≤ _; rw [s.1]; omega, by show z_us h' ≤ _; rw [s.2.1]; omega⟩
        | succ d ih =>
          intro j hj hq u
          refine X_106_16 _ _ _ h' R'.w ?_
          rw [if_neg (fun z => by have := (n_lit_le (k := 6) (n := j) (by omega) (by omega)).mp z; omega)]
          refine xa_N (K_mineN R' ?_) ?_
          · rw [mo_27]
            intro z
            obtain ⟨m, hm, em⟩ := n_rng c1.1 z
            have := n_inj (by omega) (by have : m < q_n g 1 := hm; omega) em
            have : m < q_n g 1 := hm
            omega
          · rw [n_s]
            exact ih (j + 1) (by omega) (by omega) _
      exact D (6 - q_n g 1) (q_n g 1) (by omega) (Nat.le_refl _) u
    · intro i hi w h' u R' s k
      have I' := I.mo' ht i (by omega)
      obtain ⟨a, ha⟩ := R'.mine (m := i) (by rw [mo_q]; exact hi)
      refine X_106_16 _ _ _ h' R'.w ?_
      rw [if_neg (fun z => by have := (n_lit_le (k := 6) (n := i) (by omega) (by omega)).mp z; omega)]
      refine xa_S (K_mineS R' I' (by rw [mo_q]; exact hi) ha) (R'.w.mt R'.f ha) ?_
      rw [R'.n0]
      refine K_go (lm2 := l_mo (q_n g 0) (i + 1)) R' I' (by rw [mo_q]; exact hi) ha (by rw [mo_q]; exact ht) ?_ ?_ ?_ (by rw [s.1]; omega) ?_
      · rw [mo_q]; exact if_neg (by omega)
      · rw [mo_q]; exact if_pos (by omega)
      · intro m' _ q
        unfold l_mo
        by_cases z : m' < i
        · rw [if_pos z, if_pos (by omega)]
        · rw [if_neg z, if_neg (by omega)]
      · intro h2 R2 s2 k2
        refine ⟨s2, fun m11 e11 => ?_⟩
        rw [n_s]
        have e : m11 = n_mo g (i + 1) := by
          rw [e11, mo_q]
          have d := go_01 (g := g_mo g i) (m := i)
          rw [mo_q] at d
          show _ = n_mo g i + g_go (g_mo g i) i 38 (60 * i + q_n g 0)
          rcases d with d | d
          · rw [d, if_pos rfl, Int32.add_zero]
          · rw [d, if_neg (by decide)]
        rw [e]
        exact w h2 _ R2 (s.trans s2) (k.trans k2)
end MS
