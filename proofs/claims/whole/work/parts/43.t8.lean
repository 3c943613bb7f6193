/-! new cells -/
def Ex (h h2 : zH) : Prop := z_nx h ≤ z_nx h2 ∧ ∀ a, a < z_nx h → z_tg h2 a = z_tg h a ∧ z_ln h2 a = z_ln h a ∧ z_iv h2 a = z_iv h a ∧ z_rv h2 a = z_rv h a
theorem Ex.refl (h : zH) : Ex h h := ⟨Nat.le_refl _, fun _ _ => ⟨rfl, rfl, rfl, rfl⟩⟩
theorem Ex.nw {h h2 : zH} {c l n : Nat} (e : Ex h h2) : Ex h (z_nw h2 c l n) := by
  refine ⟨Nat.le_succ_of_le e.1, fun a ha => ?_⟩
  have hn : ¬ a = z_nx h2 := by have := e.1; omega
  rw [z_nw_tg hn, z_nw_ln hn, z_nw_iv hn, z_nw_rv hn]
  exact e.2 a ha
theorem Ex.sI {h h2 : zH} {c j : Nat} {x : Int32} (e : Ex h h2) (hc : z_nx h ≤ c) : Ex h (z_sI h2 c j x) := by
  refine ⟨e.1, fun a ha => ?_⟩
  obtain ⟨e1, e2, e3, e4⟩ := e.2 a ha
  exact ⟨e1, e2, (up_ne (by omega)).trans e3, e4⟩
theorem Ex.sR {h h2 : zH} {c j : Nat} {x : Option Nat} (e : Ex h h2) (hc : z_nx h ≤ c) : Ex h (z_sR h2 c j x) := by
  refine ⟨e.1, fun a ha => ?_⟩
  obtain ⟨e1, e2, e3, e4⟩ := e.2 a ha
  refine ⟨e1, e2, e3, Eq.trans ?_ e4⟩
  funext j'
  exact if_neg (by omega)
theorem Kq.nw {h : zH} {c l n : Nat} (h1 : 89 ≤ z_nx h) (h2 : z_nx h < 600000) : Kq h (z_nw h c l n) := by
  refine ⟨fun k a b => ?_, ?_, ?_, ?_⟩
  · have hn : ¬ k = z_nx h := by omega
    exact ⟨z_nw_tg hn, z_nw_ln hn, z_nw_rv hn, z_nw_iv hn⟩
  · exact z_row_ne (by omega)
  · exact z_nw_iv (by unfold z_SC; omega)
  · exact z_nw_ln (by unfold z_SC; omega)
theorem Kq.sR {h : zH} {c j : Nat} {x : Option Nat} (hc : c < 27 ∨ 89 ≤ c) : Kq h (z_sR h c j x) := by
  refine ⟨fun k h1 h2 => ⟨rfl, rfl, ?_, rfl⟩, rfl, rfl, rfl⟩
  funext j'
  exact if_neg (by omega)
theorem Loc.eq {nm ne nr nl : Nat} {lm : Nat → Nat} {h h2 : zH} {k i c j : Nat} (e0 : z_rv h2 0 9 = z_rv h 0 9) (e1 : ∀ i, i < nm → z_rv h2 1 i = z_rv h 1 i) (e2 : ∀ i, i < ne → z_rv h2 2 i = z_rv h 2 i) (e3 : ∀ i, i < nr → z_rv h2 3 i = z_rv h 3 i) (e4 : ∀ i, i < 4 → z_rv h2 4 i = z_rv h 4 i) (L : Loc nm ne nr nl lm h2 k i c j) : Loc nm ne nr nl lm h k i c j := by
  unfold Loc at L ⊢
  generalize kd k = n at L
  match n, L with
  | 0, L =>
    rcases L with q | q | q | ⟨q, q2⟩
    · exact Or.inl q
    · exact Or.inr (Or.inl q)
    · exact Or.inr (Or.inr (Or.inl q))
    · exact Or.inr (Or.inr (Or.inr ⟨e0 ▸ q, q2⟩))
  | 1, L => exact L
  | 2, L =>
    obtain ⟨B, e, q⟩ := L
    exact ⟨B, e0 ▸ e, q⟩
  | 3, L => exact ⟨L.1, (e1 i L.1) ▸ L.2.1, L.2.2⟩
  | 4, L =>
    obtain ⟨m, a, hm, e, q⟩ := L
    exact ⟨m, a, hm, (e1 m hm) ▸ e, q⟩
  | 5, L => exact ⟨L.1, (e2 i L.1) ▸ L.2.1, L.2.2⟩
  | 6, L => exact ⟨L.1, (e3 i L.1) ▸ L.2.1, L.2.2⟩
  | 7, L => exact ⟨L.1, (e4 i L.1) ▸ L.2.1, L.2.2⟩
  | 8, L =>
    obtain ⟨n, s, hn, e, q⟩ := L
    exact ⟨n, s, hn, (e4 n hn) ▸ e, q⟩
  | n + 9, L => exact L.elim
theorem RC.ext {lm : Nat → Nat} {g : zG} {h h2 : zH} (R : RC lm g h) (W2 : CW h2) (e : Ex h h2) : RC lm g h2 := by
  have ge := R.w.ge
  have ea := e.2
  have r : ∀ a, a < 89 → z_rv h2 a = z_rv h a := fun a ha => (ea a (by omega)).2.2.2
  have lt : ∀ {b j a}, z_rv h b j = some a → a < z_nx h := fun q => R.w.lv _ _ _ q
  refine ⟨W2, fun a ha => ((ea a (by omega)).1).trans (R.f a ha), ?_, ?_, ?_, ?_⟩
  · have := R.b
    unfold BD
    rw [r 0 (by omega)]
    exact this
  · have := R.j
    unfold IJ
    rw [r 1 (by omega), r 2 (by omega), r 3 (by omega), r 4 (by omega)]
    exact this
  · intro k i c j L
    have L' := L.eq (h := h) (by rw [r 0 (by omega)]) (fun i _ => by rw [r 1 (by omega)]) (fun i _ => by rw [r 2 (by omega)]) (fun i _ => by rw [r 3 (by omega)]) (fun i _ => by rw [r 4 (by omega)])
    rw [(ea c (L'.safe R.w R.f R.b).2).2.2.1]
    exact R.i k i c j L'
  · obtain ⟨x1, x2, x3, x4, x5, x6, x7, x8⟩ := R.x
    have tr : ∀ o k m, (∀ c, o = some c → c < z_nx h) → TrR (z_iv h) o g k m → TrR (z_iv h2) o g k m := by
      intro o k m ho q
      rcases q with q | ⟨c, q, w⟩
      · exact Or.inl q
      · refine Or.inr ⟨c, q, ?_⟩
        rw [(ea c (ho c q)).2.2.1]
        exact w
    unfold RX
    rw [r 1 (by omega), r 2 (by omega), r 3 (by omega), r 4 (by omega)]
    refine ⟨x1, x2, x3, fun m a hm ha => ?_, fun k c hk hc => ?_, fun n hn => ?_, fun m a hm ha => ?_, fun k c hk hc => ?_⟩
    · rw [(ea a (lt ha)).2.2.2]; exact x4 m a hm ha
    · rw [(ea c (lt hc)).2.2.2]; exact x5 k c hk hc
    · rcases x6 n hn with q | ⟨q, s, hs, q2⟩
      · exact Or.inl q
      · refine Or.inr ⟨q, s, hs, ?_⟩
        have ts := R.w.s1 (R.w.st R.f hs)
        rw [(ea (s + 1) (R.w.lt _ (by rw [ts]; decide))).2.1]
        exact q2
    · rw [(ea a (lt ha)).2.2.2]; exact tr _ _ _ (fun c q => lt q) (x7 m a hm ha)
    · rw [(ea c (lt hc)).2.2.2]; exact tr _ _ _ (fun c q => lt q) (x8 k c hk hc)
theorem ST.mk {α : Type} {p : Option Value → Option α} {yc ym : Nat} {A B : zS} {c : Nat} {g : zG} {h : zH} (v : α) (g2 : zG) (M : MK p ym B g (fun v1 g1 => v1 = v ∧ ∀ k, k < 200 → g1 k = g2 k)) (J : INV (c + 1) (fun _ => q_n g2 0) g2) (K : KK p yc A h (fun v1 h1 => v1 = v ∧ RC (fun _ => q_n g2 0) g2 h1 ∧ Kq h h1 ∧ Rm h h1)) : ST p yc A ym B c g h :=
  ⟨v, g2, M.mono fun _ _ q => ⟨q.1, fun k i hk _ => by rw [q.2 k hk]⟩, J, K⟩
theorem sR_ne {h : zH} {c j a : Nat} {x : Option Nat} (hn : ¬ a = c) : z_rv (z_sR h c j x) a = z_rv h a := by
  funext j'
  exact if_neg (fun q => hn q.1)
theorem sR_nj {h : zH} {c j a i : Nat} {x : Option Nat} (hn : ¬ (a = c ∧ i = j)) : z_rv (z_sR h c j x) a i = z_rv h a i := if_neg hn
theorem sR_at {h : zH} {c j : Nat} {x : Option Nat} : z_rv (z_sR h c j x) c j = x := if_pos ⟨rfl, rfl⟩
/-! trial -/
def g_tr (g : zG) (m : Nat) (s l cc : Int32) : zG := z_up2 (z_up2 (z_up2 (z_up2 g 42 m s) 43 m l) 44 m cc) 45 m (g 30 m)
theorem g_tr_ne {g : zG} {m : Nat} {s l cc : Int32} : ∀ k, [42, 43, 44, 45].contains k = false → g_tr g m s l cc k = g k := by
  intro k hk
  simp at hk
  unfold g_tr
  rw [up_ne (by omega), up_ne (by omega), up_ne (by omega), up_ne (by omega)]
theorem g_tr_v {g : zG} {m n : Nat} {s l cc : Int32} : g_tr g m s l cc 42 n = (if n = m then s else g 42 n) ∧ g_tr g m s l cc 43 n = (if n = m then l else g 43 n) ∧ g_tr g m s l cc 44 n = (if n = m then cc else g 44 n) ∧ g_tr g m s l cc 45 n = (if n = m then g 30 m else g 45 n) := by
  unfold g_tr z_up2
  refine ⟨?_, ?_, ?_, ?_⟩ <;> by_cases q : n = m <;> simp [q]
theorem RC.trial {lm : Nat → Nat} {g : zG} {h : zH} (R : RC lm g h) {m a t : Nat} (hm : m < q_n g 1) (ha : z_rv h 1 m = some a) {s l cc : Int32} (tt : z_tg h t = 10) (v0 : z_iv h t 0 = s) (v1 : z_iv h t 1 = l) (v2 : z_iv h t 2 = cc) (v3 : z_iv h t 3 = g 30 m) (hs : ¬ s = 0) : RC lm (g_tr g m s l cc) (z_sR h a 9 (some t)) := by
  have ta := R.w.mt R.f ha
  have ga := R.f.ge ta (by omega)
  have ne := g_tr_ne (g := g) (m := m) (s := s) (l := l) (cc := cc)
  have r : ∀ b, b < 89 → z_rv (z_sR h a 9 (some t)) b = z_rv h b := fun b hb => sR_ne (by omega)
  have n27 : g_tr g m s l cc 27 = g 27 := ne 27 rfl
  have qn : ∀ j, q_n (g_tr g m s l cc) j = q_n g j := fun j => by unfold q_n; rw [n27]
  unfold RC
  rw [qn, qn, qn, qn]
  refine ⟨R.w.sR ta rfl (fun b q => by injection q with q; subst q; exact tt) (by decide), R.f, ?_, ?_, ?_, ?_⟩
  · have := R.b
    unfold BD
    rw [r 0 (by omega)]
    exact this
  · have := R.j
    unfold IJ
    rw [r 1 (by omega), r 2 (by omega), r 3 (by omega), r 4 (by omega)]
    exact this
  · intro k i c j L
    have L' := L.eq (h := h) (by rw [r 0 (by omega)]) (fun i _ => by rw [r 1 (by omega)]) (fun i _ => by rw [r 2 (by omega)]) (fun i _ => by rw [r 3 (by omega)]) (fun i _ => by rw [r 4 (by omega)])
    have hk : [42, 43, 44, 45].contains k = false := by
      rcases Bool.eq_false_or_eq_true ([42, 43, 44, 45].contains k) with q | q
      · exfalso
        have w : k = 42 ∨ k = 43 ∨ k = 44 ∨ k = 45 := by simp at q; omega
        unfold Loc at L'
        rcases w with w | w | w | w <;> subst w <;> exact L'
      · exact q
    rw [ne k hk]
    exact R.i k i c j L'
  · obtain ⟨x1, x2, x3, x4, x5, x6, x7, x8⟩ := R.x
    unfold RX
    have lt : ∀ x, q_lt (g_tr g m s l cc) x = q_lt g x := by intro x; unfold q_lt; rw [qn, ne 46 rfl]
    rw [qn, qn, qn, r 1 (by omega), r 2 (by omega), r 3 (by omega), r 4 (by omega), ne 71 rfl, ne 86 rfl, ne 87 rfl]
    refine ⟨x1, x2, x3, fun n b hn hb => ?_, fun k d hk hd => ?_, x6, fun n b hn hb => ?_, fun k d hk hd => ?_⟩
    · rw [lt, sR_nj (by omega)]; exact x4 n b hn hb
    · have td := R.w.rt R.f hd
      rw [sR_ne (fun q => by rw [q, ta] at td; cases td)]; exact x5 k d hk hd
    · obtain ⟨u0, u1, u2, u3⟩ := g_tr_v (g := g) (m := m) (n := n) (s := s) (l := l) (cc := cc)
      by_cases q : n = m
      · subst q
        rw [ha] at hb
        injection hb with hb
        subst hb
        rw [sR_at]
        rw [if_pos rfl] at u0 u1 u2 u3
        refine Or.inr ⟨t, rfl, by rw [u0]; exact hs, ?_⟩
        refine ⟨by rw [u0]; exact v0, Eq.trans v1 u1.symm, Eq.trans v2 u2.symm, Eq.trans v3 u3.symm⟩
      · rw [if_neg q] at u0 u1 u2 u3
        have hab : ¬ b = a := fun w => q (R.j.1 _ _ _ hn hm hb (w ▸ ha))
        rw [sR_ne hab]
        have w := x7 n b hn hb
        unfold TrR at w ⊢
        rw [u0, show g_tr g m s l cc (42 + 1) n = g (42 + 1) n from u1, show g_tr g m s l cc (42 + 2) n = g (42 + 2) n from u2, show g_tr g m s l cc (42 + 3) n = g (42 + 3) n from u3]
        exact w
    · have td := R.w.rt R.f hd
      rw [sR_ne (fun q => by rw [q, ta] at td; cases td)]
      have w := x8 k d hk hd
      unfold TrR at w ⊢
      rw [ne 80 rfl, ne (80 + 1) rfl, ne (80 + 2) rfl, ne (80 + 3) rfl]
      exact w
theorem INV.trial {c : Nat} {lm : Nat → Nat} {g : zG} (I : INV c lm g) {m : Nat} (hm : m < q_n g 1) {s l cc : Int32} (hs : 1 ≤ s.toInt ∧ s.toInt ≤ 9999) (hl : 1 ≤ l.toInt ∧ l.toInt ≤ 99) (hc : 1 ≤ cc.toInt ∧ cc.toInt ≤ 9999) : INV c lm (g_tr g m s l cc) := by
  have e := g_tr_ne (g := g) (m := m) (s := s) (l := l) (cc := cc)
  exact ⟨INV.t_cnt (an_of e rfl) (ag_of e rfl) I.cnt,
    INV.t_bm (an_of e rfl) (ag_of e rfl) I.bm,
    INV.t_pd (an_of e rfl) (ag_of e rfl) I.pd,
    INV.t_bw (an_of e rfl) (ag_of e rfl) I.bw,
    INV.t_bs (an_of e rfl) (ag_of e rfl) I.bs,
    INV.t_be (an_of e rfl) (ag_of e rfl) I.be,
    INV.t_br (an_of e rfl) (ag_of e rfl) I.br,
    INV.t_bl (an_of e rfl) (ag_of e rfl) I.bl,
    INV.t_bt (an_of e rfl) (ag_of e rfl) I.bt,
    INV.t_wc (an_of e rfl) (ag_of e rfl) I.wc,
    INV.t_wn (an_of e rfl) (ag_of e rfl) I.wn,
    INV.t_sh (an_of e rfl) (ag_of e rfl) I.sh,
    INV.t_la (an_of e rfl) (ag_of e rfl) I.la,
    INV.t_lv (an_of e rfl) (ag_of e rfl) I.lv,
    INV.t_em (an_of e rfl) (ag_of e rfl) I.em,
    INV.t_ca (an_of e rfl) (ag_of e rfl) I.ca,
    INV.t_ag (an_of e rfl) (ag_of e rfl) I.ag,
    INV.t_re (an_of e rfl) (ag_of e rfl) I.re,
    fun n hn => by
      obtain ⟨u0, u1, u2, u3⟩ := g_tr_v (g := g) (m := m) (n := n) (s := s) (l := l) (cc := cc)
      have w := I.tm n hn
      unfold s_tr at w ⊢
      rw [u0, show g_tr g m s l cc (42 + 1) n = _ from u1, show g_tr g m s l cc (42 + 2) n = _ from u2, show g_tr g m s l cc (42 + 3) n = _ from u3]
      by_cases q : n = m
      · rw [if_pos q, if_pos q, if_pos q, if_pos q]
        exact Or.inr ⟨hs, hl, hc, I.bm.at (k := 30) (a := 1) (b := 300) (by decide) hm⟩
      · rw [if_neg q, if_neg q, if_neg q, if_neg q]
        exact w,
    INV.t_tk (an_of e rfl) (ag_of e rfl) I.tk,
    fun n h1 h2 => by
      have q1 : q_n (g_tr g m s l cc) 1 = q_n g 1 := by unfold q_n; rw [e 27 rfl]
      rw [q1] at h1
      obtain ⟨a1, a2, a3, a4, a5, a6⟩ := I.zm n h1 h2
      refine ⟨by rw [e 33 rfl]; exact a1, by rw [e 34 rfl]; exact a2, by rw [(g_tr_v (g := g)).1, if_neg (by omega)]; exact a3, by rw [e 32 rfl]; exact a4, by rw [e 35 rfl]; exact a5, fun w t hw ht => ?_⟩
      rw [e (36 + w) (by have : w = 0 ∨ w = 1 ∨ w = 2 ∨ w = 3 ∨ w = 4 ∨ w = 5 := by omega
                         rcases this with r | r | r | r | r | r <;> subst r <;> rfl)]
      exact a6 w t hw ht,
    INV.t_ze (an_of e rfl) (ag_of e rfl) I.ze,
    INV.t_gs (an_of e rfl) (ag_of e rfl) I.gs,
    INV.t_gc (an_of e rfl) (ag_of e rfl) I.gc,
    INV.t_gg (an_of e rfl) (ag_of e rfl) I.gg,
    INV.t_gk (an_of e rfl) (ag_of e rfl) I.gk,
    INV.t_wl (an_of e rfl) (ag_of e rfl) I.wl⟩
theorem T_trial {c : Nat} {g : zG} {h : zH} (X : AH c g h) (x1 x2 x3 x4 : Int32) : ST z_pI 109 [.ref 0, .int x1, .int x2, .int x3, .int x4] 182 [.ref 27, .int x1, .int x2, .int x3, .int x4] c g h := by
  have I := X.i
  have R := X.r
  rcases I.mi x1 with hx | ⟨m, hm, hm6, rfl⟩
  · exact ST.ro X (-1) (X_182 _ _ _ _ g (by rw [if_neg hx]; exact ⟨rfl, SE.refl g⟩)) (kv_of (X_109 _ _ _ _ h R.w (xa_N (K_mineN R hx) ⟨rfl, rfl⟩)))
  obtain ⟨a, ha⟩ := R.mine hm
  have kS := K_mineS R I hm ha
  have ta := R.w.mt R.f ha
  have bd := n_bd (N := 6) hm6 (by omega)
  by_cases c2 : (1 : Int32) ≤ x2 ∧ x2 ≤ (9999 : Int32)
  · by_cases c3 : (1 : Int32) ≤ x3 ∧ x3 ≤ (99 : Int32)
    · by_cases c4 : (1 : Int32) ≤ x4 ∧ x4 ≤ (9999 : Int32)
      · have b2 := n_bnd (a := 1) (b := 9999) (by omega) (by omega) c2
        have b3 := n_bnd (a := 1) (b := 99) (by omega) (by omega) c3
        have b4 := n_bnd (a := 1) (b := 9999) (by omega) (by omega) c4
        have ol := a_old (s := 1000) (l := x3) (s2 := x2) (l2 := x3) (c := x4) (by decide) b3 b2 b3 b4
        have s0 : ¬ x2 = 0 := fun q => by rw [q] at b2; exact absurd b2.1 (by decide)
        have hnx := R.w.ge
        have N := X.2.2.1
        have n0 : q_n (g_tr g m x2 x3 x4) 0 = q_n g 0 := by unfold q_n; rw [g_tr_ne 27 rfl]
        refine ST.mk (a_oc 1000 x3 x2 x3 x4).toInt32 (g_tr g m x2 x3 x4) ?_ (by rw [n0]; exact (I.t_c (Nat.le_succ c)).trial hm b2 b3 b4) ?_
        · refine X_182 _ _ _ _ g ?_
          rw [if_pos (I.mv hm), if_pos c2, if_pos c3, if_pos c4, n_ix (by omega)]
          refine ⟨bd, bd, bd, bd, bd, ol.2.2, fun m6 e6 => ?_⟩
          refine ⟨by rw [e6]; rfl, fun k _ => ?_⟩
          unfold g_tr
          rw [show (z_up2 (z_up2 (z_up2 g 42 m x2) 43 m x3) 44 m x4) 30 m = g 30 m from by rw [up_ne (by decide), up_ne (by decide), up_ne (by decide)]]
        · refine X_109 _ _ _ _ h R.w (xa_S kS ta ?_)
          rw [if_pos c2, if_pos c3, if_pos c4, R.f30 hm ha]
          have Wn : CW (z_nw h 10 0 4) := R.w.nw (by omega)
          have x1 : Ex h (z_sI (z_sI (z_sI (z_sI (z_nw h 10 0 4) (z_nx h) 0 x2) (z_nx h) 1 x3) (z_nx h) 2 x4) (z_nx h) 3 (g 30 m)) := ((((Ex.refl h).nw.sI (Nat.le_refl _)).sI (Nat.le_refl _)).sI (Nat.le_refl _)).sI (Nat.le_refl _)
          have R1 := R.ext (h2 := z_sI (z_sI (z_sI (z_sI (z_nw h 10 0 4) (z_nx h) 0 x2) (z_nx h) 1 x3) (z_nx h) 2 x4) (z_nx h) 3 (g 30 m)) Wn x1
          have ha1 : z_rv (z_nw h 10 0 4) 1 m = some a := by rw [z_nw_rv (by omega)]; exact ha
          have tt : z_tg (z_nw h 10 0 4) (z_nx h) = 10 := z_nw_at
          have R2 := R1.trial (t := z_nx h) (s := x2) (l := x3) (cc := x4) hm ha1 tt (v_nj (by decide) (v_nj (by decide) (v_nj (by decide) v_at))) (v_nj (by decide) (v_nj (by decide) v_at)) (v_nj (by decide) v_at) v_at s0
          have ga := R.f.ge ta (by omega)
          refine o_S sR_at ⟨_, kv_of (C_95 (z_nx h) 1000 x3 _ R2.w tt ⟨rfl, rfl⟩), ?_, ?_⟩
          · have e0 : z_iv (z_sR (z_sI (z_sI (z_sI (z_sI (z_nw h 10 0 4) (z_nx h) 0 x2) (z_nx h) 1 x3) (z_nx h) 2 x4) (z_nx h) 3 (g 30 m)) a 9 (some (z_nx h))) (z_nx h) 0 = x2 := v_nj (by decide) (v_nj (by decide) (v_nj (by decide) v_at))
            have e1 : z_iv (z_sR (z_sI (z_sI (z_sI (z_sI (z_nw h 10 0 4) (z_nx h) 0 x2) (z_nx h) 1 x3) (z_nx h) 2 x4) (z_nx h) 3 (g 30 m)) a 9 (some (z_nx h))) (z_nx h) 1 = x3 := v_nj (by decide) (v_nj (by decide) v_at)
            have e2 : z_iv (z_sR (z_sI (z_sI (z_sI (z_sI (z_nw h 10 0 4) (z_nx h) 0 x2) (z_nx h) 1 x3) (z_nx h) 2 x4) (z_nx h) 3 (g 30 m)) a 9 (some (z_nx h))) (z_nx h) 2 = x4 := v_nj (by decide) v_at
            rw [e0, e1, e2, ol.1]
            rfl
          · rw [n0]
            refine ⟨R2, ?_, ?_⟩
            · exact ((((Kq.nw hnx (by omega)).trans (Kq.sI (by omega) (by omega))).trans (Kq.sI (by omega) (by omega))).trans (Kq.sI (by omega) (by omega))).trans ((Kq.sI (by omega) (by omega)).trans (Kq.sR (by omega)))
            · exact ⟨by show z_nx h + 1 ≤ z_nx h + 4; omega, by show z_us h + 4 ≤ z_us h + 400; omega⟩
      · exact ST.ro X (-1) (X_182 _ _ _ _ g (by rw [if_pos (I.mv hm), if_pos c2, if_pos c3, if_neg c4]; exact ⟨rfl, SE.refl g⟩)) (kv_of (X_109 _ _ _ _ h R.w (xa_S kS ta (by rw [if_pos c2, if_pos c3, if_neg c4]; exact ⟨rfl, rfl⟩))))
    · exact ST.ro X (-1) (X_182 _ _ _ _ g (by rw [if_pos (I.mv hm), if_pos c2, if_neg c3]; exact ⟨rfl, SE.refl g⟩)) (kv_of (X_109 _ _ _ _ h R.w (xa_S kS ta (by rw [if_pos c2, if_neg c3]; exact ⟨rfl, rfl⟩))))
  · exact ST.ro X (-1) (X_182 _ _ _ _ g (by rw [if_pos (I.mv hm), if_neg c2]; exact ⟨rfl, SE.refl g⟩)) (kv_of (X_109 _ _ _ _ h R.w (xa_S kS ta (by rw [if_neg c2]; exact ⟨rfl, rfl⟩))))
