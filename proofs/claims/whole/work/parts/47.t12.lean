section RD2
variable {c : Nat} {lm : Nat → Nat} {g : zG} {h : zH}
theorem rd_i {m e k i : Nat} (h1 : ¬ (k = 27 ∧ i = 55)) (h2 : ¬ (i = q_n g 55 ∧ ((70 ≤ k ∧ k ≤ 83) ∨ k = 205))) (h3 : ¬ (200 ≤ k ∧ k ≤ 202 ∧ i = e)) : g_rd g m e k i = g k i := by
  unfold g_rd
  rw [up_nj h1]
  unfold g_rw
  rw [if_neg h2]
  unfold g_gh
  rw [up_nj (by omega), up_nj (by omega), up_nj (by omega)]
theorem rd_n {m e k : Nat} (hk : (70 ≤ k ∧ k ≤ 83) ∨ k = 205) : g_rd g m e k (q_n g 55) = v_rd g m e k := by
  unfold g_rd
  rw [up_ne (by omega)]
  unfold g_rw
  rw [if_pos ⟨rfl, hk⟩]
theorem rd_g {m e : Nat} : g_rd g m e 200 e = g 27 0 ∧ g_rd g m e 201 e = g 53 e ∧ g_rd g m e 202 e = g 57 e := by
  refine ⟨?_, ?_, ?_⟩
  · unfold g_rd
    rw [up_ne (by decide)]
    unfold g_rw g_gh
    rw [if_neg (by omega), up_ne (by decide), up_ne (by decide), up_at]
  · unfold g_rd
    rw [up_ne (by decide)]
    unfold g_rw g_gh
    rw [if_neg (by omega), up_ne (by decide), up_at]
  · unfold g_rd
    rw [up_ne (by decide)]
    unfold g_rw g_gh
    rw [if_neg (by omega), up_at]
theorem rd_ne {m e : Nat} : ∀ k, [27, 70, 71, 72, 73, 74, 75, 76, 77, 78, 79, 80, 81, 82, 83, 200, 201, 202, 205].contains k = false → g_rd g m e k = g k := by
  intro k hk
  simp at hk
  funext i
  exact rd_i (by omega) (by omega) (by omega)
theorem rd_27 {m e i : Nat} (hi : ¬ i = 55) : g_rd g m e 27 i = g 27 i := rd_i (by omega) (by omega) (by omega)
theorem rd_55 {m e : Nat} : g_rd g m e 27 55 = g 27 55 + 1 := up_at
theorem INV.rd (I : INV c lm g) {m e : Nat} (hm : m < q_n g 1) (hw : q_wk g (Int32.ofNat m) = some e) (h55 : (g 27 55).toInt < 60) (hl : lm m = q_n g 0) : INV c lm (g_rd g m e) := by
  have hm6 := I.m6 hm
  have ws := q_wk_some hw
  have he12 := I.e12 ws.1
  have c55 := I.cnt.2.2.2.1
  have c0 := I.cnt.1
  have s55 := n_suc c55.1 (by omega)
  have bx := I.be.at (k := 53) (a := 0) (b := 9999) (by decide) ws.1
  have si := I.si ws.1
  have mo : (g 27 0 - q_si g e).toInt = (g 27 0).toInt - (q_si g e).toInt := i_sub (by omega) (by omega)
  have mb := I.be.at (k := 50) (a := 1) (b := 9999) (by decide) ws.1
  have mmb : 0 ≤ (g 50 e * (g 27 0 - q_si g e)).toInt ∧ (g 50 e * (g 27 0 - q_si g e)).toInt ≤ 599940 := by
    have bb := m_bd (by omega : 0 ≤ (g 50 e).toInt) mb.2 (by omega : 0 ≤ (g 27 0).toInt - (q_si g e).toInt) (by omega : (g 27 0).toInt - (q_si g e).toInt ≤ 60)
    rw [i_mul (by rw [mo]; omega) (by rw [mo]; omega), mo]
    omega
  obtain ⟨g2, hg2⟩ : ∃ g2, g2 = g_rd g m e := ⟨_, rfl⟩
  rw [← hg2]
  have en : ∀ k, [27, 70, 71, 72, 73, 74, 75, 76, 77, 78, 79, 80, 81, 82, 83, 200, 201, 202, 205].contains k = false → g2 k = g k := by rw [hg2]; exact rd_ne
  have e27 : ∀ {i}, ¬ i = 55 → g2 27 i = g 27 i := by rw [hg2]; exact rd_27
  have e55 : g2 27 55 = g 27 55 + 1 := by rw [hg2]; exact rd_55
  have q55 : q_n g2 55 = q_n g 55 + 1 := by unfold q_n; rw [e55, s55.2]
  have v71 : g2 71 (q_n g 55) = Int32.ofNat e := by rw [hg2]; exact rd_n (by omega)
  have v72 : g2 72 (q_n g 55) = g 27 0 := by rw [hg2]; exact rd_n (by omega)
  have v73 : g2 73 (q_n g 55) = g 53 e := by rw [hg2]; exact rd_n (by omega)
  have sil : ∀ d, d < 12 → q_si g2 d = if d = e then g 27 0 else q_si g d := by
    intro d hd
    unfold q_si
    rw [q55, s_lst, v71, v72, s_lst_cg (r2 := g 71) (v2 := g 72) (d2 := g 58 d) (fun i hi => ⟨by rw [hg2]; exact rd_i (by omega) (by omega) (by omega), by rw [hg2]; exact rd_i (by omega) (by omega) (by omega)⟩) (by rw [en 58 rfl])]
    by_cases q : d = e
    · rw [if_pos (by rw [q]), if_pos q]
    · rw [if_neg (fun w => q (n_inj (by omega) (by omega) w).symm), if_neg q]
  have shl : ∀ d, d < 12 → q_sh g2 d = if d = e then g 53 e else q_sh g d := by
    intro d hd
    unfold q_sh
    rw [q55, s_lst, v71, v73, s_lst_cg (r2 := g 71) (v2 := g 73) (d2 := 0) (fun i hi => ⟨by rw [hg2]; exact rd_i (by omega) (by omega) (by omega), by rw [hg2]; exact rd_i (by omega) (by omega) (by omega)⟩) rfl]
    by_cases q : d = e
    · rw [if_pos (by rw [q]), if_pos q]
    · rw [if_neg (fun w => q (n_inj (by omega) (by omega) w).symm), if_neg q]
  have n : ∀ N : List Nat, N.all (fun j => !(j == 55)) = true → ∀ j, j ∈ N → g2 27 j = g 27 j := fun N hN j hj => e27 (fun q => by have := List.all_eq_true.mp hN j hj; simp at this; omega)
  exact ⟨by
      rw [e27 (i := 0) (by decide), e27 (i := 1) (by decide), e27 (i := 20) (by decide), e55, e27 (i := 45) (by decide), e27 (i := 35) (by decide)]
      have a := I.cnt
      exact ⟨a.1, a.2.1, a.2.2.1, by omega, a.2.2.2.2.1, a.2.2.2.2.2⟩,
    INV.t_bm (n _ rfl) (ag_of en rfl) I.bm,
    INV.t_pd (n _ rfl) (ag_of en rfl) I.pd,
    INV.t_bw (n _ rfl) (ag_of en rfl) I.bw,
    INV.t_bs (n _ rfl) (ag_of en rfl) I.bs,
    INV.t_be (n _ rfl) (ag_of en rfl) I.be,
    by
      rw [q55]
      refine TB.push (fun q hq i hi => ?_) (fun q hq => ?_)
      · have d : ∀ q, q ∈ BR → 73 ≤ q.1 ∧ q.1 ≤ 79 := by decide
        have := d q hq
        rw [hg2, rd_i (by omega) (by omega) (by omega)]
        exact I.br q hq i hi
      · have d : q = (73, 0, 9999) ∨ q = (74, 0, 60) ∨ q = (75, 0, 9999) ∨ q = (76, 0, 700000) ∨ q = (77, 0, 59394060) ∨ q = (78, 0, 99) ∨ q = (79, 1, 300) := by simpa [BR] using hq
        rcases d with r | r | r | r | r | r | r <;> subst r <;> dsimp only <;> rw [hg2, rd_n (by omega)]
        · exact bx
        · show 0 ≤ (g 27 0 - q_si g e).toInt ∧ (g 27 0 - q_si g e).toInt ≤ 60
          rw [mo]; omega
        · exact (a_least bx I.shb).2
        · exact (a_most (a_least bx I.shb).2 mmb).2
        · show 0 ≤ (s_cs (g 39) (g 37) (Int32.ofNat e) (60 * m) (z_ix (q_si g e)) (q_n g 0 - z_ix (q_si g e))).toInt ∧ (s_cs (g 39) (g 37) (Int32.ofNat e) (60 * m) (z_ix (q_si g e)) (q_n g 0 - z_ix (q_si g e))).toInt ≤ 59394060
          have hT : q_n g 0 ≤ 60 := by unfold q_n z_ix; omega
          have := s_cs_bd (w := g 39) (cr := g 37) (e := Int32.ofNat e) (o := 60 * m) (a := z_ix (q_si g e)) (n := q_n g 0 - z_ix (q_si g e)) (by omega) (fun i hi => I.wc.at (k := 37) (a := 0) (b := 989901) (by decide) (by omega))
          omega
        · show 0 ≤ (if g 27 0 ≤ q_si g e then (0 : Int32) else g 41 (60 * m + (q_n g 0 - 1))).toInt ∧ (if g 27 0 ≤ q_si g e then (0 : Int32) else g 41 (60 * m + (q_n g 0 - 1))).toInt ≤ 99
          have hT : q_n g 0 ≤ 60 := by unfold q_n z_ix; omega
          by_cases z : g 27 0 ≤ q_si g e
          · rw [if_pos z]; decide
          · rw [if_neg z]; exact I.wn.at (k := 41) (a := 0) (b := 99) (by decide) (by omega)
        · exact I.bm.at (k := 30) (a := 1) (b := 300) (by decide) hm,
    INV.t_bl (n _ rfl) (ag_of en rfl) I.bl,
    INV.t_bt (n _ rfl) (ag_of en rfl) I.bt,
    INV.t_wc (n _ rfl) (ag_of en rfl) I.wc,
    INV.t_wn (n _ rfl) (ag_of en rfl) I.wn,
    INV.t_sh (n _ rfl) (ag_of en rfl) I.sh,
    INV.t_la (n _ rfl) (ag_of en rfl) I.la,
    INV.t_lv (n _ rfl) (ag_of en rfl) I.lv,
    INV.t_em (n _ rfl) (ag_of en rfl) I.em,
    INV.t_ca (n _ rfl) (ag_of en rfl) I.ca,
    INV.t_ag (n _ rfl) (ag_of en rfl) I.ag,
    fun k hk => by
      rw [q55] at hk
      rw [e27 (i := 0) (by decide), e27 (i := 20) (by decide)]
      by_cases q : k = q_n g 55
      · subst q
        rw [hg2, rd_n (by omega), rd_n (by omega), rd_n (by omega), ← hg2]
        show (0 ≤ (Int32.ofNat e).toInt ∧ (Int32.ofNat e).toInt < (g 27 20).toInt) ∧ Int32.ofNat m = g2 46 (z_ix (Int32.ofNat e)) ∧ 0 ≤ (g 27 0).toInt ∧ (g 27 0).toInt ≤ (g 27 0).toInt
        rw [n_ix (by omega), n_i (by omega), en 46 rfl, ws.2.1]
        refine ⟨?_, rfl, c0.1, Int.le_refl _⟩
        have := ws.1
        unfold q_n z_ix at this
        omega
      · rw [en 46 rfl, hg2, rd_i (by omega) (by omega) (by omega), rd_i (by omega) (by omega) (by omega), rd_i (by omega) (by omega) (by omega)]
        exact I.re k (by omega),
    INV.t_tm (n _ rfl) (ag_of en rfl) I.tm,
    fun k hk => by
      rw [q55] at hk
      unfold s_tr
      by_cases q : k = q_n g 55
      · subst q
        rw [hg2, rd_n (by omega), rd_n (by omega), rd_n (by omega), rd_n (by omega)]
        exact I.tm m hm6
      · rw [hg2, rd_i (by omega) (by omega) (by omega), rd_i (by omega) (by omega) (by omega), rd_i (by omega) (by omega) (by omega), rd_i (by omega) (by omega) (by omega)]
        exact I.tk k (by omega),
    INV.t_zm (n _ rfl) (ag_of en rfl) I.zm,
    INV.t_ze (n _ rfl) (ag_of en rfl) I.ze,
    fun d hd => by
      rw [show q_n g2 20 = q_n g 20 by unfold q_n; rw [e27 (by decide)]] at hd
      have d12 := I.e12 hd
      rw [sil d d12, shl d d12, en 204 rfl]
      by_cases q : d = e
      · subst q
        rw [if_pos rfl, if_pos rfl, hg2]
        exact ⟨rd_g.1, rd_g.2.1, (I.gs d hd).2.2⟩
      · rw [if_neg q, if_neg q, hg2, rd_i (by omega) (by omega) (by omega), rd_i (by omega) (by omega) (by omega)]
        exact I.gs d hd,
    fun d hd => by
      rw [show q_n g2 20 = q_n g 20 by unfold q_n; rw [e27 (by decide)]] at hd
      have d12 := I.e12 hd
      rw [sil d d12, en 39 rfl, en 37 rfl, en 46 rfl, en 57 rfl]
      by_cases q : d = e
      · subst q
        rw [if_pos rfl, ws.2.1, n_ix (by omega), hl]
        have z : q_n g 0 - z_ix (g 27 0) = 0 := Nat.sub_self _
        rw [z, hg2, rd_g.2.2]
        show g 57 d + 0 = g 57 d
        exact Int32.add_zero _
      · rw [if_neg q, hg2, rd_i (by omega) (by omega) (by omega)]
        exact I.gc d hd,
    INV.t_gg (n _ rfl) (ag_of en rfl) I.gg,
    fun k hk => by
      rw [q55] at hk
      by_cases q : k = q_n g 55
      · subst q
        rw [hg2, rd_n (by omega), rd_n (by omega), rd_n (by omega)]
        intro z
        have z : 0 < (g 27 0 - q_si g e).toInt := z
        rw [mo] at z
        show q_cn g m = (if g 27 0 ≤ q_si g e then (0 : Int32) else g 41 (60 * m + (q_n g 0 - 1)))
        rw [if_neg (fun w => by have := n_le.mp w; omega)]
        unfold q_cn
        rw [if_pos]
        have t1 : (1 : Int32).toInt = 1 := by decide
        have e1 : (g 27 0 - 1).toInt = (g 27 0).toInt - 1 := by rw [i_sub (by rw [t1]; omega) (by rw [t1]; omega), t1]
        rw [n_le, n_le, e1]
        show (0 : Int) ≤ _ ∧ _ ≤ (59 : Int)
        omega
      · rw [hg2, rd_i (by omega) (by omega) (by omega), rd_i (by omega) (by omega) (by omega), rd_i (by omega) (by omega) (by omega)]
        exact I.gk k (by omega),
    INV.t_wl (n _ rfl) (ag_of en rfl) I.wl⟩
/-- the constructor of a reading -/
def h_rd (h : zH) (b : Nat) (t : Option Nat) (v2 v3 v4 v5 v6 v7 v8 v9 : Int32) : zH := z_sI (z_sI (z_sI (z_sI (z_sI (z_sI (z_sI (z_sI (z_sR (z_sR (z_nw h 5 0 10) (z_nx h) 0 (some b)) (z_nx h) 1 t) (z_nx h) 2 v2) (z_nx h) 3 v3) (z_nx h) 4 v4) (z_nx h) 5 v5) (z_nx h) 6 v6) (z_nx h) 7 v7) (z_nx h) 8 v8) (z_nx h) 9 v9
theorem h_rd_cw (W : CW h) {b : Nat} {t : Option Nat} {v2 v3 v4 v5 v6 v7 v8 v9 : Int32} (tb : z_tg h b = 3) (tt : ∀ x, t = some x → z_tg h x = 10) : CW (h_rd h b t v2 v3 v4 v5 v6 v7 v8 v9) := by
  have Wn : CW (z_nw h 5 0 10) := W.nw (by omega)
  have tn : z_tg (z_nw h 5 0 10) (z_nx h) = 5 := z_nw_at
  exact (Wn.sR (a := z_nx h) (j := 0) (r := some b) tn rfl (fun x q => by injection q with q; subst q; exact W.keep (c := 5) (l := 0) (n := 10) tb (by decide)) (by decide)).sR (a := z_nx h) (j := 1) (r := t) tn rfl (fun x q => W.keep (c := 5) (l := 0) (n := 10) (tt x q) (by decide)) (by decide)
theorem K_rdi (R : RC lm g h) (I : INV c lm g) {m a e b : Nat} (hm : m < q_n g 1) (ha : z_rv h 1 m = some a) (he : e < q_n g 20) (hb : z_rv h 2 e = some b) (hl : lm m = q_n g 0) {Q : Unit → zH → Prop}
    (q : Q () (h_rd h b (z_rv h a 9) (g 27 0) (g 53 e) (g 27 0 - q_si g e) (a_ls (g 53 e) (q_sh g e)) (a_ms (a_ls (g 53 e) (q_sh g e)) (g 50 e * (g 27 0 - q_si g e))) (g 57 e - g 202 e) (q_cn g m) (g 30 m))) : KK z_pV 54 [.ref (z_nx h), .ref a, .ref b, .int (g 27 0)] (z_nw h 5 0 10) Q := by
  have W := R.w
  have ge := W.ge
  have ta := W.mt R.f ha
  have tb := W.et R.f hb
  have Wn : CW (z_nw h 5 0 10) := W.nw (by omega)
  have tn : z_tg (z_nw h 5 0 10) (z_nx h) = 5 := z_nw_at
  have la : a < z_nx h := W.lt a (by rw [ta]; decide)
  have lb : b < z_nx h := W.lt b (by rw [tb]; decide)
  have ta3 := (W.m1 ta).2.2
  have la3 : a + 3 < z_nx h := W.lt _ (by rw [ta3]; decide)
  have ib : ∀ j, z_iv (z_nw h 5 0 10) b j = z_iv h b j := fun j => by rw [z_nw_iv (by omega)]
  have ia : ∀ j, z_iv (z_nw h 5 0 10) a j = z_iv h a j := fun j => by rw [z_nw_iv (by omega)]
  have gs := I.gs e he
  have bx := I.be.at (k := 53) (a := 0) (b := 9999) (by decide) he
  have c0 := I.cnt.1
  have hm6 := I.m6 hm
  have si := I.si he
  have mo : (g 27 0 - q_si g e).toInt = (g 27 0).toInt - (q_si g e).toInt := i_sub (by omega) (by omega)
  have mb := I.be.at (k := 50) (a := 1) (b := 9999) (by decide) he
  have mmb : 0 ≤ (g 50 e * (g 27 0 - q_si g e)).toInt ∧ (g 50 e * (g 27 0 - q_si g e)).toInt ≤ 599940 := by
    have bb := m_bd (by omega : 0 ≤ (g 50 e).toInt) mb.2 (by omega : 0 ≤ (g 27 0).toInt - (q_si g e).toInt) (by omega : (g 27 0).toInt - (q_si g e).toInt ≤ 60)
    rw [i_mul (by rw [mo]; omega) (by rw [mo]; omega), mo]
    omega
  have ls := a_least bx (I.shb (e := e))
  have ms := a_most ls.2 mmb
  have cn : ∀ (o : Option Nat) (v2 v3 v4 v5 v6 v7 : Int32) (hC : CW (z_sR (z_sR (z_nw h 5 0 10) (z_nx h) 0 (some b)) (z_nx h) 1 o)), KV z_pI 49 [.ref a, .int (g 27 0 - 1), .int (5 : Int32)] (z_sI (z_sI (z_sI (z_sI (z_sI (z_sI (z_sR (z_sR (z_nw h 5 0 10) (z_nx h) 0 (some b)) (z_nx h) 1 o) (z_nx h) 2 v2) (z_nx h) 3 v3) (z_nx h) 4 v4) (z_nx h) 5 v5) (z_nx h) 6 v6) (z_nx h) 7 v7) (q_cn g m) := by
    intro o v2 v3 v4 v5 v6 v7 hC
    have T : q_n g 0 ≤ 60 := by unfold q_n z_ix; omega
    have ei : ((0 : Int32) ≤ g 27 0 - 1 ∧ g 27 0 - 1 ≤ (59 : Int32)) → 1 ≤ q_n g 0 ∧ (5 : Int32) * (60 : Int32) + (g 27 0 - 1) = Int32.ofNat (60 * 5 + (q_n g 0 - 1)) := by
      intro z
      have t1 : (1 : Int32).toInt = 1 := by decide
      have e1 : (g 27 0 - 1).toInt = (g 27 0).toInt - 1 := by rw [i_sub (by rw [t1]; omega) (by rw [t1]; omega), t1]
      have z1 := n_le.mp z.1
      rw [e1] at z1
      have z1 : (0 : Int) ≤ (g 27 0).toInt - 1 := z1
      have p : 1 ≤ q_n g 0 := by unfold q_n z_ix; omega
      refine ⟨p, ?_⟩
      have e0 : g 27 0 = Int32.ofNat ((q_n g 0 - 1) + 1) := by
        rw [show q_n g 0 - 1 + 1 = q_n g 0 by omega]
        exact (n_of c0.1).symm
      rw [e0, ← n_s, Int32.add_sub_cancel, show (5 : Int32) * (60 : Int32) = Int32.ofNat (60 * 5) from by decide, ← Int32.ofNat_add]
    refine kv_of (C_49 a _ _ _ (by exact hC) (by exact W.keep (c := 5) (l := 0) (n := 10) ta (by decide)) (fun z _ => by rw [(ei z).2]; exact n_bd (N := 360) (by omega) (by omega)) ⟨?_, rfl⟩)
    unfold q_cn
    by_cases z : (0 : Int32) ≤ g 27 0 - 1 ∧ g 27 0 - 1 ≤ (59 : Int32)
    · rw [if_pos z, if_pos z, if_pos (by decide), (ei z).2, n_ix (by omega)]
      have p := (ei z).1
      have : z_iv (z_sI (z_sI (z_sI (z_sI (z_sI (z_sI (z_sR (z_sR (z_nw h 5 0 10) (z_nx h) 0 (some b)) (z_nx h) 1 o) (z_nx h) 2 v2) (z_nx h) 3 v3) (z_nx h) 4 v4) (z_nx h) 5 v5) (z_nx h) 6 v6) (z_nx h) 7 v7) (a + 3) = z_iv h (a + 3) := by
        refine (up_ne (by omega)).trans ((up_ne (by omega)).trans ((up_ne (by omega)).trans ((up_ne (by omega)).trans ((up_ne (by omega)).trans ((up_ne (by omega)).trans ?_)))))
        exact z_nw_iv (h := h) (c := 5) (l := 0) (n := 10) (by omega)
      rw [this]
      exact R.f41 hm ha (by omega) (by omega)
    · rw [if_neg z, if_neg z]
  have e9 : z_rv (z_sR (z_nw h 5 0 10) (z_nx h) 0 (some b)) a 9 = z_rv h a 9 := by rw [sR_ne (by omega), z_nw_rv (by omega)]
  have fin : ∀ o, z_rv h a 9 = o → ∃ v4 : Int32, KV z_pI 49 [.ref a, .int (g 27 0 - (1 : Int32)), .int (5 : Int32)] (z_sI (z_sI (z_sI (z_sI (z_sI (z_sI (z_sR (z_sR (z_nw h 5 0 10) (z_nx h) 0 (some b)) (z_nx h) 1 o) (z_nx h) 2 (g 27 0)) (z_nx h) 3 (g 53 e)) (z_nx h) 4 (g 27 0 - q_si g e)) (z_nx h) 5 (a_ls (g 53 e) (q_sh g e))) (z_nx h) 6 (a_ms (a_ls (g 53 e) (q_sh g e)) (g 50 e * (g 27 0 - q_si g e)))) (z_nx h) 7 (g 57 e - g 202 e)) v4 ∧ Q () (z_sI (z_sI (z_sI (z_sI (z_sI (z_sI (z_sI (z_sI (z_sR (z_sR (z_nw h 5 0 10) (z_nx h) 0 (some b)) (z_nx h) 1 o) (z_nx h) 2 (g 27 0)) (z_nx h) 3 (g 53 e)) (z_nx h) 4 (g 27 0 - q_si g e)) (z_nx h) 5 (a_ls (g 53 e) (q_sh g e))) (z_nx h) 6 (a_ms (a_ls (g 53 e) (q_sh g e)) (g 50 e * (g 27 0 - q_si g e)))) (z_nx h) 7 (g 57 e - g 202 e)) (z_nx h) 8 v4) (z_nx h) 9 (g 30 m)) := by
    intro o ho
    subst ho
    refine ⟨_, cn _ _ _ _ _ _ _ ?_, q⟩
    exact h_rd_cw (v2 := 0) (v3 := 0) (v4 := 0) (v5 := 0) (v6 := 0) (v7 := 0) (v8 := 0) (v9 := 0) W tb (fun x hx => W.tyOf ta hx (by decide) rfl)
  refine X_54 (z_nx h) a b (g 27 0) (z_nw h 5 0 10) Wn tn (W.keep ta (by decide)) (W.keep tb (by decide)) ?_
  rw [e9, ib, ib, ib, ib, ib, ib, ia, R.f53 he hb, R.f200 he hb, R.f201 he hb, R.f50 he hb, R.f57 he hb, R.f202 he hb, R.f30 hm ha, gs.1, gs.2.1, ls.1, ms.1]
  refine ⟨fun z => fin none z, fun b2 z => fin (some b2) z⟩
end RD2
theorem T_read {c : Nat} {g : zG} {h : zH} (X : AH c g h) (x1 : Int32) : ST z_pI 115 [.ref 0, .int x1] 201 [.ref 27, .int x1] c g h := by
  have I := X.i
  have R := X.r
  rcases I.mi x1 with hx | ⟨m, hm, hm6, rfl⟩
  · exact ST.ro X (-1) (X_201 _ g (by rw [if_neg hx]; exact ⟨rfl, SE.refl g⟩)) (kv_of (X_115 _ h R.w (xa_N (K_mineN R hx) ⟨rfl, rfl⟩)))
  obtain ⟨a, ha⟩ := R.mine hm
  have kS := K_mineS R I hm ha
  have ta := R.w.mt R.f ha
  have o := I.cn
  have kw := K_wk R hm ha
  cases k : q_wk g (Int32.ofNat m) with
  | none =>
    rw [k] at kw
    have kw : KV z_pA 44 [.ref a] h none := kw
    exact ST.ro X (-2) (X_201 _ g (by rw [if_pos (I.mv hm), k, if_pos (show s_no none = (-4 : Int32) from rfl)]; exact ⟨o, rfl, SE.refl g⟩)) (kv_of (X_115 _ h R.w (xa_S kS ta (xa_N kw ⟨rfl, rfl⟩))))
  | some e =>
    have ws := q_wk_some k
    have he := ws.1
    have he12 := I.e12 he
    obtain ⟨b, hb⟩ := R.engine he
    rw [k] at kw
    have kw : KV z_pA 44 [.ref a] h (some b) := by
      have w : (some e).bind (z_rv h 2) = some b := hb
      rw [w] at kw
      exact kw
    have tb := R.w.et R.f hb
    have c55 := I.cnt.2.2.2.1
    have p0 : ¬ g 27 55 < 0 := by rw [n_lt]; show ¬ _ < (0 : Int); omega
    have t60 : (60 : Int32).toInt = 60 := by decide
    by_cases c6 : g 27 55 = 60
    · have c6' : ¬ g 27 55 < 60 := by rw [c6]; decide
      refine ST.ro X (-3) (X_201 _ g ?_) (kv_of (X_115 _ h R.w (xa_S kS ta (xa_S kw tb ?_))))
      · rw [if_pos (I.mv hm), k, if_neg (s_no_ne (by omega)), if_pos c6]
        exact ⟨o, rfl, SE.refl g⟩
      · rw [R.n55, if_neg p0, if_neg c6']
        exact ⟨rfl, rfl⟩
    have h55 : (g 27 55).toInt < 60 := by
      have : ¬ (g 27 55).toInt = 60 := fun q => c6 (Int32.toInt_inj.mp (by rw [q, t60]))
      omega
    have c6' : g 27 55 < 60 := n_lt.mpr (by rw [t60]; exact h55)
    have n0 : q_n (g_rd g m e) 0 = q_n g 0 := by unfold q_n; rw [rd_27 (by decide)]
    refine ST.mk (g 27 55) (g_rd g m e) (M_read I hm k h55 (fun g2 q => ⟨rfl, q⟩)) (by rw [n0]; exact (I.t_c (Nat.le_succ c)).rd hm k h55 rfl) ?_
    refine X_115 _ h R.w (xa_S kS ta (xa_S kw tb ?_))
    rw [R.n55, if_neg p0, if_pos c6', R.n0]
    refine K_rdi R I hm ha he hb rfl ?_
    have W := R.w
    have ge := W.ge
    have la : a < z_nx h := W.lt a (by rw [ta]; decide)
    have lb : b < z_nx h := W.lt b (by rw [tb]; decide)
    obtain ⟨h1, hh1⟩ : ∃ h1, h1 = h_rd h b (z_rv h a 9) (g 27 0) (g 53 e) (g 27 0 - q_si g e) (a_ls (g 53 e) (q_sh g e)) (a_ms (a_ls (g 53 e) (q_sh g e)) (g 50 e * (g 27 0 - q_si g e))) (g 57 e - g 202 e) (q_cn g m) (g 30 m) := ⟨_, rfl⟩
    rw [← hh1]
    have W1 : CW h1 := by rw [hh1]; exact h_rd_cw W tb (fun x hx => W.tyOf ta hx (by decide) rfl)
    have x1 : Ex h h1 := by
      rw [hh1]
      exact ((((((((((Ex.refl h).nw.sR (Nat.le_refl _)).sR (Nat.le_refl _)).sI (Nat.le_refl _)).sI (Nat.le_refl _)).sI (Nat.le_refl _)).sI (Nat.le_refl _)).sI (Nat.le_refl _)).sI (Nat.le_refl _)).sI (Nat.le_refl _)).sI (Nat.le_refl _)
    have R1 := R.ext W1 x1
    have tn : z_tg h1 (z_nx h) = 5 := by rw [hh1]; exact z_nw_at (h := h) (c := 5) (l := 0) (n := 10)
    have r0 : z_rv h1 (z_nx h) 0 = some b := by
      rw [hh1]
      show z_rv (z_sR (z_sR (z_nw h 5 0 10) (z_nx h) 0 (some b)) (z_nx h) 1 (z_rv h a 9)) (z_nx h) 0 = some b
      rw [sR_nj (by omega)]
      exact sR_at
    have r1 : z_rv h1 (z_nx h) 1 = z_rv h a 9 := by
      rw [hh1]
      show z_rv (z_sR (z_sR (z_nw h 5 0 10) (z_nx h) 0 (some b)) (z_nx h) 1 (z_rv h a 9)) (z_nx h) 1 = _
      exact sR_at
    have v1 : z_iv h1 (z_nx h) 2 = g 27 0 ∧ z_iv h1 (z_nx h) 3 = g 53 e ∧ z_iv h1 (z_nx h) 4 = g 27 0 - q_si g e ∧ z_iv h1 (z_nx h) 5 = a_ls (g 53 e) (q_sh g e) ∧ z_iv h1 (z_nx h) 6 = a_ms (a_ls (g 53 e) (q_sh g e)) (g 50 e * (g 27 0 - q_si g e)) ∧ z_iv h1 (z_nx h) 7 = g 57 e - g 202 e ∧ z_iv h1 (z_nx h) 8 = q_cn g m ∧ z_iv h1 (z_nx h) 9 = g 30 m := by
      rw [hh1]
      unfold h_rd
      exact ⟨v_nj (by decide) (v_nj (by decide) (v_nj (by decide) (v_nj (by decide) (v_nj (by decide) (v_nj (by decide) (v_nj (by decide) v_at)))))), v_nj (by decide) (v_nj (by decide) (v_nj (by decide) (v_nj (by decide) (v_nj (by decide) (v_nj (by decide) v_at))))), v_nj (by decide) (v_nj (by decide) (v_nj (by decide) (v_nj (by decide) (v_nj (by decide) v_at)))), v_nj (by decide) (v_nj (by decide) (v_nj (by decide) (v_nj (by decide) v_at))), v_nj (by decide) (v_nj (by decide) (v_nj (by decide) v_at)), v_nj (by decide) (v_nj (by decide) v_at), v_nj (by decide) v_at, v_at⟩
    have R2 := R1.slot (t := 3) (i := q_n g 55) (b := z_nx h) (Or.inr ⟨rfl, Nat.le_refl _, tn⟩)
    obtain ⟨h2, hh2⟩ : ∃ h2, h2 = z_sR h1 3 (q_n g 55) (some (z_nx h)) := ⟨_, rfl⟩
    rw [← hh2] at R2
    have hb2 : z_rv h2 2 e = some b := by rw [hh2, sR_ne (by omega), (x1.2 2 (by omega)).2.2.2]; exact hb
    have gb := R.f.ge tb (by omega)
    have f13 : Loc (q_n g 1) (q_n g 20) (q_n g 55) (q_n g 45) (fun _ => q_n g 0) h2 200 e b 13 := ⟨he, hb2, by omega, rfl⟩
    have f14 : Loc (q_n g 1) (q_n g 20) (q_n g 55) (q_n g 45) (fun _ => q_n g 0) h2 201 e b 14 := ⟨he, hb2, by omega, rfl⟩
    have f15 : Loc (q_n g 1) (q_n g 20) (q_n g 55) (q_n g 45) (fun _ => q_n g 0) h2 202 e b 15 := ⟨he, hb2, by omega, rfl⟩
    have R3 := ((R2.up (v := g 27 0) f13 (by omega)).up (k := 201) (i := e) (c := b) (j := 14) (v := g 53 e) f14 (by omega)).up (k := 202) (i := e) (c := b) (j := 15) (v := g 57 e) f15 (by omega)
    obtain ⟨h3, hh3⟩ : ∃ h3, h3 = z_sI (z_sI (z_sI h2 b 13 (g 27 0)) b 14 (g 53 e)) b 15 (g 57 e) := ⟨_, rfl⟩
    rw [← hh3] at R3
    have R3 : RC (fun _ => q_n g 0) (g_gh g e) h3 := R3
    have ghq : ∀ j, q_n (g_gh g e) j = q_n g j := fun j => by unfold q_n g_gh; rw [up_ne (by decide), up_ne (by decide), up_ne (by decide)]
    have R4 : RC (fun _ => q_n g 0) (g_rw (g_gh g e) (q_n g 55) (v_rd g m e)) h3 := by
      refine R3.gw ?_ ?_ ?_ ?_ ?_ ?_ ?_ ?_ ?_
      · exact if_neg (by omega)
      · exact if_neg (by omega)
      · exact if_neg (by omega)
      · exact if_neg (by omega)
      · intro k i x j L
        refine if_neg (fun z => ?_)
        have : kd k = 6 ∨ kd k = 9 := by
          have w : k = 70 ∨ k = 71 ∨ k = 72 ∨ k = 73 ∨ k = 74 ∨ k = 75 ∨ k = 76 ∨ k = 77 ∨ k = 78 ∨ k = 79 ∨ k = 80 ∨ k = 81 ∨ k = 82 ∨ k = 83 ∨ k = 205 := by omega
          rcases w with w | w | w | w | w | w | w | w | w | w | w | w | w | w | w <;> subst w <;> decide
        unfold Loc at L
        rcases this with w | w <;> rw [w] at L
        · have := L.1
          rw [ghq] at this
          omega
        · exact L
      · intro i _; exact if_neg (by omega)
      · intro k i _ hi; rw [ghq] at hi; exact if_neg (by omega)
      · intro k i _ _ _; exact if_neg (by omega)
      · intro k i _ _; exact if_neg (by omega)
    have rwq : ∀ j, q_n (g_rw (g_gh g e) (q_n g 55) (v_rd g m e)) j = q_n g j := fun j => (show z_ix ((g_rw (g_gh g e) (q_n g 55) (v_rd g m e)) 27 j) = z_ix (g_gh g e 27 j) from congrArg z_ix (if_neg (by omega))).trans (ghq j)
    have w55 : (g_rw (g_gh g e) (q_n g 55) (v_rd g m e)) 27 55 = g 27 55 := (if_neg (by omega)).trans (by unfold g_gh; rw [up_ne (by decide), up_ne (by decide), up_ne (by decide)])
    have i3 : ∀ x j, ¬ x = b → z_iv h3 x j = z_iv h1 x j := fun x j hx => by
      rw [hh3, hh2]
      exact (congrFun (up_ne hx) j).trans ((congrFun (up_ne hx) j).trans (congrFun (up_ne hx) j))
    have r3 : z_rv h3 = z_rv h2 := by rw [hh3]; rfl
    have R5 := R4.c55 (b := z_nx h) (by rw [w55]; exact ⟨c55.1, h55⟩) (by rw [rwq, r3, hh2]; exact sR_at) (by
        intro i hi z
        rw [rwq] at hi
        rw [r3, hh2, sR_nj (by omega), (x1.2 3 (by omega)).2.2.2] at z
        have := W.lv _ _ _ z
        omega) (by
        intro j hj h2j
        rw [rwq, i3 _ _ (by omega)]
        obtain ⟨u2, u3, u4, u5, u6, u7, u8, u9⟩ := v1
        have d : j = 2 ∨ j = 3 ∨ j = 4 ∨ j = 5 ∨ j = 6 ∨ j = 7 ∨ j = 8 ∨ j = 9 := by omega
        rcases d with r | r | r | r | r | r | r | r <;> subst r
        · rw [u2]; exact (if_pos ⟨rfl, by decide⟩).symm
        · rw [u3]; exact (if_pos ⟨rfl, by decide⟩).symm
        · rw [u4]; exact (if_pos ⟨rfl, by decide⟩).symm
        · rw [u5]; exact (if_pos ⟨rfl, by decide⟩).symm
        · rw [u6]; exact (if_pos ⟨rfl, by decide⟩).symm
        · rw [u7]
          refine Eq.trans ?_ (if_pos ⟨rfl, by decide⟩).symm
          have gc := I.gc e he
          rw [ws.2.1, n_ix (by omega)] at gc
          show g 57 e - g 202 e = s_cs (g 39) (g 37) (Int32.ofNat e) (60 * m) (z_ix (q_si g e)) (q_n g 0 - z_ix (q_si g e))
          rw [← gc, Int32.add_comm, Int32.add_sub_cancel]
        · rw [u8]; exact (if_pos ⟨rfl, by decide⟩).symm
        · rw [u9]; exact (if_pos ⟨rfl, by decide⟩).symm) (by
        rw [rwq, r3, hh2, sR_ne (by omega), r0]
        have : (g_rw (g_gh g e) (q_n g 55) (v_rd g m e)) 71 (q_n g 55) = Int32.ofNat e := if_pos ⟨rfl, by decide⟩
        rw [this, n_ix (by omega), sR_ne (by omega), (x1.2 2 (by omega)).2.2.2]
        exact hb.symm) (by
        rw [rwq, r3, hh2, sR_ne (by omega), r1]
        have tm := R.mtrial hm ha
        unfold TrR at tm ⊢
        have w0 : (g_rw (g_gh g e) (q_n g 55) (v_rd g m e)) 80 (q_n g 55) = g 42 m := if_pos ⟨rfl, by decide⟩
        have w1 : (g_rw (g_gh g e) (q_n g 55) (v_rd g m e)) (80 + 1) (q_n g 55) = g 43 m := if_pos ⟨rfl, by decide⟩
        have w2 : (g_rw (g_gh g e) (q_n g 55) (v_rd g m e)) (80 + 2) (q_n g 55) = g 44 m := if_pos ⟨rfl, by decide⟩
        have w3 : (g_rw (g_gh g e) (q_n g 55) (v_rd g m e)) (80 + 3) (q_n g 55) = g 45 m := if_pos ⟨rfl, by decide⟩
        rw [w0, w1, w2, w3]
        rcases tm with q | ⟨t, t1, t2, i0, i1, i2, i4⟩
        · exact Or.inl q
        · have tt : z_tg h t = 10 := W.tyOf ta t1 (by decide) rfl
          have hx : ¬ t = b := fun q => by rw [q, tb] at tt; cases tt
          have lt : t < z_nx h := W.lv _ _ _ t1
          refine Or.inr ⟨t, t1, t2, ?_⟩
          rw [i3 _ _ hx, i3 _ _ hx, i3 _ _ hx, i3 _ _ hx, (x1.2 t lt).2.2.1]
          exact ⟨i0, i1, i2, i4⟩)
    rw [w55] at R5
    have i2b : ∀ j, z_iv h2 b j = z_iv h b j := fun j => by rw [hh2]; show z_iv h1 b j = z_iv h b j; rw [(x1.2 b lb).2.2.1]
    refine X_115_64 _ a b (z_nx h) (g 27 55) h1 W1 ((x1.2 a la).1.trans ta) ((x1.2 b lb).1.trans tb) tn ((x1.2 3 (by omega)).1.trans R.f.t3) ((x1.2 3 (by omega)).2.1.trans (W.abOf (t := 11) (j := 2) (o := 3) (n := 60) (by decide) W.t0).2) ?_
    have z14 : z_iv h1 0 14 = g 27 55 := by rw [(x1.2 0 (by omega)).2.2.1]; exact R.n55
    have z11 : z_iv h1 0 11 = g 27 0 := by rw [(x1.2 0 (by omega)).2.2.1]; exact R.n0
    rw [z14, z11]
    have e8 : z_iv (z_sR h1 3 (z_ix (g 27 55)) (some (z_nx h))) b 8 = g 53 e := (i2b 8 ▸ (by rw [hh2]; rfl) : z_iv (z_sR h1 3 (z_ix (g 27 55)) (some (z_nx h))) b 8 = z_iv h b 8).trans (R.f53 he hb)
    have e12 : z_iv (z_sR h1 3 (z_ix (g 27 55)) (some (z_nx h))) b 12 = g 57 e := (i2b 12 ▸ (by rw [hh2]; rfl) : z_iv (z_sR h1 3 (z_ix (g 27 55)) (some (z_nx h))) b 12 = z_iv h b 12).trans (R.f57 he hb)
    rw [e8, e12]
    refine ⟨⟨c55.1, h55⟩, by rw [Int32.add_sub_cancel], ?_⟩
    have eh : z_sI (z_sI (z_sI (z_sI (z_sR h1 3 (z_ix (g 27 55)) (some (z_nx h))) b 13 (g 27 0)) b 14 (g 53 e)) b 15 (g 57 e)) 0 14 (g 27 55 + 1) = z_sI h3 0 14 (g 27 55 + 1) := by rw [hh3, hh2]; rfl
    rw [eh, n0]
    refine ⟨R5, ?_, ?_⟩
    · have N := X.2.2.1
      have k1 : Kq h h1 := by
        rw [hh1]
        exact (((((((((((Kq.nw ge (by omega)).trans (Kq.sR (by omega))).trans (Kq.sR (by omega))).trans (Kq.sI (by omega) (by omega))).trans (Kq.sI (by omega) (by omega))).trans (Kq.sI (by omega) (by omega))).trans (Kq.sI (by omega) (by omega))).trans (Kq.sI (by omega) (by omega))).trans (Kq.sI (by omega) (by omega))).trans (Kq.sI (by omega) (by omega))).trans (Kq.sI (by omega) (by omega)))
      refine k1.trans ?_
      rw [hh3, hh2]
      exact (Kq.sR (by omega)).trans ((Kq.sI (by omega) (by omega)).trans ((Kq.sI (by omega) (by omega)).trans ((Kq.sI (by omega) (by omega)).trans (Kq.sI (by omega) (by omega)))))
    · rw [hh3, hh2, hh1]
      exact ⟨by show z_nx h + 1 ≤ z_nx h + 4; omega, by show z_us h + 10 ≤ z_us h + 400; omega⟩
