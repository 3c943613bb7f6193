theorem INV.sht {c : Nat} {lm : Nat → Nat} {g : zG} (I : INV c lm g) {n : Nat} {la le : Int32} (hla : 0 ≤ la.toInt ∧ la.toInt ≤ 2) (hle : 0 ≤ le.toInt ∧ le.toInt ≤ 48) : INV c lm (g_sh g n la le 48) := by
  have e := g_sh_ne (g := g) (n := n) (m := 48) (la := la) (le := le)
  exact ⟨INV.t_cnt (an_of e rfl) (ag_of e rfl) I.cnt,
    INV.t_bm (an_of e rfl) (ag_of e rfl) I.bm,
    INV.t_pd (an_of e rfl) (ag_of e rfl) I.pd,
    INV.t_bw (an_of e rfl) (ag_of e rfl) I.bw,
    INV.t_bs (an_of e rfl) (ag_of e rfl) I.bs,
    INV.t_be (an_of e rfl) (ag_of e rfl) I.be,
    INV.t_br (an_of e rfl) (ag_of e rfl) I.br,
    INV.t_bl (an_of e rfl) (ag_of e rfl) I.bl,
    INV.t_bt (an_of e rfl) (ag_of e rfl) I.bt,
    INV.t_wc (an_of e rfl) (ag_of e rfl) I.wc,
    INV.t_wn (an_of e rfl) (ag_of e rfl) I.wn,
    fun q hq i hi => by
      simp at hq
      subst hq
      show 0 ≤ (g_sh g n la le 48 87 i).toInt ∧ (g_sh g n la le 48 87 i).toInt ≤ 48
      unfold g_sh
      rw [if_neg (by omega)]
      by_cases w : i = n
      · rw [if_pos ⟨rfl, w⟩]; exact hle
      · rw [if_neg (by omega), if_neg (by omega)]; exact I.sh.at (k := 87) (a := 0) (b := 48) (by decide) hi,
    fun i hi => by
      unfold g_sh
      by_cases w : i = n
      · rw [if_pos ⟨rfl, w⟩]; exact Or.inr hla
      · rw [if_neg (by omega), if_neg (by omega), if_neg (by omega)]; exact I.la i hi,
    INV.t_lv (an_of e rfl) (ag_of e rfl) I.lv,
    INV.t_em (an_of e rfl) (ag_of e rfl) I.em,
    INV.t_ca (an_of e rfl) (ag_of e rfl) I.ca,
    INV.t_ag (an_of e rfl) (ag_of e rfl) I.ag,
    INV.t_re (an_of e rfl) (ag_of e rfl) I.re,
    INV.t_tm (an_of e rfl) (ag_of e rfl) I.tm,
    INV.t_tk (an_of e rfl) (ag_of e rfl) I.tk,
    INV.t_zm (an_of e rfl) (ag_of e rfl) I.zm,
    INV.t_ze (an_of e rfl) (ag_of e rfl) I.ze,
    INV.t_gs (an_of e rfl) (ag_of e rfl) I.gs,
    INV.t_gc (an_of e rfl) (ag_of e rfl) I.gc,
    INV.t_gg (an_of e rfl) (ag_of e rfl) I.gg,
    INV.t_gk (an_of e rfl) (ag_of e rfl) I.gk,
    INV.t_wl (an_of e rfl) (ag_of e rfl) I.wl⟩
theorem T_sheet {c : Nat} {g : zG} {h : zH} (X : AH c g h) (x1 x2 x3 : Int32) : ST z_pI 130 [.ref 0, .int x1, .int x2, .int x3] 228 [.ref 27, .int x1, .int x2, .int x3] c g h := by
  have I := X.i
  have R := X.r
  rcases (Decidable.em ((0 : Int32) ≤ x1 ∧ x1 ≤ (3 : Int32))).symm with c1 | c1
  · exact ST.ro X (-1) (X_228 _ _ _ g (by rw [if_neg c1]; exact ⟨rfl, SE.refl g⟩)) (kv_of (X_130 _ _ _ h R.w (by rw [if_neg c1]; exact ⟨rfl, rfl⟩)))
  rcases (Decidable.em ((0 : Int32) ≤ x2 ∧ x2 ≤ (2 : Int32))).symm with c2 | c2
  · exact ST.ro X (-1) (X_228 _ _ _ g (by rw [if_pos c1, if_neg c2]; exact ⟨rfl, SE.refl g⟩)) (kv_of (X_130 _ _ _ h R.w (by rw [if_pos c1, if_neg c2]; exact ⟨rfl, rfl⟩)))
  rcases (Decidable.em (x3 ≤ (48 : Int32))).symm with c3 | c3
  · exact ST.ro X (-1) (X_228 _ _ _ g (by rw [if_pos c1, if_pos c2, if_neg c3]; exact ⟨rfl, SE.refl g⟩)) (kv_of (X_130 _ _ _ h R.w (by rw [if_pos c1, if_pos c2, if_neg c3]; exact ⟨rfl, rfl⟩)))
  rcases (Decidable.em (0 ≤ x3)).symm with c4 | c4
  · exact ST.ro X (-14) (X_228 _ _ _ g (by rw [if_pos c1, if_pos c2, if_pos c3, if_neg c4]; exact ⟨rfl, SE.refl g⟩)) (kv_of (X_130 _ _ _ h R.w (by rw [if_pos c1, if_pos c2, if_pos c3, if_neg c4]; exact ⟨rfl, rfl⟩)))
  obtain ⟨n, hn, rfl⟩ := n_lit 3 (by omega) c1
  have lb := n_bnd (a := 0) (b := 48) (by omega) (by omega) ⟨c4, c3⟩
  have ab := n_bnd (a := 0) (b := 2) (by omega) (by omega) c2
  have bd := n_bd (i := n) (N := 4) (by omega) (by omega)
  have ix : z_ix (Int32.ofNat n) = n := n_ix (by omega)
  have n0 : q_n (g_sh g n x2 x3 48) 0 = q_n g 0 := by unfold q_n; rw [g_sh_ne 27 rfl]
  refine ST.mk 1 (g_sh g n x2 x3 48) ?_ (by rw [n0]; exact (I.t_c (Nat.le_succ c)).sht ab lb) ?_
  · refine X_228 _ _ _ g ?_
    rw [if_pos c1, if_pos c2, if_pos c3, if_pos c4, ix]
    refine ⟨bd, bd, ?_⟩
    have st : z_up2 (z_up2 g 86 n x2) 87 n x3 = g_sh g n x2 x3 0 := by
      funext k i
      unfold g_sh z_up2
      by_cases q : k = 87 ∧ i = n
      · rw [if_pos q, if_neg (by omega), if_pos q]
      · rw [if_neg q]
        by_cases w : k = 86 ∧ i = n
        · rw [if_pos w, if_pos w]
        · rw [if_neg w, if_neg w, if_neg q, if_neg (by omega)]
    rw [st]
    refine z_lp (N := 48) (G := fun i => MG z_pI 228 56 [some (.ref 27), some (.int (Int32.ofNat n)), some (.int x2), some (.int x3), some (.int (Int32.ofNat i))] [] (g_sh g n x2 x3 i) _) ?_ ?_
    · refine X_228_56 _ _ _ _ _ ?_
      rw [if_pos (show (48 : Int32) ≤ Int32.ofNat 48 from by decide)]
      exact ⟨rfl, fun _ _ => rfl⟩
    · intro i hi w
      refine X_228_56 _ _ _ _ _ ?_
      have e : (48 : Int32) * Int32.ofNat n + Int32.ofNat i = Int32.ofNat (48 * n + i) := n_ma (a := 48)
      rw [if_neg (show ¬ (48 : Int32) ≤ _ from lit_le (a := 48) (by omega) (by omega) hi), e, n_ix (by omega), n_s]
      refine ⟨n_bd (N := 192) (by omega) (by omega), ?_⟩
      have es : z_up2 (g_sh g n x2 x3 i) 88 (48 * n + i) 0 = g_sh g n x2 x3 (i + 1) := by
        funext k j
        unfold g_sh z_up2
        by_cases q : k = 88 ∧ j = 48 * n + i
        · rw [if_pos q, if_neg (by omega), if_neg (by omega), if_pos (by omega)]
        · rw [if_neg q]
          dsimp only
          by_cases w1 : k = 86 ∧ j = n
          · rw [if_pos w1, if_pos w1]
          · rw [if_neg w1, if_neg w1]
            by_cases w2 : k = 87 ∧ j = n
            · rw [if_pos w2, if_pos w2]
            · rw [if_neg w2, if_neg w2]
              by_cases w3 : k = 88 ∧ 48 * n ≤ j ∧ j < 48 * n + i
              · rw [if_pos w3, if_pos (by omega)]
              · rw [if_neg w3, if_neg (by omega)]
      rw [es]
      exact w
  · refine X_130 _ _ _ h R.w ?_
    rw [if_pos c1, if_pos c2, if_pos c3, if_pos c4]
    have W := R.w
    have ge := W.ge
    have N := X.2.2.1
    have eV : (if (0 : Int32) < (if (48 : Int32) < x3 then (48 : Int32) else x3) then (if (48 : Int32) < x3 then (48 : Int32) else x3) else (0 : Int32)) = x3 := by
      rw [if_neg (show ¬ (48 : Int32) < x3 from Int32.not_lt.mpr c3)]
      by_cases q : (0 : Int32) < x3
      · rw [if_pos q]
      · rw [if_neg q]
        apply Int32.toInt_inj.mp
        have : ¬ (0 : Int32).toInt < x3.toInt := fun w => q (n_lt.mpr w)
        have z0 : (0 : Int32).toInt = 0 := by decide
        omega
    refine X_87 (z_nx h) x2 x3 (z_nw h 8 0 2) z_nw_at (by show z_nx h < z_nx h + 1; omega) ?_
    rw [eV]
    refine ⟨by omega, ?_⟩
    obtain ⟨h1, hh1⟩ : ∃ h1, h1 = z_sR (z_nw (z_sI (z_nw h 8 0 2) (z_nx h) 0 x2) 100 (z_ix x3) (z_ix x3)) (z_nx h) 1 (some (z_nx (z_sI (z_nw h 8 0 2) (z_nx h) 0 x2))) := ⟨_, rfl⟩
    rw [← hh1]
    have nn : z_nx (z_sI (z_nw h 8 0 2) (z_nx h) 0 x2) = z_nx h + 1 := rfl
    have tg0 : z_tg h1 (z_nx h) = 8 := by
      rw [hh1]
      show z_tg (z_nw (z_sI (z_nw h 8 0 2) (z_nx h) 0 x2) 100 (z_ix x3) (z_ix x3)) (z_nx h) = 8
      rw [z_nw_tg (by rw [nn]; omega)]
      exact z_nw_at (h := h) (c := 8) (l := 0) (n := 2)
    have tg1 : z_tg h1 (z_nx h + 1) = 100 := by
      rw [hh1]
      exact z_nw_at (h := z_sI (z_nw h 8 0 2) (z_nx h) 0 x2) (c := 100) (l := z_ix x3) (n := z_ix x3)
    have ln1 : z_ln h1 (z_nx h + 1) = z_ix x3 := by
      rw [hh1]
      exact z_nw_lnat (h := z_sI (z_nw h 8 0 2) (z_nx h) 0 x2) (c := 100) (l := z_ix x3) (n := z_ix x3)
    have old : ∀ a, ¬ (z_nx h ≤ a ∧ a < z_nx h + 2) → z_tg h1 a = z_tg h a ∧ z_ln h1 a = z_ln h a ∧ z_rv h1 a = z_rv h a := by
      intro a ha
      rw [hh1]
      refine ⟨?_, ?_, ?_⟩
      · show z_tg (z_nw (z_sI (z_nw h 8 0 2) (z_nx h) 0 x2) 100 (z_ix x3) (z_ix x3)) a = z_tg h a
        rw [z_nw_tg (by rw [nn]; omega)]
        exact z_nw_tg (h := h) (c := 8) (l := 0) (n := 2) (by omega)
      · show z_ln (z_nw (z_sI (z_nw h 8 0 2) (z_nx h) 0 x2) 100 (z_ix x3) (z_ix x3)) a = z_ln h a
        rw [z_nw_ln (by rw [nn]; omega)]
        exact z_nw_ln (h := h) (c := 8) (l := 0) (n := 2) (by omega)
      · rw [sR_ne (by omega), z_nw_rv (by rw [nn]; omega)]
        exact z_nw_rv (h := h) (c := 8) (l := 0) (n := 2) (by omega)
    have rv0 : ∀ j, z_rv h1 (z_nx h) j = if j = 1 then some (z_nx h + 1) else none := by
      intro j
      rw [hh1]
      by_cases q : j = 1
      · subst q
        rw [sR_at, if_pos rfl, nn]
      · rw [sR_nj (by omega), if_neg q, z_nw_rv (by rw [nn]; omega)]
        exact congrFun (z_nw_rvat (h := h) (c := 8) (l := 0) (n := 2)) j
    have rv1 : ∀ j, z_rv h1 (z_nx h + 1) j = none := by
      intro j
      rw [hh1, sR_ne (by omega)]
      exact congrFun (z_nw_rvat (h := z_sI (z_nw h 8 0 2) (z_nx h) 0 x2) (c := 100) (l := z_ix x3) (n := z_ix x3)) j
    have W1 : CW h1 := by
      refine W.grow 2 (by rw [hh1]; rfl) old ?_ ?_ ?_ ?_
      · intro i j b hi hb
        have d : i = 0 ∨ i = 1 := by omega
        rcases d with r | r <;> subst r
        · have hb : z_rv h1 (z_nx h) j = some b := hb
          rw [rv0] at hb
          by_cases q : j = 1
          · rw [if_pos q] at hb
            injection hb with hb
            subst hb
            refine ⟨by omega, ?_⟩
            rw [tg1, show z_tg h1 (z_nx h + 0) = 8 from tg0, q]
            rfl
          · rw [if_neg q] at hb; cases hb
        · rw [rv1] at hb; cases hb
      · intro i hi q hq ht
        exfalso
        have d : i = 0 ∨ i = 1 := by omega
        rcases d with r | r <;> subst r
        · rw [show z_tg h1 (z_nx h + 0) = 8 from tg0] at ht
          exact (by decide : ∀ q ∈ c_rel, ¬ 8 = q.1) q hq ht
        · rw [tg1] at ht
          exact (by decide : ∀ q ∈ c_rel, ¬ 100 = q.1) q hq ht
      · intro i hi q hq ht
        have d : i = 0 ∨ i = 1 := by omega
        rcases d with r | r <;> subst r
        · rw [show z_tg h1 (z_nx h + 0) = 8 from tg0] at ht
          exact (by decide : ∀ q ∈ c_abs, ¬ 8 = q.1) q hq ht
        · rw [tg1] at ht
          exact (by decide : ∀ q ∈ c_abs, ¬ 100 = q.1) q hq ht
      · intro i hi ht
        have d : i = 0 ∨ i = 1 := by omega
        rcases d with r | r <;> subst r
        · refine ⟨(rv0 1).trans (if_pos rfl), ?_⟩
          rw [show z_nx h + 0 + 1 = z_nx h + 1 from rfl, ln1]
          unfold z_ix
          omega
        · rw [tg1] at ht; cases ht
    have x1 : Ex h h1 := by
      rw [hh1]
      exact ((((Ex.refl h).nw.sI (Nat.le_refl _)).nw).sR (Nat.le_refl _))
    have R1 := R.ext W1 x1
    have R2 := R1.sht (n := n) (s := z_nx h) (la := x2) (le := x3) (by omega) tg0 (by
        intro i hi q
        rw [(x1.2 4 (by omega)).2.2.2] at q
        have := W.lv _ _ _ q
        omega) (by
        rw [hh1]
        show z_iv (z_nw (z_sI (z_nw h 8 0 2) (z_nx h) 0 x2) 100 (z_ix x3) (z_ix x3)) (z_nx h) 0 = x2
        rw [z_nw_iv (by rw [nn]; omega)]
        exact v_at) (by
        intro j
        rw [hh1]
        exact congrFun (z_nw_ivat (h := z_sI (z_nw h 8 0 2) (z_nx h) 0 x2) (c := 100) (l := z_ix x3) (n := z_ix x3)) j) ln1 (by
        intro q
        rw [q] at ab
        exact absurd ab.1 (by decide))
    refine X_130_43 _ _ _ (z_nx h) (Int32.ofNat n) h1 W1 tg0 ((x1.2 4 (by omega)).1.trans R.f.t4) ((x1.2 4 (by omega)).2.1.trans (W.abOf (t := 11) (j := 3) (o := 4) (n := 4) (by decide) W.t0).2) ?_
    rw [ix, n0]
    refine ⟨bd, rfl, R2, ?_, ?_⟩
    · rw [hh1]
      exact ((((Kq.nw ge (by omega)).trans (Kq.sI (by omega) (by omega))).trans (Kq.nw (by show 89 ≤ z_nx h + 1; omega) (by show z_nx h + 1 < 600000; omega))).trans (Kq.sR (by omega))).trans (Kq.sR (by omega))
    · rw [hh1]
      have lz : z_ix x3 ≤ 48 := by unfold z_ix; omega
      exact ⟨by show z_nx h + 1 + 1 ≤ z_nx h + 4; omega, by show z_us h + 2 + z_ix x3 ≤ z_us h + 400; omega⟩
/-! what no call of the reference asks for -/
theorem RC.scr {lm : Nat → Nat} {g : zG} {h : zH} (R : RC lm g h) {c j : Nat} {v : Int32} (hc : c = 5 ∨ (9 ≤ c ∧ c ≤ 14) ∨ (c = 8 ∧ ¬ j = 0) ∨ (∃ B, z_rv h 0 10 = some B ∧ B ≤ c ∧ c ≤ B + 5)) : RC lm g (z_sI h c j v) := by
  have bd := R.b
  have key : ∀ k i c' j', Loc (q_n g 1) (q_n g 20) (q_n g 55) (q_n g 45) lm h k i c' j' → ¬ (c' = c ∧ j' = j) := by
    intro k i c' j' L q
    obtain ⟨rfl, rfl⟩ := q
    rcases L.cell R.w R.f with q | q | q | q | ⟨B, q, q2⟩ | q
    · rcases hc with w | w | w | ⟨D, w, w2⟩
      · omega
      · omega
      · omega
      · rcases bd with b | b <;> rw [b.2] at w <;> injection w with w <;> omega
    · rcases hc with w | w | w | ⟨D, w, w2⟩
      · omega
      · omega
      · omega
      · rcases bd with b | b <;> rw [b.2] at w <;> injection w with w <;> omega
    · rcases hc with w | w | w | ⟨D, w, w2⟩
      · omega
      · omega
      · omega
      · rcases bd with b | b <;> rw [b.2] at w <;> injection w with w <;> omega
    · rcases hc with w | w | w | ⟨D, w, w2⟩
      · omega
      · omega
      · omega
      · rcases bd with b | b <;> rw [b.2] at w <;> injection w with w <;> omega
    · rcases bd with b | b <;> rw [b.1] at q <;> injection q with q
      · rcases hc with w | w | w | ⟨D, w, w2⟩
        · omega
        · omega
        · omega
        · rw [b.2] at w; injection w with w; omega
      · rcases hc with w | w | w | ⟨D, w, w2⟩
        · omega
        · omega
        · omega
        · rw [b.2] at w; injection w with w; omega
    · rcases hc with w | w | w | ⟨D, w, w2⟩
      · omega
      · omega
      · omega
      · rcases bd with b | b <;> rw [b.2] at w <;> injection w with w <;> omega
  have c89 : c < 27 := by
    rcases hc with w | w | w | ⟨D, w, w2⟩
    · omega
    · omega
    · omega
    · rcases bd with b | b <;> rw [b.2] at w <;> injection w with w <;> omega
  refine ⟨R.w.sI, R.f, R.b, R.j, fun k i c' j' L => ?_, ?_⟩
  · rw [show z_iv (z_sI h c j v) c' j' = z_iv h c' j' from up_nj (key k i c' j' L)]
    exact R.i k i c' j' L
  · refine R.x.iv (h2 := z_sI h c j v) rfl rfl (fun d hd => up_ne (fun q => ?_)) R.w R.f
    have := R.f.ge hd (by omega)
    omega
