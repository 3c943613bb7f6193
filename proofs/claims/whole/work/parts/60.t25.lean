section MR
variable {c : Nat} {lm lm2 : Nat → Nat} {g : zG} {h : zH}
theorem M_go (I : INV c lm g) {m : Nat} {Q : Unit → zG → Prop} (hm : m < q_n g 1) (ht : q_n g 0 < 60) (q : Q () (g_go g m)) : MK z_pV 176 [.ref 27, .int (Int32.ofNat m)] g Q := by
  have hm6 := I.m6 hm
  have c0 := I.cnt.1
  have et : g 27 0 = Int32.ofNat (q_n g 0) := (n_of I.cnt.1.1).symm
  have ep : (60 : Int32) * Int32.ofNat m + g 27 0 = Int32.ofNat (60 * m + q_n g 0) := by
    have z : (60 : Int32) * Int32.ofNat m + Int32.ofNat (q_n g 0) = Int32.ofNat (60 * m + q_n g 0) := n_ma (a := 60)
    rwa [← et] at z
  have e12 := a_m12 c0.1 (by omega : (g 27 0).toInt ≤ 100000)
  have ema : (12 : Int32) * Int32.ofNat m + Int32.ofNat (z_ix (g 27 0) % 12) = Int32.ofNat (12 * m + z_ix (g 27 0) % 12) := n_ma (a := 12)
  have b12 := n_bd (i := 12 * m + z_ix (g 27 0) % 12) (N := 72) (by omega) (by omega)
  have bp := n_bd (i := 60 * m + q_n g 0) (N := 360) (by omega) (by omega)
  have bm := n_bd (N := 6) hm6 (by omega)
  have i12 : z_ix (Int32.ofNat (12 * m + z_ix (g 27 0) % 12)) = 12 * m + z_ix (g 27 0) % 12 := n_ix (by omega)
  have ip : z_ix (Int32.ofNat (60 * m + q_n g 0)) = 60 * m + q_n g 0 := n_ix (by omega)
  have im : z_ix (Int32.ofNat m) = m := n_ix (by omega)
  refine X_176 _ g ?_
  cases k : q_wk g (Int32.ofNat m) with
  | none =>
    rw [e12, ema, ep, i12, ip, im]
    refine ⟨I.cn, b12, bp, fun g6 e6 => ⟨bp, fun g8 e8 => ?_⟩⟩
    rw [if_pos (show s_no none = (-4 : Int32) from rfl)]
    refine ⟨bp, fun g12 e12 => ⟨bp, fun g14 e14 => ⟨bm, bp, fun g17 e17 => ⟨bm, bp, fun g20 e20 => ⟨bm, bp, bm, fun g24 e24 => ?_⟩⟩⟩⟩⟩
    have h8 : g8 = g_gA g (60 * m + q_n g 0) := by rw [e8, e6]; rfl
    rw [h8] at e12
    rw [gT_eq e12 e14 e17 e20 e24]
    rw [g_go_N k] at q
    exact q
  | some e =>
    obtain ⟨he, e46, _, _⟩ := q_wk_some k
    have he12 := I.e12 he
    have bE := s_no_bd (e := e) (N := 12) he12 (by omega)
    have l48 := I.be.at (k := 48) (a := 1) (b := 99) (by decide) he
    rw [e12, ema, ep, i12, ip, im, s_no_ix (by omega)]
    refine ⟨I.cn, b12, bp, fun g6 e6 => ⟨bp, fun g8 e8 => ?_⟩⟩
    have h8 : g8 = g_gA g (60 * m + q_n g 0) := by rw [e8, e6]; rfl
    have h8r : ∀ k, ¬ k = 36 → ¬ k = 37 → g8 k = g k := by
      intro k h1 h2
      rw [h8]
      unfold g_gA
      rw [up_ne h2, up_ne h1]
    rw [if_neg (s_no_ne (by omega)), h8r 27 (by decide) (by decide), e12, ema, i12, h8r 32 (by decide) (by decide), h8r 30 (by decide) (by decide), h8r 48 (by decide) (by decide), h8r 50 (by decide) (by decide), h8r 49 (by decide) (by decide), h8r 52 (by decide) (by decide)]
    have nl : ¬ (g 48 e).toInt64 = 0 := by
      intro z
      have := congrArg Int64.toInt z
      rw [l_i] at this
      have z0 : (0 : Int64).toInt = 0 := by decide
      omega
    have w100 := a_100 (I.a52 he)
    have n100 : ¬ ((100 : Int32) + g 52 e).toInt64 = 0 := by
      intro z
      have := congrArg Int64.toInt z
      rw [l_i, w100.1] at this
      have z0 : (0 : Int64).toInt = 0 := by decide
      have := (I.a52 he).1
      omega
    have wn := (a_worn (I.d49 he) (I.a52 he)).2
    have nw : ¬ a_wn (g 49 e) (g 52 e) = 0 := by
      intro z
      have := congrArg Int64.toInt z
      have z0 : (0 : Int64).toInt = 0 := by decide
      omega
    obtain ⟨s1, s2, _⟩ := I.mn2 hm he
    refine ⟨bE, b12, bm, nl, bE, fun _ => bE, fun m32 e32 => ⟨bE, bE, bE, n100, fun m37 e37 => ?_⟩⟩
    have e37 : m37 = a_wn (g 49 e) (g 52 e) := e37
    have e32 : m32.toInt32 = q_s g m e := by rw [e32]; exact s1
    rw [e32, e37]
    refine ⟨nw, bE, bp, fun g44 e44 => ⟨bp, fun g46 e46 => ⟨bE, bE, fun g49 e49 => ⟨bE, bE, fun g52 e52 => ⟨bE, fun _ => bE, fun _ => bE, fun m57 e57 => ⟨bE, fun g60 e60 => ⟨bE, bE, fun g63 e63 => ⟨bp, fun g67 e67 => ⟨bp, fun g69 e69 => ⟨bm, bp, fun g72 e72 => ⟨bm, bp, fun g75 e75 => ⟨bm, bp, bm, fun g79 e79 => ?_⟩⟩⟩⟩⟩⟩⟩⟩⟩⟩⟩⟩
    have ec : ((((q_s g m e).toInt64 * (g 48 e).toInt64 + a_wn (g 49 e) (g 52 e)) - (1 : Int64)) / a_wn (g 49 e) (g 52 e)).toInt32 = q_c g m e := rfl
    have f56 : g46 56 e = g 56 e := by rw [e46, up_ne (by decide), e44, up_ne (by decide), h8r 56 (by decide) (by decide)]
    have f57 : g49 57 e = g 57 e := by rw [e49, up_ne (by decide), e46, up_ne (by decide), e44, up_ne (by decide), h8r 57 (by decide) (by decide)]
    have f54 : g52 54 e = g 54 e := by rw [e52, up_ne (by decide), e49, up_ne (by decide), e46, up_ne (by decide), e44, up_ne (by decide), h8r 54 (by decide) (by decide)]
    have f53 : g52 53 e = g 53 e := by rw [e52, up_ne (by decide), e49, up_ne (by decide), e46, up_ne (by decide), e44, up_ne (by decide), h8r 53 (by decide) (by decide)]
    have f52 : g60 52 e = g 52 e := by rw [e60, up_ne (by decide), e52, up_ne (by decide), e49, up_ne (by decide), e46, up_ne (by decide), e44, up_ne (by decide), h8r 52 (by decide) (by decide)]
    rw [f54, f53] at e57
    have ev : m57 = q_v g m e := e57
    have hD : g63 = g_gD g (60 * m + q_n g 0) e (q_s g m e) (q_c g m e) (q_v g m e) := by
      rw [e63, f52, e60, ev, e52, f57, e49, f56, e46, ec, e44, h8]
      rfl
    have ey : z_bt (¬ ((((q_w g m).toInt64 * (g 30 m).toInt64 + (g 48 e).toInt64) - (1 : Int64)) / (g 48 e).toInt64 ≤ (g 50 e).toInt64)) = z_bt (¬ ((q_d g m e).toInt32 ≤ g 50 e)) := z_bt_cg s2
    have e67 : g67 = z_up2 g63 38 (60 * m + q_n g 0) (z_bt (¬ ((q_d g m e).toInt32 ≤ g 50 e))) := by rw [← ey]; exact e67
    rw [hD] at e67
    rw [gT_eq e67 e69 e72 e75 e79]
    rw [g_go_S k] at q
    exact q
theorem K_go (R : RC lm g h) (I : INV c lm g) {m a : Nat} {Q : Int32 → zH → Prop} (hm : m < q_n g 1) (ha : z_rv h 1 m = some a) (ht : q_n g 0 < 60) (l1 : lm m = q_n g 0) (l2 : lm2 m = q_n g 0 + 1) (lo : ∀ m', m' < 6 → ¬ m' = m → lm2 m' = lm m') (hx : z_nx h < 600000)
    (q : ∀ h', RC lm2 (g_go g m) h' → Sh h h' → Kq h h' → Q (g_go g m 38 (60 * m + q_n g 0)) h') : KK z_pI 47 [.ref a, .int (g 27 0)] h Q := by
  have hm6 := I.m6 hm
  have c0 := I.cnt.1
  have c1 := I.cnt.2.1
  have n6 : q_n g 1 ≤ 6 := by unfold q_n z_ix; omega
  have et : g 27 0 = Int32.ofNat (q_n g 0) := (n_of I.cnt.1.1).symm
  have ta := R.w.mt R.f ha
  have kw := K_wk R hm ha
  have kv : KV z_pI 45 [.ref a, .int (g 27 0)] h (q_w g m) := K_wat R hm ha c0.1 (by omega)
  cases k : q_wk g (Int32.ofNat m) with
  | none =>
    rw [k] at kw
    have kw : KV z_pA 44 [.ref a] h none := kw
    refine X_47 a _ h R.w ta ⟨_, kv, xa_N kw ?_⟩
    have RA := (R.gp (k := 36) (m := m) (t := q_n g 0) (v := 0) (by omega) ht (by omega)).gp (k := 37) (m := m) (t := q_n g 0) (v := 0) (by omega) ht (by omega)
    have RA : RC lm (g_gA g (60 * m + q_n g 0)) h := RA
    refine K_tail (lm2 := lm2) RA hm ha ht l1 l2 lo n6 et (by unfold g_gA; rw [up_ne (by decide), up_at]) (by unfold g_gA; rw [up_at]) hx (fun h' r s kq => ?_)
    have w := q h'
    rw [g_go_N k, gT_38] at w
    exact w r s kq
  | some e =>
    obtain ⟨he, e46, _, _⟩ := q_wk_some k
    have he12 := I.e12 he
    obtain ⟨b, hb⟩ := R.engine he
    rw [k] at kw
    have kw : KV z_pA 44 [.ref a] h (some b) := by
      have w : (some e).bind (z_rv h 2) = some b := hb
      rw [w] at kw
      exact kw
    have tb := R.w.et R.f hb
    have gb := R.f.ge tb (by omega)
    have nb := R.w.lv 2 e b hb
    refine X_47 a _ h R.w ta ⟨_, kv, xa_S kw tb ?_⟩
    rw [R.f30 hm ha, R.f50 he hb, R.f49 he hb, R.f52 he hb, R.f204 he hb, (I.gs e he).2.2]
    have kn : KV z_pI 39 [.ref b, .int (q_w g m), .int (g 30 m)] h (q_d g m e).toInt32 := K_need R I he hb (I.wb hm) (I.bm.at (k := 30) (a := 1) (b := 300) (by decide) hm)
    have kc : KV z_pI 40 [.ref b, .int (q_s g m e), .int (g 49 e), .int (g 52 e)] h (q_c g m e) := K_coal R I he hb (I.sb hm he) (I.d49 he) (I.a52 he)
    refine ⟨_, kn, _, kc, ?_⟩
    refine X_41 b _ _ h R.w tb ?_
    rw [R.f54 he hb, R.f56 he hb, R.f57 he hb, R.f52 he hb, R.f53 he hb]
    have RB := (((R.gp (k := 36) (m := m) (t := q_n g 0) (v := 0) (by omega) ht (by omega)).gp (k := 37) (m := m) (t := q_n g 0) (v := 0) (by omega) ht (by omega)).gp (k := 36) (m := m) (t := q_n g 0) (v := q_s g m e) (by omega) ht (by omega)).gp (k := 37) (m := m) (t := q_n g 0) (v := q_c g m e) (by omega) ht (by omega)
    have RU := (RB.up (k := 56) (i := e) (c := b) (j := 11) (v := g 56 e + q_s g m e) ⟨he, hb, by omega, rfl⟩ (by omega)).up (k := 57) (i := e) (c := b) (j := 12) (v := g 57 e + q_c g m e) ⟨he, hb, by omega, rfl⟩ (by omega)
    have RU : RC lm (g_gB g (60 * m + q_n g 0) e (q_s g m e) (q_c g m e)) (z_sI (z_sI h b 11 (g 56 e + q_s g m e)) b 12 (g 57 e + q_c g m e)) := RU
    have RV := RU.up (k := 52) (i := e) (c := b) (j := 7) (v := g 52 e + 1) ⟨he, hb, by omega, rfl⟩ (by omega)
    have es : ∀ v, g_gD g (60 * m + q_n g 0) e (q_s g m e) (q_c g m e) v 36 (60 * m + q_n g 0) = q_s g m e := by
      intro v
      unfold g_gD g_gB
      rw [up_ne (by decide), up_ne (by decide), up_ne (by decide), up_ne (by decide), up_ne (by decide), up_at]
    have ec : ∀ v, g_gD g (60 * m + q_n g 0) e (q_s g m e) (q_c g m e) v 37 (60 * m + q_n g 0) = q_c g m e := by
      intro v
      unfold g_gD g_gB
      rw [up_ne (by decide), up_ne (by decide), up_ne (by decide), up_ne (by decide), up_at]
    by_cases c9 : g 54 e = 0
    · rw [if_pos c9]
      have ev : s_fm (g 53 e + q_s g m e) (10000 : Int32) = q_v g m e := by
        rw [d_fm (I.x53 hm he).1 (by decide)]
        exact (if_pos c9).symm
      rw [show s_fm (g 53 e + (if g 50 e < (q_d g m e).toInt32 then g 50 e else (q_d g m e).toInt32)) (10000 : Int32) = q_v g m e from ev]
      have RW := RV.up (k := 53) (i := e) (c := b) (j := 8) (v := q_v g m e) ⟨he, hb, by omega, rfl⟩ (by omega)
      rw [up_cm (g := g_gB g (60 * m + q_n g 0) e (q_s g m e) (q_c g m e)) (k := 52) (i := e) (k' := 53) (i' := e) (by omega)] at RW
      have RW : RC lm (g_gD g (60 * m + q_n g 0) e (q_s g m e) (q_c g m e) (q_v g m e)) _ := RW
      refine ⟨((Sh.sI.trans Sh.sI).trans Sh.sI).trans Sh.sI, ?_⟩
      refine K_tail (lm2 := lm2) RW hm ha ht l1 l2 lo n6 et (es _) (ec _) hx (fun h' r s kq => ?_)
      have w := q h'
      rw [g_go_S k, gT_38] at w
      exact w r ((((Sh.sI.trans Sh.sI).trans Sh.sI).trans Sh.sI).trans s) (((((Kq.sI (by omega) (by omega)).trans (Kq.sI (by omega) (by omega))).trans (Kq.sI (by omega) (by omega))).trans (Kq.sI (by omega) (by omega))).trans kq)
    · rw [if_neg c9]
      have ev : q_v g m e = g 53 e := if_neg c9
      have eS : z_up2 (g_gB g (60 * m + q_n g 0) e (q_s g m e) (q_c g m e)) 53 e (g 53 e) = g_gB g (60 * m + q_n g 0) e (q_s g m e) (q_c g m e) := up_self
      have RW : RC lm (g_gD g (60 * m + q_n g 0) e (q_s g m e) (q_c g m e) (q_v g m e)) (z_sI (z_sI (z_sI h b 11 (g 56 e + q_s g m e)) b 12 (g 57 e + q_c g m e)) b 7 (g 52 e + 1)) := by
        unfold g_gD
        rw [ev, eS]
        exact RV
      refine ⟨(Sh.sI.trans Sh.sI).trans Sh.sI, ?_⟩
      refine K_tail (lm2 := lm2) RW hm ha ht l1 l2 lo n6 et (es _) (ec _) hx (fun h' r s kq => ?_)
      have w := q h'
      rw [g_go_S k, gT_38] at w
      exact w r (((Sh.sI.trans Sh.sI).trans Sh.sI).trans s) ((((Kq.sI (by omega) (by omega)).trans (Kq.sI (by omega) (by omega))).trans (Kq.sI (by omega) (by omega))).trans kq)
end MR
