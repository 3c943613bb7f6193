section T7
variable {c : Nat} {lm : Nat → Nat} {g : zG} {h : zH}
def q_ag (g : zG) (k : Nat) : Int32 := if g 80 k ≤ 0 then 0 else z_bt (¬ ((if 0 ≤ (g 79 k - g 83 k) then (g 79 k - g 83 k) else (-(g 79 k - g 83 k))) < q_hd g 3 (g 70 k) (g 72 k) 99))
theorem q_ag_01 {g : zG} {k : Nat} : z_bt (¬ q_ag g k = 0) = q_ag g k := by
  unfold q_ag
  by_cases z : g 80 k ≤ 0
  · simp only [if_pos z]; decide
  · simp only [if_neg z]; exact z_bt_nn
theorem K_ag (R : RC lm g h) (I : INV c lm g) {k cc B : Nat} (hk : k < q_n g 55) (hc : z_rv h 3 k = some cc) (hB : z_rv h 0 9 = some B) : KV z_pI 56 [.ref cc, .ref B] h (q_ag g k) := by
  obtain ⟨b, hr0, hb, he, hmo⟩ := R.reng I hk hc
  refine kv_of (X_56 cc B h R.w (R.w.rt R.f hc) (R.bt hB) ?_)
  rcases R.rtrial hk hc with ⟨t1, t2⟩ | ⟨t, t1, t2, i0, i1, i2, i3⟩
  · refine o_N t1 ⟨?_, rfl⟩
    unfold q_ag
    rw [if_pos (by rw [t2]; decide)]
  · refine o_S t1 (o_S hr0 ?_)
    rw [hmo, R.f72 hk hc]
    refine ⟨_, K_again R I hB _ _, ?_, rfl⟩
    have n0 : ¬ g 80 k ≤ 0 := by
      rcases I.tk k hk with q | q
      · exact absurd q.1 t2
      · rw [n_le]
        show ¬ _ ≤ (0 : Int)
        omega
    have i3 : z_iv h t 3 = g 83 k := i3
    rw [R.f79 hk hc, i3]
    unfold q_ag
    rw [if_neg n0]
end T7
section T7b
variable {c : Nat} {g : zG} {h : zH}
theorem T_reading (X : AH c g h) (x1 x2 : Int32) : ST z_pI 116 [.ref 0, .int x1, .int x2] 203 [.ref 27, .int x1, .int x2] c g h := by
  have I := X.i
  have R := X.r
  rcases I.ri x1 with hx | ⟨k, hk, hk60, rfl⟩
  · exact ST.ro X (-1) (X_203 _ _ g (by rw [if_neg hx]; exact ⟨rfl, SE.refl g⟩)) (kv_of (X_116 _ _ h R.w (xa_N (K_reaN R hx) ⟨rfl, rfl⟩)))
  obtain ⟨cc, hc⟩ := R.reading hk
  obtain ⟨B, hB⟩ := R.bs
  have kS := K_reaS R I hk hc
  have tc := R.w.rt R.f hc
  have bd := n_bd (N := 60) hk60 (by omega)
  obtain ⟨b, hr0, hb, he, hmo⟩ := R.reng I hk hc
  have ix : z_ix (Int32.ofNat k) = k := n_ix (by omega)
  have b5 := I.br.at (k := 75) (a := 0) (b := 9999) (by decide) hk
  have b6 := I.br.at (k := 76) (a := 0) (b := 700000) (by decide) hk
  by_cases c0 : x2 = (0 : Int32)
  · subst c0
    refine ST.ro X (g 71 k) (X_203 _ _ g ?_) (kv_of (X_116 _ _ h R.w (xa_S kS tc ?_)))
    · rw [if_pos (I.rv hk)]
      exact ⟨bd, bd, by rw [if_pos rfl, ix]; exact ⟨bd, rfl, SE.refl g⟩⟩
    · rw [if_pos rfl]
      exact o_S hr0 ⟨((R.f204 he hb).trans (I.gs _ he).2.2).trans (I.eo hk).2.symm, rfl⟩
  by_cases c1 : x2 = (1 : Int32)
  · subst c1
    refine ST.ro X (g 72 k) (X_203 _ _ g ?_) (kv_of (X_116 _ _ h R.w (xa_S kS tc ?_)))
    · rw [if_pos (I.rv hk)]
      exact ⟨bd, bd, by rw [if_neg (by decide), if_pos rfl, ix]; exact ⟨bd, rfl, SE.refl g⟩⟩
    · rw [if_neg (by decide), if_pos rfl]
      exact ⟨R.f72 hk hc, rfl⟩
  by_cases c2 : x2 = (2 : Int32)
  · subst c2
    refine ST.ro X (g 73 k) (X_203 _ _ g ?_) (kv_of (X_116 _ _ h R.w (xa_S kS tc ?_)))
    · rw [if_pos (I.rv hk)]
      exact ⟨bd, bd, by rw [if_neg (by decide), if_neg (by decide), if_pos rfl, ix]; exact ⟨bd, rfl, SE.refl g⟩⟩
    · rw [if_neg (by decide), if_neg (by decide), if_pos rfl]
      exact ⟨R.f73 hk hc, rfl⟩
  by_cases c3 : x2 = (3 : Int32)
  · subst c3
    refine ST.ro X (g 74 k) (X_203 _ _ g ?_) (kv_of (X_116 _ _ h R.w (xa_S kS tc ?_)))
    · rw [if_pos (I.rv hk)]
      exact ⟨bd, bd, by rw [if_neg (by decide), if_neg (by decide), if_neg (by decide), if_pos rfl, ix]; exact ⟨bd, rfl, SE.refl g⟩⟩
    · rw [if_neg (by decide), if_neg (by decide), if_neg (by decide), if_pos rfl]
      exact ⟨R.f74 hk hc, rfl⟩
  by_cases c4 : x2 = (4 : Int32)
  · subst c4
    refine ST.ro X (g 75 k) (X_203 _ _ g ?_) (kv_of (X_116 _ _ h R.w (xa_S kS tc ?_)))
    · rw [if_pos (I.rv hk)]
      exact ⟨bd, bd, by rw [if_neg (by decide), if_neg (by decide), if_neg (by decide), if_neg (by decide), if_pos rfl, ix]; exact ⟨bd, rfl, SE.refl g⟩⟩
    · rw [if_neg (by decide), if_neg (by decide), if_neg (by decide), if_neg (by decide), if_pos rfl]
      exact ⟨R.f75 hk hc, rfl⟩
  by_cases c5 : x2 = (5 : Int32)
  · subst c5
    refine ST.ro X (g 76 k) (X_203 _ _ g ?_) (kv_of (X_116 _ _ h R.w (xa_S kS tc ?_)))
    · rw [if_pos (I.rv hk)]
      exact ⟨bd, bd, by rw [if_neg (by decide), if_neg (by decide), if_neg (by decide), if_neg (by decide), if_neg (by decide), if_pos rfl, ix]; exact ⟨bd, rfl, SE.refl g⟩⟩
    · rw [if_neg (by decide), if_neg (by decide), if_neg (by decide), if_neg (by decide), if_neg (by decide), if_pos rfl]
      exact ⟨R.f76 hk hc, rfl⟩
  by_cases c6 : x2 = (6 : Int32)
  · subst c6
    refine ST.ro X (g 77 k) (X_203 _ _ g ?_) (kv_of (X_116 _ _ h R.w (xa_S kS tc ?_)))
    · rw [if_pos (I.rv hk)]
      exact ⟨bd, bd, by rw [if_neg (by decide), if_neg (by decide), if_neg (by decide), if_neg (by decide), if_neg (by decide), if_neg (by decide), if_pos rfl, ix]; exact ⟨bd, rfl, SE.refl g⟩⟩
    · rw [if_neg (by decide), if_neg (by decide), if_neg (by decide), if_neg (by decide), if_neg (by decide), if_neg (by decide), if_pos rfl]
      exact ⟨R.f77 hk hc, rfl⟩
  by_cases c7 : x2 = (7 : Int32)
  · subst c7
    refine ST.ro X (v_202 (Int32.ofNat k) (g 75 k) g) (X_203 _ _ g ?_) (kv_of (X_116 _ _ h R.w (xa_S kS tc ?_)))
    · rw [if_pos (I.rv hk)]
      exact ⟨bd, bd, by rw [if_neg (by decide), if_neg (by decide), if_neg (by decide), if_neg (by decide), if_neg (by decide), if_neg (by decide), if_neg (by decide), if_pos rfl, ix]; exact ⟨bd, I.o202 hk _, rfl, SE.refl g⟩⟩
    · rw [if_neg (by decide), if_neg (by decide), if_neg (by decide), if_neg (by decide), if_neg (by decide), if_neg (by decide), if_neg (by decide), if_pos rfl]
      exact (by rw [R.f75 hk hc]; exact o_S hB ⟨_, K_ow R I hk hc hB (by omega), rfl, rfl⟩)
  by_cases c8 : x2 = (8 : Int32)
  · subst c8
    refine ST.ro X (v_202 (Int32.ofNat k) (g 76 k) g) (X_203 _ _ g ?_) (kv_of (X_116 _ _ h R.w (xa_S kS tc ?_)))
    · rw [if_pos (I.rv hk)]
      exact ⟨bd, bd, by rw [if_neg (by decide), if_neg (by decide), if_neg (by decide), if_neg (by decide), if_neg (by decide), if_neg (by decide), if_neg (by decide), if_neg (by decide), if_pos rfl, ix]; exact ⟨bd, I.o202 hk _, rfl, SE.refl g⟩⟩
    · rw [if_neg (by decide), if_neg (by decide), if_neg (by decide), if_neg (by decide), if_neg (by decide), if_neg (by decide), if_neg (by decide), if_neg (by decide), if_pos rfl]
      exact (by rw [R.f76 hk hc]; exact o_S hB ⟨_, K_ow R I hk hc hB (by omega), rfl, rfl⟩)
  by_cases c9 : x2 = (9 : Int32)
  · subst c9
    refine ST.ro X (q_ag g k) (X_203 _ _ g ?_) (kv_of (X_116 _ _ h R.w (xa_S kS tc ?_)))
    · rw [if_pos (I.rv hk)]
      exact ⟨bd, bd, by
      rw [if_neg (by decide), if_neg (by decide), if_neg (by decide), if_neg (by decide), if_neg (by decide), if_neg (by decide), if_neg (by decide), if_neg (by decide), if_neg (by decide), if_pos rfl, ix]
      refine ⟨bd, ?_⟩
      by_cases z : g 80 k ≤ 0
      · rw [if_pos z]; exact ⟨(by unfold q_ag; rw [if_pos z]), SE.refl g⟩
      · rw [if_neg z]
        intro m26 e26
        refine ⟨bd, bd, I.cn, ?_, SE.refl g⟩
        unfold q_ag
        rw [if_neg z, e26]⟩
    · rw [if_neg (by decide), if_neg (by decide), if_neg (by decide), if_neg (by decide), if_neg (by decide), if_neg (by decide), if_neg (by decide), if_neg (by decide), if_neg (by decide), if_pos rfl]
      exact o_S hB ⟨_, K_ag R I hk hc hB, q_ag_01, rfl⟩
  exact ST.ro X (-1) (X_203 _ _ g (by rw [if_pos (I.rv hk)]; exact ⟨bd, bd, by rw [if_neg c0, if_neg c1, if_neg c2, if_neg c3, if_neg c4, if_neg c5, if_neg c6, if_neg c7, if_neg c8, if_neg c9]; exact ⟨rfl, SE.refl g⟩⟩)) (kv_of (X_116 _ _ h R.w (xa_S kS tc (by rw [if_neg c0, if_neg c1, if_neg c2, if_neg c3, if_neg c4, if_neg c5, if_neg c6, if_neg c7, if_neg c8, if_neg c9]; exact ⟨rfl, rfl⟩))))
theorem T_pay (X : AH c g h) (x1 x2 : Int32) : ST z_pI 117 [.ref 0, .int x1, .int x2] 206 [.ref 27, .int x1, .int x2] c g h := by
  have I := X.i
  have R := X.r
  rcases I.mi x1 with hx | ⟨m, hm, hm6, rfl⟩
  · exact ST.ro X (-1000000) (X_206 _ _ g (by rw [if_neg hx]; exact ⟨rfl, SE.refl g⟩)) (kv_of (X_117 _ _ h R.w (xa_N (K_mineN R hx) ⟨rfl, rfl⟩)))
  obtain ⟨a, ha⟩ := R.mine hm
  have kS := K_mineS R I hm ha
  have ta := R.w.mt R.f ha
  have bd := n_bd (N := 6) hm6 (by omega)
  have ix : z_ix (Int32.ofNat m) = m := n_ix (by omega)
  by_cases c2 : (0 : Int32) ≤ x2 ∧ x2 ≤ (99999 : Int32)
  · have xb := n_bnd (a := 0) (b := 99999) (by omega) (by omega) c2
    have pb := I.pd m hm
    have c512 := X.2.2.2
    have es : (g 34 m + x2).toInt = (g 34 m).toInt + x2.toInt := i_add (by omega) (by omega)
    have J : INV (c + 1) (fun _ => q_n g 0) (z_up2 g 34 m (g 34 m + x2)) := I.u34 hm (by rw [es]; omega)
    have L : Loc (q_n g 1) (q_n g 20) (q_n g 55) (q_n g 45) (fun _ => q_n g 0) h 34 m a 8 := ⟨hm, ha, by omega, rfl⟩
    have R2 := R.up (v := g 34 m + x2) L (by omega)
    have hm2 : m < q_n (z_up2 g 34 m (g 34 m + x2)) 1 := hm
    refine ST.up X (q_ou (z_up2 g 34 m (g 34 m + x2)) (Int32.ofNat m) 60 - (z_up2 g 34 m (g 34 m + x2)) 34 m) (k := 34) (i := m) (d := a) (j := 8) (w := g 34 m + x2) L (by omega) J ?_ ?_
    · refine X_206 _ _ g ?_
      rw [if_pos (I.mv hm), if_pos c2, ix]
      exact ⟨bd, bd, J.so, bd, rfl, rfl⟩
    · refine X_117 _ _ h R.w (xa_S kS ta ?_)
      rw [if_pos c2, R.f34 hm ha]
      exact ⟨_, K_ar R2 J hm2 ha, rfl, rfl⟩
  · exact ST.ro X (-1000000) (X_206 _ _ g (by rw [if_pos (I.mv hm), if_neg c2]; exact ⟨rfl, SE.refl g⟩)) (kv_of (X_117 _ _ h R.w (xa_S kS ta (by rw [if_neg c2]; exact ⟨rfl, rfl⟩))))
theorem T_owed (X : AH c g h) (x1 x2 : Int32) : ST z_pI 118 [.ref 0, .int x1, .int x2] 207 [.ref 27, .int x1, .int x2] c g h := by
  have I := X.i
  have R := X.r
  rcases I.mi x1 with hx | ⟨m, hm, hm6, rfl⟩
  · exact ST.ro X (-1) (X_207 _ _ g (by rw [if_neg hx]; exact ⟨rfl, SE.refl g⟩)) (kv_of (X_118 _ _ h R.w (xa_N (K_mineN R hx) ⟨rfl, rfl⟩)))
  obtain ⟨a, ha⟩ := R.mine hm
  have kS := K_mineS R I hm ha
  have ta := R.w.mt R.f ha
  have bd := n_bd (N := 6) hm6 (by omega)
  have ix : z_ix (Int32.ofNat m) = m := n_ix (by omega)
  have loop : ∀ {Q : Int32 → zG → Prop}, (MG z_pI 207 18 [some (.ref 27), some (.int (Int32.ofNat m)), some (.int x2), some (.int (q_om g (Int32.ofNat m))), some (.int (q_rc g (Int32.ofNat m))), some (.int (Int32.ofNat (q_n g 55)))] [] g Q) → MK z_pI 207 [.ref 27, .int (Int32.ofNat m), .int x2] g Q := by
    intro Q q
    refine X_207 _ _ g ?_
    rw [if_pos (I.mv hm)]
    refine z_lp (N := q_n g 55) (G := fun i => MG z_pI 207 18 [some (.ref 27), some (.int (Int32.ofNat m)), some (.int x2), some (.int (s_sum (fun i => if g 70 i = Int32.ofNat m then v_202 (Int32.ofNat i) (g 76 i) g else 0) i)), some (.int (s_sum (fun i => if g 70 i = Int32.ofNat m then 1 else 0) i)), some (.int (Int32.ofNat i))] [] g Q) q ?_
    intro i hi w
    have hb := I.r60 hi
    have bi := n_bd (N := 60) hb (by omega)
    refine X_207_18 _ _ _ _ _ g ?_
    rw [if_neg (n_cnt I.cnt.2.2.2.1.1 hi), n_ix (by omega), n_s]
    refine ⟨bi, ?_⟩
    rw [s_sum_s, s_sum_s] at w
    by_cases c1 : g 70 i = Int32.ofNat m
    · rw [if_pos c1, if_pos c1] at w
      rw [if_pos c1, z_bt_1.mpr c1]
      exact ⟨bi, I.o202 hi _, bi, w⟩
    · rw [if_neg c1, if_neg c1] at w
      rw [if_neg c1, z_bt_0.mpr c1]
      exact ⟨bi, w⟩
  have fin : ∀ {Q : Int32 → zG → Prop}, (if x2 = (0 : Int32) then (Q (q_ou g (Int32.ofNat m) 60) g) else (if x2 = (1 : Int32) then (Q (q_om g (Int32.ofNat m)) g) else (if x2 = (2 : Int32) then (Q (g 34 m) g) else (if x2 = (3 : Int32) then (Q (if g 34 m ≤ q_ou g (Int32.ofNat m) 60 then (q_ou g (Int32.ofNat m) 60 - g 34 m) else (0 : Int32)) g) else (if x2 = (4 : Int32) then (Q (q_le g (Int32.ofNat m)) g) else (if x2 = (5 : Int32) then (Q (q_rc g (Int32.ofNat m)) g) else (Q (-1 : Int32) g))))))) → MK z_pI 207 [.ref 27, .int (Int32.ofNat m), .int x2] g Q := by
    intro Q q
    refine loop (X_207_18 _ _ _ _ _ g ?_)
    rw [if_pos (q_end I.cnt.2.2.2.1.1), ix]
    refine ⟨I.so, ?_⟩
    refine z_ifd (fun c0 => ?_) (fun c0 => ?_)
    · rw [if_pos c0] at q; exact q
    rw [if_neg c0] at q
    refine z_ifd (fun c1 => ?_) (fun c1 => ?_)
    · rw [if_pos c1] at q; exact q
    rw [if_neg c1] at q
    refine z_ifd (fun c2 => ?_) (fun c2 => ?_)
    · rw [if_pos c2] at q; exact ⟨bd, q⟩
    rw [if_neg c2] at q
    refine z_ifd (fun c3 => ?_) (fun c3 => ?_)
    · rw [if_pos c3] at q; exact ⟨bd, fun _ => bd, fun m10 e10 => by rw [e10]; exact q⟩
    rw [if_neg c3] at q
    refine z_ifd (fun c4 => ?_) (fun c4 => ?_)
    · rw [if_pos c4] at q; exact ⟨⟨I.so, bd⟩, q⟩
    rw [if_neg c4] at q
    exact q
  by_cases c0 : x2 = (0 : Int32)
  · subst c0
    refine ST.ro X (q_ou g (Int32.ofNat m) 60) (fin (by rw [if_pos rfl]; exact ⟨rfl, SE.refl g⟩)) (kv_of (X_118 _ _ h R.w (xa_S kS ta ?_)))
    rw [if_pos rfl]
    exact ⟨_, K_os0 R I _ _, rfl, rfl⟩
  by_cases c1 : x2 = (1 : Int32)
  · subst c1
    refine ST.ro X (q_om g (Int32.ofNat m)) (fin (by rw [if_neg (by decide), if_pos rfl]; exact ⟨rfl, SE.refl g⟩)) (kv_of (X_118 _ _ h R.w (xa_S kS ta ?_)))
    rw [if_neg (by decide), if_pos rfl]
    exact ⟨_, K_os1 R I _, rfl, rfl⟩
  by_cases c2 : x2 = (2 : Int32)
  · subst c2
    refine ST.ro X (g 34 m) (fin (by rw [if_neg (by decide), if_neg (by decide), if_pos rfl]; exact ⟨rfl, SE.refl g⟩)) (kv_of (X_118 _ _ h R.w (xa_S kS ta ?_)))
    rw [if_neg (by decide), if_neg (by decide), if_pos rfl]
    exact ⟨R.f34 hm ha, rfl⟩
  by_cases c3 : x2 = (3 : Int32)
  · subst c3
    refine ST.ro X ((if g 34 m ≤ q_ou g (Int32.ofNat m) 60 then (q_ou g (Int32.ofNat m) 60 - g 34 m) else (0 : Int32))) (fin (by rw [if_neg (by decide), if_neg (by decide), if_neg (by decide), if_pos rfl]; exact ⟨rfl, SE.refl g⟩)) (kv_of (X_118 _ _ h R.w (xa_S kS ta ?_)))
    rw [if_neg (by decide), if_neg (by decide), if_neg (by decide), if_pos rfl]
    exact ⟨_, K_ar R I hm ha, by
      have ob := q_ou_bd I (Int32.ofNat m) 60
      have pb := I.pd m hm
      have c512 := X.2.2.2
      have es : (q_ou g (Int32.ofNat m) 60 - g 34 m).toInt = (q_ou g (Int32.ofNat m) 60).toInt - (g 34 m).toInt := i_sub (by omega) (by omega)
      have z0 : (0 : Int32).toInt = 0 := by decide
      by_cases z : g 34 m ≤ q_ou g (Int32.ofNat m) 60
      · rw [if_pos z]
        have z' := n_le.mp z
        by_cases w : (0 : Int32) < q_ou g (Int32.ofNat m) 60 - g 34 m
        · rw [if_pos w]
        · rw [if_neg w]
          apply Int32.toInt_inj.mp
          have w' : ¬ (0 : Int32).toInt < (q_ou g (Int32.ofNat m) 60 - g 34 m).toInt := fun q => w (n_lt.mpr q)
          omega
      · rw [if_neg z]
        have z' : ¬ (g 34 m).toInt ≤ (q_ou g (Int32.ofNat m) 60).toInt := fun q => z (n_le.mpr q)
        rw [if_neg]
        intro q
        have := n_lt.mp q
        omega, rfl⟩
  by_cases c4 : x2 = (4 : Int32)
  · subst c4
    refine ST.ro X (q_le g (Int32.ofNat m)) (fin (by rw [if_neg (by decide), if_neg (by decide), if_neg (by decide), if_neg (by decide), if_pos rfl]; exact ⟨rfl, SE.refl g⟩)) (kv_of (X_118 _ _ h R.w (xa_S kS ta ?_)))
    rw [if_neg (by decide), if_neg (by decide), if_neg (by decide), if_neg (by decide), if_pos rfl]
    exact ⟨_, K_la R I hm ha, rfl, rfl⟩
  by_cases c5 : x2 = (5 : Int32)
  · subst c5
    refine ST.ro X (q_rc g (Int32.ofNat m)) (fin (by rw [if_neg (by decide), if_neg (by decide), if_neg (by decide), if_neg (by decide), if_neg (by decide), if_pos rfl]; exact ⟨rfl, SE.refl g⟩)) (kv_of (X_118 _ _ h R.w (xa_S kS ta ?_)))
    rw [if_neg (by decide), if_neg (by decide), if_neg (by decide), if_neg (by decide), if_neg (by decide), if_pos rfl]
    exact ⟨_, K_rc R I _, rfl, rfl⟩
  exact ST.ro X (-1) (fin (by rw [if_neg c0, if_neg c1, if_neg c2, if_neg c3, if_neg c4, if_neg c5]; exact ⟨rfl, SE.refl g⟩)) (kv_of (X_118 _ _ h R.w (xa_S kS ta (by rw [if_neg c0, if_neg c1, if_neg c2, if_neg c3, if_neg c4, if_neg c5]; exact ⟨rfl, rfl⟩))))
theorem T_stop (X : AH c g h) (x1 : Int32) : ST z_pI 120 [.ref 0, .int x1] 209 [.ref 27, .int x1] c g h := by
  have I := X.i
  have R := X.r
  obtain ⟨B, hB⟩ := R.bs
  rcases I.mi x1 with hx | ⟨m, hm, hm6, rfl⟩
  · exact ST.ro X (-1) (X_209 _ g (by rw [if_neg hx]; exact ⟨rfl, SE.refl g⟩)) (kv_of (X_120 _ h R.w (xa_N (K_mineN R hx) ⟨rfl, rfl⟩)))
  obtain ⟨a, ha⟩ := R.mine hm
  have kS := K_mineS R I hm ha
  have ta := R.w.mt R.f ha
  have bd := n_bd (N := 6) hm6 (by omega)
  have o := I.cn
  have kw := K_wk R hm ha
  cases k : q_wk g (Int32.ofNat m) with
  | none =>
    rw [k] at kw
    have kw : KV z_pA 44 [.ref a] h none := kw
    exact ST.ro X (-2) (X_209 _ g (by rw [if_pos (I.mv hm), k, if_pos (show s_no none = (-4 : Int32) from rfl)]; exact ⟨o, rfl, SE.refl g⟩)) (kv_of (X_120 _ h R.w (xa_S kS ta (xa_N kw ⟨rfl, rfl⟩))))
  | some e =>
    have he := (q_wk_some k).1
    have he12 := I.e12 he
    obtain ⟨b, hb⟩ := R.engine he
    rw [k] at kw
    have kw : KV z_pA 44 [.ref a] h (some b) := by
      have w : (some e).bind (z_rv h 2) = some b := hb
      rw [w] at kw
      exact kw
    have tb := R.w.et R.f hb
    have sbd := s_no_bd (e := e) (N := 12) he12 (by omega)
    by_cases c1 : g 47 e = (1 : Int32)
    · by_cases c2 : q_hd g 2 (Int32.ofNat m) (g 27 0) 3 ≤ q_le g (Int32.ofNat m)
      · refine ST.up X (s_no (some e)) (k := 55) (i := e) (d := b) (j := 10) (w := 1) ⟨he, hb, by omega, rfl⟩ (by omega) ((I.t_c (Nat.le_succ c)).u55 he (by decide)) ?_ ?_
        · refine X_209 _ g ?_
          rw [if_pos (I.mv hm), k, if_neg (s_no_ne (by omega)), s_no_ix (by omega), if_pos c1, if_pos c2]
          exact ⟨o, sbd, ⟨I.so, bd⟩, o, sbd, rfl, rfl⟩
        · refine X_120 _ h R.w (xa_S kS ta (xa_S kw tb ?_))
          rw [R.f47 he hb, if_pos c1, R.n0]
          refine ⟨_, K_la R I hm ha, o_S hB ⟨_, K_stop R I hB _ _, ?_⟩⟩
          rw [if_pos c2]
          exact ⟨(R.f204 he hb).trans (I.gs e he).2.2, rfl⟩
      · refine ST.ro X (-2) (X_209 _ g ?_) (kv_of (X_120 _ h R.w (xa_S kS ta (xa_S kw tb ?_))))
        · rw [if_pos (I.mv hm), k, if_neg (s_no_ne (by omega)), s_no_ix (by omega), if_pos c1, if_neg c2]
          exact ⟨o, sbd, ⟨I.so, bd⟩, o, rfl, SE.refl g⟩
        · rw [R.f47 he hb, if_pos c1, R.n0]
          refine ⟨_, K_la R I hm ha, o_S hB ⟨_, K_stop R I hB _ _, ?_⟩⟩
          rw [if_neg c2]
          exact ⟨rfl, rfl⟩
    · refine ST.ro X (-2) (X_209 _ g ?_) (kv_of (X_120 _ h R.w (xa_S kS ta (xa_S kw tb ?_))))
      · rw [if_pos (I.mv hm), k, if_neg (s_no_ne (by omega)), s_no_ix (by omega), if_neg c1]
        exact ⟨o, sbd, rfl, SE.refl g⟩
      · rw [R.f47 he hb, if_neg c1]
        exact ⟨rfl, rfl⟩
theorem T_go (X : AH c g h) (x1 : Int32) : ST z_pI 121 [.ref 0, .int x1] 210 [.ref 27, .int x1] c g h := by
  have I := X.i
  have R := X.r
  rcases I.ei x1 with hx | ⟨e, he, he12, rfl⟩
  · exact ST.ro X (-1) (X_210 _ g (by rw [if_neg hx]; exact ⟨rfl, SE.refl g⟩)) (kv_of (X_121 _ h R.w (xa_N (K_engN R hx) ⟨rfl, rfl⟩)))
  obtain ⟨b, hb⟩ := R.engine he
  have kE := K_engS R I he hb
  have tb := R.w.et R.f hb
  have bd := n_bd (N := 12) he12 (by omega)
  have ix : z_ix (Int32.ofNat e) = e := n_ix (by omega)
  obtain ⟨m, hm, hm6, em⟩ := I.mo he
  obtain ⟨a, ha⟩ := R.mine hm
  have kS := K_mineS R I hm ha
  have ta := R.w.mt R.f ha
  have bm := n_bd (N := 6) hm6 (by omega)
  have kv : z_iv h b 5 = Int32.ofNat m := (R.f46 he hb).trans em
  have o := I.cn
  by_cases c1 : g 55 e = 0
  · refine ST.ro X (-2) (X_210 _ g ?_) (kv_of (X_121 _ h R.w (xa_S kE tb ?_)))
    · rw [if_pos (I.ev he), ix, if_pos c1]
      exact ⟨bd, bd, rfl, SE.refl g⟩
    · rw [kv]
      refine xa_S kS ta ?_
      rw [R.f55 he hb, if_pos c1]
      exact ⟨rfl, rfl⟩
  have el := R.latest hm ha
  have sq := s_no_eq (o := q_lt g (Int32.ofNat m)) (m := e) (fun d hd => by have := q_lt_12 o hd; omega) (by omega)
  by_cases c2 : q_lt g (Int32.ofNat m) = some e
  · have el2 : z_rv h a 10 = some b := by rw [el, c2]; exact hb
    have ob := q_ou_bd I (Int32.ofNat m) 60
    have pb := I.pd m hm
    have c512 := X.2.2.2
    have es : (q_ou g (Int32.ofNat m) 60 - g 34 m).toInt = (q_ou g (Int32.ofNat m) 60).toInt - (g 34 m).toInt := i_sub (by omega) (by omega)
    have z0 : (0 : Int32).toInt = 0 := by decide
    by_cases c3 : q_ou g (Int32.ofNat m) 60 ≤ g 34 m
    · have c3' : q_ou g (Int32.ofNat m) 60 - g 34 m ≤ 0 := n_le.mpr (by have := n_le.mp c3; omega)
      refine ST.up X 1 (k := 55) (i := e) (d := b) (j := 10) (w := 0) ⟨he, hb, by omega, rfl⟩ (by omega) ((I.t_c (Nat.le_succ c)).u55 he (by decide)) ?_ ?_
      · refine X_210 _ g ?_
        rw [if_pos (I.ev he), ix, if_neg c1, em, if_pos (sq.mpr c2), n_ix (by omega), if_pos c3]
        exact ⟨bd, bd, o, I.so, bm, bd, rfl, rfl⟩
      · refine X_121 _ h R.w (xa_S kE tb ?_)
        rw [kv]
        refine xa_S kS ta ?_
        rw [R.f55 he hb, if_neg c1]
        refine o_S el2 ?_
        rw [if_pos rfl]
        refine ⟨_, K_ar R I hm ha, ?_⟩
        rw [if_pos c3']
        exact ⟨rfl, rfl⟩
    · have c3' : ¬ q_ou g (Int32.ofNat m) 60 - g 34 m ≤ 0 := fun q => c3 (n_le.mpr (by have := n_le.mp q; omega))
      refine ST.ro X (-2) (X_210 _ g ?_) (kv_of (X_121 _ h R.w (xa_S kE tb ?_)))
      · rw [if_pos (I.ev he), ix, if_neg c1, em, if_pos (sq.mpr c2), n_ix (by omega), if_neg c3]
        exact ⟨bd, bd, o, I.so, bm, rfl, SE.refl g⟩
      · rw [kv]
        refine xa_S kS ta ?_
        rw [R.f55 he hb, if_neg c1]
        refine o_S el2 ?_
        rw [if_pos rfl]
        refine ⟨_, K_ar R I hm ha, ?_⟩
        rw [if_neg c3']
        exact ⟨rfl, rfl⟩
  · refine ST.ro X (-2) (X_210 _ g ?_) (kv_of (X_121 _ h R.w (xa_S kE tb ?_)))
    · rw [if_pos (I.ev he), ix, if_neg c1, em, if_neg (fun q => c2 (sq.mp q))]
      exact ⟨bd, bd, o, rfl, SE.refl g⟩
    · rw [kv]
      refine xa_S kS ta ?_
      rw [R.f55 he hb, if_neg c1]
      cases k : q_lt g (Int32.ofNat m) with
      | none =>
        rw [k] at el
        exact o_N el ⟨rfl, rfl⟩
      | some d =>
        obtain ⟨b2, hb2⟩ := R.engine (q_lt_some k).1
        rw [k] at el
        have el2 : z_rv h a 10 = some b2 := by rw [el]; exact hb2
        refine o_S el2 ?_
        rw [if_neg]
        · exact ⟨rfl, rfl⟩
        · intro q
          subst q
          have := R.j.2.1 _ _ _ (q_lt_some k).1 he hb2 hb
          exact c2 (by rw [k, this])
end T7b
