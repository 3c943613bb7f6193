/-- the constructor of a mine -/
theorem K_m53 {a : Nat} {x1 x2 x3 x4 : Int32} {Q : Unit → zH → Prop} : ∀ k t h, t + k = 60 → z_tg h a = 4 → z_rv h a 4 = some (a + 3) → z_tg h (a + 3) = 100 → z_ln h (a + 3) = 360 → Q () (z_sW h (a + 3) (fun j => if 180 + t ≤ j ∧ j < 240 then -4 else z_iv h (a + 3) j)) → KG z_pV 43 53 [some (.ref a), some (.int x1), some (.int x2), some (.int x3), some (.int x4), some (.int (Int32.ofNat t))] [] h Q := by
  intro k
  induction k with
  | zero =>
    intro t h ht h1 h2 h3 h4 q
    have ht : t = 60 := by omega
    subst ht
    refine X_43_53 a _ _ _ _ _ h h1 h2 h3 h4 ?_
    rw [if_pos (show (60 : Int32) ≤ Int32.ofNat 60 from by decide)]
    have e : z_row (z_iv h) (a + 3) (fun j => if 180 + 60 ≤ j ∧ j < 240 then -4 else z_iv h (a + 3) j) = z_iv h := by
      funext x y
      unfold z_row
      by_cases w : x = a + 3
      · rw [if_pos w]
        dsimp only
        rw [if_neg (by omega), w]
      · rw [if_neg w]
    have e2 : z_sW h (a + 3) (fun j => if 180 + 60 ≤ j ∧ j < 240 then -4 else z_iv h (a + 3) j) = h := by
      show (h.1, h.2.1, h.2.2.1, z_row (z_iv h) (a + 3) _, h.2.2.2.2) = h
      rw [e]
      rfl
    rw [e2] at q
    exact q
  | succ k ih =>
    intro t h ht h1 h2 h3 h4 q
    refine X_43_53 a _ _ _ _ _ h h1 h2 h3 h4 ?_
    have e : (180 : Int32) + Int32.ofNat t = Int32.ofNat (180 + t) := (Int32.ofNat_add 180 t).symm
    rw [if_neg (n60 (by omega)), e, n_ix (by omega), n_s]
    refine ⟨n_bd (N := 360) (by omega) (by omega), ih (t + 1) _ (by omega) h1 h2 h3 h4 ?_⟩
    have e2 : z_row (z_iv (z_sI h (a + 3) (180 + t) (-4))) (a + 3) (fun j => if 180 + (t + 1) ≤ j ∧ j < 240 then -4 else z_iv (z_sI h (a + 3) (180 + t) (-4)) (a + 3) j) = z_row (z_iv h) (a + 3) (fun j => if 180 + t ≤ j ∧ j < 240 then -4 else z_iv h (a + 3) j) := by
      funext x y
      unfold z_row
      by_cases w : x = a + 3
      · rw [if_pos w, if_pos w]
        dsimp only
        by_cases w2 : y = 180 + t
        · rw [if_neg (by omega), if_pos (by omega), w2]
          exact v_at
        · by_cases w3 : 180 + t ≤ y ∧ y < 240
          · rw [if_pos (by omega), if_pos w3]
          · rw [if_neg (by omega), if_neg w3]
            exact up_nj (by omega)
      · rw [if_neg w, if_neg w]
        exact congrFun (up_ne w) y
    show Q () (h.1, h.2.1, h.2.2.1, z_row (z_iv (z_sI h (a + 3) (180 + t) (-4))) (a + 3) (fun j => if 180 + (t + 1) ≤ j ∧ j < 240 then -4 else z_iv (z_sI h (a + 3) (180 + t) (-4)) (a + 3) j), h.2.2.2.2)
    rw [e2]
    exact q
def h_mn (h : zH) (x1 x2 x3 x4 : Int32) : zH := z_sI (z_sI (z_sI (z_sI (z_sR (z_nw (z_sR (z_nw (z_sR (z_nw (z_nw h 4 0 11) 100 12 12) (z_nx h) 2 (some (z_nx h + 1))) 100 8 8) (z_nx h) 3 (some (z_nx h + 2))) 100 360 360) (z_nx h) 4 (some (z_nx h + 3))) (z_nx h) 0 x1) (z_nx h) 1 x2) (z_nx h) 5 x3) (z_nx h) 6 x4
theorem h_mn_tg {h : zH} {x1 x2 x3 x4 : Int32} (a : Nat) : z_tg (h_mn h x1 x2 x3 x4) a = if a = z_nx h + 3 then 100 else if a = z_nx h + 2 then 100 else if a = z_nx h + 1 then 100 else if a = z_nx h then 4 else z_tg h a := rfl
theorem h_mn_ln {h : zH} {x1 x2 x3 x4 : Int32} (a : Nat) : z_ln (h_mn h x1 x2 x3 x4) a = if a = z_nx h + 3 then 360 else if a = z_nx h + 2 then 8 else if a = z_nx h + 1 then 12 else if a = z_nx h then 0 else z_ln h a := rfl
theorem h_mn_rv {h : zH} {x1 x2 x3 x4 : Int32} (a j : Nat) : z_rv (h_mn h x1 x2 x3 x4) a j = if a = z_nx h ∧ j = 4 then some (z_nx h + 3) else if a = z_nx h + 3 then none else if a = z_nx h ∧ j = 3 then some (z_nx h + 2) else if a = z_nx h + 2 then none else if a = z_nx h ∧ j = 2 then some (z_nx h + 1) else if a = z_nx h + 1 then none else if a = z_nx h then none else z_rv h a j := rfl
theorem h_mn_iv {h : zH} {x1 x2 x3 x4 : Int32} (a j : Nat) : z_iv (h_mn h x1 x2 x3 x4) a j = if a = z_nx h ∧ j = 6 then x4 else if a = z_nx h ∧ j = 5 then x3 else if a = z_nx h ∧ j = 1 then x2 else if a = z_nx h ∧ j = 0 then x1 else if a = z_nx h + 3 then 0 else if a = z_nx h + 2 then 0 else if a = z_nx h + 1 then 0 else if a = z_nx h then 0 else z_iv h a j := rfl
theorem h_mn_cw {h : zH} (W : CW h) {x1 x2 x3 x4 : Int32} : CW (h_mn h x1 x2 x3 x4) := by
  have t0 : z_tg (h_mn h x1 x2 x3 x4) (z_nx h + 0) = 4 := by rw [h_mn_tg, if_neg (by omega), if_neg (by omega), if_neg (by omega), if_pos (by omega)]
  have t1 : z_tg (h_mn h x1 x2 x3 x4) (z_nx h + 1) = 100 := by rw [h_mn_tg, if_neg (by omega), if_neg (by omega), if_pos rfl]
  have t2 : z_tg (h_mn h x1 x2 x3 x4) (z_nx h + 2) = 100 := by rw [h_mn_tg, if_neg (by omega), if_pos rfl]
  have t3 : z_tg (h_mn h x1 x2 x3 x4) (z_nx h + 3) = 100 := by rw [h_mn_tg, if_pos rfl]
  have l1 : z_ln (h_mn h x1 x2 x3 x4) (z_nx h + 1) = 12 := by rw [h_mn_ln, if_neg (by omega), if_neg (by omega), if_pos rfl]
  have l2 : z_ln (h_mn h x1 x2 x3 x4) (z_nx h + 2) = 8 := by rw [h_mn_ln, if_neg (by omega), if_pos rfl]
  have l3 : z_ln (h_mn h x1 x2 x3 x4) (z_nx h + 3) = 360 := by rw [h_mn_ln, if_pos rfl]
  have tA : ∀ i, i < 4 → z_tg (h_mn h x1 x2 x3 x4) (z_nx h + i) = if i = 0 then 4 else 100 := by
    intro i hi
    have d : i = 0 ∨ i = 1 ∨ i = 2 ∨ i = 3 := by omega
    rcases d with r | r | r | r <;> subst r
    · exact t0
    · exact t1
    · exact t2
    · exact t3
  have r0 : ∀ j, z_rv (h_mn h x1 x2 x3 x4) (z_nx h + 0) j = if j = 4 then some (z_nx h + 3) else if j = 3 then some (z_nx h + 2) else if j = 2 then some (z_nx h + 1) else none := by
    intro j
    rw [h_mn_rv]
    by_cases c4 : j = 4
    · rw [if_pos ⟨rfl, c4⟩, if_pos c4]
    · rw [if_neg (by omega), if_neg (by omega), if_neg c4]
      by_cases c3 : j = 3
      · rw [if_pos ⟨rfl, c3⟩, if_pos c3]
      · rw [if_neg (by omega), if_neg (by omega), if_neg c3]
        by_cases c2 : j = 2
        · rw [if_pos ⟨rfl, c2⟩, if_pos c2]
        · rw [if_neg (by omega), if_neg (by omega), if_pos (show z_nx h + 0 = z_nx h from rfl), if_neg c2]
  have rn : ∀ i j, 1 ≤ i → i < 4 → z_rv (h_mn h x1 x2 x3 x4) (z_nx h + i) j = none := by
    intro i j h1 h2
    rw [h_mn_rv, if_neg (by omega)]
    have d : i = 1 ∨ i = 2 ∨ i = 3 := by omega
    rcases d with r | r | r <;> subst r
    · rw [if_neg (by omega), if_neg (by omega), if_neg (by omega), if_neg (by omega), if_pos rfl]
    · rw [if_neg (by omega), if_neg (by omega), if_pos rfl]
    · rw [if_pos rfl]
  refine W.grow 4 rfl ?_ ?_ ?_ ?_ ?_
  · intro a ha
    refine ⟨?_, ?_, ?_⟩
    · rw [h_mn_tg, if_neg (by omega), if_neg (by omega), if_neg (by omega), if_neg (by omega)]
    · rw [h_mn_ln, if_neg (by omega), if_neg (by omega), if_neg (by omega), if_neg (by omega)]
    · funext j
      rw [h_mn_rv, if_neg (by omega), if_neg (by omega), if_neg (by omega), if_neg (by omega), if_neg (by omega), if_neg (by omega), if_neg (by omega)]
  · intro i j b hi hb
    by_cases q : i = 0
    · subst q
      rw [r0] at hb
      rw [t0]
      by_cases c4 : j = 4
      · rw [if_pos c4] at hb; injection hb with hb; subst hb; subst c4
        exact ⟨by omega, t3⟩
      · rw [if_neg c4] at hb
        by_cases c3 : j = 3
        · rw [if_pos c3] at hb; injection hb with hb; subst hb; subst c3
          exact ⟨by omega, t2⟩
        · rw [if_neg c3] at hb
          by_cases c2 : j = 2
          · rw [if_pos c2] at hb; injection hb with hb; subst hb; subst c2
            exact ⟨by omega, t1⟩
          · rw [if_neg c2] at hb; cases hb
    · rw [rn i j (by omega) hi] at hb; cases hb
  · intro i hi q hq ht
    rw [tA i hi] at ht
    by_cases z : i = 0
    · rw [if_pos z] at ht
      subst z
      have d : q = (4, 2, 1, 12) ∨ q = (4, 3, 2, 8) ∨ q = (4, 4, 3, 360) := (by decide : ∀ q ∈ c_rel, 4 = q.1 → q = (4, 2, 1, 12) ∨ q = (4, 3, 2, 8) ∨ q = (4, 4, 3, 360)) q hq ht
      rcases d with r | r | r <;> subst r
      · exact ⟨(r0 2).trans rfl, l1⟩
      · exact ⟨(r0 3).trans rfl, l2⟩
      · exact ⟨(r0 4).trans rfl, l3⟩
    · rw [if_neg z] at ht
      exact absurd ht ((by decide : ∀ q ∈ c_rel, ¬ 100 = q.1) q hq)
  · intro i hi q hq ht
    rw [tA i hi] at ht
    by_cases z : i = 0
    · rw [if_pos z] at ht
      exact (by decide : ∀ q ∈ c_abs, ¬ 4 = q.1) q hq ht
    · rw [if_neg z] at ht
      exact (by decide : ∀ q ∈ c_abs, ¬ 100 = q.1) q hq ht
  · intro i hi ht
    rw [tA i hi] at ht
    by_cases z : i = 0
    · rw [if_pos z] at ht; cases ht
    · rw [if_neg z] at ht; cases ht
theorem T_mine {c : Nat} {g : zG} {h : zH} (X : AH c g h) (x1 x2 x3 x4 : Int32) : ST z_pI 99 [.ref 0, .int x1, .int x2, .int x3, .int x4] 165 [.ref 27, .int x1, .int x2, .int x3, .int x4] c g h := by
  have I := X.i
  have R := X.r
  rcases (Decidable.em ((0 : Int32) ≤ x1 ∧ x1 ≤ (99 : Int32))).symm with c1 | c1
  · exact ST.ro X (-1) (X_165 _ _ _ _ g (by rw [if_neg c1]; exact ⟨rfl, SE.refl g⟩)) (kv_of (X_99 _ _ _ _ h R.w (by rw [if_neg c1]; exact ⟨rfl, rfl⟩)))
  rcases (Decidable.em ((0 : Int32) ≤ x2 ∧ x2 ≤ (99 : Int32))).symm with c2 | c2
  · exact ST.ro X (-1) (X_165 _ _ _ _ g (by rw [if_pos c1, if_neg c2]; exact ⟨rfl, SE.refl g⟩)) (kv_of (X_99 _ _ _ _ h R.w (by rw [if_pos c1, if_neg c2]; exact ⟨rfl, rfl⟩)))
  rcases (Decidable.em ((1 : Int32) ≤ x3 ∧ x3 ≤ (300 : Int32))).symm with c3 | c3
  · exact ST.ro X (-1) (X_165 _ _ _ _ g (by rw [if_pos c1, if_pos c2, if_neg c3]; exact ⟨rfl, SE.refl g⟩)) (kv_of (X_99 _ _ _ _ h R.w (by rw [if_pos c1, if_pos c2, if_neg c3]; exact ⟨rfl, rfl⟩)))
  rcases (Decidable.em ((1 : Int32) ≤ x4 ∧ x4 ≤ (99 : Int32))).symm with c4 | c4
  · exact ST.ro X (-1) (X_165 _ _ _ _ g (by rw [if_pos c1, if_pos c2, if_pos c3, if_neg c4]; exact ⟨rfl, SE.refl g⟩)) (kv_of (X_99 _ _ _ _ h R.w (by rw [if_pos c1, if_pos c2, if_pos c3, if_neg c4]; exact ⟨rfl, rfl⟩)))
  have k1 := I.cnt.2.1
  have p0 : ¬ g 27 1 < 0 := by rw [n_lt]; show ¬ _ < (0 : Int); omega
  have t6 : (6 : Int32).toInt = 6 := by decide
  by_cases c5 : g 27 1 = 6
  · have c5' : ¬ g 27 1 < 6 := by rw [c5]; decide
    exact ST.ro X (-3) (X_165 _ _ _ _ g (by rw [if_pos c1, if_pos c2, if_pos c3, if_pos c4, if_pos c5]; exact ⟨rfl, SE.refl g⟩)) (kv_of (X_99 _ _ _ _ h R.w (by rw [if_pos c1, if_pos c2, if_pos c3, if_pos c4, R.n1, if_neg p0, if_neg c5']; exact ⟨rfl, rfl⟩)))
  have h1 : (g 27 1).toInt < 6 := by
    have : ¬ (g 27 1).toInt = 6 := fun q => c5 (Int32.toInt_inj.mp (by rw [q, t6]))
    omega
  have c5' : g 27 1 < 6 := n_lt.mpr (by rw [t6]; exact h1)
  have b1 := n_bnd (a := 0) (b := 99) (by omega) (by omega) c1
  have b2 := n_bnd (a := 0) (b := 99) (by omega) (by omega) c2
  have b3 := n_bnd (a := 1) (b := 300) (by omega) (by omega) c3
  have b4 := n_bnd (a := 1) (b := 99) (by omega) (by omega) c4
  have bd : 0 ≤ (g 27 1).toInt ∧ (g 27 1).toInt < 6 := ⟨k1.1, h1⟩
  have n6 : q_n g 1 < 6 := by unfold q_n z_ix; omega
  have en : g 27 1 = Int32.ofNat (q_n g 1) := (n_of k1.1).symm
  have k0 := I.cnt.1
  have T : q_n g 0 ≤ 60 := by unfold q_n z_ix; omega
  have n0 : q_n (g_mn g x1 x2 x3 x4) 0 = q_n g 0 := by unfold q_n; rw [mn_27 (by decide)]
  refine ST.mk (g 27 1) (g_mn g x1 x2 x3 x4) ?_ (by rw [n0]; exact (I.t_c (Nat.le_succ c)).mn h1 b1 b2 b3 b4) ?_
  · refine X_165 _ _ _ _ g ?_
    rw [if_pos c1, if_pos c2, if_pos c3, if_pos c4, if_neg c5]
    refine ⟨bd, fun g1 e1 => ?_⟩
    have f1 : g1 27 1 = g 27 1 := by rw [e1]; exact up_nj (by omega)
    rw [f1]
    refine ⟨bd, fun g2 e2 => ?_⟩
    have f2 : g2 27 1 = g 27 1 := by rw [e2]; exact (up_nj (by omega)).trans f1
    rw [f2]
    refine ⟨bd, fun g3 e3 => ?_⟩
    have f3 : g3 27 1 = g 27 1 := by rw [e3]; exact (up_nj (by omega)).trans f2
    rw [f3]
    refine ⟨bd, fun g4 e4 => ?_⟩
    have e5 : g4 = g_m39 g (q_n g 1) 0 x1 x2 x3 x4 := by
      rw [e4, e3, e2, e1]
      exact g_m39_0
    rw [e5]
    have w27 : ∀ t j, g_m39 g (q_n g 1) t x1 x2 x3 x4 27 j = g 27 j := fun t j => g_m39_ne (by omega) (by omega)
    refine z_lp (N := q_n g 0) (G := fun t => MG z_pI 165 107 [some (.ref 27), some (.int x1), some (.int x2), some (.int x3), some (.int x4), some (.int (Int32.ofNat t))] [] (g_m39 g (q_n g 1) t x1 x2 x3 x4) _) ?_ ?_
    · refine X_165_107 _ _ _ _ _ _ ?_
      rw [w27, w27, if_pos (q_end k0.1)]
      intro g9 e9
      rw [e9, up_at, Int32.add_sub_cancel]
      exact ⟨rfl, fun k _ => rfl⟩
    · intro t ht w
      refine X_165_107 _ _ _ _ _ _ ?_
      have e : (60 : Int32) * g 27 1 + Int32.ofNat t = Int32.ofNat (60 * q_n g 1 + t) := by
        rw [en]
        exact n_ma (a := 60)
      rw [w27, w27, if_neg (n_cnt k0.1 ht), e, n_ix (by omega), n_s]
      refine ⟨n_bd (N := 360) (by omega) (by omega), fun g11 e11 => ?_⟩
      rw [e11]
      have es := g_m39_s (g := g) (n := q_n g 1) (t := t) (x1 := x1) (x2 := x2) (x3 := x3) (x4 := x4)
      rw [es]
      exact w
  · refine X_99 _ _ _ _ h R.w ?_
    rw [if_pos c1, if_pos c2, if_pos c3, if_pos c4, R.n1, if_neg p0, if_pos c5']
    have W := R.w
    have ge := W.ge
    have N := X.2.2.1
    refine X_43 (z_nx h) x1 x2 x3 x4 (z_nw h 4 0 11) z_nw_at (by show z_nx h < z_nx h + 1; omega) ?_
    show KG z_pV 43 53 _ [] (h_mn h x1 x2 x3 x4) _
    obtain ⟨hE, hhE⟩ : ∃ hE, hE = h_mn h x1 x2 x3 x4 := ⟨_, rfl⟩
    rw [← hhE]
    have WE : CW hE := by rw [hhE]; exact h_mn_cw W
    have tE : z_tg hE (z_nx h) = 4 := by rw [hhE, h_mn_tg, if_neg (by omega), if_neg (by omega), if_neg (by omega), if_pos rfl]
    have tE3 : z_tg hE (z_nx h + 3) = 100 := by rw [hhE, h_mn_tg, if_pos rfl]
    have lE3 : z_ln hE (z_nx h + 3) = 360 := by rw [hhE, h_mn_ln, if_pos rfl]
    have rE4 : z_rv hE (z_nx h) 4 = some (z_nx h + 3) := by rw [hhE, h_mn_rv, if_pos ⟨rfl, rfl⟩]
    refine K_m53 60 0 hE rfl tE rE4 tE3 lE3 ?_
    obtain ⟨h1', hh1⟩ : ∃ h1, h1 = z_sW hE (z_nx h + 3) (fun j => if 180 + 0 ≤ j ∧ j < 240 then -4 else z_iv hE (z_nx h + 3) j) := ⟨_, rfl⟩
    rw [← hh1]
    have W1 : CW h1' := by rw [hh1]; exact WE.sW
    have ivO : ∀ x, ¬ x = z_nx h + 3 → z_iv h1' x = z_iv hE x := fun x hx => by rw [hh1]; exact z_row_ne hx
    have iv3 : ∀ j, z_iv h1' (z_nx h + 3) j = if 180 ≤ j ∧ j < 240 then -4 else 0 := by
      intro j
      rw [hh1]
      have ez : z_iv (z_sW hE (z_nx h + 3) (fun j => if 180 + 0 ≤ j ∧ j < 240 then -4 else z_iv hE (z_nx h + 3) j)) = z_row (z_iv hE) (z_nx h + 3) (fun j => if 180 + 0 ≤ j ∧ j < 240 then -4 else z_iv hE (z_nx h + 3) j) := rfl
      rw [ez, z_row_at]
      by_cases q : 180 ≤ j ∧ j < 240
      · rw [if_pos q, if_pos (by omega)]
      · rw [if_neg q, if_neg (by omega), hhE, h_mn_iv, if_neg (by omega), if_neg (by omega), if_neg (by omega), if_neg (by omega), if_pos rfl]
    have x1' : Ex h h1' := by
      refine ⟨by rw [hh1, hhE]; show z_nx h ≤ z_nx h + 1 + 1 + 1 + 1; omega, fun a ha => ?_⟩
      rw [ivO a (by omega), hh1]
      show z_tg hE a = _ ∧ z_ln hE a = _ ∧ z_iv hE a = _ ∧ z_rv hE a = _
      rw [hhE]
      refine ⟨by rw [h_mn_tg, if_neg (by omega), if_neg (by omega), if_neg (by omega), if_neg (by omega)], by rw [h_mn_ln, if_neg (by omega), if_neg (by omega), if_neg (by omega), if_neg (by omega)], ?_, ?_⟩
      · funext j
        rw [h_mn_iv, if_neg (by omega), if_neg (by omega), if_neg (by omega), if_neg (by omega), if_neg (by omega), if_neg (by omega), if_neg (by omega), if_neg (by omega)]
      · funext j
        rw [h_mn_rv, if_neg (by omega), if_neg (by omega), if_neg (by omega), if_neg (by omega), if_neg (by omega), if_neg (by omega), if_neg (by omega)]
    have R1 := R.ext W1 x1'
    have t1 : z_tg h1' (z_nx h) = 4 := by rw [hh1]; exact tE
    have R2 := R1.slot (t := 1) (i := q_n g 1) (b := z_nx h) (Or.inl ⟨rfl, Nat.le_refl _, t1⟩)
    obtain ⟨h2, hh2⟩ : ∃ h2, h2 = z_sR h1' 1 (q_n g 1) (some (z_nx h)) := ⟨_, rfl⟩
    rw [← hh2] at R2
    obtain ⟨gA, hgA⟩ : ∃ gA, gA = g_m39 g (q_n g 1) (q_n g 0) x1 x2 x3 x4 := ⟨_, rfl⟩
    have aN : ∀ {k i}, ¬ (28 ≤ k ∧ k ≤ 31 ∧ i = q_n g 1) → ¬ (k = 39 ∧ 60 * q_n g 1 ≤ i ∧ i < 60 * q_n g 1 + q_n g 0) → gA k i = g k i := by rw [hgA]; exact g_m39_ne
    have aq : ∀ j, q_n gA j = q_n g j := fun j => by
      show z_ix (gA 27 j) = z_ix (g 27 j)
      rw [aN (by omega) (by omega)]
    have R3 : RC (fun _ => q_n g 0) gA h2 := by
      refine R2.gw (aN (by omega) (by omega)) (aN (by omega) (by omega)) (aN (by omega) (by omega)) (aN (by omega) (by omega)) ?_ (fun i _ => aN (by omega) (by omega)) (fun k i _ _ => aN (by omega) (by omega)) (fun k i _ _ _ => aN (by omega) (by omega)) (fun k i _ _ => aN (by omega) (by omega))
      intro k i x j L
      refine aN (fun z => ?_) (fun z => ?_)
      · have : kd k = 3 := by
          have w : k = 28 ∨ k = 29 ∨ k = 30 ∨ k = 31 := by omega
          rcases w with w | w | w | w <;> subst w <;> rfl
        unfold Loc at L
        rw [this] at L
        have := L.1
        omega
      · have : kd k = 4 := by rw [z.1]; rfl
        unfold Loc at L
        rw [this] at L
        obtain ⟨p, b, hp, _, L⟩ := L
        rcases L with ⟨_, q, _⟩ | ⟨_, q, _⟩ | ⟨_, w, t, q⟩
        · omega
        · omega
        · omega
    have i2 : ∀ x j, z_iv h2 x j = z_iv h1' x j := fun x j => by rw [hh2]; rfl
    have ivN : ∀ j, z_iv h2 (z_nx h) j = if j = 6 then x4 else if j = 5 then x3 else if j = 1 then x2 else if j = 0 then x1 else 0 := by
      intro j
      rw [i2, ivO _ (by omega), hhE, h_mn_iv]
      by_cases c6 : j = 6
      · rw [if_pos ⟨rfl, c6⟩, if_pos c6]
      rw [if_neg (by omega), if_neg c6]
      by_cases c5 : j = 5
      · rw [if_pos ⟨rfl, c5⟩, if_pos c5]
      rw [if_neg (by omega), if_neg c5]
      by_cases c1 : j = 1
      · rw [if_pos ⟨rfl, c1⟩, if_pos c1]
      rw [if_neg (by omega), if_neg c1]
      by_cases c0 : j = 0
      · rw [if_pos ⟨rfl, c0⟩, if_pos c0]
      rw [if_neg (by omega), if_neg c0, if_neg (by omega), if_neg (by omega), if_neg (by omega), if_pos rfl]
    have ivR : ∀ d j, d = 1 ∨ d = 2 → z_iv h2 (z_nx h + d) j = 0 := by
      intro d j hd
      rw [i2, ivO _ (by omega), hhE, h_mn_iv, if_neg (by omega), if_neg (by omega), if_neg (by omega), if_neg (by omega), if_neg (by omega)]
      rcases hd with r | r <;> subst r
      · rw [if_neg (by omega), if_pos rfl]
      · rw [if_pos rfl]
    have rvN : ∀ j, (j = 9 ∨ j = 10) → z_rv h2 (z_nx h) j = none := by
      intro j hj
      rw [hh2, sR_ne (by omega), hh1]
      show z_rv hE (z_nx h) j = none
      rw [hhE, h_mn_rv, if_neg (by omega), if_neg (by omega), if_neg (by omega), if_neg (by omega), if_neg (by omega), if_neg (by omega), if_pos rfl]
    obtain ⟨z1, z2, z3, z4, z5, z6⟩ := I.zm (q_n g 1) (Nat.le_refl _) n6
    obtain ⟨v1, v2, v3, v4⟩ := mn_v (g := g) (x1 := x1) (x2 := x2) (x3 := x3) (x4 := x4)
    have vA : ∀ k i, ¬ k = 27 → g_mn g x1 x2 x3 x4 k i = gA k i := fun k i hk => by rw [hgA]; unfold g_mn; exact up_nj (by omega)
    rw [vA _ _ (by decide)] at v1 v2 v3 v4
    have a27 : gA 27 1 = g 27 1 := aN (by omega) (by omega)
    have R4 := R3.c1 (a := z_nx h) (by rw [a27]; exact bd) (by rw [aq, hh2]; exact sR_at) (by
        intro i hi z
        rw [aq] at hi
        rw [hh2, sR_nj (by omega), (x1'.2 1 (by omega)).2.2.2] at z
        have := W.lv _ _ _ z
        omega) (by
        rw [aq, ivN, ivN, ivN, ivN, ivN, ivN, v1, v2, v3, v4, aN (k := 33) (by omega) (by omega), aN (k := 34) (by omega) (by omega), z1, z2]
        exact ⟨rfl, rfl, rfl, rfl, rfl, rfl⟩) (by
        intro i hi
        rw [aq, ivR 1 i (by omega), aN (by omega) (by omega)]
        exact (z4 i hi).symm) (by
        intro i hi
        rw [aq, ivR 2 i (by omega), aN (by omega) (by omega)]
        exact (z5 i hi).symm) (by
        intro w t hw ht hl
        rw [aq]
        rw [i2, iv3]
        by_cases q : w = 3
        · subst q
          rw [if_pos (by omega), hgA]
          unfold g_m39
          rw [if_neg (by omega), if_neg (by omega), if_neg (by omega), if_neg (by omega), if_pos (by omega)]
        · rw [if_neg (by omega), aN (by omega) (by omega)]
          exact (z6 w t hw ht).symm) (by
        rw [rvN 10 (by omega), aq]
        have : q_lt gA (Int32.ofNat (q_n g 1)) = none := by
          cases k : q_lt gA (Int32.ofNat (q_n g 1)) with
          | none => rfl
          | some d =>
            exfalso
            have w := q_lt_some k
            rw [aq, aN (by omega) (by omega)] at w
            obtain ⟨m, hm, hm6, em⟩ := I.mo w.1
            have := n_inj (by omega) (by omega) (em.symm.trans w.2)
            omega
        rw [this]
        rfl) (by
        rw [rvN 9 (by omega), aq]
        exact Or.inl ⟨rfl, by rw [aN (by omega) (by omega)]; exact z3⟩)
    refine X_99_76 _ _ _ _ (z_nx h) (g 27 1) h1' W1 t1 ((x1'.2 1 (by omega)).1.trans R.f.t1) ((x1'.2 1 (by omega)).2.1.trans (W.abOf (t := 11) (j := 0) (o := 1) (n := 6) (by decide) W.t0).2) ?_
    have i12 : z_iv h1' 0 12 = g 27 1 := by rw [(x1'.2 0 (by omega)).2.2.1]; exact R.n1
    rw [i12]
    refine ⟨bd, by rw [Int32.add_sub_cancel], ?_⟩
    rw [a27] at R4
    have e2 : z_up2 gA 27 1 (g 27 1 + 1) = g_mn g x1 x2 x3 x4 := by rw [hgA]; rfl
    rw [e2] at R4
    have e3 : z_sI (z_sR h1' 1 (z_ix (g 27 1)) (some (z_nx h))) 0 12 (g 27 1 + 1) = z_sI h2 0 12 (g 27 1 + 1) := by rw [hh2]; rfl
    rw [e3, n0]
    refine ⟨R4, ?_, ?_⟩
    · have k1 : Kq h hE := by
        rw [hhE]
        refine ⟨fun k a b => ⟨?_, ?_, ?_, ?_⟩, ?_, ?_, ?_⟩
        · rw [h_mn_tg, if_neg (by omega), if_neg (by omega), if_neg (by omega), if_neg (by omega)]
        · rw [h_mn_ln, if_neg (by omega), if_neg (by omega), if_neg (by omega), if_neg (by omega)]
        · funext j
          rw [h_mn_rv, if_neg (by omega), if_neg (by omega), if_neg (by omega), if_neg (by omega), if_neg (by omega), if_neg (by omega), if_neg (by omega)]
        · funext j
          rw [h_mn_iv, if_neg (by omega), if_neg (by omega), if_neg (by omega), if_neg (by omega), if_neg (by omega), if_neg (by omega), if_neg (by omega), if_neg (by omega)]
        · funext j
          show (if 27 = z_nx h + 3 then 0 else if 27 = z_nx h + 2 then 0 else if 27 = z_nx h + 1 then 0 else if 27 = z_nx h then 0 else z_lv h 27 j) = z_lv h 27 j
          rw [if_neg (by omega), if_neg (by omega), if_neg (by omega), if_neg (by omega)]
        · funext j
          unfold z_SC
          rw [h_mn_iv, if_neg (by omega), if_neg (by omega), if_neg (by omega), if_neg (by omega), if_neg (by omega), if_neg (by omega), if_neg (by omega), if_neg (by omega)]
        · unfold z_SC
          rw [h_mn_ln, if_neg (by omega), if_neg (by omega), if_neg (by omega), if_neg (by omega)]
      refine k1.trans ?_
      rw [hh2, hh1]
      exact (Kq.sW (by omega) (by omega)).trans ((Kq.sR (by omega)).trans (Kq.sI (by omega) (by omega)))
    · rw [hh2, hh1, hhE]
      exact ⟨by show z_nx h + 1 + 1 + 1 + 1 ≤ z_nx h + 4; omega, by show z_us h + 11 + 12 + 8 + 360 ≤ z_us h + 400; omega⟩
