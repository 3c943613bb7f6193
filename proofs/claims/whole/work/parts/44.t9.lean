/-! engine -/
def g_en (g : zG) (n : Nat) (x1 x2 x3 x4 x5 x6 : Int32) : zG := fun k i => if k = 27 ∧ i = 20 then g 27 20 + 1 else if i = n then (if k = 46 then x1 else if k = 47 then x2 else if k = 48 then x3 else if k = 49 then x4 else if k = 50 then x5 else if k = 51 then x6 else if k = 58 then g 27 0 else if k = 200 then g 27 0 else if k = 201 then 0 else if k = 202 then 0 else if k = 204 then g 27 20 else g k i) else g k i
theorem g_en_ne {g : zG} {n : Nat} {x1 x2 x3 x4 x5 x6 : Int32} : ∀ k, [27, 46, 47, 48, 49, 50, 51, 58, 200, 201, 202, 204].contains k = false → g_en g n x1 x2 x3 x4 x5 x6 k = g k := by
  intro k hk
  simp at hk
  funext i
  unfold g_en
  rw [if_neg (by omega)]
  by_cases q : i = n
  · rw [if_pos q, if_neg (by omega), if_neg (by omega), if_neg (by omega), if_neg (by omega), if_neg (by omega), if_neg (by omega), if_neg (by omega), if_neg (by omega), if_neg (by omega), if_neg (by omega), if_neg (by omega)]
  · rw [if_neg q]
theorem g_en_i {g : zG} {n : Nat} {x1 x2 x3 x4 x5 x6 : Int32} {k i : Nat} (h1 : ¬ (k = 27 ∧ i = 20)) (h2 : ¬ i = n) : g_en g n x1 x2 x3 x4 x5 x6 k i = g k i := by
  unfold g_en
  rw [if_neg h1, if_neg h2]
theorem g_en_27 {g : zG} {n : Nat} {x1 x2 x3 x4 x5 x6 : Int32} {i : Nat} (h1 : ¬ i = 20) : g_en g n x1 x2 x3 x4 x5 x6 27 i = g 27 i := by
  unfold g_en
  rw [if_neg (by omega)]
  by_cases q : i = n
  · rw [if_pos q]; rfl
  · rw [if_neg q]
theorem g_en_at {g : zG} {n : Nat} {x1 x2 x3 x4 x5 x6 : Int32} : g_en g n x1 x2 x3 x4 x5 x6 27 20 = g 27 20 + 1 := if_pos ⟨rfl, rfl⟩
theorem g_en_v {g : zG} {n : Nat} {x1 x2 x3 x4 x5 x6 : Int32} {k : Nat} (h : ¬ k = 27) : g_en g n x1 x2 x3 x4 x5 x6 k n = (if k = 46 then x1 else if k = 47 then x2 else if k = 48 then x3 else if k = 49 then x4 else if k = 50 then x5 else if k = 51 then x6 else if k = 58 then g 27 0 else if k = 200 then g 27 0 else if k = 201 then 0 else if k = 202 then 0 else if k = 204 then g 27 20 else g k n) := by
  unfold g_en
  rw [if_neg (by omega), if_pos rfl]
theorem s_lat_cg {r r2 : Nat → Int32} {x : Int32} : ∀ {n}, (∀ i, i < n → r i = r2 i) → s_lat r x n = s_lat r2 x n := by
  intro n
  induction n with
  | zero => intro _; rfl
  | succ n ih => intro e; unfold s_lat; rw [e n (by omega), ih (fun i hi => e i (by omega))]
theorem s_lst_cg {r r2 v v2 : Nat → Int32} {x d d2 : Int32} : ∀ {n}, (∀ i, i < n → r i = r2 i ∧ v i = v2 i) → d = d2 → s_lst r x v d n = s_lst r2 x v2 d2 n := by
  intro n
  induction n with
  | zero => intro _ e; exact e
  | succ n ih => intro e ed; unfold s_lst; rw [(e n (by omega)).1, (e n (by omega)).2, ih (fun i hi => e i (by omega)) ed]
theorem s_lst_no {r v : Nat → Int32} {x d : Int32} : ∀ {n}, (∀ i, i < n → ¬ r i = x) → s_lst r x v d n = d := by
  intro n
  induction n with
  | zero => intro _; rfl
  | succ n ih => intro e; unfold s_lst; rw [if_neg (e n (by omega)), ih (fun i hi => e i (by omega))]
theorem LocE {nm ne nr nl : Nat} {lm : Nat → Nat} {h : zH} {k i c j : Nat} (L : Loc nm (ne + 1) nr nl lm h k i c j) : (kd k = 5 ∧ i = ne ∧ z_rv h 2 ne = some c ∧ j < 16 ∧ fe j = k) ∨ (Loc nm ne nr nl lm h k i c j ∧ (kd k = 5 → i < ne)) := by
  unfold Loc at L ⊢
  obtain ⟨n, hn⟩ : ∃ n, n = kd k := ⟨_, rfl⟩
  rw [← hn] at L ⊢
  match n, L with
  | 0, L => exact Or.inr ⟨L, fun q => by omega⟩
  | 1, L => exact Or.inr ⟨L, fun q => by omega⟩
  | 2, L => exact Or.inr ⟨L, fun q => by omega⟩
  | 3, L => exact Or.inr ⟨L, fun q => by omega⟩
  | 4, L => exact Or.inr ⟨L, fun q => by omega⟩
  | 5, L =>
    by_cases q : i = ne
    · subst q; exact Or.inl ⟨rfl, rfl, L.2.1, L.2.2⟩
    · have : i < ne := by have := L.1; omega
      exact Or.inr ⟨⟨this, L.2⟩, fun _ => this⟩
  | 6, L => exact Or.inr ⟨L, fun q => by omega⟩
  | 7, L => exact Or.inr ⟨L, fun q => by omega⟩
  | 8, L => exact Or.inr ⟨L, fun q => by omega⟩
  | n + 9, L => exact L.elim
theorem n_suc {x : Int32} (h0 : 0 ≤ x.toInt) (h1 : x.toInt < 1000) : (x + 1).toInt = x.toInt + 1 ∧ z_ix (x + 1) = z_ix x + 1 := by
  have e : (x + 1).toInt = x.toInt + 1 := by
    rw [i_add (by show _ ≤ _ + (1 : Int); omega) (by show _ + (1 : Int) < _; omega)]
    rfl
  refine ⟨e, ?_⟩
  unfold z_ix
  rw [e]
  omega
section EN
variable {c : Nat} {lm : Nat → Nat} {g : zG} {h : zH}
theorem RC.eng (R : RC lm g h) (I : INV c lm g) {m a b : Nat} (hm : m < q_n g 1) (ha : z_rv h 1 m = some a) {x2 x3 x4 x5 x6 : Int32} (tb : z_tg h b = 3) (fr : ∀ i, i < q_n g 20 → ¬ z_rv h 2 i = some b) (hn : (g 27 20).toInt < 12)
    (vals : ∀ j, j < 16 → z_iv h b j = g_en g (q_n g 20) (Int32.ofNat m) x2 x3 x4 x5 x6 (fe j) (q_n g 20)) :
    RC lm (g_en g (q_n g 20) (Int32.ofNat m) x2 x3 x4 x5 x6) (z_sI (z_sR (z_sR h a 10 (some b)) 2 (q_n g 20) (some b)) 0 13 (g 27 20 + 1)) := by
  have ta := R.w.mt R.f ha
  have ga := R.f.ge ta (by omega)
  have gb := R.f.ge tb (by omega)
  have hm6 := I.m6 hm
  have h20 := I.cnt.2.2.1
  have s20 := n_suc h20.1 (by omega)
  obtain ⟨ne, hne⟩ : ∃ n, n = q_n g 20 := ⟨_, rfl⟩
  rw [← hne] at fr vals ⊢
  obtain ⟨g2, hg2⟩ : ∃ g2, g2 = g_en g ne (Int32.ofNat m) x2 x3 x4 x5 x6 := ⟨_, rfl⟩
  rw [← hg2] at vals ⊢
  have en : ∀ k, [27, 46, 47, 48, 49, 50, 51, 58, 200, 201, 202, 204].contains k = false → g2 k = g k := by rw [hg2]; exact g_en_ne
  have ei : ∀ {k i}, ¬ (k = 27 ∧ i = 20) → ¬ i = ne → g2 k i = g k i := by rw [hg2]; exact g_en_i
  have e27 : ∀ {i}, ¬ i = 20 → g2 27 i = g 27 i := by rw [hg2]; exact g_en_27
  have e20 : g2 27 20 = g 27 20 + 1 := by rw [hg2]; exact g_en_at
  have q1 : q_n g2 1 = q_n g 1 := by unfold q_n; rw [e27 (by decide)]
  have q55 : q_n g2 55 = q_n g 55 := by unfold q_n; rw [e27 (by decide)]
  have q45 : q_n g2 45 = q_n g 45 := by unfold q_n; rw [e27 (by decide)]
  have q20 : q_n g2 20 = ne + 1 := by unfold q_n; rw [e20, s20.2, hne]; rfl
  obtain ⟨h3, hh3⟩ : ∃ h3, h3 = z_sI (z_sR (z_sR h a 10 (some b)) 2 ne (some b)) 0 13 (g 27 20 + 1) := ⟨_, rfl⟩
  have rO : ∀ x, ¬ x = a → ¬ x = 2 → z_rv h3 x = z_rv h x := by
    intro x h1 h2
    rw [hh3]
    show z_rv (z_sR (z_sR h a 10 (some b)) 2 ne (some b)) x = z_rv h x
    rw [sR_ne h2, sR_ne h1]
  have r2 : ∀ i, ¬ i = ne → z_rv h3 2 i = z_rv h 2 i := by
    intro i hi
    rw [hh3]
    show z_rv (z_sR (z_sR h a 10 (some b)) 2 ne (some b)) 2 i = z_rv h 2 i
    rw [sR_nj (by omega), sR_ne (by omega)]
  have r2n : z_rv h3 2 ne = some b := by
    rw [hh3]
    exact sR_at
  have ra : ∀ j, ¬ j = 10 → z_rv h3 a j = z_rv h a j := by
    intro j hj
    rw [hh3]
    show z_rv (z_sR (z_sR h a 10 (some b)) 2 ne (some b)) a j = z_rv h a j
    rw [sR_ne (by omega), sR_nj (by omega)]
  have ra10 : z_rv h3 a 10 = some b := by
    rw [hh3]
    show z_rv (z_sR (z_sR h a 10 (some b)) 2 ne (some b)) a 10 = some b
    rw [sR_ne (by omega)]
    exact sR_at
  have ii : ∀ x j, ¬ (x = 0 ∧ j = 13) → z_iv h3 x j = z_iv h x j := by
    intro x j hx
    rw [hh3]
    exact up_nj hx
  have i0 : z_iv h3 0 13 = g 27 20 + 1 := by rw [hh3]; exact v_at
  have W2 : CW h3 := by
    rw [hh3]
    exact ((R.w.sR (a := a) (j := 10) (r := some b) ta rfl (fun x q => by injection q with q; subst q; exact tb) (by decide)).sR (a := 2) (j := ne) (r := some b) (t := 103) R.f.t2 rfl (fun x q => by injection q with q; subst q; exact tb) (show ¬ (3 : Nat) = 0 by decide)).sI
  have F2 : FX h3 := by rw [hh3]; exact R.f
  have B2 : BD h3 := by
    have := R.b
    unfold BD
    rw [rO 0 (by omega) (by omega)]
    exact this
  rw [← hh3]
  unfold RC
  rw [q1, q20, q55, q45]
  refine ⟨W2, F2, B2, ?_, ?_, ?_⟩
  · obtain ⟨j1, j2, j3, j4⟩ := R.j
    unfold IJ
    rw [rO 1 (by omega) (by omega), rO 3 (by omega) (by omega), rO 4 (by omega) (by omega)]
    refine ⟨j1, fun p q x hp hq e1 e2 => ?_, j3, j4⟩
    by_cases c1 : p = ne
    · by_cases c2 : q = ne
      · omega
      · exfalso
        rw [c1, r2n] at e1
        rw [r2 q c2] at e2
        injection e1 with e1
        subst e1
        exact fr q (by omega) e2
    · by_cases c2 : q = ne
      · exfalso
        rw [c2, r2n] at e2
        rw [r2 p c1] at e1
        injection e2 with e2
        subst e2
        exact fr p (by omega) e1
      · rw [r2 p c1] at e1
        rw [r2 q c2] at e2
        exact j2 p q x (by rw [← hne]; omega) (by rw [← hne]; omega) e1 e2
  · intro k i x j L
    rcases LocE L with ⟨l1, l2, l3, l4, l5⟩ | ⟨L, lk⟩
    · rw [r2n] at l3
      injection l3 with l3
      subst l3
      rw [ii _ _ (by omega), vals j l4, l5, l2]
    · have L' := L.eq (h := h) (by rw [rO 0 (by omega) (by omega)]) (fun i _ => by rw [rO 1 (by omega) (by omega)]) (fun i hi => r2 i (by omega)) (fun i _ => by rw [rO 3 (by omega) (by omega)]) (fun i _ => by rw [rO 4 (by omega) (by omega)])
      have old : ¬ (k = 27 ∧ i = 20) → g2 k i = g k i := by
        intro hk
        by_cases q : i = ne
        · by_cases k27 : k = 27
          · subst k27; exact e27 (by omega)
          · rcases Bool.eq_false_or_eq_true ([27, 46, 47, 48, 49, 50, 51, 58, 200, 201, 202, 204].contains k) with w | w
            · exfalso
              have w2 : k = 46 ∨ k = 47 ∨ k = 48 ∨ k = 49 ∨ k = 50 ∨ k = 51 ∨ k = 58 ∨ k = 200 ∨ k = 201 ∨ k = 202 ∨ k = 204 := by simp at w; omega
              by_cases k58 : k = 58
              · subst k58
                unfold Loc at L'
                exact L'
              · have : kd k = 5 := by
                  rcases w2 with w2 | w2 | w2 | w2 | w2 | w2 | w2 | w2 | w2 | w2 | w2 <;> first | (exact absurd w2 k58) | (subst w2; rfl)
                have := lk this
                omega
            · rw [en k w]
        · exact ei hk q
      by_cases hk : k = 27 ∧ i = 20
      · obtain ⟨rfl, rfl⟩ := hk
        have : x = 0 ∧ j = 13 := L'.fn R.b (Or.inl ⟨rfl, Or.inr (Or.inr (Or.inl ⟨rfl, rfl⟩))⟩)
        obtain ⟨rfl, rfl⟩ := this
        rw [i0, e20]
      · have hx : ¬ (x = 0 ∧ j = 13) := by
          rintro ⟨rfl, rfl⟩
          have L0 : Loc (q_n g 1) ne (q_n g 55) (q_n g 45) lm h 27 20 0 13 := Or.inl ⟨rfl, Or.inr (Or.inr (Or.inl ⟨rfl, rfl⟩))⟩
          exact hk (L'.inj R.w R.f R.b (by rw [hne]; exact R.j) L0)
        rw [ii _ _ hx, old hk]
        have w := R.i k i x j
        rw [← hne] at w
        exact w L'
  · obtain ⟨x1, y2, y3, y4, y5, y6, y7, y8⟩ := R.x
    have tr : ∀ o k p, (∀ c, o = some c → z_tg h c = 10) → (k = 42 ∨ k = 80) → TrR (z_iv h) o g k p → TrR (z_iv h3) o g2 k p := by
      intro o k p ho hk q
      have c0 : [27, 46, 47, 48, 49, 50, 51, 58, 200, 201, 202, 204].contains k = false ∧ [27, 46, 47, 48, 49, 50, 51, 58, 200, 201, 202, 204].contains (k + 1) = false ∧ [27, 46, 47, 48, 49, 50, 51, 58, 200, 201, 202, 204].contains (k + 2) = false ∧ [27, 46, 47, 48, 49, 50, 51, 58, 200, 201, 202, 204].contains (k + 3) = false := by rcases hk with q | q <;> subst q <;> decide
      unfold TrR at q ⊢
      rw [en k c0.1, en (k + 1) c0.2.1, en (k + 2) c0.2.2.1, en (k + 3) c0.2.2.2]
      rcases q with q | ⟨t, q, w⟩
      · exact Or.inl q
      · have gt := R.f.ge (ho t q) (by omega)
        refine Or.inr ⟨t, q, ?_⟩
        rw [ii t 0 (by omega), ii t 1 (by omega), ii t 2 (by omega), ii t 3 (by omega)]
        exact w
    unfold RX
    rw [q1, q20, q55, rO 1 (by omega) (by omega), rO 3 (by omega) (by omega), rO 4 (by omega) (by omega), en 71 rfl, en 86 rfl, en 87 rfl]
    refine ⟨x1, fun e he => ?_, y3, fun p x hp hx => ?_, fun k x hk hx => ?_, fun n hn => ?_, fun p x hp hx => ?_, fun k x hk hx => ?_⟩
    · by_cases q : e = ne
      · exact ⟨b, by rw [q]; exact r2n⟩
      · rw [r2 e q]
        exact y2 e (by rw [← hne]; omega)
    · have lt2 : ∀ z, q_lt g2 z = if g2 46 ne = z then some ne else q_lt g z := by
        intro z
        unfold q_lt
        rw [q20, s_lat, ← hne]
        rw [s_lat_cg (r2 := g 46) (fun i hi => ei (by omega) (by omega))]
      have v46 : g2 46 ne = Int32.ofNat m := by rw [hg2, g_en_v (by decide)]; rfl
      rw [lt2, v46]
      by_cases q : p = m
      · subst q
        rw [ha] at hx
        injection hx with hx
        subst hx
        rw [ra10, if_pos rfl]
        exact r2n.symm
      · have hxa : ¬ x = a := fun w => q (R.j.1 _ _ _ hp hm hx (w ▸ ha))
        have gx := R.f.ge (R.w.mt R.f hx) (by omega)
        have p6 := I.m6 hp
        rw [rO x hxa (by omega), if_neg (fun w => q (n_inj (by omega) (by omega) w).symm), y4 p x hp hx]
        cases kk : q_lt g (Int32.ofNat p) with
        | none => rfl
        | some d =>
          have hd := (q_lt_some kk).1
          exact (r2 d (by omega)).symm
    · have tx := R.w.rt R.f hx
      have gx := R.f.ge tx (by omega)
      have he := (I.eo hk).1
      rw [rO x (fun q => by rw [q, ta] at tx; cases tx) (by omega), r2 _ (by omega)]
      exact y5 k x hk hx
    · have := y6 n hn
      rw [hh3]
      exact this
    · have gx := R.f.ge (R.w.mt R.f hx) (by omega)
      have tg : ∀ c, z_rv h x 9 = some c → z_tg h c = 10 := fun c hc => R.w.tyOf (R.w.mt R.f hx) hc (by decide) rfl
      by_cases q : x = a
      · subst q
        rw [ra 9 (by decide)]
        exact tr _ _ _ tg (by omega) (y7 p x hp hx)
      · rw [rO x q (by omega)]
        exact tr _ _ _ tg (by omega) (y7 p x hp hx)
    · have tx := R.w.rt R.f hx
      have gx := R.f.ge tx (by omega)
      rw [rO x (fun q => by rw [q, ta] at tx; cases tx) (by omega)]
      exact tr _ _ _ (fun c hc => R.w.tyOf tx hc (by decide) rfl) (by omega) (y8 k x hk hx)
theorem INV.eng (I : INV c lm g) {m : Nat} (hm : m < q_n g 1) (hlm : lm m = z_ix (g 27 0)) {x2 x3 x4 x5 x6 : Int32} (hn : (g 27 20).toInt < 12) (b2 : 0 ≤ x2.toInt ∧ x2.toInt ≤ 2) (b3 : 1 ≤ x3.toInt ∧ x3.toInt ≤ 99) (b4 : 1 ≤ x4.toInt ∧ x4.toInt ≤ 9999) (b5 : 1 ≤ x5.toInt ∧ x5.toInt ≤ 9999) (b6 : 0 ≤ x6.toInt ∧ x6.toInt ≤ 255) : INV c lm (g_en g (q_n g 20) (Int32.ofNat m) x2 x3 x4 x5 x6) := by
  have hm6 := I.m6 hm
  have h20 := I.cnt.2.2.1
  have s20 := n_suc h20.1 (by omega)
  obtain ⟨ne, hne⟩ : ∃ n, n = q_n g 20 := ⟨_, rfl⟩
  rw [← hne]
  have hn12 : ne < 12 := by rw [hne]; unfold q_n z_ix; omega
  obtain ⟨g2, hg2⟩ : ∃ g2, g2 = g_en g ne (Int32.ofNat m) x2 x3 x4 x5 x6 := ⟨_, rfl⟩
  rw [← hg2]
  have en : ∀ k, [27, 46, 47, 48, 49, 50, 51, 58, 200, 201, 202, 204].contains k = false → g2 k = g k := by rw [hg2]; exact g_en_ne
  have ei : ∀ {k i}, ¬ (k = 27 ∧ i = 20) → ¬ i = ne → g2 k i = g k i := by rw [hg2]; exact g_en_i
  have e27 : ∀ {i}, ¬ i = 20 → g2 27 i = g 27 i := by rw [hg2]; exact g_en_27
  have e20 : g2 27 20 = g 27 20 + 1 := by rw [hg2]; exact g_en_at
  have q55 : q_n g2 55 = q_n g 55 := by unfold q_n; rw [e27 (by decide)]
  have q20 : q_n g2 20 = ne + 1 := by unfold q_n; rw [e20, s20.2, hne]; rfl
  have n : ∀ N : List Nat, N.all (fun j => !(j == 20)) = true → ∀ j, j ∈ N → g2 27 j = g 27 j := fun N hN j hj => e27 (fun q => by have := List.all_eq_true.mp hN j hj; simp at this; omega)
  exact ⟨by
      rw [e27 (i := 0) (by decide), e27 (i := 1) (by decide), e20, e27 (i := 55) (by decide), e27 (i := 45) (by decide), e27 (i := 35) (by decide)]
      have a := I.cnt
      exact ⟨a.1, a.2.1, by omega, a.2.2.2.1, a.2.2.2.2.1, a.2.2.2.2.2⟩,
    INV.t_bm (n _ rfl) (ag_of en rfl) I.bm,
    INV.t_pd (n _ rfl) (ag_of en rfl) I.pd,
    INV.t_bw (n _ rfl) (ag_of en rfl) I.bw,
    INV.t_bs (n _ rfl) (ag_of en rfl) I.bs,
    by
      rw [q20]
      refine TB.push (fun q hq i hi => ?_) (fun q hq => ?_)
      · have d : ∀ q, q ∈ BE → ¬ q.1 = 27 := by decide
        have := d q hq
        rw [ei (by omega) (by omega)]
        exact I.be q hq i (by rw [← hne]; exact hi)
      · obtain ⟨z1, z2, z3, z4, z5, z6⟩ := I.ze ne (by rw [hne]; exact Nat.le_refl _) hn12
        have zz : (0 : Int32).toInt = 0 := by decide
        have d : q = (47, 0, 2) ∨ q = (48, 1, 99) ∨ q = (49, 1, 9999) ∨ q = (50, 1, 9999) ∨ q = (51, 0, 255) ∨ q = (53, 0, 9999) ∨ q = (54, 0, 1) ∨ q = (55, 0, 1) := by simpa [BE] using hq
        rcases d with r | r | r | r | r | r | r | r <;> subst r <;> dsimp only
        · rw [hg2, g_en_v (by decide)]; exact b2
        · rw [hg2, g_en_v (by decide)]; exact b3
        · rw [hg2, g_en_v (by decide)]; exact b4
        · rw [hg2, g_en_v (by decide)]; exact b5
        · rw [hg2, g_en_v (by decide)]; exact b6
        · rw [en 53 rfl, z2, zz]; omega
        · rw [en 54 rfl, z3, zz]; omega
        · rw [en 55 rfl, z4, zz]; omega,
    INV.t_br (n _ rfl) (ag_of en rfl) I.br,
    INV.t_bl (n _ rfl) (ag_of en rfl) I.bl,
    INV.t_bt (n _ rfl) (ag_of en rfl) I.bt,
    INV.t_wc (n _ rfl) (ag_of en rfl) I.wc,
    INV.t_wn (n _ rfl) (ag_of en rfl) I.wn,
    INV.t_sh (n _ rfl) (ag_of en rfl) I.sh,
    INV.t_la (n _ rfl) (ag_of en rfl) I.la,
    INV.t_lv (n _ rfl) (ag_of en rfl) I.lv,
    fun e he => by
      rw [q20] at he
      rw [e27 (i := 1) (by decide)]
      by_cases q : e = ne
      · have v46 : g2 46 ne = Int32.ofNat m := by rw [hg2, g_en_v (by decide)]; rfl
        rw [q, v46, n_i (by omega)]
        unfold q_n z_ix at hm
        omega
      · rw [ei (by omega) q]; exact I.em e (by rw [← hne]; omega),
    fun e he => by
      rw [q20] at he
      rw [e27 (i := 0) (by decide)]
      by_cases q : e = ne
      · have v58 : g2 58 ne = g 27 0 := by rw [hg2, g_en_v (by decide)]; rfl
        rw [q, v58]
        exact ⟨I.cnt.1.1, Int.le_refl _⟩
      · rw [ei (by omega) q]; exact I.ca e (by rw [← hne]; omega),
    fun e he => by
      rw [q20] at he
      rw [en 52 rfl]
      by_cases q : e = ne
      · obtain ⟨z1, z2, z3, z4, z5, z6⟩ := I.ze ne (by rw [hne]; exact Nat.le_refl _) hn12
        rw [q, z1]
        exact ⟨by decide, by show (0 : Int) ≤ _; omega⟩
      · rw [ei (k := 46) (by omega) q]; exact I.ag e (by rw [← hne]; omega),
    fun k hk => by
      rw [q55] at hk
      have he := (I.eo hk).1
      obtain ⟨r1, r2, r3⟩ := I.re k hk
      rw [en 71 rfl, en 70 rfl, en 72 rfl, e20, s20.1, e27 (i := 0) (by decide), ei (k := 46) (by omega) (by omega)]
      exact ⟨by omega, r2, r3⟩,
    INV.t_tm (n _ rfl) (ag_of en rfl) I.tm,
    INV.t_tk (n _ rfl) (ag_of en rfl) I.tk,
    INV.t_zm (n _ rfl) (ag_of en rfl) I.zm,
    fun e h1 h2 => by
      rw [q20] at h1
      have := I.ze e (by rw [← hne]; omega) h2
      rw [en 52 rfl, en 53 rfl, en 54 rfl, en 55 rfl, en 56 rfl, en 57 rfl]
      exact this,
    fun e he => by
      rw [q20] at he
      by_cases q : e = ne
      · subst q
        have no : ∀ i, i < q_n g 55 → ¬ g 71 i = Int32.ofNat e := fun i hi w => by
          have h1 := (I.eo hi).1
          have h2 := I.e12 h1
          rw [(I.eo hi).2] at w
          have := n_inj (by omega) (by omega) w
          omega
        unfold q_si q_sh
        rw [q55, en 71 rfl, en 72 rfl, en 73 rfl, s_lst_no no, s_lst_no no]
        refine ⟨?_, ?_, ?_⟩
        · rw [hg2, g_en_v (by decide), g_en_v (by decide)]; rfl
        · rw [hg2, g_en_v (by decide)]; rfl
        · rw [hg2, g_en_v (by decide)]
          show g 27 20 = Int32.ofNat e
          rw [hne]
          exact (n_of I.cnt.2.2.1.1).symm
      · have := I.gs e (by rw [← hne]; omega)
        unfold q_si q_sh at this ⊢
        rw [q55, en 71 rfl, en 72 rfl, en 73 rfl, ei (k := 58) (by omega) q, ei (k := 200) (by omega) q, ei (k := 201) (by omega) q, ei (k := 204) (by omega) q]
        exact this,
    fun e he => by
      rw [q20] at he
      by_cases q : e = ne
      · subst q
        have no : ∀ i, i < q_n g 55 → ¬ g 71 i = Int32.ofNat e := fun i hi w => by
          have h1 := (I.eo hi).1
          have h2 := I.e12 h1
          rw [(I.eo hi).2] at w
          have := n_inj (by omega) (by omega) w
          omega
        have si : q_si g2 e = g 27 0 := by
          unfold q_si
          rw [q55, en 71 rfl, en 72 rfl, s_lst_no no, hg2, g_en_v (by decide)]; rfl
        have v46 : g2 46 e = Int32.ofNat m := by rw [hg2, g_en_v (by decide)]; rfl
        obtain ⟨z1, z2, z3, z4, z5, z6⟩ := I.ze e (by rw [hne]; exact Nat.le_refl _) hn12
        have v202 : g2 202 e = 0 := by rw [hg2, g_en_v (by decide)]; rfl
        have hl : lm (z_ix (g2 46 e)) - z_ix (q_si g2 e) = 0 := by
          rw [v46, n_ix (by omega), si, hlm]
          exact Nat.sub_self _
        rw [hl, v202, en 57 rfl, z6]
        show (0 : Int32) + 0 = 0
        decide
      · have := I.gc e (by rw [← hne]; omega)
        unfold q_si at this ⊢
        rw [q55, en 71 rfl, en 72 rfl, en 39 rfl, en 37 rfl, en 57 rfl, ei (k := 58) (by omega) q, ei (k := 202) (by omega) q, ei (k := 46) (by omega) q]
        exact this,
    INV.t_gg (n _ rfl) (ag_of en rfl) I.gg,
    INV.t_gk (n _ rfl) (ag_of en rfl) I.gk,
    INV.t_wl (n _ rfl) (ag_of en rfl) I.wl⟩
end EN
theorem T_engine {c : Nat} {g : zG} {h : zH} (X : AH c g h) (x1 x2 x3 x4 x5 x6 : Int32) : ST z_pI 102 [.ref 0, .int x1, .int x2, .int x3, .int x4, .int x5, .int x6] 168 [.ref 27, .int x1, .int x2, .int x3, .int x4, .int x5, .int x6] c g h := by
  have I := X.i
  have R := X.r
  rcases I.mi x1 with hx | ⟨m, hm, hm6, rfl⟩
  · exact ST.ro X (-1) (X_168 _ _ _ _ _ _ g (by rw [if_neg hx]; exact ⟨rfl, SE.refl g⟩)) (kv_of (X_102 _ _ _ _ _ _ h R.w (xa_N (K_mineN R hx) ⟨rfl, rfl⟩)))
  obtain ⟨a, ha⟩ := R.mine hm
  have kS := K_mineS R I hm ha
  have ta := R.w.mt R.f ha
  rcases (Decidable.em ((0 : Int32) ≤ x2 ∧ x2 ≤ (2 : Int32))).symm with c2 | c2
  · exact ST.ro X (-1) (X_168 _ _ _ _ _ _ g (by rw [if_pos (I.mv hm), if_neg c2]; exact ⟨rfl, SE.refl g⟩)) (kv_of (X_102 _ _ _ _ _ _ h R.w (xa_S kS ta (by rw [if_neg c2]; exact ⟨rfl, rfl⟩))))
  rcases (Decidable.em ((1 : Int32) ≤ x3 ∧ x3 ≤ (99 : Int32))).symm with c3 | c3
  · exact ST.ro X (-1) (X_168 _ _ _ _ _ _ g (by rw [if_pos (I.mv hm), if_pos c2, if_neg c3]; exact ⟨rfl, SE.refl g⟩)) (kv_of (X_102 _ _ _ _ _ _ h R.w (xa_S kS ta (by rw [if_pos c2, if_neg c3]; exact ⟨rfl, rfl⟩))))
  rcases (Decidable.em ((1 : Int32) ≤ x4 ∧ x4 ≤ (9999 : Int32))).symm with c4 | c4
  · exact ST.ro X (-1) (X_168 _ _ _ _ _ _ g (by rw [if_pos (I.mv hm), if_pos c2, if_pos c3, if_neg c4]; exact ⟨rfl, SE.refl g⟩)) (kv_of (X_102 _ _ _ _ _ _ h R.w (xa_S kS ta (by rw [if_pos c2, if_pos c3, if_neg c4]; exact ⟨rfl, rfl⟩))))
  rcases (Decidable.em ((1 : Int32) ≤ x5 ∧ x5 ≤ (9999 : Int32))).symm with c5 | c5
  · exact ST.ro X (-1) (X_168 _ _ _ _ _ _ g (by rw [if_pos (I.mv hm), if_pos c2, if_pos c3, if_pos c4, if_neg c5]; exact ⟨rfl, SE.refl g⟩)) (kv_of (X_102 _ _ _ _ _ _ h R.w (xa_S kS ta (by rw [if_pos c2, if_pos c3, if_pos c4, if_neg c5]; exact ⟨rfl, rfl⟩))))
  rcases (Decidable.em ((0 : Int32) ≤ x6 ∧ x6 ≤ (255 : Int32))).symm with c6 | c6
  · exact ST.ro X (-1) (X_168 _ _ _ _ _ _ g (by rw [if_pos (I.mv hm), if_pos c2, if_pos c3, if_pos c4, if_pos c5, if_neg c6]; exact ⟨rfl, SE.refl g⟩)) (kv_of (X_102 _ _ _ _ _ _ h R.w (xa_S kS ta (by rw [if_pos c2, if_pos c3, if_pos c4, if_pos c5, if_neg c6]; exact ⟨rfl, rfl⟩))))
  have h20 := I.cnt.2.2.1
  have p0 : ¬ g 27 20 < 0 := by rw [n_lt]; show ¬ _ < (0 : Int); omega
  by_cases c7 : g 27 20 = 12
  · have c7' : ¬ g 27 20 < 12 := by rw [c7]; decide
    exact ST.ro X (-3) (X_168 _ _ _ _ _ _ g (by rw [if_pos (I.mv hm), if_pos c2, if_pos c3, if_pos c4, if_pos c5, if_pos c6, if_pos c7]; exact ⟨rfl, SE.refl g⟩)) (kv_of (X_102 _ _ _ _ _ _ h R.w (xa_S kS ta (by rw [if_pos c2, if_pos c3, if_pos c4, if_pos c5, if_pos c6, R.n20, if_neg p0, if_neg c7']; exact ⟨rfl, rfl⟩))))
  have t12 : (12 : Int32).toInt = 12 := by decide
  have hn : (g 27 20).toInt < 12 := by
    have : ¬ (g 27 20).toInt = 12 := fun q => c7 (Int32.toInt_inj.mp (by rw [q, t12]))
    omega
  have c7' : g 27 20 < 12 := n_lt.mpr (by rw [t12]; exact hn)
  have bd : 0 ≤ (g 27 20).toInt ∧ (g 27 20).toInt < 12 := ⟨h20.1, hn⟩
  have b2 := n_bnd (a := 0) (b := 2) (by omega) (by omega) c2
  have b3 := n_bnd (a := 1) (b := 99) (by omega) (by omega) c3
  have b4 := n_bnd (a := 1) (b := 9999) (by omega) (by omega) c4
  have b5 := n_bnd (a := 1) (b := 9999) (by omega) (by omega) c5
  have b6 := n_bnd (a := 0) (b := 255) (by omega) (by omega) c6
  have hnx := R.w.ge
  have N := X.2.2.1
  have n0 : q_n (g_en g (q_n g 20) (Int32.ofNat m) x2 x3 x4 x5 x6) 0 = q_n g 0 := by unfold q_n; rw [g_en_27 (by decide)]
  refine ST.mk (g 27 20) (g_en g (q_n g 20) (Int32.ofNat m) x2 x3 x4 x5 x6) ?_ (by rw [n0]; exact (I.t_c (Nat.le_succ c)).eng hm rfl hn b2 b3 b4 b5 b6) ?_
  · refine X_168 _ _ _ _ _ _ g ?_
    rw [if_pos (I.mv hm), if_pos c2, if_pos c3, if_pos c4, if_pos c5, if_pos c6, if_neg c7]
    refine ⟨bd, fun g1 e1 => ⟨bd, fun g2 e2 => ⟨bd, fun g3 e3 => ⟨bd, fun g4 e4 => ⟨bd, fun g5 e5 => ⟨bd, fun g6 e6 => ⟨bd, fun g7 e7 g8 e8 => ⟨rfl, fun k hk => ?_⟩⟩⟩⟩⟩⟩⟩⟩
    have f0 : g6 27 0 = g 27 0 := by rw [e6, e5, e4, e3, e2, e1]; rfl
    have f20 : g7 27 20 = g 27 20 := by rw [e7, e6, e5, e4, e3, e2, e1]; rfl
    rw [f0] at e7
    rw [f20] at e8
    funext i
    rw [e8, e7, e6, e5, e4, e3, e2, e1]
    show z_up2 (z_up2 (z_up2 (z_up2 (z_up2 (z_up2 (z_up2 (z_up2 g 46 (q_n g 20) (Int32.ofNat m)) 47 (q_n g 20) x2) 48 (q_n g 20) x3) 49 (q_n g 20) x4) 50 (q_n g 20) x5) 51 (q_n g 20) x6) 58 (q_n g 20) (g 27 0)) 27 20 (g 27 20 + 1) k i = g_en g (q_n g 20) (Int32.ofNat m) x2 x3 x4 x5 x6 k i
    unfold g_en
    by_cases q : k = 27 ∧ i = 20
    · rw [if_pos q, q.1, q.2]; exact up_at
    · rw [if_neg q, up_nj q]
      by_cases w : i = q_n g 20
      · rw [if_pos w, w]
        by_cases k1 : k = 46
        · subst k1; rw [if_pos rfl, up_ne (by decide), up_ne (by decide), up_ne (by decide), up_ne (by decide), up_ne (by decide), up_ne (by decide)]; exact up_at
        rw [if_neg k1]
        by_cases k2 : k = 47
        · subst k2; rw [if_pos rfl, up_ne (by decide), up_ne (by decide), up_ne (by decide), up_ne (by decide), up_ne (by decide)]; exact up_at
        rw [if_neg k2]
        by_cases k3 : k = 48
        · subst k3; rw [if_pos rfl, up_ne (by decide), up_ne (by decide), up_ne (by decide), up_ne (by decide)]; exact up_at
        rw [if_neg k3]
        by_cases k4 : k = 49
        · subst k4; rw [if_pos rfl, up_ne (by decide), up_ne (by decide), up_ne (by decide)]; exact up_at
        rw [if_neg k4]
        by_cases k5 : k = 50
        · subst k5; rw [if_pos rfl, up_ne (by decide), up_ne (by decide)]; exact up_at
        rw [if_neg k5]
        by_cases k6 : k = 51
        · subst k6; rw [if_pos rfl, up_ne (by decide)]; exact up_at
        rw [if_neg k6]
        by_cases k7 : k = 58
        · subst k7; rw [if_pos rfl]; exact up_at
        rw [if_neg k7, if_neg (by omega), if_neg (by omega), if_neg (by omega), if_neg (by omega), up_ne k7, up_ne k6, up_ne k5, up_ne k4, up_ne k3, up_ne k2, up_ne k1]
      · rw [if_neg w, up_nj (by omega), up_nj (by omega), up_nj (by omega), up_nj (by omega), up_nj (by omega), up_nj (by omega), up_nj (by omega)]
  · refine X_102 _ _ _ _ _ _ h R.w (xa_S kS ta ?_)
    rw [if_pos c2, if_pos c3, if_pos c4, if_pos c5, if_pos c6, R.n20, R.n0, if_neg p0, if_pos c7']
    refine ⟨bd, ?_, ?_⟩
    · rw [Int32.add_sub_cancel]
    · have Wn : CW (z_nw h 3 0 16) := R.w.nw (by omega)
      obtain ⟨h1, hh1⟩ : ∃ h1, h1 = z_sI (z_sI (z_sI (z_sI (z_sI (z_sI (z_sI (z_sI (z_nw h 3 0 16) (z_nx h) 0 x2) (z_nx h) 1 x3) (z_nx h) 2 x4) (z_nx h) 3 x5) (z_nx h) 4 x6) (z_nx h) 5 (Int32.ofNat m)) (z_nx h) 6 (g 27 20)) (z_nx h) 13 (g 27 0) := ⟨_, rfl⟩
      have W1 : CW h1 := by rw [hh1]; exact Wn
      have x1 : Ex h h1 := by
        rw [hh1]
        exact ((((((((Ex.refl h).nw.sI (Nat.le_refl _)).sI (Nat.le_refl _)).sI (Nat.le_refl _)).sI (Nat.le_refl _)).sI (Nat.le_refl _)).sI (Nat.le_refl _)).sI (Nat.le_refl _)).sI (Nat.le_refl _)
      have R1 := R.ext W1 x1
      have ha1 : z_rv h1 1 m = some a := by rw [hh1]; show z_rv (z_nw h 3 0 16) 1 m = some a; rw [z_nw_rv (by omega)]; exact ha
      have tt : z_tg h1 (z_nx h) = 3 := by rw [hh1]; exact z_nw_at (h := h) (c := 3) (l := 0) (n := 16)
      have fr : ∀ i, i < q_n g 20 → ¬ z_rv h1 2 i = some (z_nx h) := fun i hi q => by
        rw [hh1] at q
        have q : z_rv (z_nw h 3 0 16) 2 i = some (z_nx h) := q
        rw [z_nw_rv (by omega)] at q
        have := R.w.lv _ _ _ q
        omega
      have R2 := R1.eng (b := z_nx h) (x2 := x2) (x3 := x3) (x4 := x4) (x5 := x5) (x6 := x6) I hm ha1 tt fr hn (by
        intro j hj
        have d : j = 0 ∨ j = 1 ∨ j = 2 ∨ j = 3 ∨ j = 4 ∨ j = 5 ∨ j = 6 ∨ j = 7 ∨ j = 8 ∨ j = 9 ∨ j = 10 ∨ j = 11 ∨ j = 12 ∨ j = 13 ∨ j = 14 ∨ j = 15 := by omega
        obtain ⟨z1, z2, z3, z4, z5, z6⟩ := I.ze (q_n g 20) (Nat.le_refl _) (by unfold q_n z_ix; omega)
        have nz : ∀ j, z_iv (z_nw h 3 0 16) (z_nx h) j = 0 := fun j => congrFun z_nw_ivat j
        rw [hh1]
        rcases d with r | r | r | r | r | r | r | r | r | r | r | r | r | r | r | r <;> subst r <;> rw [g_en_v (by decide)]
        · exact v_nj (by decide) (v_nj (by decide) (v_nj (by decide) (v_nj (by decide) (v_nj (by decide) (v_nj (by decide) (v_nj (by decide) v_at))))))
        · exact v_nj (by decide) (v_nj (by decide) (v_nj (by decide) (v_nj (by decide) (v_nj (by decide) (v_nj (by decide) v_at)))))
        · exact v_nj (by decide) (v_nj (by decide) (v_nj (by decide) (v_nj (by decide) (v_nj (by decide) v_at))))
        · exact v_nj (by decide) (v_nj (by decide) (v_nj (by decide) (v_nj (by decide) v_at)))
        · exact v_nj (by decide) (v_nj (by decide) (v_nj (by decide) v_at))
        · exact v_nj (by decide) (v_nj (by decide) v_at)
        · exact v_nj (by decide) v_at
        · exact v_nj (by decide) (v_nj (by decide) (v_nj (by decide) (v_nj (by decide) (v_nj (by decide) (v_nj (by decide) (v_nj (by decide) (v_nj (by decide) ((nz 7).trans z1.symm))))))))
        · exact v_nj (by decide) (v_nj (by decide) (v_nj (by decide) (v_nj (by decide) (v_nj (by decide) (v_nj (by decide) (v_nj (by decide) (v_nj (by decide) ((nz 8).trans z2.symm))))))))
        · exact v_nj (by decide) (v_nj (by decide) (v_nj (by decide) (v_nj (by decide) (v_nj (by decide) (v_nj (by decide) (v_nj (by decide) (v_nj (by decide) ((nz 9).trans z3.symm))))))))
        · exact v_nj (by decide) (v_nj (by decide) (v_nj (by decide) (v_nj (by decide) (v_nj (by decide) (v_nj (by decide) (v_nj (by decide) (v_nj (by decide) ((nz 10).trans z4.symm))))))))
        · exact v_nj (by decide) (v_nj (by decide) (v_nj (by decide) (v_nj (by decide) (v_nj (by decide) (v_nj (by decide) (v_nj (by decide) (v_nj (by decide) ((nz 11).trans z5.symm))))))))
        · exact v_nj (by decide) (v_nj (by decide) (v_nj (by decide) (v_nj (by decide) (v_nj (by decide) (v_nj (by decide) (v_nj (by decide) (v_nj (by decide) ((nz 12).trans z6.symm))))))))
        · exact v_at
        · exact v_nj (by decide) (v_nj (by decide) (v_nj (by decide) (v_nj (by decide) (v_nj (by decide) (v_nj (by decide) (v_nj (by decide) (v_nj (by decide) (nz 14))))))))
        · exact v_nj (by decide) (v_nj (by decide) (v_nj (by decide) (v_nj (by decide) (v_nj (by decide) (v_nj (by decide) (v_nj (by decide) (v_nj (by decide) (nz 15)))))))))
      rw [n0, ← hh1]
      refine ⟨R2, ?_, ?_⟩
      · have ga := R.f.ge ta (by omega)
        have k1 : Kq h h1 := by
          rw [hh1]
          exact ((((((((Kq.nw hnx (by omega)).trans (Kq.sI (by omega) (by omega))).trans (Kq.sI (by omega) (by omega))).trans (Kq.sI (by omega) (by omega))).trans (Kq.sI (by omega) (by omega))).trans (Kq.sI (by omega) (by omega))).trans (Kq.sI (by omega) (by omega))).trans (Kq.sI (by omega) (by omega))).trans (Kq.sI (by omega) (by omega))
        exact k1.trans ((Kq.sR (by omega)).trans ((Kq.sR (by omega)).trans (Kq.sI (by omega) (by omega))))
      · rw [hh1]
        exact ⟨by show z_nx h + 1 ≤ z_nx h + 4; omega, by show z_us h + 16 ≤ z_us h + 400; omega⟩
