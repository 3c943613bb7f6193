theorem bk_loop {c : Nat} {g : zG} {h : zH} (X : AH c g h) {m a n s F : Nat} {f : Int32} (hm : m < q_n g 1) (ha : z_rv h 1 m = some a) (hn : n < 4) (hs : z_rv h 4 n = some s) (s1 : ¬ g 86 n = -4) (s3 : z_ln h (s + 1) = z_ix (g 87 n)) (hF : F = z_ix f) :
    ∀ k i : Nat, i + k = 12 → (∀ j : Nat, j < i → (0 ≤ f.toInt + (j : Int) ∧ f.toInt + (j : Int) ≤ (g 87 n).toInt - 1) ∧ (0 ≤ (g 88 (48 * n + F + j)).toInt ∧ (g 88 (48 * n + F + j)).toInt ≤ 999)) →
    ∃ v g2, MG z_pI 230 44 [some (.ref 27), some (.int (Int32.ofNat m)), some (.int (Int32.ofNat n)), some (.int (g 86 n)), some (.int f), some (.int (0 : Int32)), some (.int (12 : Int32)), some (.int (Int32.ofNat i))] [] g (fun v1 g1 => v1 = v ∧ g1 = g2) ∧ INV (c + 1) (fun _ => q_n g 0) g2 ∧ q_n g2 0 = q_n g 0 ∧
      ∀ h2 u, RC (fun _ => q_n g 0) g h2 → Sh h h2 → Kq h h2 → (∀ j, j < i → z_iv h2 5 j = g 88 (48 * n + F + j)) → KG z_pI 159 6 [some (.ref 0), some (.ref s), some (.int f), some (.ref a), some (.int (Int32.ofNat i)), some (.int (Int32.ofNat i)), u] [] h2 (fun v1 h1 => v1 = v ∧ RC (fun _ => q_n g 0) g2 h1 ∧ Sh h h1 ∧ Kq h h1) := by
  have I := X.i
  have lb := I.sh.at (k := 87) (i := n) (a := 0) (b := 48) (by decide) hn
  have bn := n_bd (i := n) (N := 4) hn (by omega)
  have ixn : z_ix (Int32.ofNat n) = n := n_ix (by omega)
  have z0 : z_ix (0 : Int32) = 0 := by decide
  intro k
  induction k with
  | zero =>
    intro i hi pw
    have hi : i = 12 := by omega
    subst hi
    have p0 := (pw 0 (by omega)).1
    have p11 := (pw 11 (by omega)).1
    obtain ⟨e1, e2, e3⟩ := bk_end X (m := m) (a := a) (n := n) (s := s) (F := F) (f := f) (la := g 86 n) (tv := 0) hm ha hn 12 (by omega) (fun _ => ⟨by rw [hF]; exact (n_of (by omega)).symm, by rw [hF]; unfold z_ix; omega⟩) (fun j hj => (pw j hj).2)
    refine ⟨_, _, X_230_44 _ _ _ _ _ _ _ g (by rw [if_pos (show (12 : Int32) ≤ Int32.ofNat 12 from by decide)]; exact e1), e2, by unfold q_n; rw [up_nj (by omega), g_bk_ne (by decide)], fun h2 u R2 s2 k2 hf => ?_⟩
    have ts : z_tg h2 s = 8 := R2.w.st R2.f (s2.rv hs)
    have ta : z_tg h2 a = 4 := R2.w.mt R2.f (s2.rv ha)
    have ga := R2.f.ge ta (by omega)
    refine X_159_6 s _ a _ _ u h2 R2.w ts ta ?_
    rw [if_pos (show (12 : Int32) ≤ Int32.ofNat 12 from by decide), z0, n_ix (by omega)]
    refine ⟨⟨by omega, by decide⟩, fun m3 em3 => ?_⟩
    rw [if_pos (show (12 : Int32) ≤ Int32.ofNat 12 from by decide)] at em3
    rw [em3]
    exact ⟨rfl, e3 h2 R2 s2 k2 hf⟩
  | succ k ih =>
    intro i hi pw
    have i12 : i < 12 := by omega
    have nle : ¬ (12 : Int32) ≤ Int32.ofNat i := n12 i12
    obtain ⟨PC, PR⟩ := bk_P (f := f) (l := g 87 n) i12 lb
    by_cases P : 0 ≤ f.toInt + i ∧ f.toInt + i ≤ (g 87 n).toInt - 1
    · have fF : f = Int32.ofNat F := by
        have : 0 ≤ f.toInt := by
          by_cases z : i = 0
          · subst z; omega
          · have := (pw 0 (by omega)).1; omega
        rw [hF]; exact (n_of this).symm
      have fb : f.toInt = F := by rw [fF, n_i (by have := Int32.toInt_lt f; rw [hF]; unfold z_ix; omega)]
      have e1 : (48 : Int32) * Int32.ofNat n + f + Int32.ofNat i = Int32.ofNat (48 * n + F + i) := by rw [fF, show (48 : Int32) * Int32.ofNat n + Int32.ofNat F = Int32.ofNat (48 * n + F) from n_ma (a := 48), ← Int32.ofNat_add]
      have b192 := n_bd (i := 48 * n + F + i) (N := 192) (by omega) (by omega)
      have ef : f + Int32.ofNat i = Int32.ofNat (F + i) := by rw [fF, ← Int32.ofNat_add]
      obtain ⟨w, hw⟩ : ∃ w, w = g 88 (48 * n + F + i) := ⟨_, rfl⟩
      have wt : ((0 : Int32) ≤ w ∧ w ≤ (999 : Int32)) ↔ (0 ≤ w.toInt ∧ w.toInt ≤ 999) := by
        rw [n_le, n_le]
        exact Iff.rfl
      have refd : ∀ {Q : Int32 → zG → Prop}, (if (0 : Int32) ≤ w ∧ w ≤ (999 : Int32) then (MG z_pI 230 44 [some (.ref 27), some (.int (Int32.ofNat m)), some (.int (Int32.ofNat n)), some (.int (g 86 n)), some (.int f), some (.int (0 : Int32)), some (.int (12 : Int32)), some (.int (Int32.ofNat (i + 1)))] [] g Q) else (Q ((-20 : Int32) - Int32.ofNat i) g)) → MG z_pI 230 44 [some (.ref 27), some (.int (Int32.ofNat m)), some (.int (Int32.ofNat n)), some (.int (g 86 n)), some (.int f), some (.int (0 : Int32)), some (.int (12 : Int32)), some (.int (Int32.ofNat i))] [] g Q := by
        intro Q q
        refine X_230_44 _ _ _ _ _ _ _ g ?_
        rw [if_neg nle, if_pos rfl, ixn, if_neg s1, if_pos rfl]
        refine ⟨bn, bn, bn, fun m6 e6 => ?_⟩
        rw [if_pos (PR.mpr P)] at e6
        rw [e6, if_pos (by decide), e1, n_ix (by omega), ← hw, n_s]
        exact ⟨b192, q⟩
      have clsd : ∀ {Q : Int32 → zH → Prop} h2 u, RC (fun _ => q_n g 0) g h2 → Sh h h2 → (if (0 : Int32) ≤ w ∧ w ≤ (999 : Int32) then (∀ u2, KG z_pI 159 6 [some (.ref 0), some (.ref s), some (.int f), some (.ref a), some (.int (Int32.ofNat (i + 1))), some (.int (Int32.ofNat (i + 1))), u2] [] (z_sI h2 5 i w) Q) else Q ((-20 : Int32) - Int32.ofNat i) h2) → KG z_pI 159 6 [some (.ref 0), some (.ref s), some (.int f), some (.ref a), some (.int (Int32.ofNat i)), some (.int (Int32.ofNat i)), u] [] h2 Q := by
        intro Q h2 u R2 s2 q
        have hs2 : z_rv h2 4 n = some s := s2.rv hs
        have ts : z_tg h2 s = 8 := R2.w.st R2.f hs2
        have ta : z_tg h2 a = 4 := R2.w.mt R2.f (s2.rv ha)
        have el : Int32.ofNat (z_ln h2 (s + 1)) = g 87 n := by rw [s2.ln s3]; exact n_of lb.1
        refine X_159_6 s _ a _ _ u h2 R2.w ts ta ?_
        rw [if_neg nle, el, if_pos (PC.mpr P), if_pos (PC.mpr P), ef, n_ix (by omega), n_ix (by omega), R2.f88 hn hs2 (by omega), show 48 * n + (F + i) = 48 * n + F + i by omega, ← hw, n_s]
        refine ⟨fun _ => ?_, ?_⟩
        · rw [s2.ln s3, n_i (by omega), n_at lb.1]
          omega
        · refine z_ifd (fun z => ?_) (fun z => ?_)
          · rw [if_pos z] at q
            exact ⟨n_bd (N := 12) i12 (by omega), q _⟩
          · rw [if_neg z] at q
            exact q
      by_cases Wt : (0 : Int32) ≤ w ∧ w ≤ (999 : Int32)
      · obtain ⟨v, g2, M, J, q0, K⟩ := ih (i + 1) (by omega) (by
          intro j hj
          by_cases z : j = i
          · subst z; exact ⟨P, by rw [← hw]; exact wt.mp Wt⟩
          · exact pw j (by omega))
        refine ⟨v, g2, refd (by rw [if_pos Wt]; exact M), J, q0, fun h2 u R2 s2 k2 hf => clsd h2 u R2 s2 ?_⟩
        rw [if_pos Wt]
        intro u2
        refine K _ u2 (R2.scr (Or.inl rfl)) (s2.trans Sh.sI) (k2.trans (Kq.sI (by omega) (by omega))) (fun j hj => ?_)
        by_cases z : j = i
        · subst z; rw [← hw]; exact v_at
        · exact v_nj (by omega) (hf j (by omega))
      · refine ⟨(-20 : Int32) - Int32.ofNat i, g, refd (by rw [if_neg Wt]; exact ⟨rfl, rfl⟩), I.t_c (Nat.le_succ c), rfl, fun h2 u R2 s2 k2 hf => clsd h2 u R2 s2 ?_⟩
        rw [if_neg Wt]
        exact ⟨rfl, R2, s2, k2⟩
    · obtain ⟨e1, e2, e3⟩ := bk_end X (m := m) (a := a) (n := n) (s := s) (F := F) (f := f) (la := g 86 n) (tv := 2) hm ha hn i (by omega) (fun h0 => by
        have p0 := (pw 0 h0).1
        have pl := (pw (i - 1) (by omega)).1
        exact ⟨by rw [hF]; exact (n_of (by omega)).symm, by rw [hF]; unfold z_ix; omega⟩) (fun j hj => (pw j hj).2)
      refine ⟨Int32.ofNat i, z_up2 (g_bk g m (48 * n + F) i) 27 76 2, X_230_44 _ _ _ _ _ _ _ g ?_, e2, by unfold q_n; rw [up_nj (by omega), g_bk_ne (by decide)], fun h2 u R2 s2 k2 hf => ?_⟩
      · rw [if_neg nle, if_pos rfl, ixn, if_neg s1, if_pos rfl]
        refine ⟨bn, bn, bn, fun m6 e6 => ?_⟩
        rw [if_neg (fun z => P (PR.mp z))] at e6
        rw [e6, if_neg (by decide), n_s]
        refine X_230_44 _ _ _ _ _ _ _ g ?_
        refine z_ifd (fun _ => e1) (fun _ => ?_)
        rw [if_neg (show ¬ (2 : Int32) = 0 by decide)]
        exact e1
      · have hs2 : z_rv h2 4 n = some s := s2.rv hs
        have ts : z_tg h2 s = 8 := R2.w.st R2.f hs2
        have ta : z_tg h2 a = 4 := R2.w.mt R2.f (s2.rv ha)
        have ga := R2.f.ge ta (by omega)
        have el : Int32.ofNat (z_ln h2 (s + 1)) = g 87 n := by rw [s2.ln s3]; exact n_of lb.1
        refine X_159_6 s _ a _ _ u h2 R2.w ts ta ?_
        rw [if_neg nle, el, if_neg (fun z => P (PC.mp z)), z0, n_ix (by omega)]
        have zz : (0 : Int32).toInt = 0 := by decide
        refine ⟨⟨by omega, by rw [zz, n_i (by omega)]; omega⟩, fun m7 em7 => ?_⟩
        rw [if_neg nle] at em7
        rw [em7]
        exact ⟨rfl, e3 h2 R2 s2 k2 hf⟩
theorem T_book {c : Nat} {g : zG} {h : zH} (X : AH c g h) (x1 x2 x3 x4 : Int32) : ST z_pI 132 [.ref 0, .int x1, .int x2, .int x3, .int x4] 230 [.ref 27, .int x1, .int x2, .int x3, .int x4] c g h := by
  have I := X.i
  have R := X.r
  rcases I.mi x1 with hx | ⟨m, hm, hm6, rfl⟩
  · exact ST.ro X (-1) (X_230 _ _ _ _ g (by rw [if_neg hx]; exact ⟨rfl, SE.refl g⟩)) (kv_of (X_132 _ _ _ _ h R.w (xa_N (K_mineN R hx) ⟨rfl, rfl⟩)))
  obtain ⟨a, ha⟩ := R.mine hm
  have kS := K_mineS R I hm ha
  have ta := R.w.mt R.f ha
  rcases (Decidable.em ((0 : Int32) ≤ x2 ∧ x2 ≤ (3 : Int32))).symm with c2 | c2
  · exact ST.ro X (-1) (X_230 _ _ _ _ g (by rw [if_pos (I.mv hm), if_neg c2]; exact ⟨rfl, SE.refl g⟩)) (kv_of (X_132 _ _ _ _ h R.w (xa_S kS ta (by rw [if_neg c2]; exact ⟨rfl, rfl⟩))))
  rcases (Decidable.em ((0 : Int32) ≤ x3 ∧ x3 ≤ (2 : Int32))).symm with c3 | c3
  · exact ST.ro X (-1) (X_230 _ _ _ _ g (by rw [if_pos (I.mv hm), if_pos c2, if_neg c3]; exact ⟨rfl, SE.refl g⟩)) (kv_of (X_132 _ _ _ _ h R.w (xa_S kS ta (by rw [if_pos c2, if_neg c3]; exact ⟨rfl, rfl⟩))))
  obtain ⟨n, hn, rfl⟩ := n_lit 3 (by omega) c2
  have bn := n_bd (i := n) (N := 4) (by omega) (by omega)
  have ixn : z_ix (Int32.ofNat n) = n := n_ix (by omega)
  have L0 : Loc (q_n g 1) (q_n g 20) (q_n g 55) (q_n g 45) (fun _ => q_n g 0) h 27 76 0 15 := Or.inl ⟨rfl, Or.inr (Or.inr (Or.inr (Or.inr ⟨rfl, rfl⟩)))⟩
  have n12' : ¬ (12 : Int32) ≤ (0 : Int32) := by decide
  rcases R.sheet (n := n) (by omega) with ⟨s1, s2⟩ | ⟨s1, s, s2, s3⟩
  · refine ST.up X 0 (w := 1) L0 (by omega) ((I.t_c (Nat.le_succ c)).uf (by omega)) ?_ ?_
    · refine X_230 _ _ _ _ g ?_
      rw [if_pos (I.mv hm), if_pos c2, if_pos c3]
      refine X_230_44 _ _ _ _ _ _ _ g ?_
      rw [if_neg n12', if_pos rfl, ixn, if_pos s1, if_neg (by decide)]
      refine ⟨bn, X_230_44 _ _ _ _ _ _ _ g ?_⟩
      rw [if_neg (by decide), if_neg (by decide)]
      refine X_230_168 _ _ _ _ _ _ _ g ?_
      rw [if_pos (by decide)]
      exact ⟨rfl, rfl⟩
    · refine X_132 _ _ _ _ h R.w (xa_S kS ta ?_)
      rw [if_pos c2, if_pos c3, ixn]
      exact ⟨bn, o_N s2 ⟨rfl, rfl⟩⟩
  · by_cases c4 : g 86 n = x3
    · subst c4
      obtain ⟨v, g2, M, J, q0, K⟩ := bk_loop X (f := x4) (F := z_ix x4) hm ha (by omega) s2 s1 s3 rfl 12 0 (by omega) (fun j hj => by omega)
      refine ⟨v, g2, ?_, by rw [q0]; exact J, ?_⟩
      · refine X_230 _ _ _ _ g ?_
        rw [if_pos (I.mv hm), if_pos c2, if_pos c3]
        exact M.mono fun v1 g1 q => ⟨q.1, SE.of q.2⟩
      · refine X_132 _ _ _ _ h R.w (xa_S kS ta ?_)
        rw [if_pos c2, if_pos c3, ixn]
        refine ⟨bn, o_S s2 ?_⟩
        rw [if_pos (R.f86 (by omega) s2)]
        refine X_159 s x4 a h R.w (R.w.st R.f s2) ta ?_
        refine (K h none R (Sh.refl h) (Kq.refl h) (fun j hj => by omega)).mono fun v1 h1 q => ⟨q.2.2.1, q.1, by rw [q0]; exact q.2.1, q.2.2.2, Rm.sh q.2.2.1⟩
    · refine ST.up X 0 (w := 3) L0 (by omega) ((I.t_c (Nat.le_succ c)).uf (by omega)) ?_ ?_
      · refine X_230 _ _ _ _ g ?_
        rw [if_pos (I.mv hm), if_pos c2, if_pos c3]
        refine X_230_44 _ _ _ _ _ _ _ g ?_
        rw [if_neg n12', if_pos rfl, ixn, if_neg s1, if_neg c4, if_neg (by decide)]
        refine ⟨bn, bn, X_230_44 _ _ _ _ _ _ _ g ?_⟩
        rw [if_neg (by decide), if_neg (by decide)]
        refine X_230_168 _ _ _ _ _ _ _ g ?_
        rw [if_pos (by decide)]
        exact ⟨rfl, rfl⟩
      · refine X_132 _ _ _ _ h R.w (xa_S kS ta ?_)
        rw [if_pos c2, if_pos c3, ixn]
        refine ⟨bn, o_S s2 ?_⟩
        rw [R.f86 (by omega) s2, if_neg c4]
        exact ⟨rfl, rfl⟩
