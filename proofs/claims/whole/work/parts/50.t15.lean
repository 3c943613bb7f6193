/-! feed -/
def f_y (i : Nat) : Int32 := (56 : Int32) - (8 : Int32) * Int32.ofNat i
def f_b (x : Int64) (i : Nat) : Int32 := (x >>> ((f_y i).toInt64 &&& 63)).toInt32 &&& 255
def g_fb (g : zG) (x : Int64) (t n : Nat) : zG := fun k j => if k = 59 ∧ t ≤ j ∧ j < t + n then f_b x (j - t) else g k j
theorem f_y1 : ∀ i, i < 8 → f_y i + (-8 : Int32) = f_y (i + 1) ∧ ¬ f_y i < 0 := by decide
theorem f_hs : ∀ i, i < 8 → ((((f_y i).toInt64.toUInt64 &&& Int64.toUInt64 63)).toBitVec % 64#64).toNat = 56 - 8 * i := by decide
theorem f_ht : ∀ i, i < 8 → (((f_y i).toInt64 &&& 63).toBitVec.smod 64#64).toNat = 56 - 8 * i := by decide
theorem f_cb (x : Int64) {i : Nat} (hi : i < 8) : (((x.toUInt64 >>> ((f_y i).toInt64.toUInt64 &&& Int64.toUInt64 63)).toInt64).toInt32 &&& (255 : Int32)) = f_b x i := bv_sh x _ _ (56 - 8 * i) (by omega) (f_hs i hi) (f_ht i hi)
theorem g_fb_0 {g : zG} {x : Int64} {t : Nat} : g_fb g x t 0 = g := by
  funext k j
  exact if_neg (by omega)
theorem g_fb_s {g : zG} {x : Int64} {t n : Nat} : g_fb g x t (n + 1) = z_up2 (g_fb g x t n) 59 (t + n) (f_b x n) := by
  funext k j
  unfold g_fb z_up2
  by_cases q : k = 59 ∧ j = t + n
  · rw [if_pos q, if_pos (by omega), show j - t = n by omega]
  · rw [if_neg q]
    dsimp only
    by_cases w : k = 59 ∧ t ≤ j ∧ j < t + n
    · rw [if_pos w, if_pos (by omega)]
    · rw [if_neg w, if_neg (by omega)]
theorem g_fb_27 {g : zG} {x : Int64} {t n : Nat} : g_fb g x t n 27 = g 27 := by
  funext j
  exact if_neg (by omega)
theorem up_cm {g : zG} {k i k' i' : Nat} {v v' : Int32} (h : ¬ (k = k' ∧ i = i')) : z_up2 (z_up2 g k i v) k' i' v' = z_up2 (z_up2 g k' i' v') k i v := by
  funext x y
  unfold z_up2
  by_cases p : x = k' ∧ y = i'
  · by_cases q : x = k ∧ y = i
    · omega
    · rw [if_pos p, if_neg q, if_pos p]
  · by_cases q : x = k ∧ y = i
    · rw [if_neg p, if_pos q, if_pos q]
    · rw [if_neg p, if_neg q, if_neg q, if_neg p]
theorem up_self {g : zG} {k i : Nat} : z_up2 g k i (g k i) = g := by
  funext x y
  unfold z_up2
  by_cases q : x = k ∧ y = i
  · rw [if_pos q, q.1, q.2]
  · rw [if_neg q]
theorem INV.fb {c : Nat} {lm : Nat → Nat} {g : zG} (I : INV c lm g) {x : Int64} {t : Nat} : ∀ n, INV c lm (g_fb g x t n) := by
  intro n
  induction n with
  | zero => rw [g_fb_0]; exact I
  | succ n ih => rw [g_fb_s]; exact ih.u59 bv_255
theorem T_feed {c : Nat} {g : zG} {h : zH} (X : AH c g h) (x : Int64) : ST z_pI 110 [.ref 0, .long x] 183 [.ref 27, .long x] c g h := by
  have I := X.i
  have R := X.r
  have c35 := I.cnt.2.2.2.2.2
  have t6 : z_tg h 6 = 9 := R.f.at (by omega) rfl
  have p0 : ¬ g 27 35 < 0 := by rw [n_lt]; show ¬ _ < (0 : Int); omega
  obtain ⟨t, ht⟩ : ∃ t, t = q_n g 35 := ⟨_, rfl⟩
  have et : g 27 35 = Int32.ofNat t := by rw [ht]; exact (n_of c35.1).symm
  have ht200 : t ≤ 200 := by rw [ht]; unfold q_n z_ix; omega
  by_cases c1 : g 27 35 + 8 ≤ 200
  · have t192 : t + 8 ≤ 200 := by
      have t8 : (8 : Int32).toInt = 8 := by decide
      have := n_le.mp c1
      rw [et, i_add (by rw [n_i (by omega), t8]; omega) (by rw [n_i (by omega), t8]; omega), n_i (by omega), t8] at this
      have this : (t : Int) + 8 ≤ 200 := this
      omega
    have e8 : ∀ n, Int32.ofNat t + Int32.ofNat n = Int32.ofNat (t + n) := fun n => (Int32.ofNat_add t n).symm
    have n0 : q_n (z_up2 (g_fb g x t 8) 27 35 (Int32.ofNat (t + 8))) 0 = q_n g 0 := by unfold q_n; rw [up_nj (by omega), g_fb_27]
    have J : INV (c + 1) (fun _ => q_n g 0) (z_up2 (g_fb g x t 8) 27 35 (Int32.ofNat (t + 8))) := ((I.t_c (Nat.le_succ c)).fb 8).u2735 (by rw [n_i (by omega)]; omega)
    refine ST.mk (Int32.ofNat (t + 8)) (z_up2 (g_fb g x t 8) 27 35 (Int32.ofNat (t + 8))) ?_ (by rw [n0]; exact J) ?_
    · refine X_183 x g ?_
      rw [if_pos c1]
      have st : g = z_up2 (g_fb g x t 0) 27 35 (Int32.ofNat (t + 0)) := by rw [g_fb_0, show t + 0 = t by omega, ← et]; exact up_self.symm
      have lp := z_lp (N := 8) (G := fun i => MG z_pI 183 19 [some (.ref 27), some (.long x), none, some (.int (f_y i))] [] (z_up2 (g_fb g x t i) 27 35 (Int32.ofNat (t + i))) (fun v1 g1 => v1 = Int32.ofNat (t + 8) ∧ ∀ k, k < 200 → g1 k = (z_up2 (g_fb g x t 8) 27 35 (Int32.ofNat (t + 8))) k)) ?_ ?_
      · rw [← st] at lp
        exact lp
      · refine X_183_19 x _ _ ?_
        rw [if_pos (show f_y 8 < 0 from by decide), up_at]
        exact ⟨rfl, fun _ _ => rfl⟩
      · intro i hi w
        refine X_183_19 x _ _ ?_
        rw [if_neg (f_y1 i hi).2, (f_y1 i hi).1, up_at, n_ix (by omega), up_ne (k' := 27) (by decide), up_at]
        refine ⟨n_bd (N := 200) (by omega) (by omega), ?_⟩
        have e1 : z_up2 (z_up2 (z_up2 (g_fb g x t i) 27 35 (Int32.ofNat (t + i))) 59 (t + i) ((x >>> ((f_y i).toInt64 &&& 63)).toInt32 &&& (255 : Int32))) 27 35 (Int32.ofNat (t + i) + 1) = z_up2 (g_fb g x t (i + 1)) 27 35 (Int32.ofNat (t + (i + 1))) := by
          rw [up_cm (k := 27) (by omega), up_up, g_fb_s, n_s, show t + i + 1 = t + (i + 1) by omega]
          rfl
        rw [e1]
        exact w
    · refine X_110 x h R.w ?_
      refine X_92 6 x h R.w t6 ?_
      rw [R.n35, if_neg p0, if_pos c1]
      have N := X.2.2.1
      have lp := z_lp (N := 8) (G := fun i => ∀ h2, RC (fun _ => q_n g 0) (g_fb g x t i) h2 → Sh h h2 → Kq h h2 → KG z_pI 92 24 [some (.ref 6), some (.long x), none, some (.int (Int32.ofNat i))] [] h2 (fun r3 h1 => Sh h h1 ∧ (∀ m5 : Int32, m5 = (if r3 = 0 then (-3 : Int32) else (z_iv h1 6 1)) → m5 = Int32.ofNat (t + 8) ∧ RC (fun _ => q_n (z_up2 (g_fb g x t 8) 27 35 (Int32.ofNat (t + 8))) 0) (z_up2 (g_fb g x t 8) 27 35 (Int32.ofNat (t + 8))) h1 ∧ Kq h h1 ∧ Rm h h1))) ?_ ?_
      · exact lp h (by rw [g_fb_0]; exact R) (Sh.refl h) (Kq.refl h)
      · intro h2 R2 s2 k2
        have i6 : z_iv h2 6 1 = Int32.ofNat t := by rw [R2.n35, g_fb_27]; exact et
        refine X_92_24 6 x _ h2 R2.w (s2.tg t6) ?_
        rw [if_pos (show (8 : Int32) ≤ Int32.ofNat 8 from by decide), i6, show Int32.ofNat t + (8 : Int32) = Int32.ofNat (t + 8) from e8 8]
        refine ⟨s2.trans Sh.sI, fun m5 e5 => ?_⟩
        rw [if_neg (by decide)] at e5
        refine ⟨e5.trans v_at, ?_, k2.trans (Kq.sI (by omega) (by omega)), Rm.sh (s2.trans Sh.sI)⟩
        rw [n0]
        exact R2.up (k := 27) (i := 35) (c := 6) (j := 1) (Or.inr (Or.inr (Or.inl ⟨rfl, rfl, rfl⟩))) (by omega)
      · intro i hi w h2 R2 s2 k2
        have i6 : z_iv h2 6 1 = Int32.ofNat t := by rw [R2.n35, g_fb_27]; exact et
        refine X_92_24 6 x _ h2 R2.w (s2.tg t6) ?_
        rw [if_neg (show ¬ (8 : Int32) ≤ _ from lit_le (a := 8) (by omega) (by omega) hi), i6, e8, n_ix (by omega), n_s]
        refine ⟨n_bd (N := 200) (by omega) (by omega), ?_⟩
        have eb : (((x.toUInt64 >>> (((56 : Int32) - ((8 : Int32) * Int32.ofNat i)).toInt64.toUInt64 &&& Int64.toUInt64 63)).toInt64).toInt32 &&& (255 : Int32)) = f_b x i := f_cb x hi
        rw [eb]
        refine w _ ?_ (s2.trans Sh.sI) (k2.trans (Kq.sI (by omega) (by omega)))
        rw [g_fb_s]
        exact R2.up (k := 59) (i := t + i) (c := 7) (j := t + i) ⟨rfl, rfl, by omega⟩ (by omega)
  · refine ST.ro X (-3) (X_183 x g (by rw [if_neg c1]; exact ⟨rfl, SE.refl g⟩)) (kv_of (X_110 x h R.w (X_92 6 x h R.w t6 ?_)))
    rw [R.n35, if_neg p0, if_neg c1]
    exact ⟨Sh.refl h, fun m5 e5 => ⟨by rw [e5, if_pos rfl], rfl⟩⟩
/-! new blocks of cells -/
theorem CW.grow {h h2 : zH} (W : CW h) (d : Nat) (hn : z_nx h2 = z_nx h + d) (old : ∀ a, ¬ (z_nx h ≤ a ∧ a < z_nx h + d) → z_tg h2 a = z_tg h a ∧ z_ln h2 a = z_ln h a ∧ z_rv h2 a = z_rv h a)
    (n1 : ∀ i j b, i < d → z_rv h2 (z_nx h + i) j = some b → b < z_nx h + d ∧ z_tg h2 b = c_ty (z_tg h2 (z_nx h + i)) j)
    (n2 : ∀ i, i < d → ∀ q ∈ c_rel, z_tg h2 (z_nx h + i) = q.1 → z_rv h2 (z_nx h + i) q.2.1 = some (z_nx h + i + q.2.2.1) ∧ z_ln h2 (z_nx h + i + q.2.2.1) = q.2.2.2)
    (n3 : ∀ i, i < d → ∀ q ∈ c_abs, ¬ z_tg h2 (z_nx h + i) = q.1)
    (n4 : ∀ i, i < d → z_tg h2 (z_nx h + i) = 8 → z_rv h2 (z_nx h + i) 1 = some (z_nx h + i + 1) ∧ z_ln h2 (z_nx h + i + 1) ≤ 48) : CW h2 := by
  have sp : ∀ a, (∃ i, i < d ∧ a = z_nx h + i) ∨ ¬ (z_nx h ≤ a ∧ a < z_nx h + d) := fun a => by
    by_cases q : z_nx h ≤ a ∧ a < z_nx h + d
    · exact Or.inl ⟨a - z_nx h, by omega, by omega⟩
    · exact Or.inr q
  refine ⟨fun a j b ha hb => ?_, fun q hq a ha => ?_, fun q hq a ha => ?_, fun a ha => ?_, fun a ha => ?_, ?_, ?_, fun a j b hb => ?_⟩
  · rcases sp a with ⟨i, hi, rfl⟩ | q
    · exact (n1 i j b hi hb).2
    · obtain ⟨e1, e2, e3⟩ := old a q
      rw [e3] at hb
      rw [e1] at ha ⊢
      rw [(old b (by have := W.lv a j b hb; omega)).1]
      exact W.ty a j b ha hb
  · rcases sp a with ⟨i, hi, rfl⟩ | w
    · exact n2 i hi q hq ha
    · obtain ⟨e1, e2, e3⟩ := old a w
      rw [e1] at ha
      obtain ⟨r1, r2⟩ := W.re q hq a ha
      rw [e3, (old _ (by have := W.lv a _ _ r1; omega)).2.1]
      exact ⟨r1, r2⟩
  · rcases sp a with ⟨i, hi, rfl⟩ | w
    · exact absurd ha (n3 i hi q hq)
    · obtain ⟨e1, e2, e3⟩ := old a w
      rw [e1] at ha
      obtain ⟨r1, r2⟩ := W.ab q hq a ha
      rw [e3, (old _ (by have := W.lv a _ _ r1; omega)).2.1]
      exact ⟨r1, r2⟩
  · rcases sp a with ⟨i, hi, rfl⟩ | w
    · exact n4 i hi ha
    · obtain ⟨e1, e2, e3⟩ := old a w
      rw [e1] at ha
      obtain ⟨r1, r2⟩ := W.sh a ha
      rw [e3, (old _ (by have := W.lv a _ _ r1; omega)).2.1]
      exact ⟨r1, r2⟩
  · rcases sp a with ⟨i, hi, rfl⟩ | w
    · omega
    · rw [(old a w).1] at ha
      have := W.lt a ha
      omega
  · have := W.ge
    rw [(old 0 (by omega)).1]
    exact W.t0
  · have := W.ge
    omega
  · rcases sp a with ⟨i, hi, rfl⟩ | w
    · have := (n1 i j b hi hb).1
      omega
    · rw [(old a w).2.2] at hb
      have := W.lv a j b hb
      omega
