section TE
variable {r : Nat → Int32} {t B : Nat} {h0 h h2 : zH} {n : Nat} {R : Nat → Nat → Int32}
theorem Tok.pe {p : Nat} (K : Tok r t p h) : x_e r t p ≤ t := (e_b K.2.2.2.2.1).2
theorem K_tk (b : Bk r t B h0) (F : Fk B h0 h) (z0 : z_iv h 8 0 = 0) (D : Dr B n R h) {p : Nat} (hp : p ≤ t) (e6 : z_iv h 8 6 = Int32.ofNat p) (K : xO) {Q : Int32 → zH → Prop} (q9 : e_tk r t p K = .inl (1, x_ts r t p) → ∀ h', Sh h h' → Fk B h0 h' → z_iv h' 8 0 = 1 → z_iv h' 8 1 = Int32.ofNat (x_ts r t p) → Q 0 h') (q : e_tk r t p K = K → ∀ h', Sh h h' → Fk B h0 h' → z_iv h' 8 0 = 0 → Tok r t p h' → Dr B n R h' → Q 1 h') : KK z_pI 82 [.ref 8] h Q := by
  refine K_82 (F.tp b) hp e6 (fun z h' s k0 k1 => q9 (if_pos z) h' s.1 (F.s8 s) k0 k1) (fun z h' s T k0 => q (if_neg z) h' s.1 (F.s8 s) (k0.trans z0) T (D.s8 s b.2.2.2.1))
theorem K_nm (T : Tp r t h) {p : Nat} (A : Tok r t p h) {lo hi : Int32} (K : xO) {Q : Int32 → zH → Prop} (q0 : ∀ c h', e_nm r t p lo hi K = .inl (c, x_ts r t p) → S8 h h' → z_iv h' 8 0 = c → z_iv h' 8 1 = Int32.ofNat (x_ts r t p) → Q 0 h') (q1 : e_nm r t p lo hi K = K → x_k r t p = 2 → (lo ≤ x_v r t p ∧ x_v r t p ≤ hi) → Q 1 h) : KK z_pI 76 [.ref 8, .int lo, .int hi] h Q := by
  refine K_76 T A (fun z w => q1 ?_ z w) (fun c h' e z s k0 k1 => q0 c h' ?_ s k0 k1)
  · unfold e_nm
    rw [if_pos z, if_pos w]
  · unfold e_nm at e ⊢
    by_cases y : x_k r t p = 2
    · rw [if_pos y, if_neg (fun w => z ⟨y, w⟩)] at e
      rw [if_pos y, if_neg (fun w => z ⟨y, w⟩)]
      exact e
    · rw [if_neg y] at e
      rw [if_neg y]
      exact e
theorem k1_lt {p : Nat} (z : x_k r t p = 1) : x_ts r t p < t := by
  apply Decidable.byContradiction
  intro w
  unfold x_k x_kk at z
  rw [if_pos (by omega)] at z
  exact absurd z (by decide)
theorem K_75 (b : Bk r t B h0) (F : Fk B h0 h) {p m : Nat} (hm : m < 5) (A : Tok r t p h) (K : xO) {Q : Int32 → zH → Prop} (q0 : ∀ c h', e_ky r t p (Int32.ofNat m) K = .inl (c, x_ts r t p) → S8 h h' → z_iv h' 8 0 = c → z_iv h' 8 1 = Int32.ofNat (x_ts r t p) → Q 0 h') (q1 : e_ky r t p (Int32.ofNat m) K = K → (0 ≤ (x_ky r t p (Int32.ofNat m)).toInt ∧ (x_ky r t p (Int32.ofNat m)).toInt ≤ 7) → ∀ h', S8 h h' → z_iv h' 8 0 = z_iv h 8 0 → Tok r t p h' → z_iv h' 8 7 = x_ky r t p (Int32.ofNat m) → Q 1 h') : KK z_pI 75 [.ref 8, .int (Int32.ofNat m)] h Q := by
  have T := F.tp b
  have A' := A
  obtain ⟨k4, k5, k6, k7, hp, k9⟩ := A
  have t2 := T.2.2.2.2.2
  have ts := ts_b (r := r) hp
  have eb := e_b (r := r) hp
  have t97 : (97 : Int32).toInt = 97 := by decide
  have t104 : (104 : Int32).toInt = 104 := by decide
  have t7 : (7 : Int32).toInt = 7 := by decide
  have t5 : (5 : Int32).toInt = 5 := by decide
  have t0 : (0 : Int32).toInt = 0 := by decide
  refine X_75 8 _ h T.1 T.2.2.1 ?_
  by_cases w4 : Int32.ofNat m = 4
  · unfold e_ky at q0 q1
    unfold x_ky at q1
    rw [if_pos w4] at q0 q1
    rw [if_pos w4] at q1
    rw [if_pos w4, k4, k5, k6]
    refine ⟨_, K_93 T ts.2, ?_⟩
    have bad : ¬ (x_k r t p = 1 ∧ x_e r t p = x_ts r t p + 1 ∧ (97 : Int32) ≤ r (x_ts r t p) ∧ r (x_ts r t p) ≤ (104 : Int32)) → Q 0 (z_sI (z_sI h 8 0 (2 : Int32)) 8 1 (Int32.ofNat (x_ts r t p))) := by
      intro z
      refine q0 2 _ (by rw [if_neg z]) ((S8.refl h).sI.sI) ?_ v_at
      rw [v_no (by omega), v_at]
    by_cases z1 : x_k r t p = 1
    · rw [if_pos z1]
      have lt := k1_lt z1
      have rb := b.2.2.2.2 _ lt
      have sb : Int32.ofNat (x_e r t p) - Int32.ofNat (x_ts r t p) = Int32.ofNat (x_e r t p - x_ts r t p) := by
        apply Int32.toInt_inj.mp
        rw [i_sub (by rw [n_i (by omega), n_i (by omega)]; omega) (by rw [n_i (by omega), n_i (by omega)]; omega), n_i (by omega), n_i (by omega), n_i (by omega)]
        omega
      rw [sb, if_pos lt]
      by_cases z2 : x_e r t p = x_ts r t p + 1
      · rw [if_pos (show Int32.ofNat (x_e r t p - x_ts r t p) = 1 by rw [z2, show x_ts r t p + 1 - x_ts r t p = 1 by omega]; rfl)]
        have sr : (r (x_ts r t p) - 97).toInt = (r (x_ts r t p)).toInt - 97 := by rw [i_sub (by omega) (by omega), t97]
        by_cases z3 : (97 : Int32) ≤ r (x_ts r t p) ∧ r (x_ts r t p) ≤ (104 : Int32)
        · have y1 := n_le.mp z3.1
          have y2 := n_le.mp z3.2
          rw [if_pos ⟨n_le.mpr (by omega), n_le.mpr (by omega)⟩]
          refine q1 (if_pos ⟨z1, z2, z3⟩) (by omega) _ ((S8.refl h).sI) ?_ ⟨?_, ?_, ?_, fun z => ?_, hp, k9⟩ v_at
          · rw [v_no (by omega)]
          · rw [v_no (by omega)]; exact k4
          · rw [v_no (by omega)]; exact k5
          · rw [v_no (by omega)]; exact k6
          · rw [z1] at z; exact absurd z (by decide)
        · rw [if_neg (fun z => z3 ⟨n_le.mpr (by have := n_le.mp z.1; omega), n_le.mpr (by have := n_le.mp z.2; omega)⟩)]
          exact bad (fun z => z3 z.2.2)
      · rw [if_neg (show ¬ Int32.ofNat (x_e r t p - x_ts r t p) = 1 from fun z => z2 (by have := n_inj (b := 1) (by omega) (by omega) z; omega))]
        exact bad (fun z => z2 z.2.1)
    · rw [if_neg z1]
      exact bad (fun z => z1 z.1)
  · unfold e_ky at q0 q1
    unfold x_ky at q1
    rw [if_neg w4] at q0 q1
    rw [if_neg w4] at q1
    rw [if_neg w4]
    refine K_nm T A' K (fun c h' e s k0 k1 => ⟨s.1, Or.inl rfl, q0 c h' e s k0 k1⟩) (fun e z w => ⟨Sh.refl h, Or.inr rfl, ?_⟩)
    have y1 := n_le.mp w.1
    have y2 := n_le.mp w.2
    exact q1 e (by omega) h (S8.refl h) rfl A' (k7 z)
/-- a line is added -/
theorem Dr.add (b : Bk r t B h0) (F : Fk B h0 h) (D : Dr B n R h) (hn : n < 16) {w o f v : Int32} (hw : ∃ m, m < 7 ∧ w = Int32.ofNat m) (ho : 0 ≤ o.toInt ∧ o.toInt ≤ 7) (hf : 0 ≤ f.toInt ∧ f.toInt ≤ 59) (hv : s_lv w v) (h' : zH) (eh : h' = z_sI (z_sI (z_sI (z_sI (z_sI (z_sI h (B + 1) n f) (B + 2) n w) (B + 3) n (s_cg w)) (B + 4) n o) (B + 5) n v) B 5 (Int32.ofNat (n + 1))) : Sh h h' ∧ Fk B h0 h' ∧ Dr B (n + 1) (x_pu n R w o f v) h' ∧ ∀ j, z_iv h' 8 j = z_iv h 8 j := by
  have b9 := b.2.2.2.1
  obtain ⟨d1, d2, G, d3⟩ := D
  obtain ⟨p0, p1, p2, p3⟩ := pu_at (n := n) (R := R) (w := w) (o := o) (f := f) (v := v)
  have sh : Sh h h' := by rw [eh]; exact ((((Sh.sI.trans Sh.sI).trans Sh.sI).trans Sh.sI).trans Sh.sI).trans Sh.sI
  refine ⟨sh, ⟨F.1.trans sh, fun k h1 h2 => ?_⟩, ⟨?_, by omega, G.pu hw ho hf hv, fun i hi => ?_⟩, fun j => ?_⟩
  · rw [eh, iv_ne (by omega), iv_ne (by omega), iv_ne (by omega), iv_ne (by omega), iv_ne (by omega), iv_ne (by omega)]
    exact F.2 k h1 h2
  · rw [eh, v_at]
  · by_cases e : i = n
    · subst e
      rw [p0, p1, p2, p3, eh]
      refine ⟨?_, ?_, ?_, ?_, ?_⟩
      · rw [v_no (by omega), v_no (by omega), v_no (by omega), v_no (by omega), v_no (by omega), v_at]
      · rw [v_no (by omega), v_no (by omega), v_no (by omega), v_no (by omega), v_at]
      · rw [v_no (by omega), v_no (by omega), v_no (by omega), v_at]
      · rw [v_no (by omega), v_no (by omega), v_at]
      · rw [v_no (by omega), v_at]
    · rw [pu_ne e, pu_ne e, pu_ne e, pu_ne e, eh]
      obtain ⟨e1, e2, e3, e4, e5⟩ := d3 i (by omega)
      refine ⟨?_, ?_, ?_, ?_, ?_⟩
      · rw [v_no (by omega), v_no (by omega), v_no (by omega), v_no (by omega), v_no (by omega), v_no (by omega)]; exact e1
      · rw [v_no (by omega), v_no (by omega), v_no (by omega), v_no (by omega), v_no (by omega), v_no (by omega)]; exact e2
      · rw [v_no (by omega), v_no (by omega), v_no (by omega), v_no (by omega), v_no (by omega), v_no (by omega)]; exact e3
      · rw [v_no (by omega), v_no (by omega), v_no (by omega), v_no (by omega), v_no (by omega), v_no (by omega)]; exact e4
      · rw [v_no (by omega), v_no (by omega), v_no (by omega), v_no (by omega), v_no (by omega), v_no (by omega)]; exact e5
  · rw [eh, v_no (by omega), v_no (by omega), v_no (by omega), v_no (by omega), v_no (by omega), v_no (by omega)]
theorem lv_0 : ∀ m, m < 7 → 5 ≤ m → s_lv (Int32.ofNat m) 0 := by
  intro m h1 h2
  have c : m = 5 ∨ m = 6 := by omega
  rcases c with c | c <;> subst c
  · exact ⟨fun z => absurd z (by decide), fun z => absurd z (by decide), fun z => absurd z (by decide), fun z => absurd z (by decide), fun z => absurd z (by decide), fun _ => rfl⟩
  · exact ⟨fun z => absurd z (by decide), fun z => absurd z (by decide), fun z => absurd z (by decide), fun z => absurd z (by decide), fun z => absurd z (by decide), fun z => absurd z (by decide)⟩
theorem lv_1 {m : Nat} {v : Int32} (hm : m < 5) (hv : x_lo (Int32.ofNat m) ≤ v ∧ v ≤ x_hi (Int32.ofNat m)) : s_lv (Int32.ofNat m) v := by
  have v1 := n_le.mp hv.1
  have v2 := n_le.mp hv.2
  have c : m = 0 ∨ m = 1 ∨ m = 2 ∨ m = 3 ∨ m = 4 := by omega
  rcases c with c | c | c | c | c <;> subst c
  · rw [show (x_lo (Int32.ofNat 0)).toInt = 1 by decide] at v1
    rw [show (x_hi (Int32.ofNat 0)).toInt = 9 by decide] at v2
    exact ⟨fun _ => ⟨v1, v2⟩, fun z => absurd z (by decide), fun z => absurd z (by decide), fun z => absurd z (by decide), fun z => absurd z (by decide), fun z => absurd z (by decide)⟩
  · rw [show (x_lo (Int32.ofNat 1)).toInt = 0 by decide] at v1
    rw [show (x_hi (Int32.ofNat 1)).toInt = 9999 by decide] at v2
    exact ⟨fun z => absurd z (by decide), fun _ => ⟨v1, v2⟩, fun z => absurd z (by decide), fun z => absurd z (by decide), fun z => absurd z (by decide), fun z => absurd z (by decide)⟩
  · rw [show (x_lo (Int32.ofNat 2)).toInt = 1 by decide] at v1
    rw [show (x_hi (Int32.ofNat 2)).toInt = 24 by decide] at v2
    exact ⟨fun z => absurd z (by decide), fun z => absurd z (by decide), fun _ => ⟨v1, v2⟩, fun z => absurd z (by decide), fun z => absurd z (by decide), fun z => absurd z (by decide)⟩
  · rw [show (x_lo (Int32.ofNat 3)).toInt = 1 by decide] at v1
    rw [show (x_hi (Int32.ofNat 3)).toInt = 99 by decide] at v2
    exact ⟨fun z => absurd z (by decide), fun z => absurd z (by decide), fun z => absurd z (by decide), fun _ => ⟨v1, v2⟩, fun z => absurd z (by decide), fun z => absurd z (by decide)⟩
  · rw [show (x_lo (Int32.ofNat 4)).toInt = 0 by decide] at v1
    rw [show (x_hi (Int32.ofNat 4)).toInt = 60 by decide] at v2
    exact ⟨fun z => absurd z (by decide), fun z => absurd z (by decide), fun z => absurd z (by decide), fun z => absurd z (by decide), fun _ => ⟨v1, v2⟩, fun z => absurd z (by decide)⟩
end TE
