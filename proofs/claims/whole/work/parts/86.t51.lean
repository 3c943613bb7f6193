/-! texts: the class's tokens -/
section TC
variable {r : Nat → Int32} {t : Nat} {h h2 : zH}
def S8 (h h2 : zH) : Prop := Sh h h2 ∧ ∀ k, ¬ k = 8 → z_iv h2 k = z_iv h k
theorem S8.refl (h : zH) : S8 h h := ⟨Sh.refl h, fun _ _ => rfl⟩
theorem S8.trans {a b c : zH} (x : S8 a b) (y : S8 b c) : S8 a c := ⟨x.1.trans y.1, fun k hk => (y.2 k hk).trans (x.2 k hk)⟩
theorem S8.sI {j : Nat} {v : Int32} (s : S8 h h2) : S8 h (z_sI h2 8 j v) := ⟨s.1.trans Sh.sI, fun k hk => (iv_ne hk).trans (s.2 k hk)⟩
def Tp (r : Nat → Int32) (t : Nat) (h : zH) : Prop := CW h ∧ z_tg h 6 = 9 ∧ z_tg h 8 = 7 ∧ z_iv h 6 1 = Int32.ofNat t ∧ (∀ i, i < t → z_iv h (6 + 1) i = r i) ∧ t ≤ 200
theorem Tp.s8 (T : Tp r t h) (s : S8 h h2) : Tp r t h2 := by
  obtain ⟨a, b, c, d, e, f⟩ := T
  refine ⟨s.1.cw a, s.1.tg b, s.1.tg c, ?_, ?_, f⟩
  · rw [s.2 6 (by omega)]; exact d
  · rw [s.2 (6 + 1) (by omega)]; exact e
theorem K_93 (T : Tp r t h) {p : Nat} (hp : p ≤ t) : KV z_pI 93 [.ref 6, .int (Int32.ofNat p)] h (if p < t then r p else 0) := by
  obtain ⟨a, b, c, d, e, f⟩ := T
  refine kv_of (C_93 6 _ h a b (fun _ z _ => ?_) ⟨?_, rfl⟩)
  · rw [d] at z
    have : ¬ t ≤ p := fun w => z ((n_lit_le (by omega) (by omega)).mpr w)
    exact n_bd (N := 200) (by omega) (by omega)
  · rw [if_neg (fun z => by have := n_lt.mp z; rw [n_i (by omega), show (0 : Int32).toInt = 0 by decide] at this; omega), d]
    by_cases z : p < t
    · rw [if_neg (fun w => by have := (n_lit_le (by omega) (by omega)).mp w; omega), if_neg (show ¬ (200 : Int32) ≤ Int32.ofNat p from fun w => by have := (n_lit_le (k := 200) (by omega) (by omega)).mp w; omega), if_pos z, n_ix (by omega)]
      exact e p z
    · rw [if_pos ((n_lit_le (by omega) (by omega)).mpr (by omega)), if_neg z]
theorem K_83 (T : Tp r t h) {s : Nat} (hs : s ≤ t) (e6 : z_iv h 8 6 = Int32.ofNat s) {Q : Unit → zH → Prop} (q : ∀ h', S8 h h' → z_iv h' 8 4 = 1 → z_iv h' 8 6 = Int32.ofNat (x_sc xL r (t - s) s) → (∀ j, ¬ j = 4 → ¬ j = 6 → z_iv h' 8 j = z_iv h 8 j) → Q () h') : KK z_pV 83 [.ref 8] h Q := by
  refine X_83 8 h T.1 T.2.2.1 ?_
  have key : ∀ f s' h', f = t - s' → s' ≤ t → S8 h h' → z_iv h' 8 4 = 1 → z_iv h' 8 6 = Int32.ofNat s' → (∀ j, ¬ j = 4 → ¬ j = 6 → z_iv h' 8 j = z_iv h 8 j) → x_sc xL r f s' = x_sc xL r (t - s) s → KG z_pV 83 5 [some (.ref 8)] [] h' Q := by
    intro f
    induction f with
    | zero =>
      intro s' h' ef hs' s8 k4 k6 ko e
      have T' := T.s8 s8
      refine X_83_5 8 h' T'.1 T'.2.2.1 ?_
      rw [T'.2.2.2.1, k6, if_pos ((n_lit_le (by have := T.2.2.2.2.2; omega) (by have := T.2.2.2.2.2; omega)).mpr (by omega))]
      refine q h' s8 k4 ?_ ko
      rw [k6, ← e]
      rfl
    | succ f ih =>
      intro s' h' ef hs' s8 k4 k6 ko e
      have T' := T.s8 s8
      have t2 := T.2.2.2.2.2
      refine X_83_5 8 h' T'.1 T'.2.2.1 ?_
      rw [T'.2.2.2.1, k6, if_neg (fun w => by have := (n_lit_le (by omega) (by omega)).mp w; omega)]
      refine ⟨_, K_93 T' hs', ?_⟩
      rw [if_pos (show s' < t by omega)]
      rw [sc_s] at e
      by_cases z : xL (r s') = true
      · rw [if_pos z] at e
        rw [if_pos (xL_k.mpr z), n_s]
        refine ih (s' + 1) _ (by omega) (by omega) s8.sI ?_ v_at (fun j j4 j6 => ?_) e
        · rw [v_no (by omega)]; exact k4
        · rw [v_no (by omega)]; exact ko j j4 j6
      · rw [if_neg z] at e
        rw [if_neg (fun w => z (xL_k.mp w))]
        refine q h' s8 k4 ?_ ko
        rw [k6, e]
  exact key (t - s) s _ rfl hs ((S8.refl h).sI) v_at (by rw [v_no (by omega)]; exact e6) (fun j j4 _ => v_no (by omega)) rfl
theorem K_84 (T : Tp r t h) {s : Nat} (hs : s ≤ t) (e6 : z_iv h 8 6 = Int32.ofNat s) (e5 : z_iv h 8 5 = Int32.ofNat s) {Q : Int32 → zH → Prop} (q9 : ¬ x_sc xF r (t - s) s ≤ s + 4 → ∀ h', S8 h h' → z_iv h' 8 0 = 1 → z_iv h' 8 1 = Int32.ofNat s → Q 0 h') (q : x_sc xF r (t - s) s ≤ s + 4 → ∀ h', S8 h h' → z_iv h' 8 4 = 2 → z_iv h' 8 6 = Int32.ofNat (x_sc xF r (t - s) s) → z_iv h' 8 7 = x_nv r s (x_sc xF r (t - s) s - s) → (∀ j, ¬ j = 4 → ¬ j = 6 → ¬ j = 7 → z_iv h' 8 j = z_iv h 8 j) → Q 1 h') : KK z_pI 84 [.ref 8] h Q := by
  refine X_84 8 h T.1 T.2.2.1 ?_
  have key : ∀ f k h', f = t - (s + k) → s + k ≤ t → k ≤ 4 → S8 h h' → z_iv h' 8 4 = 2 → z_iv h' 8 6 = Int32.ofNat (s + k) → z_iv h' 8 7 = x_nv r s k → (∀ j, ¬ j = 4 → ¬ j = 6 → ¬ j = 7 → z_iv h' 8 j = z_iv h 8 j) → x_sc xF r f (s + k) = x_sc xF r (t - s) s → KG z_pI 84 10 [some (.ref 8)] [] h' Q := by
    intro f
    induction f with
    | zero =>
      intro k h' ef hs' hk s8 k4 k6 k7 ko e
      have T' := T.s8 s8
      refine X_84_10 8 h' T'.1 T'.2.2.1 ?_
      rw [T'.2.2.2.1, k6, if_pos ((n_lit_le (by have := T.2.2.2.2.2; omega) (by have := T.2.2.2.2.2; omega)).mpr (by omega))]
      have e : s + k = x_sc xF r (t - s) s := e
      refine q (by omega) h' s8 k4 (by rw [k6, e]) ?_ ko
      rw [k7, ← e, show s + k - s = k by omega]
    | succ f ih =>
      intro k h' ef hs' hk s8 k4 k6 k7 ko e
      have T' := T.s8 s8
      have t2 := T.2.2.2.2.2
      refine X_84_10 8 h' T'.1 T'.2.2.1 ?_
      rw [T'.2.2.2.1, k6, if_neg (fun w => by have := (n_lit_le (by omega) (by omega)).mp w; omega), k7]
      refine ⟨_, K_93 T' hs', ?_⟩
      rw [if_pos (show s + k < t by omega)]
      rw [sc_s] at e
      by_cases z : xF (r (s + k)) = true
      · rw [if_pos z] at e
        rw [if_pos (xF_k.mpr z), ko 5 (by omega) (by omega) (by omega), e5]
        have sb : (Int32.ofNat (s + k) - Int32.ofNat s).toInt = (k : Int) := by rw [i_sub (by rw [n_i (by omega), n_i (by omega)]; omega) (by rw [n_i (by omega), n_i (by omega)]; omega), n_i (by omega), n_i (by omega)]; omega
        have t4 : (4 : Int32).toInt = 4 := by decide
        by_cases k3 : k < 4
        · rw [if_pos (n_lt.mpr (by omega)), n_s]
          refine ⟨_, K_93 T' hs', ?_⟩
          rw [if_pos (show s + k < t by omega)]
          refine ih (k + 1) _ (by omega) (by omega) (by omega) s8.sI.sI ?_ v_at ?_ (fun j j4 j6 j7 => ?_) e
          · rw [v_no (by omega), v_no (by omega)]; exact k4
          · rw [v_no (by omega), v_at]; rfl
          · rw [v_no (by omega), v_no (by omega)]; exact ko j j4 j6 j7
        · rw [if_neg (fun w => by have := n_lt.mp w; omega)]
          have b := sc_b (P := xF) (r := r) f (s + k + 1)
          refine q9 (by omega) _ s8.sI.sI ?_ ?_
          · rw [v_no (by omega), v_at]
          · exact v_at
      · rw [if_neg z] at e
        rw [if_neg (fun w => z (xF_k.mp w))]
        refine q (by omega) h' s8 k4 (by rw [k6, e]) ?_ ko
        rw [k7, ← e, show s + k - s = k by omega]
  refine key (t - s) 0 _ rfl hs (by omega) ((S8.refl h).sI.sI) ?_ ?_ v_at (fun j j4 _ j7 => ?_) rfl
  · rw [v_no (by omega), v_at]
  · rw [v_no (by omega), v_no (by omega)]; exact e6
  · rw [v_no (by omega), v_no (by omega)]
/-- the token that the class has read from a place on -/
def Tok (r : Nat → Int32) (t p : Nat) (h : zH) : Prop := z_iv h 8 4 = x_k r t p ∧ z_iv h 8 5 = Int32.ofNat (x_ts r t p) ∧ z_iv h 8 6 = Int32.ofNat (x_e r t p) ∧ (x_k r t p = 2 → z_iv h 8 7 = x_v r t p) ∧ p ≤ t ∧ ¬ x_k r t p = 9
theorem K_82 (T : Tp r t h) {p : Nat} (hp : p ≤ t) (e6 : z_iv h 8 6 = Int32.ofNat p) {Q : Int32 → zH → Prop} (q9 : x_k r t p = 9 → ∀ h', S8 h h' → z_iv h' 8 0 = 1 → z_iv h' 8 1 = Int32.ofNat (x_ts r t p) → Q 0 h') (q : ¬ x_k r t p = 9 → ∀ h', S8 h h' → Tok r t p h' → z_iv h' 8 0 = z_iv h 8 0 → Q 1 h') : KK z_pI 82 [.ref 8] h Q := by
  refine X_82 8 h T.1 T.2.2.1 ?_
  have t2 := T.2.2.2.2.2
  have key : ∀ f s h' u1, f = t - s → s ≤ t → S8 h h' → z_iv h' 8 5 = Int32.ofNat s → (∀ j, ¬ j = 5 → z_iv h' 8 j = z_iv h 8 j) → x_sc xB r f s = x_ts r t p → KG z_pI 82 8 [some (.ref 8), u1] [] h' Q := by
    intro f
    induction f with
    | zero =>
      intro s h' u1 ef hs s8 k5 ko e
      have T' := T.s8 s8
      have es : s = t := by omega
      subst es
      have e : s = x_ts r s p := e
      refine X_82_8 8 _ h' T'.1 T'.2.2.1 ?_
      rw [T'.2.2.2.1, k5, if_pos ((n_lit_le (by omega) (by omega)).mpr (by omega)), if_neg (fun w => by have := (n_lit_lt (by omega) (by omega)).mp w; omega)]
      have ek : x_k r s p = 0 := by unfold x_k x_kk; rw [← e, if_pos (Nat.le_refl _)]
      have ee : x_e r s p = s := by unfold x_e x_en; rw [← e, if_pos (Nat.le_refl _)]
      refine q (by rw [ek]; decide) _ s8.sI.sI ⟨?_, ?_, ?_, fun z => ?_, hp, by rw [ek]; decide⟩ ?_
      · rw [v_at, ek]
      · rw [v_no (by omega), v_no (by omega), k5, ← e]
      · rw [v_no (by omega), v_at, ee]
      · rw [ek] at z; exact absurd z (by decide)
      · rw [v_no (by omega), v_no (by omega)]; exact ko 0 (by omega)
    | succ f ih =>
      intro s h' u1 ef hs s8 k5 ko e
      have T' := T.s8 s8
      refine X_82_8 8 _ h' T'.1 T'.2.2.1 ?_
      rw [T'.2.2.2.1, k5, if_neg (fun w => by have := (n_lit_le (by omega) (by omega)).mp w; omega)]
      refine ⟨_, K_93 T' hs, ?_⟩
      rw [if_pos (show s < t by omega)]
      rw [sc_s] at e
      by_cases z : xB (r s) = true
      · rw [if_pos z] at e
        rw [if_pos (xB_i.mp z), n_s]
        exact ih (s + 1) _ _ (by omega) (by omega) s8.sI v_at (fun j hj => by rw [v_no (by omega)]; exact ko j hj) e
      · rw [if_neg z] at e
        rw [if_neg (fun w => z (xB_i.mpr w)), if_pos ((n_lit_lt (by omega) (by omega)).mpr (by omega))]
        have s8' : S8 h (z_sI h' 8 6 (Int32.ofNat s)) := s8.sI
        have T2 := T.s8 s8'
        refine ⟨_, K_93 T2 hs, ?_⟩
        rw [if_pos (show s < t by omega)]
        have nt : ¬ t ≤ s := by omega
        by_cases z1 : r s = 59
        · rw [if_pos z1, n_s]
          have ek : x_k r t p = 3 := by unfold x_k x_kk; rw [← e, if_neg nt, if_pos z1]
          have ee : x_e r t p = s + 1 := by unfold x_e x_en; rw [← e, if_neg nt, if_pos z1]
          refine q (by rw [ek]; decide) _ s8'.sI.sI ⟨?_, ?_, ?_, fun z => ?_, hp, by rw [ek]; decide⟩ ?_
          · rw [v_no (by omega), v_at, ek]
          · rw [v_no (by omega), v_no (by omega), v_no (by omega), k5, ← e]
          · rw [v_at, ee]
          · rw [ek] at z; exact absurd z (by decide)
          · rw [v_no (by omega), v_no (by omega), v_no (by omega)]; exact ko 0 (by omega)
        · rw [if_neg z1]
          by_cases z2 : xL (r s) = true
          · rw [if_pos (xL_k.mpr z2)]
            have ek : x_k r t p = 1 := by unfold x_k x_kk; rw [← e, if_neg nt, if_neg z1, if_pos z2]
            have ee : x_e r t p = x_sc xL r (t - s) s := by unfold x_e x_en; rw [← e, if_neg nt, if_neg z1, if_pos z2]
            refine K_83 T2 hs v_at (fun h3 s3 k4 k6 kj => ⟨s3.1, q (by rw [ek]; decide) h3 (s8'.trans s3) ⟨?_, ?_, ?_, fun z => ?_, hp, by rw [ek]; decide⟩ ?_⟩)
            · rw [k4, ek]
            · rw [kj 5 (by omega) (by omega), v_no (by omega), k5, ← e]
            · rw [k6, ee]
            · rw [ek] at z; exact absurd z (by decide)
            · rw [kj 0 (by omega) (by omega), v_no (by omega)]; exact ko 0 (by omega)
          · rw [if_neg (fun w => z2 (xL_k.mp w))]
            by_cases z3 : xF (r s) = true
            · rw [if_pos (xF_k.mpr z3)]
              refine K_84 T2 hs v_at (by rw [v_no (by omega)]; exact k5) (fun z4 h3 s3 k0 k1 => ⟨s3.1, Or.inl rfl, ?_⟩) (fun z4 h3 s3 k4 k6 k7 kj => ⟨s3.1, Or.inr rfl, ?_⟩)
              · have ek : x_k r t p = 9 := by unfold x_k x_kk; rw [← e, if_neg nt, if_neg z1, if_neg z2, if_pos z3, if_neg z4]
                exact q9 ek h3 (s8'.trans s3) k0 (by rw [k1, ← e])
              · have ek : x_k r t p = 2 := by unfold x_k x_kk; rw [← e, if_neg nt, if_neg z1, if_neg z2, if_pos z3, if_pos z4]
                have ee : x_e r t p = x_sc xF r (t - s) s := by unfold x_e x_en; rw [← e, if_neg nt, if_neg z1, if_neg z2, if_pos z3]
                refine q (by rw [ek]; decide) h3 (s8'.trans s3) ⟨?_, ?_, ?_, fun z => ?_, hp, by rw [ek]; decide⟩ ?_
                · rw [k4, ek]
                · rw [kj 5 (by omega) (by omega) (by omega), v_no (by omega), k5, ← e]
                · rw [k6, ee]
                · unfold x_v
                  rw [if_pos ek, k7, ee, ← e]
                · rw [kj 0 (by omega) (by omega) (by omega), v_no (by omega)]; exact ko 0 (by omega)
            · rw [if_neg (fun w => z3 (xF_k.mp w))]
              have ek : x_k r t p = 9 := by unfold x_k x_kk; rw [← e, if_neg nt, if_neg z1, if_neg z2, if_neg z3]
              refine q9 ek _ s8'.sI.sI ?_ ?_
              · rw [v_no (by omega), v_at]
              · rw [v_at, v_no (by omega), k5, ← e]
  exact key (t - p) p _ _ rfl hp ((S8.refl h).sI) (by rw [v_at]; exact e6) (fun j hj => v_no (by omega)) rfl
/-- a word -/
theorem K_81 (T : Tp r t h) {p q : Nat} (K : Tok r t p h) (hq : 3 ≤ q ∧ q < 11) : KV z_pI 81 [.ref 8, .retAddr q] h (if x_m r t p q then 1 else 0) := by
  obtain ⟨k4, k5, k6, _, hp, _⟩ := K
  have t2 := T.2.2.2.2.2
  have eb := e_b (r := r) hp
  have l6 : ∀ q, q < 11 → s_wl q ≤ 6 := by decide +kernel
  have lq := l6 q hq.2
  refine kv_of (X_81 8 q h T.1 T.2.2.1 hq ?_)
  rw [k4, k5, k6]
  by_cases z1 : x_k r t p = 1
  · rw [if_pos z1]
    refine ⟨_, K_2 hq, ?_⟩
    have sb : Int32.ofNat (x_e r t p) - Int32.ofNat (x_ts r t p) = Int32.ofNat (x_e r t p - x_ts r t p) := by
      apply Int32.toInt_inj.mp
      rw [i_sub (by rw [n_i (by omega), n_i (by omega)]; omega) (by rw [n_i (by omega), n_i (by omega)]; omega), n_i (by omega), n_i (by omega), n_i (by omega)]
      omega
    rw [sb]
    by_cases z2 : x_e r t p - x_ts r t p = s_wl q
    · rw [z2, if_pos rfl]
      have z2' : x_e r t p = x_ts r t p + s_wl q := by omega
      have e8 : ∀ (i : Nat), z_iv h 8 5 + Int32.ofNat i = Int32.ofNat (x_ts r t p + i) := fun i => by rw [k5]; exact n_add
      refine z_lp (N := s_wl q) (G := fun i => (∀ j, j < i → r (x_ts r t p + j) = s_wc q j) → KG z_pI 81 28 [some (.ref 8), some (.retAddr q), some (.int (Int32.ofNat i))] [] h _) ?_ ?_ (fun _ w => absurd w (by omega))
      · intro w
        refine X_81_28 8 q _ h T.1 T.2.2.1 hq ⟨_, K_2 hq, ?_⟩
        rw [if_pos (Int32.le_refl _)]
        exact ⟨(if_pos ⟨z1, z2', w⟩).symm, rfl⟩
      · intro i hi k w
        refine X_81_28 8 q _ h T.1 T.2.2.1 hq ⟨_, K_2 hq, ?_⟩
        rw [if_neg (fun z => by have := (n_lit_le (by omega) (by omega)).mp z; omega), e8]
        refine ⟨_, K_93 T (by omega), _, K_3 hq hi, ?_⟩
        rw [if_pos (show x_ts r t p + i < t by omega)]
        by_cases z3 : r (x_ts r t p + i) = s_wc q i
        · rw [if_pos z3, n_s]
          refine k (fun j hj => ?_)
          by_cases ej : j = i
          · subst ej; exact z3
          · exact w j (by omega)
        · rw [if_neg z3]
          exact ⟨(if_neg (fun m => z3 (m.2.2 i hi))).symm, rfl⟩
    · rw [if_neg (fun w => z2 (n_inj (by omega) (by omega) w))]
      exact ⟨(if_neg (fun m => z2 (by have := m.2.1; omega))).symm, rfl⟩
  · rw [if_neg z1]
    exact ⟨(if_neg (fun m => z1 m.1)).symm, rfl⟩
theorem K_80 {n : Nat} (hn : n < 7) : KV z_pS 80 [.int (Int32.ofNat n)] h (n + 4) := by
  refine kv_of (X_80 _ h ?_)
  have c : n = 0 ∨ n = 1 ∨ n = 2 ∨ n = 3 ∨ n = 4 ∨ n = 5 ∨ n = 6 := by omega
  rcases c with c | c | c | c | c | c | c <;> subst c
  · rw [if_pos (by decide)]; exact ⟨rfl, rfl⟩
  · rw [if_neg (by decide), if_pos (by decide)]; exact ⟨rfl, rfl⟩
  · rw [if_neg (by decide), if_neg (by decide), if_pos (by decide)]; exact ⟨rfl, rfl⟩
  · rw [if_neg (by decide), if_neg (by decide), if_neg (by decide), if_pos (by decide)]; exact ⟨rfl, rfl⟩
  · rw [if_neg (by decide), if_neg (by decide), if_neg (by decide), if_neg (by decide), if_pos (by decide)]; exact ⟨rfl, rfl⟩
  · rw [if_neg (by decide), if_neg (by decide), if_neg (by decide), if_neg (by decide), if_neg (by decide), if_pos (by decide)]; exact ⟨rfl, rfl⟩
  · rw [if_neg (by decide), if_neg (by decide), if_neg (by decide), if_neg (by decide), if_neg (by decide), if_neg (by decide)]; exact ⟨rfl, rfl⟩
theorem K_79 (T : Tp r t h) {p : Nat} (K : Tok r t p h) : KV z_pI 79 [.ref 8] h (x_rl r t p) := by
  refine kv_of (X_79 8 h T.1 T.2.2.1 ?_)
  have key : ∀ f n, n + f = 7 → x_rf r t p f n = x_rl r t p → KG z_pI 79 2 [some (.ref 8), some (.int (Int32.ofNat n))] [] h (fun v h' => v = x_rl r t p ∧ h' = h) := by
    intro f
    induction f with
    | zero =>
      intro n hn e
      refine X_79_2 8 _ h T.1 T.2.2.1 ?_
      have : n = 7 := by omega
      subst this
      rw [if_pos (by decide)]
      exact ⟨e, rfl⟩
    | succ f ih =>
      intro n hn e
      refine X_79_2 8 _ h T.1 T.2.2.1 ?_
      rw [if_neg (show ¬ (7 : Int32) ≤ Int32.ofNat n from fun z => by have := (n_lit_le (k := 7) (by omega) (by omega)).mp z; omega)]
      refine ⟨_, K_80 (by omega), _, K_81 T K (by omega), ?_⟩
      unfold x_rf at e
      by_cases z : x_m r t p (n + 4)
      · rw [if_pos z] at e
        rw [if_pos z, if_neg (by decide)]
        exact ⟨e, rfl⟩
      · rw [if_neg z] at e
        rw [if_neg z, if_pos rfl, n_s]
        exact ih (n + 1) (by omega) e
  exact key 7 0 rfl rfl
theorem K_71 (T : Tp r t h) {p : Nat} (K : Tok r t p h) : KV z_pI 71 [.ref 8] h (if x_m r t p 3 ∨ ¬ x_rl r t p = -4 then 1 else 0) := by
  refine kv_of (X_71 8 h T.1 T.2.2.1 ⟨_, K_81 T K (by omega), ?_⟩)
  by_cases z : x_m r t p 3
  · rw [if_pos z, if_neg (by decide)]
    exact ⟨(if_pos (Or.inl z)).symm, rfl⟩
  · rw [if_neg z, if_pos rfl]
    refine ⟨_, K_79 T K, ?_, rfl⟩
    by_cases w : x_rl r t p = -4
    · rw [if_neg (fun v => v.elim z (fun y => y w))]
      exact z_bt_0.mpr (fun y => y w)
    · rw [if_pos (Or.inr w)]
      exact z_bt_1.mpr w
end TC
