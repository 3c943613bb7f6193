/-! texts: the reference's tokens -/
section TG
variable {r : Nat → Int32} {t : Nat} {g g2 g3 : zG}
def W7 (g g2 : zG) : Prop := (∀ k, ¬ k = 27 → g2 k = g k) ∧ ∀ i, ¬ (37 ≤ i ∧ i ≤ 42) → g2 27 i = g 27 i
theorem W7.refl (g : zG) : W7 g g := ⟨fun _ _ => rfl, fun _ _ => rfl⟩
theorem W7.trans {a b c : zG} (x : W7 a b) (y : W7 b c) : W7 a c := ⟨fun k hk => (y.1 k hk).trans (x.1 k hk), fun i hi => (y.2 i hi).trans (x.2 i hi)⟩
theorem W7.up {i : Nat} {v : Int32} (w : W7 g g2) (hi : 37 ≤ i ∧ i ≤ 42) : W7 g (z_up2 g2 27 i v) := ⟨fun k hk => (up_ne hk).trans (w.1 k hk), fun j hj => (up_nj (by omega)).trans (w.2 j hj)⟩
def Tq (r : Nat → Int32) (t : Nat) (g : zG) : Prop := g 27 35 = Int32.ofNat t ∧ g 59 = r ∧ t ≤ 200 ∧ ∀ i, i < t → 0 ≤ (r i).toInt ∧ (r i).toInt ≤ 255
theorem Tq.w7 (T : Tq r t g) (w : W7 g g2) : Tq r t g2 := ⟨(w.2 35 (by omega)).trans T.1, (w.1 59 (by omega)).trans T.2.1, T.2.2⟩
def Tk (r : Nat → Int32) (t p : Nat) (g : zG) : Prop := g 27 37 = 0 ∧ g 27 39 = Int32.ofNat (x_e r t p) ∧ g 27 40 = Int32.ofNat (x_ts r t p) ∧ g 27 41 = x_k r t p ∧ g 27 42 = x_v r t p ∧ p ≤ t ∧ ¬ x_k r t p = 9
/-- the byte at a place -/
theorem t_by (T : Tq r t g) {s : Nat} (hs : s ≤ t) : (¬ (Int32.ofNat t ≤ Int32.ofNat s) → 0 ≤ (Int32.ofNat s).toInt ∧ (Int32.ofNat s).toInt < 200) ∧ (if Int32.ofNat t ≤ Int32.ofNat s then (-4 : Int32) else (g 59 (z_ix (Int32.ofNat s)))) = if s < t then r s else -4 := by
  have t2 := T.2.2.1
  refine ⟨fun z => ?_, ?_⟩
  · have : ¬ t ≤ s := fun w => z ((n_lit_le (by omega) (by omega)).mpr w)
    exact n_bd (N := 200) (by omega) (by omega)
  · by_cases z : s < t
    · rw [if_neg (fun w => by have := (n_lit_le (by omega) (by omega)).mp w; omega), if_pos z, T.2.1, n_ix (by omega)]
    · rw [if_pos ((n_lit_le (by omega) (by omega)).mpr (by omega)), if_neg z]
theorem by_n4 (T : Tq r t g) {s : Nat} (hs : s < t) : ¬ r s = -4 := by
  intro z
  have b := T.2.2.2 s hs
  rw [z] at b
  exact absurd b.1 (by decide)
theorem M_186e {c : Int32} {Q : Unit → zG → Prop} (z : g 27 37 = 0) (q : ∀ g2, W7 g g2 → g2 27 37 = c → g2 27 38 = g 27 40 → (∀ i, ¬ i = 37 → ¬ i = 38 → g2 27 i = g 27 i) → Q () g2) : MK z_pV 186 [.ref 27, .int c] g Q := by
  refine X_186 _ g ?_
  rw [if_pos z]
  refine q _ (((W7.refl g).up (by omega)).up (by omega)) ?_ ?_ (fun i h1 h2 => ?_)
  · rw [up_nj (by omega), up_at]
  · rw [up_at, up_nj (by omega)]
  · rw [up_nj (by omega), up_nj (by omega)]
theorem M_186 {c : Int32} {Q : Unit → zG → Prop} (z : g 27 37 = 0) (q : ∀ g2, W7 g g2 → g2 27 37 = c → g2 27 38 = g 27 40 → Q () g2) : MK z_pV 186 [.ref 27, .int c] g Q := M_186e z (fun g2 w a b _ => q g2 w a b)
theorem M_186S {c : Int32} {Q : Unit → zG → Prop} (z : ¬ g 27 37 = 0) (q : Q () g) : MK z_pV 186 [.ref 27, .int c] g Q := by
  refine X_186 _ g ?_
  rw [if_neg z]
  exact q
theorem M_187L (T : Tq r t g) (y1 : Int32) {Q : Unit → zG → Prop} {s : Nat} (hs : s ≤ t) (e39 : g 27 39 = Int32.ofNat s) (q : ∀ g2, W7 g g2 → g2 27 37 = g 27 37 → g2 27 40 = g 27 40 → g2 27 42 = g 27 42 → g2 27 41 = 1 → g2 27 39 = Int32.ofNat (x_sc xL r (t - s) s) → Q () g2) : MG z_pV 187 84 [some (.ref 27), some (.int y1)] [] g Q := by
  have t2 := T.2.2.1
  have key : ∀ f s' g2, f = t - s' → s' ≤ t → W7 g g2 → g2 27 37 = g 27 37 → g2 27 40 = g 27 40 → g2 27 42 = g 27 42 → g2 27 39 = Int32.ofNat s' → x_sc xL r f s' = x_sc xL r (t - s) s → MG z_pV 187 84 [some (.ref 27), some (.int y1)] [] g2 Q := by
    intro f
    induction f with
    | zero =>
      intro s' g2 ef hs' w k37 k40 k42 k39 e
      have T2 := T.w7 w
      obtain ⟨b1, b2⟩ := t_by T2 hs'
      refine X_187_84 _ g2 ?_
      rw [T2.1, k39]
      refine ⟨b1, fun m24 e24 => ?_⟩
      rw [b2, if_neg (show ¬ s' < t by omega)] at e24
      rw [e24, if_neg (by decide)]
      intro g26 e26
      have e : s' = x_sc xL r (t - s) s := e
      refine q g26 (by rw [e26]; exact w.up (by omega)) ?_ ?_ ?_ ?_ ?_
      · rw [e26, up_nj (by omega)]; exact k37
      · rw [e26, up_nj (by omega)]; exact k40
      · rw [e26, up_nj (by omega)]; exact k42
      · rw [e26, up_at]
      · rw [e26, up_nj (by omega), k39, e]
    | succ f ih =>
      intro s' g2 ef hs' w k37 k40 k42 k39 e
      have T2 := T.w7 w
      obtain ⟨b1, b2⟩ := t_by T2 hs'
      refine X_187_84 _ g2 ?_
      rw [T2.1, k39]
      refine ⟨b1, fun m24 e24 => ?_⟩
      rw [b2, if_pos (show s' < t by omega)] at e24
      rw [sc_s] at e
      rw [e24]
      by_cases z : xL (r s') = true
      · rw [if_pos z] at e
        rw [if_pos (xL_i.mp z)]
        intro g27 e27
        rw [n_s] at e27
        refine ih (s' + 1) g27 (by omega) (by omega) (by rw [e27]; exact w.up (by omega)) ?_ ?_ ?_ ?_ e
        · rw [e27, up_nj (by omega)]; exact k37
        · rw [e27, up_nj (by omega)]; exact k40
        · rw [e27, up_nj (by omega)]; exact k42
        · rw [e27, up_at]
      · rw [if_neg z] at e
        rw [if_neg (fun w => z (xL_i.mpr w))]
        intro g26 e26
        refine q g26 (by rw [e26]; exact w.up (by omega)) ?_ ?_ ?_ ?_ ?_
        · rw [e26, up_nj (by omega)]; exact k37
        · rw [e26, up_nj (by omega)]; exact k40
        · rw [e26, up_nj (by omega)]; exact k42
        · rw [e26, up_at]
        · rw [e26, up_nj (by omega), k39, e]
  exact key (t - s) s g rfl hs (W7.refl g) rfl rfl rfl e39 rfl
theorem M_187F (T : Tq r t g) (y1 : Int32) {Q : Unit → zG → Prop} {s : Nat} (hs : s ≤ t) (z37 : g 27 37 = 0) (e39 : g 27 39 = Int32.ofNat s) (e40 : g 27 40 = Int32.ofNat s) (e42 : g 27 42 = 0) (q9 : ¬ x_sc xF r (t - s) s ≤ s + 4 → ∀ g2, W7 g g2 → g2 27 37 = 1 → g2 27 38 = Int32.ofNat s → ¬ g2 27 41 = 1 → Q () g2) (q : x_sc xF r (t - s) s ≤ s + 4 → ∀ g2, W7 g g2 → g2 27 37 = 0 → g2 27 40 = Int32.ofNat s → g2 27 42 = x_nv r s (x_sc xF r (t - s) s - s) → g2 27 41 = 2 → g2 27 39 = Int32.ofNat (x_sc xF r (t - s) s) → Q () g2) : MG z_pV 187 140 [some (.ref 27), some (.int y1)] [] g Q := by
  have t2 := T.2.2.1
  have t4 : (4 : Int32).toInt = 4 := by decide
  have sb : ∀ k, s + k ≤ 200 → (Int32.ofNat (s + k) - Int32.ofNat s).toInt = (k : Int) := by
    intro k hk
    rw [i_sub (by rw [n_i (by omega), n_i (by omega)]; omega) (by rw [n_i (by omega), n_i (by omega)]; omega), n_i (by omega), n_i (by omega)]
    omega
  have fin : ∀ k g2, s + k ≤ t → W7 g g2 → g2 27 37 = 0 → g2 27 40 = Int32.ofNat s → g2 27 42 = x_nv r s (min k 4) → g2 27 39 = Int32.ofNat (s + k) → s + k = x_sc xF r (t - s) s → ∀ g15 : zG, g15 = (z_up2 g2 27 41 (2 : Int32)) → if ((g15 27 39) - (g15 27 40)) ≤ (4 : Int32) then (Q () g15) else (MK z_pV 186 [.ref 27, .int (1 : Int32)] g15 (fun r16 g17 => Q () g17)) := by
    intro k g2 hk w k37 k40 k42 k39 e g15 e15
    have w15 : W7 g g15 := by rw [e15]; exact w.up (by omega)
    have f39 : g15 27 39 = Int32.ofNat (s + k) := by rw [e15, up_nj (by omega)]; exact k39
    have f40 : g15 27 40 = Int32.ofNat s := by rw [e15, up_nj (by omega)]; exact k40
    have f37 : g15 27 37 = 0 := by rw [e15, up_nj (by omega)]; exact k37
    rw [f39, f40]
    by_cases k4 : k ≤ 4
    · rw [if_pos (n_le.mpr (by rw [sb k (by omega), t4]; omega))]
      refine q (by omega) g15 w15 f37 f40 ?_ (by rw [e15, up_at]) (by rw [f39, e])
      rw [e15, up_nj (by omega), k42, ← e, show min k 4 = s + k - s by omega]
    · rw [if_neg (fun z => by have := n_le.mp z; rw [sb k (by omega), t4] at this; omega)]
      exact M_186e f37 (fun g17 w17 a b ke => q9 (by omega) g17 (w15.trans w17) a (b.trans f40) (by rw [ke 41 (by omega) (by omega), e15, up_at]; decide))
  have key : ∀ f k g2, f = t - (s + k) → s + k ≤ t → W7 g g2 → g2 27 37 = 0 → g2 27 40 = Int32.ofNat s → g2 27 42 = x_nv r s (min k 4) → g2 27 39 = Int32.ofNat (s + k) → x_sc xF r f (s + k) = x_sc xF r (t - s) s → MG z_pV 187 140 [some (.ref 27), some (.int y1)] [] g2 Q := by
    intro f
    induction f with
    | zero =>
      intro k g2 ef hk w k37 k40 k42 k39 e
      have T2 := T.w7 w
      obtain ⟨b1, b2⟩ := t_by T2 hk
      refine X_187_140 _ g2 ?_
      rw [T2.1, k39]
      refine ⟨b1, fun m13 e13 => ?_⟩
      rw [b2, if_neg (show ¬ s + k < t by omega)] at e13
      rw [e13, if_neg (by decide)]
      exact fin k g2 hk w k37 k40 k42 k39 e
    | succ f ih =>
      intro k g2 ef hk w k37 k40 k42 k39 e
      have T2 := T.w7 w
      obtain ⟨b1, b2⟩ := t_by T2 hk
      refine X_187_140 _ g2 ?_
      rw [T2.1, k39, k40, k42]
      refine ⟨b1, fun m13 e13 => ?_⟩
      rw [b2, if_pos (show s + k < t by omega)] at e13
      rw [sc_s] at e
      rw [e13]
      by_cases z : xF (r (s + k)) = true
      · rw [if_pos z] at e
        rw [if_pos (xF_i.mp z)]
        by_cases k4 : 4 ≤ k
        · rw [if_pos (n_le.mpr (by rw [sb k (by omega), t4]; omega))]
          intro g18 e18 g19 e19
          have f39 : g18 27 39 = Int32.ofNat (s + k) := by rw [e18, up_nj (by omega)]; exact k39
          rw [f39, n_s] at e19
          refine ih (k + 1) g19 (by omega) (by omega) (by rw [e19, e18]; exact (w.up (by omega)).up (by omega)) ?_ ?_ ?_ ?_ e
          · rw [e19, up_nj (by omega), e18, up_nj (by omega)]; exact k37
          · rw [e19, up_nj (by omega), e18, up_nj (by omega)]; exact k40
          · rw [e19, up_nj (by omega), e18, up_at, show min k 4 = min (k + 1) 4 by omega]
          · rw [e19, up_at]; rfl
        · rw [if_neg (fun z => by have := n_le.mp z; rw [sb k (by omega), t4] at this; omega)]
          refine ⟨b1, fun m20 e20 g22 e22 g23 e23 => ?_⟩
          rw [b2, if_pos (show s + k < t by omega)] at e20
          have f39 : g22 27 39 = Int32.ofNat (s + k) := by rw [e22, up_nj (by omega)]; exact k39
          rw [f39, n_s] at e23
          refine ih (k + 1) g23 (by omega) (by omega) (by rw [e23, e22]; exact (w.up (by omega)).up (by omega)) ?_ ?_ ?_ ?_ e
          · rw [e23, up_nj (by omega), e22, up_nj (by omega)]; exact k37
          · rw [e23, up_nj (by omega), e22, up_nj (by omega)]; exact k40
          · rw [e23, up_nj (by omega), e22, up_at, e20, show min k 4 = k by omega, show min (k + 1) 4 = k + 1 by omega, Int32.mul_comm]
            rfl
          · rw [e23, up_at]; rfl
      · rw [if_neg z] at e
        rw [if_neg (fun w => z (xF_i.mpr w))]
        have fin := fin k g2 hk w k37 k40 k42 k39 e
        exact fin
  exact key (t - s) 0 g rfl hs (W7.refl g) z37 e40 (by rw [e42]; rfl) e39 rfl
theorem M_187e (T : Tq r t g) (z : g 27 37 = 0) {p : Nat} (hp : p ≤ t) (e39 : g 27 39 = Int32.ofNat p) {Q : Unit → zG → Prop} (q9 : x_k r t p = 9 → ∀ g2, W7 g g2 → g2 27 37 = 1 → g2 27 38 = Int32.ofNat (x_ts r t p) → ¬ g2 27 41 = 1 → Q () g2) (q : ¬ x_k r t p = 9 → ∀ g2, W7 g g2 → Tk r t p g2 → Q () g2) : MK z_pV 187 [.ref 27] g Q := by
  have t2 := T.2.2.1
  have l59 : ¬ xL 59 = true := by decide
  have f59 : ¬ xF 59 = true := by decide
  refine X_187 g ?_
  rw [if_pos (by rw [z]; decide)]
  have key : ∀ f s g2, f = t - s → s ≤ t → W7 g g2 → g2 27 37 = 0 → g2 27 39 = Int32.ofNat s → x_sc xB r f s = x_ts r t p → MG z_pV 187 8 [some (.ref 27), none] [] g2 Q := by
    intro f
    induction f with
    | zero =>
      intro s g2 ef hs w k37 k39 e
      have T2 := T.w7 w
      obtain ⟨b1, b2⟩ := t_by T2 hs
      have e : s = x_ts r t p := e
      refine X_187_8 _ g2 ?_
      rw [T2.1, k39]
      refine ⟨b1, fun m1 e1 => ?_⟩
      rw [b2, if_neg (show ¬ s < t by omega)] at e1
      rw [e1, if_neg (by decide)]
      intro g4 e4
      have w4 : W7 g g4 := by rw [e4]; exact w.up (by omega)
      have T4 := T.w7 w4
      have f39 : g4 27 39 = Int32.ofNat s := by rw [e4, up_nj (by omega)]; exact k39
      obtain ⟨c1, c2⟩ := t_by T4 hs
      rw [T4.1, f39]
      refine ⟨c1, fun m5 e5 g7 e7 => ?_⟩
      rw [c2, if_neg (show ¬ s < t by omega)] at e5
      rw [e5, if_pos rfl]
      intro g8 e8
      have ek : x_k r t p = 0 := by unfold x_k x_kk; rw [← e, if_pos (by omega)]
      have ee : x_e r t p = s := by unfold x_e x_en; rw [← e, if_pos (by omega)]
      have ev : x_v r t p = 0 := by unfold x_v; rw [ek, if_neg (by decide)]
      refine q (by rw [ek]; decide) g8 (by rw [e8, e7]; exact (w4.up (by omega)).up (by omega)) ⟨?_, ?_, ?_, ?_, ?_, hp, by rw [ek]; decide⟩
      · rw [e8, up_nj (by omega), e7, up_nj (by omega), e4, up_nj (by omega)]; exact k37
      · rw [e8, up_nj (by omega), e7, up_nj (by omega), f39, ee]
      · rw [e8, up_nj (by omega), e7, up_nj (by omega), e4, up_at, ← e]
      · rw [e8, up_at, ek]
      · rw [e8, up_nj (by omega), e7, up_at, ev]
    | succ f ih =>
      intro s g2 ef hs w k37 k39 e
      have T2 := T.w7 w
      obtain ⟨b1, b2⟩ := t_by T2 hs
      rw [sc_s] at e
      refine X_187_8 _ g2 ?_
      rw [T2.1, k39]
      refine ⟨b1, fun m1 e1 => ?_⟩
      rw [b2, if_pos (show s < t by omega)] at e1
      rw [e1]
      by_cases zb : xB (r s) = true
      · rw [if_pos zb] at e
        rw [if_pos (xB_i.mp zb)]
        intro g3 e3
        rw [n_s] at e3
        refine ih (s + 1) g3 (by omega) (by omega) (by rw [e3]; exact w.up (by omega)) ?_ ?_ e
        · rw [e3, up_nj (by omega)]; exact k37
        · rw [e3, up_at]
      · rw [if_neg zb] at e
        rw [if_neg (fun w => zb (xB_i.mpr w))]
        intro g4 e4
        have w4 : W7 g g4 := by rw [e4]; exact w.up (by omega)
        have T4 := T.w7 w4
        have f39 : g4 27 39 = Int32.ofNat s := by rw [e4, up_nj (by omega)]; exact k39
        obtain ⟨c1, c2⟩ := t_by T4 hs
        rw [T4.1, f39]
        refine ⟨c1, fun m5 e5 g7 e7 => ?_⟩
        rw [c2, if_pos (show s < t by omega)] at e5
        have w7 : W7 g g7 := by rw [e7]; exact w4.up (by omega)
        have k7 : g7 27 37 = 0 := by rw [e7, up_nj (by omega), e4, up_nj (by omega)]; exact k37
        have k79 : g7 27 39 = Int32.ofNat s := by rw [e7, up_nj (by omega)]; exact f39
        have k70 : g7 27 40 = Int32.ofNat s := by rw [e7, up_nj (by omega), e4, up_at]
        have k72 : g7 27 42 = 0 := by rw [e7, up_at]
        have nt : ¬ t ≤ s := by omega
        rw [e5, if_neg (by_n4 T (by omega))]
        by_cases z2 : xL (r s) = true
        · have n59 : ¬ r s = 59 := fun y => l59 (y ▸ z2)
          rw [if_pos (xL_i.mp z2)]
          have ek : x_k r t p = 1 := by unfold x_k x_kk; rw [← e, if_neg nt, if_neg n59, if_pos z2]
          have ee : x_e r t p = x_sc xL r (t - s) s := by unfold x_e x_en; rw [← e, if_neg nt, if_neg n59, if_pos z2]
          have ev : x_v r t p = 0 := by unfold x_v; rw [ek, if_neg (by decide)]
          refine M_187L (T.w7 w7) _ hs k79 (fun g8 w8 a37 a40 a42 a41 a39 => q (by rw [ek]; decide) g8 (w7.trans w8) ⟨?_, ?_, ?_, ?_, ?_, hp, by rw [ek]; decide⟩)
          · exact a37.trans k7
          · rw [a39, ee]
          · rw [a40, k70, ← e]
          · rw [a41, ek]
          · rw [a42, k72, ev]
        · rw [if_neg (fun w => z2 (xL_i.mpr w))]
          by_cases z3 : xF (r s) = true
          · have n59 : ¬ r s = 59 := fun y => f59 (y ▸ z3)
            rw [if_pos (xF_i.mp z3)]
            refine M_187F (T.w7 w7) _ hs k7 k79 k70 k72 (fun z4 g8 w8 a37 a38 a41 => ?_) (fun z4 g8 w8 a37 a40 a42 a41 a39 => ?_)
            · have ek : x_k r t p = 9 := by unfold x_k x_kk; rw [← e, if_neg nt, if_neg n59, if_neg z2, if_pos z3, if_neg z4]
              exact q9 ek g8 (w7.trans w8) a37 (by rw [a38, ← e]) a41
            · have ek : x_k r t p = 2 := by unfold x_k x_kk; rw [← e, if_neg nt, if_neg n59, if_neg z2, if_pos z3, if_pos z4]
              have ee : x_e r t p = x_sc xF r (t - s) s := by unfold x_e x_en; rw [← e, if_neg nt, if_neg n59, if_neg z2, if_pos z3]
              refine q (by rw [ek]; decide) g8 (w7.trans w8) ⟨a37, ?_, ?_, ?_, ?_, hp, by rw [ek]; decide⟩
              · rw [a39, ee]
              · rw [a40, ← e]
              · rw [a41, ek]
              · unfold x_v
                rw [if_pos ek, a42, ee, ← e]
          · rw [if_neg (fun w => z3 (xF_i.mpr w))]
            intro g9 e9 g10 e10
            have f9 : g9 27 39 = Int32.ofNat s := by rw [e9, up_nj (by omega)]; exact k79
            rw [f9, n_s] at e10
            have w10 : W7 g g10 := by rw [e10, e9]; exact (w7.up (by omega)).up (by omega)
            have k10 : g10 27 37 = 0 := by rw [e10, up_nj (by omega), e9, up_nj (by omega)]; exact k7
            have k10b : g10 27 40 = Int32.ofNat s := by rw [e10, up_nj (by omega), e9, up_nj (by omega)]; exact k70
            by_cases z1 : r s = 59
            · rw [if_pos z1]
              have ek : x_k r t p = 3 := by unfold x_k x_kk; rw [← e, if_neg nt, if_pos z1]
              have ee : x_e r t p = s + 1 := by unfold x_e x_en; rw [← e, if_neg nt, if_pos z1]
              have ev : x_v r t p = 0 := by unfold x_v; rw [ek, if_neg (by decide)]
              refine q (by rw [ek]; decide) g10 w10 ⟨k10, ?_, ?_, ?_, ?_, hp, by rw [ek]; decide⟩
              · rw [e10, up_at, ee]
              · rw [k10b, ← e]
              · rw [e10, up_nj (by omega), e9, up_at, ek]
              · rw [e10, up_nj (by omega), e9, up_nj (by omega), k72, ev]
            · rw [if_neg z1]
              have ek : x_k r t p = 9 := by unfold x_k x_kk; rw [← e, if_neg nt, if_neg z1, if_neg z2, if_neg z3]
              exact M_186e k10 (fun g12 w12 a b ke => q9 ek g12 (w10.trans w12) a (by rw [b, k10b, ← e]) (by rw [ke 41 (by omega) (by omega), e10, up_nj (by omega), e9, up_at]; decide))
  exact key (t - p) p g rfl hp (W7.refl g) z e39 rfl
theorem M_187 (T : Tq r t g) (z : g 27 37 = 0) {p : Nat} (hp : p ≤ t) (e39 : g 27 39 = Int32.ofNat p) {Q : Unit → zG → Prop} (q9 : x_k r t p = 9 → ∀ g2, W7 g g2 → g2 27 37 = 1 → g2 27 38 = Int32.ofNat (x_ts r t p) → Q () g2) (q : ¬ x_k r t p = 9 → ∀ g2, W7 g g2 → Tk r t p g2 → Q () g2) : MK z_pV 187 [.ref 27] g Q := M_187e T z hp e39 (fun z g2 w a b _ => q9 z g2 w a b) q
end TG
