section TI
variable {r : Nat → Int32} {t n p : Nat} {g g0 g2 : zG} {R : Nat → Nat → Int32}
theorem AD_go (T : Tq r t g0) (W : Wt g0 g) (A : Tk r t p g) (L : Li n R g) (hn : n < 16) {w o f v : Int32} {Q : Unit → zG → Prop} (H : Hm r t g0 Q (e_tk r t (x_e r t p) (.inr (x_e r t p, n + 1, x_pu n R w o f v)))) : AD w o f v g Q := by
  obtain ⟨k37, k39, k40, k41, k42, hp, k9⟩ := A
  obtain ⟨l50, l16, lr⟩ := L
  have bn := n_bd (i := n) (N := 16) hn (by omega)
  unfold AD
  rw [l50, n_ix (by omega)]
  refine ⟨bn, fun g1 e1 => ?_⟩
  have a1 : g1 27 50 = Int32.ofNat n := by rw [e1, up_ne (by decide)]; exact l50
  rw [a1, n_ix (by omega)]
  refine ⟨bn, fun g2 e2 => ?_⟩
  have a2 : g2 27 50 = Int32.ofNat n := by rw [e2, up_ne (by decide)]; exact a1
  rw [a2, n_ix (by omega)]
  refine ⟨bn, fun g3 e3 => ?_⟩
  have a3 : g3 27 50 = Int32.ofNat n := by rw [e3, up_ne (by decide)]; exact a2
  rw [a3, n_ix (by omega)]
  refine ⟨bn, fun g4 e4 g5 e5 => ?_⟩
  have a4 : g4 27 50 = Int32.ofNat n := by rw [e4, up_ne (by decide)]; exact a3
  rw [a4, n_s] at e5
  have o5 : ∀ i, ¬ i = 50 → g5 27 i = g 27 i := by
    intro i hi
    rw [e5, up_nj (fun z => hi z.2), e4, up_ne (by decide), e3, up_ne (by decide), e2, up_ne (by decide), e1, up_ne (by decide)]
  have ro : ∀ k, ¬ k = 27 → ¬ k = 66 → ¬ k = 67 → ¬ k = 68 → ¬ k = 69 → g5 k = g k := by
    intro k h1 h2 h3 h4 h5
    rw [e5, up_ne h1, e4, up_ne h5, e3, up_ne h4, e2, up_ne h3, e1, up_ne h2]
  have W5 : Wt g0 g5 := by
    intro k i hs
    by_cases c : k = 27
    · subst c
      by_cases ci : i = 50
      · subst ci; cases hs
      · rw [o5 i ci]; exact W 27 i hs
    · by_cases c6 : 66 ≤ k ∧ k ≤ 69
      · exfalso
        have d : k = 66 ∨ k = 67 ∨ k = 68 ∨ k = 69 := by omega
        rcases d with d | d | d | d <;> subst d <;> cases hs
      · rw [ro k c (by omega) (by omega) (by omega) (by omega)]
        exact W k i hs
  have L5 : Li (n + 1) (x_pu n R w o f v) g5 := by
    have l66 : g 66 = R 0 := lr 0 (by omega)
    have l67 : g 67 = R 1 := lr 1 (by omega)
    have l68 : g 68 = R 2 := lr 2 (by omega)
    have l69 : g 69 = R 3 := lr 3 (by omega)
    have row : ∀ (a : zG) (k : Nat) (x : Int32) (b : Nat → Int32), a k = b → z_up2 a k n x k = fun i => if i = n then x else b i := by
      intro a k x b e
      funext i
      show (if k = k ∧ i = n then x else a k i) = _
      rw [e]
      by_cases z : i = n
      · rw [if_pos ⟨rfl, z⟩, if_pos z]
      · rw [if_neg (fun y => z y.2), if_neg z]
    refine ⟨by rw [e5, up_at], by omega, fun k hk => ?_⟩
    have d : k = 0 ∨ k = 1 ∨ k = 2 ∨ k = 3 := by omega
    rcases d with d | d | d | d <;> subst d
    · show g5 66 = _
      rw [e5, up_ne (by decide), e4, up_ne (by decide), e3, up_ne (by decide), e2, up_ne (by decide), e1, row g 66 w (R 0) l66]
      rfl
    · show g5 67 = _
      rw [e5, up_ne (by decide), e4, up_ne (by decide), e3, up_ne (by decide), e2, row g1 67 o (R 1) (by rw [e1, up_ne (by decide)]; exact l67)]
      rfl
    · show g5 68 = _
      rw [e5, up_ne (by decide), e4, up_ne (by decide), e3, row g2 68 f (R 2) (by rw [e2, up_ne (by decide), e1, up_ne (by decide)]; exact l68)]
      rfl
    · show g5 69 = _
      rw [e5, up_ne (by decide), e4, row g3 69 v (R 3) (by rw [e3, up_ne (by decide), e2, up_ne (by decide), e1, up_ne (by decide)]; exact l69)]
      rfl
  have eb := e_b (r := r) hp
  unfold e_tk at H
  refine M_187 (W5.tq T) ((o5 37 (by omega)).trans k37) eb.2 ((o5 39 (by omega)).trans k39) (fun z g6 w6 a b => ?_) (fun z g6 w6 A6 => ?_)
  · rw [if_pos z] at H
    exact H g6 (W5.w7 w6) a b (St.of a (by decide))
  · rw [if_neg z] at H
    exact H g6 (W5.w7 w6) A6 (L5.w7 w6)
theorem TE_go (T : Tq r t g0) (W : Wt g0 g) (A : Tk r t p g) (L : Li n R g) (hn : n < 16) {w o f v : Int32} {Q : Unit → zG → Prop} (H : Hm r t g0 Q (e_en r t p (n + 1) (x_pu n R w o f v))) : TE w o f v g Q := by
  unfold TE
  unfold e_en at H
  rw [if_pos A.1, A.2.2.2.1]
  by_cases z : x_k r t p = 3
  · rw [if_pos z] at H
    rw [if_pos z, if_pos A.1]
    exact AD_go T W A L hn H
  · rw [if_neg z] at H
    rw [if_neg z]
    refine M_186 A.1 (fun g2 w2 a b => ?_)
    have s : St g2 := St.of a (by decide)
    rw [if_neg s.1]
    exact H g2 (W.w7 w2) a (b.trans A.2.2.1) s
theorem TL_go (T : Tq r t g0) (W : Wt g0 g) (A : Tk r t p g) (L : Li n R g) (hn : n < 16) {w o f : Int32} {Q : Unit → zG → Prop} (H : Hm r t g0 Q (e_r1 r t p n R w o f)) : TL w o f g Q := by
  unfold TL
  unfold e_r1 at H
  refine M_191 A L (fun z g1 w1 a b s => ?_) (fun z => ?_)
  · rw [if_pos z] at H
    exact M_187S s (fun _ _ => M_189S s (M_187S s (TE_S s (H g1 (W.w7 w1) a b s))))
  rw [if_neg z] at H
  have eb := e_b (r := r) A.2.2.2.2.2.1
  refine M_187 (W.tq T) A.1 eb.2 A.2.1 (fun z g1 w1 a b => ?_) (fun z g1 w1 A1 => ?_)
  · unfold e_tk at H
    rw [if_pos z] at H
    have s : St g1 := St.of a (by decide)
    exact fun _ _ => M_189S s (M_187S s (TE_S s (H g1 (W.w7 w1) a b s)))
  have e : ∀ K, e_tk r t (x_e r t p) K = K := fun K => if_neg z
  rw [e] at H
  intro m em
  rw [em]
  have W1 := W.w7 w1
  have L1 := L.w7 w1
  refine M_189 A1 (fun c g3 e w3 a b s => ?_) (fun e zk zv => ?_)
  · rw [e] at H
    exact M_187S s (TE_S s (H g3 (W1.w7 w3) a b s))
  rw [e] at H
  have eb1 := e_b (r := r) A1.2.2.2.2.2.1
  refine M_187 (W1.tq T) A1.1 eb1.2 A1.2.1 (fun z g4 w4 a b => ?_) (fun z g4 w4 A4 => ?_)
  · unfold e_tk at H
    rw [if_pos z] at H
    have s : St g4 := St.of a (by decide)
    exact TE_S s (H g4 (W1.w7 w4) a b s)
  have e : ∀ K, e_tk r t (x_e r t (x_e r t p)) K = K := fun K => if_neg z
  rw [e] at H
  rw [A1.2.2.2.2.1]
  exact TE_go T (W1.w7 w4) A4 (L1.w7 w4) hn H
theorem TW_go (T : Tq r t g0) (W : Wt g0 g) (A : Tk r t p g) (L : Li n R g) (hn : n < 16) {w f : Int32} {Q : Unit → zG → Prop} (H : Hm r t g0 Q (e_r5 r t p n R w f)) : TW w f g Q := by
  unfold TW
  unfold e_r5 at H
  refine M_191 A L (fun z g1 w1 a b s => ?_) (fun z => ?_)
  · rw [if_pos z] at H
    exact M_187S s (TE_S s (H g1 (W.w7 w1) a b s))
  rw [if_neg z] at H
  have eb := e_b (r := r) A.2.2.2.2.2.1
  refine M_187 (W.tq T) A.1 eb.2 A.2.1 (fun z g1 w1 a b => ?_) (fun z g1 w1 A1 => ?_)
  · unfold e_tk at H
    rw [if_pos z] at H
    have s : St g1 := St.of a (by decide)
    exact TE_S s (H g1 (W.w7 w1) a b s)
  have e : ∀ K, e_tk r t (x_e r t p) K = K := fun K => if_neg z
  rw [e] at H
  exact TE_go T (W.w7 w1) A1 (L.w7 w1) hn H
theorem M_193 (T : Tq r t g0) (W : Wt g0 g) (A : Tk r t p g) (L : Li n R g) (hn : n < 16) {m : Nat} (hm : m < 7) {f : Int32} {Q : Unit → zG → Prop} (H : Hm r t g0 Q (if Int32.ofNat m = 5 ∨ Int32.ofNat m = 6 then e_r5 r t p n R (Int32.ofNat m) f else e_r0 r t p n R (Int32.ofNat m) f)) : MK z_pV 193 [.ref 27, .int (Int32.ofNat m), .int f] g Q := by
  have cm : ∀ m, m < 7 → (Int32.ofNat m < (5 : Int32) ↔ ¬ (Int32.ofNat m = 5 ∨ Int32.ofNat m = 6)) := by decide +kernel
  refine X_193 _ _ g ?_
  by_cases w5 : Int32.ofNat m = 5 ∨ Int32.ofNat m = 6
  · rw [if_pos w5] at H
    rw [if_neg (fun z => (cm m hm).mp z w5)]
    exact TW_go T W A L hn H
  · rw [if_neg w5] at H
    rw [if_pos ((cm m hm).mpr w5)]
    unfold e_r0 at H
    have eb := e_b (r := r) A.2.2.2.2.2.1
    refine M_187 (W.tq T) A.1 eb.2 A.2.1 (fun z g1 w1 a b => ?_) (fun z g1 w1 A1 => ?_)
    · unfold e_tk at H
      rw [if_pos z] at H
      have s : St g1 := St.of a (by decide)
      have q := H g1 (W.w7 w1) a b s
      by_cases w4 : Int32.ofNat m = 4
      · rw [if_pos w4, if_neg s.1, if_neg s.1]
        exact TL_S s q
      · rw [if_neg w4]
        exact M_189S s (TL_S s q)
    have e : ∀ K, e_tk r t (x_e r t p) K = K := fun K => if_neg z
    rw [e] at H
    have W1 := W.w7 w1
    have L1 := L.w7 w1
    have T1 := W1.tq T
    have t2 := T1.2.2.1
    unfold e_ky at H
    unfold x_ky at H
    by_cases w4 : Int32.ofNat m = 4
    · rw [if_pos w4, if_pos w4] at H
      rw [if_pos w4, if_pos A1.1, A1.2.2.2.1, A1.2.1, A1.2.2.1]
      have hp1 := A1.2.2.2.2.2.1
      have ts1 := ts_b (r := r) hp1
      have eb1 := e_b (r := r) hp1
      have sb : Int32.ofNat (x_e r t (x_e r t p)) - Int32.ofNat (x_ts r t (x_e r t p)) = Int32.ofNat (x_e r t (x_e r t p) - x_ts r t (x_e r t p)) := by
        apply Int32.toInt_inj.mp
        rw [i_sub (by rw [n_i (by omega), n_i (by omega)]; omega) (by rw [n_i (by omega), n_i (by omega)]; omega), n_i (by omega), n_i (by omega), n_i (by omega)]
        omega
      by_cases z1 : x_k r t (x_e r t p) = 1
      · rw [if_pos z1, sb]
        have lt := k1_lt z1
        obtain ⟨b1, b2⟩ := t_by T1 ts1.2
        by_cases z2 : x_e r t (x_e r t p) = x_ts r t (x_e r t p) + 1
        · rw [if_pos (show Int32.ofNat (x_e r t (x_e r t p) - x_ts r t (x_e r t p)) = 1 by rw [z2, show x_ts r t (x_e r t p) + 1 - x_ts r t (x_e r t p) = 1 by omega]; rfl), T1.1]
          refine ⟨b1, fun m3 e3 => ?_⟩
          rw [b2, if_pos lt] at e3
          rw [e3]
          by_cases z3 : (97 : Int32) ≤ r (x_ts r t (x_e r t p)) ∧ r (x_ts r t (x_e r t p)) ≤ (104 : Int32)
          · rw [if_pos ⟨z1, z2, z3⟩] at H
            rw [if_pos z3, if_pos A1.1]
            refine ⟨b1, fun m103 e103 => ?_⟩
            rw [b2, if_pos lt] at e103
            rw [e103]
            exact TL_go T W1 A1 L1 hn H
          · rw [if_neg (fun y => z3 y.2.2)] at H
            rw [if_neg z3]
            refine M_186 A1.1 (fun g2 w2 a b => ?_)
            have s : St g2 := St.of a (by decide)
            rw [if_neg s.1]
            exact TL_S s (H g2 (W1.w7 w2) a (b.trans A1.2.2.1) s)
        · rw [if_neg (fun y => z2 y.2.1)] at H
          rw [if_neg (show ¬ Int32.ofNat (x_e r t (x_e r t p) - x_ts r t (x_e r t p)) = 1 from fun y => z2 (by have := n_inj (b := 1) (by omega) (by omega) y; omega))]
          refine M_186 A1.1 (fun g2 w2 a b => ?_)
          have s : St g2 := St.of a (by decide)
          rw [if_neg s.1]
          exact TL_S s (H g2 (W1.w7 w2) a (b.trans A1.2.2.1) s)
      · rw [if_neg (fun y => z1 y.1)] at H
        rw [if_neg z1]
        refine M_186 A1.1 (fun g2 w2 a b => ?_)
        have s : St g2 := St.of a (by decide)
        rw [if_neg s.1]
        exact TL_S s (H g2 (W1.w7 w2) a (b.trans A1.2.2.1) s)
    · rw [if_neg w4, if_neg w4] at H
      rw [if_neg w4]
      refine M_189 A1 (fun c g3 e w3 a b s => ?_) (fun e zk zv => ?_)
      · rw [e] at H
        exact TL_S s (H g3 (W1.w7 w3) a b s)
      · rw [e] at H
        rw [A1.2.2.2.2.1]
        exact TL_go T W1 A1 L1 hn H
end TI
