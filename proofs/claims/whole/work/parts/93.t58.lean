section TJ
variable {r : Nat → Int32} {t n p : Nat} {g g0 g2 : zG} {R : Nat → Nat → Int32}
/-- a name can be asked for, whatever has been read -/
def Sn (t : Nat) (g : zG) : Prop := g 27 41 = 1 → ∃ a b, g 27 40 = Int32.ofNat a ∧ g 27 39 = Int32.ofNat b ∧ a ≤ b ∧ b ≤ t
theorem Sn.tk (A : Tk r t p g) (ke : ∀ i, ¬ i = 37 → ¬ i = 38 → g2 27 i = g 27 i) : Sn t g2 := by
  intro _
  have e := e_b (r := r) A.2.2.2.2.2.1
  exact ⟨x_ts r t p, x_e r t p, (ke 40 (by omega) (by omega)).trans A.2.2.1, (ke 39 (by omega) (by omega)).trans A.2.1, e.1, e.2⟩
theorem M_188S (T : Tq r t g) (N : Sn t g) {Q : Int32 → zG → Prop} (q : ∀ v, Q v g) : MK z_pI 188 [.ref 27] g Q := by
  refine MK.cs (fun C => ?_)
  have t2 := T.2.2.1
  have fa : ∀ n, n < 8 → m_en (n + 1) - m_en n = Int32.ofNat (s_wl (x_q n)) ∧ s_wl (x_q n) ≤ 6 ∧ ∀ i, i < s_wl (x_q n) → (0 ≤ (m_en n + Int32.ofNat i).toInt ∧ (m_en n + Int32.ofNat i).toInt < 37) := by decide +kernel
  refine X_188 g ?_
  have key : ∀ f n u2 u3, n + f = 8 → MG z_pI 188 2 [some (.ref 27), some (.int (Int32.ofNat n)), u2, u3] [] g Q := by
    intro f
    induction f with
    | zero =>
      intro n u2 u3 hn
      have : n = 8 := by omega
      subst this
      refine X_188_2 _ _ _ g ?_
      rw [if_pos (by decide)]
      exact q _
    | succ f ih =>
      intro n u2 u3 hn
      obtain ⟨f1, f2, f3⟩ := fa n (by omega)
      have bad : ∀ y3 : Int32, MG z_pI 188 51 [some (.ref 27), some (.int (Int32.ofNat n)), some (.int (0 : Int32)), some (.int y3)] [] g Q := by
        intro y3
        refine X_188_51 _ _ _ g ?_
        rw [if_pos rfl, if_pos rfl, n_s]
        exact ih (n + 1) _ _ (by omega)
      refine X_188_2 _ _ _ g ?_
      rw [if_neg (show ¬ (8 : Int32) ≤ Int32.ofNat n from fun z => by have := (n_lit_le (k := 8) (by omega) (by omega)).mp z; omega), n_s, n_ix (by omega), n_ix (by omega), C.1 n (by omega), C.1 (n + 1) (by omega), f1]
      refine ⟨fun _ => n_bd (N := 9) (by omega) (by omega), fun _ => n_bd (N := 9) (by omega) (by omega), ?_⟩
      by_cases z : g 27 41 = 1 ∧ (g 27 39 - g 27 40) = Int32.ofNat (s_wl (x_q n))
      · rw [show z_bt (g 27 41 = 1 ∧ (g 27 39 - g 27 40) = Int32.ofNat (s_wl (x_q n))) = 1 from z_bt_1.mpr z]
        obtain ⟨a, b, k40, k39, ab, bt⟩ := N z.1
        have sb : Int32.ofNat b - Int32.ofNat a = Int32.ofNat (b - a) := by
          apply Int32.toInt_inj.mp
          rw [i_sub (by rw [n_i (by omega), n_i (by omega)]; omega) (by rw [n_i (by omega), n_i (by omega)]; omega), n_i (by omega), n_i (by omega), n_i (by omega)]
          omega
        have z2 := z.2
        rw [k39, k40, sb] at z2
        have zl : b - a = s_wl (x_q n) := n_inj (by omega) (by omega) z2
        refine z_lp (N := s_wl (x_q n)) (G := fun i => ∀ y2 : Int32, (y2 = 0 ∨ y2 = 1) → MG z_pI 188 51 [some (.ref 27), some (.int (Int32.ofNat n)), some (.int y2), some (.int (Int32.ofNat i))] [] g Q) ?_ ?_ 1 (Or.inr rfl)
        · intro y2 w
          rcases w with w | w
          · subst w; exact bad _
          · subst w
            refine X_188_51 _ _ _ g ?_
            rw [if_neg (by decide), k39, k40, sb, zl, if_pos (Int32.le_refl _), if_neg (by decide)]
            exact q _
        · intro i hi k y2 w
          rcases w with w | w
          · subst w; exact bad _
          · subst w
            refine X_188_51 _ _ _ g ?_
            obtain ⟨b1, b2⟩ := t_by T (s := a + i) (by omega)
            rw [if_neg (by decide), k39, k40, sb, zl, if_neg (fun z => by have := (n_lit_le (by omega) (by omega)).mp z; omega), n_add, T.1, n_ix (n := n) (by omega), C.1 n (by omega), n_s]
            exact ⟨b1, fun m6 e6 => ⟨n_bd (N := 9) (by omega) (by omega), f3 i hi, k _ z_bt_01⟩⟩
      · rw [show z_bt (g 27 41 = 1 ∧ (g 27 39 - g 27 40) = Int32.ofNat (s_wl (x_q n))) = 0 from z_bt_0.mpr z]
        exact bad _
  exact key 8 0 none none rfl
theorem M_194 (T : Tq r t g0) (W : Wt g0 g) (A : Tk r t p g) (L : Li n R g) (hn : n < 16) {Q : Unit → zG → Prop} (H : Hm r t g0 Q (e_li r t p n R)) : MK z_pV 194 [.ref 27] g Q := by
  have cm : ∀ m, m < 7 → ¬ Int32.ofNat m = -4 ∧ ¬ Int32.ofNat m = 7 := by decide +kernel
  have n16 : ¬ Int32.ofNat n = 16 := fun z => by have := n_inj (b := 16) (by omega) (by omega) z; omega
  refine X_194 g (M_188 (W.tq T) A ?_)
  rw [nf_eq]
  unfold e_li at H
  by_cases z : x_m r t p 3
  · rw [if_pos z] at H
    rw [if_pos (m_dj z), if_pos z, if_neg (by decide), L.1, if_neg n16, if_pos A.1, if_pos rfl]
    have eb := e_b (r := r) A.2.2.2.2.2.1
    have fault : ∀ g2, Wt g0 g2 → St g2 → Sn t g2 → Q () g2 → MK z_pI 188 [.ref 27] g2 (fun r57 g58 => if r57 = (-4 : Int32) then (MK z_pV 186 [.ref 27, .int (2 : Int32)] g58 (fun r59 g60 => if (g60 27 37) = 0 then (MK z_pV 193 [.ref 27, .int r57, .int (g2 27 42)] g60 (fun r61 g62 => Q () g62)) else (Q () g60))) else (if r57 = (7 : Int32) then (MK z_pV 186 [.ref 27, .int (2 : Int32)] g58 (fun r63 g64 => if (g64 27 37) = 0 then (MK z_pV 193 [.ref 27, .int r57, .int (g2 27 42)] g64 (fun r65 g66 => Q () g66)) else (Q () g64))) else (if (g58 27 37) = 0 then (MK z_pV 193 [.ref 27, .int r57, .int (g2 27 42)] g58 (fun r67 g68 => Q () g68)) else (Q () g58)))) := by
      intro g2 W2 s N q
      refine M_188S (W2.tq T) N (fun v => ?_)
      by_cases y1 : v = -4
      · rw [if_pos y1]
        refine M_186S s.1 ?_
        rw [if_neg s.1]
        exact q
      · rw [if_neg y1]
        by_cases y2 : v = 7
        · rw [if_pos y2]
          refine M_186S s.1 ?_
          rw [if_neg s.1]
          exact q
        · rw [if_neg y2, if_neg s.1]
          exact q
    refine M_187e (W.tq T) A.1 eb.2 A.2.1 (fun z g1 w1 a b k1 => ?_) (fun z g1 w1 A1 => ?_)
    · unfold e_tk at H
      rw [if_pos z] at H
      have s : St g1 := St.of a (by decide)
      have W1 := W.w7 w1
      exact M_189S s (M_187S s (fault g1 W1 s (fun y => absurd y k1) (H g1 W1 a b s)))
    have e : ∀ K, e_tk r t (x_e r t p) K = K := fun K => if_neg z
    rw [e] at H
    have W1 := W.w7 w1
    have L1 := L.w7 w1
    refine M_189e A1 (fun c g3 e w3 a b s ke => ?_) (fun e zk zv => ?_)
    · rw [e] at H
      have W3 := W1.w7 w3
      exact M_187S s (fault g3 W3 s (Sn.tk A1 ke) (H g3 W3 a b s))
    rw [e] at H
    have eb1 := e_b (r := r) A1.2.2.2.2.2.1
    refine M_187e (W1.tq T) A1.1 eb1.2 A1.2.1 (fun z g3 w3 a b k1 => ?_) (fun z g3 w3 A3 => ?_)
    · unfold e_tk at H
      rw [if_pos z] at H
      have s : St g3 := St.of a (by decide)
      have W3 := W1.w7 w3
      have q := H g3 W3 a b s
      refine M_188S (W3.tq T) (fun y => absurd y k1) (fun v => ?_)
      by_cases y1 : v = -4
      · rw [if_pos y1]
        refine M_186S s.1 ?_
        rw [if_neg s.1]
        exact q
      · rw [if_neg y1]
        by_cases y2 : v = 7
        · rw [if_pos y2]
          refine M_186S s.1 ?_
          rw [if_neg s.1]
          exact q
        · rw [if_neg y2, if_neg s.1]
          exact q
    have e : ∀ K, e_tk r t (x_e r t (x_e r t p)) K = K := fun K => if_neg z
    rw [e] at H
    have W3 := W1.w7 w3
    have L3 := L1.w7 w3
    refine M_188 (W3.tq T) A3 ?_
    rw [nf_eq, A1.2.2.2.2.1]
    unfold e_ru at H
    have bad : x_rl r t (x_e r t (x_e r t p)) = -4 → MK z_pV 186 [.ref 27, .int (2 : Int32)] g3 (fun _ g60 => if (g60 27 37) = 0 then (MK z_pV 193 [.ref 27, .int (if x_rl r t (x_e r t (x_e r t p)) = -4 then (if x_m r t (x_e r t (x_e r t p)) 3 then 7 else -4) else x_rl r t (x_e r t (x_e r t p))), .int (x_v r t (x_e r t p))] g60 (fun r61 g62 => Q () g62)) else (Q () g60)) := by
      intro y
      rw [if_pos y] at H
      refine M_186 A3.1 (fun g4 w4 a b => ?_)
      have s : St g4 := St.of a (by decide)
      rw [if_neg s.1]
      exact H g4 (W3.w7 w4) a (b.trans A3.2.2.1) s
    by_cases y : x_rl r t (x_e r t (x_e r t p)) = -4
    · have bad := bad y
      rw [if_pos y] at bad ⊢
      by_cases y3 : x_m r t (x_e r t (x_e r t p)) 3
      · rw [if_pos y3] at bad ⊢
        rw [if_neg (by decide), if_pos rfl]
        exact bad
      · rw [if_neg y3] at bad ⊢
        rw [if_pos rfl]
        exact bad
    · rw [if_neg y] at H
      rcases rl_c (r := r) (t := t) (p := x_e r t (x_e r t p)) with v | ⟨m, hm, em⟩
      · exact absurd v y
      · rw [if_neg y]
        rw [em] at H ⊢
        rw [if_neg (cm m hm).1, if_neg (cm m hm).2, if_pos A3.1]
        exact M_193 T W3 A3 L3 hn hm H
  · rw [if_neg z] at H
    unfold e_ru at H
    by_cases y : x_rl r t p = -4
    · rw [if_pos y] at H
      rw [if_pos y, if_neg z, if_pos rfl]
      refine M_186 A.1 (fun g2 w2 a b => ?_)
      have s : St g2 := St.of a (by decide)
      rw [if_neg s.1, if_neg s.1]
      exact H g2 (W.w7 w2) a (b.trans A.2.2.1) s
    · rw [if_neg y] at H
      rcases rl_c (r := r) (t := t) (p := p) with v | ⟨m, hm, em⟩
      · exact absurd v y
      · rw [if_neg y]
        rw [em] at H ⊢
        rw [if_neg (cm m hm).1, L.1, if_neg n16, if_pos A.1, if_neg (cm m hm).2, if_pos A.1]
        exact M_193 T W A L hn hm H
/-- the 17th line -/
theorem M_194F (T : Tq r t g0) (W : Wt g0 g) (A : Tk r t p g) (L : Li 16 R g) {Q : Unit → zG → Prop} (H : Hm r t g0 Q (.inl (if x_m r t p 3 ∨ ¬ x_rl r t p = -4 then 4 else 2, x_ts r t p))) : MK z_pV 194 [.ref 27] g Q := by
  have cm : ∀ m, m < 7 → ¬ Int32.ofNat m = -4 ∧ ¬ Int32.ofNat m = 7 := by decide +kernel
  refine X_194 g (M_188 (W.tq T) A ?_)
  rw [nf_eq]
  by_cases z : x_m r t p 3
  · rw [if_pos (Or.inl z)] at H
    rw [if_pos (m_dj z), if_pos z, if_neg (by decide), L.1, if_pos rfl]
    refine M_186 A.1 (fun g2 w2 a b => ?_)
    have s : St g2 := St.of a (by decide)
    rw [if_neg s.1, if_neg s.1]
    exact H g2 (W.w7 w2) a (b.trans A.2.2.1) s
  · by_cases y : x_rl r t p = -4
    · rw [if_neg (fun v => v.elim z (fun w => w y))] at H
      rw [if_pos y, if_neg z, if_pos rfl]
      refine M_186 A.1 (fun g2 w2 a b => ?_)
      have s : St g2 := St.of a (by decide)
      rw [if_neg s.1, if_neg s.1]
      exact H g2 (W.w7 w2) a (b.trans A.2.2.1) s
    · rw [if_pos (Or.inr y)] at H
      rw [if_neg y, if_neg y, L.1, if_pos (show Int32.ofNat 16 = 16 from rfl)]
      refine M_186 A.1 (fun g2 w2 a b => ?_)
      have s : St g2 := St.of a (by decide)
      rw [if_neg s.1, if_neg s.1]
      exact H g2 (W.w7 w2) a (b.trans A.2.2.1) s
end TJ
