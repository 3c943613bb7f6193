/-! texts: the reference's lines -/
theorem MK.cs {α : Type} {p : Option Value → Option α} {y : Nat} {A : zS} {g : zG} {Q : α → zG → Prop} (k : Cs g → MK p y A g Q) : MK p y A g Q := fun h hM => k hM.2.2.2 h hM
section TH
variable {r : Nat → Int32} {t n p : Nat} {g g0 g2 : zG} {R : Nat → Nat → Int32}
def x_q (n : Nat) : Nat := if n = 7 then 3 else n + 4
def x_nf (r : Nat → Int32) (t p : Nat) : Nat → Nat → Int32
  | 0, _ => -4
  | f + 1, n => if x_m r t p (x_q n) then Int32.ofNat n else x_nf r t p f (n + 1)
theorem nf_eq : x_nf r t p 8 0 = if x_rl r t p = -4 then (if x_m r t p 3 then 7 else -4) else x_rl r t p := by
  have : ∀ f n, n + f = 7 → x_nf r t p (f + 1) n = if x_rf r t p f n = -4 then (if x_m r t p 3 then 7 else -4) else x_rf r t p f n := by
    intro f
    induction f with
    | zero =>
      intro n hn
      have : n = 7 := by omega
      subst this
      show (if x_m r t p (x_q 7) then Int32.ofNat 7 else -4) = if (-4 : Int32) = -4 then (if x_m r t p 3 then 7 else -4) else -4
      rw [if_pos rfl]
      rfl
    | succ f ih =>
      intro n hn
      have eq : x_q n = n + 4 := if_neg (by omega)
      have c : ∀ n, n < 7 → ¬ Int32.ofNat n = -4 := by decide +kernel
      show (if x_m r t p (x_q n) then Int32.ofNat n else x_nf r t p (f + 1) (n + 1)) = if (if x_m r t p (n + 4) then Int32.ofNat n else x_rf r t p f (n + 1)) = -4 then (if x_m r t p 3 then 7 else -4) else (if x_m r t p (n + 4) then Int32.ofNat n else x_rf r t p f (n + 1))
      rw [eq]
      by_cases z : x_m r t p (n + 4)
      · rw [if_pos z, if_pos z, if_neg (c n (by omega))]
      · rw [if_neg z, if_neg z]
        exact ih (n + 1) (by omega)
  exact this 7 0 rfl
theorem M_188 (T : Tq r t g) (A : Tk r t p g) {Q : Int32 → zG → Prop} (q : Q (x_nf r t p 8 0) g) : MK z_pI 188 [.ref 27] g Q := by
  refine MK.cs (fun C => ?_)
  obtain ⟨k37, k39, k40, k41, k42, hp, k9⟩ := A
  have t2 := T.2.2.1
  have ts := ts_b (r := r) hp
  have eb := e_b (r := r) hp
  have fa : ∀ n, n < 8 → m_en (n + 1) - m_en n = Int32.ofNat (s_wl (x_q n)) ∧ s_wl (x_q n) ≤ 6 ∧ ∀ i, i < s_wl (x_q n) → (0 ≤ (m_en n + Int32.ofNat i).toInt ∧ (m_en n + Int32.ofNat i).toInt < 37) ∧ m_le (z_ix (m_en n + Int32.ofNat i)) = s_wc (x_q n) i := by decide +kernel
  have sb : Int32.ofNat (x_e r t p) - Int32.ofNat (x_ts r t p) = Int32.ofNat (x_e r t p - x_ts r t p) := by
    apply Int32.toInt_inj.mp
    rw [i_sub (by rw [n_i (by omega), n_i (by omega)]; omega) (by rw [n_i (by omega), n_i (by omega)]; omega), n_i (by omega), n_i (by omega), n_i (by omega)]
    omega
  refine X_188 g ?_
  have key : ∀ f n u2 u3, n + f = 8 → x_nf r t p f n = x_nf r t p 8 0 → MG z_pI 188 2 [some (.ref 27), some (.int (Int32.ofNat n)), u2, u3] [] g Q := by
    intro f
    induction f with
    | zero =>
      intro n u2 u3 hn e
      have : n = 8 := by omega
      subst this
      refine X_188_2 _ _ _ g ?_
      rw [if_pos (by decide)]
      rw [← e] at q
      exact q
    | succ f ih =>
      intro n u2 u3 hn e
      obtain ⟨f1, f2, f3⟩ := fa n (by omega)
      have no : ¬ x_m r t p (x_q n) → x_nf r t p f (n + 1) = x_nf r t p 8 0 := by
        intro z
        rw [← e]
        exact (if_neg z).symm
      have bad : ¬ x_m r t p (x_q n) → ∀ y3 : Int32, MG z_pI 188 51 [some (.ref 27), some (.int (Int32.ofNat n)), some (.int (0 : Int32)), some (.int y3)] [] g Q := by
        intro z y3
        refine X_188_51 _ _ _ g ?_
        rw [if_pos rfl, if_pos rfl, n_s]
        exact ih (n + 1) _ _ (by omega) (no z)
      refine X_188_2 _ _ _ g ?_
      rw [if_neg (show ¬ (8 : Int32) ≤ Int32.ofNat n from fun z => by have := (n_lit_le (k := 8) (by omega) (by omega)).mp z; omega), n_s, n_ix (by omega), n_ix (by omega), C.1 n (by omega), C.1 (n + 1) (by omega), k39, k40, k41, sb, f1]
      refine ⟨fun _ => n_bd (N := 9) (by omega) (by omega), fun _ => n_bd (N := 9) (by omega) (by omega), ?_⟩
      by_cases z : x_k r t p = 1 ∧ Int32.ofNat (x_e r t p - x_ts r t p) = Int32.ofNat (s_wl (x_q n))
      · rw [show z_bt (x_k r t p = 1 ∧ Int32.ofNat (x_e r t p - x_ts r t p) = Int32.ofNat (s_wl (x_q n))) = 1 from z_bt_1.mpr z]
        have zl : x_e r t p - x_ts r t p = s_wl (x_q n) := n_inj (by omega) (by omega) z.2
        refine z_lp (N := s_wl (x_q n)) (G := fun i => (∀ j, j < i → r (x_ts r t p + j) = s_wc (x_q n) j) → MG z_pI 188 51 [some (.ref 27), some (.int (Int32.ofNat n)), some (.int (1 : Int32)), some (.int (Int32.ofNat i))] [] g Q) ?_ ?_ (fun _ w => absurd w (by omega))
        · intro w
          refine X_188_51 _ _ _ g ?_
          rw [if_neg (by decide), k39, k40, sb, zl, if_pos (Int32.le_refl _), if_neg (by decide)]
          have m : x_m r t p (x_q n) := ⟨z.1, by omega, w⟩
          have e' : x_nf r t p 8 0 = Int32.ofNat n := by rw [← e]; exact if_pos m
          rw [← e']
          exact q
        · intro i hi k w
          obtain ⟨g1, g2⟩ := f3 i hi
          refine X_188_51 _ _ _ g ?_
          obtain ⟨b1, b2⟩ := t_by T (s := x_ts r t p + i) (by omega)
          rw [if_neg (by decide), k39, k40, sb, zl, if_neg (fun z => by have := (n_lit_le (by omega) (by omega)).mp z; omega), n_add, T.1, n_ix (n := n) (by omega), C.1 n (by omega), n_s]
          refine ⟨b1, fun m6 e6 => ⟨n_bd (N := 9) (by omega) (by omega), g1, ?_⟩⟩
          rw [b2, if_pos (show x_ts r t p + i < t by omega)] at e6
          rw [C.2 _ (by unfold z_ix; omega), g2, e6]
          by_cases zc : r (x_ts r t p + i) = s_wc (x_q n) i
          · rw [show z_bt (r (x_ts r t p + i) = s_wc (x_q n) i) = 1 from z_bt_1.mpr zc]
            refine k (fun j hj => ?_)
            by_cases ej : j = i
            · subst ej; exact zc
            · exact w j (by omega)
          · rw [show z_bt (r (x_ts r t p + i) = s_wc (x_q n) i) = 0 from z_bt_0.mpr zc]
            exact bad (fun m => zc (m.2.2 i hi)) _
      · rw [show z_bt (x_k r t p = 1 ∧ Int32.ofNat (x_e r t p - x_ts r t p) = Int32.ofNat (s_wl (x_q n))) = 0 from z_bt_0.mpr z]
        exact bad (fun m => z ⟨m.1, by have := m.2.1; rw [show x_e r t p - x_ts r t p = s_wl (x_q n) by omega]⟩) _
  exact key 8 0 none none rfl rfl
/-- a fault stands -/
def St (g : zG) : Prop := ¬ g 27 37 = 0 ∧ ¬ g 27 37 ≤ 0
theorem M_187S {Q : Unit → zG → Prop} (s : St g) (q : Q () g) : MK z_pV 187 [.ref 27] g Q := by
  refine X_187 g ?_
  rw [if_neg s.2]
  exact q
theorem M_189S {lo hi : Int32} {Q : Unit → zG → Prop} (s : St g) (q : Q () g) : MK z_pV 189 [.ref 27, .int lo, .int hi] g Q := by
  refine X_189 _ _ g ?_
  rw [if_neg s.1, if_neg s.1]
  exact q
theorem M_191S {w o f : Int32} {Q : Unit → zG → Prop} (s : St g) (q : Q () g) : MK z_pV 191 [.ref 27, .int w, .int o, .int f] g Q := by
  refine X_191 _ _ _ g (X_191_3 _ _ _ _ g ?_)
  by_cases z : (g 27 50) ≤ 0
  · rw [if_pos z]; exact q
  · rw [if_neg z, if_neg s.1]; exact q
theorem St.of {c : Int32} (e : g 27 37 = c) (h : ¬ c = 0 ∧ ¬ c ≤ 0) : St g := by
  unfold St
  rw [e]
  exact h
theorem M_189e (A : Tk r t p g) {lo hi : Int32} {Q : Unit → zG → Prop} (q0 : ∀ c g2, (∀ K, e_nm r t p lo hi K = .inl (c, x_ts r t p)) → W7 g g2 → g2 27 37 = c → g2 27 38 = Int32.ofNat (x_ts r t p) → St g2 → (∀ i, ¬ i = 37 → ¬ i = 38 → g2 27 i = g 27 i) → Q () g2) (q1 : (∀ K, e_nm r t p lo hi K = K) → x_k r t p = 2 → (lo ≤ x_v r t p ∧ x_v r t p ≤ hi) → Q () g) : MK z_pV 189 [.ref 27, .int lo, .int hi] g Q := by
  obtain ⟨k37, k39, k40, k41, k42, hp, k9⟩ := A
  refine X_189 _ _ g ?_
  rw [if_pos k37, k41, k42]
  unfold e_nm at q0 q1
  by_cases z : x_k r t p = 2
  · rw [if_pos z, if_pos k37]
    by_cases w : lo ≤ x_v r t p ∧ x_v r t p ≤ hi
    · rw [if_pos w]
      exact q1 (fun K => by rw [if_pos z, if_pos w]) z w
    · rw [if_neg w]
      exact M_186e k37 (fun g2 w2 a b ke => q0 3 g2 (fun K => by rw [if_pos z, if_neg w]) w2 a (b.trans k40) (St.of a (by decide)) ke)
  · rw [if_neg z]
    refine M_186e k37 (fun g2 w2 a b ke => ?_)
    have s : St g2 := St.of a (by decide)
    rw [if_neg s.1]
    exact q0 2 g2 (fun K => by rw [if_neg z]) w2 a (b.trans k40) s ke
theorem M_189 (A : Tk r t p g) {lo hi : Int32} {Q : Unit → zG → Prop} (q0 : ∀ c g2, (∀ K, e_nm r t p lo hi K = .inl (c, x_ts r t p)) → W7 g g2 → g2 27 37 = c → g2 27 38 = Int32.ofNat (x_ts r t p) → St g2 → Q () g2) (q1 : (∀ K, e_nm r t p lo hi K = K) → x_k r t p = 2 → (lo ≤ x_v r t p ∧ x_v r t p ≤ hi) → Q () g) : MK z_pV 189 [.ref 27, .int lo, .int hi] g Q := M_189e A (fun c g2 e w a b s _ => q0 c g2 e w a b s) q1
def Li (n : Nat) (R : Nat → Nat → Int32) (g : zG) : Prop := g 27 50 = Int32.ofNat n ∧ n ≤ 16 ∧ ∀ k, k < 4 → g (66 + k) = R k
theorem Li.w7 (L : Li n R g) (w : W7 g g2) : Li n R g2 := ⟨(w.2 50 (by omega)).trans L.1, L.2.1, fun k hk => (w.1 _ (by omega)).trans (L.2.2 k hk)⟩
theorem M_191 (A : Tk r t p g) (L : Li n R g) {w o f : Int32} {Q : Unit → zG → Prop} (q5 : x_td n R w o f → ∀ g2, W7 g g2 → g2 27 37 = 5 → g2 27 38 = Int32.ofNat (x_ts r t p) → St g2 → Q () g2) (q : ¬ x_td n R w o f → Q () g) : MK z_pV 191 [.ref 27, .int w, .int o, .int f] g Q := by
  obtain ⟨k37, k39, k40, k41, k42, hp, k9⟩ := A
  obtain ⟨l50, l16, lr⟩ := L
  have l66 : g 66 = R 0 := lr 0 (by omega)
  have l67 : g 67 = R 1 := lr 1 (by omega)
  have l68 : g 68 = R 2 := lr 2 (by omega)
  refine X_191 _ _ _ g ?_
  refine z_lp (N := n) (G := fun i => (∀ j, j < i → ¬ (s_gr (R 0 j) = s_gr w ∧ R 1 j = o ∧ R 2 j = f)) → MG z_pV 191 3 [some (.ref 27), some (.int w), some (.int o), some (.int f), some (.int (Int32.ofNat i))] [] g Q) ?_ ?_ (fun _ w => absurd w (by omega))
  · intro v
    refine X_191_3 _ _ _ _ g ?_
    rw [l50, if_pos (Int32.le_refl _)]
    exact q (fun z => z v)
  · intro i hi k v
    have bi := n_bd (i := i) (N := 16) (by omega) (by omega)
    have go : ¬ (s_gr (R 0 i) = s_gr w ∧ R 1 i = o ∧ R 2 i = f) → MG z_pV 191 3 [some (.ref 27), some (.int w), some (.int o), some (.int f), some (.int (Int32.ofNat i + (1 : Int32)))] [] g Q := by
      intro z
      rw [n_s]
      refine k (fun j hj => ?_)
      by_cases ej : j = i
      · subst ej; exact z
      · exact v j (by omega)
    refine X_191_3 _ _ _ _ g ?_
    rw [l50, if_neg (fun z => by have := (n_lit_le (by omega) (by omega)).mp z; omega), if_pos k37, n_ix (by omega), l66, l67, l68]
    refine ⟨bi, fun m2 e2 m3 e3 => ?_⟩
    have e2 : m2 = s_gr (R 0 i) := e2
    have e3 : m3 = s_gr w := e3
    rw [e2, e3]
    by_cases z1 : s_gr (R 0 i) = s_gr w
    · rw [if_pos z1]
      refine ⟨bi, ?_⟩
      by_cases z2 : R 1 i = o
      · rw [if_pos z2]
        refine ⟨bi, ?_⟩
        by_cases z3 : R 2 i = f
        · rw [if_pos z3]
          refine M_186 k37 (fun g2 w2 a b => ?_)
          have s : St g2 := St.of a (by decide)
          have fin := q5 (fun y => y i hi ⟨z1, z2, z3⟩) g2 w2 a (b.trans k40) s
          refine X_191_3 _ _ _ _ g2 ?_
          by_cases y : (g2 27 50) ≤ (Int32.ofNat i + (1 : Int32))
          · rw [if_pos y]; exact fin
          · rw [if_neg y, if_neg s.1]; exact fin
        · rw [if_neg z3]; exact go (fun y => z3 y.2.2)
      · rw [if_neg z2]; exact go (fun y => z2 y.2.1)
    · rw [if_neg z1]; exact go (fun y => z1 y.1)
def Wt (g0 g : zG) : Prop := ∀ k i, scr k i = false → g k i = g0 k i
theorem Wt.w7 (W : Wt g0 g) (w : W7 g g2) : Wt g0 g2 := by
  intro k i hs
  by_cases e : k = 27
  · subst e
    by_cases z : 37 ≤ i ∧ i ≤ 42
    · exfalso
      have c : i = 37 ∨ i = 38 ∨ i = 39 ∨ i = 40 ∨ i = 41 ∨ i = 42 := by omega
      rcases c with c | c | c | c | c | c <;> subst c <;> cases hs
    · exact (w.2 i z).trans (W 27 i hs)
  · rw [w.1 k e]
    exact W k i hs
theorem Wt.tq (W : Wt g0 g) (T : Tq r t g0) : Tq r t g := by
  refine ⟨(W 27 35 rfl).trans T.1, ?_, T.2.2⟩
  rw [← T.2.1]
  funext i
  exact W 59 i rfl
/-- what is to be shown of an outcome -/
def Hm (r : Nat → Int32) (t : Nat) (g0 : zG) (Q : Unit → zG → Prop) : xO → Prop
  | .inl x => ∀ g', Wt g0 g' → g' 27 37 = x.1 → g' 27 38 = Int32.ofNat x.2 → St g' → Q () g'
  | .inr x => ∀ g', Wt g0 g' → Tk r t x.1 g' → Li x.2.1 x.2.2 g' → Q () g'
def AD (x1 o x2 v : Int32) (g : zG) (Q : Unit → zG → Prop) : Prop := (0 ≤ (g 27 50).toInt ∧ (g 27 50).toInt < 16) ∧ (∀ g1 : zG, g1 = (z_up2 g 66 (z_ix (g 27 50)) x1) → (0 ≤ (g1 27 50).toInt ∧ (g1 27 50).toInt < 16) ∧ (∀ g2 : zG, g2 = (z_up2 g1 67 (z_ix (g1 27 50)) o) → (0 ≤ (g2 27 50).toInt ∧ (g2 27 50).toInt < 16) ∧ (∀ g3 : zG, g3 = (z_up2 g2 68 (z_ix (g2 27 50)) x2) → (0 ≤ (g3 27 50).toInt ∧ (g3 27 50).toInt < 16) ∧ (∀ g4 : zG, g4 = (z_up2 g3 69 (z_ix (g3 27 50)) v) → ∀ g5 : zG, g5 = (z_up2 g4 27 50 ((g4 27 50) + (1 : Int32))) → MK z_pV 187 [.ref 27] g5 (fun _ g6 => Q () g6)))))
def TE (x1 o x2 v : Int32) (g : zG) (Q : Unit → zG → Prop) : Prop := if (g 27 37) = 0 then (if (g 27 41) = (3 : Int32) then (if (g 27 37) = 0 then (AD x1 o x2 v g Q) else (Q () g)) else (MK z_pV 186 [.ref 27, .int (2 : Int32)] g (fun _ g1 => if (g1 27 37) = 0 then (AD x1 o x2 v g1 Q) else (Q () g1)))) else (if (g 27 37) = 0 then (AD x1 o x2 v g Q) else (Q () g))
def TL (x1 o x2 : Int32) (g : zG) (Q : Unit → zG → Prop) : Prop := MK z_pV 191 [.ref 27, .int x1, .int o, .int x2] g (fun _ g1 => MK z_pV 187 [.ref 27] g1 (fun _ g2 => ∀ m : Int32, m = x_hi x1 → MK z_pV 189 [.ref 27, .int (x_lo x1), .int m] g2 (fun _ g3 => MK z_pV 187 [.ref 27] g3 (fun _ g4 => TE x1 o x2 (g3 27 42) g4 Q))))
def TW (x1 x2 : Int32) (g : zG) (Q : Unit → zG → Prop) : Prop := MK z_pV 191 [.ref 27, .int x1, .int (0 : Int32), .int x2] g (fun _ g1 => MK z_pV 187 [.ref 27] g1 (fun _ g2 => TE x1 0 x2 0 g2 Q))
theorem TE_S {x1 o x2 v : Int32} {Q : Unit → zG → Prop} (s : St g) (q : Q () g) : TE x1 o x2 v g Q := by
  unfold TE
  rw [if_neg s.1, if_neg s.1]
  exact q
theorem TL_S {x1 o x2 : Int32} {Q : Unit → zG → Prop} (s : St g) (q : Q () g) : TL x1 o x2 g Q := M_191S s (M_187S s (fun _ _ => M_189S s (M_187S s (TE_S s q))))
end TH
