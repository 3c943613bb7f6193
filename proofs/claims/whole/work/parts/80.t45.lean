/-! rounds: the class's side -/
def q_dd (g : zG) (a b : Nat) : Int32 := (((if 0 ≤ (g 28 a - g 28 b) then (g 28 a - g 28 b) else (-(g 28 a - g 28 b))) + (if 0 ≤ (g 29 a - g 29 b) then (g 29 a - g 29 b) else (-(g 29 a - g 29 b)))) + (9 : Int32)) / (10 : Int32)
/-- the day at a place -/
def w_dy (g : zG) (l : List Nat) : Nat → Int32
  | 0 => 0
  | k + 1 => w_dy g l k + q_dd g (o_at l k) (o_at l (k + 1))
def w_wt (g : zG) (l : List Nat) : Nat → Int32
  | 0 => 0
  | k + 1 => w_wt g l k + w_dy g l (k + 1) * q_un g (Int32.ofNat (o_at l (k + 1)))
def Sc (h h2 : zH) : Prop := Sh h h2 ∧ ∀ k, ¬ (9 ≤ k ∧ k ≤ 13) → z_iv h2 k = z_iv h k
def Rd (g : zG) (n : Nat) (h : zH) : Prop := z_iv h 9 6 = Int32.ofNat n ∧ (∀ a, a < n → z_iv h (9 + 3) a = q_un g (Int32.ofNat a)) ∧ ∀ a, a < n → ∀ b, b < n → z_iv h (9 + 4) (6 * a + b) = q_dd g a b
def Ro (n : Nat) (l : List Nat) (h : zH) : Prop := l.length = n ∧ ∀ i, i < n → z_iv h (9 + 2) i = Int32.ofNat (o_at l i) ∧ o_at l i < n
def Bs (g : zG) (n : Nat) (b : List Nat) (h : zH) : Prop := z_iv h 9 0 = w_wt g b (n - 1) ∧ z_iv h 9 1 = w_dy g b (n - 1) ∧ ∀ i, i < n → z_iv h (9 + 1) i = Int32.ofNat (o_at b i)
theorem iv_ne {h : zH} {a j k : Nat} {v : Int32} (hk : ¬ k = a) : z_iv (z_sI h a j v) k = z_iv h k := up_ne hk
theorem iw_ne {h : zH} {a k : Nat} {r : Nat → Int32} (hk : ¬ k = a) : z_iv (z_sW h a r) k = z_iv h k := z_row_ne hk
theorem iw_at {h : zH} {a : Nat} {r : Nat → Int32} : z_iv (z_sW h a r) a = r := z_row_at
section RA
variable {c n : Nat} {lm : Nat → Nat} {g : zG} {h h2 : zH} {l b : List Nat}
theorem Sc.refl (h : zH) : Sc h h := ⟨Sh.refl h, fun _ _ => rfl⟩
theorem Sc.trans {a b c : zH} (x : Sc a b) (y : Sc b c) : Sc a c := ⟨x.1.trans y.1, fun k hk => (y.2 k hk).trans (x.2 k hk)⟩
theorem Sc.sI {a j : Nat} {v : Int32} (s : Sc h h2) (ha : 9 ≤ a ∧ a ≤ 13) : Sc h (z_sI h2 a j v) := ⟨s.1.trans Sh.sI, fun k hk => (up_ne (by omega)).trans (s.2 k hk)⟩
theorem Sc.sW {a : Nat} {r : Nat → Int32} (s : Sc h h2) (ha : 9 ≤ a ∧ a ≤ 13) : Sc h (z_sW h2 a r) := ⟨s.1.trans Sh.sW, fun k hk => (z_row_ne (by omega)).trans (s.2 k hk)⟩
theorem Sc.r11 (s : Sh h h2) (e : ∀ k, ¬ k = 9 + 2 → z_iv h2 k = z_iv h k) : Sc h h2 := ⟨s, fun k hk => e k (by omega)⟩
theorem RC.sc (R : RC lm g h) (s : Sc h h2) : RC lm g h2 := by
  obtain ⟨⟨s1, s2, s3, s4, s5, s6⟩, e⟩ := s
  have rx := R.x.iv (h2 := h2) s5 s4 (fun d hd => e d (by have := R.f.ge hd (by omega); omega)) R.w R.f
  refine ⟨Sh.cw ⟨s1, s2, s3, s4, s5, s6⟩ R.w, fun a ha => by rw [s3]; exact R.f a ha, by unfold BD; rw [s5]; exact R.b, by unfold IJ; rw [s5]; exact R.j, fun k i c' j' L => ?_, rx⟩
  have L' : Loc (q_n g 1) (q_n g 20) (q_n g 55) (q_n g 45) lm h k i c' j' := L.eq (h := h) (by rw [s5]) (fun i _ => by rw [s5]) (fun i _ => by rw [s5]) (fun i _ => by rw [s5]) (fun i _ => by rw [s5])
  have hc : ¬ (9 ≤ c' ∧ c' ≤ 13) := by
    rcases L'.cell R.w R.f with q | q | q | q | ⟨B, q, q2⟩ | q
    · omega
    · omega
    · omega
    · omega
    · have := R.b.c q; omega
    · omega
  rw [e c' hc]
  exact R.i k i c' j' L'
theorem Sc.kq (s : Sc h h2) : Kq h h2 := by
  obtain ⟨⟨s1, s2, s3, s4, s5, s6⟩, e⟩ := s
  refine ⟨fun k h1 h2 => ⟨by rw [s3], by rw [s4], by rw [s5], e k (by omega)⟩, by rw [s6], e _ (by unfold z_SC; omega), by rw [s4]⟩
theorem Sc.rm (s : Sc h h2) : Rm h h2 := Rm.sh s.1
theorem Rd.eq (D : Rd g n h) (e1 : z_iv h2 9 6 = z_iv h 9 6) (e2 : z_iv h2 (9 + 3) = z_iv h (9 + 3)) (e3 : z_iv h2 (9 + 4) = z_iv h (9 + 4)) : Rd g n h2 := by
  unfold Rd
  rw [e1, e2, e3]
  exact D
theorem Ro.eq (D : Ro n l h) (e1 : z_iv h2 (9 + 2) = z_iv h (9 + 2)) : Ro n l h2 := by
  unfold Ro
  rw [e1]
  exact D
theorem Bs.eq (D : Bs g n l h) (e1 : z_iv h2 9 = z_iv h 9) (e2 : z_iv h2 (9 + 1) = z_iv h (9 + 1)) : Bs g n l h2 := by
  unfold Bs
  rw [e1, e2]
  exact D
theorem K_65 (W : CW h) (F : z_tg h 9 = 6) (D : Rd g n h) (O : Ro n l h) (hn : n ≤ 6) {p : Nat} (hp : p + 1 < n) : KV z_pI 65 [.ref 9, .int (Int32.ofNat (p + 1))] h (q_dd g (o_at l p) (o_at l (p + 1))) := by
  refine kv_of (X_65 9 _ h W F ?_)
  obtain ⟨oa, ha⟩ := O.2 p (by omega)
  obtain ⟨ob, hb⟩ := O.2 (p + 1) hp
  have c5 : ∀ x, x < 6 → (0 : Int32) ≤ Int32.ofNat x ∧ Int32.ofNat x ≤ (5 : Int32) := by decide +kernel
  have c1 : ∀ x, x < 5 → (1 : Int32) ≤ Int32.ofNat (x + 1) ∧ Int32.ofNat (x + 1) ≤ (5 : Int32) := by decide +kernel
  rw [if_pos (c1 p (by omega)), n_p1, n_ix (by omega), n_ix (by omega), oa, ob, if_pos (c5 _ (by omega)), ry_m5 _ (by omega) _ (by omega), n_ix (by omega)]
  refine ⟨n_bd (N := 6) (by omega) (by omega), n_bd (N := 6) (by omega) (by omega), fun _ => n_bd (N := 36) (by omega) (by omega), fun m7 e7 => ⟨?_, rfl⟩⟩
  rw [if_pos (c5 _ (by omega)), D.2.2 _ ha _ hb] at e7
  exact e7
theorem K_66 (W : CW h) (F : z_tg h 9 = 6) (D : Rd g n h) (O : Ro n l h) (h1 : 1 ≤ n) (hn : n ≤ 6) : KV z_pI 66 [.ref 9] h (w_wt g l (n - 1)) := by
  refine kv_of (X_66 9 h W F ?_)
  have c5 : ∀ x, x < 6 → (0 : Int32) ≤ Int32.ofNat x ∧ Int32.ofNat x ≤ (5 : Int32) := by decide +kernel
  refine z_lp (N := n - 1) (G := fun k => ∀ u4, KG z_pI 66 6 [some (.ref 9), some (.int (w_dy g l k)), some (.int (w_wt g l k)), some (.int (Int32.ofNat (k + 1))), u4] [] h _) ?_ ?_ none
  · intro u4
    refine X_66_6 9 _ _ _ _ h W F ?_
    rw [D.1, if_pos ((n_lit_le (by omega) (by omega)).mpr (by omega))]
    exact ⟨rfl, rfl⟩
  · intro k hk w u4
    refine X_66_6 9 _ _ _ _ h W F ?_
    obtain ⟨ob, hb⟩ := O.2 (k + 1) (by omega)
    rw [D.1, if_neg (fun z => by have := (n_lit_le (by omega) (by omega)).mp z; omega), if_neg (fun z => by have := (n_lit_le (k := 6) (by omega) (by omega)).mp z; omega), n_ix (by omega), ob]
    refine ⟨n_bd (N := 6) (by omega) (by omega), _, K_65 W F D O hn (by omega), fun _ => n_bd (N := 6) (by omega) (by omega), fun m6 e6 => ?_⟩
    rw [if_pos (c5 _ (by omega)), n_ix (by omega), D.2.1 _ hb, Int32.mul_comm] at e6
    rw [n_s, e6]
    exact w _
theorem K_62 (W : CW h) (F : z_tg h 9 = 6) (D : Rd g n h) (O : Ro n l h) (h1 : 1 ≤ n) (hn : n ≤ 6) {Q : Unit → zH → Prop} (q : ∀ h', Sc h h' → Rd g n h' → Ro n l h' → Bs g n l h' → Q () h') : KK z_pV 62 [.ref 9] h Q := by
  refine X_62 9 h W F ⟨_, K_66 W F D O h1 hn, ?_⟩
  refine z_lp (N := n - 1) (G := fun k => ∀ h', Sc h h' → Rd g n h' → Ro n l h' → z_iv h' 9 0 = w_wt g l (n - 1) → z_iv h' 9 1 = w_dy g l k → KG z_pV 62 15 [some (.ref 9), some (.int (Int32.ofNat (k + 1)))] [] h' Q) ?_ ?_ _ (((Sc.refl h).sI (by omega)).sI (by omega)) (D.eq (by rw [v_no (by omega), v_no (by omega)]) ((iv_ne (by omega)).trans (iv_ne (by omega))) ((iv_ne (by omega)).trans (iv_ne (by omega)))) (O.eq ((iv_ne (by omega)).trans (iv_ne (by omega)))) (by rw [v_no (by omega), v_at]) (by rw [v_at]; rfl)
  · intro h' s D' O' e0 e1
    have W' := s.1.cw W
    have F' := s.1.tg F
    refine X_62_15 9 _ h' W' F' ?_
    rw [D'.1, if_pos ((n_lit_le (by omega) (by omega)).mpr (by omega))]
    refine ⟨⟨by omega, by decide⟩, q _ (s.sW (by omega)) (D'.eq ?_ ?_ ?_) (O'.eq ?_) ⟨?_, ?_, ?_⟩⟩
    · exact congrFun (iw_ne (by omega)) 6
    · exact iw_ne (by omega)
    · exact iw_ne (by omega)
    · exact iw_ne (by omega)
    · exact (congrFun (iw_ne (by omega)) 0).trans e0
    · exact (congrFun (iw_ne (by omega)) 1).trans e1
    · intro i hi
      refine (congrFun iw_at i).trans ?_
      show (if 0 ≤ i ∧ i < 0 + 6 then z_iv h' (9 + 2) (0 + (i - 0)) else z_iv h' (9 + 1) i) = _
      rw [if_pos (by omega), show 0 + (i - 0) = i by omega]
      exact (O'.2 i hi).1
  · intro k hk w h' s D' O' e0 e1
    have W' := s.1.cw W
    have F' := s.1.tg F
    refine X_62_15 9 _ h' W' F' ?_
    rw [D'.1, if_neg (fun z => by have := (n_lit_le (by omega) (by omega)).mp z; omega), n_s]
    refine ⟨_, K_65 W' F' D' O' hn (by omega), ?_⟩
    refine w _ (s.sI (by omega)) (D'.eq ?_ ?_ ?_) (O'.eq ?_) ?_ ?_
    · rw [v_no (by omega)]
    · exact iv_ne (by omega)
    · exact iv_ne (by omega)
    · exact iv_ne (by omega)
    · rw [v_no (by omega)]; exact e0
    · rw [v_at, e1]; rfl
theorem K_64 (W : CW h) (F : z_tg h 9 = 6) (O : Ro n l h) (hn : n ≤ 6) {x y : Nat} (hx : x < n) (hy : y < n) {Q : Unit → zH → Prop} (q : ∀ h', Sh h h' → (∀ k, ¬ k = 9 + 2 → z_iv h' k = z_iv h k) → Ro n (ry_sw l x y) h' → Q () h') : KK z_pV 64 [.ref 9, .int (Int32.ofNat x), .int (Int32.ofNat y)] h Q := by
  refine X_64 9 _ _ h W F ?_
  have c5 : ∀ x, x < 6 → (0 : Int32) ≤ Int32.ofNat x ∧ Int32.ofNat x ≤ (5 : Int32) := by decide +kernel
  have bx := n_bd (i := x) (N := 6) (by omega) (by omega)
  have bz := n_bd (i := y) (N := 6) (by omega) (by omega)
  rw [if_pos (c5 _ (by omega)), if_pos (c5 _ (by omega)), n_ix (by omega), n_ix (by omega)]
  refine ⟨bx, bz, bx, bz, q _ (Sh.sI.trans Sh.sI) (fun k hk => (up_ne hk).trans (up_ne hk)) ⟨sw_len.trans O.1, fun i hi => ?_⟩⟩
  rw [sw_at (by rw [O.1]; exact hx) (by rw [O.1]; exact hy)]
  by_cases e1 : i = y
  · subst e1
    rw [if_pos rfl, v_at]
    exact O.2 x hx
  · rw [if_neg e1, v_no (fun z => e1 z.2)]
    by_cases e2 : i = x
    · subst e2
      rw [if_pos rfl, v_at]
      exact O.2 y hy
    · rw [if_neg e2, v_no (fun z => e2 z.2)]
      exact O.2 i hi
theorem K_63c (hn : n ≤ 6) {Q : Int32 → zH → Prop} (y1 y2 : Int32) : ∀ (f lo hi : Nat) (l : List Nat) (h : zH), CW h → z_tg h 9 = 6 → Ro n l h → hi ≤ lo + f → lo + f ≤ 100 → hi < n → (∀ h', Sh h h' → (∀ k, ¬ k = 9 + 2 → z_iv h' k = z_iv h k) → Ro n (ry_rv f lo hi l) h' → Q 1 h') → KG z_pI 63 93 [some (.ref 9), some (.int y1), some (.int y2), some (.int (Int32.ofNat lo)), some (.int (Int32.ofNat hi))] [] h Q := by
  intro f
  induction f with
  | zero =>
    intro lo hi l h W F O b1 b2 b3 q
    refine X_63_93 9 _ _ _ _ h W F ?_
    rw [if_pos ((n_lit_le (by omega) (by omega)).mpr (by omega))]
    exact q h (Sh.refl h) (fun _ _ => rfl) O
  | succ f ih =>
    intro lo hi l h W F O b1 b2 b3 q
    refine X_63_93 9 _ _ _ _ h W F ?_
    by_cases e : hi ≤ lo
    · rw [if_pos ((n_lit_le (by omega) (by omega)).mpr e)]
      refine q h (Sh.refl h) (fun _ _ => rfl) ?_
      unfold ry_rv
      rw [if_pos e]
      exact O
    · rw [if_neg (fun z => e ((n_lit_le (by omega) (by omega)).mp z))]
      refine K_64 W F O hn (by omega) b3 (fun h' s r O' => ⟨s, ?_⟩)
      obtain ⟨k, rfl⟩ : ∃ k, hi = k + 1 := ⟨hi - 1, by omega⟩
      rw [n_s, n_m1]
      refine ih (lo + 1) k _ h' (s.cw W) (s.tg F) O' (by omega) (by omega) (by omega) (fun h2 s2 r2 O2 => q h2 (s.trans s2) (fun k hk => (r2 k hk).trans (r k hk)) ?_)
      unfold ry_rv
      rw [if_neg e]
      exact O2
theorem ot_le {t : Nat} : ∀ k, ry_ot l t k ≤ k := by
  intro k
  induction k with
  | zero => exact Nat.le_refl _
  | succ k ih =>
    unfold ry_ot
    by_cases e : k + 1 ≤ t
    · rw [if_pos e]; exact Nat.le_refl _
    · rw [if_neg e]
      by_cases e2 : o_at l t ≤ o_at l (k + 1)
      · rw [if_pos e2]; exact Nat.le_refl _
      · rw [if_neg e2]; omega
theorem K_63d (W : CW h) (F : z_tg h 9 = 6) (D : Rd g n h) (O : Ro n l h) (hn : n ≤ 6) {t : Nat} (ht : t < n) {Q : Int32 → zH → Prop} : ∀ k, k < n → (∀ y, y = ry_ot l t k → KK z_pV 64 [.ref 9, .int (Int32.ofNat t), .int (Int32.ofNat y)] h (fun _ h3 => Sh h h3 ∧ KG z_pI 63 93 [some (.ref 9), some (.int (Int32.ofNat t)), some (.int (Int32.ofNat y)), some (.int (Int32.ofNat t + (1 : Int32))), some (.int ((z_iv h3 9 6) - (1 : Int32)))] [] h3 Q)) → ∀ u3 u4, KG z_pI 63 49 [some (.ref 9), some (.int (Int32.ofNat t)), some (.int (Int32.ofNat k)), u3, u4] [] h Q := by
  intro k
  induction k with
  | zero =>
    intro _ q u3 u4
    refine X_63_49 9 _ _ _ _ h W F ?_
    rw [if_pos ((n_lit_le (by omega) (by omega)).mpr (by omega))]
    exact q 0 rfl
  | succ k ih =>
    intro hk q u3 u4
    refine X_63_49 9 _ _ _ _ h W F ?_
    unfold ry_ot at q
    by_cases e : k + 1 ≤ t
    · rw [if_pos e] at q
      rw [if_pos ((n_lit_le (by omega) (by omega)).mpr e)]
      exact q _ rfl
    · rw [if_neg e] at q
      obtain ⟨oa, ha⟩ := O.2 (k + 1) hk
      obtain ⟨ob, hb⟩ := O.2 t ht
      rw [if_neg (fun z => e ((n_lit_le (by omega) (by omega)).mp z)), n_ix (by omega), n_ix (by omega), oa, ob]
      refine ⟨n_bd (N := 6) (by omega) (by omega), n_bd (N := 6) (by omega) (by omega), ?_⟩
      by_cases e2 : o_at l t ≤ o_at l (k + 1)
      · rw [if_pos e2] at q
        rw [if_pos ((n_lit_le (by omega) (by omega)).mpr e2)]
        exact q _ rfl
      · rw [if_neg e2] at q
        rw [if_neg (fun z => e2 ((n_lit_le (by omega) (by omega)).mp z)), n_m1]
        exact ih (by omega) q _ _
theorem K_63a (W : CW h) (F : z_tg h 9 = 6) (D : Rd g n h) (O : Ro n l h) (hn : n ≤ 6) {Q : Int32 → zH → Prop} : ∀ t, t + 1 < n → (ry_tn l t = 0 → Q 0 h) → (∀ s, s = ry_tn l t → 1 ≤ s → s + 1 < n → ∀ u3 u4, KG z_pI 63 49 [some (.ref 9), some (.int (Int32.ofNat s)), some (.int (Int32.ofNat n - (1 : Int32))), u3, u4] [] h Q) → ∀ u2 u3 u4, KG z_pI 63 7 [some (.ref 9), some (.int (Int32.ofNat t)), u2, u3, u4] [] h Q := by
  intro t
  induction t with
  | zero =>
    intro _ q0 q1 u2 u3 u4
    refine X_63_7 9 _ _ _ _ h W F ?_
    rw [if_pos (by decide), if_neg (by decide)]
    exact q0 rfl
  | succ t ih =>
    intro ht q0 q1 u2 u3 u4
    refine X_63_7 9 _ _ _ _ h W F ?_
    unfold ry_tn at q0 q1
    obtain ⟨oa, ha⟩ := O.2 (t + 1) (by omega)
    obtain ⟨ob, hb⟩ := O.2 (t + 2) ht
    have p1 : (1 : Int32) ≤ Int32.ofNat (t + 1) := (n_lit_le (k := 1) (by omega) (by omega)).mpr (by omega)
    rw [if_neg (fun z => by have := (n_lit_lt (n := 1) (by omega) (by omega)).mp z; omega), n_s, n_ix (by omega), n_ix (by omega), oa, ob, D.1]
    refine ⟨n_bd (N := 6) (by omega) (by omega), n_bd (N := 6) (by omega) (by omega), ?_⟩
    by_cases e : o_at l (t + 1) ≤ o_at l (t + 2)
    · rw [if_pos e] at q1
      rw [if_pos ((n_lit_le (by omega) (by omega)).mpr e), if_pos p1]
      exact q1 _ rfl (by omega) ht _ _
    · rw [if_neg e] at q0 q1
      rw [if_neg (fun z => e ((n_lit_le (by omega) (by omega)).mp z)), n_m1]
      exact ih (by omega) q0 q1 _ _ _
theorem K_63 (W : CW h) (F : z_tg h 9 = 6) (D : Rd g n h) (O : Ro n l h) (h1 : 1 ≤ n) (hn : n ≤ 6) {Q : Int32 → zH → Prop} (q0 : ry_nx n l = none → Q 0 h) (q1 : ∀ l' h', ry_nx n l = some l' → Sh h h' → (∀ k, ¬ k = 9 + 2 → z_iv h' k = z_iv h k) → Ro n l' h' → Q 1 h') : KK z_pI 63 [.ref 9] h Q := by
  refine X_63 9 h W F ?_
  rw [D.1]
  by_cases e1 : n = 1
  · subst e1
    refine X_63_7 9 _ _ _ _ h W F ?_
    rw [if_pos (by decide), if_neg (by decide)]
    exact q0 rfl
  · obtain ⟨t, rfl⟩ : ∃ t, n = t + 2 := ⟨n - 2, by omega⟩
    have e2 : Int32.ofNat (t + 2) - (2 : Int32) = Int32.ofNat t := by
      have : ∀ t, t < 5 → Int32.ofNat (t + 2) - (2 : Int32) = Int32.ofNat t := by decide +kernel
      exact this t (by omega)
    rw [e2]
    have eT : t + 2 - 2 = t := by omega
    have eN : t + 2 - 1 = t + 1 := by omega
    unfold ry_nx at q0 q1
    rw [eT] at q0 q1
    rw [eN] at q1
    refine K_63a W F D O hn t (by omega) (fun z => q0 (if_pos z)) (fun s es s1 s2 u3 u4 => ?_) _ _ _
    subst es
    rw [if_neg (by omega)] at q1
    rw [n_p1 (r := t + 1)]
    refine K_63d W F D O hn (by omega) (t + 1) (by omega) (fun y ey => ?_) _ _
    subst ey
    have ol := ot_le (l := l) (t := ry_tn l t) (t + 1)
    refine K_64 W F O hn (by omega) (by omega) (fun h' s r O' => ⟨s, ?_⟩)
    rw [r 9 (by omega), D.1, n_s, n_p1 (r := t + 1)]
    exact K_63c hn _ _ 6 _ _ _ h' (s.cw W) (s.tg F) O' (by omega) (by omega) (by omega) (fun h2 s2 r2 O2 => q1 _ h2 rfl (s.trans s2) (fun k hk => (r2 k hk).trans (r k hk)) O2)
theorem K_61 (W : CW h) (F : z_tg h 9 = 6) (D : Rd g n h) (hn : n ≤ 6) {m : Nat} (hm : m < n) {Q : Unit → zH → Prop} (q : ∀ h', Sh h h' → (∀ k, ¬ k = 9 + 2 → z_iv h' k = z_iv h k) → Ro n (ry_st n m) h' → Q () h') : KK z_pV 61 [.ref 9, .int (Int32.ofNat m)] h Q := by
  refine X_61 9 _ h W F ?_
  have fin : ∀ h', Sh h h' → (∀ k, ¬ k = 9 + 2 → z_iv h' k = z_iv h k) → (∀ i, i < n → z_iv h' (9 + 2) i = Int32.ofNat (ry_si m i)) → Q () h' := by
    intro h' s r e
    refine q h' s r ⟨st_len, fun i hi => ?_⟩
    have w := ry_sta n (by omega) m hm i hi
    rw [w.1]
    exact ⟨e i hi, w.2⟩
  refine z_lp (N := n) (G := fun k => ∀ p h', p = (if m < k then k else k + 1) → Sh h h' → (∀ k, ¬ k = 9 + 2 → z_iv h' k = z_iv h k) → (∀ i, i < p → z_iv h' (9 + 2) i = Int32.ofNat (ry_si m i)) → KG z_pV 61 11 [some (.ref 9), some (.int (Int32.ofNat m)), some (.int (Int32.ofNat p)), some (.int (Int32.ofNat k))] [] h' Q) ?_ ?_ 1 _ rfl Sh.sI (fun k hk => up_ne hk) (fun i hi => ?_)
  · intro p h' ep s r e
    refine X_61_11 9 _ _ _ h' (s.cw W) (s.tg F) ?_
    rw [r 9 (by omega), D.1, if_pos ((n_lit_le (by omega) (by omega)).mpr (by omega))]
    rw [if_pos hm] at ep
    exact fin h' s r (fun i hi => e i (by omega))
  · intro k hk w p h' ep s r e
    refine X_61_11 9 _ _ _ h' (s.cw W) (s.tg F) ?_
    have p7 : p ≤ k + 1 := by rw [ep]; split <;> omega
    rw [r 9 (by omega), D.1, if_neg (fun z => by have := (n_lit_le (by omega) (by omega)).mp z; omega), n_s]
    by_cases p6 : 6 ≤ p
    · rw [if_pos (show (6 : Int32) ≤ Int32.ofNat p from (n_lit_le (k := 6) (by omega) (by omega)).mpr p6)]
      exact fin h' s r (fun i hi => e i (by omega))
    · rw [if_neg (show ¬ (6 : Int32) ≤ Int32.ofNat p from fun z => p6 ((n_lit_le (k := 6) (by omega) (by omega)).mp z))]
      by_cases ek : k = m
      · subst ek
        rw [if_pos rfl]
        refine w p h' ?_ s r e
        rw [ep, if_neg (by omega), if_pos (by omega)]
      · rw [if_neg (fun z => ek (n_inj (by omega) (by omega) z)), n_s, n_ix (by omega)]
        refine ⟨n_bd (N := 6) (by omega) (by omega), w (p + 1) _ ?_ (s.trans Sh.sI) (fun k hk => (up_ne hk).trans (r k hk)) (fun i hi => ?_)⟩
        · rw [ep]
          split <;> split <;> omega
        · by_cases ei : i = p
          · subst ei
            rw [v_at]
            congr 1
            unfold ry_si
            rw [ep]
            split <;> split <;> (try split) <;> omega
          · rw [v_no (fun z => ei z.2)]
            exact e i (by omega)
  · have : i = 0 := by
      have : ¬ m < 0 := by omega
      omega
    subst this
    exact v_at
theorem K_60l (hn : n ≤ 6) (h1 : 1 ≤ n) {h0 : zH} (W0 : CW h0) (F0 : z_tg h0 9 = 6) (y1 : Int32) {Q : Unit → zH → Prop} : ∀ f, f ≤ 119 → ∀ (o : Option (List Nat)) (b : List Nat) (h : zH), Sc h0 h → Rd g n h → Bs g n b h → (∀ l, o = some l → Ro n l h) → (∀ b' h', ry_bs (fun l => w_wt g l (n - 1)) (ry_T n f o) (some b) = some b' → Sc h0 h' → Rd g n h' → Bs g n b' h' → Q () h') → KG z_pV 60 16 [some (.ref 9), some (.int y1), some (.int (if o = none then 0 else 1)), some (.int (Int32.ofNat (120 - f)))] [] h Q := by
  intro f
  induction f with
  | zero =>
    intro _ o b h s D B O q
    refine X_60_16 9 _ _ _ h (s.1.cw W0) (s.1.tg F0) ?_
    have e := q b h rfl s D B
    by_cases z : (if o = none then (0 : Int32) else 1) = 0
    · rw [if_pos z]; exact e
    · rw [if_neg z, if_pos (by decide)]; exact e
  | succ f ih =>
    intro hf o b h s D B O q
    have W := s.1.cw W0
    have F := s.1.tg F0
    refine X_60_16 9 _ _ _ h W F ?_
    cases o with
    | none =>
      rw [if_pos (if_pos rfl)]
      exact q b h rfl s D B
    | some l =>
      have O := O l rfl
      rw [if_neg (by rw [if_neg (fun z => nomatch z)]; decide), if_neg (fun z => by have := (n_lit_le (k := 120) (by omega) (by omega)).mp z; omega)]
      refine ⟨_, K_66 W F D O h1 hn, ?_⟩
      rw [B.1, n_s, show 120 - (f + 1) + 1 = 120 - f by omega]
      by_cases e : w_wt g b (n - 1) ≤ w_wt g l (n - 1)
      · rw [if_pos e]
        have eb : ry_bs (fun l => w_wt g l (n - 1)) (ry_T n (f + 1) (some l)) (some b) = ry_bs (fun l => w_wt g l (n - 1)) (ry_T n f (ry_nx n l)) (some b) := by
          show ry_bs _ (ry_T n f (ry_nx n l)) (if w_wt g b (n - 1) ≤ w_wt g l (n - 1) then some b else some l) = _
          rw [if_pos e]
        rw [eb] at q
        refine K_63 W F D O h1 hn (fun z => ⟨Sh.refl h, ?_⟩) (fun l' h' z s' r O' => ⟨s', ?_⟩)
        · rw [z] at q
          exact ih (by omega) none b h s D B (fun _ w => nomatch w) q
        · rw [z] at q
          exact ih (by omega) (some l') b h' (s.trans (Sc.r11 s' r)) (D.eq (by rw [r 9 (by omega)]) (r _ (by omega)) (r _ (by omega))) (B.eq (r _ (by omega)) (r _ (by omega))) (fun l2 w => by injection w with w; subst w; exact O') q
      · rw [if_neg e]
        have eb : ry_bs (fun l => w_wt g l (n - 1)) (ry_T n (f + 1) (some l)) (some b) = ry_bs (fun l => w_wt g l (n - 1)) (ry_T n f (ry_nx n l)) (some l) := by
          show ry_bs _ (ry_T n f (ry_nx n l)) (if w_wt g b (n - 1) ≤ w_wt g l (n - 1) then some b else some l) = _
          rw [if_neg e]
        rw [eb] at q
        refine K_62 W F D O h1 hn (fun h2 s2 D2 O2 B2 => ⟨s2.1, ?_⟩)
        have W2 := s2.1.cw W
        have F2 := s2.1.tg F
        refine K_63 W2 F2 D2 O2 h1 hn (fun z => ⟨Sh.refl h2, ?_⟩) (fun l' h' z s' r O' => ⟨s', ?_⟩)
        · rw [z] at q
          exact ih (by omega) none l h2 (s.trans s2) D2 B2 (fun _ w => nomatch w) q
        · rw [z] at q
          exact ih (by omega) (some l') l h' ((s.trans s2).trans (Sc.r11 s' r)) (D2.eq (by rw [r 9 (by omega)]) (r _ (by omega)) (r _ (by omega))) (B2.eq (r _ (by omega)) (r _ (by omega))) (fun l2 w => by injection w with w; subst w; exact O') q
theorem K_60 (W : CW h) (F : z_tg h 9 = 6) (D : Rd g n h) (hn : n ≤ 6) {m : Nat} (hm : m < n) {Q : Unit → zH → Prop} (q : ∀ b' h', ry_bs (fun l => w_wt g l (n - 1)) (ry_T n 120 (some (ry_st n m))) none = some b' → Sc h h' → Rd g n h' → Bs g n b' h' → Q () h') : KK z_pV 60 [.ref 9, .int (Int32.ofNat m)] h Q := by
  have h1 : 1 ≤ n := by omega
  refine X_60 9 _ h W F ?_
  refine K_61 W F D hn hm (fun h' s r O => ⟨s, ?_⟩)
  have D' : Rd g n h' := D.eq (by rw [r 9 (by omega)]) (r _ (by omega)) (r _ (by omega))
  have sc := Sc.r11 s r
  refine K_62 (s.cw W) (s.tg F) D' O h1 hn (fun h2 s2 D2 O2 B2 => ⟨s2.1, ?_⟩)
  have sc2 := sc.trans s2
  have q : ∀ b' h', ry_bs (fun l => w_wt g l (n - 1)) (ry_T n 119 (ry_nx n (ry_st n m))) (some (ry_st n m)) = some b' → Sc h h' → Rd g n h' → Bs g n b' h' → Q () h' := q
  refine K_63 (sc2.1.cw W) (sc2.1.tg F) D2 O2 h1 hn (fun z => ⟨Sh.refl h2, ?_⟩) (fun l' h' z s' r O' => ⟨s', ?_⟩)
  · rw [z] at q
    exact K_60l hn h1 W F _ 119 (by omega) none _ h2 sc2 D2 B2 (fun _ w => nomatch w) q
  · rw [z] at q
    exact K_60l hn h1 W F _ 119 (by omega) (some l') _ h' (sc2.trans (Sc.r11 s' r)) (D2.eq (by rw [r 9 (by omega)]) (r _ (by omega)) (r _ (by omega))) (B2.eq (r _ (by omega)) (r _ (by omega))) (fun l2 w => by injection w with w; subst w; exact O') q
end RA
