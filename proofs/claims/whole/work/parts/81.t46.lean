/-! rounds: the reference's side -/
def Wd (g g2 : zG) : Prop := ∀ k, ¬ (k = 84 ∨ k = 85) → g2 k = g k
def Rw (n : Nat) (l : List Nat) (g : zG) : Prop := ∀ i, i < n → g 84 i = Int32.ofNat (o_at l i) ∧ o_at l i < n
theorem n_dec {r : Nat} : Int32.ofNat r + (-1 : Int32) = Int32.ofNat r - (1 : Int32) := (Int32.sub_eq_add_neg _ _).symm
section RB
variable {c n : Nat} {lm : Nat → Nat} {g g2 : zG} {l : List Nat}
theorem Wd.refl (g : zG) : Wd g g := fun _ _ => rfl
theorem Wd.up {k i : Nat} {v : Int32} (w : Wd g g2) (hk : k = 84 ∨ k = 85) : Wd g (z_up2 g2 k i v) := fun j hj => (up_ne (by omega)).trans (w j hj)
theorem Wd.un (w : Wd g g2) (x : Int32) : q_un g2 x = q_un g x := by
  unfold q_un q_wk q_lt q_si q_n
  rw [w 46 (by decide), w 27 (by decide), w 55 (by decide), w 71 (by decide), w 72 (by decide), w 58 (by decide)]
theorem Wd.cn (w : Wd g g2) (o : Cn g) : Cn g2 := by
  unfold Cn
  rw [w 27 (by decide)]
  exact o
theorem Wd.se (w : Wd g g2) : SE g g2 := by
  intro k i _ hs
  by_cases q : k = 84 ∨ k = 85
  · rcases q with q | q <;> subst q <;> cases hs
  · rw [w k q]
theorem M_222 (w : Wd g g2) (N : g 27 1 = Int32.ofNat n) (h1 : 1 ≤ n) (hn : n ≤ 6) (O : Rw n l g2) {Q : Int32 → zG → Prop} (q : Q (w_dy g l (n - 1)) g2) : MK z_pI 222 [.ref 27] g2 Q := by
  refine X_222 g2 ?_
  refine z_lp (N := n - 1) (G := fun k => MG z_pI 222 4 [some (.ref 27), some (.int (w_dy g l k)), some (.int (Int32.ofNat (k + 1)))] [] g2 Q) ?_ ?_
  · refine X_222_4 _ _ g2 ?_
    rw [w 27 (by decide), N, if_pos ((n_lit_le (by omega) (by omega)).mpr (by omega))]
    exact q
  · intro k hk m
    refine X_222_4 _ _ g2 ?_
    obtain ⟨oa, ha⟩ := O k (by omega)
    obtain ⟨ob, hb⟩ := O (k + 1) (by omega)
    have b1 := n_bd (i := o_at l k) (N := 6) (by omega) (by omega)
    have b2 := n_bd (i := o_at l (k + 1)) (N := 6) (by omega) (by omega)
    rw [w 27 (by decide), N, if_neg (fun z => by have := (n_lit_le (by omega) (by omega)).mp z; omega), n_p1, n_s, n_ix (by omega), n_ix (by omega), oa, ob, n_ix (by omega), n_ix (by omega), w 28 (by decide), w 29 (by decide)]
    refine ⟨n_bd (N := 6) (by omega) (by omega), n_bd (N := 6) (by omega) (by omega), b1, b2, b1, b2, fun m3 e3 m4 e4 => ?_⟩
    rw [e3, e4]
    exact m
theorem M_223 (w : Wd g g2) (o : Cn g) (N : g 27 1 = Int32.ofNat n) (h1 : 1 ≤ n) (hn : n ≤ 6) (O : Rw n l g2) {Q : Int32 → zG → Prop} (q : Q (w_wt g l (n - 1)) g2) : MK z_pI 223 [.ref 27] g2 Q := by
  refine X_223 g2 ?_
  refine z_lp (N := n - 1) (G := fun k => MG z_pI 223 6 [some (.ref 27), some (.int (w_dy g l k)), some (.int (w_wt g l k)), some (.int (Int32.ofNat (k + 1)))] [] g2 Q) ?_ ?_
  · refine X_223_6 _ _ _ g2 ?_
    rw [w 27 (by decide), N, if_pos ((n_lit_le (by omega) (by omega)).mpr (by omega))]
    exact q
  · intro k hk m
    refine X_223_6 _ _ _ g2 ?_
    obtain ⟨oa, ha⟩ := O k (by omega)
    obtain ⟨ob, hb⟩ := O (k + 1) (by omega)
    have b1 := n_bd (i := o_at l k) (N := 6) (by omega) (by omega)
    have b2 := n_bd (i := o_at l (k + 1)) (N := 6) (by omega) (by omega)
    have b3 := n_bd (i := k + 1) (N := 6) (by omega) (by omega)
    rw [w.un, w 27 (by decide), N, if_neg (fun z => by have := (n_lit_le (by omega) (by omega)).mp z; omega), n_p1, n_s, n_ix (by omega), n_ix (by omega), oa, ob, n_ix (by omega), n_ix (by omega), w 28 (by decide), w 29 (by decide)]
    refine ⟨n_bd (N := 6) (by omega) (by omega), b3, b1, b2, b1, b2, fun m3 e3 m4 e4 => ⟨b3, w.cn o, ?_⟩⟩
    rw [e3, e4]
    exact m
theorem M_224 (w : Wd g g2) (N : g 27 1 = Int32.ofNat n) (hn : n ≤ 6) {v : Nat} (hv : v < 2147483648) {Q : Int32 → zG → Prop} (q : ∀ g3, Wd g g3 → g3 85 = g2 85 → (∀ i, i < n → g3 84 i = Int32.ofNat (o_at (ry_dg n v) i)) → Q (if ry_ok n v = true then 1 else 0) g3) : MK z_pI 224 [.ref 27, .int (Int32.ofNat v)] g2 Q := by
  refine X_224 _ g2 ?_
  rw [w 27 (by decide), N]
  refine z_lp (N := n) (G := fun j => ∀ g3, Wd g g3 → g3 85 = g2 85 → (∀ i, n - j ≤ i → i < n → g3 84 i = Int32.ofNat (o_at (ry_dg n v) i)) → MG z_pI 224 12 [some (.ref 27), some (.int (Int32.ofNat v)), some (.int (Int32.ofNat (v / 10 ^ j))), some (.int (Int32.ofNat (ry_ms n v j))), some (.int (Int32.ofNat (n - j) - (1 : Int32)))] [] g3 Q) ?_ ?_ g2 w rfl (fun i h1 h2 => absurd h1 (by omega)) |> (fun z => ?_)
  · rw [Nat.pow_zero, Nat.div_one, Nat.sub_zero] at z
    exact z
  · intro g3 w3 r3 e3
    refine X_224_12 _ _ _ _ g3 ?_
    rw [Nat.sub_self, if_pos (by decide), w3 27 (by decide), N, ry_m4 n (by omega)]
    have lt := ms_lt (n := n) (v := v) (by omega) n
    have m2 := (ry_m2 n (by omega)).2.1
    have dv : v / 10 ^ n < 2147483648 := Nat.lt_of_le_of_lt (Nat.div_le_self _ _) hv
    have e : z_bt ((Int32.ofNat (v / 10 ^ n) = 0) ∧ (Int32.ofNat (ry_ms n v n) = Int32.ofNat (2 ^ n - 1))) = if ry_ok n v = true then 1 else 0 := by
      by_cases k : ry_ok n v = true
      · rw [if_pos k]
        have k' := ok_iff.mp k
        exact z_bt_1.mpr ⟨by rw [k'.1]; rfl, by rw [k'.2]⟩
      · rw [if_neg k]
        refine z_bt_0.mpr (fun z => k (ok_iff.mpr ⟨n_inj (b := 0) dv (by omega) z.1, n_inj (by omega) (by omega) z.2⟩))
    rw [e]
    exact q g3 w3 r3 (fun i hi => e3 i (by omega) hi)
  · intro j hj m g3 w3 r3 e3
    obtain ⟨r, er⟩ : ∃ r, n - j = r + 1 := ⟨n - j - 1, by omega⟩
    have er' : n - (j + 1) = r := by omega
    have dv : v / 10 ^ j < 2147483648 := Nat.lt_of_le_of_lt (Nat.div_le_self _ _) hv
    have d10 := n_d10 dv
    have lt := ms_lt (n := n) (v := v) (by omega) j
    have m2 := (ry_m2 n (by omega)).2.1
    have md : v / 10 ^ j % 10 < 10 := Nat.mod_lt _ (by omega)
    refine X_224_12 _ _ _ _ g3 ?_
    rw [er, n_p1, if_neg (fun z => by have := n_lt.mp z; rw [n_i (by omega)] at this; exact absurd this (by show ¬ ((r : Int) < 0); omega)), n_ix (by omega), d10.2, d10.1, up_at, up_ne (by decide), w3 27 (by decide), N]
    have b := n_bd (i := r) (N := 6) (by omega) (by omega)
    refine ⟨b, b, fun _ => b, fun m8 e8 => ?_⟩
    have e9 : Int32.ofNat (ry_ms n v j) ||| m8 = Int32.ofNat (ry_ms n v (j + 1)) := by
      show _ = Int32.ofNat (ry_ms n v j ||| ry_bt n (v / 10 ^ j % 10))
      unfold ry_bt
      by_cases k : v / 10 ^ j % 10 < n
      · rw [if_neg (fun z => by have := (n_lit_le (by omega) (by omega)).mp z; omega)] at e8
        rw [if_pos k, e8]
        exact (ry_m3 _ (by omega) _ (by omega)).1
      · rw [if_pos ((n_lit_le (by omega) (by omega)).mpr (by omega))] at e8
        rw [if_neg k, e8, Nat.or_zero]
        exact Int32.or_zero
    rw [e9, n_dec, Nat.div_div_eq_div_mul, ← Nat.pow_succ]
    have m := m (z_up2 g3 84 r (Int32.ofNat (v / 10 ^ j % 10))) (w3.up (Or.inl rfl)) ((up_ne (by decide)).trans r3) (fun i h1 h2 => ?_)
    · rw [er'] at m
      exact m
    · rw [er'] at h1
      by_cases ei : i = r
      · subst ei
        rw [up_at, dg_at h2, show n - 1 - i = j by omega]
      · rw [up_nj (fun z => ei z.2)]
        exact e3 i (by omega) h2
theorem M_225 (h1 : 1 ≤ n) (hn : n ≤ 6) {Q : Int32 → zG → Prop} (q : Q (Int32.ofNat (10 ^ (n - 1))) g) : MK z_pI 225 [.ref 27, .int (Int32.ofNat n)] g Q := by
  refine X_225 _ g ?_
  refine z_lp (N := n - 1) (G := fun k => MG z_pI 225 4 [some (.ref 27), some (.int (Int32.ofNat n)), some (.int (Int32.ofNat (10 ^ k))), some (.int (Int32.ofNat (k + 1)))] [] g Q) ?_ ?_
  · refine X_225_4 _ _ _ g ?_
    rw [if_pos ((n_lit_le (by omega) (by omega)).mpr (by omega))]
    exact q
  · intro k hk m
    refine X_225_4 _ _ _ g ?_
    rw [if_neg (fun z => by have := (n_lit_le (by omega) (by omega)).mp z; omega), n_s]
    have e : Int32.ofNat (10 ^ k) * (10 : Int32) = Int32.ofNat (10 ^ (k + 1)) := by
      rw [Nat.pow_succ]
      exact n_mul
    rw [e]
    exact m
theorem INV.ddb (I : INV c lm g) {a b : Nat} (ha : a < q_n g 1) (hb : b < q_n g 1) : 0 ≤ (q_dd g a b).toInt ∧ (q_dd g a b).toInt ≤ 20 := by
  have x1 := I.bm.at (k := 28) (a := 0) (b := 99) (by decide) ha
  have x2 := I.bm.at (k := 28) (a := 0) (b := 99) (by decide) hb
  have y1 := I.bm.at (k := 29) (a := 0) (b := 99) (by decide) ha
  have y2 := I.bm.at (k := 29) (a := 0) (b := 99) (by decide) hb
  have ab : ∀ {x y : Int32}, 0 ≤ x.toInt ∧ x.toInt ≤ 99 → 0 ≤ y.toInt ∧ y.toInt ≤ 99 → 0 ≤ (if 0 ≤ (x - y) then (x - y) else (-(x - y))).toInt ∧ (if 0 ≤ (x - y) then (x - y) else (-(x - y))).toInt ≤ 99 := by
    intro x y hx hy
    have e : (x - y).toInt = x.toInt - y.toInt := i_sub (by omega) (by omega)
    have t0 : (0 : Int32).toInt = 0 := by decide
    by_cases z : 0 ≤ (x - y)
    · rw [if_pos z, e]
      have := n_le.mp z
      rw [t0, e] at this
      omega
    · rw [if_neg z, i_neg (by omega), e]
      have : ¬ (0 : Int32).toInt ≤ (x - y).toInt := fun w => z (n_le.mpr w)
      rw [t0, e] at this
      omega
  have a1 := ab x1 x2
  have a2 := ab y1 y2
  unfold q_dd
  generalize (if 0 ≤ (g 28 a - g 28 b) then (g 28 a - g 28 b) else (-(g 28 a - g 28 b))) = u at a1
  generalize (if 0 ≤ (g 29 a - g 29 b) then (g 29 a - g 29 b) else (-(g 29 a - g 29 b))) = v at a2
  have t9 : (9 : Int32).toInt = 9 := by decide
  have t10 : (10 : Int32).toInt = 10 := by decide
  have e1 : (u + v).toInt = u.toInt + v.toInt := i_add (by omega) (by omega)
  have e2 : (u + v + 9).toInt = u.toInt + v.toInt + 9 := by rw [i_add (by omega) (by omega), e1, t9]
  rw [i_div (by omega), e2, t10, Int.tdiv_eq_ediv_of_nonneg (by omega)]
  omega
theorem INV.unb (I : INV c lm g) (x : Int32) : 0 ≤ (q_un g x).toInt ∧ (q_un g x).toInt ≤ 60 := by
  unfold q_un
  cases k : q_wk g x with
  | none => show 0 ≤ (0 : Int32).toInt ∧ (0 : Int32).toInt ≤ 60; decide
  | some e =>
    obtain ⟨he, _⟩ := q_wk_some k
    have s := I.si he
    have c0 := I.cnt.1
    show 0 ≤ (g 27 0 - q_si g e).toInt ∧ (g 27 0 - q_si g e).toInt ≤ 60
    rw [i_sub (by omega) (by omega)]
    omega
theorem INV.wtb (I : INV c lm g) (hn : n ≤ 6) (N : q_n g 1 = n) (O : ∀ i, i < n → o_at l i < n) : ∀ k, k + 1 ≤ n → (0 ≤ (w_dy g l k).toInt ∧ (w_dy g l k).toInt ≤ 20 * (k : Int)) ∧ (0 ≤ (w_wt g l k).toInt ∧ (w_wt g l k).toInt ≤ 10000 * (k : Int)) := by
  intro k
  induction k with
  | zero => intro _; show (0 ≤ (0 : Int32).toInt ∧ (0 : Int32).toInt ≤ 20 * ((0 : Nat) : Int)) ∧ (0 ≤ (0 : Int32).toInt ∧ (0 : Int32).toInt ≤ 10000 * ((0 : Nat) : Int)); decide
  | succ k ih =>
    intro hk
    obtain ⟨i1, i2⟩ := ih (by omega)
    have d := I.ddb (a := o_at l k) (b := o_at l (k + 1)) (by have := O k (by omega); omega) (by have := O (k + 1) (by omega); omega)
    have u := I.unb (Int32.ofNat (o_at l (k + 1)))
    have e1 : (w_dy g l (k + 1)).toInt = (w_dy g l k).toInt + (q_dd g (o_at l k) (o_at l (k + 1))).toInt := i_add (by omega) (by omega)
    have mb := m_bd (a := (w_dy g l (k + 1)).toInt) (A := 120) (b := (q_un g (Int32.ofNat (o_at l (k + 1)))).toInt) (B := 60) (by omega) (by omega) u.1 u.2
    have e2 : (w_dy g l (k + 1) * q_un g (Int32.ofNat (o_at l (k + 1)))).toInt = (w_dy g l (k + 1)).toInt * (q_un g (Int32.ofNat (o_at l (k + 1)))).toInt := i_mul (by omega) (by omega)
    have e3 : (w_wt g l (k + 1)).toInt = (w_wt g l k).toInt + (w_dy g l (k + 1) * q_un g (Int32.ofNat (o_at l (k + 1)))).toInt := i_add (by omega) (by omega)
    rw [e3, e2, e1]
    rw [e1] at mb
    omega
end RB
