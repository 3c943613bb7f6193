/-! numbers -/
theorem n_i {n : Nat} (h : n < 2147483648) : (Int32.ofNat n).toInt = n := by
  rw [Int32.toInt_ofNat']
  have hs : (Int32.size : Int) = 4294967296 := rfl
  exact Int.bmod_eq_of_le (by omega) (by omega)
theorem n_ix {n : Nat} (h : n < 2147483648) : z_ix (Int32.ofNat n) = n := by
  unfold z_ix
  rw [n_i h]
  exact Int.toNat_natCast n
theorem n_s {n : Nat} : Int32.ofNat n + 1 = Int32.ofNat (n + 1) := by
  rw [Int32.ofNat_add]
  rfl
theorem n_of {x : Int32} (h : 0 ≤ x.toInt) : Int32.ofNat (z_ix x) = x := by
  have hx := Int32.toInt_lt x
  apply Int32.toInt_inj.mp
  unfold z_ix
  rw [n_i (by omega)]
  omega
theorem n_le {x y : Int32} : x ≤ y ↔ x.toInt ≤ y.toInt := Int32.le_iff_toInt_le
theorem n_lt {x y : Int32} : x < y ↔ x.toInt < y.toInt := Int32.lt_iff_toInt_lt
/-! the line that holds -/
def s_hold (fr gr ke : Nat → Int32) (group key month : Int32) : Nat → Option Nat
  | 0 => none
  | n + 1 => match s_hold fr gr ke group key month n with
    | none => if gr n = group ∧ ke n = key ∧ fr n ≤ month then some n else none
    | some b => if gr n = group ∧ ke n = key ∧ fr n ≤ month ∧ fr b < fr n then some n else some b
def s_no (o : Option Nat) : Int32 := match o with
  | none => -4
  | some b => Int32.ofNat b
def s_la (fr : Nat → Int32) (o : Option Nat) : Int32 := match o with
  | none => -1
  | some b => fr b

theorem c_holding_loop (a0 : Nat) (x1 x2 x3 : Int32) (h : zH) (W : CW h) (T0 : z_tg h a0 = 1) (n : Nat) (hn : n ≤ 16) (hc : z_iv h a0 5 = Int32.ofNat n) (hf : ∀ i, i < n → 0 ≤ (z_iv h (a0 + 1) i).toInt) {Q : Int32 → zH → Prop}
    (q : Q (s_no (s_hold (z_iv h (a0 + 1)) (z_iv h (a0 + 3)) (z_iv h (a0 + 4)) x1 x2 x3 n)) h) :
    ∀ k i, i + k = n → ∀ u, KG z_pI 20 10 [some (.ref a0), some (.int x1), some (.int x2), some (.int x3), some (.int (s_no (s_hold (z_iv h (a0 + 1)) (z_iv h (a0 + 3)) (z_iv h (a0 + 4)) x1 x2 x3 i))), some (.int (s_la (z_iv h (a0 + 1)) (s_hold (z_iv h (a0 + 1)) (z_iv h (a0 + 3)) (z_iv h (a0 + 4)) x1 x2 x3 i))), some (.int (Int32.ofNat i)), u] [] h Q := by
  intro k
  induction k with
  | zero =>
    intro i hi u
    have hi : i = n := by omega
    subst hi
    refine X_20_10 a0 _ _ _ _ _ _ u h W T0 ?_
    rw [hc, if_pos (Int32.le_refl _)]
    exact q
  | succ k ih =>
    intro i hi u
    refine X_20_10 a0 _ _ _ _ _ _ u h W T0 ?_
    have h16 : ¬ (16 : Int32) ≤ Int32.ofNat i := by
      rw [n_le, n_i (by omega)]
      show ¬ (16 : Int) ≤ i
      omega
    have hlt : ¬ z_iv h a0 5 ≤ Int32.ofNat i := by
      rw [hc, n_le, n_i (by omega), n_i (by omega)]
      omega
    have hb : 0 ≤ (Int32.ofNat i).toInt ∧ (Int32.ofNat i).toInt < 16 := by
      rw [n_i (by omega)]
      omega
    rw [if_neg hlt, if_neg h16, n_ix (by omega)]
    refine ⟨hb, fun _ => hb, fun _ => hb, fun _ _ => hb, fun _ _ _ => hb, ?_⟩
    intro m1 e1 m2 e2
    rw [n_s]
    have g1 : m1 = s_no (s_hold (z_iv h (a0 + 1)) (z_iv h (a0 + 3)) (z_iv h (a0 + 4)) x1 x2 x3 (i + 1)) ∧ m2 = s_la (z_iv h (a0 + 1)) (s_hold (z_iv h (a0 + 1)) (z_iv h (a0 + 3)) (z_iv h (a0 + 4)) x1 x2 x3 (i + 1)) := by
      rw [e1, e2, s_hold]
      have h0 : (-1 : Int32) < z_iv h (a0 + 1) i := by
        rw [n_lt]
        have := hf i (by omega)
        show (-1 : Int) < _
        omega
      cases s_hold (z_iv h (a0 + 1)) (z_iv h (a0 + 3)) (z_iv h (a0 + 4)) x1 x2 x3 i with
      | none =>
        by_cases c1 : z_iv h (a0 + 3) i = x1 <;> by_cases c2 : z_iv h (a0 + 4) i = x2 <;> by_cases c3 : z_iv h (a0 + 1) i ≤ x3 <;> simp [s_no, s_la, c1, c2, c3, Int32.not_lt, h0, Int32.not_le.mpr h0, ← Int32.not_le]
      | some b =>
        by_cases c1 : z_iv h (a0 + 3) i = x1 <;> by_cases c2 : z_iv h (a0 + 4) i = x2 <;> by_cases c3 : z_iv h (a0 + 1) i ≤ x3 <;> by_cases c4 : z_iv h (a0 + 1) i ≤ z_iv h (a0 + 1) b <;> simp [s_no, s_la, c1, c2, c3, c4, ← Int32.not_le]
    rw [g1.1, g1.2]
    exact ih (i + 1) (by omega) _
theorem c_holding (a0 : Nat) (x1 x2 x3 : Int32) (h : zH) (W : CW h) (T0 : z_tg h a0 = 1) (n : Nat) (hn : n ≤ 16) (hc : z_iv h a0 5 = Int32.ofNat n) (hf : ∀ i, i < n → 0 ≤ (z_iv h (a0 + 1) i).toInt) {Q : Int32 → zH → Prop}
    (q : Q (s_no (s_hold (z_iv h (a0 + 1)) (z_iv h (a0 + 3)) (z_iv h (a0 + 4)) x1 x2 x3 n)) h) : KK z_pI 20 [.ref a0, .int x1, .int x2, .int x3] h Q :=
  X_20 a0 x1 x2 x3 h W T0 (c_holding_loop a0 x1 x2 x3 h W T0 n hn hc hf q n 0 (by omega) none)

