/-! numbers -/
theorem n_i {n : Nat} (h : n < 2147483648) : (Int32.ofNat n).toInt = n := by
  rw [Int32.toInt_ofNat']
  have hs : (Int32.size : Int) = 4294967296 := rfl
  exact Int.bmod_eq_of_le (by omega) (by omega)
theorem n_ix {n : Nat} (h : n < 2147483648) : z_ix (Int32.ofNat n) = n := by
  unfold z_ix
  rw [n_i h]
  exact Int.toNat_natCast n
theorem n_s {n : Nat} : Int32.ofNat n + 1 = Int32.ofNat (n + 1) := by
  rw [Int32.ofNat_add]
  rfl
theorem n_of {x : Int32} (h : 0 ≤ x.toInt) : Int32.ofNat (z_ix x) = x := by
  have hx := Int32.toInt_lt x
  apply Int32.toInt_inj.mp
  unfold z_ix
  rw [n_i (by omega)]
  omega
theorem n_le {x y : Int32} : x ≤ y ↔ x.toInt ≤ y.toInt := Int32.le_iff_toInt_le
theorem n_lt {x y : Int32} : x < y ↔ x.toInt < y.toInt := Int32.lt_iff_toInt_lt
theorem n_inj {a b : Nat} (ha : a < 2147483648) (hb : b < 2147483648) (e : Int32.ofNat a = Int32.ofNat b) : a = b := by
  have := congrArg Int32.toInt e
  rw [n_i ha, n_i hb] at this
  omega
theorem l_le {x y : Int64} : x ≤ y ↔ x.toInt ≤ y.toInt := Int64.le_iff_toInt_le
theorem l_lt {x y : Int64} : x < y ↔ x.toInt < y.toInt := Int64.lt_iff_toInt_lt
theorem i_add {a b : Int32} (h1 : -2147483648 ≤ a.toInt + b.toInt) (h2 : a.toInt + b.toInt < 2147483648) : (a + b).toInt = a.toInt + b.toInt := by
  rw [Int32.toInt_add]
  exact Int.bmod_eq_of_le (by omega) (by omega)
theorem i_sub {a b : Int32} (h1 : -2147483648 ≤ a.toInt - b.toInt) (h2 : a.toInt - b.toInt < 2147483648) : (a - b).toInt = a.toInt - b.toInt := by
  rw [Int32.toInt_sub]
  exact Int.bmod_eq_of_le (by omega) (by omega)
theorem i_mul {a b : Int32} (h1 : -2147483648 ≤ a.toInt * b.toInt) (h2 : a.toInt * b.toInt < 2147483648) : (a * b).toInt = a.toInt * b.toInt := by
  rw [Int32.toInt_mul]
  exact Int.bmod_eq_of_le (by omega) (by omega)
theorem i_neg {a : Int32} (h1 : -2147483648 < a.toInt) : (-a).toInt = -a.toInt := by
  rw [Int32.toInt_neg]
  have := Int32.toInt_lt a
  exact Int.bmod_eq_of_le (by omega) (by omega)
theorem l_add {a b : Int64} (h1 : -9223372036854775808 ≤ a.toInt + b.toInt) (h2 : a.toInt + b.toInt < 9223372036854775808) : (a + b).toInt = a.toInt + b.toInt := by
  rw [Int64.toInt_add]
  exact Int.bmod_eq_of_le (by omega) (by omega)
theorem l_sub {a b : Int64} (h1 : -9223372036854775808 ≤ a.toInt - b.toInt) (h2 : a.toInt - b.toInt < 9223372036854775808) : (a - b).toInt = a.toInt - b.toInt := by
  rw [Int64.toInt_sub]
  exact Int.bmod_eq_of_le (by omega) (by omega)
theorem l_mul {a b : Int64} (h1 : -9223372036854775808 ≤ a.toInt * b.toInt) (h2 : a.toInt * b.toInt < 9223372036854775808) : (a * b).toInt = a.toInt * b.toInt := by
  rw [Int64.toInt_mul]
  exact Int.bmod_eq_of_le (by omega) (by omega)
theorem l_neg {a : Int64} (h1 : -9223372036854775808 < a.toInt) : (-a).toInt = -a.toInt := by
  rw [Int64.toInt_neg]
  have := Int64.toInt_lt a
  exact Int.bmod_eq_of_le (by omega) (by omega)
theorem l_div {a b : Int64} (h1 : -9223372036854775808 < a.toInt) : (a / b).toInt = a.toInt.tdiv b.toInt := by
  refine Int64.toInt_div_of_ne_left a b (fun e => ?_)
  rw [e] at h1
  exact absurd h1 (by decide)
theorem i_div {a b : Int32} (h1 : -2147483648 < a.toInt) : (a / b).toInt = a.toInt.tdiv b.toInt := by
  refine Int32.toInt_div_of_ne_left a b (fun e => ?_)
  rw [e] at h1
  exact absurd h1 (by decide)
theorem l_i {x : Int32} : x.toInt64.toInt = x.toInt := Int32.toInt_toInt64 x
theorem i_l {x : Int64} (h1 : -2147483648 ≤ x.toInt) (h2 : x.toInt < 2147483648) : x.toInt32.toInt = x.toInt := by
  rw [Int64.toInt_toInt32]
  exact Int.bmod_eq_of_le (by omega) (by omega)
theorem l_of {x : Int64} (h1 : -2147483648 ≤ x.toInt) (h2 : x.toInt < 2147483648) : x.toInt32.toInt64 = x := by
  apply Int64.toInt_inj.mp
  rw [l_i, i_l h1 h2]
/-! loops that count up -/
theorem z_lp {N : Nat} {G : Nat → Prop} (l : G N) (s : ∀ i, i < N → G (i + 1) → G i) : G 0 := by
  have : ∀ k i, i + k = N → G i := by
    intro k
    induction k with
    | zero => intro i hi; rw [show i = N by omega]; exact l
    | succ k ih => intro i hi; exact s i (by omega) (ih (i + 1) (by omega))
  exact this N 0 (by omega)
def s_sum (f : Nat → Int32) : Nat → Int32
  | 0 => 0
  | n + 1 => s_sum f n + f n
theorem n_lit_le {k n : Nat} (hk : k < 2147483648) (hn : n < 2147483648) : Int32.ofNat k ≤ Int32.ofNat n ↔ k ≤ n := by
  rw [n_le, n_i hk, n_i hn]
  omega
theorem n_lit_lt {k n : Nat} (hk : k < 2147483648) (hn : n < 2147483648) : Int32.ofNat k < Int32.ofNat n ↔ k < n := by
  rw [n_lt, n_i hk, n_i hn]
  omega
theorem n_bd {i N : Nat} (h : i < N) (hN : N < 2147483648) : 0 ≤ (Int32.ofNat i).toInt ∧ (Int32.ofNat i).toInt < (N : Int) := by
  rw [n_i (by omega)]
  omega
/-! the floor divisions, where nothing is below 0 -/
theorem d_fd {x y : Int64} (hx : 0 ≤ x.toInt) (hy : 0 < y.toInt) : s_fd x y = x / y := by
  have e : (0 : Int64) ≤ x ^^^ y := by
    rw [l_le]
    show (0 : Int) ≤ _
    rw [← Int64.toInt_toBitVec, Int64.toBitVec_xor]
    have hx' : x.toBitVec.msb = false := by rw [BitVec.msb_eq_toInt, Int64.toInt_toBitVec]; simpa using hx
    have hy' : y.toBitVec.msb = false := by rw [BitVec.msb_eq_toInt, Int64.toInt_toBitVec]; simp; omega
    have : (x.toBitVec ^^^ y.toBitVec).msb = false := by rw [BitVec.msb_xor, hx', hy']; rfl
    rw [BitVec.msb_eq_toInt] at this
    simpa using this
  unfold s_fd
  rw [if_pos e]
theorem d_dn {x y : Int64} (hx : 0 ≤ x.toInt) (hy : 0 < y.toInt) : s_dn x y = x / y := by
  unfold s_dn
  rw [if_pos (show (0 : Int64) < y from l_lt.mpr hy)]
  exact d_fd hx hy
theorem d_dv {x y : Int64} (hx : 0 ≤ x.toInt) (hy : 0 < y.toInt) : (x / y).toInt = x.toInt / y.toInt := by
  rw [l_div (by omega), Int.tdiv_eq_ediv_of_nonneg hx]
theorem d_fm {x y : Int32} (hx : 0 ≤ x.toInt) (hy : 0 < y.toInt) : s_fm x y = x - x / y * y := by
  have e : (0 : Int32) ≤ x ^^^ y := by
    rw [n_le]
    show (0 : Int) ≤ _
    rw [← Int32.toInt_toBitVec, Int32.toBitVec_xor]
    have hx' : x.toBitVec.msb = false := by rw [BitVec.msb_eq_toInt, Int32.toInt_toBitVec]; simpa using hx
    have hy' : y.toBitVec.msb = false := by rw [BitVec.msb_eq_toInt, Int32.toInt_toBitVec]; simp; omega
    have : (x.toBitVec ^^^ y.toBitVec).msb = false := by rw [BitVec.msb_xor, hx', hy']; rfl
    rw [BitVec.msb_eq_toInt] at this
    simpa using this
  unfold s_fm
  rw [if_pos e]
theorem d_tdn {x y : Int} (hx : x < 0) (hy : 0 < y) : x / y = if x.tdiv y * y = x then x.tdiv y else x.tdiv y - 1 := by
  have h1 : x.tdiv y = -((-x) / y) := by
    rw [← Int.tdiv_eq_ediv_of_nonneg (by omega : (0 : Int) ≤ -x), Int.neg_tdiv, Int.neg_neg]
  have h2 := Int.emod_add_mul_ediv (-x) y
  have h3 := Int.emod_nonneg (-x) (by omega : y ≠ 0)
  have h4 := Int.emod_lt_of_pos (-x) hy
  rw [h1]
  generalize (-x) / y = q at h2 ⊢
  generalize (-x) % y = r at h2 h3 h4
  have e1 : x = -r + y * (-q) := by rw [Int.mul_neg]; omega
  by_cases h5 : r = 0
  · rw [if_pos (by rw [Int.neg_mul, Int.mul_comm q y]; omega)]
    rw [e1, h5, Int.add_mul_ediv_left _ _ (by omega : y ≠ 0)]
    simp
  · rw [if_neg (by rw [Int.neg_mul, Int.mul_comm q y]; omega)]
    have e2 : x = (y - r) + y * (-q - 1) := by rw [Int.mul_sub, Int.mul_neg, Int.mul_one]; omega
    rw [e2, Int.add_mul_ediv_left _ _ (by omega : y ≠ 0), Int.ediv_eq_zero_of_lt (by omega) (by omega)]
    omega
theorem d_fdi {x y : Int64} (hx : -9223372036854775808 < x.toInt) (hy : 0 < y.toInt) : (s_fd x y).toInt = x.toInt / y.toInt := by
  by_cases h0 : 0 ≤ x.toInt
  · rw [d_fd h0 hy]
    exact d_dv h0 hy
  · have e : ¬ (0 : Int64) ≤ x ^^^ y := by
      rw [l_le]
      show ¬ (0 : Int) ≤ _
      rw [← Int64.toInt_toBitVec, Int64.toBitVec_xor]
      have hx' : x.toBitVec.msb = true := by rw [BitVec.msb_eq_toInt, Int64.toInt_toBitVec]; simp; omega
      have hy' : y.toBitVec.msb = false := by rw [BitVec.msb_eq_toInt, Int64.toInt_toBitVec]; simp; omega
      have : (x.toBitVec ^^^ y.toBitVec).msb = true := by rw [BitVec.msb_xor, hx', hy']; rfl
      rw [BitVec.msb_eq_toInt] at this
      simpa using this
    have hd : (x / y).toInt = x.toInt.tdiv y.toInt := l_div hx
    have hb := Int64.toInt_lt y
    have hq : x.toInt.tdiv y.toInt ≤ 0 ∧ x.toInt ≤ x.toInt.tdiv y.toInt := by
      have h1 : x.toInt.tdiv y.toInt = -((-x.toInt) / y.toInt) := by
        rw [← Int.tdiv_eq_ediv_of_nonneg (by omega : (0 : Int) ≤ -x.toInt), Int.neg_tdiv, Int.neg_neg]
      have h2 := Int.ediv_nonneg (by omega : (0 : Int) ≤ -x.toInt) (by omega : (0 : Int) ≤ y.toInt)
      have h3 := Int.ediv_le_self y.toInt (by omega : (0 : Int) ≤ -x.toInt)
      omega
    have hm0 : x.toInt ≤ x.toInt.tdiv y.toInt * y.toInt ∧ x.toInt.tdiv y.toInt * y.toInt ≤ 0 := by
      have h1 := Int.tmod_add_tdiv_mul x.toInt y.toInt
      have h2 : x.toInt.tmod y.toInt ≤ 0 := by
        have := Int.tmod_nonneg y.toInt (by omega : (0 : Int) ≤ -x.toInt)
        rw [Int.neg_tmod] at this
        omega
      exact ⟨by omega, Int.mul_nonpos_of_nonpos_of_nonneg hq.1 (by omega)⟩
    have hm : (x / y * y).toInt = x.toInt.tdiv y.toInt * y.toInt := by
      rw [l_mul (by rw [hd]; omega) (by rw [hd]; omega), hd]
    unfold s_fd
    rw [if_neg e, d_tdn (by omega) hy]
    by_cases h5 : x.toInt.tdiv y.toInt * y.toInt = x.toInt
    · rw [if_pos h5, if_pos (Int64.toInt_inj.mp (by rw [hm, h5]))]
      exact hd
    · rw [if_neg h5, if_neg (fun q => h5 (by rw [← hm, q]))]
      rw [l_sub (by rw [hd]; show _ ≤ _ - (1 : Int); omega) (by rw [hd]; show _ - (1 : Int) < _; omega), hd]
      rfl
theorem d_upi {x y : Int} (hy : 0 < y) : -((-x) / y) = (x + y - 1) / y := by
  have h2 := Int.emod_add_mul_ediv (-x) y
  have h3 := Int.emod_nonneg (-x) (by omega : y ≠ 0)
  have h4 := Int.emod_lt_of_pos (-x) hy
  generalize (-x) / y = q at h2 ⊢
  generalize (-x) % y = r at h2 h3 h4
  have e : x + y - 1 = (y - 1 - r) + y * (-q) := by rw [Int.mul_neg]; omega
  rw [e, Int.add_mul_ediv_left _ _ (by omega : y ≠ 0), Int.ediv_eq_zero_of_lt (by omega) (by omega)]
  omega
theorem d_upt {x y : Int64} (hx : 0 ≤ x.toInt) (hy : 0 < y.toInt) : (s_up x y).toInt = (x.toInt + y.toInt - 1) / y.toInt := by
  have hb := Int64.toInt_lt x
  have e1 : (-x).toInt = -x.toInt := l_neg (by omega)
  have e2 : (s_fd (-x) y).toInt = (-x.toInt) / y.toInt := by rw [d_fdi (by rw [e1]; omega) hy, e1]
  have h3 : (-x.toInt) / y.toInt ≤ 0 ∧ -x.toInt ≤ (-x.toInt) / y.toInt := by
    have a := Int.ediv_le_ediv hy (by omega : -x.toInt ≤ 0)
    rw [Int.zero_ediv] at a
    refine ⟨a, ?_⟩
    have b := d_upi (x := x.toInt) hy
    have c : (x.toInt + y.toInt - 1) / y.toInt ≤ x.toInt := by
      by_cases h0 : x.toInt = 0
      · rw [h0, Int.ediv_eq_zero_of_lt (by omega) (by omega)]
        exact Int.le_refl 0
      · apply Int.ediv_le_of_le_mul hy
        have : 0 ≤ (x.toInt - 1) * (y.toInt - 1) := Int.mul_nonneg (by omega) (by omega)
        rw [Int.sub_mul, Int.mul_sub, Int.mul_one, Int.one_mul] at this
        omega
    omega
  unfold s_up
  rw [if_pos (show (0 : Int64) < y from l_lt.mpr hy), l_neg (by rw [e2]; omega), e2]
  exact d_upi hy
theorem d_up {x y : Int64} (hx : 0 ≤ x.toInt) (hy : 0 < y.toInt) (hs : x.toInt + y.toInt < 9223372036854775808) : s_up x y = ((x + y) - 1) / y := by
  apply Int64.toInt_inj.mp
  have e1 : (x + y).toInt = x.toInt + y.toInt := l_add (by omega) (by omega)
  have e2 : (x + y - 1).toInt = x.toInt + y.toInt - 1 := by
    rw [l_sub (by rw [e1]; show _ ≤ _ - (1 : Int); omega) (by rw [e1]; show _ - (1 : Int) < _; omega), e1]
    rfl
  rw [d_upt hx hy, d_dv (by rw [e2]; omega) hy, e2]
