/-! rounds: orders, told as lists -/
def o_at (l : List Nat) (i : Nat) : Nat := l.getD i 0
def ry_tn (l : List Nat) : Nat → Nat
  | 0 => 0
  | k + 1 => if o_at l (k + 1) ≤ o_at l (k + 2) then k + 1 else ry_tn l k
def ry_ot (l : List Nat) (t : Nat) : Nat → Nat
  | 0 => 0
  | k + 1 => if k + 1 ≤ t then k + 1 else if o_at l t ≤ o_at l (k + 1) then k + 1 else ry_ot l t k
def ry_sw (l : List Nat) (a b : Nat) : List Nat := (l.set a (o_at l b)).set b (o_at l a)
def ry_rv : Nat → Nat → Nat → List Nat → List Nat
  | 0, _, _, l => l
  | f + 1, lo, hi, l => if hi ≤ lo then l else ry_rv f (lo + 1) (hi - 1) (ry_sw l lo hi)
def ry_nx (n : Nat) (l : List Nat) : Option (List Nat) := if ry_tn l (n - 2) = 0 then none else some (ry_rv 6 (ry_tn l (n - 2) + 1) (n - 1) (ry_sw l (ry_tn l (n - 2)) (ry_ot l (ry_tn l (n - 2)) (n - 1))))
def ry_T (n : Nat) : Nat → Option (List Nat) → List (List Nat)
  | 0, _ => []
  | _ + 1, none => []
  | f + 1, some l => l :: ry_T n f (ry_nx n l)
def ry_si (m i : Nat) : Nat := if i = 0 then m else if i ≤ m then i - 1 else i
def ry_st (n m : Nat) : List Nat := (List.range n).map (ry_si m)
/-- figures, as bits -/
def ry_bt (n d : Nat) : Nat := if d < n then 2 ^ d else 0
def ry_ms (n v : Nat) : Nat → Nat
  | 0 => 0
  | j + 1 => ry_ms n v j ||| ry_bt n (v / 10 ^ j % 10)
def ry_dg (n v : Nat) : List Nat := (List.range n).map (fun i => v / 10 ^ (n - 1 - i) % 10)
def ry_pc (M : Nat) : Nat := M % 2 + M / 2 % 2 + M / 4 % 2 + M / 8 % 2 + M / 16 % 2 + M / 32 % 2
def ry_ok (n v : Nat) : Bool := Nat.beq (v / 10 ^ n) 0 && Nat.beq (ry_ms n v n) (2 ^ n - 1)
def ry_fl (n s : Nat) : Nat → List (List Nat)
  | 0 => []
  | k + 1 => ry_fl n s k ++ (if ry_ok n (s + k) = true then [ry_dg n (s + k)] else [])
def ry_ct {α : Type} (f : Nat → List α) : Nat → List α
  | 0 => []
  | d + 1 => ry_ct f d ++ f d
def ry_E (n : Nat) : Nat → Nat → List (List Nat)
  | 0, p => if ry_ok n p = true then [ry_dg n p] else []
  | k + 1, p => if ry_pc (ry_ms n p (n - (k + 1))) + (k + 1) < n then [] else ry_ct (fun d => ry_E n k (10 * p + d)) 10
def ry_b1 (w : List Nat → Int32) (b : Option (List Nat)) (x : List Nat) : Option (List Nat) := match b with
  | none => some x
  | some y => if w y ≤ w x then some y else some x
def ry_bs (w : List Nat → Int32) : List (List Nat) → Option (List Nat) → Option (List Nat)
  | [], b => b
  | x :: r, b => ry_bs w r (ry_b1 w b x)
theorem ry_all : ∀ n, n < 7 → ∀ m, m < n → ry_E n (n - 1) m = ry_T n 120 (some (ry_st n m)) := by decide +kernel
theorem ry_sta : ∀ n, n < 7 → ∀ m, m < n → ∀ i, i < n → o_at (ry_st n m) i = ry_si m i ∧ ry_si m i < n := by decide +kernel
theorem ry_m0 : ∀ n, n < 7 → ∀ d, d < 10 → ∀ M, M < 2 ^ n → (M ||| ry_bt n d) < 2 ^ n ∧ ry_pc (M ||| ry_bt n d) = ry_pc M + (if d < n ∧ M / 2 ^ d % 2 = 0 then 1 else 0) := by decide +kernel
theorem ry_m1 (n : Nat) (hn : n < 7) (d : Nat) (hd : d < 10) (M : Nat) (hM : M < 2 ^ n) : (M ||| ry_bt n d) < 2 ^ n ∧ ry_pc (M ||| ry_bt n d) ≤ ry_pc M + 1 ∧ ((d < n ∧ M / 2 ^ d % 2 = 0) → ry_pc (M ||| ry_bt n d) = ry_pc M + 1) ∧ (¬ (d < n ∧ M / 2 ^ d % 2 = 0) → ry_pc (M ||| ry_bt n d) = ry_pc M) := by
  obtain ⟨a, b⟩ := ry_m0 n hn d hd M hM
  by_cases z : d < n ∧ M / 2 ^ d % 2 = 0
  · rw [if_pos z] at b
    exact ⟨a, by omega, fun _ => b, fun w => absurd z w⟩
  · rw [if_neg z] at b
    exact ⟨a, by omega, fun w => absurd w z, fun _ => b⟩
theorem ry_p0 : ry_pc 0 = 0 := by decide
theorem ry_m2 : ∀ n, n < 7 → ry_pc (2 ^ n - 1) = n ∧ 2 ^ n ≤ 64 ∧ ∀ M, M < 2 ^ n → ry_pc M = n → M = 2 ^ n - 1 := by decide +kernel
theorem ry_m3 : ∀ d, d < 6 → ∀ M, M < 64 → Int32.ofNat M ||| ((1 : Int32) <<< (Int32.ofNat d &&& 31)) = Int32.ofNat (M ||| 2 ^ d) ∧ ((((Int32.ofNat M >>> (Int32.ofNat d &&& 31)) &&& (1 : Int32)) = 0) ↔ M / 2 ^ d % 2 = 0) := by decide +kernel
theorem ry_m4 : ∀ n, n < 7 → ((1 : Int32) <<< (Int32.ofNat n &&& 31)) - (1 : Int32) = Int32.ofNat (2 ^ n - 1) := by decide +kernel
theorem ry_m5 : ∀ a, a < 6 → ∀ b, b < 6 → Int32.ofNat a * 6 + Int32.ofNat b = Int32.ofNat (6 * a + b) := by decide +kernel
theorem bs_app {w : List Nat → Int32} {L M : List (List Nat)} : ∀ {b : Option (List Nat)}, ry_bs w (L ++ M) b = ry_bs w M (ry_bs w L b) := by
  induction L with
  | nil => intro b; rfl
  | cons x r ih => intro b; exact ih
theorem ms_lt {n v : Nat} (hn : n < 7) : ∀ j, ry_ms n v j < 2 ^ n := by
  intro j
  induction j with
  | zero => exact Nat.two_pow_pos n
  | succ j ih => exact (ry_m1 n hn _ (Nat.mod_lt _ (by omega)) _ ih).1
theorem ms_add {n v k : Nat} : ∀ j, ry_ms n v (k + j) = ry_ms n v k ||| ry_ms n (v / 10 ^ k) j := by
  intro j
  induction j with
  | zero => exact (Nat.or_zero _).symm
  | succ j ih =>
    show ry_ms n v (k + j) ||| ry_bt n (v / 10 ^ (k + j) % 10) = ry_ms n v k ||| (ry_ms n (v / 10 ^ k) j ||| ry_bt n (v / 10 ^ k / 10 ^ j % 10))
    rw [ih, Nat.or_assoc, Nat.div_div_eq_div_mul, ← Nat.pow_add]
theorem ms_pc {n v : Nat} (hn : n < 7) : ∀ k X, X < 2 ^ n → ry_pc (ry_ms n v k ||| X) ≤ ry_pc X + k := by
  intro k
  induction k with
  | zero =>
    intro X _
    show ry_pc (0 ||| X) ≤ _
    rw [Nat.zero_or]
    exact Nat.le_refl _
  | succ k ih =>
    intro X hX
    show ry_pc ((ry_ms n v k ||| ry_bt n (v / 10 ^ k % 10)) ||| X) ≤ _
    have f := ry_m1 n hn (v / 10 ^ k % 10) (Nat.mod_lt _ (by omega)) X hX
    rw [Nat.or_assoc, Nat.or_comm (ry_bt n (v / 10 ^ k % 10)) X]
    have := ih _ f.1
    omega
theorem ms_up {n v j : Nat} (hn : n < 7) : ∀ i, ry_pc (ry_ms n v (j + i)) ≤ ry_pc (ry_ms n v j) + i := by
  intro i
  induction i with
  | zero => exact Nat.le_refl _
  | succ i ih =>
    have f := (ry_m1 n hn (v / 10 ^ (j + i) % 10) (Nat.mod_lt _ (by omega)) (ry_ms n v (j + i)) (ms_lt hn _)).2.1
    show ry_pc (ry_ms n v (j + i) ||| ry_bt n (v / 10 ^ (j + i) % 10)) ≤ _
    omega
theorem ok_iff {n v : Nat} : ry_ok n v = true ↔ v / 10 ^ n = 0 ∧ ry_ms n v n = 2 ^ n - 1 := by
  unfold ry_ok
  rw [Bool.and_eq_true]
  exact ⟨fun q => ⟨Nat.eq_of_beq_eq_true q.1, Nat.eq_of_beq_eq_true q.2⟩, fun q => by rw [q.1, q.2]; exact ⟨rfl, Nat.beq_refl _⟩⟩
/-- all figures are of their own -/
theorem ok_dig {n v : Nat} (hn : n < 7) (o : ry_ms n v n = 2 ^ n - 1) {j : Nat} (hj : j < n) : v / 10 ^ j % 10 < n ∧ ry_ms n v j / 2 ^ (v / 10 ^ j % 10) % 2 = 0 := by
  apply Decidable.byContradiction
  intro z
  have f := (ry_m1 n hn (v / 10 ^ j % 10) (Nat.mod_lt _ (by omega)) (ry_ms n v j) (ms_lt hn _)).2.2.2 z
  have u1 := ms_up (v := v) (j := 0) hn j
  rw [Nat.zero_add] at u1
  have z0 : ry_pc (ry_ms n v 0) = 0 := ry_p0
  have f' : ry_pc (ry_ms n v (j + 1)) = ry_pc (ry_ms n v j) := f
  have u2 := ms_up (v := v) (j := j + 1) hn (n - (j + 1))
  rw [show j + 1 + (n - (j + 1)) = n by omega, o, (ry_m2 n hn).1] at u2
  omega
/-- the other way round -/
theorem dig_ok {n v : Nat} (hn : n < 7) (o : ∀ j, j < n → v / 10 ^ j % 10 < n ∧ ry_ms n v j / 2 ^ (v / 10 ^ j % 10) % 2 = 0) : ry_ms n v n = 2 ^ n - 1 := by
  have : ∀ j, j ≤ n → ry_pc (ry_ms n v j) = j := by
    intro j
    induction j with
    | zero => intro _; exact ry_p0
    | succ j ih =>
      intro hj
      have f := (ry_m1 n hn (v / 10 ^ j % 10) (Nat.mod_lt _ (by omega)) (ry_ms n v j) (ms_lt hn _)).2.2.1 (o j (by omega))
      rw [ih (by omega)] at f
      exact f
  exact (ry_m2 n hn).2.2 _ (ms_lt hn _) (this n (Nat.le_refl _))
theorem ok_bad {n v p k : Nat} (hn : n < 7) (hk : k ≤ n) (hb : ry_pc (ry_ms n p (n - k)) + k < n) (hv : v / 10 ^ k = p) : ry_ok n v = false := by
  cases e : ry_ok n v with
  | false => rfl
  | true =>
    exfalso
    have o := (ok_iff.mp e).2
    have a := ms_add (n := n) (v := v) (k := k) (n - k)
    rw [show k + (n - k) = n by omega, o, hv] at a
    have u := ms_pc (v := v) hn k (ry_ms n p (n - k)) (ms_lt hn _)
    rw [← a, (ry_m2 n hn).1] at u
    omega
theorem fl_add {n s a : Nat} : ∀ b, ry_fl n s (a + b) = ry_fl n s a ++ ry_fl n (s + a) b := by
  intro b
  induction b with
  | zero => exact (List.append_nil _).symm
  | succ b ih =>
    show ry_fl n s (a + b) ++ (if ry_ok n (s + (a + b)) = true then [ry_dg n (s + (a + b))] else []) = ry_fl n s a ++ (ry_fl n (s + a) b ++ (if ry_ok n (s + a + b) = true then [ry_dg n (s + a + b)] else []))
    rw [ih, List.append_assoc, Nat.add_assoc]
theorem fl_bad {n s : Nat} : ∀ k, (∀ v, s ≤ v → v < s + k → ry_ok n v = false) → ry_fl n s k = [] := by
  intro k
  induction k with
  | zero => intro _; rfl
  | succ k ih =>
    intro q
    show ry_fl n s k ++ (if ry_ok n (s + k) = true then [ry_dg n (s + k)] else []) = []
    rw [ih (fun v h1 h2 => q v h1 (by omega)), q (s + k) (by omega) (by omega)]
    rfl
theorem E_fl {n : Nat} (hn : n < 7) : ∀ k, k ≤ n → ∀ p, ry_E n k p = ry_fl n (p * 10 ^ k) (10 ^ k) := by
  intro k
  induction k with
  | zero =>
    intro _ p
    show (if ry_ok n p = true then [ry_dg n p] else []) = [] ++ (if ry_ok n (p * 10 ^ 0 + 0) = true then [ry_dg n (p * 10 ^ 0 + 0)] else [])
    rw [List.nil_append, Nat.pow_zero, Nat.mul_one, Nat.add_zero]
  | succ k ih =>
    intro hk p
    show (if ry_pc (ry_ms n p (n - (k + 1))) + (k + 1) < n then [] else ry_ct (fun d => ry_E n k (10 * p + d)) 10) = _
    by_cases b : ry_pc (ry_ms n p (n - (k + 1))) + (k + 1) < n
    · rw [if_pos b]
      refine (fl_bad _ (fun v h1 h2 => ok_bad hn hk b ?_)).symm
      exact Nat.div_eq_of_lt_le h1 (by rw [Nat.add_mul, Nat.one_mul]; exact h2)
    · rw [if_neg b]
      have : ∀ D, ry_ct (fun d => ry_E n k (10 * p + d)) D = ry_fl n (p * 10 ^ (k + 1)) (D * 10 ^ k) := by
        intro D
        induction D with
        | zero => rw [Nat.zero_mul]; rfl
        | succ D iD =>
          show ry_ct (fun d => ry_E n k (10 * p + d)) D ++ ry_E n k (10 * p + D) = _
          rw [iD, ih (by omega), Nat.add_mul D 1, Nat.one_mul, fl_add]
          have e : p * 10 ^ (k + 1) + D * 10 ^ k = (10 * p + D) * 10 ^ k := by
            rw [Nat.pow_succ, Nat.add_mul, Nat.mul_comm (10 ^ k) 10, ← Nat.mul_assoc, Nat.mul_comm p 10]
          rw [e]
      rw [this 10, Nat.pow_succ, Nat.mul_comm 10 (10 ^ k)]
theorem sw_len {l : List Nat} {a b : Nat} : (ry_sw l a b).length = l.length := by
  unfold ry_sw
  rw [List.length_set, List.length_set]
theorem set_at {l : List Nat} {a i x : Nat} (ha : a < l.length) : o_at (l.set a x) i = if i = a then x else o_at l i := by
  unfold o_at
  rw [List.getD_eq_getElem?_getD, List.getD_eq_getElem?_getD, List.getElem?_set]
  by_cases e : a = i
  · rw [if_pos e, if_pos e.symm, if_pos ha]
    rfl
  · rw [if_neg e, if_neg (fun q => e q.symm)]
theorem sw_at {l : List Nat} {a b i : Nat} (ha : a < l.length) (hb : b < l.length) : o_at (ry_sw l a b) i = if i = b then o_at l a else if i = a then o_at l b else o_at l i := by
  unfold ry_sw
  rw [set_at (by rw [List.length_set]; exact hb), set_at ha]
theorem dg_at {n v i : Nat} (hi : i < n) : o_at (ry_dg n v) i = v / 10 ^ (n - 1 - i) % 10 := by
  unfold o_at ry_dg
  rw [List.getD_eq_getElem?_getD, List.getElem?_map, List.getElem?_range hi]
  rfl
theorem dg_len {n v : Nat} : (ry_dg n v).length = n := by
  unfold ry_dg
  rw [List.length_map, List.length_range]
theorem st_len {n m : Nat} : (ry_st n m).length = n := by
  unfold ry_st
  rw [List.length_map, List.length_range]
/-! numbers -/
theorem n_p1 {r : Nat} : Int32.ofNat (r + 1) - (1 : Int32) = Int32.ofNat r := by
  rw [Int32.ofNat_add, Int32.sub_eq_add_neg, Int32.add_assoc, show (Int32.ofNat 1 + -(1 : Int32)) = 0 by decide, Int32.add_zero]
theorem n_m1 {r : Nat} : Int32.ofNat (r + 1) + (-1 : Int32) = Int32.ofNat r := by
  rw [← n_p1 (r := r), Int32.sub_eq_add_neg]
theorem n_d10 {V : Nat} (h : V < 2147483648) : Int32.ofNat V / (10 : Int32) = Int32.ofNat (V / 10) ∧ Int32.ofNat V - Int32.ofNat V / (10 : Int32) * (10 : Int32) = Int32.ofNat (V % 10) := by
  have t10 : (10 : Int32).toInt = 10 := by decide
  have tV := n_i h
  have e : Int32.ofNat V / (10 : Int32) = Int32.ofNat (V / 10) := by
    apply Int32.toInt_inj.mp
    rw [i_div (by omega), tV, t10, n_i (by omega), Int.tdiv_eq_ediv_of_nonneg (by omega)]
    omega
  refine ⟨e, ?_⟩
  rw [e]
  apply Int32.toInt_inj.mp
  have tq : (Int32.ofNat (V / 10)).toInt = ((V / 10 : Nat) : Int) := n_i (by omega)
  have tm : (Int32.ofNat (V / 10) * (10 : Int32)).toInt = ((V / 10 : Nat) : Int) * 10 := by
    rw [i_mul (by rw [tq, t10]; omega) (by rw [tq, t10]; omega), tq, t10]
  rw [i_sub (by rw [tV, tm]; omega) (by rw [tV, tm]; omega), tV, tm, n_i (by omega)]
  omega
theorem n_add {a b : Nat} : Int32.ofNat a + Int32.ofNat b = Int32.ofNat (a + b) := (Int32.ofNat_add a b).symm
theorem n_mul {a b : Nat} : Int32.ofNat a * Int32.ofNat b = Int32.ofNat (a * b) := (Int32.ofNat_mul a b).symm
