/-! texts: tokens and lines, told of a row of bytes -/
def xB (x : Int32) : Bool := decide (x = 32)
def xL (x : Int32) : Bool := decide ((97 : Int32) ≤ x ∧ x ≤ (122 : Int32))
def xF (x : Int32) : Bool := decide ((48 : Int32) ≤ x ∧ x ≤ (57 : Int32))
def x_sc (P : Int32 → Bool) (r : Nat → Int32) : Nat → Nat → Nat
  | 0, p => p
  | f + 1, p => if P (r p) = true then x_sc P r f (p + 1) else p
theorem sc_s {P : Int32 → Bool} {r : Nat → Int32} {f p : Nat} : x_sc P r (f + 1) p = if P (r p) = true then x_sc P r f (p + 1) else p := rfl
theorem sc_b {P : Int32 → Bool} {r : Nat → Int32} : ∀ f p, p ≤ x_sc P r f p ∧ x_sc P r f p ≤ p + f := by
  intro f
  induction f with
  | zero => intro p; exact ⟨Nat.le_refl _, Nat.le_refl _⟩
  | succ f ih =>
    intro p
    unfold x_sc
    by_cases z : P (r p) = true
    · rw [if_pos z]
      have := ih (p + 1)
      omega
    · rw [if_neg z]
      omega
def x_ts (r : Nat → Int32) (t p : Nat) : Nat := x_sc xB r (t - p) p
def x_kk (r : Nat → Int32) (t s : Nat) : Int32 := if t ≤ s then 0 else if r s = 59 then 3 else if xL (r s) = true then 1 else if xF (r s) = true then (if x_sc xF r (t - s) s ≤ s + 4 then 2 else 9) else 9
def x_en (r : Nat → Int32) (t s : Nat) : Nat := if t ≤ s then s else if r s = 59 then s + 1 else if xL (r s) = true then x_sc xL r (t - s) s else if xF (r s) = true then x_sc xF r (t - s) s else s + 1
def x_nv (r : Nat → Int32) (s : Nat) : Nat → Int32
  | 0 => 0
  | k + 1 => x_nv r s k * 10 + r (s + k) - 48
def x_k (r : Nat → Int32) (t p : Nat) : Int32 := x_kk r t (x_ts r t p)
def x_e (r : Nat → Int32) (t p : Nat) : Nat := x_en r t (x_ts r t p)
def x_v (r : Nat → Int32) (t p : Nat) : Int32 := if x_k r t p = 2 then x_nv r (x_ts r t p) (x_e r t p - x_ts r t p) else 0
theorem ts_b {r : Nat → Int32} {t p : Nat} (hp : p ≤ t) : p ≤ x_ts r t p ∧ x_ts r t p ≤ t := by
  have := sc_b (P := xB) (r := r) (t - p) p
  unfold x_ts
  omega
theorem e_b {r : Nat → Int32} {t p : Nat} (hp : p ≤ t) : x_ts r t p ≤ x_e r t p ∧ x_e r t p ≤ t := by
  have a := ts_b (r := r) hp
  unfold x_e x_en
  generalize x_ts r t p = s at a
  have b1 := sc_b (P := xL) (r := r) (t - s) s
  have b2 := sc_b (P := xF) (r := r) (t - s) s
  by_cases z1 : t ≤ s
  · rw [if_pos z1]; omega
  · rw [if_neg z1]
    by_cases z2 : r s = 59
    · rw [if_pos z2]; omega
    · rw [if_neg z2]
      by_cases z3 : xL (r s) = true
      · rw [if_pos z3]; omega
      · rw [if_neg z3]
        by_cases z4 : xF (r s) = true
        · rw [if_pos z4]; omega
        · rw [if_neg z4]; omega
theorem xL_i {x : Int32} : xL x = true ↔ (97 : Int32) ≤ x ∧ x ≤ (122 : Int32) := decide_eq_true_iff
theorem xF_i {x : Int32} : xF x = true ↔ (48 : Int32) ≤ x ∧ x ≤ (57 : Int32) := decide_eq_true_iff
theorem xB_i {x : Int32} : xB x = true ↔ x = 32 := decide_eq_true_iff
theorem xL_k {x : Int32} : (¬ (x < (97 : Int32)) ∧ (¬ ((122 : Int32) < x))) ↔ xL x = true := by rw [xL_i, Int32.not_lt, Int32.not_lt]
theorem xF_k {x : Int32} : (¬ (x < (48 : Int32)) ∧ (¬ ((57 : Int32) < x))) ↔ xF x = true := by rw [xF_i, Int32.not_lt, Int32.not_lt]
/-- the value of at most four figures -/
theorem nv_b {r : Nat → Int32} {t s : Nat} (hs : ∀ i, i < t → xF (r (s + i)) = true) : ∀ k, k ≤ t → k ≤ 4 → 0 ≤ (x_nv r s k).toInt ∧ (x_nv r s k).toInt < 10 ^ k := by
  have t10 : (10 : Int32).toInt = 10 := by decide
  have t48 : (48 : Int32).toInt = 48 := by decide
  have t57 : (57 : Int32).toInt = 57 := by decide
  intro k
  induction k with
  | zero => intro _ _; show 0 ≤ (0 : Int32).toInt ∧ (0 : Int32).toInt < 10 ^ 0; decide
  | succ k ih =>
    intro h1 h2
    obtain ⟨i1, i2⟩ := ih (by omega) (by omega)
    have b := xF_i.mp (hs k (by omega))
    have b1 := n_le.mp b.1
    have b2 := n_le.mp b.2
    rw [t48] at b1
    rw [t57] at b2
    have pk : (10 : Int) ^ k ≤ 1000 := by
      have : ∀ k, k < 4 → (10 : Int) ^ k ≤ 1000 := by decide +kernel
      exact this k (by omega)
    have e1 : (x_nv r s k * 10).toInt = (x_nv r s k).toInt * 10 := by rw [i_mul (by rw [t10]; omega) (by rw [t10]; omega), t10]
    have e2 : (x_nv r s k * 10 + r (s + k)).toInt = (x_nv r s k).toInt * 10 + (r (s + k)).toInt := by rw [i_add (by omega) (by omega), e1]
    show 0 ≤ (x_nv r s k * 10 + r (s + k) - 48).toInt ∧ (x_nv r s k * 10 + r (s + k) - 48).toInt < 10 ^ (k + 1)
    rw [i_sub (by omega) (by omega), e2, t48, Int.pow_succ]
    omega
/-! words -/
abbrev x_m (r : Nat → Int32) (t p q : Nat) : Prop := x_k r t p = 1 ∧ x_e r t p = x_ts r t p + s_wl q ∧ ∀ i, i < s_wl q → r (x_ts r t p + i) = s_wc q i
def x_rf (r : Nat → Int32) (t p : Nat) : Nat → Nat → Int32
  | 0, _ => -4
  | f + 1, n => if x_m r t p (n + 4) then Int32.ofNat n else x_rf r t p f (n + 1)
def x_rl (r : Nat → Int32) (t p : Nat) : Int32 := x_rf r t p 7 0
theorem m_dj {r : Nat → Int32} {t p : Nat} (m : x_m r t p 3) : x_rl r t p = -4 := by
  have dj : ∀ n, n < 7 → s_wl 3 = s_wl (n + 4) → ¬ s_wc 3 0 = s_wc (n + 4) 0 := by decide +kernel
  have ps : ∀ n, n < 7 → 0 < s_wl (n + 4) := by decide +kernel
  have no : ∀ n, n < 7 → ¬ x_m r t p (n + 4) := by
    intro n hn z
    have e : s_wl 3 = s_wl (n + 4) := by have := m.2.1; have := z.2.1; omega
    exact dj n hn e ((m.2.2 0 (by rw [e]; exact ps n hn)).symm.trans (z.2.2 0 (ps n hn)))
  have : ∀ f n, n + f ≤ 7 → x_rf r t p f n = -4 := by
    intro f
    induction f with
    | zero => intro _ _; rfl
    | succ f ih =>
      intro n hn
      unfold x_rf
      rw [if_neg (no n (by omega))]
      exact ih (n + 1) (by omega)
  exact this 7 0 (by omega)
theorem rl_c {r : Nat → Int32} {t p : Nat} : x_rl r t p = -4 ∨ ∃ n, n < 7 ∧ x_rl r t p = Int32.ofNat n := by
  have : ∀ f n, n + f = 7 → x_rf r t p f n = -4 ∨ ∃ m, m < 7 ∧ x_rf r t p f n = Int32.ofNat m := by
    intro f
    induction f with
    | zero => intro _ _; exact Or.inl rfl
    | succ f ih =>
      intro n hn
      unfold x_rf
      by_cases z : x_m r t p (n + 4)
      · rw [if_pos z]; exact Or.inr ⟨n, by omega, rfl⟩
      · rw [if_neg z]; exact ih (n + 1) (by omega)
  exact this 7 0 rfl
/-! lines: rule, key, from, value -/
abbrev x_td (n : Nat) (R : Nat → Nat → Int32) (w o f : Int32) : Prop := ¬ ∀ i, i < n → ¬ (s_gr (R 0 i) = s_gr w ∧ R 1 i = o ∧ R 2 i = f)
def x_pu (n : Nat) (R : Nat → Nat → Int32) (w o f v : Int32) : Nat → Nat → Int32 := fun k i => if i = n then (if k = 0 then w else if k = 1 then o else if k = 2 then f else if k = 3 then v else R k i) else R k i
abbrev xO : Type := (Int32 × Nat) ⊕ (Nat × Nat × (Nat → Nat → Int32))
section TX
variable (r : Nat → Int32) (t : Nat)
def e_tk (p : Nat) (K : xO) : xO := if x_k r t p = 9 then .inl (1, x_ts r t p) else K
def e_nm (p : Nat) (lo hi : Int32) (K : xO) : xO := if x_k r t p = 2 then (if lo ≤ x_v r t p ∧ x_v r t p ≤ hi then K else .inl (3, x_ts r t p)) else .inl (2, x_ts r t p)
def e_en (p n : Nat) (R : Nat → Nat → Int32) : xO := if x_k r t p = 3 then e_tk r t (x_e r t p) (.inr (x_e r t p, n, R)) else .inl (2, x_ts r t p)
def e_r5 (p n : Nat) (R : Nat → Nat → Int32) (w f : Int32) : xO := if x_td n R w 0 f then .inl (5, x_ts r t p) else e_tk r t (x_e r t p) (e_en r t (x_e r t p) (n + 1) (x_pu n R w 0 f 0))
def e_ky (p : Nat) (w : Int32) (K : xO) : xO := if w = 4 then (if x_k r t p = 1 ∧ x_e r t p = x_ts r t p + 1 ∧ (97 : Int32) ≤ r (x_ts r t p) ∧ r (x_ts r t p) ≤ (104 : Int32) then K else .inl (2, x_ts r t p)) else e_nm r t p 0 5 K
def x_ky (p : Nat) (w : Int32) : Int32 := if w = 4 then r (x_ts r t p) - 97 else x_v r t p
def x_lo (w : Int32) : Int32 := z_bt (¬ (w = (1 : Int32)) ∧ (¬ (w = (4 : Int32))))
def x_hi (w : Int32) : Int32 := if w = 0 then (9 : Int32) else (if w = (1 : Int32) then (9999 : Int32) else (if w = (2 : Int32) then (24 : Int32) else (if w = (3 : Int32) then (99 : Int32) else (60 : Int32))))
/-- behind the key -/
def e_r1 (p n : Nat) (R : Nat → Nat → Int32) (w o f : Int32) : xO := if x_td n R w o f then .inl (5, x_ts r t p) else e_tk r t (x_e r t p) (e_nm r t (x_e r t p) (x_lo w) (x_hi w) (e_tk r t (x_e r t (x_e r t p)) (e_en r t (x_e r t (x_e r t p)) (n + 1) (x_pu n R w o f (x_v r t (x_e r t p))))))
def e_r0 (p n : Nat) (R : Nat → Nat → Int32) (w f : Int32) : xO := e_tk r t (x_e r t p) (e_ky r t (x_e r t p) w (e_r1 r t (x_e r t p) n R w (x_ky r t (x_e r t p) w) f))
def e_ru (p n : Nat) (R : Nat → Nat → Int32) (f : Int32) : xO := if x_rl r t p = -4 then .inl (2, x_ts r t p) else if x_rl r t p = 5 ∨ x_rl r t p = 6 then e_r5 r t p n R (x_rl r t p) f else e_r0 r t p n R (x_rl r t p) f
def e_li (p n : Nat) (R : Nat → Nat → Int32) : xO := if x_m r t p 3 then e_tk r t (x_e r t p) (e_nm r t (x_e r t p) 0 59 (e_tk r t (x_e r t (x_e r t p)) (e_ru r t (x_e r t (x_e r t p)) n R (x_v r t (x_e r t p))))) else e_ru r t p n R 0
def e_tx : Nat → Nat → Nat → (Nat → Nat → Int32) → xO
  | 0, p, n, R => if x_k r t p = 0 then .inr (p, n, R) else .inl (if x_m r t p 3 ∨ ¬ x_rl r t p = -4 then 4 else 2, x_ts r t p)
  | f + 1, p, n, R => if x_k r t p = 0 then .inr (p, n, R) else (match e_li r t p n R with
    | .inl x => .inl x
    | .inr x => e_tx f x.1 x.2.1 x.2.2)
end TX
