/-! where the class keeps what the reference keeps -/
def x_tag (a : Nat) : Nat := [11, 102, 103, 104, 105, 100, 9, 100, 7, 6, 100, 100, 100, 100, 2, 1, 100, 100, 100, 100, 100, 1, 100, 100, 100, 100, 100, 12].getD a (m_tag a)
/-- the cells that stand from the start -/
def FX (h : zH) : Prop := ∀ a, a < 89 → z_tg h a = x_tag a
def fm (j : Nat) : Nat := [28, 29, 0, 0, 0, 30, 31, 33, 34].getD j 0
def fe (j : Nat) : Nat := [47, 48, 49, 50, 51, 46, 204, 52, 53, 54, 55, 56, 57, 200, 201, 202].getD j 0
def fr (j : Nat) : Nat := [0, 0, 72, 73, 74, 75, 76, 77, 205, 79].getD j 0
/-- what kind of row -/
def kd (k : Nat) : Nat := [9, 9, 9, 9, 9, 9, 9, 9, 9, 9, 9, 9, 9, 9, 9, 9, 9, 9, 9, 9, 9, 9, 9, 9, 9, 9, 9, 0, 3, 3, 3, 3, 4, 3, 3, 4, 4, 4, 4, 4, 4, 4, 9, 9, 9, 9, 5, 5, 5, 5, 5, 5, 5, 5, 5, 5, 5, 5, 9, 1, 9, 9, 2, 2, 2, 2, 9, 9, 9, 9, 9, 9, 6, 6, 6, 6, 6, 6, 9, 6, 9, 9, 9, 9, 9, 9, 7, 9, 8, 9, 9, 9, 9, 9, 9, 9, 9, 9, 9, 9, 9, 9, 9, 9, 9, 9, 9, 9, 9, 9, 9, 9, 9, 9, 9, 9, 9, 9, 9, 9, 9, 9, 9, 9, 9, 9, 9, 9, 9, 9, 9, 9, 9, 9, 9, 9, 9, 9, 9, 9, 9, 9, 9, 9, 9, 9, 9, 9, 9, 9, 9, 9, 9, 9, 9, 9, 9, 9, 9, 9, 9, 9, 9, 9, 9, 9, 9, 9, 9, 9, 9, 9, 9, 9, 9, 9, 9, 9, 9, 9, 9, 9, 9, 9, 9, 9, 9, 9, 9, 9, 9, 9, 9, 9, 9, 9, 9, 9, 9, 9, 5, 5, 5, 2, 5, 6].getD k 9
def Lk (nm ne nr nl : Nat) (lm : Nat → Nat) (h : zH) (k i c j : Nat) : Nat → Prop
  | 0 => (c = 0 ∧ ((i = 0 ∧ j = 11) ∨ (i = 1 ∧ j = 12) ∨ (i = 20 ∧ j = 13) ∨ (i = 55 ∧ j = 14) ∨ (i = 76 ∧ j = 15))) ∨ (c = 8 ∧ i = 36 ∧ j = 0) ∨ (c = 6 ∧ i = 35 ∧ j = 1) ∨ (z_rv h 0 9 = some c ∧ i = 45 ∧ j = 5)
  | 1 => c = 7 ∧ i = j ∧ i < 200
  | 2 => ∃ B, z_rv h 0 9 = some B ∧ i = j ∧ i < nl ∧ ((c = B + 1 ∧ k = 64) ∨ (c = B + 2 ∧ k = 62) ∨ (c = B + 3 ∧ k = 203) ∨ (c = B + 4 ∧ k = 63) ∨ (c = B + 5 ∧ k = 65))
  | 3 => i < nm ∧ z_rv h 1 i = some c ∧ j < 9 ∧ fm j = k
  | 4 => ∃ m a, m < nm ∧ z_rv h 1 m = some a ∧ ((c = a + 1 ∧ k = 32 ∧ j < 12 ∧ i = 12 * m + j) ∨ (c = a + 2 ∧ k = 35 ∧ j < 8 ∧ i = 8 * m + j) ∨ (c = a + 3 ∧ ∃ w t, w < 6 ∧ t < 60 ∧ t < lm m ∧ k = 36 + w ∧ i = 60 * m + t ∧ j = 60 * w + t))
  | 5 => i < ne ∧ z_rv h 2 i = some c ∧ j < 16 ∧ fe j = k
  | 6 => i < nr ∧ z_rv h 3 i = some c ∧ j < 10 ∧ fr j = k
  | 7 => i < 4 ∧ z_rv h 4 i = some c ∧ j = 0
  | 8 => ∃ n s, n < 4 ∧ z_rv h 4 n = some s ∧ c = s + 1 ∧ j < 48 ∧ i = 48 * n + j
  | _ => False
/-- place i of row k of the reference is place j of cell c of the class -/
def Loc (nm ne nr nl : Nat) (lm : Nat → Nat) (h : zH) (k i c j : Nat) : Prop := Lk nm ne nr nl lm h k i c j (kd k)
def BD (h : zH) : Prop := (z_rv h 0 9 = some 15 ∧ z_rv h 0 10 = some 21) ∨ (z_rv h 0 9 = some 21 ∧ z_rv h 0 10 = some 15)
def IJ (nm ne nr : Nat) (h : zH) : Prop := (∀ m n a, m < nm → n < nm → z_rv h 1 m = some a → z_rv h 1 n = some a → m = n) ∧ (∀ m n a, m < ne → n < ne → z_rv h 2 m = some a → z_rv h 2 n = some a → m = n) ∧ (∀ m n a, m < nr → n < nr → z_rv h 3 m = some a → z_rv h 3 n = some a → m = n) ∧ (∀ m n a, m < 4 → n < 4 → z_rv h 4 m = some a → z_rv h 4 n = some a → m = n)
theorem FX.t1 {h : zH} (F : FX h) : z_tg h 1 = 102 := F 1 (by omega)
theorem FX.t2 {h : zH} (F : FX h) : z_tg h 2 = 103 := F 2 (by omega)
theorem FX.t3 {h : zH} (F : FX h) : z_tg h 3 = 104 := F 3 (by omega)
theorem FX.t4 {h : zH} (F : FX h) : z_tg h 4 = 105 := F 4 (by omega)
theorem CW.mt {h : zH} (W : CW h) (F : FX h) {m a : Nat} (e : z_rv h 1 m = some a) : z_tg h a = 4 := W.tyOf F.t1 e (by decide) rfl
theorem CW.et {h : zH} (W : CW h) (F : FX h) {m a : Nat} (e : z_rv h 2 m = some a) : z_tg h a = 3 := W.tyOf F.t2 e (by decide) rfl
theorem CW.rt {h : zH} (W : CW h) (F : FX h) {m a : Nat} (e : z_rv h 3 m = some a) : z_tg h a = 5 := W.tyOf F.t3 e (by decide) rfl
theorem CW.st {h : zH} (W : CW h) (F : FX h) {m a : Nat} (e : z_rv h 4 m = some a) : z_tg h a = 8 := W.tyOf F.t4 e (by decide) rfl
theorem FX.ge {h : zH} (F : FX h) {a t : Nat} (e : z_tg h a = t) (ht : t = 3 ∨ t = 4 ∨ t = 5 ∨ t = 8 ∨ t = 10) : 89 ≤ a := by
  rcases Nat.lt_or_ge a 89 with q | q
  · have := F a q
    rw [e] at this
    have k : ∀ a, a < 89 → ¬ (x_tag a = 3 ∨ x_tag a = 4 ∨ x_tag a = 5 ∨ x_tag a = 8 ∨ x_tag a = 10) := by decide
    exact absurd (this ▸ ht) (k a q)
  · exact q
theorem CW.m1 {h : zH} (W : CW h) {a : Nat} (e : z_tg h a = 4) : z_tg h (a + 1) = 100 ∧ z_tg h (a + 2) = 100 ∧ z_tg h (a + 3) = 100 := by
  refine ⟨W.tyOf e (j := 2) (W.reOf (t := 4) (j := 2) (o := 1) (n := 12) (by decide) e).1 (by decide) rfl, W.tyOf e (j := 3) (W.reOf (t := 4) (j := 3) (o := 2) (n := 8) (by decide) e).1 (by decide) rfl, W.tyOf e (j := 4) (W.reOf (t := 4) (j := 4) (o := 3) (n := 360) (by decide) e).1 (by decide) rfl⟩
theorem CW.s1 {h : zH} (W : CW h) {a : Nat} (e : z_tg h a = 8) : z_tg h (a + 1) = 100 := W.tyOf e (j := 1) (W.sh a e).1 (by decide) rfl
/-- the kind of a row, told by its cell -/
def x_key (h : zH) (c : Nat) : Nat := if z_tg h c = 100 then (if c = 7 then 1 else if c < 27 then 2 else if z_tg h (c - 1) = 8 then 8 else 4) else if z_tg h c = 4 then 3 else if z_tg h c = 3 then 5 else if z_tg h c = 5 then 6 else if z_tg h c = 8 then 7 else 0
theorem BD.c {h : zH} (b : BD h) {B : Nat} (e : z_rv h 0 9 = some B) : B = 15 ∨ B = 21 := by
  rcases b with q | q <;> rw [q.1] at e <;> injection e with e <;> omega
theorem FX.at {h : zH} (F : FX h) {c t : Nat} (hc : c < 89) (ht : x_tag c = t) : z_tg h c = t := (F c hc).trans ht
theorem Loc.key {nm ne nr nl : Nat} {lm : Nat → Nat} {h : zH} {k i c j : Nat} (W : CW h) (F : FX h) (b : BD h) (L : Loc nm ne nr nl lm h k i c j) : x_key h c = kd k := by
  unfold Loc at L
  unfold x_key
  generalize kd k = n at L ⊢
  match n, L with
  | 0, L =>
    have hc : c = 0 ∨ c = 8 ∨ c = 6 ∨ c = 15 ∨ c = 21 := by
      rcases L with ⟨q, _⟩ | ⟨q, _⟩ | ⟨q, _⟩ | ⟨q, _⟩
      · omega
      · omega
      · omega
      · have := b.c q; omega
    rcases hc with rfl | rfl | rfl | rfl | rfl
    · rw [F.at (t := 11) (by omega) rfl]; rfl
    · rw [F.at (t := 7) (by omega) rfl]; rfl
    · rw [F.at (t := 9) (by omega) rfl]; rfl
    · rw [F.at (t := 1) (by omega) rfl]; rfl
    · rw [F.at (t := 1) (by omega) rfl]; rfl
  | 1, L =>
    obtain ⟨rfl, _⟩ := L
    rw [F.at (t := 100) (by omega) rfl]; rfl
  | 2, L =>
    obtain ⟨B, e, _, _, q⟩ := L
    have hB := b.c e
    have hc : (16 ≤ c ∧ c ≤ 20) ∨ (22 ≤ c ∧ c ≤ 26) := by omega
    have ht : z_tg h c = 100 := by
      have : ∀ c, c < 27 → (16 ≤ c ∧ c ≤ 20) ∨ (22 ≤ c ∧ c ≤ 26) → x_tag c = 100 := by decide
      exact F.at (by omega) (this c (by omega) hc)
    rw [if_pos ht, if_neg (by omega), if_pos (by omega)]
  | 3, L => rw [W.mt F L.2.1]; rfl
  | 4, L =>
    obtain ⟨m, a, _, e, q⟩ := L
    have ta := W.mt F e
    have tb := W.m1 ta
    have ga := F.ge ta (by omega)
    rcases q with ⟨rfl, _⟩ | ⟨rfl, _⟩ | ⟨rfl, _⟩
    · rw [if_pos tb.1, if_neg (by omega), if_neg (by omega), if_neg (by rw [show a + 1 - 1 = a by omega, ta]; decide)]
    · rw [if_pos tb.2.1, if_neg (by omega), if_neg (by omega), if_neg (by rw [show a + 2 - 1 = a + 1 by omega, tb.1]; decide)]
    · rw [if_pos tb.2.2, if_neg (by omega), if_neg (by omega), if_neg (by rw [show a + 3 - 1 = a + 2 by omega, tb.2.1]; decide)]
  | 5, L => rw [W.et F L.2.1]; rfl
  | 6, L => rw [W.rt F L.2.1]; rfl
  | 7, L => rw [W.st F L.2.1]; rfl
  | 8, L =>
    obtain ⟨n, s, _, e, rfl, _⟩ := L
    have ts := W.st F e
    have gs := F.ge ts (by omega)
    rw [if_pos (W.s1 ts), if_neg (by omega), if_neg (by omega), if_pos (by rw [show s + 1 - 1 = s by omega]; exact ts)]
  | n + 9, L => exact L.elim
theorem x_kd (n v : Nat) (hd : ∀ k, k < 206 → kd k = n → k = v) (h9 : ¬ n = 9 := by decide) : ∀ k, kd k = n → k = v := by
  intro k hk
  rcases Nat.lt_or_ge k 206 with q | q
  · exact hd k q hk
  · exfalso
    unfold kd at hk
    rw [List.getD_eq_getElem?_getD, List.getElem?_eq_none (by exact q)] at hk
    exact h9 hk.symm
theorem Loc.inj {nm ne nr nl : Nat} {lm : Nat → Nat} {h : zH} {k i k' i' c j : Nat} (W : CW h) (F : FX h) (b : BD h) (J : IJ nm ne nr h) (L : Loc nm ne nr nl lm h k i c j) (L' : Loc nm ne nr nl lm h k' i' c j) : k = k' ∧ i = i' := by
  have e := (L.key W F b).symm.trans (L'.key W F b)
  have k0 : ∀ k, kd k = 0 → k = 27 := x_kd 0 27 (by decide +kernel)
  have k1 : ∀ k, kd k = 1 → k = 59 := x_kd 1 59 (by decide +kernel)
  have k7 : ∀ k, kd k = 7 → k = 86 := x_kd 7 86 (by decide +kernel)
  have k8 : ∀ k, kd k = 8 → k = 88 := x_kd 8 88 (by decide +kernel)
  unfold Loc at L L'
  rw [← e] at L'
  obtain ⟨n, hn⟩ : ∃ n, n = kd k := ⟨_, rfl⟩
  rw [← hn] at L L'
  have hn' : kd k' = n := by rw [hn, e]
  match n, hn, L, L' with
  | 0, hn, L, L' =>
    have := k0 k hn.symm
    have := k0 k' hn'
    have f0 : ∀ c, z_rv h 0 9 = some c → c = 15 ∨ c = 21 := fun c q => b.c q
    rcases L with ⟨q, q'⟩ | ⟨q, q'⟩ | ⟨q, q'⟩ | ⟨q, q'⟩ <;> rcases L' with ⟨p, p'⟩ | ⟨p, p'⟩ | ⟨p, p'⟩ | ⟨p, p'⟩ <;> first | omega | (have := b.c q; omega) | (have := b.c p; omega)
  | 1, hn, L, L' =>
    have := k1 k hn.symm
    have := k1 k' hn'
    have := L.2.1
    have := L'.2.1
    omega
  | 2, _, L, L' =>
    obtain ⟨B, e1, q1, _, q⟩ := L
    obtain ⟨B', e2, p1, _, p⟩ := L'
    rw [e1] at e2
    injection e2 with e2
    omega
  | 3, _, L, L' => exact ⟨L.2.2.2.symm.trans L'.2.2.2, J.1 _ _ _ L.1 L'.1 L.2.1 L'.2.1⟩
  | 4, _, L, L' =>
    obtain ⟨m, a, hm, e1, q⟩ := L
    obtain ⟨m', a', hm', e2, p⟩ := L'
    have ta := W.mt F e1
    have ta' := W.mt F e2
    have tb := W.m1 ta
    have tb' := W.m1 ta'
    have ea : a = a' := by
      rcases Nat.lt_trichotomy a a' with l | l | l
      · exfalso
        have : a' = a + 1 ∨ a' = a + 2 := by
          rcases q with ⟨q, _⟩ | ⟨q, _⟩ | ⟨q, _⟩ <;> rcases p with ⟨p, _⟩ | ⟨p, _⟩ | ⟨p, _⟩ <;> omega
        rcases this with r | r <;> rw [r] at ta'
        · rw [tb.1] at ta'; cases ta'
        · rw [tb.2.1] at ta'; cases ta'
      · exact l
      · exfalso
        have : a = a' + 1 ∨ a = a' + 2 := by
          rcases q with ⟨q, _⟩ | ⟨q, _⟩ | ⟨q, _⟩ <;> rcases p with ⟨p, _⟩ | ⟨p, _⟩ | ⟨p, _⟩ <;> omega
        rcases this with r | r <;> rw [r] at ta
        · rw [tb'.1] at ta; cases ta
        · rw [tb'.2.1] at ta; cases ta
    subst ea
    have em := J.1 _ _ _ hm hm' e1 e2
    subst em
    rcases q with ⟨q, q'⟩ | ⟨q, q'⟩ | ⟨q, w, t, q'⟩ <;> rcases p with ⟨p, p'⟩ | ⟨p, p'⟩ | ⟨p, w', t', p'⟩ <;> omega
  | 5, _, L, L' => exact ⟨L.2.2.2.symm.trans L'.2.2.2, J.2.1 _ _ _ L.1 L'.1 L.2.1 L'.2.1⟩
  | 6, _, L, L' => exact ⟨L.2.2.2.symm.trans L'.2.2.2, J.2.2.1 _ _ _ L.1 L'.1 L.2.1 L'.2.1⟩
  | 7, hn, L, L' => exact ⟨(k7 k hn.symm).trans (k7 k' hn').symm, J.2.2.2 _ _ _ L.1 L'.1 L.2.1 L'.2.1⟩
  | 8, hn, L, L' =>
    obtain ⟨n, s, h1, e1, q, _, r⟩ := L
    obtain ⟨n', s', h1', e2, q', _, r'⟩ := L'
    have : s = s' := by omega
    subst this
    have := J.2.2.2 _ _ _ h1 h1' e1 e2
    refine ⟨(k8 k hn.symm).trans (k8 k' hn').symm, by omega⟩
  | n + 9, _, L, _ => exact L.elim
theorem Loc.fn {nm ne nr nl : Nat} {lm : Nat → Nat} {h : zH} {k i c j c' j' : Nat} (b : BD h) (L : Loc nm ne nr nl lm h k i c j) (L' : Loc nm ne nr nl lm h k i c' j') : c = c' ∧ j = j' := by
  unfold Loc at L L'
  obtain ⟨n, hn⟩ : ∃ n, n = kd k := ⟨_, rfl⟩
  rw [← hn] at L L'
  have some_inj : ∀ {o : Option Nat} {x y : Nat}, o = some x → o = some y → x = y := fun a b => Option.some.inj (a.symm.trans b)
  match n, hn, L, L' with
  | 0, _, L, L' =>
    rcases L with ⟨q, q'⟩ | ⟨q, q'⟩ | ⟨q, q'⟩ | ⟨q, q'⟩ <;> rcases L' with ⟨p, p'⟩ | ⟨p, p'⟩ | ⟨p, p'⟩ | ⟨p, p'⟩ <;> first | omega | exact ⟨some_inj q p, by omega⟩
  | 1, _, L, L' =>
    have := L.2.1
    have := L'.2.1
    exact ⟨L.1.trans L'.1.symm, by omega⟩
  | 2, _, L, L' =>
    obtain ⟨B, e1, q1, _, q⟩ := L
    obtain ⟨B', e2, p1, _, p⟩ := L'
    have := some_inj e1 e2
    omega
  | 3, hn, L, L' =>
    refine ⟨some_inj L.2.1 L'.2.1, ?_⟩
    have f : ∀ j, j < 9 → ∀ j', j' < 9 → fm j = fm j' → fm j ≠ 0 → j = j' := by decide
    refine f j L.2.2.1 j' L'.2.2.1 (L.2.2.2.trans L'.2.2.2.symm) (fun q => ?_)
    rw [L.2.2.2] at q
    rw [q] at hn
    exact absurd hn (by decide)
  | 4, _, L, L' =>
    obtain ⟨m, a, hm, e1, q⟩ := L
    obtain ⟨m', a', hm', e2, p⟩ := L'
    have em : m = m' := by
      rcases q with ⟨q, q'⟩ | ⟨q, q'⟩ | ⟨q, w, t, q'⟩ <;> rcases p with ⟨p, p'⟩ | ⟨p, p'⟩ | ⟨p, w', t', p'⟩ <;> omega
    subst em
    have := some_inj e1 e2
    rcases q with ⟨q, q'⟩ | ⟨q, q'⟩ | ⟨q, w, t, q'⟩ <;> rcases p with ⟨p, p'⟩ | ⟨p, p'⟩ | ⟨p, w', t', p'⟩ <;> omega
  | 5, _, L, L' =>
    refine ⟨some_inj L.2.1 L'.2.1, ?_⟩
    have f : ∀ j, j < 16 → ∀ j', j' < 16 → fe j = fe j' → j = j' := by decide
    exact f j L.2.2.1 j' L'.2.2.1 (L.2.2.2.trans L'.2.2.2.symm)
  | 6, hn, L, L' =>
    refine ⟨some_inj L.2.1 L'.2.1, ?_⟩
    have f : ∀ j, j < 10 → ∀ j', j' < 10 → fr j = fr j' → fr j ≠ 0 → j = j' := by decide
    refine f j L.2.2.1 j' L'.2.2.1 (L.2.2.2.trans L'.2.2.2.symm) (fun q => ?_)
    rw [L.2.2.2] at q
    rw [q] at hn
    exact absurd hn (by decide)
  | 7, _, L, L' => exact ⟨some_inj L.2.1 L'.2.1, L.2.2.trans L'.2.2.symm⟩
  | 8, _, L, L' =>
    obtain ⟨n, s, h1, e1, q, _, r⟩ := L
    obtain ⟨n', s', h1', e2, q', _, r'⟩ := L'
    have : n = n' := by omega
    subst this
    have := some_inj e1 e2
    omega
  | n + 9, _, L, _ => exact L.elim
