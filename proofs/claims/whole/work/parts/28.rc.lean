def RI (nm ne nr nl : Nat) (lm : Nat → Nat) (g : zG) (h : zH) : Prop := ∀ k i c j, Loc nm ne nr nl lm h k i c j → z_iv h c j = g k i
theorem RI.up {nm ne nr nl : Nat} {lm : Nat → Nat} {g : zG} {h : zH} {k i c j : Nat} {v : Int32} (W : CW h) (F : FX h) (b : BD h) (J : IJ nm ne nr h) (R : RI nm ne nr nl lm g h) (L : Loc nm ne nr nl lm h k i c j) : RI nm ne nr nl lm (z_up2 g k i v) (z_sI h c j v) := by
  intro k' i' c' j' L'
  have L' : Loc nm ne nr nl lm h k' i' c' j' := L'
  by_cases e : c' = c ∧ j' = j
  · obtain ⟨rfl, rfl⟩ := e
    obtain ⟨rfl, rfl⟩ := L'.inj W F b J L
    exact v_at.trans z_up2_at.symm
  · have hn : ¬ (k' = k ∧ i' = i) := by
      rintro ⟨rfl, rfl⟩
      exact e (L'.fn b L)
    show z_up2 (z_iv h) c j v c' j' = z_up2 g k i v k' i'
    unfold z_up2
    rw [if_neg e, if_neg hn]
    exact R _ _ _ _ L'
/-- the cells that hold something of the reference's -/
theorem Loc.cell {nm ne nr nl : Nat} {lm : Nat → Nat} {h : zH} {k i c j : Nat} (W : CW h) (F : FX h) (L : Loc nm ne nr nl lm h k i c j) : c = 0 ∨ (c = 8 ∧ j = 0) ∨ c = 6 ∨ c = 7 ∨ (∃ B, z_rv h 0 9 = some B ∧ B ≤ c ∧ c ≤ B + 5) ∨ (89 ≤ c ∧ ¬ z_tg h c = 0 ∧ ¬ z_tg h c = 10) := by
  have big : ∀ {a t}, z_tg h a = t → (t = 3 ∨ t = 4 ∨ t = 5 ∨ t = 8) → 89 ≤ a ∧ ¬ z_tg h a = 0 ∧ ¬ z_tg h a = 10 := fun e q => ⟨F.ge e (by omega), by rw [e]; omega, by rw [e]; omega⟩
  have row : ∀ {a t d}, z_tg h a = t → (t = 4 ∨ t = 8) → z_tg h (a + d) = 100 → 89 ≤ a + d ∧ ¬ z_tg h (a + d) = 0 ∧ ¬ z_tg h (a + d) = 10 := fun e q r => ⟨by have := F.ge e (by omega); omega, by rw [r]; decide, by rw [r]; decide⟩
  unfold Loc at L
  generalize kd k = n at L
  match n, L with
  | 0, L =>
    rcases L with ⟨q, _⟩ | ⟨q, _, q2⟩ | ⟨q, _⟩ | ⟨q, _⟩
    · exact Or.inl q
    · exact Or.inr (Or.inl ⟨q, q2⟩)
    · exact Or.inr (Or.inr (Or.inl q))
    · exact Or.inr (Or.inr (Or.inr (Or.inr (Or.inl ⟨c, q, by omega, by omega⟩))))
  | 1, L => exact Or.inr (Or.inr (Or.inr (Or.inl L.1)))
  | 2, L =>
    obtain ⟨B, e, _, _, q⟩ := L
    exact Or.inr (Or.inr (Or.inr (Or.inr (Or.inl ⟨B, e, by omega, by omega⟩))))
  | 3, L => exact Or.inr (Or.inr (Or.inr (Or.inr (Or.inr (big (W.mt F L.2.1) (by omega))))))
  | 4, L =>
    obtain ⟨m, a, _, e, q⟩ := L
    have ta := W.mt F e
    have tb := W.m1 ta
    rcases q with ⟨rfl, _⟩ | ⟨rfl, _⟩ | ⟨rfl, _⟩
    · exact Or.inr (Or.inr (Or.inr (Or.inr (Or.inr (row ta (by omega) tb.1)))))
    · exact Or.inr (Or.inr (Or.inr (Or.inr (Or.inr (row ta (by omega) tb.2.1)))))
    · exact Or.inr (Or.inr (Or.inr (Or.inr (Or.inr (row ta (by omega) tb.2.2)))))
  | 5, L => exact Or.inr (Or.inr (Or.inr (Or.inr (Or.inr (big (W.et F L.2.1) (by omega))))))
  | 6, L => exact Or.inr (Or.inr (Or.inr (Or.inr (Or.inr (big (W.rt F L.2.1) (by omega))))))
  | 7, L => exact Or.inr (Or.inr (Or.inr (Or.inr (Or.inr (big (W.st F L.2.1) (by omega))))))
  | 8, L =>
    obtain ⟨n, s, _, e, rfl, _⟩ := L
    have ts := W.st F e
    exact Or.inr (Or.inr (Or.inr (Or.inr (Or.inr (row ts (by omega) (W.s1 ts))))))
  | n + 9, L => exact L.elim
/-- a trial, or none -/
def TrR (iv : Nat → Nat → Int32) (o : Option Nat) (g : zG) (k m : Nat) : Prop := (o = none ∧ g k m = 0) ∨ ∃ c, o = some c ∧ ¬ g k m = 0 ∧ iv c 0 = g k m ∧ iv c 1 = g (k + 1) m ∧ iv c 2 = g (k + 2) m ∧ iv c 3 = g (k + 3) m
def RX (g : zG) (h : zH) : Prop :=
  (∀ m, m < q_n g 1 → ∃ a, z_rv h 1 m = some a) ∧ (∀ e, e < q_n g 20 → ∃ a, z_rv h 2 e = some a) ∧ (∀ k, k < q_n g 55 → ∃ a, z_rv h 3 k = some a) ∧
  (∀ m a, m < q_n g 1 → z_rv h 1 m = some a → z_rv h a 10 = (q_lt g (Int32.ofNat m)).bind (z_rv h 2)) ∧
  (∀ k c, k < q_n g 55 → z_rv h 3 k = some c → z_rv h c 0 = z_rv h 2 (z_ix (g 71 k))) ∧
  (∀ n, n < 4 → (g 86 n = -4 ∧ z_rv h 4 n = none) ∨ (¬ g 86 n = -4 ∧ ∃ s, z_rv h 4 n = some s ∧ z_ln h (s + 1) = z_ix (g 87 n))) ∧
  (∀ m a, m < q_n g 1 → z_rv h 1 m = some a → TrR (z_iv h) (z_rv h a 9) g 42 m) ∧
  (∀ k c, k < q_n g 55 → z_rv h 3 k = some c → TrR (z_iv h) (z_rv h c 1) g 80 k)
def RC (lm : Nat → Nat) (g : zG) (h : zH) : Prop := CW h ∧ FX h ∧ BD h ∧ IJ (q_n g 1) (q_n g 20) (q_n g 55) h ∧ RI (q_n g 1) (q_n g 20) (q_n g 55) (q_n g 45) lm g h ∧ RX g h
section RCa
variable {lm : Nat → Nat} {g : zG} {h : zH}
theorem RC.w (R : RC lm g h) : CW h := R.1
theorem RC.f (R : RC lm g h) : FX h := R.2.1
theorem RC.b (R : RC lm g h) : BD h := R.2.2.1
theorem RC.j (R : RC lm g h) : IJ (q_n g 1) (q_n g 20) (q_n g 55) h := R.2.2.2.1
theorem RC.i (R : RC lm g h) : RI (q_n g 1) (q_n g 20) (q_n g 55) (q_n g 45) lm g h := R.2.2.2.2.1
theorem RC.x (R : RC lm g h) : RX g h := R.2.2.2.2.2
theorem RC.mine (R : RC lm g h) {m : Nat} (hm : m < q_n g 1) : ∃ a, z_rv h 1 m = some a := R.x.1 m hm
theorem RC.engine (R : RC lm g h) {m : Nat} (hm : m < q_n g 20) : ∃ a, z_rv h 2 m = some a := R.x.2.1 m hm
theorem RC.reading (R : RC lm g h) {m : Nat} (hm : m < q_n g 55) : ∃ a, z_rv h 3 m = some a := R.x.2.2.1 m hm
theorem RC.latest (R : RC lm g h) {m a : Nat} (hm : m < q_n g 1) (ha : z_rv h 1 m = some a) : z_rv h a 10 = (q_lt g (Int32.ofNat m)).bind (z_rv h 2) := R.x.2.2.2.1 m a hm ha
theorem RC.rengine (R : RC lm g h) {k c : Nat} (hk : k < q_n g 55) (hc : z_rv h 3 k = some c) : z_rv h c 0 = z_rv h 2 (z_ix (g 71 k)) := R.x.2.2.2.2.1 k c hk hc
theorem RC.sheet (R : RC lm g h) {n : Nat} (hn : n < 4) : (g 86 n = -4 ∧ z_rv h 4 n = none) ∨ (¬ g 86 n = -4 ∧ ∃ s, z_rv h 4 n = some s ∧ z_ln h (s + 1) = z_ix (g 87 n)) := R.x.2.2.2.2.2.1 n hn
theorem RC.mtrial (R : RC lm g h) {m a : Nat} (hm : m < q_n g 1) (ha : z_rv h 1 m = some a) : TrR (z_iv h) (z_rv h a 9) g 42 m := R.x.2.2.2.2.2.2.1 m a hm ha
theorem RC.rtrial (R : RC lm g h) {k c : Nat} (hk : k < q_n g 55) (hc : z_rv h 3 k = some c) : TrR (z_iv h) (z_rv h c 1) g 80 k := R.x.2.2.2.2.2.2.2 k c hk hc
theorem RC.n0 (R : RC lm g h) : z_iv h 0 11 = g 27 0 := R.i 27 0 0 11 (Or.inl ⟨rfl, Or.inl ⟨rfl, rfl⟩⟩)
theorem RC.n1 (R : RC lm g h) : z_iv h 0 12 = g 27 1 := R.i 27 1 0 12 (Or.inl ⟨rfl, Or.inr (Or.inl ⟨rfl, rfl⟩)⟩)
theorem RC.n20 (R : RC lm g h) : z_iv h 0 13 = g 27 20 := R.i 27 20 0 13 (Or.inl ⟨rfl, Or.inr (Or.inr (Or.inl ⟨rfl, rfl⟩))⟩)
theorem RC.n55 (R : RC lm g h) : z_iv h 0 14 = g 27 55 := R.i 27 55 0 14 (Or.inl ⟨rfl, Or.inr (Or.inr (Or.inr (Or.inl ⟨rfl, rfl⟩)))⟩)
theorem RC.n76 (R : RC lm g h) : z_iv h 0 15 = g 27 76 := R.i 27 76 0 15 (Or.inl ⟨rfl, Or.inr (Or.inr (Or.inr (Or.inr (⟨rfl, rfl⟩))))⟩)
theorem RC.n36 (R : RC lm g h) : z_iv h 8 0 = g 27 36 := R.i 27 36 8 0 (Or.inr (Or.inl ⟨rfl, rfl, rfl⟩))
theorem RC.n35 (R : RC lm g h) : z_iv h 6 1 = g 27 35 := R.i 27 35 6 1 (Or.inr (Or.inr (Or.inl ⟨rfl, rfl, rfl⟩)))
theorem RC.n45 (R : RC lm g h) {B : Nat} (e : z_rv h 0 9 = some B) : z_iv h B 5 = g 27 45 := R.i 27 45 B 5 (Or.inr (Or.inr (Or.inr ⟨e, rfl, rfl⟩)))
theorem RC.f59 (R : RC lm g h) {i : Nat} (hi : i < 200) : z_iv h 7 i = g 59 i := R.i 59 i 7 i ⟨rfl, rfl, hi⟩
theorem RC.f64 (R : RC lm g h) {B i : Nat} (e : z_rv h 0 9 = some B) (hi : i < q_n g 45) : z_iv h (B + 1) i = g 64 i := R.i 64 i (B + 1) i ⟨B, e, rfl, hi, Or.inl ⟨rfl, rfl⟩⟩
theorem RC.f62 (R : RC lm g h) {B i : Nat} (e : z_rv h 0 9 = some B) (hi : i < q_n g 45) : z_iv h (B + 2) i = g 62 i := R.i 62 i (B + 2) i ⟨B, e, rfl, hi, Or.inr (Or.inl ⟨rfl, rfl⟩)⟩
theorem RC.f203 (R : RC lm g h) {B i : Nat} (e : z_rv h 0 9 = some B) (hi : i < q_n g 45) : z_iv h (B + 3) i = g 203 i := R.i 203 i (B + 3) i ⟨B, e, rfl, hi, Or.inr (Or.inr (Or.inl ⟨rfl, rfl⟩))⟩
theorem RC.f63 (R : RC lm g h) {B i : Nat} (e : z_rv h 0 9 = some B) (hi : i < q_n g 45) : z_iv h (B + 4) i = g 63 i := R.i 63 i (B + 4) i ⟨B, e, rfl, hi, Or.inr (Or.inr (Or.inr (Or.inl ⟨rfl, rfl⟩)))⟩
theorem RC.f65 (R : RC lm g h) {B i : Nat} (e : z_rv h 0 9 = some B) (hi : i < q_n g 45) : z_iv h (B + 5) i = g 65 i := R.i 65 i (B + 5) i ⟨B, e, rfl, hi, Or.inr (Or.inr (Or.inr (Or.inr (⟨rfl, rfl⟩))))⟩
theorem RC.f28 (R : RC lm g h) {m a : Nat} (hm : m < q_n g 1) (ha : z_rv h 1 m = some a) : z_iv h a 0 = g 28 m := R.i 28 m a 0 ⟨hm, ha, by omega, rfl⟩
theorem RC.f29 (R : RC lm g h) {m a : Nat} (hm : m < q_n g 1) (ha : z_rv h 1 m = some a) : z_iv h a 1 = g 29 m := R.i 29 m a 1 ⟨hm, ha, by omega, rfl⟩
theorem RC.f30 (R : RC lm g h) {m a : Nat} (hm : m < q_n g 1) (ha : z_rv h 1 m = some a) : z_iv h a 5 = g 30 m := R.i 30 m a 5 ⟨hm, ha, by omega, rfl⟩
theorem RC.f31 (R : RC lm g h) {m a : Nat} (hm : m < q_n g 1) (ha : z_rv h 1 m = some a) : z_iv h a 6 = g 31 m := R.i 31 m a 6 ⟨hm, ha, by omega, rfl⟩
theorem RC.f33 (R : RC lm g h) {m a : Nat} (hm : m < q_n g 1) (ha : z_rv h 1 m = some a) : z_iv h a 7 = g 33 m := R.i 33 m a 7 ⟨hm, ha, by omega, rfl⟩
theorem RC.f34 (R : RC lm g h) {m a : Nat} (hm : m < q_n g 1) (ha : z_rv h 1 m = some a) : z_iv h a 8 = g 34 m := R.i 34 m a 8 ⟨hm, ha, by omega, rfl⟩
theorem RC.f32 (R : RC lm g h) {m a i : Nat} (hm : m < q_n g 1) (ha : z_rv h 1 m = some a) (hi : i < 12) : z_iv h (a + 1) i = g 32 (12 * m + i) := R.i 32 (12 * m + i) (a + 1) i ⟨m, a, hm, ha, Or.inl ⟨rfl, rfl, hi, rfl⟩⟩
theorem RC.f35 (R : RC lm g h) {m a i : Nat} (hm : m < q_n g 1) (ha : z_rv h 1 m = some a) (hi : i < 8) : z_iv h (a + 2) i = g 35 (8 * m + i) := R.i 35 (8 * m + i) (a + 2) i ⟨m, a, hm, ha, Or.inr (Or.inl ⟨rfl, rfl, hi, rfl⟩)⟩
theorem RC.f36 (R : RC lm g h) {m a t : Nat} (hm : m < q_n g 1) (ha : z_rv h 1 m = some a) (ht : t < 60) (hl : t < lm m) : z_iv h (a + 3) (60 * 0 + t) = g 36 (60 * m + t) := R.i 36 (60 * m + t) (a + 3) (60 * 0 + t) ⟨m, a, hm, ha, Or.inr (Or.inr ⟨rfl, 0, t, by omega, ht, hl, rfl, rfl, rfl⟩)⟩
theorem RC.f37 (R : RC lm g h) {m a t : Nat} (hm : m < q_n g 1) (ha : z_rv h 1 m = some a) (ht : t < 60) (hl : t < lm m) : z_iv h (a + 3) (60 * 1 + t) = g 37 (60 * m + t) := R.i 37 (60 * m + t) (a + 3) (60 * 1 + t) ⟨m, a, hm, ha, Or.inr (Or.inr ⟨rfl, 1, t, by omega, ht, hl, rfl, rfl, rfl⟩)⟩
theorem RC.f38 (R : RC lm g h) {m a t : Nat} (hm : m < q_n g 1) (ha : z_rv h 1 m = some a) (ht : t < 60) (hl : t < lm m) : z_iv h (a + 3) (60 * 2 + t) = g 38 (60 * m + t) := R.i 38 (60 * m + t) (a + 3) (60 * 2 + t) ⟨m, a, hm, ha, Or.inr (Or.inr ⟨rfl, 2, t, by omega, ht, hl, rfl, rfl, rfl⟩)⟩
theorem RC.f39 (R : RC lm g h) {m a t : Nat} (hm : m < q_n g 1) (ha : z_rv h 1 m = some a) (ht : t < 60) (hl : t < lm m) : z_iv h (a + 3) (60 * 3 + t) = g 39 (60 * m + t) := R.i 39 (60 * m + t) (a + 3) (60 * 3 + t) ⟨m, a, hm, ha, Or.inr (Or.inr ⟨rfl, 3, t, by omega, ht, hl, rfl, rfl, rfl⟩)⟩
theorem RC.f40 (R : RC lm g h) {m a t : Nat} (hm : m < q_n g 1) (ha : z_rv h 1 m = some a) (ht : t < 60) (hl : t < lm m) : z_iv h (a + 3) (60 * 4 + t) = g 40 (60 * m + t) := R.i 40 (60 * m + t) (a + 3) (60 * 4 + t) ⟨m, a, hm, ha, Or.inr (Or.inr ⟨rfl, 4, t, by omega, ht, hl, rfl, rfl, rfl⟩)⟩
theorem RC.f41 (R : RC lm g h) {m a t : Nat} (hm : m < q_n g 1) (ha : z_rv h 1 m = some a) (ht : t < 60) (hl : t < lm m) : z_iv h (a + 3) (60 * 5 + t) = g 41 (60 * m + t) := R.i 41 (60 * m + t) (a + 3) (60 * 5 + t) ⟨m, a, hm, ha, Or.inr (Or.inr ⟨rfl, 5, t, by omega, ht, hl, rfl, rfl, rfl⟩)⟩
theorem RC.f47 (R : RC lm g h) {e b : Nat} (he : e < q_n g 20) (hb : z_rv h 2 e = some b) : z_iv h b 0 = g 47 e := R.i 47 e b 0 ⟨he, hb, by omega, rfl⟩
theorem RC.f48 (R : RC lm g h) {e b : Nat} (he : e < q_n g 20) (hb : z_rv h 2 e = some b) : z_iv h b 1 = g 48 e := R.i 48 e b 1 ⟨he, hb, by omega, rfl⟩
theorem RC.f49 (R : RC lm g h) {e b : Nat} (he : e < q_n g 20) (hb : z_rv h 2 e = some b) : z_iv h b 2 = g 49 e := R.i 49 e b 2 ⟨he, hb, by omega, rfl⟩
theorem RC.f50 (R : RC lm g h) {e b : Nat} (he : e < q_n g 20) (hb : z_rv h 2 e = some b) : z_iv h b 3 = g 50 e := R.i 50 e b 3 ⟨he, hb, by omega, rfl⟩
theorem RC.f51 (R : RC lm g h) {e b : Nat} (he : e < q_n g 20) (hb : z_rv h 2 e = some b) : z_iv h b 4 = g 51 e := R.i 51 e b 4 ⟨he, hb, by omega, rfl⟩
theorem RC.f46 (R : RC lm g h) {e b : Nat} (he : e < q_n g 20) (hb : z_rv h 2 e = some b) : z_iv h b 5 = g 46 e := R.i 46 e b 5 ⟨he, hb, by omega, rfl⟩
theorem RC.f204 (R : RC lm g h) {e b : Nat} (he : e < q_n g 20) (hb : z_rv h 2 e = some b) : z_iv h b 6 = g 204 e := R.i 204 e b 6 ⟨he, hb, by omega, rfl⟩
theorem RC.f52 (R : RC lm g h) {e b : Nat} (he : e < q_n g 20) (hb : z_rv h 2 e = some b) : z_iv h b 7 = g 52 e := R.i 52 e b 7 ⟨he, hb, by omega, rfl⟩
theorem RC.f53 (R : RC lm g h) {e b : Nat} (he : e < q_n g 20) (hb : z_rv h 2 e = some b) : z_iv h b 8 = g 53 e := R.i 53 e b 8 ⟨he, hb, by omega, rfl⟩
theorem RC.f54 (R : RC lm g h) {e b : Nat} (he : e < q_n g 20) (hb : z_rv h 2 e = some b) : z_iv h b 9 = g 54 e := R.i 54 e b 9 ⟨he, hb, by omega, rfl⟩
theorem RC.f55 (R : RC lm g h) {e b : Nat} (he : e < q_n g 20) (hb : z_rv h 2 e = some b) : z_iv h b 10 = g 55 e := R.i 55 e b 10 ⟨he, hb, by omega, rfl⟩
theorem RC.f56 (R : RC lm g h) {e b : Nat} (he : e < q_n g 20) (hb : z_rv h 2 e = some b) : z_iv h b 11 = g 56 e := R.i 56 e b 11 ⟨he, hb, by omega, rfl⟩
theorem RC.f57 (R : RC lm g h) {e b : Nat} (he : e < q_n g 20) (hb : z_rv h 2 e = some b) : z_iv h b 12 = g 57 e := R.i 57 e b 12 ⟨he, hb, by omega, rfl⟩
theorem RC.f200 (R : RC lm g h) {e b : Nat} (he : e < q_n g 20) (hb : z_rv h 2 e = some b) : z_iv h b 13 = g 200 e := R.i 200 e b 13 ⟨he, hb, by omega, rfl⟩
theorem RC.f201 (R : RC lm g h) {e b : Nat} (he : e < q_n g 20) (hb : z_rv h 2 e = some b) : z_iv h b 14 = g 201 e := R.i 201 e b 14 ⟨he, hb, by omega, rfl⟩
theorem RC.f202 (R : RC lm g h) {e b : Nat} (he : e < q_n g 20) (hb : z_rv h 2 e = some b) : z_iv h b 15 = g 202 e := R.i 202 e b 15 ⟨he, hb, by omega, rfl⟩
theorem RC.f72 (R : RC lm g h) {e b : Nat} (he : e < q_n g 55) (hb : z_rv h 3 e = some b) : z_iv h b 2 = g 72 e := R.i 72 e b 2 ⟨he, hb, by omega, rfl⟩
theorem RC.f73 (R : RC lm g h) {e b : Nat} (he : e < q_n g 55) (hb : z_rv h 3 e = some b) : z_iv h b 3 = g 73 e := R.i 73 e b 3 ⟨he, hb, by omega, rfl⟩
theorem RC.f74 (R : RC lm g h) {e b : Nat} (he : e < q_n g 55) (hb : z_rv h 3 e = some b) : z_iv h b 4 = g 74 e := R.i 74 e b 4 ⟨he, hb, by omega, rfl⟩
theorem RC.f75 (R : RC lm g h) {e b : Nat} (he : e < q_n g 55) (hb : z_rv h 3 e = some b) : z_iv h b 5 = g 75 e := R.i 75 e b 5 ⟨he, hb, by omega, rfl⟩
theorem RC.f76 (R : RC lm g h) {e b : Nat} (he : e < q_n g 55) (hb : z_rv h 3 e = some b) : z_iv h b 6 = g 76 e := R.i 76 e b 6 ⟨he, hb, by omega, rfl⟩
theorem RC.f77 (R : RC lm g h) {e b : Nat} (he : e < q_n g 55) (hb : z_rv h 3 e = some b) : z_iv h b 7 = g 77 e := R.i 77 e b 7 ⟨he, hb, by omega, rfl⟩
theorem RC.f205 (R : RC lm g h) {e b : Nat} (he : e < q_n g 55) (hb : z_rv h 3 e = some b) : z_iv h b 8 = g 205 e := R.i 205 e b 8 ⟨he, hb, by omega, rfl⟩
theorem RC.f79 (R : RC lm g h) {e b : Nat} (he : e < q_n g 55) (hb : z_rv h 3 e = some b) : z_iv h b 9 = g 79 e := R.i 79 e b 9 ⟨he, hb, by omega, rfl⟩
theorem RC.f86 (R : RC lm g h) {n s : Nat} (hn : n < 4) (hs : z_rv h 4 n = some s) : z_iv h s 0 = g 86 n := R.i 86 n s 0 ⟨hn, hs, rfl⟩
theorem RC.f88 (R : RC lm g h) {n s j : Nat} (hn : n < 4) (hs : z_rv h 4 n = some s) (hj : j < 48) : z_iv h (s + 1) j = g 88 (48 * n + j) := R.i 88 (48 * n + j) (s + 1) j ⟨n, s, hn, hs, rfl, hj, rfl⟩
end RCa
/-- heaps that are alike for RX -/
theorem RX.iv {g : zG} {h h2 : zH} (X : RX g h) (er : z_rv h2 = z_rv h) (el : z_ln h2 = z_ln h) (ei : ∀ c, z_tg h c = 10 → z_iv h2 c = z_iv h c) (W : CW h) (F : FX h) : RX g h2 := by
  obtain ⟨x1, x2, x3, x4, x5, x6, x7, x8⟩ := X
  have tr : ∀ o k m, (∀ c, o = some c → z_tg h c = 10) → TrR (z_iv h) o g k m → TrR (z_iv h2) o g k m := by
    intro o k m ho q
    rcases q with q | ⟨c, q, r⟩
    · exact Or.inl q
    · refine Or.inr ⟨c, q, ?_⟩
      rw [ei c (ho c q)]
      exact r
  unfold RX
  rw [er, el]
  refine ⟨x1, x2, x3, x4, x5, x6, fun m a hm ha => tr _ _ _ (fun c hc => W.tyOf (W.mt F ha) hc (by decide) rfl) (x7 m a hm ha), fun k c hk hc => tr _ _ _ (fun d hd => W.tyOf (W.rt F hc) hd (by decide) rfl) (x8 k c hk hc)⟩
/-- worlds that are alike for RX -/
theorem RX.g {g g2 : zG} {h : zH} (X : RX g h) (e1 : g2 27 1 = g 27 1) (e2 : g2 27 20 = g 27 20) (e3 : g2 27 55 = g 27 55) (ek : ∀ k, (k = 46 ∨ k = 71 ∨ k = 86 ∨ k = 87 ∨ (42 ≤ k ∧ k ≤ 45) ∨ (80 ≤ k ∧ k ≤ 83)) → g2 k = g k) : RX g2 h := by
  obtain ⟨x1, x2, x3, x4, x5, x6, x7, x8⟩ := X
  have n1 : q_n g2 1 = q_n g 1 := by unfold q_n; rw [e1]
  have n2 : q_n g2 20 = q_n g 20 := by unfold q_n; rw [e2]
  have n3 : q_n g2 55 = q_n g 55 := by unfold q_n; rw [e3]
  have lt : ∀ x, q_lt g2 x = q_lt g x := by intro x; unfold q_lt; rw [n2, ek 46 (by omega)]
  have tr : ∀ iv o m k, (k = 42 ∨ k = 80) → TrR iv o g k m → TrR iv o g2 k m := by
    intro iv o m k hk q
    unfold TrR
    rw [ek k (by omega), ek (k + 1) (by omega), ek (k + 2) (by omega), ek (k + 3) (by omega)]
    exact q
  unfold RX
  rw [n1, n2, n3, ek 71 (by omega), ek 86 (by omega), ek 87 (by omega)]
  refine ⟨x1, x2, x3, fun m a hm ha => by rw [lt]; exact x4 m a hm ha, x5, x6, fun m a hm ha => tr _ _ _ _ (by omega) (x7 m a hm ha), fun k c hk hc => tr _ _ _ _ (by omega) (x8 k c hk hc)⟩
theorem up_ne {g : zG} {k i k' : Nat} {v : Int32} (h : ¬ k' = k) : z_up2 g k i v k' = g k' := by
  funext j
  exact if_neg (fun q => h q.1)
theorem up_nj {g : zG} {k i k' i' : Nat} {v : Int32} (h : ¬ (k' = k ∧ i' = i)) : z_up2 g k i v k' i' = g k' i' := if_neg h
theorem up_at {g : zG} {k i : Nat} {v : Int32} : z_up2 g k i v k i = v := if_pos ⟨rfl, rfl⟩
/-- one int is written on both sides -/
theorem RC.up {lm : Nat → Nat} {g : zG} {h : zH} (R : RC lm g h) {k i c j : Nat} {v : Int32} (L : Loc (q_n g 1) (q_n g 20) (q_n g 55) (q_n g 45) lm h k i c j) (hk : (k = 27 → i = 0 ∨ i = 35 ∨ i = 36 ∨ i = 76) ∧ ¬ k = 46 ∧ ¬ k = 86) : RC lm (z_up2 g k i v) (z_sI h c j v) := by
  have n1 : q_n (z_up2 g k i v) 1 = q_n g 1 := by unfold q_n; rw [up_nj (by omega)]
  have n2 : q_n (z_up2 g k i v) 20 = q_n g 20 := by unfold q_n; rw [up_nj (by omega)]
  have n3 : q_n (z_up2 g k i v) 55 = q_n g 55 := by unfold q_n; rw [up_nj (by omega)]
  have n4 : q_n (z_up2 g k i v) 45 = q_n g 45 := by unfold q_n; rw [up_nj (by omega)]
  have hkd : ∀ k', (k' = 71 ∨ k' = 87 ∨ (42 ≤ k' ∧ k' ≤ 45) ∨ (80 ≤ k' ∧ k' ≤ 83)) → kd k' = 9 := by
    intro k' hk'
    have : k' = 71 ∨ k' = 87 ∨ k' = 42 ∨ k' = 43 ∨ k' = 44 ∨ k' = 45 ∨ k' = 80 ∨ k' = 81 ∨ k' = 82 ∨ k' = 83 := by omega
    rcases this with q | q | q | q | q | q | q | q | q | q <;> subst q <;> rfl
  have h9 : ¬ kd k = 9 := by
    intro q
    unfold Loc at L
    rw [q] at L
    exact L
  have tc : ¬ z_tg h c = 10 := by
    intro q
    have g1 := R.f.ge q (by omega)
    rcases L.cell R.w R.f with q | q | q | q | ⟨B, q, q2⟩ | q
    · omega
    · omega
    · omega
    · omega
    · have := R.b.c q; omega
    · omega
  unfold RC
  rw [n1, n2, n3, n4]
  refine ⟨R.w.sI, R.f, R.b, R.j, R.i.up R.w R.f R.b R.j L, ?_⟩
  refine (R.x.iv (h2 := z_sI h c j v) rfl rfl (fun d hd => ?_) R.w R.f).g (up_nj (by omega)) (up_nj (by omega)) (up_nj (by omega)) (fun k' hk' => up_ne (fun q => ?_))
  · exact up_ne (fun q => tc (q ▸ hd))
  · subst q
    rcases hk' with q | q | q | q | q | q
    · omega
    · exact h9 (hkd _ (by omega))
    · omega
    · exact h9 (hkd _ (by omega))
    · exact h9 (hkd _ (by omega))
    · exact h9 (hkd _ (by omega))
