/-! bases of both sides -/
theorem o_S {o : Option Nat} {a : Nat} {P : Prop} {F : Nat → Prop} (e : o = some a) (f : F a) : (o = none → P) ∧ ∀ b, o = some b → F b :=
  ⟨fun q => (by rw [e] at q; cases q), fun b q => (by rw [e] at q; cases q; exact f)⟩
theorem o_N {o : Option Nat} {P : Prop} {F : Nat → Prop} (e : o = none) (p : P) : (o = none → P) ∧ ∀ b, o = some b → F b :=
  ⟨fun _ => p, fun b q => (by rw [e] at q; cases q)⟩
theorem n_cnt {x : Int32} {i : Nat} (hx : 0 ≤ x.toInt) (hi : i < z_ix x) : ¬ x ≤ Int32.ofNat i := by
  have hb := Int32.toInt_lt x
  unfold z_ix at hi
  rw [n_le, n_i (by omega)]
  omega
theorem n_end {x : Int32} (hx : 0 ≤ x.toInt) : x ≤ Int32.ofNat (z_ix x) := by
  rw [n_of hx]
  exact Int32.le_refl x
theorem n_at {x : Int32} (hx : 0 ≤ x.toInt) : (z_ix x : Int) = x.toInt := by
  unfold z_ix
  omega
/-- a number of a table, told by its count -/
theorem n_rng {n x : Int32} (hn : 0 ≤ n.toInt) (h : (0 : Int32) ≤ x ∧ x ≤ n - 1) : ∃ m, m < z_ix n ∧ x = Int32.ofNat m := by
  have hb := Int32.toInt_lt n
  have h1 : (0 : Int) ≤ x.toInt := n_le.mp h.1
  have h2 : x.toInt ≤ n.toInt - 1 := by
    have := n_le.mp h.2
    rw [i_sub (by show _ ≤ _ - (1 : Int); omega) (by show _ - (1 : Int) < _; omega)] at this
    exact this
  refine ⟨z_ix x, ?_, (n_of h1).symm⟩
  unfold z_ix
  omega
theorem n_rng' {n : Int32} {m : Nat} (hn : 0 ≤ n.toInt) (h : m < z_ix n) : (0 : Int32) ≤ Int32.ofNat m ∧ Int32.ofNat m ≤ n - 1 := by
  have hb := Int32.toInt_lt n
  unfold z_ix at h
  rw [n_le, n_le, n_i (by omega), i_sub (by show _ ≤ _ - (1 : Int); omega) (by show _ - (1 : Int) < _; omega)]
  refine ⟨?_, ?_⟩
  · show (0 : Int) ≤ _
    omega
  · show (m : Int) ≤ n.toInt - (1 : Int)
    omega
theorem s_lat_some {r : Nat → Int32} {x : Int32} : ∀ {n e : Nat}, s_lat r x n = some e → e < n ∧ r e = x := by
  intro n
  induction n with
  | zero => intro e h; cases h
  | succ n ih =>
    intro e h
    unfold s_lat at h
    by_cases c : r n = x
    · rw [if_pos c] at h
      injection h with h
      subst h
      exact ⟨by omega, c⟩
    · rw [if_neg c] at h
      have := ih h
      exact ⟨by omega, this.2⟩
theorem q_lt_some {g : zG} {x : Int32} {e : Nat} (h : q_lt g x = some e) : e < q_n g 20 ∧ g 46 e = x := s_lat_some h
theorem q_wk_some {g : zG} {x : Int32} {e : Nat} (h : q_wk g x = some e) : e < q_n g 20 ∧ g 46 e = x ∧ g 55 e = 0 ∧ q_lt g x = some e := by
  unfold q_wk at h
  cases k : q_lt g x with
  | none => rw [k] at h; cases h
  | some d =>
    rw [k] at h
    by_cases c : g 55 d = 0
    · simp only [c, if_true] at h
      injection h with h
      subst h
      exact ⟨(q_lt_some k).1, (q_lt_some k).2, c, rfl⟩
    · simp only [c, if_false] at h
      cases h
section BK
variable {c : Nat} {lm : Nat → Nat} {g : zG} {h : zH}
theorem INV.mi (I : INV c lm g) (x : Int32) : ¬ ((0 : Int32) ≤ x ∧ x ≤ g 27 1 - 1) ∨ ∃ m, m < q_n g 1 ∧ m < 6 ∧ x = Int32.ofNat m := by
  by_cases k : (0 : Int32) ≤ x ∧ x ≤ g 27 1 - 1
  · obtain ⟨m, h1, h2⟩ := n_rng I.cnt.2.1.1 k
    refine Or.inr ⟨m, h1, ?_, h2⟩
    have := I.cnt.2.1
    unfold z_ix at h1
    omega
  · exact Or.inl k
theorem INV.ei (I : INV c lm g) (x : Int32) : ¬ ((0 : Int32) ≤ x ∧ x ≤ g 27 20 - 1) ∨ ∃ m, m < q_n g 20 ∧ m < 12 ∧ x = Int32.ofNat m := by
  by_cases k : (0 : Int32) ≤ x ∧ x ≤ g 27 20 - 1
  · obtain ⟨m, h1, h2⟩ := n_rng I.cnt.2.2.1.1 k
    refine Or.inr ⟨m, h1, ?_, h2⟩
    have := I.cnt.2.2.1
    unfold z_ix at h1
    omega
  · exact Or.inl k
theorem INV.ri (I : INV c lm g) (x : Int32) : ¬ ((0 : Int32) ≤ x ∧ x ≤ g 27 55 - 1) ∨ ∃ m, m < q_n g 55 ∧ m < 60 ∧ x = Int32.ofNat m := by
  by_cases k : (0 : Int32) ≤ x ∧ x ≤ g 27 55 - 1
  · obtain ⟨m, h1, h2⟩ := n_rng I.cnt.2.2.2.1.1 k
    refine Or.inr ⟨m, h1, ?_, h2⟩
    have := I.cnt.2.2.2.1
    unfold z_ix at h1
    omega
  · exact Or.inl k
theorem INV.m6 (I : INV c lm g) {m : Nat} (hm : m < q_n g 1) : m < 6 := by
  have := I.cnt.2.1
  unfold q_n z_ix at hm
  omega
theorem INV.e12 (I : INV c lm g) {m : Nat} (hm : m < q_n g 20) : m < 12 := by
  have := I.cnt.2.2.1
  unfold q_n z_ix at hm
  omega
theorem INV.r60 (I : INV c lm g) {m : Nat} (hm : m < q_n g 55) : m < 60 := by
  have := I.cnt.2.2.2.1
  unfold q_n z_ix at hm
  omega
theorem INV.l16 (I : INV c lm g) {m : Nat} (hm : m < q_n g 45) : m < 16 := by
  have := I.cnt.2.2.2.2.1
  unfold q_n z_ix at hm
  omega
theorem INV.mv (I : INV c lm g) {m : Nat} (hm : m < q_n g 1) : (0 : Int32) ≤ Int32.ofNat m ∧ Int32.ofNat m ≤ g 27 1 - 1 := n_rng' I.cnt.2.1.1 hm
theorem INV.ev (I : INV c lm g) {m : Nat} (hm : m < q_n g 20) : (0 : Int32) ≤ Int32.ofNat m ∧ Int32.ofNat m ≤ g 27 20 - 1 := n_rng' I.cnt.2.2.1.1 hm
theorem INV.rv (I : INV c lm g) {m : Nat} (hm : m < q_n g 55) : (0 : Int32) ≤ Int32.ofNat m ∧ Int32.ofNat m ≤ g 27 55 - 1 := n_rng' I.cnt.2.2.2.1.1 hm
/-- the mine of an engine -/
theorem INV.mo (I : INV c lm g) {e : Nat} (he : e < q_n g 20) : ∃ m, m < q_n g 1 ∧ m < 6 ∧ g 46 e = Int32.ofNat m := by
  have h1 := I.em e he
  have h2 := I.cnt.2.1
  refine ⟨z_ix (g 46 e), ?_, ?_, (n_of h1.1).symm⟩ <;> unfold z_ix
  · unfold q_n z_ix; omega
  · omega
theorem INV.eo (I : INV c lm g) {k : Nat} (hk : k < q_n g 55) : z_ix (g 71 k) < q_n g 20 ∧ g 71 k = Int32.ofNat (z_ix (g 71 k)) := by
  have h1 := (I.re k hk).1
  refine ⟨?_, (n_of h1.1).symm⟩
  unfold q_n z_ix; omega
theorem lit_le {a b : Nat} (ha : a < 2147483648) (hb : b < 2147483648) (h : b < a) : ¬ Int32.ofNat a ≤ Int32.ofNat b := by
  rw [n_lit_le ha hb]
  omega
theorem K_mineN (R : RC lm g h) {x : Int32} (hx : ¬ ((0 : Int32) ≤ x ∧ x ≤ g 27 1 - 1)) : KV z_pA 148 [.ref 0, .int x] h none := by
  refine kv_of (X_148 x h R.w ?_)
  rw [R.n1, if_neg hx]
  exact ⟨rfl, rfl⟩
theorem K_mineS (R : RC lm g h) (I : INV c lm g) {m a : Nat} (hm : m < q_n g 1) (ha : z_rv h 1 m = some a) : KV z_pA 148 [.ref 0, .int (Int32.ofNat m)] h (some a) := by
  have := I.m6 hm
  refine kv_of (X_148 _ h R.w ?_)
  rw [R.n1, if_pos (I.mv hm), if_neg (show ¬ (6 : Int32) ≤ _ from lit_le (a := 6) (by omega) (by omega) (by omega)), n_ix (by omega)]
  exact ⟨n_bd (N := 6) this (by omega), o_S ha ⟨rfl, rfl⟩⟩
theorem K_engN (R : RC lm g h) {x : Int32} (hx : ¬ ((0 : Int32) ≤ x ∧ x ≤ g 27 20 - 1)) : KV z_pA 149 [.ref 0, .int x] h none := by
  refine kv_of (X_149 x h R.w ?_)
  rw [R.n20, if_neg hx]
  exact ⟨rfl, rfl⟩
theorem K_engS (R : RC lm g h) (I : INV c lm g) {m a : Nat} (hm : m < q_n g 20) (ha : z_rv h 2 m = some a) : KV z_pA 149 [.ref 0, .int (Int32.ofNat m)] h (some a) := by
  have := I.e12 hm
  refine kv_of (X_149 _ h R.w ?_)
  rw [R.n20, if_pos (I.ev hm), if_neg (show ¬ (12 : Int32) ≤ _ from lit_le (a := 12) (by omega) (by omega) (by omega)), n_ix (by omega)]
  exact ⟨n_bd (N := 12) this (by omega), o_S ha ⟨rfl, rfl⟩⟩
theorem K_reaN (R : RC lm g h) {x : Int32} (hx : ¬ ((0 : Int32) ≤ x ∧ x ≤ g 27 55 - 1)) : KV z_pA 150 [.ref 0, .int x] h none := by
  refine kv_of (X_150 x h R.w ?_)
  rw [R.n55, if_neg hx]
  exact ⟨rfl, rfl⟩
theorem K_reaS (R : RC lm g h) (I : INV c lm g) {m a : Nat} (hm : m < q_n g 55) (ha : z_rv h 3 m = some a) : KV z_pA 150 [.ref 0, .int (Int32.ofNat m)] h (some a) := by
  have := I.r60 hm
  refine kv_of (X_150 _ h R.w ?_)
  rw [R.n55, if_pos (I.rv hm), if_neg (show ¬ (60 : Int32) ≤ _ from lit_le (a := 60) (by omega) (by omega) (by omega)), n_ix (by omega)]
  exact ⟨n_bd (N := 60) this (by omega), o_S ha ⟨rfl, rfl⟩⟩
theorem K_wk (R : RC lm g h) {m a : Nat} (hm : m < q_n g 1) (ha : z_rv h 1 m = some a) : KV z_pA 44 [.ref a] h ((q_wk g (Int32.ofNat m)).bind (z_rv h 2)) := by
  refine kv_of (X_44 a h R.w (R.w.mt R.f ha) ?_)
  have e := R.latest hm ha
  unfold q_wk
  cases k : q_lt g (Int32.ofNat m) with
  | none =>
    rw [k] at e
    exact o_N e ⟨rfl, rfl⟩
  | some d =>
    rw [k] at e
    obtain ⟨b, hb⟩ := R.engine (q_lt_some k).1
    have e' : z_rv h a 10 = some b := by rw [e]; exact hb
    refine o_S e' ?_
    rw [R.f55 (q_lt_some k).1 hb]
    by_cases z : g 55 d = 0
    · rw [if_pos z]
      dsimp only
      rw [if_pos z]
      exact ⟨hb.symm, rfl⟩
    · rw [if_neg z]
      dsimp only
      rw [if_neg z]
      exact ⟨rfl, rfl⟩
theorem K_un (R : RC lm g h) (I : INV c lm g) {m a : Nat} (hm : m < q_n g 1) (ha : z_rv h 1 m = some a) : KV z_pI 46 [.ref a, .int (g 27 0)] h (q_un g (Int32.ofNat m)) := by
  refine kv_of (X_46 a _ h R.w (R.w.mt R.f ha) ?_)
  have e := R.latest hm ha
  unfold q_un q_wk
  cases k : q_lt g (Int32.ofNat m) with
  | none =>
    rw [k] at e
    exact o_N e ⟨rfl, rfl⟩
  | some d =>
    rw [k] at e
    obtain ⟨b, hb⟩ := R.engine (q_lt_some k).1
    have e' : z_rv h a 10 = some b := by rw [e]; exact hb
    refine o_S e' ?_
    rw [R.f55 (q_lt_some k).1 hb, R.f200 (q_lt_some k).1 hb, (I.gs d (q_lt_some k).1).1]
    by_cases z : g 55 d = 0
    · rw [if_pos z]
      dsimp only
      rw [if_pos z]
      exact ⟨rfl, rfl⟩
    · rw [if_neg z]
      dsimp only
      rw [if_neg z]
      exact ⟨rfl, rfl⟩
theorem K_iw (R : RC lm g h) (I : INV c lm g) {e b : Nat} (he : e < q_n g 20) (hb : z_rv h 2 e = some b) : KV z_pI 151 [.ref 0, .ref b] h (z_bt (q_wk g (g 46 e) = some e)) := by
  refine kv_of (X_151 b h R.w (R.w.et R.f hb) ?_)
  obtain ⟨m, hm, hm6, em⟩ := I.mo he
  obtain ⟨a, ha⟩ := R.mine hm
  rw [R.n1, R.f46 he hb, em, if_pos (I.mv hm), if_neg (show ¬ (6 : Int32) ≤ _ from lit_le (a := 6) (by omega) (by omega) (by omega)), n_ix (by omega)]
  refine ⟨n_bd (N := 6) hm6 (by omega), o_S ha ?_⟩
  have el := R.latest hm ha
  cases k : q_lt g (Int32.ofNat m) with
  | none =>
    rw [k] at el
    exact o_N el ⟨(z_bt_0.mpr (fun q => by have w := (q_wk_some q).2.2.2; rw [k] at w; cases w)).symm, rfl⟩
  | some d =>
    rw [k] at el
    obtain ⟨b2, hb2⟩ := R.engine (q_lt_some k).1
    have el' : z_rv h a 10 = some b2 := by rw [el]; exact hb2
    refine o_S el' ?_
    rw [R.f55 (q_lt_some k).1 hb2]
    by_cases z : g 55 d = 0
    · rw [if_pos z]
      by_cases q : b2 = b
      · rw [if_pos q]
        have w : d = e := R.j.2.1 _ _ _ (q_lt_some k).1 he hb2 (q ▸ hb)
        exact ⟨(z_bt_1.mpr (by unfold q_wk; rw [k]; dsimp only; rw [if_pos z, w])).symm, rfl⟩
      · rw [if_neg q]
        refine ⟨(z_bt_0.mpr (fun w => ?_)).symm, rfl⟩
        have w := (q_wk_some w).2.2.2
        rw [k] at w
        injection w with w
        subst w
        rw [hb] at hb2
        exact q (Option.some.inj hb2).symm
    · rw [if_neg z]
      refine ⟨(z_bt_0.mpr (fun w => ?_)).symm, rfl⟩
      have w2 := (q_wk_some w).2.2.2
      rw [k] at w2
      injection w2 with w2
      subst w2
      exact z (q_wk_some w).2.2.1
end BK
