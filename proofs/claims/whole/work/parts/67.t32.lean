/-! choices: what the class says of payments and gains -/
section CI
variable {c : Nat} {lm : Nat → Nat} {g : zG} {h : zH}
def o_n (g : zG) (m e n : Nat) : Int64 := a_oc (s_n g m e n).toInt64 (g 48 e) (g 42 m) (g 43 m) (g 44 m)
def h_n (g : zG) (m e : Nat) (pt : Int32) (n : Nat) : Int32 := if (0 : Int64) ≤ (o_n g m e n - (c_n g m e (g 49 e) (g 52 e) n).toInt64) then (((o_n g m e n - (c_n g m e (g 49 e) (g 52 e) n).toInt64) * (g 31 m).toInt64) / pt.toInt64).toInt32 else (0 : Int32)
def p_n (g : zG) (m e : Nat) (pt : Int32) : Nat → Int64
  | 0 => 0
  | n + 1 => p_n g m e pt n + (h_n g m e pt n).toInt64
theorem INV.cnb (I : INV c lm g) {m e n : Nat} {d a : Int32} (hm : m < q_n g 1) (he : e < q_n g 20) (hd : 0 ≤ d.toInt ∧ d.toInt ≤ 1000000) (ha : 0 ≤ a.toInt ∧ a.toInt ≤ 60) (hn : n < 24) : 0 ≤ (a_cl (s_n g m e n).toInt64 (g 48 e) d (a + Int32.ofNat n)).toInt ∧ (a_cl (s_n g m e n).toInt64 (g 48 e) d (a + Int32.ofNat n)).toInt ≤ 989901 := by
  have tn : (Int32.ofNat n).toInt = (n : Int) := n_i (by omega)
  have ty : (a + Int32.ofNat n).toInt = a.toInt + n := by rw [i_add (by omega) (by omega), tn]
  exact (a_coal (I.mnn (n := n) hm he).2.2 (I.be.at (k := 48) (a := 1) (b := 99) (by decide) he) hd (by omega)).2
theorem INV.a60 (I : INV c lm g) {e : Nat} (he : e < q_n g 20) : 0 ≤ (g 52 e).toInt ∧ (g 52 e).toInt ≤ 60 := by
  have w := I.ag e he
  obtain ⟨m', hm', hm6', em'⟩ := I.mo he
  rw [em', n_ix (by omega)] at w
  have := (I.wl m' hm6').1
  omega
theorem K_sv (R : RC lm g h) (I : INV c lm g) {m a t e b n : Nat} {pt : Int32} (hm : m < q_n g 1) (ha : z_rv h 1 m = some a) (ht : z_rv h a 9 = some t) (hz : ¬ g 42 m = 0) (he : e < q_n g 20) (hn : n < 24) (hp : 1 ≤ pt.toInt ∧ pt.toInt ≤ 9) : KV z_pI 97 [.ref t, .int (s_n g m e n), .int (g 48 e), .int (c_n g m e (g 49 e) (g 52 e) n), .int (g 31 m), .int pt] h (h_n g m e pt n) := by
  have ta := R.w.mt R.f ha
  have tt : z_tg h t = 10 := R.w.tyOf ta (j := 9) ht (by decide) rfl
  rcases R.mtrial hm ha with ⟨w, _⟩ | ⟨t', w, _, v0, v1, v2, _⟩
  · rw [ht] at w; cases w
  rw [ht] at w
  injection w with w
  subst w
  rcases I.tm m (I.m6 hm) with z | ⟨q1, q2, q3, _⟩
  · exact absurd z.1 hz
  have sb := (I.mnn (n := n) hm he).2.2
  have o := a_old (s := s_n g m e n) (l := g 48 e) (s2 := g 42 m) (l2 := g 43 m) (c := g 44 m) (by omega) (I.be.at (k := 48) (a := 1) (b := 99) (by decide) he) q1 q2 q3
  have cb := I.cnb (n := n) hm he (I.d49 he) (I.a60 he) hn
  have cb' : 0 ≤ (c_n g m e (g 49 e) (g 52 e) n).toInt ∧ (c_n g m e (g 49 e) (g 52 e) n).toInt ≤ 59394060 := by
    unfold c_n
    rw [i_l (by omega) (by omega)]
    omega
  have p31 := I.bm.at (k := 31) (a := 1) (b := 99) (by decide) hm
  refine kv_of (C_97 t _ _ _ _ _ h R.w tt ⟨?_, rfl⟩)
  rw [v0, v1, v2]
  rw [show g (42 + 1) m = g 43 m from rfl, show g (42 + 2) m = g 44 m from rfl, o.1]
  exact a_share o.2.1 cb' (by omega) hp
theorem K_35 (R : RC lm g h) (I : INV c lm g) {m a B t e b M : Nat} {pt ld : Int32} (hm : m < q_n g 1) (ha : z_rv h 1 m = some a) (ht : z_rv h a 9 = some t) (hz : ¬ g 42 m = 0) (he : e < q_n g 20) (hb : z_rv h 2 e = some b) (C : Cho h a B (some b) (g 27 0) (Int32.ofNat M) ld) (hM : M ≤ 24) (hp : 1 ≤ pt.toInt ∧ pt.toInt ≤ 9) : KV z_pL 35 [.ref 14, .int pt] h (p_n g m e pt M) := by
  obtain ⟨c0, c1, c2, c3, c4, c5⟩ := C
  have t14 : z_tg h 14 = 2 := R.f.at (by omega) rfl
  have k0 := I.cnt.1
  have a60 := I.a60 he
  refine kv_of (X_35 14 pt h R.w t14 ?_)
  refine z_lp (N := M) (G := fun n => ∀ u5 u6, KG z_pL 35 5 [some (.ref 14), some (.int pt), some (.long (p_n g m e pt n)), none, some (.int (Int32.ofNat n)), u5, u6] [] h _) ?_ ?_ none none
  · intro u5 u6
    refine X_35_5 14 _ _ _ _ _ h R.w t14 ?_
    rw [c4, if_pos ((n_lit_le (by omega) (by omega)).mpr (Nat.le_refl _))]
    exact ⟨rfl, rfl⟩
  · intro n hn w u5 u6
    refine X_35_5 14 _ _ _ _ _ h R.w t14 ?_
    have tn : (Int32.ofNat n).toInt = (n : Int) := n_i (by omega)
    have tx : (g 27 0 + Int32.ofNat n).toInt = (g 27 0).toInt + n := by rw [i_add (by omega) (by omega), tn]
    have ty : (g 52 e + Int32.ofNat n).toInt = (g 52 e).toInt + n := by rw [i_add (by omega) (by omega), tn]
    rw [c4, if_neg (fun z => by have := (n_lit_le (by omega) (by omega)).mp z; omega), c3]
    refine o_S c1 (o_S c0 ⟨_, K_wat R hm ha (by omega) (by omega), ?_⟩)
    rw [R.f30 hm ha, R.f50 he hb, R.f49 he hb, R.f52 he hb]
    refine ⟨_, K_need R I he hb (I.wnb (n := n) hm) (I.bm.at (k := 30) (a := 1) (b := 300) (by decide) hm), _, K_coal R I he hb (I.mnn (n := n) hm he).2.2 (I.d49 he) (by omega), o_S ht ?_⟩
    rw [R.f48 he hb, R.f31 hm ha]
    refine ⟨_, K_sv (b := b) R I hm ha ht hz he (by omega) hp, ?_⟩
    rw [n_s]
    exact w _ _
/-- PAYMENTS -/
def q_py (g : zG) (m e M : Nat) : Int64 := if g 47 e = 1 then (if g 42 m = 0 then (0 : Int64) else (if q_hd g 1 (Int32.ofNat m) (g 27 0) (-4) = (-4 : Int32) then (if q_hd g 0 (Int32.ofNat m) (g 27 0) (-4) = (-4 : Int32) then (0 : Int64) else p_n g m e (q_hd g 0 (Int32.ofNat m) (g 27 0) (-4)) M) else (q_hd g 1 (Int32.ofNat m) (g 27 0) (-4)).toInt64 * (Int32.ofNat M).toInt64)) else (0 : Int64)
theorem K_34 (R : RC lm g h) (I : INV c lm g) {m a B e b M : Nat} {ld : Int32} (hm : m < q_n g 1) (ha : z_rv h 1 m = some a) (hB : z_rv h 0 9 = some B) (he : e < q_n g 20) (e46 : g 46 e = Int32.ofNat m) (hb : z_rv h 2 e = some b) (C : Cho h a B (some b) (g 27 0) (Int32.ofNat M) ld) (hM : M ≤ 24) : KV z_pL 34 [.ref 14] h (q_py g m e M) := by
  have C' := C
  obtain ⟨c0, c1, c2, c3, c4, c5⟩ := C
  have t14 : z_tg h 14 = 2 := R.f.at (by omega) rfl
  refine kv_of (X_34 14 h R.w t14 (o_S c1 ?_))
  rw [R.f47 he hb, R.f46 he hb, c3, c4, e46]
  unfold q_py
  by_cases p1 : g 47 e = 1
  · rw [if_pos p1, if_pos p1]
    refine o_S c0 ?_
    rcases R.mtrial hm ha with ⟨w, z⟩ | ⟨t, w, z, _⟩
    · rw [if_pos z]
      exact o_N w ⟨rfl, rfl⟩
    · rw [if_neg z]
      refine o_S w (o_S c2 ⟨_, K_fixed R I hB _ _, ?_⟩)
      by_cases p2 : q_hd g 1 (Int32.ofNat m) (g 27 0) (-4) = (-4 : Int32)
      · rw [if_pos p2, if_pos p2]
        refine ⟨_, K_share R I hB _ _, ?_⟩
        by_cases p3 : q_hd g 0 (Int32.ofNat m) (g 27 0) (-4) = (-4 : Int32)
        · rw [if_pos p3, if_pos p3]
          exact ⟨rfl, rfl⟩
        · rw [if_neg p3, if_neg p3]
          exact ⟨_, K_35 R I hm ha w z he hb C' hM (q_hd_share I p3), rfl, rfl⟩
      · rw [if_neg p2, if_neg p2]
        exact ⟨rfl, rfl⟩
  · rw [if_neg p1, if_neg p1]
    exact ⟨rfl, rfl⟩
/-- DUTY of a trial -/
def q_du (g : zG) (m : Nat) : Int32 := (if (1 : Int64) < (s_dn ((g 42 m).toInt64 * (g 43 m).toInt64) ((g 44 m).toInt64)) then (s_dn ((g 42 m).toInt64 * (g 43 m).toInt64) ((g 44 m).toInt64)) else (1 : Int64)).toInt32
theorem K_32 (R : RC lm g h) (I : INV c lm g) {m a B e b M : Nat} {ld : Int32} (hm : m < q_n g 1) (ha : z_rv h 1 m = some a) (he : e < q_n g 20) (hb : z_rv h 2 e = some b) (C : Cho h a B (some b) (g 27 0) (Int32.ofNat M) ld) (hM : M ≤ 24) : KV z_pL 32 [.ref 14] h (f_n g m e (g 49 e) (g 52 e) (Int32.ofNat M) ld M) := by
  have C' := C
  obtain ⟨c0, c1, c2, c3, c4, c5⟩ := C
  have t14 : z_tg h 14 = 2 := R.f.at (by omega) rfl
  refine kv_of (X_32 14 h R.w t14 (o_S c1 ?_))
  rw [R.f49 he hb, R.f52 he hb, c4]
  exact ⟨_, K_33 R I hm ha he hb C' hM (I.d49 he) (I.a60 he), rfl, rfl⟩
end CI
