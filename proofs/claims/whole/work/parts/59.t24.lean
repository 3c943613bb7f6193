def g_gA (g : zG) (p : Nat) : zG := z_up2 (z_up2 g 36 p 0) 37 p 0
def g_gB (g : zG) (p e : Nat) (s cc : Int32) : zG := z_up2 (z_up2 (z_up2 (z_up2 (g_gA g p) 36 p s) 37 p cc) 56 e (g 56 e + s)) 57 e (g 57 e + cc)
def g_gD (g : zG) (p e : Nat) (s cc v : Int32) : zG := z_up2 (z_up2 (g_gB g p e s cc) 53 e v) 52 e (g 52 e + 1)
def q_w (g : zG) (m : Nat) : Int32 := g 32 (12 * m + z_ix (g 27 0) % 12)
def q_d (g : zG) (m e : Nat) : Int64 := a_nd (q_w g m) (g 30 m) (g 48 e)
def q_s (g : zG) (m e : Nat) : Int32 := if g 50 e < (q_d g m e).toInt32 then g 50 e else (q_d g m e).toInt32
def q_c (g : zG) (m e : Nat) : Int32 := (a_cl (q_s g m e).toInt64 (g 48 e) (g 49 e) (g 52 e)).toInt32
def q_v (g : zG) (m e : Nat) : Int32 := if g 54 e = 0 then (g 53 e + q_s g m e) - (g 53 e + q_s g m e) / 10000 * 10000 else g 53 e
def g_go (g : zG) (m : Nat) : zG := match q_wk g (Int32.ofNat m) with
  | none => g_gT (g_gA g (60 * m + q_n g 0)) m (60 * m + q_n g 0) (z_bt (¬ (q_w g m ≤ 0))) (-4)
  | some e => g_gT (g_gD g (60 * m + q_n g 0) e (q_s g m e) (q_c g m e) (q_v g m e)) m (60 * m + q_n g 0) (z_bt (¬ ((q_d g m e).toInt32 ≤ g 50 e))) (Int32.ofNat e)
theorem g_go_N {g : zG} {m : Nat} (k : q_wk g (Int32.ofNat m) = none) : g_go g m = g_gT (g_gA g (60 * m + q_n g 0)) m (60 * m + q_n g 0) (z_bt (¬ (q_w g m ≤ 0))) (-4) := by
  unfold g_go; rw [k]
theorem g_go_S {g : zG} {m e : Nat} (k : q_wk g (Int32.ofNat m) = some e) : g_go g m = g_gT (g_gD g (60 * m + q_n g 0) e (q_s g m e) (q_c g m e) (q_v g m e)) m (60 * m + q_n g 0) (z_bt (¬ ((q_d g m e).toInt32 ≤ g 50 e))) (Int32.ofNat e) := by
  unfold g_go; rw [k]
theorem gT_38 {G : zG} {m p : Nat} {y n : Int32} : g_gT G m p y n 38 p = y := by
  unfold g_gT
  rw [up_ne (by decide), up_ne (by decide), up_ne (by decide), up_ne (by decide), up_at]
theorem gT_39 {G : zG} {m p : Nat} {y n : Int32} : g_gT G m p y n 39 p = n := by
  unfold g_gT
  rw [up_ne (by decide), up_ne (by decide), up_ne (by decide), up_at]
theorem gT_41 {G : zG} {m p : Nat} {y n : Int32} : g_gT G m p y n 41 p = G 31 m := by
  unfold g_gT
  rw [up_ne (by decide), up_at]
theorem gT_ne {G : zG} {m p k : Nat} {y n : Int32} (hk : ¬ k = 33 ∧ ¬ (38 ≤ k ∧ k ≤ 41)) : g_gT G m p y n k = G k := by
  unfold g_gT
  rw [up_ne (by omega), up_ne (by omega), up_ne (by omega), up_ne (by omega), up_ne (by omega)]
theorem gT_nj {G : zG} {m p k i : Nat} {y n : Int32} (hk : ¬ (k = 33 ∧ i = m)) (hi : ¬ (38 ≤ k ∧ k ≤ 41 ∧ i = p)) : g_gT G m p y n k i = G k i := by
  unfold g_gT
  rw [up_nj (by omega), up_nj (by omega), up_nj (by omega), up_nj (by omega), up_nj (by omega)]
theorem gT_eq {G g1 g2 g3 g4 g5 : zG} {m p : Nat} {y n : Int32} (e1 : g1 = z_up2 G 38 p y) (e2 : g2 = z_up2 g1 39 p n) (e3 : g3 = z_up2 g2 40 p (g2 30 m)) (e4 : g4 = z_up2 g3 41 p (g3 31 m)) (e5 : g5 = z_up2 g4 33 m (g4 33 m + g4 38 p)) : g5 = g_gT G m p y n := by
  have h38 : g4 38 p = y := by rw [e4, up_ne (by decide), e3, up_ne (by decide), e2, up_ne (by decide), e1, up_at]
  have h33 : g4 33 m = G 33 m := by rw [e4, up_ne (by decide), e3, up_ne (by decide), e2, up_ne (by decide), e1, up_ne (by decide)]
  have h30 : g2 30 m = G 30 m := by rw [e2, up_ne (by decide), e1, up_ne (by decide)]
  have h31 : g3 31 m = G 31 m := by rw [e3, up_ne (by decide), e2, up_ne (by decide), e1, up_ne (by decide)]
  rw [e5, h38, h33, e4, h31, e3, h30, e2, e1]
  rfl
theorem a_min {n : Int64} {M : Int32} (hn : 0 ≤ n.toInt ∧ n.toInt ≤ 299700) (hM : 1 ≤ M.toInt ∧ M.toInt ≤ 9999) : ((if n ≤ M.toInt64 then n else M.toInt64).toInt32 = if M < n.toInt32 then M else n.toInt32) ∧ ((¬ n ≤ M.toInt64) ↔ ¬ n.toInt32 ≤ M) ∧ 0 ≤ (if M < n.toInt32 then M else n.toInt32).toInt ∧ (if M < n.toInt32 then M else n.toInt32).toInt ≤ 9999 := by
  have e : n.toInt32.toInt = n.toInt := i_l (by omega) (by omega)
  by_cases q : n.toInt ≤ M.toInt
  · have q1 : n ≤ M.toInt64 := l_le.mpr (by rw [l_i]; exact q)
    have q2 : ¬ M < n.toInt32 := fun z => by have := n_lt.mp z; omega
    have q3 : n.toInt32 ≤ M := n_le.mpr (by omega)
    rw [if_pos q1, if_neg q2]
    exact ⟨rfl, ⟨fun z => absurd q1 z, fun z => absurd q3 z⟩, by omega, by omega⟩
  · have q1 : ¬ n ≤ M.toInt64 := fun z => by have := l_le.mp z; rw [l_i] at this; omega
    have q2 : M < n.toInt32 := n_lt.mpr (by omega)
    have q3 : ¬ n.toInt32 ≤ M := fun z => by have := n_le.mp z; omega
    rw [if_neg q1, if_pos q2]
    exact ⟨Int32.toInt32_toInt64 M, ⟨fun _ => q3, fun _ => q1⟩, by omega, by omega⟩
theorem a_m4 {x : Int32} (h0 : 0 ≤ x.toInt) (h1 : x.toInt ≤ 100000) : 0 ≤ (x - x / 10000 * 10000).toInt ∧ (x - x / 10000 * 10000).toInt ≤ 9999 := by
  have t12 : (10000 : Int32).toInt = 10000 := by decide
  have e1 : (x / 10000).toInt = x.toInt / 10000 := by
    rw [i_div (by omega), t12, Int.tdiv_eq_ediv_of_nonneg h0]
  have e2 : (x / 10000 * 10000).toInt = x.toInt / 10000 * 10000 := by
    rw [i_mul (by rw [e1, t12]; omega) (by rw [e1, t12]; omega), e1, t12]
  rw [i_sub (by rw [e2]; omega) (by rw [e2]; omega), e2]
  omega
section MQ
variable {c : Nat} {lm lm2 : Nat → Nat} {g : zG} {h : zH}
theorem INV.wb (I : INV c lm g) {m : Nat} (hm : m < q_n g 1) : 0 ≤ (q_w g m).toInt ∧ (q_w g m).toInt ≤ 999 := I.bw.at (k := 32) (a := 0) (b := 999) (by decide) (by have := I.m6 hm; omega)
theorem INV.db (I : INV c lm g) {m e : Nat} (hm : m < q_n g 1) (he : e < q_n g 20) : 0 ≤ (q_d g m e).toInt ∧ (q_d g m e).toInt ≤ 299700 := (a_need (I.wb hm) (I.bm.at (k := 30) (a := 1) (b := 300) (by decide) hm) (I.be.at (k := 48) (a := 1) (b := 99) (by decide) he)).2
theorem INV.mn2 (I : INV c lm g) {m e : Nat} (hm : m < q_n g 1) (he : e < q_n g 20) : ((if q_d g m e ≤ (g 50 e).toInt64 then q_d g m e else (g 50 e).toInt64).toInt32 = q_s g m e) ∧ ((¬ q_d g m e ≤ (g 50 e).toInt64) ↔ ¬ (q_d g m e).toInt32 ≤ g 50 e) ∧ 0 ≤ (q_s g m e).toInt ∧ (q_s g m e).toInt ≤ 9999 := a_min (I.db hm he) (I.be.at (k := 50) (a := 1) (b := 9999) (by decide) he)
theorem INV.sb (I : INV c lm g) {m e : Nat} (hm : m < q_n g 1) (he : e < q_n g 20) : 0 ≤ (q_s g m e).toInt ∧ (q_s g m e).toInt ≤ 9999 := (I.mn2 hm he).2.2
theorem INV.a52 (I : INV c lm g) {e : Nat} (he : e < q_n g 20) : 0 ≤ (g 52 e).toInt ∧ (g 52 e).toInt ≤ 100000 := by
  have w := I.ag e he
  obtain ⟨m', hm', hm6', em'⟩ := I.mo he
  rw [em', n_ix (by omega)] at w
  have := (I.wl m' hm6').1
  omega
theorem INV.d49 (I : INV c lm g) {e : Nat} (he : e < q_n g 20) : 0 ≤ (g 49 e).toInt ∧ (g 49 e).toInt ≤ 1000000 := by
  have w := I.be.at (k := 49) (a := 1) (b := 9999) (by decide) he
  omega
theorem INV.cb (I : INV c lm g) {m e : Nat} (hm : m < q_n g 1) (he : e < q_n g 20) : 0 ≤ (q_c g m e).toInt ∧ (q_c g m e).toInt ≤ 989901 := by
  have w := (a_coal (I.sb hm he) (I.be.at (k := 48) (a := 1) (b := 99) (by decide) he) (I.d49 he) (I.a52 he)).2
  unfold q_c
  rw [i_l (by omega) (by omega)]
  exact w
theorem INV.x53 (I : INV c lm g) {m e : Nat} (hm : m < q_n g 1) (he : e < q_n g 20) : 0 ≤ (g 53 e + q_s g m e).toInt ∧ (g 53 e + q_s g m e).toInt ≤ 100000 := by
  have w := I.be.at (k := 53) (a := 0) (b := 9999) (by decide) he
  have s := I.sb hm he
  rw [i_add (by omega) (by omega)]
  omega
theorem INV.vb (I : INV c lm g) {m e : Nat} (hm : m < q_n g 1) (he : e < q_n g 20) : 0 ≤ (q_v g m e).toInt ∧ (q_v g m e).toInt ≤ 9999 := by
  unfold q_v
  by_cases q : g 54 e = 0
  · rw [if_pos q]
    exact a_m4 (I.x53 hm he).1 (I.x53 hm he).2
  · rw [if_neg q]
    exact I.be.at (k := 53) (a := 0) (b := 9999) (by decide) he
theorem INV.go (I : INV c lm g) {m : Nat} (hm : m < q_n g 1) (ht : q_n g 0 < 60) (l1 : lm m = q_n g 0) (l2 : lm2 m = q_n g 0 + 1) (lo : ∀ m', m' < 6 → ¬ m' = m → lm2 m' = lm m') : INV c lm2 (g_go g m) := by
  have et : g 27 0 = Int32.ofNat (q_n g 0) := (n_of I.cnt.1.1).symm
  cases k : q_wk g (Int32.ofNat m) with
  | none =>
    rw [g_go_N k]
    refine I.gom (cc := 0) hm et ht l1 l2 lo ?_ ?_ ?_ ?_ (by decide) ?_ (Or.inl ⟨?_, ?_⟩)
    · intro k hk
      simp [S22] at hk
      rw [gT_ne (by omega)]
      unfold g_gA
      rw [up_ne (by omega), up_ne (by omega)]
    · intro k i h1 h2 h3
      rw [gT_nj (by omega) (by omega)]
      unfold g_gA
      rw [up_nj (by omega), up_nj (by omega)]
    · intro i hi
      rw [gT_nj (by omega) (by omega)]
      rfl
    · rw [gT_ne (by omega)]
      exact up_at
    · rw [gT_41]
      rfl
    · intro k hk
      simp at hk
      rw [gT_ne (by omega)]
      unfold g_gA
      rw [up_ne (by omega), up_ne (by omega)]
    · intro i hi q
      rw [gT_39] at q
      exact s_no_ne (e := i) (by have := I.e12 hi; omega) q.symm
  | some e =>
    obtain ⟨he, e46, _, _⟩ := q_wk_some k
    rw [g_go_S k]
    refine I.gom (cc := q_c g m e) hm et ht l1 l2 lo ?_ ?_ ?_ ?_ (I.cb hm he) ?_ (Or.inr ⟨e, he, e46, gT_39, ?_, ?_, ?_, ?_⟩)
    · intro k hk
      simp [S22] at hk
      rw [gT_ne (by omega)]
      unfold g_gD g_gB g_gA
      rw [up_ne (by omega), up_ne (by omega), up_ne (by omega), up_ne (by omega), up_ne (by omega), up_ne (by omega), up_ne (by omega), up_ne (by omega)]
    · intro k i h1 h2 h3
      rw [gT_nj (by omega) (by omega)]
      unfold g_gD g_gB g_gA
      rw [up_nj (by omega), up_nj (by omega), up_nj (by omega), up_nj (by omega), up_nj (by omega), up_nj (by omega), up_nj (by omega), up_nj (by omega)]
    · intro i hi
      rw [gT_nj (by omega) (by omega)]
      rfl
    · rw [gT_ne (by omega)]
      unfold g_gD g_gB
      rw [up_ne (by decide), up_ne (by decide), up_ne (by decide), up_ne (by decide), up_at]
    · rw [gT_41]
      rfl
    · intro k i hk hi
      simp at hk
      rw [gT_ne (by omega)]
      unfold g_gD g_gB g_gA
      rw [up_nj (by omega), up_nj (by omega), up_nj (by omega), up_nj (by omega), up_nj (by omega), up_nj (by omega), up_nj (by omega), up_nj (by omega)]
    · rw [gT_ne (by omega)]
      exact up_at
    · rw [gT_ne (by omega)]
      unfold g_gD
      rw [up_ne (by decide), up_at]
      exact I.vb hm he
    · rw [gT_ne (by omega)]
      unfold g_gD g_gB
      rw [up_ne (by decide), up_ne (by decide), up_at]
end MQ
