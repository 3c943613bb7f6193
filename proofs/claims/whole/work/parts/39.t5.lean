/-! sums over the readings -/
def q_ou (g : zG) (m mo : Int32) : Int32 := s_sum (fun i => if g 70 i = m ∧ g 72 i ≤ mo then v_202 (Int32.ofNat i) (g 75 i) g else 0) (q_n g 55)
def q_om (g : zG) (m : Int32) : Int32 := s_sum (fun i => if g 70 i = m then v_202 (Int32.ofNat i) (g 76 i) g else 0) (q_n g 55)
def q_rc (g : zG) (m : Int32) : Int32 := s_sum (fun i => if g 70 i = m then 1 else 0) (q_n g 55)
def s_late (mi ow mo : Nat → Int32) (m paid now : Int32) : Nat → Nat → Int32 → Int32
  | 0, _, _ => 0
  | n + 1, i, s => if mi i = m then (if s + ow i ≤ paid then s_late mi ow mo m paid now n (i + 1) (s + ow i) else now - mo i) else s_late mi ow mo m paid now n (i + 1) s
def q_le (g : zG) (m : Int32) : Int32 := s_late (g 70) (fun i => v_202 (Int32.ofNat i) (g 75 i) g) (g 72) m (g 34 (z_ix m)) (g 27 0) (q_n g 55) 0 0
theorem s_sum_s {f : Nat → Int32} {n : Nat} : s_sum f (n + 1) = s_sum f n + f n := rfl
theorem s_sum_cg {f f2 : Nat → Int32} : ∀ {n}, (∀ i, i < n → f i = f2 i) → s_sum f n = s_sum f2 n := by
  intro n
  induction n with
  | zero => intro _; rfl
  | succ n ih => intro e; unfold s_sum; rw [ih (fun i hi => e i (by omega)), e n (by omega)]
theorem s_sum_bd {f : Nat → Int32} {A : Int} (hA : 0 ≤ A) (h60 : A * 60 < 2147483648) : ∀ {n}, n ≤ 60 → (∀ i, i < n → 0 ≤ (f i).toInt ∧ (f i).toInt ≤ A) → 0 ≤ (s_sum f n).toInt ∧ (s_sum f n).toInt ≤ A * (n : Int) := by
  intro n
  induction n with
  | zero => intro _ _; unfold s_sum; exact ⟨by decide, by show (0 : Int) ≤ _; simp⟩
  | succ n ih =>
    intro hn e
    have a := ih (by omega) (fun i hi => e i (by omega))
    have b := e n (by omega)
    have c : A * ((n + 1 : Nat) : Int) ≤ A * 60 := Int.mul_le_mul_of_nonneg_left (by omega) hA
    have d : A * ((n + 1 : Nat) : Int) = A * (n : Int) + A := by rw [Int.natCast_add, Int.mul_add]; simp
    unfold s_sum
    rw [i_add (by omega) (by omega)]
    omega
theorem c_owedUpTo (x1 x2 : Int32) (g : zG) (o : Cn g ∧ ∀ k s, k < q_n g 55 → O_202 (Int32.ofNat k) s g) {Q : Int32 → zG → Prop} (q : Q (q_ou g x1 x2) g) : MK z_pI 204 [.ref 27, .int x1, .int x2] g Q := by
  obtain ⟨o, o2⟩ := o
  refine X_204 x1 x2 g ?_
  refine z_lp (N := q_n g 55) (G := fun i => MG z_pI 204 5 [some (.ref 27), some (.int x1), some (.int x2), some (.int (s_sum (fun i => if g 70 i = x1 ∧ g 72 i ≤ x2 then v_202 (Int32.ofNat i) (g 75 i) g else 0) i)), some (.int (Int32.ofNat i))] [] g Q) ?_ ?_
  · refine X_204_5 _ _ _ _ g ?_
    rw [if_pos (q_end o.2.2.2.1.1)]
    exact q
  · intro i hi w
    have hb := n_cb (N := 60) o.2.2.2.1.1 o.2.2.2.1.2 hi
    have bd := n_bd (N := 60) hb (by omega)
    refine X_204_5 _ _ _ _ g ?_
    rw [if_neg (n_cnt o.2.2.2.1.1 hi), n_ix (by omega), n_s]
    refine ⟨bd, ?_⟩
    rw [s_sum_s] at w
    by_cases c1 : g 70 i = x1
    · rw [if_pos c1]
      refine ⟨bd, ?_⟩
      by_cases c2 : x2 < g 72 i
      · rw [if_pos c2]
        rw [if_neg (fun z => absurd z.2 (Int32.not_le.mpr c2))] at w
        exact w
      · rw [if_neg c2]
        rw [if_pos ⟨c1, Int32.not_lt.mp c2⟩] at w
        exact ⟨bd, o2 i _ hi, w⟩
    · rw [if_neg c1]
      rw [if_neg (fun z => c1 z.1)] at w
      exact w
theorem c_lateOf (x1 : Int32) (g : zG) (o : (Cn g ∧ ∀ k s, k < q_n g 55 → O_202 (Int32.ofNat k) s g) ∧ (0 ≤ x1.toInt ∧ x1.toInt < 6)) {Q : Int32 → zG → Prop} (q : Q (q_le g x1) g) : MK z_pI 205 [.ref 27, .int x1] g Q := by
  obtain ⟨⟨o, o2⟩, o3⟩ := o
  refine X_205 x1 g ?_
  refine z_lp (N := q_n g 55) (G := fun i => ∀ s, Q (s_late (g 70) (fun i => v_202 (Int32.ofNat i) (g 75 i) g) (g 72) x1 (g 34 (z_ix x1)) (g 27 0) (q_n g 55 - i) i s) g → MG z_pI 205 4 [some (.ref 27), some (.int x1), some (.int s), some (.int (Int32.ofNat i))] [] g Q) ?_ ?_ 0 q
  · intro s q
    refine X_205_4 _ _ _ g ?_
    rw [if_pos (q_end o.2.2.2.1.1)]
    rw [Nat.sub_self] at q
    exact q
  · intro i hi w s q
    have hb := n_cb (N := 60) o.2.2.2.1.1 o.2.2.2.1.2 hi
    have bd := n_bd (N := 60) hb (by omega)
    refine X_205_4 _ _ _ g ?_
    rw [if_neg (n_cnt o.2.2.2.1.1 hi), n_ix (by omega), n_s]
    refine ⟨bd, ?_⟩
    rw [show q_n g 55 - i = (q_n g 55 - (i + 1)) + 1 by omega] at q
    unfold s_late at q
    by_cases c1 : g 70 i = x1
    · rw [if_pos c1] at q ⊢
      refine ⟨bd, o2 i _ hi, o3, ?_⟩
      by_cases c2 : s + v_202 (Int32.ofNat i) (g 75 i) g ≤ g 34 (z_ix x1)
      · rw [if_pos c2] at q ⊢
        exact w _ q
      · rw [if_neg c2] at q ⊢
        exact ⟨bd, q⟩
    · rw [if_neg c1] at q ⊢
      exact w _ q
section T5
variable {c : Nat} {lm : Nat → Nat} {g : zG} {h : zH}
theorem INV.so (I : INV c lm g) : Cn g ∧ ∀ k s, k < q_n g 55 → O_202 (Int32.ofNat k) s g := ⟨I.cn, fun _ s hk => I.o202 hk s⟩
theorem n60 {i : Nat} (h : i < 60) : ¬ (60 : Int32) ≤ Int32.ofNat i := lit_le (a := 60) (by omega) (by omega) h
theorem INV.rno (I : INV c lm g) {i : Nat} (hi : ¬ i < q_n g 55) (h60 : i < 60) : ¬ ((0 : Int32) ≤ Int32.ofNat i ∧ Int32.ofNat i ≤ g 27 55 - 1) := by
  intro z
  obtain ⟨m, h1, h2⟩ := n_rng I.cnt.2.2.2.1.1 z
  have := I.r60 h1
  have := n_inj (by omega) (by omega) h2
  subst this
  exact hi h1
theorem K_os (R : RC lm g h) (I : INV c lm g) (x1 x2 x3 : Int32) : KV z_pI 156 [.ref 0, .int x1, .int x2, .int x3] h (s_sum (fun i => if g 70 i = x1 ∧ g 72 i ≤ x2 then v_202 (Int32.ofNat i) (if x3 = 0 then g 75 i else g 76 i) g else 0) (q_n g 55)) := by
  obtain ⟨B, hB⟩ := R.bs
  have hn : q_n g 55 ≤ 60 := by
    have := I.cnt.2.2.2.1
    unfold q_n z_ix; omega
  refine kv_of (X_156 x1 x2 x3 h R.w ?_)
  refine z_lp (N := 60) (G := fun i => ∀ u, KG z_pI 156 6 [some (.ref 0), some (.int x1), some (.int x2), some (.int x3), some (.int (s_sum (fun i => if g 70 i = x1 ∧ g 72 i ≤ x2 then v_202 (Int32.ofNat i) (if x3 = 0 then g 75 i else g 76 i) g else 0) (min i (q_n g 55)))), some (.int (Int32.ofNat i)), u] [] h _) ?_ ?_ none
  · intro u
    refine X_156_6 _ _ _ _ _ u h R.w ?_
    rw [if_pos (show (60 : Int32) ≤ Int32.ofNat 60 from by decide), show min 60 (q_n g 55) = q_n g 55 by omega]
    exact ⟨rfl, rfl⟩
  · intro i hi w u
    refine X_156_6 _ _ _ _ _ u h R.w ?_
    rw [if_neg (n60 hi), n_s]
    by_cases hk : i < q_n g 55
    · rw [show min (i + 1) (q_n g 55) = i + 1 by omega] at w
      rw [show min i (q_n g 55) = i by omega]
      obtain ⟨cc, hc⟩ := R.reading hk
      obtain ⟨b, hr0, hb, he, hmo⟩ := R.reng I hk hc
      refine xa_S (K_reaS R I hk hc) (R.w.rt R.f hc) (o_S hr0 ?_)
      rw [hmo, R.f72 hk hc, R.f75 hk hc, R.f76 hk hc]
      have b5 := I.br.at (k := 75) (a := 0) (b := 9999) (by decide) hk
      have b6 := I.br.at (k := 76) (a := 0) (b := 700000) (by decide) hk
      rw [s_sum_s] at w
      by_cases c1 : g 70 i = x1
      · rw [if_pos c1]
        by_cases c2 : x2 < g 72 i
        · rw [if_pos c2]
          rw [if_neg (fun z => absurd z.2 (Int32.not_le.mpr c2)), Int32.add_zero] at w
          exact w _
        · rw [if_neg c2]
          rw [if_pos ⟨c1, Int32.not_lt.mp c2⟩] at w
          intro m11 e11
          refine o_S hB ⟨_, K_ow R I hk hc hB (s := m11) ?_, ?_⟩
          · rw [e11]
            by_cases z : x3 = 0
            · rw [if_pos z]; omega
            · rw [if_neg z]; omega
          · rw [e11]
            exact w _
      · rw [if_neg c1]
        rw [if_neg (fun z => c1 z.1), Int32.add_zero] at w
        exact w _
    · rw [show min (i + 1) (q_n g 55) = q_n g 55 by omega] at w
      rw [show min i (q_n g 55) = q_n g 55 by omega]
      exact xa_N (K_reaN R (I.rno hk hi)) (w _)
theorem K_os0 (R : RC lm g h) (I : INV c lm g) (x1 x2 : Int32) : KV z_pI 156 [.ref 0, .int x1, .int x2, .int (0 : Int32)] h (q_ou g x1 x2) := by
  have := K_os R I x1 x2 0
  rw [show q_ou g x1 x2 = s_sum (fun i => if g 70 i = x1 ∧ g 72 i ≤ x2 then v_202 (Int32.ofNat i) (if (0 : Int32) = 0 then g 75 i else g 76 i) g else 0) (q_n g 55) from s_sum_cg (fun i _ => by rw [if_pos rfl])]
  exact this
theorem INV.mo60 (I : INV c lm g) {k : Nat} (hk : k < q_n g 55) : g 72 k ≤ (60 : Int32) := by
  have := (I.re k hk).2.2
  have := I.cnt.1
  rw [n_le]
  show _ ≤ (60 : Int)
  omega
theorem K_os1 (R : RC lm g h) (I : INV c lm g) (x1 : Int32) : KV z_pI 156 [.ref 0, .int x1, .int (60 : Int32), .int (1 : Int32)] h (q_om g x1) := by
  have := K_os R I x1 60 1
  rw [show q_om g x1 = s_sum (fun i => if g 70 i = x1 ∧ g 72 i ≤ (60 : Int32) then v_202 (Int32.ofNat i) (if (1 : Int32) = 0 then g 75 i else g 76 i) g else 0) (q_n g 55) from s_sum_cg (fun i hi => by
    rw [if_neg (show ¬ (1 : Int32) = 0 by decide)]
    by_cases z : g 70 i = x1
    · rw [if_pos z, if_pos ⟨z, I.mo60 hi⟩]
    · rw [if_neg z, if_neg (fun q => z q.1)])]
  exact this
theorem K_ar (R : RC lm g h) (I : INV c lm g) {m a : Nat} (hm : m < q_n g 1) (ha : z_rv h 1 m = some a) : KV z_pI 157 [.ref 0, .int (Int32.ofNat m), .ref a] h (q_ou g (Int32.ofNat m) 60 - g 34 m) := by
  refine kv_of (X_157 _ a h R.w (R.w.mt R.f ha) ⟨_, K_os0 R I _ _, ?_, rfl⟩)
  rw [R.f34 hm ha]
theorem K_rc (R : RC lm g h) (I : INV c lm g) (x1 : Int32) : KV z_pI 155 [.ref 0, .int x1] h (q_rc g x1) := by
  have hn : q_n g 55 ≤ 60 := by
    have := I.cnt.2.2.2.1
    unfold q_n z_ix; omega
  refine kv_of (X_155 x1 h R.w ?_)
  refine z_lp (N := 60) (G := fun i => ∀ u, KG z_pI 155 4 [some (.ref 0), some (.int x1), some (.int (s_sum (fun i => if g 70 i = x1 then 1 else 0) (min i (q_n g 55)))), some (.int (Int32.ofNat i)), u] [] h _) ?_ ?_ none
  · intro u
    refine X_155_4 _ _ _ u h R.w ?_
    rw [if_pos (show (60 : Int32) ≤ Int32.ofNat 60 from by decide), show min 60 (q_n g 55) = q_n g 55 by omega]
    exact ⟨rfl, rfl⟩
  · intro i hi w u
    refine X_155_4 _ _ _ u h R.w ?_
    rw [if_neg (n60 hi), n_s]
    by_cases hk : i < q_n g 55
    · rw [show min (i + 1) (q_n g 55) = i + 1 by omega] at w
      rw [show min i (q_n g 55) = i by omega]
      obtain ⟨cc, hc⟩ := R.reading hk
      obtain ⟨b, hr0, hb, he, hmo⟩ := R.reng I hk hc
      refine xa_S (K_reaS R I hk hc) (R.w.rt R.f hc) (o_S hr0 ?_)
      rw [hmo]
      intro m11 e11
      have : m11 = s_sum (fun i => if g 70 i = x1 then 1 else 0) (i + 1) := by
        rw [e11, s_sum_s]
        by_cases z : g 70 i = x1
        · rw [if_pos z, if_pos z]
        · rw [if_neg z, if_neg z, Int32.add_zero]
      rw [this]
      exact w _
    · rw [show min (i + 1) (q_n g 55) = q_n g 55 by omega] at w
      rw [show min i (q_n g 55) = q_n g 55 by omega]
      exact xa_N (K_reaN R (I.rno hk hi)) (w _)
theorem K_la (R : RC lm g h) (I : INV c lm g) {m a : Nat} (hm : m < q_n g 1) (ha : z_rv h 1 m = some a) : KV z_pI 158 [.ref 0, .int (Int32.ofNat m), .ref a] h (q_le g (Int32.ofNat m)) := by
  obtain ⟨B, hB⟩ := R.bs
  have hm6 := I.m6 hm
  refine kv_of (X_158 _ a h R.w (R.w.mt R.f ha) ?_)
  refine z_lp (N := 60) (G := fun i => ∀ s u, s_late (g 70) (fun i => v_202 (Int32.ofNat i) (g 75 i) g) (g 72) (Int32.ofNat m) (g 34 m) (g 27 0) (q_n g 55 - i) i s = q_le g (Int32.ofNat m) → KG z_pI 158 5 [some (.ref 0), some (.int (Int32.ofNat m)), some (.ref a), some (.int s), some (.int (Int32.ofNat i)), u] [] h (fun r h' => r = q_le g (Int32.ofNat m) ∧ h' = h)) ?_ ?_ 0 none (by unfold q_le; rw [n_ix (by omega)]; rfl)
  · intro s u q
    refine X_158_5 _ a _ _ u h R.w (R.w.mt R.f ha) ?_
    rw [if_pos (show (60 : Int32) ≤ Int32.ofNat 60 from by decide)]
    have hn : q_n g 55 - 60 = 0 := by
      have := I.cnt.2.2.2.1
      unfold q_n z_ix; omega
    rw [hn] at q
    exact ⟨q, rfl⟩
  · intro i hi w s u q
    refine X_158_5 _ a _ _ u h R.w (R.w.mt R.f ha) ?_
    rw [if_neg (n60 hi), n_s]
    by_cases hk : i < q_n g 55
    · rw [show q_n g 55 - i = (q_n g 55 - (i + 1)) + 1 by omega] at q
      unfold s_late at q
      obtain ⟨cc, hc⟩ := R.reading hk
      obtain ⟨b, hr0, hb, he, hmo⟩ := R.reng I hk hc
      refine xa_S (K_reaS R I hk hc) (R.w.rt R.f hc) (o_S hr0 ?_)
      rw [hmo, R.f34 hm ha, R.n0, R.f72 hk hc, R.f75 hk hc]
      have b5 := I.br.at (k := 75) (a := 0) (b := 9999) (by decide) hk
      by_cases c1 : g 70 i = Int32.ofNat m
      · rw [if_pos c1] at q ⊢
        refine o_S hB ⟨_, K_ow R I hk hc hB (s := g 75 i) (by omega), ?_⟩
        by_cases c2 : s + v_202 (Int32.ofNat i) (g 75 i) g ≤ g 34 m
        · rw [if_pos c2] at q ⊢
          exact w _ _ q
        · rw [if_neg c2] at q ⊢
          exact ⟨q, rfl⟩
      · rw [if_neg c1] at q ⊢
        exact w _ _ q
    · rw [show q_n g 55 - i = 0 by omega] at q
      refine xa_N (K_reaN R (I.rno hk hi)) (w _ _ ?_)
      rw [show q_n g 55 - (i + 1) = 0 by omega]
      exact q
theorem q_ou_bd (I : INV c lm g) (m mo : Int32) : 0 ≤ (q_ou g m mo).toInt ∧ (q_ou g m mo).toInt ≤ 594000000 := by
  have hn : q_n g 55 ≤ 60 := by
    have := I.cnt.2.2.2.1
    unfold q_n z_ix; omega
  have := s_sum_bd (f := fun i => if g 70 i = m ∧ g 72 i ≤ mo then v_202 (Int32.ofNat i) (g 75 i) g else 0) (A := 9900000) (by omega) (by omega) hn (fun i hi => by
    by_cases z : g 70 i = m ∧ g 72 i ≤ mo
    · rw [if_pos z]
      have b5 := I.br.at (k := 75) (a := 0) (b := 9999) (by decide) hi
      exact v_202_bd I hi (by omega)
    · rw [if_neg z]
      decide)
  unfold q_ou
  omega
end T5
