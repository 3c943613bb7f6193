/-! the bargains -/
def s_la (fr : Nat → Int32) (o : Option Nat) : Int32 := match o with
  | none => -1
  | some b => fr b
theorem s_hold_cg {fr gr gr2 ke : Nat → Int32} {a a2 b c : Int32} : ∀ n, (∀ i, i < n → (gr i = a ↔ gr2 i = a2)) → s_hold fr gr ke a b c n = s_hold fr gr2 ke a2 b c n := by
  intro n
  induction n with
  | zero => intro _; rfl
  | succ n ih =>
    intro e
    unfold s_hold
    rw [ih (fun i hi => e i (by omega))]
    have := e n (by omega)
    simp only [this]
theorem gr_iff : ∀ i, i < 7 → ∀ j, j < 7 → (s_cg (Int32.ofNat i) = s_cg (Int32.ofNat j) ↔ s_gr (Int32.ofNat i) = s_gr (Int32.ofNat j)) := by decide +kernel
theorem gr_iff' {a b : Int32} (ha : 0 ≤ a.toInt ∧ a.toInt ≤ 6) (hb : 0 ≤ b.toInt ∧ b.toInt ≤ 6) : s_cg a = s_cg b ↔ s_gr a = s_gr b := by
  have := gr_iff (z_ix a) (by unfold z_ix; omega) (z_ix b) (by unfold z_ix; omega)
  rw [n_of ha.1, n_of hb.1] at this
  exact this
section T2
variable {c : Nat} {lm : Nat → Nat} {g : zG} {h : zH}
theorem INV.cn (I : INV c lm g) : Cn g := I.cnt
theorem RC.bt (R : RC lm g h) {B : Nat} (hB : z_rv h 0 9 = some B) : z_tg h B = 1 := by
  rcases R.b.c hB with q | q <;> rw [q]
  · exact R.f.at (by omega) rfl
  · exact R.f.at (by omega) rfl
theorem RC.bs (R : RC lm g h) : ∃ B, z_rv h 0 9 = some B := by
  rcases R.b with q | q
  · exact ⟨15, q.1⟩
  · exact ⟨21, q.1⟩
theorem K_hold (R : RC lm g h) (I : INV c lm g) {B : Nat} (hB : z_rv h 0 9 = some B) (x1 x2 x3 : Int32) : KV z_pI 20 [.ref B, .int x1, .int x2, .int x3] h (s_no (s_hold (g 64) (g 203) (g 63) x1 x2 x3 (q_n g 45))) := by
  refine kv_of (X_20 B x1 x2 x3 h R.w (R.bt hB) ?_)
  refine z_lp (N := q_n g 45) (G := fun i => ∀ u, KG z_pI 20 10 [some (.ref B), some (.int x1), some (.int x2), some (.int x3), some (.int (s_no (s_hold (g 64) (g 203) (g 63) x1 x2 x3 i))), some (.int (s_la (g 64) (s_hold (g 64) (g 203) (g 63) x1 x2 x3 i))), some (.int (Int32.ofNat i)), u] [] h _) ?_ ?_ none
  · intro u
    refine X_20_10 B _ _ _ _ _ _ u h R.w (R.bt hB) ?_
    rw [R.n45 hB, if_pos (q_end I.cnt.2.2.2.2.1.1)]
    exact ⟨rfl, rfl⟩
  · intro i hi w u
    have h16 := I.l16 hi
    have bd := n_bd (N := 16) h16 (by omega)
    refine X_20_10 B _ _ _ _ _ _ u h R.w (R.bt hB) ?_
    rw [R.n45 hB, if_neg (n_cnt I.cnt.2.2.2.2.1.1 hi), if_neg (show ¬ (16 : Int32) ≤ _ from lit_le (a := 16) (by omega) (by omega) h16), n_ix (by omega), n_s, R.f203 hB hi, R.f63 hB hi, R.f64 hB hi]
    refine ⟨bd, fun _ => bd, fun _ => bd, fun _ _ => bd, fun _ _ _ => bd, ?_⟩
    intro m1 e1 m2 e2
    have h0 : ¬ g 64 i ≤ (-1 : Int32) := by
      have := I.bl.at (k := 64) (a := 0) (b := 59) (by decide) hi
      rw [n_le]
      show ¬ _ ≤ (-1 : Int)
      omega
    have g1 : m1 = s_no (s_hold (g 64) (g 203) (g 63) x1 x2 x3 (i + 1)) ∧ m2 = s_la (g 64) (s_hold (g 64) (g 203) (g 63) x1 x2 x3 (i + 1)) := by
      rw [e1, e2, s_hold]
      cases s_hold (g 64) (g 203) (g 63) x1 x2 x3 i with
      | none =>
        dsimp only
        by_cases c1 : g 203 i = x1 ∧ g 63 i = x2
        · by_cases c3 : x3 < g 64 i
          · rw [if_pos c1, if_pos c3, if_pos c1, if_pos c3, if_neg (fun z => absurd z.2.2 (Int32.not_le.mpr c3))]
            exact ⟨rfl, rfl⟩
          · rw [if_pos c1, if_neg c3, if_pos c1, if_neg c3, if_neg (show ¬ g 64 i ≤ s_la (g 64) none from h0), if_neg (show ¬ g 64 i ≤ s_la (g 64) none from h0), if_pos ⟨c1.1, c1.2, Int32.not_lt.mp c3⟩]
            exact ⟨rfl, rfl⟩
        · rw [if_neg c1, if_neg c1, if_neg (fun z => c1 ⟨z.1, z.2.1⟩)]
          exact ⟨rfl, rfl⟩
      | some d =>
        dsimp only
        by_cases c1 : g 203 i = x1 ∧ g 63 i = x2
        · by_cases c3 : x3 < g 64 i
          · rw [if_pos c1, if_pos c3, if_pos c1, if_pos c3, if_neg (fun z => absurd z.2.2.1 (Int32.not_le.mpr c3))]
            exact ⟨rfl, rfl⟩
          · by_cases c4 : g 64 i ≤ g 64 d
            · rw [if_pos c1, if_neg c3, if_pos c1, if_neg c3, if_pos (show g 64 i ≤ s_la (g 64) (some d) from c4), if_pos (show g 64 i ≤ s_la (g 64) (some d) from c4), if_neg (fun z => absurd z.2.2.2 (Int32.not_lt.mpr c4))]
              exact ⟨rfl, rfl⟩
            · rw [if_pos c1, if_neg c3, if_pos c1, if_neg c3, if_neg (show ¬ g 64 i ≤ s_la (g 64) (some d) from c4), if_neg (show ¬ g 64 i ≤ s_la (g 64) (some d) from c4), if_pos ⟨c1.1, c1.2, Int32.not_lt.mp c3, Int32.not_le.mp c4⟩]
              exact ⟨rfl, rfl⟩
        · rw [if_neg c1, if_neg c1, if_neg (fun z => c1 ⟨z.1, z.2.1⟩)]
          exact ⟨rfl, rfl⟩
    rw [g1.1, g1.2]
    exact w _
theorem K_val (R : RC lm g h) (I : INV c lm g) {B : Nat} (hB : z_rv h 0 9 = some B) (w x2 x3 : Int32) (hw : 0 ≤ w.toInt ∧ w.toInt ≤ 6) : KV z_pI 21 [.ref B, .int w, .int x2, .int x3] h (q_hd g w x2 x3 (-4)) := by
  have w0 : ¬ w < 0 := by rw [n_lt]; show ¬ _ < (0 : Int); omega
  have w7 : ¬ (7 : Int32) ≤ w := by rw [n_le]; show ¬ (7 : Int) ≤ _; omega
  have e : s_hold (g 64) (g 203) (g 63) (s_cg w) x2 x3 (q_n g 45) = q_la g (s_gr w) x2 x3 := by
    refine s_hold_cg _ (fun i hi => ?_)
    rw [I.gg i hi]
    exact gr_iff' (I.bl.at (k := 62) (a := 0) (b := 6) (by decide) hi) hw
  refine kv_of (X_21 B w x2 x3 h R.w (R.bt hB) ⟨fun _ _ => by omega, ?_⟩)
  rw [if_neg w0, if_neg w7]
  refine ⟨_, K_hold R I hB (s_cg w) x2 x3, ?_⟩
  rw [e]
  unfold q_hd
  cases k : q_la g (s_gr w) x2 x3 with
  | none =>
    rw [if_pos (show s_no none < 0 by decide)]
    exact ⟨rfl, rfl⟩
  | some d =>
    have hd := (s_hold_some k).1
    have h16 := I.l16 hd
    dsimp only
    rw [if_neg (show ¬ s_no (some d) < 0 from by rw [n_lt]; show ¬ (Int32.ofNat d).toInt < (0 : Int); rw [n_i (by omega)]; omega), if_neg (show ¬ (16 : Int32) ≤ s_no (some d) from lit_le (a := 16) (by omega) (by omega) h16), s_no_ix (by omega), R.f62 hB hd, R.f65 hB hd]
    refine ⟨s_no_bd (N := 16) h16 (by omega), ?_⟩
    by_cases z : g 62 d = w
    · rw [if_pos z, if_pos z]
      exact ⟨s_no_bd (N := 16) h16 (by omega), rfl, rfl⟩
    · rw [if_neg z, if_neg z]
      exact ⟨rfl, rfl⟩
theorem q_hd_none {w x2 x3 o : Int32} (k : q_la g (s_gr w) x2 x3 = none) : q_hd g w x2 x3 o = o := by
  unfold q_hd
  rw [k]
theorem q_hd_yes {w x2 x3 o : Int32} {d : Nat} (k : q_la g (s_gr w) x2 x3 = some d) (z : g 62 d = w) : q_hd g w x2 x3 o = g 65 d := by
  unfold q_hd
  rw [k]
  exact if_pos z
theorem q_hd_no {w x2 x3 o : Int32} {d : Nat} (k : q_la g (s_gr w) x2 x3 = some d) (z : ¬ g 62 d = w) : q_hd g w x2 x3 o = o := by
  unfold q_hd
  rw [k]
  exact if_neg z
/-- what a line tells is never NONE -/
theorem q_hd_o (I : INV c lm g) (w x2 x3 o : Int32) (hw : w = 0 ∨ w = 1 ∨ w = 2 ∨ w = 3 ∨ w = 4 ∨ w = 5) : (if q_hd g w x2 x3 (-4) = (-4 : Int32) then o else q_hd g w x2 x3 (-4)) = q_hd g w x2 x3 o := by
  cases k : q_la g (s_gr w) x2 x3 with
  | none => rw [q_hd_none k, q_hd_none k, if_pos rfl]
  | some d =>
    have hd := (s_hold_some k).1
    by_cases z : g 62 d = w
    · rw [q_hd_yes k z, q_hd_yes k z, if_neg]
      intro q
      have lv := I.lv d hd
      have h4 : (-4 : Int32).toInt = -4 := by decide
      have h0 : (0 : Int32).toInt = 0 := by decide
      rw [z, q] at lv
      obtain ⟨l0, l1, l2, l3, l4, l5⟩ := lv
      rcases hw with r | r | r | r | r | r
      · have := l0 r; omega
      · have := l1 r; omega
      · have := l2 r; omega
      · have := l3 r; omega
      · have := l4 r; omega
      · have := l5 r; exact absurd this (by decide)
    · rw [q_hd_no k z, q_hd_no k z, if_pos rfl]
theorem K_share (R : RC lm g h) (I : INV c lm g) {B : Nat} (hB : z_rv h 0 9 = some B) (x1 x2 : Int32) : KV z_pI 22 [.ref B, .int x1, .int x2] h (q_hd g 0 x1 x2 (-4)) :=
  kv_of (X_22 B x1 x2 h R.w (R.bt hB) ⟨_, K_val R I hB 0 x1 x2 (by decide), rfl, rfl⟩)
theorem K_fixed (R : RC lm g h) (I : INV c lm g) {B : Nat} (hB : z_rv h 0 9 = some B) (x1 x2 : Int32) : KV z_pI 23 [.ref B, .int x1, .int x2] h (q_hd g 1 x1 x2 (-4)) :=
  kv_of (X_23 B x1 x2 h R.w (R.bt hB) ⟨_, K_val R I hB 1 x1 x2 (by decide), rfl, rfl⟩)
theorem K_stop (R : RC lm g h) (I : INV c lm g) {B : Nat} (hB : z_rv h 0 9 = some B) (x1 x2 : Int32) : KV z_pI 24 [.ref B, .int x1, .int x2] h (q_hd g 2 x1 x2 3) :=
  kv_of (X_24 B x1 x2 h R.w (R.bt hB) ⟨_, K_val R I hB 2 x1 x2 (by decide), fun m e => ⟨e.trans (q_hd_o I 2 x1 x2 3 (by decide)), rfl⟩⟩)
theorem K_again (R : RC lm g h) (I : INV c lm g) {B : Nat} (hB : z_rv h 0 9 = some B) (x1 x2 : Int32) : KV z_pI 25 [.ref B, .int x1, .int x2] h (q_hd g 3 x1 x2 99) :=
  kv_of (X_25 B x1 x2 h R.w (R.bt hB) ⟨_, K_val R I hB 3 x1 x2 (by decide), fun m e => ⟨e.trans (q_hd_o I 3 x1 x2 99 (by decide)), rfl⟩⟩)
theorem K_until (R : RC lm g h) (I : INV c lm g) {B : Nat} (hB : z_rv h 0 9 = some B) (x1 x2 : Int32) : KV z_pI 26 [.ref B, .int x1, .int x2] h (q_hd g 4 x1 x2 0) :=
  kv_of (X_26 B x1 x2 h R.w (R.bt hB) ⟨_, K_val R I hB 4 x1 x2 (by decide), fun m e => ⟨e.trans (q_hd_o I 4 x1 x2 0 (by decide)), rfl⟩⟩)
theorem K_wide (R : RC lm g h) (I : INV c lm g) {B : Nat} (hB : z_rv h 0 9 = some B) (x1 : Int32) : KV z_pI 27 [.ref B, .int x1] h (q_wi g x1) := by
  refine kv_of (X_27 B x1 h R.w (R.bt hB) ⟨_, K_val R I hB 5 0 x1 (by decide), ?_, rfl⟩)
  have s5 : s_gr 5 = 5 := by decide
  cases k : q_la g 5 0 x1 with
  | none =>
    have e : q_wi g x1 = 0 := by unfold q_wi; rw [k]
    rw [e]
    exact z_bt_0.mpr (fun q => q (q_hd_none (by rw [s5]; exact k)))
  | some d =>
    have hd := (s_hold_some k).1
    by_cases z : g 62 d = 5
    · have e : q_wi g x1 = 1 := by unfold q_wi; rw [k]; exact if_pos z
      rw [e]
      refine z_bt_1.mpr ?_
      rw [q_hd_yes (by rw [s5]; exact k) z, (I.lv d hd).2.2.2.2.2 z]
      decide
    · have e : q_wi g x1 = 0 := by unfold q_wi; rw [k]; exact if_neg z
      rw [e]
      exact z_bt_0.mpr (fun q => q (q_hd_no (by rw [s5]; exact k) z))
end T2
def s_or (f : Nat → Int32) : Nat → Int32
  | 0 => 0
  | n + 1 => s_or f n ||| f n
def q_tp (g : zG) (month : Int32) : Int32 := s_or (fun i => if q_hd g 4 (Int32.ofNat i) month 0 ≤ month then (0 : Int32) else ((1 : Int32) <<< (Int32.ofNat i &&& 31))) 8
theorem c_theirParts (x1 : Int32) (g : zG) (o : Cn g) {Q : Int32 → zG → Prop} (q : Q (q_tp g x1) g) : MK z_pI 211 [.ref 27, .int x1] g Q := by
  refine X_211 x1 g ?_
  refine z_lp (N := 8) (G := fun i => MG z_pI 211 4 [some (.ref 27), some (.int x1), some (.int (s_or (fun i => if q_hd g 4 (Int32.ofNat i) x1 0 ≤ x1 then (0 : Int32) else ((1 : Int32) <<< (Int32.ofNat i &&& 31))) i)), some (.int (Int32.ofNat i))] [] g Q) ?_ ?_
  · refine X_211_4 _ _ _ g ?_
    rw [if_pos (show (8 : Int32) ≤ Int32.ofNat 8 from by decide)]
    exact q
  · intro i hi w
    refine X_211_4 _ _ _ g ?_
    rw [if_neg (show ¬ (8 : Int32) ≤ _ from lit_le (a := 8) (by omega) (by omega) hi), n_s]
    refine ⟨o, fun m3 e3 => ?_⟩
    rw [e3]
    exact w
theorem K_claim {c : Nat} {lm : Nat → Nat} {g : zG} {h : zH} (R : RC lm g h) (I : INV c lm g) {B : Nat} (hB : z_rv h 0 9 = some B) (x1 : Int32) : KV z_pI 28 [.ref B, .int x1] h (q_tp g x1) := by
  refine kv_of (X_28 B x1 h R.w (R.bt hB) ?_)
  refine z_lp (N := 8) (G := fun i => KG z_pI 28 4 [some (.ref B), some (.int x1), some (.int (s_or (fun i => if q_hd g 4 (Int32.ofNat i) x1 0 ≤ x1 then (0 : Int32) else ((1 : Int32) <<< (Int32.ofNat i &&& 31))) i)), some (.int (Int32.ofNat i))] [] h _) ?_ ?_
  · refine X_28_4 B _ _ _ h R.w (R.bt hB) ?_
    rw [if_pos (show (8 : Int32) ≤ Int32.ofNat 8 from by decide)]
    exact ⟨rfl, rfl⟩
  · intro i hi w
    refine X_28_4 B _ _ _ h R.w (R.bt hB) ?_
    rw [if_neg (show ¬ (8 : Int32) ≤ _ from lit_le (a := 8) (by omega) (by omega) hi), n_s]
    refine ⟨_, K_until R I hB (Int32.ofNat i) x1, fun m e => ?_⟩
    have : m = s_or (fun i => if q_hd g 4 (Int32.ofNat i) x1 0 ≤ x1 then (0 : Int32) else ((1 : Int32) <<< (Int32.ofNat i &&& 31))) (i + 1) := by
      rw [e, s_or]
      by_cases z : q_hd g 4 (Int32.ofNat i) x1 0 ≤ x1
      · rw [if_pos z, if_pos z, Int32.or_zero]
      · rw [if_neg z, if_neg z]
    rw [this]
    exact w
