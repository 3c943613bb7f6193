/-! read -/
def Up (g g2 : zG) (n : Nat) (R : List Nat) (v : Nat → Int32) : Prop := (∀ k i, ¬ (i = n ∧ R.contains k = true) → g2 k i = g k i) ∧ ∀ k, R.contains k = true → g2 k n = v k
theorem Up.nil (g : zG) (n : Nat) (v : Nat → Int32) : Up g g n [] v := ⟨fun _ _ _ => rfl, fun k h => by simp at h⟩
theorem Up.step {g g2 g3 : zG} {n k : Nat} {R : List Nat} {v : Nat → Int32} {x : Int32} (U : Up g g2 n R v) (e : g3 = z_up2 g2 k n x) (hx : x = v k) : Up g g3 n (k :: R) v := by
  subst e
  refine ⟨fun k' i h => ?_, fun k' h => ?_⟩
  · rw [up_nj (fun q => h ⟨q.2, by rw [q.1]; simp⟩)]
    exact U.1 k' i (fun q => h ⟨q.1, by simp at q ⊢; exact Or.inr q.2⟩)
  · by_cases q : k' = k
    · subst q; rw [up_at]; exact hx
    · rw [up_nj (by omega)]
      exact U.2 k' (by simp at h ⊢; exact h.resolve_left q)
theorem up_up {g : zG} {k n : Nat} {a b : Int32} : z_up2 (z_up2 g k n a) k n b = z_up2 g k n b := by
  funext x y
  unfold z_up2
  by_cases q : x = k ∧ y = n
  · rw [if_pos q, if_pos q]
  · rw [if_neg q, if_neg q, if_neg q]
def a_ls (b s : Int32) : Int32 := ((b - s) + (10000 : Int32)) - ((b - s) + (10000 : Int32)) / (10000 : Int32) * (10000 : Int32)
def a_ms (ls mm : Int32) : Int32 := if ls ≤ mm then ls + ((mm - ls) / (10000 : Int32)) * (10000 : Int32) else ls
theorem a_least {b s : Int32} (hb : 0 ≤ b.toInt ∧ b.toInt ≤ 9999) (hs : 0 ≤ s.toInt ∧ s.toInt ≤ 9999) : s_fm (b - s) 10000 = a_ls b s ∧ 0 ≤ (a_ls b s).toInt ∧ (a_ls b s).toInt ≤ 9999 := by
  have t : (10000 : Int32).toInt = 10000 := by decide
  have z0 : (0 : Int32).toInt = 0 := by decide
  have e : (b - s).toInt = b.toInt - s.toInt := i_sub (by omega) (by omega)
  have e1 : (b - s + 10000).toInt = b.toInt - s.toInt + 10000 := by rw [i_add (by rw [e, t]; omega) (by rw [e, t]; omega), e, t]
  have e2 : ((b - s + 10000) / 10000).toInt = (b.toInt - s.toInt + 10000) / 10000 := by rw [i_div (by rw [e1]; omega), e1, t, Int.tdiv_eq_ediv_of_nonneg (by omega)]
  have e3 : ((b - s + 10000) / 10000 * 10000).toInt = (b.toInt - s.toInt + 10000) / 10000 * 10000 := by rw [i_mul (by rw [e2, t]; omega) (by rw [e2, t]; omega), e2, t]
  have e4 : (a_ls b s).toInt = (b.toInt - s.toInt + 10000) - (b.toInt - s.toInt + 10000) / 10000 * 10000 := by
    unfold a_ls
    rw [i_sub (by rw [e1, e3]; omega) (by rw [e1, e3]; omega), e1, e3]
  refine ⟨?_, by rw [e4]; omega, by rw [e4]; omega⟩
  apply Int32.toInt_inj.mp
  rw [e4]
  by_cases c : 0 ≤ (b - s).toInt
  · have f1 : ((b - s) / 10000).toInt = (b.toInt - s.toInt) / 10000 := by rw [i_div (by rw [e]; omega), e, t, Int.tdiv_eq_ediv_of_nonneg (by omega)]
    have f2 : ((b - s) / 10000 * 10000).toInt = (b.toInt - s.toInt) / 10000 * 10000 := by rw [i_mul (by rw [f1, t]; omega) (by rw [f1, t]; omega), f1, t]
    rw [d_fm c (by decide), i_sub (by rw [e, f2]; omega) (by rw [e, f2]; omega), e, f2]
    omega
  · have x : ¬ (0 : Int32) ≤ (b - s) ^^^ 10000 := by
      rw [n_le]
      show ¬ (0 : Int) ≤ _
      rw [← Int32.toInt_toBitVec, Int32.toBitVec_xor]
      have hx' : (b - s).toBitVec.msb = true := by rw [BitVec.msb_eq_toInt, Int32.toInt_toBitVec]; simp only [decide_eq_true_eq]; omega
      have hy' : (10000 : Int32).toBitVec.msb = false := by decide
      have : ((b - s).toBitVec ^^^ (10000 : Int32).toBitVec).msb = true := by rw [BitVec.msb_xor, hx', hy']; rfl
      rw [BitVec.msb_eq_toInt] at this
      simp only [decide_eq_true_eq] at this
      omega
    have f1 : (b - s) / 10000 = 0 := by
      apply Int32.toInt_inj.mp
      rw [i_div (by rw [e]; omega), e, t, z0]
      have : b.toInt - s.toInt = -(s.toInt - b.toInt) := by omega
      rw [this, Int.neg_tdiv, Int.tdiv_eq_ediv_of_nonneg (by omega), Int.ediv_eq_zero_of_lt (by omega) (by omega)]
      rfl
    have f2 : (b - s) - (b - s) / 10000 * 10000 = b - s := by
      rw [f1]
      apply Int32.toInt_inj.mp
      have : ((0 : Int32) * 10000).toInt = 0 := by decide
      rw [i_sub (by rw [this]; omega) (by rw [this]; omega), this]
      omega
    unfold s_fm
    rw [if_neg x, f2, if_neg (fun q => by rw [q, z0] at c; exact c (Int.le_refl 0)), e1]
    omega
theorem a_most {ls mm : Int32} (hl : 0 ≤ ls.toInt ∧ ls.toInt ≤ 9999) (hm : 0 ≤ mm.toInt ∧ mm.toInt ≤ 599940) : ls + (if (0 : Int32) < (mm - ls) / 10000 then (mm - ls) / 10000 else 0) * 10000 = a_ms ls mm ∧ 0 ≤ (a_ms ls mm).toInt ∧ (a_ms ls mm).toInt ≤ 700000 := by
  have t : (10000 : Int32).toInt = 10000 := by decide
  have z0 : (0 : Int32).toInt = 0 := by decide
  have e : (mm - ls).toInt = mm.toInt - ls.toInt := i_sub (by omega) (by omega)
  unfold a_ms
  by_cases c : ls ≤ mm
  · have c' := n_le.mp c
    have f1 : ((mm - ls) / 10000).toInt = (mm.toInt - ls.toInt) / 10000 := by rw [i_div (by rw [e]; omega), e, t, Int.tdiv_eq_ediv_of_nonneg (by omega)]
    have f2 : ((mm - ls) / 10000 * 10000).toInt = (mm.toInt - ls.toInt) / 10000 * 10000 := by rw [i_mul (by rw [f1, t]; omega) (by rw [f1, t]; omega), f1, t]
    rw [if_pos c]
    refine ⟨?_, ?_, ?_⟩
    · by_cases d : (0 : Int32) < (mm - ls) / 10000
      · rw [if_pos d]
      · rw [if_neg d]
        have : (mm - ls) / 10000 = 0 := by
          apply Int32.toInt_inj.mp
          have : ¬ (0 : Int32).toInt < ((mm - ls) / 10000).toInt := fun q => d (n_lt.mpr q)
          omega
        rw [this]
    · rw [i_add (by rw [f2]; omega) (by rw [f2]; omega), f2]; omega
    · rw [i_add (by rw [f2]; omega) (by rw [f2]; omega), f2]; omega
  · have c' : ¬ ls.toInt ≤ mm.toInt := fun q => c (n_le.mpr q)
    have f1 : ((mm - ls) / 10000).toInt = 0 := by
      rw [i_div (by rw [e]; omega), e, t]
      have : mm.toInt - ls.toInt = -(ls.toInt - mm.toInt) := by omega
      rw [this, Int.neg_tdiv, Int.tdiv_eq_ediv_of_nonneg (by omega), Int.ediv_eq_zero_of_lt (by omega) (by omega)]
      rfl
    rw [if_neg c, if_neg (fun q => by have := n_lt.mp q; omega)]
    refine ⟨?_, by omega, by omega⟩
    apply Int32.toInt_inj.mp
    have : ((0 : Int32) * 10000).toInt = 0 := by decide
    rw [i_add (by rw [this]; omega) (by rw [this]; omega), this]
    omega
/-- the coin of the last month, as the class has it -/
def q_cn (g : zG) (m : Nat) : Int32 := if (0 : Int32) ≤ g 27 0 - 1 ∧ g 27 0 - 1 ≤ (59 : Int32) then g 41 (60 * m + (q_n g 0 - 1)) else 0
def v_rd (g : zG) (m e : Nat) (k : Nat) : Int32 := if k = 70 then Int32.ofNat m else if k = 71 then Int32.ofNat e else if k = 72 then g 27 0 else if k = 73 then g 53 e else if k = 74 then g 27 0 - q_si g e else if k = 75 then a_ls (g 53 e) (q_sh g e) else if k = 76 then a_ms (a_ls (g 53 e) (q_sh g e)) (g 50 e * (g 27 0 - q_si g e)) else if k = 77 then s_cs (g 39) (g 37) (Int32.ofNat e) (60 * m) (z_ix (q_si g e)) (q_n g 0 - z_ix (q_si g e)) else if k = 78 then (if g 27 0 ≤ q_si g e then 0 else g 41 (60 * m + (q_n g 0 - 1))) else if k = 79 then g 30 m else if k = 80 then g 42 m else if k = 81 then g 43 m else if k = 82 then g 44 m else if k = 83 then g 45 m else q_cn g m
def g_rw (g : zG) (n : Nat) (v : Nat → Int32) : zG := fun k i => if i = n ∧ ((70 ≤ k ∧ k ≤ 83) ∨ k = 205) then v k else g k i
def g_gh (g : zG) (e : Nat) : zG := z_up2 (z_up2 (z_up2 g 200 e (g 27 0)) 201 e (g 53 e)) 202 e (g 57 e)
def g_rd (g : zG) (m e : Nat) : zG := z_up2 (g_rw (g_gh g e) (q_n g 55) (v_rd g m e)) 27 55 (g 27 55 + 1)
theorem s_cs_bd {w cr : Nat → Int32} {e : Int32} {o a : Nat} : ∀ {n}, n ≤ 60 → (∀ i, i < n → 0 ≤ (cr (o + (a + i))).toInt ∧ (cr (o + (a + i))).toInt ≤ 989901) → 0 ≤ (s_cs w cr e o a n).toInt ∧ (s_cs w cr e o a n).toInt ≤ 989901 * (n : Int) := by
  intro n
  induction n with
  | zero => intro _ _; unfold s_cs; exact ⟨by decide, by decide⟩
  | succ n ih =>
    intro hn h
    have i1 := ih (by omega) (fun i hi => h i (by omega))
    have i2 := h n (by omega)
    have z0 : (0 : Int32).toInt = 0 := by decide
    unfold s_cs
    by_cases c : w (o + (a + n)) = e
    · rw [if_pos c, i_add (by omega) (by omega)]; omega
    · rw [if_neg c, i_add (by omega) (by omega)]; omega
section RD
variable {c : Nat} {lm : Nat → Nat} {g : zG} {h : zH}
theorem INV.si (I : INV c lm g) {e : Nat} (he : e < q_n g 20) : 0 ≤ (q_si g e).toInt ∧ (q_si g e).toInt ≤ (g 27 0).toInt := by
  have key : ∀ n, n ≤ q_n g 55 → 0 ≤ (s_lst (g 71) (Int32.ofNat e) (g 72) (g 58 e) n).toInt ∧ (s_lst (g 71) (Int32.ofNat e) (g 72) (g 58 e) n).toInt ≤ (g 27 0).toInt := by
    intro n
    induction n with
    | zero => intro _; exact I.ca e he
    | succ n ih =>
      intro hn
      unfold s_lst
      by_cases q : g 71 n = Int32.ofNat e
      · rw [if_pos q]; exact (I.re n (by omega)).2.2
      · rw [if_neg q]; exact ih (by omega)
  exact key _ (Nat.le_refl _)
theorem INV.shb (I : INV c lm g) {e : Nat} : 0 ≤ (q_sh g e).toInt ∧ (q_sh g e).toInt ≤ 9999 := by
  have key : ∀ n, n ≤ q_n g 55 → 0 ≤ (s_lst (g 71) (Int32.ofNat e) (g 73) 0 n).toInt ∧ (s_lst (g 71) (Int32.ofNat e) (g 73) 0 n).toInt ≤ 9999 := by
    intro n
    induction n with
    | zero => intro _; exact ⟨(by decide : (0 : Int) ≤ (0 : Int32).toInt), (by decide : (0 : Int32).toInt ≤ 9999)⟩
    | succ n ih =>
      intro hn
      unfold s_lst
      by_cases q : g 71 n = Int32.ofNat e
      · rw [if_pos q]; exact I.br.at (k := 73) (a := 0) (b := 9999) (by decide) (by omega)
      · rw [if_neg q]; exact ih (by omega)
  exact key _ (Nat.le_refl _)
theorem M_read (I : INV c lm g) {m e : Nat} (hm : m < q_n g 1) (hw : q_wk g (Int32.ofNat m) = some e) (h55 : (g 27 55).toInt < 60) {Q : Int32 → zG → Prop} (q : ∀ g2, (∀ k, k < 200 → g2 k = g_rd g m e k) → Q (g 27 55) g2) : MK z_pI 201 [.ref 27, .int (Int32.ofNat m)] g Q := by
  have hm6 := I.m6 hm
  have he := (q_wk_some hw).1
  have he12 := I.e12 he
  have c55 := I.cnt.2.2.2.1
  have c0 := I.cnt.1
  have o := I.cn
  have b55 : 0 ≤ (g 27 55).toInt ∧ (g 27 55).toInt < 60 := ⟨c55.1, h55⟩
  have bm := n_bd (N := 6) hm6 (by omega)
  have sbd := s_no_bd (e := e) (N := 12) he12 (by omega)
  have n60 : ¬ g 27 55 = 60 := fun z => by rw [z] at h55; exact absurd h55 (by decide)
  have si := I.si he
  obtain ⟨S, hS⟩ : ∃ S, S = z_ix (q_si g e) := ⟨_, rfl⟩
  have eS : q_si g e = Int32.ofNat S := by rw [hS]; exact (n_of si.1).symm
  obtain ⟨T, hT⟩ : ∃ T, T = q_n g 0 := ⟨_, rfl⟩
  have eT : g 27 0 = Int32.ofNat T := by rw [hT]; exact (n_of c0.1).symm
  have hST : S ≤ T ∧ T ≤ 60 := by rw [hS, hT]; unfold q_n z_ix; omega
  refine X_201 _ g ?_
  rw [if_pos (I.mv hm), hw, if_neg (s_no_ne (by omega)), if_neg n60, s_no_ix (by omega)]
  refine ⟨o, sbd, ?_⟩
  refine z_lp (N := q_n g 55) (G := fun i => MG z_pI 201 50 [some (.ref 27), some (.int (Int32.ofNat m)), some (.int (s_no (some e))), some (.int (s_lst (g 71) (Int32.ofNat e) (g 72) (g 58 e) i)), some (.int (s_lst (g 71) (Int32.ofNat e) (g 73) 0 i)), some (.int (Int32.ofNat i)), none, none, none] [] g Q) ?_ ?_
  · refine X_201_50 _ _ _ _ _ _ _ _ g ?_
    rw [if_pos (q_end c55.1), s_no_ix (by omega)]
    refine ⟨sbd, sbd, b55, fun g1 e1 => ⟨b55, fun g2 e2 => ⟨b55, fun g3 e3 => ⟨sbd, b55, fun g4 e4 => ⟨b55, fun g5 e5 => ⟨b55, fun g6 e6 m19 e19 => ⟨b55, fun g7 e7 => ⟨b55, fun g8 e8 => ?_⟩⟩⟩⟩⟩⟩⟩⟩
    have U0 := Up.nil g (q_n g 55) (v_rd g m e)
    have U1 := U0.step e1 rfl
    have U2 := U1.step e2 rfl
    have U3 := U2.step e3 (U2.1 27 0 (fun z => absurd z.2 (by decide)))
    have U4 := U3.step e4 (U3.1 53 e (fun z => absurd z.2 (by decide)))
    have U5 := U4.step e5 (by rw [U4.1 27 0 (fun z => absurd z.2 (by decide))]; rfl)
    have U6 := U5.step e6 rfl
    have U7 := U6.step e7 e19
    have r39 : g8 39 = g 39 := by funext i; rw [e8, up_ne (by decide)]; exact U7.1 39 i (fun z => absurd z.2 (by decide))
    have r37 : g8 37 = g 37 := by funext i; rw [e8, up_ne (by decide)]; exact U7.1 37 i (fun z => absurd z.2 (by decide))
    have r27 : g8 27 0 = g 27 0 := by rw [e8, up_ne (by decide)]; exact U7.1 27 0 (fun z => absurd z.2 (by decide))
    have r55 : g8 27 55 = g 27 55 := by rw [e8, up_ne (by decide)]; exact U7.1 27 55 (fun z => absurd z.2 (by decide))
    have lp : ∀ i, i ≤ T - S → MG z_pI 201 241 [some (.ref 27), some (.int (Int32.ofNat m)), some (.int (s_no (some e))), some (.int (q_si g e)), some (.int (q_sh g e)), some (.int (g 27 55)), some (.int (a_ls (g 53 e) (q_sh g e))), some (.int (g 50 e * (g 27 0 - q_si g e))), some (.int (Int32.ofNat (S + (T - S))))] [] (z_up2 g7 77 (q_n g 55) (s_cs (g 39) (g 37) (Int32.ofNat e) (60 * m) S (T - S))) Q → MG z_pI 201 241 [some (.ref 27), some (.int (Int32.ofNat m)), some (.int (s_no (some e))), some (.int (q_si g e)), some (.int (q_sh g e)), some (.int (g 27 55)), some (.int (a_ls (g 53 e) (q_sh g e))), some (.int (g 50 e * (g 27 0 - q_si g e))), some (.int (Int32.ofNat (S + (T - S - i))))] [] (z_up2 g7 77 (q_n g 55) (s_cs (g 39) (g 37) (Int32.ofNat e) (60 * m) S (T - S - i))) Q := by
      intro i
      induction i with
      | zero => intro _ w; exact w
      | succ i ih =>
        intro hi w
        have w2 := ih (by omega) w
        rw [show T - S - i = (T - S - (i + 1)) + 1 by omega] at w2
        generalize hj : T - S - (i + 1) = j at w2 ⊢
        have hk : ∀ {k x}, ¬ k = 77 → (z_up2 g7 77 (q_n g 55) (s_cs (g 39) (g 37) (Int32.ofNat e) (60 * m) S j)) k x = g8 k x := by
          intro k x hk
          rw [e8, up_ne hk, up_ne hk]
        have em : (60 : Int32) * Int32.ofNat m + Int32.ofNat (S + j) = Int32.ofNat (60 * m + (S + j)) := n_ma (a := 60)
        have bd := n_bd (i := 60 * m + (S + j)) (N := 360) (by omega) (by omega)
        refine X_201_241 _ _ _ _ _ _ _ _ _ ?_
        rw [hk (by decide), r27, if_neg (show ¬ g 27 0 ≤ Int32.ofNat (S + j) from by rw [eT]; exact lit_le (by omega) (by omega) (by omega)), em, n_ix (by omega), hk (by decide), hk (by decide), r39, r37, n_s]
        refine ⟨b55, bd, fun _ => bd, fun m58 e58 => ⟨b55, fun g61 e61 => ?_⟩⟩
        have ex : g61 = z_up2 g7 77 (q_n g 55) (s_cs (g 39) (g 37) (Int32.ofNat e) (60 * m) S (j + 1)) := by
          rw [e61]
          show z_up2 (z_up2 g7 77 (q_n g 55) _) 77 (q_n g 55) _ = _
          rw [up_up]
          congr 1
          show (z_up2 g7 77 (q_n g 55) _) 77 (q_n g 55) + m58 = _
          rw [up_at, e58, s_cs]
          rfl
        rw [ex]
        exact w2
    have lp0 := lp (T - S) (Nat.le_refl _)
    rw [show T - S - (T - S) = 0 by omega] at lp0
    have st : g8 = z_up2 g7 77 (q_n g 55) (s_cs (g 39) (g 37) (Int32.ofNat e) (60 * m) S 0) := e8
    rw [st]
    have goal : MG z_pI 201 241 [some (.ref 27), some (.int (Int32.ofNat m)), some (.int (s_no (some e))), some (.int (q_si g e)), some (.int (q_sh g e)), some (.int (g 27 55)), some (.int (a_ls (g 53 e) (q_sh g e))), some (.int (g 50 e * (g 27 0 - q_si g e))), some (.int (q_si g e))] [] (z_up2 g7 77 (q_n g 55) (s_cs (g 39) (g 37) (Int32.ofNat e) (60 * m) S 0)) Q := by
      have z1 := lp0
      rw [show S + 0 = S by omega, ← eS] at z1
      refine z1 ?_
      obtain ⟨gy, ey⟩ : ∃ gy, gy = z_up2 g7 77 (q_n g 55) (s_cs (g 39) (g 37) (Int32.ofNat e) (60 * m) S (T - S)) := ⟨_, rfl⟩
      have U8 := U7.step ey (by rw [hS, hT]; rfl)
      rw [← ey, show S + (T - S) = T by omega]
      have y27 : gy 27 0 = g 27 0 := U8.1 27 0 (fun z => absurd z.2 (by decide))
      refine X_201_241 _ _ _ _ _ _ _ _ _ ?_
      rw [y27, ← eT, if_pos (Int32.le_refl _)]
      have eN : ¬ g 27 0 ≤ q_si g e → (60 : Int32) * Int32.ofNat m + g 27 0 - 1 = Int32.ofNat (60 * m + (T - 1)) := by
        intro z
        rw [eT, eS, n_lit_le (by omega) (by omega)] at z
        have a1 : (60 : Int32) * Int32.ofNat m + Int32.ofNat T = Int32.ofNat (60 * m + T) := n_ma (a := 60)
        rw [eT, a1, show 60 * m + T = (60 * m + (T - 1)) + 1 by omega, ← n_s, Int32.add_sub_cancel]
      refine ⟨fun z => ?_, fun m34 e34 => ⟨b55, fun h1 f1 => ⟨bm, b55, fun h2 f2 => ⟨bm, b55, fun h3 f3 => ⟨bm, b55, fun h4 f4 => ⟨bm, b55, fun h5 f5 => ⟨bm, b55, fun h6 f6 h7 f7 => ?_⟩⟩⟩⟩⟩⟩⟩
      · rw [eN z]; exact n_bd (N := 360) (by omega) (by omega)
      have U9 := U8.step f1 (by
        rw [e34]
        show _ = (if g 27 0 ≤ q_si g e then (0 : Int32) else g 41 (60 * m + (q_n g 0 - 1)))
        by_cases z : g 27 0 ≤ q_si g e
        · rw [if_pos z, if_pos z]
        · rw [if_neg z, if_neg z, eN z, n_ix (by omega), ← hT]
          exact U8.1 41 _ (fun z => absurd z.2 (by decide)))
      rw [n_ix (by omega)] at f2 f3 f4 f5 f6
      have U10 := U9.step f2 (U9.1 30 m (fun z => absurd z.2 (by decide)))
      have U11 := U10.step f3 (U10.1 42 m (fun z => absurd z.2 (by decide)))
      have U12 := U11.step f4 (U11.1 43 m (fun z => absurd z.2 (by decide)))
      have U13 := U12.step f5 (U12.1 44 m (fun z => absurd z.2 (by decide)))
      have U14 := U13.step f6 (U13.1 45 m (fun z => absurd z.2 (by decide)))
      refine q h7 (fun k hk => ?_)
      funext i
      rw [f7, U14.1 27 55 (fun z => absurd z.2 (by decide))]
      unfold g_rd
      by_cases z : k = 27 ∧ i = 55
      · rw [z.1, z.2, up_at, up_at]
      · rw [up_nj z, up_nj z]
        unfold g_rw
        by_cases w : i = q_n g 55 ∧ [83, 82, 81, 80, 79, 78, 77, 76, 75, 74, 73, 72, 71, 70].contains k = true
        · have wk : 70 ≤ k ∧ k ≤ 83 := by have := w.2; simp at this; omega
          rw [w.1, if_pos ⟨rfl, Or.inl wk⟩]
          exact U14.2 k w.2
        · rw [U14.1 k i w, if_neg]
          · unfold g_gh
            rw [up_ne (by omega), up_ne (by omega), up_ne (by omega)]
          · intro y
            refine w ⟨y.1, ?_⟩
            have : 70 ≤ k ∧ k ≤ 83 := by omega
            simp
            omega
    rw [← eS] at *
    exact goal
  · intro i hi w
    have hb := I.r60 hi
    have bi := n_bd (N := 60) hb (by omega)
    refine X_201_50 _ _ _ _ _ _ _ _ g ?_
    rw [if_neg (n_cnt c55.1 hi), n_ix (by omega), n_s]
    refine ⟨bi, fun _ => bi, fun _ => bi, fun m29 e29 m30 e30 => ?_⟩
    have f1 : m29 = s_lst (g 71) (Int32.ofNat e) (g 72) (g 58 e) (i + 1) := by rw [e29, s_lst]; rfl
    have f2 : m30 = s_lst (g 71) (Int32.ofNat e) (g 73) 0 (i + 1) := by rw [e30, s_lst]; rfl
    rw [f1, f2]
    exact w
end RD
