section TN
variable {c : Nat} {g : zG} {h : zH}
/-- the world behind a text without a fault -/
def g_tx (g : zG) (n : Nat) (R : Nat → Nat → Int32) : zG := fun k i => if k = 27 then (if i = 35 then 0 else if i = 36 then 0 else if i = 45 then Int32.ofNat n else g 27 i) else if k = 62 then (if i < 16 then R 0 i else g 62 i) else if k = 63 then (if i < 16 then R 1 i else g 63 i) else if k = 64 then (if i < 16 then R 2 i else g 64 i) else if k = 65 then (if i < 16 then R 3 i else g 65 i) else if k = 203 then s_cg (R 0 i) else g k i
theorem tx_27 {n : Nat} {R : Nat → Nat → Int32} {i : Nat} : g_tx g n R 27 i = if i = 35 then 0 else if i = 36 then 0 else if i = 45 then Int32.ofNat n else g 27 i := if_pos rfl
theorem tx_o {n : Nat} {R : Nat → Nat → Int32} {k : Nat} (hk : [27, 62, 63, 64, 65, 203].contains k = false) : g_tx g n R k = g k := by
  have e : ¬ (k = 27 ∨ k = 62 ∨ k = 63 ∨ k = 64 ∨ k = 65 ∨ k = 203) := by
    intro z
    rcases z with z | z | z | z | z | z <;> subst z <;> cases hk
  funext i
  unfold g_tx
  rw [if_neg (by omega), if_neg (by omega), if_neg (by omega), if_neg (by omega), if_neg (by omega), if_neg (by omega)]
theorem tx_l {n : Nat} {R : Nat → Nat → Int32} {i : Nat} (hi : i < 16) : g_tx g n R 62 i = R 0 i ∧ g_tx g n R 63 i = R 1 i ∧ g_tx g n R 64 i = R 2 i ∧ g_tx g n R 65 i = R 3 i ∧ g_tx g n R 203 i = s_cg (R 0 i) := by
  refine ⟨?_, ?_, ?_, ?_, rfl⟩
  · show (if i < 16 then R 0 i else g 62 i) = _; rw [if_pos hi]
  · show (if i < 16 then R 1 i else g 63 i) = _; rw [if_pos hi]
  · show (if i < 16 then R 2 i else g 64 i) = _; rw [if_pos hi]
  · show (if i < 16 then R 3 i else g 65 i) = _; rw [if_pos hi]
theorem T_text (X : AH c g h) : ST z_pI 112 [.ref 0] 195 [.ref 27] c g h := by
  have I := X.i
  have R := X.r
  have c35 := I.cnt.2.2.2.2.2
  have t200 : q_n g 35 ≤ 200 := by unfold q_n z_ix; omega
  have T : Tq (g 59) (q_n g 35) g := ⟨(n_of c35.1).symm, rfl, t200, fun i hi => I.bt.at (k := 59) (a := 0) (b := 255) (by decide) (by omega)⟩
  obtain ⟨B, D, hB, hD, hBD⟩ : ∃ B D, z_rv h 0 9 = some B ∧ z_rv h 0 10 = some D ∧ ((B = 15 ∧ D = 21) ∨ (B = 21 ∧ D = 15)) := by
    rcases R.b with ⟨a, b⟩ | ⟨a, b⟩
    · exact ⟨15, 21, a, b, Or.inl ⟨rfl, rfl⟩⟩
    · exact ⟨21, 15, a, b, Or.inr ⟨rfl, rfl⟩⟩
  have tD : z_tg h D = 1 := by
    rcases hBD with ⟨_, e⟩ | ⟨_, e⟩ <;> subst e
    · exact R.f.at (by omega) rfl
    · exact R.f.at (by omega) rfl
  have tB : z_tg h B = 1 := by
    rcases hBD with ⟨e, _⟩ | ⟨e, _⟩ <;> subst e
    · exact R.f.at (by omega) rfl
    · exact R.f.at (by omega) rfl
  have d9 : 9 ≤ D := by omega
  have t8 : z_tg h 8 = 7 := R.f.at (by omega) rfl
  have t6 : z_tg h 6 = 9 := R.f.at (by omega) rfl
  have R1 : RC (fun _ => q_n g 0) g (z_sR h 8 3 (some D)) := R.s83 (fun b e => by injection e with e; subst e; exact tD)
  obtain ⟨h0, eh⟩ : ∃ h0, h0 = z_sI (z_sI (z_sI (z_sI (z_sR h 8 3 (some D)) D 5 (0 : Int32)) 8 6 (0 : Int32)) 8 0 (0 : Int32)) 8 1 (0 : Int32) := ⟨_, rfl⟩
  have sh0 : Sh (z_sR h 8 3 (some D)) h0 := by rw [eh]; exact ((Sh.sI.trans Sh.sI).trans Sh.sI).trans Sh.sI
  have iv0 : ∀ k, ¬ k = 8 → ¬ k = D → z_iv h0 k = z_iv h k := by
    intro k h1 h2
    rw [eh, iv_ne h1, iv_ne h1, iv_ne h1, iv_ne h2]
    rfl
  have rv0 : ∀ y, ¬ y = 8 → z_rv h0 y = z_rv h y := by
    intro y hy
    rw [sh0.2.2.2.2.1]
    exact sR_ne hy
  have tp0 : Tp (g 59) (q_n g 35) h0 := by
    refine ⟨sh0.cw R1.w, sh0.tg t6, sh0.tg t8, ?_, fun i hi => ?_, t200⟩
    · rw [iv0 6 (by omega) (by omega), R.n35]; exact T.1
    · rw [iv0 (6 + 1) (by omega) (by omega)]; exact R.f59 (by omega)
  have b0 : Bk (g 59) (q_n g 35) D h0 := ⟨tp0, sh0.tg tD, by rw [sh0.2.2.2.2.1]; exact sR_at, d9, T.2.2.2⟩
  have F0 : Fk D h0 h0 := ⟨Sh.refl h0, fun _ _ _ => rfl⟩
  have D0 : Dr D 0 (fun k => g (66 + k)) h0 := ⟨by rw [eh, v_no (by omega), v_no (by omega), v_no (by omega), v_at]; rfl, by omega, fun i hi => absurd hi (by omega), fun i hi => absurd hi (by omega)⟩
  obtain ⟨o, eo⟩ : ∃ o, o = e_tk (g 59) (q_n g 35) 0 (e_tx (g 59) (q_n g 35) 16 0 0 (fun k => g (66 + k))) := ⟨_, rfl⟩
  have K : ∀ Q : Int32 → zH → Prop, Hk (g 59) (q_n g 35) D h0 Q o → KK z_pI 70 [.ref 8, .ref D] h Q := by
    intro Q H
    refine X_70 8 D h R.w t8 tD (o_S sR_at ?_)
    rw [← eh]
    refine K_tk2 b0 F0 (by rw [eh, v_no (by omega), v_at]) D0 (p := 0) (by omega) (by rw [eh, v_no (by omega), v_no (by omega), v_at]; rfl) eo (fun e h' s F k0 k1 => ⟨s, ?_⟩) (fun e h' s F k0 A1 D1 => ⟨s, ?_⟩)
    · rw [if_pos rfl]
      rw [e] at H
      exact H h' F k0 k1
    · rw [if_neg (by decide)]
      rw [e] at H
      exact K_70l b0 (sh0.tg tD) 16 0 0 _ h' rfl F k0 A1 D1 H
  cases o with
  | inl x =>
    obtain ⟨cc, s⟩ := x
    have n0 : q_n (z_up2 (z_up2 g 27 35 0) 27 36 cc) 0 = q_n g 0 := by unfold q_n; rw [up_nj (by omega), up_nj (by omega)]
    have n45 : q_n (z_up2 (z_up2 g 27 35 0) 27 36 cc) 45 = q_n g 45 := by unfold q_n; rw [up_nj (by omega), up_nj (by omega)]
    have er : ∀ k, [27, 62, 63, 64, 65, 203].contains k = false → z_up2 (z_up2 g 27 35 0) 27 36 cc k = g k := by
      intro k hk
      have : ¬ k = 27 := fun z => by subst z; cases hk
      rw [up_ne this, up_ne this]
    have eo' : ∀ k, ¬ k = 27 → z_up2 (z_up2 g 27 35 0) 27 36 cc k = g k := fun k hk => by rw [up_ne hk, up_ne hk]
    refine ⟨(-10 : Int32) - Int32.ofNat s, z_up2 (z_up2 g 27 35 0) 27 36 cc, M_195 T ?_, ?_, ?_⟩
    · rw [← eo]
      intro g' W a b st
      refine ⟨rfl, fun k i hk hs => ?_⟩
      by_cases z1 : k = 27 ∧ i = 36
      · obtain ⟨rfl, rfl⟩ := z1
        rw [up_at, up_at]
      · rw [up_nj z1, up_nj z1]
        by_cases z2 : k = 27 ∧ i = 35
        · obtain ⟨rfl, rfl⟩ := z2
          rw [up_at, up_at]
        · rw [up_nj z2, up_nj z2]
          exact W k i hs
    · rw [n0]
      refine (I.t_c (Nat.le_succ c)).tx ?_ ?_ ?_ ?_ ?_ ?_ er ?_ ?_ ?_
      · rw [up_nj (by omega), up_nj (by omega)]
      · rw [up_nj (by omega), up_nj (by omega)]
      · rw [up_nj (by omega), up_nj (by omega)]
      · rw [up_nj (by omega), up_nj (by omega)]
      · rw [up_nj (by omega), up_at]; decide
      · rw [up_nj (by omega), up_nj (by omega)]; exact I.cnt.2.2.2.2.1
      · rw [n45]
        exact I.bl.eq (fun q hq => eo' q.1 (by have : ∀ q, q ∈ BL → ¬ q.1 = 27 := by decide
                                               exact this q hq))
      · rw [n45, eo' 62 (by omega), eo' 65 (by omega)]; exact I.lv
      · rw [n45, eo' 62 (by omega), eo' 203 (by omega)]; exact I.gg
    · refine X_112 h R.w (o_S hD (K _ (fun h' F k0 k1 => ?_)))
      have W' := F.1.cw tp0.1
      have shA := sh0.trans F.1
      refine X_112_11 _ _ _ h' W' ?_
      rw [if_pos rfl, k1, n0]
      have ivh : ∀ k, ¬ k = 8 → ¬ (D ≤ k ∧ k ≤ D + 5) → z_iv h' k = z_iv h k := fun k h1 h2 => (F.2 k h1 h2).trans (iv0 k h1 (by omega))
      have rvh : ∀ y, ¬ y = 8 → z_rv h' y = z_rv h y := fun y hy => by rw [F.1.2.2.2.2.1]; exact rv0 y hy
      refine ⟨rfl, ?_, ⟨fun k h1 h2 => ⟨?_, ?_, ?_, ?_⟩, ?_, ?_, ?_⟩, ?_⟩
      · refine R1.tx (h4 := z_sI h' 6 1 0) W'.sI shA.2.2.1 shA.2.2.2.1 (fun y _ => by show z_rv h' y = _; rw [shA.2.2.2.2.1]) ?_ (fun y hy => ?_) ?_ ?_ ?_ er ?_ ?_
        · unfold BD
          show (z_rv h' 0 9 = _ ∧ z_rv h' 0 10 = _) ∨ (z_rv h' 0 9 = _ ∧ z_rv h' 0 10 = _)
          rw [rvh 0 (by omega)]
          exact R.b
        · rw [iv_ne (by omega)]
          exact ivh y (by omega) (by omega)
        · rw [up_nj (by omega), up_nj (by omega)]
        · rw [up_nj (by omega), up_nj (by omega)]
        · rw [up_nj (by omega), up_nj (by omega)]
        · intro i c' j L
          rw [n45] at L
          rcases L with ⟨rfl, L⟩ | ⟨rfl, rfl, rfl⟩ | ⟨rfl, rfl, rfl⟩ | ⟨e, rfl, rfl⟩
          · rw [v_no (by omega), ivh 0 (by omega) (by omega), up_nj (by omega), up_nj (by omega)]
            exact R.i 27 i 0 j (Or.inl ⟨rfl, L⟩)
          · rw [v_no (by omega), k0, up_at]
          · rw [v_at, up_nj (by omega), up_at]
          · have e : z_rv h' 0 9 = some c' := e
            rw [rvh 0 (by omega), hB] at e
            injection e with e
            subst e
            rw [v_no (by omega), ivh B (by omega) (by omega), up_nj (by omega), up_nj (by omega)]
            exact R.n45 hB
        · intro k i c' j L
          rw [n45] at L
          obtain ⟨B', e, rfl, hi, q⟩ := L
          have e : z_rv h' 0 9 = some B' := e
          rw [rvh 0 (by omega), hB] at e
          injection e with e
          subst e
          rw [v_no (by omega), ivh c' (by omega) (by omega), eo' k (by omega)]
          have kd2 : kd k = 2 := by
            rcases q with ⟨_, q⟩ | ⟨_, q⟩ | ⟨_, q⟩ | ⟨_, q⟩ | ⟨_, q⟩ <;> subst q <;> rfl
          refine R.i k i c' i ?_
          unfold Loc
          rw [kd2]
          exact ⟨B, hB, rfl, hi, q⟩
      · show z_tg h' k = z_tg h k
        rw [shA.2.2.1]; rfl
      · show z_ln h' k = z_ln h k
        rw [shA.2.2.2.1]; rfl
      · exact rvh k (by omega)
      · rw [iv_ne (by omega)]; exact ivh k (by omega) (by omega)
      · show z_lv h' 27 = z_lv h 27
        rw [shA.2.2.2.2.2]; rfl
      · rw [iv_ne (by unfold z_SC; omega)]; exact ivh _ (by unfold z_SC; omega) (by unfold z_SC; omega)
      · show z_ln h' z_SC = z_ln h z_SC
        rw [shA.2.2.2.1]; rfl
      · exact ⟨by show z_nx h' ≤ z_nx h + 4; rw [shA.1]; exact Nat.le_add_right _ _, by show z_us h' ≤ z_us h + 400; rw [shA.2.1]; exact Nat.le_add_right _ _⟩
  | inr x =>
    obtain ⟨p, n, L⟩ := x
    obtain ⟨_, _, _, G, n16⟩ := K (fun _ _ => Gd n L ∧ n ≤ 16) (fun h' F k0 A D => ⟨D.2.2.1, D.2.1⟩)
    have tx27 : ∀ i, ¬ i = 35 → ¬ i = 36 → ¬ i = 45 → g_tx g n L 27 i = g 27 i := fun i h1 h2 h3 => by rw [tx_27, if_neg h1, if_neg h2, if_neg h3]
    have t35 : g_tx g n L 27 35 = 0 := by rw [tx_27, if_pos rfl]
    have t36 : g_tx g n L 27 36 = 0 := by rw [tx_27, if_neg (by omega), if_pos rfl]
    have t45 : g_tx g n L 27 45 = Int32.ofNat n := by rw [tx_27, if_neg (by omega), if_neg (by omega), if_pos rfl]
    have n0 : q_n (g_tx g n L) 0 = q_n g 0 := by unfold q_n; rw [tx27 0 (by omega) (by omega) (by omega)]
    have n45 : q_n (g_tx g n L) 45 = n := by unfold q_n; rw [t45, n_ix (by omega)]
    refine ⟨Int32.ofNat n, g_tx g n L, M_195 T ?_, ?_, ?_⟩
    · rw [← eo]
      intro g' g'' W Li C
      refine ⟨rfl, fun k i hk hs => ?_⟩
      obtain ⟨c1, c2, c3, c4, c5, c6⟩ := C
      have rows : ∀ x, x < 4 → g'' (62 + x) i = if i < 16 then L x i else g (62 + x) i := by
        intro x hx
        rw [c6 x hx i, Li.2.2 x hx]
        by_cases z : i < 16
        · rw [if_pos z, if_pos z]
        · rw [if_neg z, if_neg z]
          have d : x = 0 ∨ x = 1 ∨ x = 2 ∨ x = 3 := by omega
          rcases d with d | d | d | d <;> subst d <;> exact W _ i rfl
      by_cases z : k = 27
      · subst z
        rw [tx_27]
        by_cases z1 : i = 35
        · subst z1; rw [if_pos rfl]; exact c3
        · rw [if_neg z1]
          by_cases z2 : i = 36
          · subst z2; rw [if_pos rfl]; exact c4
          · rw [if_neg z2]
            by_cases z3 : i = 45
            · subst z3; rw [if_pos rfl]; exact c5
            · rw [if_neg z3, c2 i z1 z2 z3]
              exact W 27 i hs
      · by_cases y : 62 ≤ k ∧ k ≤ 65
        · have d : k = 62 ∨ k = 63 ∨ k = 64 ∨ k = 65 := by omega
          rcases d with d | d | d | d <;> subst d
          · exact rows 0 (by omega)
          · exact rows 1 (by omega)
          · exact rows 2 (by omega)
          · exact rows 3 (by omega)
        · have e : [27, 62, 63, 64, 65, 203].contains k = false := by
            cases hc : [27, 62, 63, 64, 65, 203].contains k with
            | false => rfl
            | true =>
              have w : k ∈ [27, 62, 63, 64, 65, 203] := by simpa using hc
              simp at w
              omega
          rw [tx_o e, c1 k z y]
          exact W k i hs
    · rw [n0]
      refine (I.t_c (Nat.le_succ c)).tx (tx27 0 (by omega) (by omega) (by omega)) (tx27 1 (by omega) (by omega) (by omega)) (tx27 20 (by omega) (by omega) (by omega)) (tx27 55 (by omega) (by omega) (by omega)) ?_ ?_ (fun k hk => tx_o hk) ?_ ?_ ?_
      · rw [t35]; decide
      · rw [t45, n_i (by omega)]; omega
      · rw [n45]
        intro q hq i hi
        obtain ⟨a1, a2, a3, a4, a5⟩ := tx_l (g := g) (n := n) (R := L) (i := i) (by omega)
        obtain ⟨⟨m, hm, em⟩, g2, g3, g4⟩ := G i hi
        have cs : q = (62, 0, 6) ∨ q = (63, 0, 7) ∨ q = (64, 0, 59) := by
          have : ∀ q, q ∈ BL → q = (62, 0, 6) ∨ q = (63, 0, 7) ∨ q = (64, 0, 59) := by decide
          exact this q hq
        rcases cs with e | e | e <;> subst e
        · show (0 : Int) ≤ (g_tx g n L 62 i).toInt ∧ (g_tx g n L 62 i).toInt ≤ 6
          rw [a1, em, n_i (by omega)]; omega
        · show (0 : Int) ≤ (g_tx g n L 63 i).toInt ∧ (g_tx g n L 63 i).toInt ≤ 7
          rw [a2]; exact g2
        · show (0 : Int) ≤ (g_tx g n L 64 i).toInt ∧ (g_tx g n L 64 i).toInt ≤ 59
          rw [a3]; exact g3
      · rw [n45]
        intro i hi
        obtain ⟨a1, a2, a3, a4, a5⟩ := tx_l (g := g) (n := n) (R := L) (i := i) (by omega)
        rw [a1, a4]
        exact (G i hi).2.2.2
      · rw [n45]
        intro i hi
        obtain ⟨a1, a2, a3, a4, a5⟩ := tx_l (g := g) (n := n) (R := L) (i := i) (by omega)
        rw [a1, a5]
    · refine X_112 h R.w (o_S hD (K _ (fun h' F k0 A Dr' => ?_)))
      have W' := F.1.cw tp0.1
      have shA := sh0.trans F.1
      have ivh : ∀ k, ¬ k = 8 → ¬ (D ≤ k ∧ k ≤ D + 5) → z_iv h' k = z_iv h k := fun k h1 h2 => (F.2 k h1 h2).trans (iv0 k h1 (by omega))
      have rvh : ∀ y, ¬ y = 8 → z_rv h' y = z_rv h y := fun y hy => by rw [F.1.2.2.2.2.1]; exact rv0 y hy
      have t0' : z_tg h' 0 = 11 := W'.t0
      have tgh : ∀ a, z_tg h' a = z_tg h a := fun a => by rw [shA.2.2.1]; rfl
      obtain ⟨d1, d2, _, d3⟩ := Dr'
      refine X_112_11 _ _ _ h' W' ?_
      rw [if_neg (by decide), n0]
      have b5 : z_rv (z_sI h' 6 1 (0 : Int32)) 0 9 = some B := by show z_rv h' 0 9 = _; rw [rvh 0 (by omega)]; exact hB
      have b17 : z_rv (z_sI h' 6 1 (0 : Int32)) 0 10 = some D := by show z_rv h' 0 10 = _; rw [rvh 0 (by omega)]; exact hD
      have b23 : z_rv (z_sR (z_sR (z_sI h' 6 1 (0 : Int32)) 0 9 (some D)) 0 10 (some B)) 0 9 = some D := by rw [sR_nj (by omega), sR_at]
      have b24 : z_rv (z_sR (z_sR (z_sI h' 6 1 (0 : Int32)) 0 9 (some D)) 0 10 (some B)) 0 10 = some B := sR_at
      refine o_S b5 (o_S b17 (o_S b23 ?_))
      have W2 : CW (z_sR (z_sI h' 6 1 (0 : Int32)) 0 9 (some D)) := CW.sR (t := 11) W'.sI t0' rfl (fun b e => by injection e with e; subst e; exact (tgh D).trans tD) (by decide)
      have W4 : CW (z_sR (z_sR (z_sI h' 6 1 (0 : Int32)) 0 9 (some D)) 0 10 (some B)) := CW.sR (t := 11) W2 t0' rfl (fun b e => by injection e with e; subst e; exact (tgh B).trans tB) (by decide)
      have rv4 : ∀ y, ¬ y = 0 → z_rv (z_sR (z_sR (z_sI h' 6 1 (0 : Int32)) 0 9 (some D)) 0 10 (some B)) y = z_rv h' y := fun y hy => by rw [sR_ne hy, sR_ne hy]; rfl
      have iv4 : ∀ y j, z_iv (z_sR (z_sR (z_sI h' 6 1 (0 : Int32)) 0 9 (some D)) 0 10 (some B)) y j = z_iv (z_sI h' 6 1 (0 : Int32)) y j := fun _ _ => rfl
      refine ⟨d1, ?_, ⟨fun k h1 h2 => ⟨?_, ?_, ?_, ?_⟩, ?_, ?_, ?_⟩, ?_⟩
      · refine R1.tx W4 shA.2.2.1 shA.2.2.2.1 (fun y hy => by rw [rv4 y hy, shA.2.2.2.2.1]) ?_ (fun y hy => ?_) (tx27 1 (by omega) (by omega) (by omega)) (tx27 20 (by omega) (by omega) (by omega)) (tx27 55 (by omega) (by omega) (by omega)) (fun k hk => tx_o hk) ?_ ?_
        · unfold BD
          rw [b23, b24]
          rcases hBD with ⟨e1, e2⟩ | ⟨e1, e2⟩ <;> subst e1 <;> subst e2
          · exact Or.inr ⟨rfl, rfl⟩
          · exact Or.inl ⟨rfl, rfl⟩
        · show z_iv (z_sI h' 6 1 (0 : Int32)) y = z_iv h y
          rw [iv_ne (by omega)]
          exact ivh y (by omega) (by omega)
        · intro i c' j Lx
          rw [iv4]
          rcases Lx with ⟨rfl, Lx⟩ | ⟨rfl, rfl, rfl⟩ | ⟨rfl, rfl, rfl⟩ | ⟨e, rfl, rfl⟩
          · rw [v_no (by omega), ivh 0 (by omega) (by omega), tx27 i (by omega) (by omega) (by omega)]
            exact R.i 27 i 0 j (Or.inl ⟨rfl, Lx⟩)
          · rw [v_no (by omega), k0, t36]
          · rw [v_at, t35]
          · rw [b23] at e
            injection e with e
            subst e
            rw [v_no (by omega), d1, t45]
        · intro k i c' j Lx
          rw [iv4]
          rw [n45] at Lx
          obtain ⟨B', e, rfl, hi, q⟩ := Lx
          rw [b23] at e
          injection e with e
          subst e
          obtain ⟨a1, a2, a3, a4, a5⟩ := tx_l (g := g) (n := n) (R := L) (i := i) (by omega)
          obtain ⟨f1, f2, f3, f4, f5⟩ := d3 i hi
          rw [v_no (by omega)]
          rcases q with ⟨q, q'⟩ | ⟨q, q'⟩ | ⟨q, q'⟩ | ⟨q, q'⟩ | ⟨q, q'⟩ <;> subst q <;> subst q'
          · rw [a3]; exact f1
          · rw [a1]; exact f2
          · rw [a5]; exact f3
          · rw [a2]; exact f4
          · rw [a4]; exact f5
      · exact tgh k
      · show z_ln h' k = z_ln h k
        rw [shA.2.2.2.1]; rfl
      · rw [rv4 k (by omega)]; exact rvh k (by omega)
      · show z_iv (z_sI h' 6 1 (0 : Int32)) k = z_iv h k
        rw [iv_ne (by omega)]; exact ivh k (by omega) (by omega)
      · show z_lv h' 27 = z_lv h 27
        rw [shA.2.2.2.2.2]; rfl
      · show z_iv (z_sI h' 6 1 (0 : Int32)) z_SC = z_iv h z_SC
        rw [iv_ne (by unfold z_SC; omega)]; exact ivh _ (by unfold z_SC; omega) (by unfold z_SC; omega)
      · show z_ln h' z_SC = z_ln h z_SC
        rw [shA.2.2.2.1]; rfl
      · exact ⟨by show z_nx h' ≤ z_nx h + 4; rw [shA.1]; exact Nat.le_add_right _ _, by show z_us h' ≤ z_us h + 400; rw [shA.2.1]; exact Nat.le_add_right _ _⟩
end TN
