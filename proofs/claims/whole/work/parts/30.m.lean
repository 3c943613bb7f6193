/-! the reference's loops -/
def Cn (g : zG) : Prop := (0 ≤ (g 27 0).toInt ∧ (g 27 0).toInt ≤ 60) ∧ (0 ≤ (g 27 1).toInt ∧ (g 27 1).toInt ≤ 6) ∧ (0 ≤ (g 27 20).toInt ∧ (g 27 20).toInt ≤ 12) ∧ (0 ≤ (g 27 55).toInt ∧ (g 27 55).toInt ≤ 60) ∧ (0 ≤ (g 27 45).toInt ∧ (g 27 45).toInt ≤ 16) ∧ (0 ≤ (g 27 35).toInt ∧ (g 27 35).toInt ≤ 200)
theorem n_cb {x : Int32} {i : Nat} {N : Nat} (h0 : 0 ≤ x.toInt) (hx : x.toInt ≤ (N : Int)) (hi : i < z_ix x) : i < N := by
  unfold z_ix at hi
  omega
theorem q_end {g : zG} {j : Nat} (h : 0 ≤ (g 27 j).toInt) : g 27 j ≤ Int32.ofNat (q_n g j) := n_end h
theorem c_latest (x1 : Int32) (g : zG) (o : Cn g) {Q : Int32 → zG → Prop} (q : Q (s_no (q_lt g x1)) g) : MK z_pI 169 [.ref 27, .int x1] g Q := by
  refine X_169 x1 g ?_
  refine z_lp (N := q_n g 20) (G := fun i => MG z_pI 169 5 [some (.ref 27), some (.int x1), some (.int (s_no (s_lat (g 46) x1 i))), some (.int (Int32.ofNat i))] [] g Q) ?_ ?_
  · refine X_169_5 _ _ _ g ?_
    rw [if_pos (q_end o.2.2.1.1)]
    exact q
  · intro i hi e
    have hb := n_cb (N := 12) o.2.2.1.1 o.2.2.1.2 hi
    refine X_169_5 _ _ _ g ?_
    rw [if_neg (n_cnt o.2.2.1.1 hi), n_ix (by omega), n_s]
    refine ⟨n_bd (N := 12) hb (by omega), fun m3 e3 => ?_⟩
    have : m3 = s_no (s_lat (g 46) x1 (i + 1)) := by
      rw [e3, s_lat]
      by_cases c : g 46 i = x1
      · rw [if_pos c, if_pos c]; rfl
      · rw [if_neg c, if_neg c]
    rw [this]
    exact e

set_option maxRecDepth 20000 in
theorem X_170 (x1 : Int32) (g : zG) {Q : Int32 → zG → Prop} (H : (Cn g) ∧ (¬ (s_no (q_lt g x1) = (-4 : Int32)) → 0 ≤ (s_no (q_lt g x1)).toInt ∧ (s_no (q_lt g x1)).toInt < 12) ∧ (∀ m5 : Int32, m5 = (if s_no (q_lt g x1) = (-4 : Int32) then (-4 : Int32) else (if (g 55 (z_ix (s_no (q_lt g x1)))) = 0 then s_no (q_lt g x1) else (-4 : Int32))) → Q m5 g)) : MK z_pI 170 [.ref 27, .int x1] g Q := by
  refine m_K (L := [some (.ref 27), some (.int x1), none]) rfl ?_
  refine m_n 2 (pc' := 2) (L' := [some (.ref 27), some (.int x1), none]) (S' := [.int x1, .ref 27]) (fun _ => rfl) ?_
  refine m_cI 169 2 rfl rfl rfl (A := [.ref 27, .int x1]) rfl rfl (Or.inr ⟨rfl, _, rfl⟩) (rest := []) rfl rfl rfl ?_
  obtain ⟨o1, H⟩ := H
  refine c_latest x1 g o1 ?_
  refine m_n 3 (pc' := 9) (L' := [some (.ref 27), some (.int x1), some (.int (s_no (q_lt g x1)))]) (S' := [.int (-4 : Int32), .int (s_no (q_lt g x1))]) (fun _ => rfl) ?_
  obtain ⟨o3, H⟩ := H
  obtain ⟨m5, em5⟩ : ∃ m : Int32, m = (if s_no (q_lt g x1) = (-4 : Int32) then (-4 : Int32) else (if (g 55 (z_ix (s_no (q_lt g x1)))) = 0 then s_no (q_lt g x1) else (-4 : Int32))) := ⟨_, rfl⟩
  have H := H m5 em5
  have hj6 : MG z_pI 170 27 [some (.ref 27), some (.int x1), some (.int (s_no (q_lt g x1)))] [.int m5] g Q := by
    exact m_r rfl rfl rfl H
  refine m_b (c := s_no (q_lt g x1) = (-4 : Int32)) (pc' := 21) (L' := [some (.ref 27), some (.int x1), some (.int (s_no (q_lt g x1)))]) (S' := []) (pc2 := 12) (L2 := [some (.ref 27), some (.int x1), some (.int (s_no (q_lt g x1)))]) (S2 := []) rfl (fun _ => rfl) (fun hc => ?_) (fun hc => ?_)
  · have c2 := hc
    refine m_n 2 (pc' := 27) (L' := [some (.ref 27), some (.int x1), some (.int (s_no (q_lt g x1)))]) (S' := [.int (-4 : Int32)]) (fun _ => rfl) ?_
    rw [(em5.trans (by rw [if_pos c2]) : m5 = (-4 : Int32))] at hj6
    exact hj6
  · have c2 := hc
    refine m_n 1 (pc' := 13) (L' := [some (.ref 27), some (.int x1), some (.int (s_no (q_lt g x1)))]) (S' := [.ref 27]) (fun _ => rfl) ?_
    refine m_gR (q := 55) rfl (by decide) ?_
    refine m_n 1 (pc' := 17) (L' := [some (.ref 27), some (.int x1), some (.int (s_no (q_lt g x1)))]) (S' := [.int (s_no (q_lt g x1)), .ref 55]) (fun _ => rfl) ?_
    refine m_za 12 rfl rfl (o3 c2) ?_
    refine m_b (c := (g 55 (z_ix (s_no (q_lt g x1)))) = 0) (pc' := 26) (L' := [some (.ref 27), some (.int x1), some (.int (s_no (q_lt g x1)))]) (S' := []) (pc2 := 21) (L2 := [some (.ref 27), some (.int x1), some (.int (s_no (q_lt g x1)))]) (S2 := []) rfl (fun _ => rfl) (fun hc => ?_) (fun hc => ?_)
    · have c4 := hc
      refine m_n 1 (pc' := 27) (L' := [some (.ref 27), some (.int x1), some (.int (s_no (q_lt g x1)))]) (S' := [.int (s_no (q_lt g x1))]) (fun _ => rfl) ?_
      rw [(em5.trans (by rw [if_neg c2, if_pos c4]) : m5 = s_no (q_lt g x1))] at hj6
      exact hj6
    · have c4 := hc
      refine m_n 2 (pc' := 27) (L' := [some (.ref 27), some (.int x1), some (.int (s_no (q_lt g x1)))]) (S' := [.int (-4 : Int32)]) (fun _ => rfl) ?_
      rw [(em5.trans (by rw [if_neg c2, if_neg c4]) : m5 = (-4 : Int32))] at hj6
      exact hj6
theorem s_no_ne {e : Nat} (he : e < 2147483648) : ¬ s_no (some e) = (-4 : Int32) := by
  intro q
  have := congrArg Int32.toInt q
  rw [show s_no (some e) = Int32.ofNat e from rfl, n_i he] at this
  have h4 : (-4 : Int32).toInt = -4 := by decide
  omega
theorem s_no_ix {e : Nat} (he : e < 2147483648) : z_ix (s_no (some e)) = e := n_ix he
theorem s_no_bd {e N : Nat} (he : e < N) (hN : N < 2147483648) : 0 ≤ (s_no (some e)).toInt ∧ (s_no (some e)).toInt < (N : Int) := n_bd he hN
theorem q_lt_12 {g : zG} (o : Cn g) {x : Int32} {e : Nat} (h : q_lt g x = some e) : e < 12 := n_cb (N := 12) o.2.2.1.1 o.2.2.1.2 (q_lt_some h).1
theorem q_wk_12 {g : zG} (o : Cn g) {x : Int32} {e : Nat} (h : q_wk g x = some e) : e < 12 := n_cb (N := 12) o.2.2.1.1 o.2.2.1.2 (q_wk_some h).1
theorem c_working (x1 : Int32) (g : zG) (o : Cn g) {Q : Int32 → zG → Prop} (q : Q (s_no (q_wk g x1)) g) : MK z_pI 170 [.ref 27, .int x1] g Q := by
  unfold q_wk at q
  cases k : q_lt g x1 with
  | none =>
    refine X_170 x1 g ⟨o, ?_, ?_⟩
    · rw [k]; intro c; exact absurd rfl c
    · intro m em
      rw [k, if_pos (show s_no none = (-4 : Int32) from rfl)] at em
      rw [k] at q
      rw [em]
      exact q
  | some e =>
    have he := q_lt_12 o k
    refine X_170 x1 g ⟨o, ?_, ?_⟩
    · rw [k]; intro _; exact s_no_bd (N := 12) he (by omega)
    · intro m em
      rw [k, if_neg (s_no_ne (by omega)), s_no_ix (by omega)] at em
      rw [k] at q
      dsimp only at q
      rw [em]
      by_cases c : g 55 e = 0
      · rw [if_pos c] at q ⊢; exact q
      · rw [if_neg c] at q ⊢; exact q

set_option maxRecDepth 20000 in
theorem X_179 (x1 : Int32) (g : zG) {Q : Int32 → zG → Prop} (H : (Cn g) ∧ (if s_no (q_wk g x1) = (-4 : Int32) then (Q (0 : Int32) g) else ((0 ≤ (s_no (q_wk g x1)).toInt ∧ (s_no (q_wk g x1)).toInt < 12) ∧ MG z_pI 179 24 [some (.ref 27), some (.int x1), some (.int (s_no (q_wk g x1))), some (.int (g 58 (z_ix (s_no (q_wk g x1))))), some (.int (0 : Int32))] [] g Q))) : MK z_pI 179 [.ref 27, .int x1] g Q := by
  refine m_K (L := [some (.ref 27), some (.int x1), none, none, none]) rfl ?_
  refine m_n 2 (pc' := 2) (L' := [some (.ref 27), some (.int x1), none, none, none]) (S' := [.int x1, .ref 27]) (fun _ => rfl) ?_
  refine m_cI 170 2 rfl rfl rfl (A := [.ref 27, .int x1]) rfl rfl (Or.inr ⟨rfl, _, rfl⟩) (rest := []) rfl rfl rfl ?_
  obtain ⟨o1, H⟩ := H
  refine c_working x1 g o1 ?_
  refine m_n 3 (pc' := 9) (L' := [some (.ref 27), some (.int x1), some (.int (s_no (q_wk g x1))), none, none]) (S' := [.int (-4 : Int32), .int (s_no (q_wk g x1))]) (fun _ => rfl) ?_
  refine m_b (c := s_no (q_wk g x1) = (-4 : Int32)) (pc' := 12) (L' := [some (.ref 27), some (.int x1), some (.int (s_no (q_wk g x1))), none, none]) (S' := []) (pc2 := 14) (L2 := [some (.ref 27), some (.int x1), some (.int (s_no (q_wk g x1))), none, none]) (S2 := []) rfl (fun _ => rfl) (fun hc => ?_) (fun hc => ?_)
  · have hc := hc
    rw [if_pos hc] at H
    refine m_n 1 (pc' := 13) (L' := [some (.ref 27), some (.int x1), some (.int (s_no (q_wk g x1))), none, none]) (S' := [.int (0 : Int32)]) (fun _ => rfl) ?_
    exact m_r rfl rfl rfl H
  · have hc := hc
    rw [if_neg hc] at H
    refine m_n 1 (pc' := 15) (L' := [some (.ref 27), some (.int x1), some (.int (s_no (q_wk g x1))), none, none]) (S' := [.ref 27]) (fun _ => rfl) ?_
    refine m_gR (q := 58) rfl (by decide) ?_
    refine m_n 1 (pc' := 19) (L' := [some (.ref 27), some (.int x1), some (.int (s_no (q_wk g x1))), none, none]) (S' := [.int (s_no (q_wk g x1)), .ref 58]) (fun _ => rfl) ?_
    obtain ⟨o2, H⟩ := H
    refine m_ia 12 rfl rfl o2 ?_
    refine m_n 3 (pc' := 24) (L' := [some (.ref 27), some (.int x1), some (.int (s_no (q_wk g x1))), some (.int (g 58 (z_ix (s_no (q_wk g x1))))), some (.int (0 : Int32))]) (S' := []) (fun _ => rfl) ?_
    exact H
set_option maxRecDepth 20000 in
theorem X_179_24 (y1 : Int32) (y2 : Int32) (y3 : Int32) (y4 : Int32) (g : zG) {Q : Int32 → zG → Prop} (H : if (g 27 55) ≤ y4 then (Q ((g 27 0) - y3) g) else ((0 ≤ y4.toInt ∧ y4.toInt < 60) ∧ (((g 71 (z_ix y4)) = y2) → 0 ≤ y4.toInt ∧ y4.toInt < 60) ∧ (∀ m6 : Int32, m6 = (if (g 71 (z_ix y4)) = y2 then (g 72 (z_ix y4)) else y3) → MG z_pI 179 24 [some (.ref 27), some (.int y1), some (.int y2), some (.int m6), some (.int (y4 + (1 : Int32)))] [] g Q))) : MG z_pI 179 24 [some (.ref 27), some (.int y1), some (.int y2), some (.int y3), some (.int y4)] [] g Q := by
  refine m_n 2 (pc' := 27) (L' := [some (.ref 27), some (.int y1), some (.int y2), some (.int y3), some (.int y4)]) (S' := [.ref 27, .int y4]) (fun _ => rfl) ?_
  refine m_gI rfl ?_
  refine m_b (c := (g 27 55) ≤ y4) (pc' := 62) (L' := [some (.ref 27), some (.int y1), some (.int y2), some (.int y3), some (.int y4)]) (S' := []) (pc2 := 33) (L2 := [some (.ref 27), some (.int y1), some (.int y2), some (.int y3), some (.int y4)]) (S2 := []) rfl (fun _ => rfl) (fun hc => ?_) (fun hc => ?_)
  · have hc := hc
    rw [if_pos hc] at H
    refine m_n 1 (pc' := 63) (L' := [some (.ref 27), some (.int y1), some (.int y2), some (.int y3), some (.int y4)]) (S' := [.ref 27]) (fun _ => rfl) ?_
    refine m_gI rfl ?_
    refine m_n 2 (pc' := 68) (L' := [some (.ref 27), some (.int y1), some (.int y2), some (.int y3), some (.int y4)]) (S' := [.int ((g 27 0) - y3)]) (fun _ => rfl) ?_
    exact m_r rfl rfl rfl H
  · have hc := hc
    rw [if_neg hc] at H
    refine m_n 1 (pc' := 34) (L' := [some (.ref 27), some (.int y1), some (.int y2), some (.int y3), some (.int y4)]) (S' := [.ref 27]) (fun _ => rfl) ?_
    refine m_gR (q := 71) rfl (by decide) ?_
    refine m_n 1 (pc' := 39) (L' := [some (.ref 27), some (.int y1), some (.int y2), some (.int y3), some (.int y4)]) (S' := [.int y4, .ref 71]) (fun _ => rfl) ?_
    obtain ⟨o3, H⟩ := H
    refine m_ia 60 rfl rfl o3 ?_
    refine m_n 1 (pc' := 41) (L' := [some (.ref 27), some (.int y1), some (.int y2), some (.int y3), some (.int y4)]) (S' := [.int y2, .int (g 71 (z_ix y4))]) (fun _ => rfl) ?_
    obtain ⟨o5, H⟩ := H
    obtain ⟨m6, em6⟩ : ∃ m : Int32, m = (if (g 71 (z_ix y4)) = y2 then (g 72 (z_ix y4)) else y3) := ⟨_, rfl⟩
    have H := H m6 em6
    have hj7 : MG z_pI 179 55 [some (.ref 27), some (.int y1), some (.int y2), some (.int y3), some (.int y4)] [.int m6] g Q := by
      refine m_n 3 (pc' := 24) (L' := [some (.ref 27), some (.int y1), some (.int y2), some (.int m6), some (.int (y4 + (1 : Int32)))]) (S' := []) (fun _ => rfl) ?_
      exact H
    refine m_b (c := (g 71 (z_ix y4)) = y2) (pc' := 44) (L' := [some (.ref 27), some (.int y1), some (.int y2), some (.int y3), some (.int y4)]) (S' := []) (pc2 := 54) (L2 := [some (.ref 27), some (.int y1), some (.int y2), some (.int y3), some (.int y4)]) (S2 := []) rfl (fun _ => rfl) (fun hc => ?_) (fun hc => ?_)
    · have c4 := hc
      refine m_n 1 (pc' := 45) (L' := [some (.ref 27), some (.int y1), some (.int y2), some (.int y3), some (.int y4)]) (S' := [.ref 27]) (fun _ => rfl) ?_
      refine m_gR (q := 72) rfl (by decide) ?_
      refine m_n 1 (pc' := 50) (L' := [some (.ref 27), some (.int y1), some (.int y2), some (.int y3), some (.int y4)]) (S' := [.int y4, .ref 72]) (fun _ => rfl) ?_
      refine m_ia 60 rfl rfl (o5 c4) ?_
      refine m_n 1 (pc' := 55) (L' := [some (.ref 27), some (.int y1), some (.int y2), some (.int y3), some (.int y4)]) (S' := [.int (g 72 (z_ix y4))]) (fun _ => rfl) ?_
      rw [(em6.trans (by rw [if_pos c4]) : m6 = (g 72 (z_ix y4)))] at hj7
      exact hj7
    · have c4 := hc
      refine m_n 1 (pc' := 55) (L' := [some (.ref 27), some (.int y1), some (.int y2), some (.int y3), some (.int y4)]) (S' := [.int y3]) (fun _ => rfl) ?_
      rw [(em6.trans (by rw [if_neg c4]) : m6 = y3)] at hj7
      exact hj7
theorem c_unread (x1 : Int32) (g : zG) (o : Cn g) {Q : Int32 → zG → Prop} (q : Q (q_un g x1) g) : MK z_pI 179 [.ref 27, .int x1] g Q := by
  unfold q_un at q
  refine X_179 x1 g ⟨o, ?_⟩
  cases k : q_wk g x1 with
  | none =>
    rw [if_pos (show s_no none = (-4 : Int32) from rfl)]
    rw [k] at q
    exact q
  | some e =>
    have he := q_wk_12 o k
    rw [k] at q
    dsimp only at q
    rw [if_neg (s_no_ne (by omega)), s_no_ix (by omega)]
    refine ⟨s_no_bd (N := 12) he (by omega), ?_⟩
    refine z_lp (N := q_n g 55) (G := fun i => MG z_pI 179 24 [some (.ref 27), some (.int x1), some (.int (s_no (some e))), some (.int (s_lst (g 71) (Int32.ofNat e) (g 72) (g 58 e) i)), some (.int (Int32.ofNat i))] [] g Q) ?_ ?_
    · refine X_179_24 _ _ _ _ g ?_
      rw [if_pos (q_end o.2.2.2.1.1)]
      exact q
    · intro i hi w
      have hb := n_cb (N := 60) o.2.2.2.1.1 o.2.2.2.1.2 hi
      refine X_179_24 _ _ _ _ g ?_
      rw [if_neg (n_cnt o.2.2.2.1.1 hi), n_ix (by omega), n_s]
      refine ⟨n_bd (N := 60) hb (by omega), fun _ => n_bd (N := 60) hb (by omega), fun m3 e3 => ?_⟩
      have : m3 = s_lst (g 71) (Int32.ofNat e) (g 72) (g 58 e) (i + 1) := by
        rw [e3, s_lst]
        rfl
      rw [this]
      exact w

set_option maxRecDepth 20000 in
theorem X_197 (x1 : Int32) (x2 : Int32) (x3 : Int32) (g : zG) {Q : Int32 → zG → Prop} (H : MG z_pI 197 7 [some (.ref 27), some (.int x1), some (.int x2), some (.int x3), some (.int (-4 : Int32)), some (.int (0 : Int32))] [] g Q) : MK z_pI 197 [.ref 27, .int x1, .int x2, .int x3] g Q := by
  refine m_K (L := [some (.ref 27), some (.int x1), some (.int x2), some (.int x3), none, none]) rfl ?_
  refine m_n 4 (pc' := 7) (L' := [some (.ref 27), some (.int x1), some (.int x2), some (.int x3), some (.int (-4 : Int32)), some (.int (0 : Int32))]) (S' := []) (fun _ => rfl) ?_
  exact H
set_option maxRecDepth 20000 in
theorem X_197_7 (y1 : Int32) (y2 : Int32) (y3 : Int32) (y4 : Int32) (y5 : Int32) (g : zG) {Q : Int32 → zG → Prop} (H : if (g 27 45) ≤ y5 then (Q y4 g) else ((0 ≤ y5.toInt ∧ y5.toInt < 16) ∧ (∀ m2 : Int32, m2 = (if (g 62 (z_ix y5)) = (1 : Int32) then (0 : Int32) else (if (g 62 (z_ix y5)) = (6 : Int32) then (5 : Int32) else (g 62 (z_ix y5)))) → ((m2 = y1) → 0 ≤ y5.toInt ∧ y5.toInt < 16) ∧ ((m2 = y1) → ((g 63 (z_ix y5)) = y2) → 0 ≤ y5.toInt ∧ y5.toInt < 16) ∧ ((m2 = y1) → ((g 63 (z_ix y5)) = y2) → ¬ (y3 < (g 64 (z_ix y5))) → ¬ (y4 = (-4 : Int32)) → 0 ≤ y5.toInt ∧ y5.toInt < 16) ∧ ((m2 = y1) → ((g 63 (z_ix y5)) = y2) → ¬ (y3 < (g 64 (z_ix y5))) → ¬ (y4 = (-4 : Int32)) → 0 ≤ y4.toInt ∧ y4.toInt < 16) ∧ (∀ m12 : Int32, m12 = (if m2 = y1 then (if (g 63 (z_ix y5)) = y2 then (if y3 < (g 64 (z_ix y5)) then y4 else (if y4 = (-4 : Int32) then y5 else (if (g 64 (z_ix y5)) ≤ (g 64 (z_ix y4)) then y4 else y5))) else y4) else y4) → MG z_pI 197 7 [some (.ref 27), some (.int y1), some (.int y2), some (.int y3), some (.int m12), some (.int (y5 + (1 : Int32)))] [] g Q)))) : MG z_pI 197 7 [some (.ref 27), some (.int y1), some (.int y2), some (.int y3), some (.int y4), some (.int y5)] [] g Q := by
  refine m_n 2 (pc' := 10) (L' := [some (.ref 27), some (.int y1), some (.int y2), some (.int y3), some (.int y4), some (.int y5)]) (S' := [.ref 27, .int y5]) (fun _ => rfl) ?_
  refine m_gI rfl ?_
  refine m_b (c := (g 27 45) ≤ y5) (pc' := 86) (L' := [some (.ref 27), some (.int y1), some (.int y2), some (.int y3), some (.int y4), some (.int y5)]) (S' := []) (pc2 := 16) (L2 := [some (.ref 27), some (.int y1), some (.int y2), some (.int y3), some (.int y4), some (.int y5)]) (S2 := []) rfl (fun _ => rfl) (fun hc => ?_) (fun hc => ?_)
  · have hc := hc
    rw [if_pos hc] at H
    refine m_n 1 (pc' := 88) (L' := [some (.ref 27), some (.int y1), some (.int y2), some (.int y3), some (.int y4), some (.int y5)]) (S' := [.int y4]) (fun _ => rfl) ?_
    exact m_r rfl rfl rfl H
  · have hc := hc
    rw [if_neg hc] at H
    refine m_n 1 (pc' := 17) (L' := [some (.ref 27), some (.int y1), some (.int y2), some (.int y3), some (.int y4), some (.int y5)]) (S' := [.ref 27]) (fun _ => rfl) ?_
    refine m_gR (q := 62) rfl (by decide) ?_
    refine m_n 1 (pc' := 22) (L' := [some (.ref 27), some (.int y1), some (.int y2), some (.int y3), some (.int y4), some (.int y5)]) (S' := [.int y5, .ref 62]) (fun _ => rfl) ?_
    obtain ⟨o1, H⟩ := H
    refine m_ia 16 rfl rfl o1 ?_
    refine m_cI 190 1 rfl rfl rfl (A := [.int (g 62 (z_ix y5))]) rfl rfl (Or.inl rfl) (rest := []) rfl rfl rfl ?_
    obtain ⟨m2, em2⟩ : ∃ m : Int32, m = (if (g 62 (z_ix y5)) = (1 : Int32) then (0 : Int32) else (if (g 62 (z_ix y5)) = (6 : Int32) then (5 : Int32) else (g 62 (z_ix y5)))) := ⟨_, rfl⟩
    have H := H m2 em2
    refine X_190 (g 62 (z_ix y5)) g (z_all em2 ?_)
    refine m_n 1 (pc' := 27) (L' := [some (.ref 27), some (.int y1), some (.int y2), some (.int y3), some (.int y4), some (.int y5)]) (S' := [.int y1, .int m2]) (fun _ => rfl) ?_
    obtain ⟨o4, H⟩ := H
    obtain ⟨o6, H⟩ := H
    obtain ⟨o9, H⟩ := H
    obtain ⟨o10, H⟩ := H
    obtain ⟨m12, em12⟩ : ∃ m : Int32, m = (if m2 = y1 then (if (g 63 (z_ix y5)) = y2 then (if y3 < (g 64 (z_ix y5)) then y4 else (if y4 = (-4 : Int32) then y5 else (if (g 64 (z_ix y5)) ≤ (g 64 (z_ix y4)) then y4 else y5))) else y4) else y4) := ⟨_, rfl⟩
    have H := H m12 em12
    have hj13 : MG z_pI 197 80 [some (.ref 27), some (.int y1), some (.int y2), some (.int y3), some (.int m12), some (.int y5)] [] g Q := by
      refine m_n 2 (pc' := 7) (L' := [some (.ref 27), some (.int y1), some (.int y2), some (.int y3), some (.int m12), some (.int (y5 + (1 : Int32)))]) (S' := []) (fun _ => rfl) ?_
      exact H
    refine m_b (c := m2 = y1) (pc' := 30) (L' := [some (.ref 27), some (.int y1), some (.int y2), some (.int y3), some (.int y4), some (.int y5)]) (S' := []) (pc2 := 80) (L2 := [some (.ref 27), some (.int y1), some (.int y2), some (.int y3), some (.int y4), some (.int y5)]) (S2 := []) rfl (fun _ => rfl) (fun hc => ?_) (fun hc => ?_)
    · have c3 := hc
      refine m_n 1 (pc' := 31) (L' := [some (.ref 27), some (.int y1), some (.int y2), some (.int y3), some (.int y4), some (.int y5)]) (S' := [.ref 27]) (fun _ => rfl) ?_
      refine m_gR (q := 63) rfl (by decide) ?_
      refine m_n 1 (pc' := 36) (L' := [some (.ref 27), some (.int y1), some (.int y2), some (.int y3), some (.int y4), some (.int y5)]) (S' := [.int y5, .ref 63]) (fun _ => rfl) ?_
      refine m_ia 16 rfl rfl (o4 c3) ?_
      refine m_n 1 (pc' := 38) (L' := [some (.ref 27), some (.int y1), some (.int y2), some (.int y3), some (.int y4), some (.int y5)]) (S' := [.int y2, .int (g 63 (z_ix y5))]) (fun _ => rfl) ?_
      refine m_b (c := (g 63 (z_ix y5)) = y2) (pc' := 41) (L' := [some (.ref 27), some (.int y1), some (.int y2), some (.int y3), some (.int y4), some (.int y5)]) (S' := []) (pc2 := 80) (L2 := [some (.ref 27), some (.int y1), some (.int y2), some (.int y3), some (.int y4), some (.int y5)]) (S2 := []) rfl (fun _ => rfl) (fun hc => ?_) (fun hc => ?_)
      · have c5 := hc
        refine m_n 1 (pc' := 42) (L' := [some (.ref 27), some (.int y1), some (.int y2), some (.int y3), some (.int y4), some (.int y5)]) (S' := [.ref 27]) (fun _ => rfl) ?_
        refine m_gR (q := 64) rfl (by decide) ?_
        refine m_n 1 (pc' := 47) (L' := [some (.ref 27), some (.int y1), some (.int y2), some (.int y3), some (.int y4), some (.int y5)]) (S' := [.int y5, .ref 64]) (fun _ => rfl) ?_
        refine m_ia 16 rfl rfl (o6 c3 c5) ?_
        refine m_n 1 (pc' := 49) (L' := [some (.ref 27), some (.int y1), some (.int y2), some (.int y3), some (.int y4), some (.int y5)]) (S' := [.int y3, .int (g 64 (z_ix y5))]) (fun _ => rfl) ?_
        refine m_b (c := y3 < (g 64 (z_ix y5))) (pc' := 80) (L' := [some (.ref 27), some (.int y1), some (.int y2), some (.int y3), some (.int y4), some (.int y5)]) (S' := []) (pc2 := 52) (L2 := [some (.ref 27), some (.int y1), some (.int y2), some (.int y3), some (.int y4), some (.int y5)]) (S2 := []) rfl (fun _ => rfl) (fun hc => ?_) (fun hc => ?_)
        · have c7 := hc
          rw [(em12.trans (by rw [if_pos c3, if_pos c5, if_pos c7]) : m12 = y4)] at hj13
          exact hj13
        · have c7 := hc
          refine m_n 2 (pc' := 56) (L' := [some (.ref 27), some (.int y1), some (.int y2), some (.int y3), some (.int y4), some (.int y5)]) (S' := [.int (-4 : Int32), .int y4]) (fun _ => rfl) ?_
          refine m_b (c := y4 = (-4 : Int32)) (pc' := 76) (L' := [some (.ref 27), some (.int y1), some (.int y2), some (.int y3), some (.int y4), some (.int y5)]) (S' := []) (pc2 := 59) (L2 := [some (.ref 27), some (.int y1), some (.int y2), some (.int y3), some (.int y4), some (.int y5)]) (S2 := []) rfl (fun _ => rfl) (fun hc => ?_) (fun hc => ?_)
          · have c8 := hc
            refine m_n 2 (pc' := 80) (L' := [some (.ref 27), some (.int y1), some (.int y2), some (.int y3), some (.int y5), some (.int y5)]) (S' := []) (fun _ => rfl) ?_
            rw [(em12.trans (by rw [if_pos c3, if_pos c5, if_neg c7, if_pos c8]) : m12 = y5)] at hj13
            exact hj13
          · have c8 := hc
            refine m_n 1 (pc' := 60) (L' := [some (.ref 27), some (.int y1), some (.int y2), some (.int y3), some (.int y4), some (.int y5)]) (S' := [.ref 27]) (fun _ => rfl) ?_
            refine m_gR (q := 64) rfl (by decide) ?_
            refine m_n 1 (pc' := 65) (L' := [some (.ref 27), some (.int y1), some (.int y2), some (.int y3), some (.int y4), some (.int y5)]) (S' := [.int y5, .ref 64]) (fun _ => rfl) ?_
            refine m_ia 16 rfl rfl (o9 c3 c5 c7 c8) ?_
            refine m_n 1 (pc' := 67) (L' := [some (.ref 27), some (.int y1), some (.int y2), some (.int y3), some (.int y4), some (.int y5)]) (S' := [.ref 27, .int (g 64 (z_ix y5))]) (fun _ => rfl) ?_
            refine m_gR (q := 64) rfl (by decide) ?_
            refine m_n 1 (pc' := 72) (L' := [some (.ref 27), some (.int y1), some (.int y2), some (.int y3), some (.int y4), some (.int y5)]) (S' := [.int y4, .ref 64, .int (g 64 (z_ix y5))]) (fun _ => rfl) ?_
            refine m_ia 16 rfl rfl (o10 c3 c5 c7 c8) ?_
            refine m_b (c := (g 64 (z_ix y5)) ≤ (g 64 (z_ix y4))) (pc' := 80) (L' := [some (.ref 27), some (.int y1), some (.int y2), some (.int y3), some (.int y4), some (.int y5)]) (S' := []) (pc2 := 76) (L2 := [some (.ref 27), some (.int y1), some (.int y2), some (.int y3), some (.int y4), some (.int y5)]) (S2 := []) rfl (fun _ => rfl) (fun hc => ?_) (fun hc => ?_)
            · have c11 := hc
              rw [(em12.trans (by rw [if_pos c3, if_pos c5, if_neg c7, if_neg c8, if_pos c11]) : m12 = y4)] at hj13
              exact hj13
            · have c11 := hc
              refine m_n 2 (pc' := 80) (L' := [some (.ref 27), some (.int y1), some (.int y2), some (.int y3), some (.int y5), some (.int y5)]) (S' := []) (fun _ => rfl) ?_
              rw [(em12.trans (by rw [if_pos c3, if_pos c5, if_neg c7, if_neg c8, if_neg c11]) : m12 = y5)] at hj13
              exact hj13
      · have c5 := hc
        rw [(em12.trans (by rw [if_pos c3, if_neg c5]) : m12 = y4)] at hj13
        exact hj13
    · have c3 := hc
      rw [(em12.trans (by rw [if_neg c3]) : m12 = y4)] at hj13
      exact hj13
theorem s_hold_some {fr gr ke : Nat → Int32} {a b c : Int32} : ∀ {n e : Nat}, s_hold fr gr ke a b c n = some e → e < n ∧ gr e = a ∧ ke e = b ∧ fr e ≤ c := by
  intro n
  induction n with
  | zero => intro e h; cases h
  | succ n ih =>
    intro e h
    unfold s_hold at h
    cases k : s_hold fr gr ke a b c n with
    | none =>
      rw [k] at h
      dsimp only at h
      by_cases z : gr n = a ∧ ke n = b ∧ fr n ≤ c
      · rw [if_pos z] at h
        injection h with h
        subst h
        exact ⟨by omega, z⟩
      · rw [if_neg z] at h; cases h
    | some d =>
      rw [k] at h
      dsimp only at h
      by_cases z : gr n = a ∧ ke n = b ∧ fr n ≤ c ∧ fr d < fr n
      · rw [if_pos z] at h
        injection h with h
        subst h
        exact ⟨by omega, z.1, z.2.1, z.2.2.1⟩
      · rw [if_neg z] at h
        injection h with h
        subst h
        have := ih k
        exact ⟨by omega, this.2⟩
theorem q_la_16 {g : zG} (o : Cn g) {x y z : Int32} {e : Nat} (h : q_la g x y z = some e) : e < 16 := n_cb (N := 16) o.2.2.2.2.1.1 o.2.2.2.2.1.2 (s_hold_some h).1
theorem c_lineAt (x1 x2 x3 : Int32) (g : zG) (o : Cn g) {Q : Int32 → zG → Prop} (q : Q (s_no (q_la g x1 x2 x3)) g) : MK z_pI 197 [.ref 27, .int x1, .int x2, .int x3] g Q := by
  refine X_197 x1 x2 x3 g ?_
  refine z_lp (N := q_n g 45) (G := fun i => MG z_pI 197 7 [some (.ref 27), some (.int x1), some (.int x2), some (.int x3), some (.int (s_no (s_hold (g 64) (fun i => s_gr (g 62 i)) (g 63) x1 x2 x3 i))), some (.int (Int32.ofNat i))] [] g Q) ?_ ?_
  · refine X_197_7 _ _ _ _ _ g ?_
    rw [if_pos (q_end o.2.2.2.2.1.1)]
    exact q
  · intro i hi w
    have hb := n_cb (N := 16) o.2.2.2.2.1.1 o.2.2.2.2.1.2 hi
    have bd := n_bd (N := 16) hb (by omega)
    refine X_197_7 _ _ _ _ _ g ?_
    rw [if_neg (n_cnt o.2.2.2.2.1.1 hi), n_ix (by omega), n_s]
    refine ⟨bd, fun m2 e2 => ?_⟩
    have e2 : m2 = s_gr (g 62 i) := e2
    refine ⟨fun _ => bd, fun _ _ => bd, fun _ _ _ _ => bd, ?_, ?_⟩
    · intro _ _ _ c
      cases k : s_hold (g 64) (fun i => s_gr (g 62 i)) (g 63) x1 x2 x3 i with
      | none => rw [k] at c; exact absurd rfl c
      | some d =>
        have := (s_hold_some k).1
        exact s_no_bd (N := 16) (by omega) (by omega)
    · intro m12 e12
      have : m12 = s_no (s_hold (g 64) (fun i => s_gr (g 62 i)) (g 63) x1 x2 x3 (i + 1)) := by
        rw [e12, e2, s_hold]
        cases k : s_hold (g 64) (fun i => s_gr (g 62 i)) (g 63) x1 x2 x3 i with
        | none =>
          dsimp only
          by_cases c1 : s_gr (g 62 i) = x1
          · by_cases c2 : g 63 i = x2
            · by_cases c3 : x3 < g 64 i
              · rw [if_pos c1, if_pos c2, if_pos c3, if_neg (fun z => absurd z.2.2 (Int32.not_le.mpr c3))]
              · rw [if_pos c1, if_pos c2, if_neg c3, if_pos (show s_no none = (-4 : Int32) from rfl), if_pos ⟨c1, c2, Int32.not_lt.mp c3⟩]; rfl
            · rw [if_pos c1, if_neg c2, if_neg (fun z => c2 z.2.1)]
          · rw [if_neg c1, if_neg (fun z => c1 z.1)]
        | some d =>
          have hd := (s_hold_some k).1
          dsimp only
          by_cases c1 : s_gr (g 62 i) = x1
          · by_cases c2 : g 63 i = x2
            · by_cases c3 : x3 < g 64 i
              · rw [if_pos c1, if_pos c2, if_pos c3, if_neg (fun z => absurd z.2.2.1 (Int32.not_le.mpr c3))]
              · rw [if_pos c1, if_pos c2, if_neg c3, if_neg (s_no_ne (by omega)), s_no_ix (by omega)]
                by_cases c4 : g 64 i ≤ g 64 d
                · rw [if_pos c4, if_neg (fun z => absurd z.2.2.2 (Int32.not_lt.mpr c4))]
                · rw [if_neg c4, if_pos ⟨c1, c2, Int32.not_lt.mp c3, Int32.not_le.mp c4⟩]; rfl
            · rw [if_pos c1, if_neg c2, if_neg (fun z => c2 z.2.1)]
          · rw [if_neg c1, if_neg (fun z => c1 z.1)]
      rw [this]
      exact w

set_option maxRecDepth 20000 in
theorem X_198 (x1 : Int32) (x2 : Int32) (x3 : Int32) (x4 : Int32) (g : zG) {Q : Int32 → zG → Prop} (H : ∀ m1 : Int32, m1 = (if x1 = (1 : Int32) then (0 : Int32) else (if x1 = (6 : Int32) then (5 : Int32) else x1)) → (Cn g) ∧ (¬ (s_no (q_la g m1 x2 x3) = (-4 : Int32)) → 0 ≤ (s_no (q_la g m1 x2 x3)).toInt ∧ (s_no (q_la g m1 x2 x3)).toInt < 16) ∧ (¬ (s_no (q_la g m1 x2 x3) = (-4 : Int32)) → ((g 62 (z_ix (s_no (q_la g m1 x2 x3)))) = x1) → 0 ≤ (s_no (q_la g m1 x2 x3)).toInt ∧ (s_no (q_la g m1 x2 x3)).toInt < 16) ∧ (∀ m7 : Int32, m7 = (if s_no (q_la g m1 x2 x3) = (-4 : Int32) then x4 else (if (g 62 (z_ix (s_no (q_la g m1 x2 x3)))) = x1 then (g 65 (z_ix (s_no (q_la g m1 x2 x3)))) else x4)) → Q m7 g)) : MK z_pI 198 [.ref 27, .int x1, .int x2, .int x3, .int x4] g Q := by
  refine m_K (L := [some (.ref 27), some (.int x1), some (.int x2), some (.int x3), some (.int x4), none]) rfl ?_
  refine m_n 2 (pc' := 2) (L' := [some (.ref 27), some (.int x1), some (.int x2), some (.int x3), some (.int x4), none]) (S' := [.int x1, .ref 27]) (fun _ => rfl) ?_
  refine m_cI 190 1 rfl rfl rfl (A := [.int x1]) rfl rfl (Or.inl rfl) (rest := [.ref 27]) rfl rfl rfl ?_
  obtain ⟨m1, em1⟩ : ∃ m : Int32, m = (if x1 = (1 : Int32) then (0 : Int32) else (if x1 = (6 : Int32) then (5 : Int32) else x1)) := ⟨_, rfl⟩
  have H := H m1 em1
  refine X_190 x1 g (z_all em1 ?_)
  refine m_n 2 (pc' := 7) (L' := [some (.ref 27), some (.int x1), some (.int x2), some (.int x3), some (.int x4), none]) (S' := [.int x3, .int x2, .int m1, .ref 27]) (fun _ => rfl) ?_
  refine m_cI 197 4 rfl rfl rfl (A := [.ref 27, .int m1, .int x2, .int x3]) rfl rfl (Or.inr ⟨rfl, _, rfl⟩) (rest := []) rfl rfl rfl ?_
  obtain ⟨o2, H⟩ := H
  refine c_lineAt m1 x2 x3 g o2 ?_
  refine m_n 3 (pc' := 16) (L' := [some (.ref 27), some (.int x1), some (.int x2), some (.int x3), some (.int x4), some (.int (s_no (q_la g m1 x2 x3)))]) (S' := [.int (-4 : Int32), .int (s_no (q_la g m1 x2 x3))]) (fun _ => rfl) ?_
  obtain ⟨o4, H⟩ := H
  obtain ⟨o6, H⟩ := H
  obtain ⟨m7, em7⟩ : ∃ m : Int32, m = (if s_no (q_la g m1 x2 x3) = (-4 : Int32) then x4 else (if (g 62 (z_ix (s_no (q_la g m1 x2 x3)))) = x1 then (g 65 (z_ix (s_no (q_la g m1 x2 x3)))) else x4)) := ⟨_, rfl⟩
  have H := H m7 em7
  have hj8 : MG z_pI 198 42 [some (.ref 27), some (.int x1), some (.int x2), some (.int x3), some (.int x4), some (.int (s_no (q_la g m1 x2 x3)))] [.int m7] g Q := by
    exact m_r rfl rfl rfl H
  refine m_b (c := s_no (q_la g m1 x2 x3) = (-4 : Int32)) (pc' := 30) (L' := [some (.ref 27), some (.int x1), some (.int x2), some (.int x3), some (.int x4), some (.int (s_no (q_la g m1 x2 x3)))]) (S' := []) (pc2 := 19) (L2 := [some (.ref 27), some (.int x1), some (.int x2), some (.int x3), some (.int x4), some (.int (s_no (q_la g m1 x2 x3)))]) (S2 := []) rfl (fun _ => rfl) (fun hc => ?_) (fun hc => ?_)
  · have c3 := hc
    refine m_n 2 (pc' := 42) (L' := [some (.ref 27), some (.int x1), some (.int x2), some (.int x3), some (.int x4), some (.int (s_no (q_la g m1 x2 x3)))]) (S' := [.int x4]) (fun _ => rfl) ?_
    rw [(em7.trans (by rw [if_pos c3]) : m7 = x4)] at hj8
    exact hj8
  · have c3 := hc
    refine m_n 1 (pc' := 20) (L' := [some (.ref 27), some (.int x1), some (.int x2), some (.int x3), some (.int x4), some (.int (s_no (q_la g m1 x2 x3)))]) (S' := [.ref 27]) (fun _ => rfl) ?_
    refine m_gR (q := 62) rfl (by decide) ?_
    refine m_n 1 (pc' := 25) (L' := [some (.ref 27), some (.int x1), some (.int x2), some (.int x3), some (.int x4), some (.int (s_no (q_la g m1 x2 x3)))]) (S' := [.int (s_no (q_la g m1 x2 x3)), .ref 62]) (fun _ => rfl) ?_
    refine m_ia 16 rfl rfl (o4 c3) ?_
    refine m_n 1 (pc' := 27) (L' := [some (.ref 27), some (.int x1), some (.int x2), some (.int x3), some (.int x4), some (.int (s_no (q_la g m1 x2 x3)))]) (S' := [.int x1, .int (g 62 (z_ix (s_no (q_la g m1 x2 x3))))]) (fun _ => rfl) ?_
    refine m_b (c := (g 62 (z_ix (s_no (q_la g m1 x2 x3)))) = x1) (pc' := 35) (L' := [some (.ref 27), some (.int x1), some (.int x2), some (.int x3), some (.int x4), some (.int (s_no (q_la g m1 x2 x3)))]) (S' := []) (pc2 := 30) (L2 := [some (.ref 27), some (.int x1), some (.int x2), some (.int x3), some (.int x4), some (.int (s_no (q_la g m1 x2 x3)))]) (S2 := []) rfl (fun _ => rfl) (fun hc => ?_) (fun hc => ?_)
    · have c5 := hc
      refine m_n 1 (pc' := 36) (L' := [some (.ref 27), some (.int x1), some (.int x2), some (.int x3), some (.int x4), some (.int (s_no (q_la g m1 x2 x3)))]) (S' := [.ref 27]) (fun _ => rfl) ?_
      refine m_gR (q := 65) rfl (by decide) ?_
      refine m_n 1 (pc' := 41) (L' := [some (.ref 27), some (.int x1), some (.int x2), some (.int x3), some (.int x4), some (.int (s_no (q_la g m1 x2 x3)))]) (S' := [.int (s_no (q_la g m1 x2 x3)), .ref 65]) (fun _ => rfl) ?_
      refine m_ia 16 rfl rfl (o6 c3 c5) ?_
      rw [(em7.trans (by rw [if_neg c3, if_pos c5]) : m7 = (g 65 (z_ix (s_no (q_la g m1 x2 x3)))))] at hj8
      exact hj8
    · have c5 := hc
      refine m_n 2 (pc' := 42) (L' := [some (.ref 27), some (.int x1), some (.int x2), some (.int x3), some (.int x4), some (.int (s_no (q_la g m1 x2 x3)))]) (S' := [.int x4]) (fun _ => rfl) ?_
      rw [(em7.trans (by rw [if_neg c3, if_neg c5]) : m7 = x4)] at hj8
      exact hj8
set_option maxRecDepth 20000 in
theorem X_199 (x1 : Int32) (g : zG) {Q : Int32 → zG → Prop} (H : (Cn g) ∧ (¬ (s_no (q_la g (5 : Int32) (0 : Int32) x1) = (-4 : Int32)) → 0 ≤ (s_no (q_la g (5 : Int32) (0 : Int32) x1)).toInt ∧ (s_no (q_la g (5 : Int32) (0 : Int32) x1)).toInt < 16) ∧ Q (z_bt (¬ (s_no (q_la g (5 : Int32) (0 : Int32) x1) = (-4 : Int32)) ∧ ((g 62 (z_ix (s_no (q_la g (5 : Int32) (0 : Int32) x1)))) = (5 : Int32)))) g) : MK z_pI 199 [.ref 27, .int x1] g Q := by
  refine m_K (L := [some (.ref 27), some (.int x1), none]) rfl ?_
  refine m_n 4 (pc' := 4) (L' := [some (.ref 27), some (.int x1), none]) (S' := [.int x1, .int (0 : Int32), .int (5 : Int32), .ref 27]) (fun _ => rfl) ?_
  refine m_cI 197 4 rfl rfl rfl (A := [.ref 27, .int (5 : Int32), .int (0 : Int32), .int x1]) rfl rfl (Or.inr ⟨rfl, _, rfl⟩) (rest := []) rfl rfl rfl ?_
  obtain ⟨o1, H⟩ := H
  refine c_lineAt (5 : Int32) (0 : Int32) x1 g o1 ?_
  refine m_n 3 (pc' := 11) (L' := [some (.ref 27), some (.int x1), some (.int (s_no (q_la g (5 : Int32) (0 : Int32) x1)))]) (S' := [.int (-4 : Int32), .int (s_no (q_la g (5 : Int32) (0 : Int32) x1))]) (fun _ => rfl) ?_
  obtain ⟨o3, H⟩ := H
  have hj5 : MG z_pI 199 29 [some (.ref 27), some (.int x1), some (.int (s_no (q_la g (5 : Int32) (0 : Int32) x1)))] [.int (z_bt (¬ (s_no (q_la g (5 : Int32) (0 : Int32) x1) = (-4 : Int32)) ∧ ((g 62 (z_ix (s_no (q_la g (5 : Int32) (0 : Int32) x1)))) = (5 : Int32))))] g Q := by
    exact m_r rfl (z_retB z_bt_01) rfl H
  refine m_b (c := s_no (q_la g (5 : Int32) (0 : Int32) x1) = (-4 : Int32)) (pc' := 28) (L' := [some (.ref 27), some (.int x1), some (.int (s_no (q_la g (5 : Int32) (0 : Int32) x1)))]) (S' := []) (pc2 := 14) (L2 := [some (.ref 27), some (.int x1), some (.int (s_no (q_la g (5 : Int32) (0 : Int32) x1)))]) (S2 := []) rfl (fun _ => rfl) (fun hc => ?_) (fun hc => ?_)
  · have c2 := hc
    refine m_n 1 (pc' := 29) (L' := [some (.ref 27), some (.int x1), some (.int (s_no (q_la g (5 : Int32) (0 : Int32) x1)))]) (S' := [.int (0 : Int32)]) (fun _ => rfl) ?_
    rw [show z_bt (¬ (s_no (q_la g (5 : Int32) (0 : Int32) x1) = (-4 : Int32)) ∧ ((g 62 (z_ix (s_no (q_la g (5 : Int32) (0 : Int32) x1)))) = (5 : Int32))) = 0 from z_bt_0.mpr ((fun q => q.1 c2))] at hj5
    exact hj5
  · have c2 := hc
    refine m_n 1 (pc' := 15) (L' := [some (.ref 27), some (.int x1), some (.int (s_no (q_la g (5 : Int32) (0 : Int32) x1)))]) (S' := [.ref 27]) (fun _ => rfl) ?_
    refine m_gR (q := 62) rfl (by decide) ?_
    refine m_n 1 (pc' := 19) (L' := [some (.ref 27), some (.int x1), some (.int (s_no (q_la g (5 : Int32) (0 : Int32) x1)))]) (S' := [.int (s_no (q_la g (5 : Int32) (0 : Int32) x1)), .ref 62]) (fun _ => rfl) ?_
    refine m_ia 16 rfl rfl (o3 c2) ?_
    refine m_n 1 (pc' := 21) (L' := [some (.ref 27), some (.int x1), some (.int (s_no (q_la g (5 : Int32) (0 : Int32) x1)))]) (S' := [.int (5 : Int32), .int (g 62 (z_ix (s_no (q_la g (5 : Int32) (0 : Int32) x1))))]) (fun _ => rfl) ?_
    refine m_b (c := (g 62 (z_ix (s_no (q_la g (5 : Int32) (0 : Int32) x1)))) = (5 : Int32)) (pc' := 24) (L' := [some (.ref 27), some (.int x1), some (.int (s_no (q_la g (5 : Int32) (0 : Int32) x1)))]) (S' := []) (pc2 := 28) (L2 := [some (.ref 27), some (.int x1), some (.int (s_no (q_la g (5 : Int32) (0 : Int32) x1)))]) (S2 := []) rfl (fun _ => rfl) (fun hc => ?_) (fun hc => ?_)
    · have c4 := hc
      refine m_n 2 (pc' := 29) (L' := [some (.ref 27), some (.int x1), some (.int (s_no (q_la g (5 : Int32) (0 : Int32) x1)))]) (S' := [.int (1 : Int32)]) (fun _ => rfl) ?_
      rw [show z_bt (¬ (s_no (q_la g (5 : Int32) (0 : Int32) x1) = (-4 : Int32)) ∧ ((g 62 (z_ix (s_no (q_la g (5 : Int32) (0 : Int32) x1)))) = (5 : Int32))) = 1 from z_bt_1.mpr (⟨c2, c4⟩)] at hj5
      exact hj5
    · have c4 := hc
      refine m_n 1 (pc' := 29) (L' := [some (.ref 27), some (.int x1), some (.int (s_no (q_la g (5 : Int32) (0 : Int32) x1)))]) (S' := [.int (0 : Int32)]) (fun _ => rfl) ?_
      rw [show z_bt (¬ (s_no (q_la g (5 : Int32) (0 : Int32) x1) = (-4 : Int32)) ∧ ((g 62 (z_ix (s_no (q_la g (5 : Int32) (0 : Int32) x1)))) = (5 : Int32))) = 0 from z_bt_0.mpr ((fun q => c4 q.2))] at hj5
      exact hj5
theorem c_holds (x1 x2 x3 x4 : Int32) (g : zG) (o : Cn g) {Q : Int32 → zG → Prop} (q : Q (q_hd g x1 x2 x3 x4) g) : MK z_pI 198 [.ref 27, .int x1, .int x2, .int x3, .int x4] g Q := by
  unfold q_hd at q
  refine X_198 x1 x2 x3 x4 g ?_
  intro m1 e1
  have e1 : m1 = s_gr x1 := e1
  subst e1
  refine ⟨o, ?_, ?_, ?_⟩
  · intro c
    cases k : q_la g (s_gr x1) x2 x3 with
    | none => rw [k] at c; exact absurd rfl c
    | some d => exact s_no_bd (N := 16) (q_la_16 o k) (by omega)
  · intro c _
    cases k : q_la g (s_gr x1) x2 x3 with
    | none => rw [k] at c; exact absurd rfl c
    | some d => exact s_no_bd (N := 16) (q_la_16 o k) (by omega)
  · intro m7 e7
    cases k : q_la g (s_gr x1) x2 x3 with
    | none =>
      rw [k] at q
      rw [k, if_pos (show s_no none = (-4 : Int32) from rfl)] at e7
      rw [e7]
      exact q
    | some d =>
      have hd := q_la_16 o k
      rw [k] at q
      dsimp only at q
      rw [k, if_neg (s_no_ne (by omega)), s_no_ix (by omega)] at e7
      rw [e7]
      exact q
theorem q_wi_01 {g : zG} {x : Int32} : q_wi g x = 0 ∨ q_wi g x = 1 := by
  unfold q_wi
  cases q_la g 5 0 x with
  | none => exact Or.inl rfl
  | some k =>
    dsimp only
    by_cases c : g 62 k = 5
    · rw [if_pos c]; exact Or.inr rfl
    · rw [if_neg c]; exact Or.inl rfl
theorem c_isWide (x1 : Int32) (g : zG) (o : Cn g) {Q : Int32 → zG → Prop} (q : Q (q_wi g x1) g) : MK z_pI 199 [.ref 27, .int x1] g Q := by
  refine X_199 x1 g ⟨o, ?_, ?_⟩
  · intro c
    cases k : q_la g 5 0 x1 with
    | none => rw [k] at c; exact absurd rfl c
    | some d => exact s_no_bd (N := 16) (q_la_16 o k) (by omega)
  · unfold q_wi at q
    cases k : q_la g 5 0 x1 with
    | none =>
      rw [k] at q
      have : z_bt (¬ s_no none = (-4 : Int32) ∧ g 62 (z_ix (s_no none)) = 5) = 0 := z_bt_0.mpr (fun c => c.1 rfl)
      rw [this]
      exact q
    | some d =>
      have hd := q_la_16 o k
      rw [k] at q
      dsimp only at q
      by_cases c : g 62 d = 5
      · rw [if_pos c] at q
        have : z_bt (¬ s_no (some d) = (-4 : Int32) ∧ g 62 (z_ix (s_no (some d))) = 5) = 1 := z_bt_1.mpr ⟨s_no_ne (by omega), by rw [s_no_ix (by omega)]; exact c⟩
        rw [this]
        exact q
      · rw [if_neg c] at q
        have : z_bt (¬ s_no (some d) = (-4 : Int32) ∧ g 62 (z_ix (s_no (some d))) = 5) = 0 := z_bt_0.mpr (fun w => c (by rw [← s_no_ix (e := d) (by omega)]; exact w.2))
        rw [this]
        exact q

