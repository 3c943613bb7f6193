section CR
variable {c : Nat} {lm : Nat → Nat} {g : zG}
theorem wk26 {G : zG} (hG : ∀ k, ¬ k = 26 → G k = g k) {x : Int32} : q_wk G x = q_wk g x := by
  unfold q_wk q_lt q_n
  rw [hG 46 (by decide), hG 27 (by decide), hG 55 (by decide)]
theorem hd26 {G : zG} (hG : ∀ k, ¬ k = 26 → G k = g k) {a b d o : Int32} : q_hd G a b d o = q_hd g a b d o := by
  unfold q_hd q_la q_n
  rw [hG 64 (by decide), hG 62 (by decide), hG 63 (by decide), hG 27 (by decide), hG 65 (by decide)]
theorem row26 {G : zG} (hG : ∀ k, ¬ k = 26 → G k = g k) {r : Nat → Int32} : z_row G 26 r = z_row g 26 r := by
  funext x y
  unfold z_row
  by_cases q : x = 26
  · rw [if_pos q, if_pos q]
  · rw [if_neg q, if_neg q, hG x q]
theorem M_215G (I : INV c lm g) {G : zG} (hG : ∀ k, ¬ k = 26 → G k = g k) {m e M : Nat} {ld ch pr : Int32} {Q : Int64 → zG → Prop} (hm : m < q_n g 1) (k : q_wk g (Int32.ofNat m) = some e) (hM : M ≤ 24) (hc : ch = 0 ∨ ch = 1 ∨ ch = 2) (h1 : ch = 1 → ¬ g 42 m = 0) (q : Q (q_rf g m e M ld ch pr) (z_row g 26 (z_enc (q_rp g m e M ch)))) : MK z_pL 215 [.ref 27, .int (Int32.ofNat m), .int ch, .int (Int32.ofNat M), .int ld, .int pr] G Q := by
  obtain ⟨he, e46, _, _⟩ := q_wk_some k
  have hm6 := I.m6 hm
  have he12 := I.e12 he
  have bm := n_bd (N := 6) hm6 (by omega)
  have bE := s_no_bd (e := e) (N := 12) he12 (by omega)
  have im : z_ix (Int32.ofNat m) = m := n_ix (by omega)
  have ie : z_ix (s_no (some e)) = e := s_no_ix (by omega)
  have h13 : q_hd g 1 (Int32.ofNat m) (g 27 0) (-4) = (-4 : Int32) → ¬ q_hd g 0 (Int32.ofNat m) (g 27 0) (-4) = (-4 : Int32) → 1 ≤ (q_hd g 0 (Int32.ofNat m) (g 27 0) (-4)).toInt := fun _ z => (q_hd_share I z).1
  have cn : Cn G := by unfold Cn; rw [hG 27 (by decide)]; exact I.cn
  refine X_215 _ _ _ _ _ G ?_
  rw [wk26 hG, hd26 hG, hd26 hG, hd26 hG, hG 44 (by decide), hG 42 (by decide), hG 43 (by decide), hG 47 (by decide), hG 49 (by decide), hG 52 (by decide), hG 27 (by decide), row26 hG, k, im, ie]
  refine ⟨cn, bE, bm, fun _ => bm, fun _ => bm, fun _ => bm, fun z w => ?_, fun m12 e12 => ⟨fun _ => bE, fun m17 e17 => ⟨fun _ => bE, fun m21 e21 => ⟨cn, cn, cn, fun m27 e27 => ?_⟩⟩⟩⟩
  · apply z
    apply Int32.toInt_inj.mp
    have := congrArg Int64.toInt w
    rw [l_i] at this
    rw [this]
    decide
  have e12 : m12 = q_dr g m := e12
  rcases hc with p | p | p
  · subst p
    rw [if_neg (by decide)] at e17 e21 e27
    rw [e17, e21, e27]
    refine M_loopA I hm he hM (fun n _ => Or.inl (by decide)) (I.d49 he) (I.a60 he) h13 ?_
    have eq1 : q_rf g m e M ld 0 pr = 0 + f_n g m e (g 49 e) (g 52 e) (Int32.ofNat M) ld M := by
      unfold q_rf
      rw [if_neg (by decide), if_neg (fun z => absurd z.1 (by decide))]
    have cg : (((0 : Int32) = 0 ∧ ¬ z_bt ((g 47 e = (1 : Int32)) ∧ (¬ ((0 : Int32) = (1 : Int32)))) = 0 ∧ ¬ (g 42 m ≤ 0)) ↔ ((0 : Int32) = 0 ∧ g 47 e = 1 ∧ ¬ (g 42 m ≤ 0))) := by
      rw [z_bt_0, Decidable.not_not]
      exact ⟨fun z => ⟨rfl, z.2.1.1, z.2.2⟩, fun z => ⟨rfl, ⟨z.2.1, by decide⟩, z.2.2⟩⟩
    rw [ite_cg cg, ← eq1]
    exact q
  · subst p
    have du := I.du hm (h1 rfl)
    rw [if_pos rfl] at e17 e21 e27
    rw [e12, ← du.1] at e17
    rw [e17, e21, e27]
    refine M_loopA I hm he hM (fun n _ => Or.inl (by decide)) du.2 (by decide) h13 ?_
    have eq1 : q_rf g m e M ld 1 pr = (-pr).toInt64 + f_n g m e (q_du g m) 0 (Int32.ofNat M) ld M := if_pos rfl
    have eq2 : q_rp g m e M 1 = 0 := if_neg (fun z => absurd z.1 (by decide))
    rw [if_neg (fun z => absurd z.1 (by decide)), ← eq1]
    rw [eq2] at q
    exact q
  · subst p
    rw [if_neg (by decide)] at e17 e21 e27
    rw [e17, e21, e27]
    have eq2 : q_rp g m e M 2 = 0 := if_neg (fun z => absurd z.1 (by decide))
    rw [eq2] at q
    by_cases p1 : g 47 e = 1
    · have eq1 : q_rf g m e M ld 2 pr = 0 + f_n g m e (g 49 e) (g 52 e) (q_hd g 2 (Int32.ofNat m) (g 27 0) 3) ld M := by
        unfold q_rf
        rw [if_neg (by decide), if_pos ⟨rfl, p1⟩]
      rw [eq1] at q
      exact M_loopB I hm he hM rfl (fun z => z_bt_0.mp z ⟨p1, by decide⟩) (I.d49 he) (I.a60 he) h13 q
    · have eq1 : q_rf g m e M ld 2 pr = 0 + f_n g m e (g 49 e) (g 52 e) (Int32.ofNat M) ld M := by
        unfold q_rf
        rw [if_neg (by decide), if_neg (fun z => p1 z.2)]
      rw [eq1] at q
      refine M_loopA I hm he hM (fun n _ => Or.inr (Or.inl (z_bt_0.mpr (fun z => p1 z.1)))) (I.d49 he) (I.a60 he) h13 ?_
      rw [if_neg (fun z => absurd z.1 (by decide))]
      exact q
theorem M_216G (I : INV c lm g) {G : zG} (hG : ∀ k, ¬ k = 26 → G k = g k) {m e M : Nat} {ld ch pr : Int32} {Q : Int64 → zG → Prop} (hm : m < q_n g 1) (k : q_wk g (Int32.ofNat m) = some e) (hM : M ≤ 24) (hc : ch = 0 ∨ ch = 1 ∨ ch = 2) (h1 : ch = 1 → ¬ g 42 m = 0) (q : Q (q_br g m e M ld ch pr) (z_row g 26 (z_enc (q_rp g m e M ch)))) : MK z_pL 216 [.ref 27, .int (Int32.ofNat m), .int ch, .int (Int32.ofNat M), .int ld, .int pr] G Q := by
  refine X_216 _ _ _ _ _ G (M_215G I hG hm k hM hc h1 ?_)
  unfold q_br at q
  by_cases p : ch = 0
  · rw [if_pos p] at q
    rw [if_pos p, z_row_at, z_dec_enc]
    exact q
  · rw [if_neg p] at q
    rw [if_neg p]
    exact q
end CR
