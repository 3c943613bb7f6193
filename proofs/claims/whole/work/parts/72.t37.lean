theorem ite_cg {p q : Prop} [Decidable p] [Decidable q] {a b : Int64} (h : p ↔ q) : (if p then a else b) = if q then a else b := by
  by_cases z : q
  · rw [if_pos z, if_pos (h.mpr z)]
  · rw [if_neg z, if_neg (fun w => z (h.mp w))]
section CN
variable {c : Nat} {lm : Nat → Nat} {g : zG}
def q_rf (g : zG) (m e M : Nat) (ld ch pr : Int32) : Int64 := if ch = 1 then (-pr).toInt64 + f_n g m e (q_du g m) 0 (Int32.ofNat M) ld M else (if ch = 2 ∧ g 47 e = 1 then 0 + f_n g m e (g 49 e) (g 52 e) (q_hd g 2 (Int32.ofNat m) (g 27 0) 3) ld M else 0 + f_n g m e (g 49 e) (g 52 e) (Int32.ofNat M) ld M)
def q_rp (g : zG) (m e M : Nat) (ch : Int32) : Int64 := if ch = 0 ∧ g 47 e = 1 ∧ ¬ (g 42 m ≤ 0) then py_n g m e (g 49 e) (g 52 e) (q_hd g 1 (Int32.ofNat m) (g 27 0) (-4)) (q_hd g 0 (Int32.ofNat m) (g 27 0) (-4)) M else 0
theorem M_215 (I : INV c lm g) {m e M : Nat} {ld ch pr : Int32} {Q : Int64 → zG → Prop} (hm : m < q_n g 1) (k : q_wk g (Int32.ofNat m) = some e) (hM : M ≤ 24) (hc : ch = 0 ∨ ch = 1 ∨ ch = 2) (h1 : ch = 1 → ¬ g 42 m = 0) (q : Q (q_rf g m e M ld ch pr) (z_row g 26 (z_enc (q_rp g m e M ch)))) : MK z_pL 215 [.ref 27, .int (Int32.ofNat m), .int ch, .int (Int32.ofNat M), .int ld, .int pr] g Q := by
  obtain ⟨he, e46, _, _⟩ := q_wk_some k
  have hm6 := I.m6 hm
  have he12 := I.e12 he
  have bm := n_bd (N := 6) hm6 (by omega)
  have bE := s_no_bd (e := e) (N := 12) he12 (by omega)
  have im : z_ix (Int32.ofNat m) = m := n_ix (by omega)
  have ie : z_ix (s_no (some e)) = e := s_no_ix (by omega)
  have h13 : q_hd g 1 (Int32.ofNat m) (g 27 0) (-4) = (-4 : Int32) → ¬ q_hd g 0 (Int32.ofNat m) (g 27 0) (-4) = (-4 : Int32) → 1 ≤ (q_hd g 0 (Int32.ofNat m) (g 27 0) (-4)).toInt := fun _ z => (q_hd_share I z).1
  refine X_215 _ _ _ _ _ g ?_
  rw [k, im, ie]
  refine ⟨I.cn, bE, bm, fun _ => bm, fun _ => bm, fun _ => bm, fun z w => ?_, fun m12 e12 => ⟨fun _ => bE, fun m17 e17 => ⟨fun _ => bE, fun m21 e21 => ⟨I.cn, I.cn, I.cn, fun m27 e27 => ?_⟩⟩⟩⟩
  · apply z
    apply Int32.toInt_inj.mp
    have := congrArg Int64.toInt w
    rw [l_i] at this
    rw [this]
    decide
  have e12 : m12 = q_dr g m := e12
  rcases hc with p | p | p
  · subst p
    rw [if_neg (by decide)] at e17 e21 e27
    rw [e17, e21, e27]
    refine M_loopA I hm he hM (fun n _ => Or.inl (by decide)) (I.d49 he) (I.a60 he) h13 ?_
    have eq1 : q_rf g m e M ld 0 pr = 0 + f_n g m e (g 49 e) (g 52 e) (Int32.ofNat M) ld M := by
      unfold q_rf
      rw [if_neg (by decide), if_neg (fun z => absurd z.1 (by decide))]
    have cg : (((0 : Int32) = 0 ∧ ¬ z_bt ((g 47 e = (1 : Int32)) ∧ (¬ ((0 : Int32) = (1 : Int32)))) = 0 ∧ ¬ (g 42 m ≤ 0)) ↔ ((0 : Int32) = 0 ∧ g 47 e = 1 ∧ ¬ (g 42 m ≤ 0))) := by
      rw [z_bt_0, Decidable.not_not]
      exact ⟨fun z => ⟨rfl, z.2.1.1, z.2.2⟩, fun z => ⟨rfl, ⟨z.2.1, by decide⟩, z.2.2⟩⟩
    rw [ite_cg cg, ← eq1]
    exact q
  · subst p
    have du := I.du hm (h1 rfl)
    rw [if_pos rfl] at e17 e21 e27
    rw [e12, ← du.1] at e17
    rw [e17, e21, e27]
    refine M_loopA I hm he hM (fun n _ => Or.inl (by decide)) du.2 (by decide) h13 ?_
    have eq1 : q_rf g m e M ld 1 pr = (-pr).toInt64 + f_n g m e (q_du g m) 0 (Int32.ofNat M) ld M := if_pos rfl
    have eq2 : q_rp g m e M 1 = 0 := if_neg (fun z => absurd z.1 (by decide))
    rw [if_neg (fun z => absurd z.1 (by decide)), ← eq1]
    rw [eq2] at q
    exact q
  · subst p
    rw [if_neg (by decide)] at e17 e21 e27
    rw [e17, e21, e27]
    have eq2 : q_rp g m e M 2 = 0 := if_neg (fun z => absurd z.1 (by decide))
    rw [eq2] at q
    by_cases p1 : g 47 e = 1
    · have eq1 : q_rf g m e M ld 2 pr = 0 + f_n g m e (g 49 e) (g 52 e) (q_hd g 2 (Int32.ofNat m) (g 27 0) 3) ld M := by
        unfold q_rf
        rw [if_neg (by decide), if_pos ⟨rfl, p1⟩]
      rw [eq1] at q
      exact M_loopB I hm he hM rfl (fun z => z_bt_0.mp z ⟨p1, by decide⟩) (I.d49 he) (I.a60 he) h13 q
    · have eq1 : q_rf g m e M ld 2 pr = 0 + f_n g m e (g 49 e) (g 52 e) (Int32.ofNat M) ld M := by
        unfold q_rf
        rw [if_neg (by decide), if_neg (fun z => p1 z.2)]
      rw [eq1] at q
      refine M_loopA I hm he hM (fun n _ => Or.inr (Or.inl (z_bt_0.mpr (fun z => p1 z.1)))) (I.d49 he) (I.a60 he) h13 ?_
      rw [if_neg (fun z => absurd z.1 (by decide))]
      exact q
end CN
