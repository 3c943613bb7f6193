section CQ
variable {c : Nat} {g : zG} {h : zH}
theorem M_217 {x1 x2 x3 x4 : Int32} {Q : Int32 → zG → Prop} (q : Q (if ((0 : Int32) ≤ x1 ∧ x1 ≤ ((g 27 1) - (1 : Int32))) ∧ (((1 : Int32) ≤ x2 ∧ x2 ≤ (24 : Int32)) ∧ (((0 : Int32) ≤ x3 ∧ x3 ≤ (9999 : Int32)) ∧ ((0 : Int32) ≤ x4 ∧ x4 ≤ (99999 : Int32)))) then 1 else 0) g) : MK z_pI 217 [.ref 27, .int x1, .int x2, .int x3, .int x4] g Q := by
  refine X_217 _ _ _ _ g ?_
  by_cases p1 : (0 : Int32) ≤ x1 ∧ x1 ≤ ((g 27 1) - (1 : Int32))
  · rw [if_pos p1]
    by_cases p2 : (1 : Int32) ≤ x2 ∧ x2 ≤ (24 : Int32)
    · rw [if_pos p2]
      by_cases p3 : (0 : Int32) ≤ x3 ∧ x3 ≤ (9999 : Int32)
      · rw [if_pos p3]
        by_cases p4 : (0 : Int32) ≤ x4 ∧ x4 ≤ (99999 : Int32)
        · rw [if_pos ⟨p1, p2, p3, p4⟩] at q
          rw [show z_bt ((0 : Int32) ≤ x4 ∧ x4 ≤ (99999 : Int32)) = 1 from z_bt_1.mpr p4]
          exact q
        · rw [if_neg (fun z => p4 z.2.2.2)] at q
          rw [show z_bt ((0 : Int32) ≤ x4 ∧ x4 ≤ (99999 : Int32)) = 0 from z_bt_0.mpr p4]
          exact q
      · rw [if_neg (fun z => p3 z.2.2.1)] at q
        rw [if_neg p3]
        exact q
    · rw [if_neg (fun z => p2 z.2.1)] at q
      rw [if_neg p2]
      exact q
  · rw [if_neg (fun z => p1 z.1)] at q
    rw [if_neg p1]
    exact q
theorem M_217Y {x1 x2 x3 x4 : Int32} {Q : Int32 → zG → Prop} (cd : ((0 : Int32) ≤ x1 ∧ x1 ≤ ((g 27 1) - (1 : Int32))) ∧ (((1 : Int32) ≤ x2 ∧ x2 ≤ (24 : Int32)) ∧ (((0 : Int32) ≤ x3 ∧ x3 ≤ (9999 : Int32)) ∧ ((0 : Int32) ≤ x4 ∧ x4 ≤ (99999 : Int32))))) (q : Q 1 g) : MK z_pI 217 [.ref 27, .int x1, .int x2, .int x3, .int x4] g Q := M_217 (by rw [if_pos cd]; exact q)
theorem M_217N {x1 x2 x3 x4 : Int32} {Q : Int32 → zG → Prop} (cd : ¬ (((0 : Int32) ≤ x1 ∧ x1 ≤ ((g 27 1) - (1 : Int32))) ∧ (((1 : Int32) ≤ x2 ∧ x2 ≤ (24 : Int32)) ∧ (((0 : Int32) ≤ x3 ∧ x3 ≤ (9999 : Int32)) ∧ ((0 : Int32) ≤ x4 ∧ x4 ≤ (99999 : Int32)))))) (q : Q 0 g) : MK z_pI 217 [.ref 27, .int x1, .int x2, .int x3, .int x4] g Q := M_217 (by rw [if_neg cd]; exact q)
theorem SE.r26 {r : Nat → Int32} : SE g (z_row g 26 r) := by
  intro k i _ hs
  by_cases q : k = 26
  · subst q; cases hs
  · exact congrFun (z_row_ne q) i
theorem T_brings (X : AH c g h) (x1 x2 x3 x4 x5 : Int32) : ST z_pL 125 [.ref 0, .int x1, .int x2, .int x3, .int x4, .int x5] 218 [.ref 27, .int x1, .int x2, .int x3, .int x4, .int x5] c g h := by
  have I := X.i
  have R := X.r
  obtain ⟨B, hB⟩ := R.bs
  rcases (Decidable.em ((0 : Int32) ≤ x1 ∧ x1 ≤ ((g 27 1) - (1 : Int32)))).symm with c1 | c1
  · exact ST.ro X (-10000000000) (X_218 _ _ _ _ _ g (M_217N (fun z => c1 z.1) (by rw [if_pos rfl]; exact ⟨rfl, SE.refl g⟩))) (kv_of (X_125 _ _ _ _ _ h R.w (xa_N (K_mineN R c1) ⟨rfl, rfl⟩)))
  obtain ⟨m, hm, em⟩ := n_rng I.cnt.2.1.1 c1
  have hm : m < q_n g 1 := hm
  subst em
  obtain ⟨a, ha⟩ := R.mine hm
  have ta := R.w.mt R.f ha
  have kS := K_mineS R I hm ha
  rcases (Decidable.em (((1 : Int32) ≤ x3 ∧ x3 ≤ (24 : Int32)) ∧ (((0 : Int32) ≤ x4 ∧ x4 ≤ (9999 : Int32)) ∧ ((0 : Int32) ≤ x5 ∧ x5 ≤ (99999 : Int32))))).symm with c2 | c2
  · refine ST.ro X (-10000000000) (X_218 _ _ _ _ _ g (M_217N (fun z => c2 z.2) (by rw [if_pos rfl]; exact ⟨rfl, SE.refl g⟩))) (kv_of (X_125 _ _ _ _ _ h R.w (xa_S kS ta ?_)))
    by_cases c3 : (0 : Int32) ≤ x2 ∧ x2 ≤ (2 : Int32)
    · rw [if_pos c3, if_neg c2]; exact ⟨rfl, rfl⟩
    · rw [if_neg c3]; exact ⟨rfl, rfl⟩
  rcases (Decidable.em ((0 : Int32) ≤ x2 ∧ x2 ≤ (2 : Int32))).symm with c3 | c3
  · refine ST.ro X (-10000000000) (X_218 _ _ _ _ _ g (M_217Y ⟨c1, c2⟩ (by rw [if_neg (by decide), if_neg c3]; exact ⟨rfl, SE.refl g⟩))) (kv_of (X_125 _ _ _ _ _ h R.w (xa_S kS ta ?_)))
    rw [if_neg c3]; exact ⟨rfl, rfl⟩
  have hc : x2 = 0 ∨ x2 = 1 ∨ x2 = 2 := by
    obtain ⟨j, hj, ej⟩ := n_lit 2 (by omega) c3
    have d : j = 0 ∨ j = 1 ∨ j = 2 := by omega
    rcases d with r | r | r <;> subst r
    · exact Or.inl ej
    · exact Or.inr (Or.inl ej)
    · exact Or.inr (Or.inr ej)
  have t1 : (1 : Int32).toInt = 1 := by decide
  have t0 : (0 : Int32).toInt = 0 := by decide
  have z3 : (0 : Int32) ≤ x3 := by
    have w := n_le.mp c2.1.1
    exact n_le.mpr (by omega)
  obtain ⟨M, hM, eM⟩ := n_lit (x := x3) 24 (by omega) ⟨z3, c2.1.2⟩
  subst eM
  have hp := n_bnd (a := 0) (b := 99999) (by omega) (by omega) c2.2.2
  refine ⟨if q_wk g (Int32.ofNat m) = none then -10000000002 else (if x2 = 1 ∧ g 42 m = 0 then -10000000002 else q_gn g m ((q_wk g (Int32.ofNat m)).getD 0) M x4 x2 x5), g, ?_, I.t_c (Nat.le_succ c), ?_⟩
  · refine X_218 _ _ _ _ _ g (M_217Y ⟨c1, c2⟩ ?_)
    have im : z_ix (Int32.ofNat m) = m := n_ix (by have := I.m6 hm; omega)
    have bm := n_bd (N := 6) (I.m6 hm) (by omega)
    rw [if_neg (by decide), if_pos c3, im]
    refine ⟨I.cn, ?_⟩
    cases k : q_wk g (Int32.ofNat m) with
    | none =>
      rw [if_pos (show s_no none = (-4 : Int32) from rfl), if_pos rfl]
      exact ⟨rfl, SE.refl g⟩
    | some e =>
      obtain ⟨he, e46, _, _⟩ := q_wk_some k
      rw [if_neg (s_no_ne (by have := I.e12 he; omega)), if_neg (show ¬ (some e : Option Nat) = none from fun z => nomatch z)]
      by_cases p : x2 = 1
      · rw [if_pos p]
        refine ⟨bm, ?_⟩
        by_cases z : g 42 m = 0
        · rw [if_pos z, if_pos (show x2 = 1 ∧ g 42 m = 0 from ⟨p, z⟩)]
          exact ⟨rfl, SE.refl g⟩
        · rw [if_neg z, if_neg (show ¬ (x2 = 1 ∧ g 42 m = 0) from fun w => z w.2)]
          refine M_216 I hm k hM hc (fun _ => z) ⟨?_, SE.r26⟩
          exact I.bre hm he hM hc (fun _ => z) hp
      · rw [if_neg p, if_neg (show ¬ (x2 = 1 ∧ g 42 m = 0) from fun w => p w.1)]
        refine M_216 I hm k hM hc (fun w => absurd w p) ⟨?_, SE.r26⟩
        exact I.bre hm he hM hc (fun w => absurd w p) hp
  · refine X_125 _ _ _ _ _ h R.w (xa_S kS ta ?_)
    rw [if_pos c3, if_pos c2, R.n0]
    refine o_S hB (K_open R hm ha hB (fun h' R' C rO kq rm => ?_))
    have ha' : z_rv h' 1 m = some a := by rw [rO 1 (by omega)]; exact ha
    have hB' : z_rv h' 0 9 = some B := by rw [rO 0 (by omega)]; exact hB
    have ta' := R'.w.mt R'.f ha'
    refine X_125_56 _ _ _ _ _ a _ h' R'.w ta' ?_
    cases k : q_wk g (Int32.ofNat m) with
    | none =>
      rw [k] at C
      rw [if_pos (show (if (none : Option Nat).bind (z_rv h 2) = none then (0 : Int32) else 1) = 0 from if_pos rfl), if_pos rfl]
      exact ⟨rfl, R', kq, rm⟩
    | some e =>
      obtain ⟨he, e46, _, _⟩ := q_wk_some k
      obtain ⟨b, hb⟩ := R.engine he
      have hb' : z_rv h' 2 e = some b := by rw [rO 2 (by omega)]; exact hb
      have eb : (some e).bind (z_rv h 2) = some b := hb
      rw [k, eb] at C
      rw [eb, if_neg (show ¬ (if (some b : Option Nat) = none then (0 : Int32) else 1) = 0 by rw [if_neg (fun z => nomatch z)]; decide), if_neg (show ¬ (some e : Option Nat) = none from fun z => nomatch z)]
      have k31 := K_31 R' I hm ha' hB' he e46 hb' C hM x2 x5
      by_cases p : x2 = 1
      · rw [if_pos p]
        rcases R'.mtrial hm ha' with ⟨w, z⟩ | ⟨t, w, z, _⟩
        · rw [if_pos (show x2 = 1 ∧ g 42 m = 0 from ⟨p, z⟩)]
          exact o_N w ⟨rfl, R', kq, rm⟩
        · rw [if_neg (show ¬ (x2 = 1 ∧ g 42 m = 0) from fun y => z y.2)]
          exact o_S w ⟨_, k31, rfl, R', kq, rm⟩
      · rw [if_neg p, if_neg (show ¬ (x2 = 1 ∧ g 42 m = 0) from fun w => p w.1)]
        exact ⟨_, k31, rfl, R', kq, rm⟩
end CQ
