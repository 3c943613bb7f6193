section CS
variable {c : Nat} {g : zG} {h : zH}
/-- the better of two choices -/
def q_b1 (g : zG) (m e M : Nat) (ld pr : Int32) : Int32 := if g 42 m ≤ 0 then 0 else (if q_gn g m e M ld 1 pr ≤ q_gn g m e M ld 0 pr then 0 else 1)
def q_b2 (g : zG) (m e M : Nat) (ld pr : Int32) : Int32 := if q_gn g m e M ld 2 pr ≤ q_gn g m e M ld (q_b1 g m e M ld pr) pr then q_b1 g m e M ld pr else 2
theorem b1_c {m e M : Nat} {ld pr : Int32} : q_b1 g m e M ld pr = 0 ∨ (q_b1 g m e M ld pr = 1 ∧ ¬ g 42 m ≤ 0) := by
  unfold q_b1
  by_cases p : g 42 m ≤ 0
  · rw [if_pos p]; exact Or.inl rfl
  · rw [if_neg p]
    by_cases q : q_gn g m e M ld 1 pr ≤ q_gn g m e M ld 0 pr
    · rw [if_pos q]; exact Or.inl rfl
    · rw [if_neg q]; exact Or.inr ⟨rfl, p⟩
theorem T_best (X : AH c g h) (x1 x2 x3 x4 : Int32) : ST z_pI 126 [.ref 0, .int x1, .int x2, .int x3, .int x4] 219 [.ref 27, .int x1, .int x2, .int x3, .int x4] c g h := by
  have I := X.i
  have R := X.r
  obtain ⟨B, hB⟩ := R.bs
  rcases (Decidable.em ((0 : Int32) ≤ x1 ∧ x1 ≤ ((g 27 1) - (1 : Int32)))).symm with c1 | c1
  · exact ST.ro X (-1) (X_219 _ _ _ _ g (M_217N (fun z => c1 z.1) (by rw [if_pos rfl]; exact ⟨rfl, SE.refl g⟩))) (kv_of (X_126 _ _ _ _ h R.w (xa_N (K_mineN R c1) ⟨rfl, rfl⟩)))
  obtain ⟨m, hm, em⟩ := n_rng I.cnt.2.1.1 c1
  have hm : m < q_n g 1 := hm
  subst em
  obtain ⟨a, ha⟩ := R.mine hm
  have ta := R.w.mt R.f ha
  have kS := K_mineS R I hm ha
  rcases (Decidable.em (((1 : Int32) ≤ x2 ∧ x2 ≤ (24 : Int32)) ∧ (((0 : Int32) ≤ x3 ∧ x3 ≤ (9999 : Int32)) ∧ ((0 : Int32) ≤ x4 ∧ x4 ≤ (99999 : Int32))))).symm with c2 | c2
  · refine ST.ro X (-1) (X_219 _ _ _ _ g (M_217N (fun z => c2 z.2) (by rw [if_pos rfl]; exact ⟨rfl, SE.refl g⟩))) (kv_of (X_126 _ _ _ _ h R.w (xa_S kS ta ?_)))
    rw [if_neg c2]; exact ⟨rfl, rfl⟩
  have t1 : (1 : Int32).toInt = 1 := by decide
  have t0 : (0 : Int32).toInt = 0 := by decide
  have z3 : (0 : Int32) ≤ x2 := by
    have w := n_le.mp c2.1.1
    exact n_le.mpr (by omega)
  obtain ⟨M, hM, eM⟩ := n_lit (x := x2) 24 (by omega) ⟨z3, c2.1.2⟩
  subst eM
  have hp := n_bnd (a := 0) (b := 99999) (by omega) (by omega) c2.2.2
  have z42 : g 42 m ≤ 0 ↔ g 42 m = 0 := by
    rcases I.tm m (I.m6 hm) with w | ⟨q1, _⟩
    · exact ⟨fun _ => w.1, fun _ => by rw [w.1]; decide⟩
    · constructor
      · intro w
        have := n_le.mp w
        omega
      · intro w
        rw [w, t0] at q1
        omega
  refine ⟨if q_wk g (Int32.ofNat m) = none then -2 else q_b2 g m ((q_wk g (Int32.ofNat m)).getD 0) M x3 x4, g, ?_, I.t_c (Nat.le_succ c), ?_⟩
  · refine X_219 _ _ _ _ g (M_217Y ⟨c1, c2⟩ ?_)
    have im : z_ix (Int32.ofNat m) = m := n_ix (by have := I.m6 hm; omega)
    have bm := n_bd (N := 6) (I.m6 hm) (by omega)
    rw [if_neg (by decide)]
    refine ⟨I.cn, ?_⟩
    cases k : q_wk g (Int32.ofNat m) with
    | none =>
      rw [if_pos (show s_no none = (-4 : Int32) from rfl), if_pos rfl]
      exact ⟨rfl, SE.refl g⟩
    | some e =>
      obtain ⟨he, e46, _, _⟩ := q_wk_some k
      rw [if_neg (s_no_ne (by have := I.e12 he; omega)), if_neg (show ¬ (some e : Option Nat) = none from fun z => nomatch z)]
      have last : ∀ (G : zG), (∀ k, ¬ k = 26 → G k = g k) → MG z_pI 219 33 [some (.ref 27), some (.int (Int32.ofNat m)), some (.int (Int32.ofNat M)), some (.int x3), some (.int x4), some (.int (q_b1 g m e M x3 x4)), some (.int (2 : Int32))] [] G (fun v1 g1 => v1 = q_b2 g m e M x3 x4 ∧ SE g g1) := by
        intro G hG
        refine X_219_33 _ _ _ _ _ _ G ?_
        rw [if_neg (by decide), if_neg (by decide)]
        refine M_216G I hG hm k hM (Or.inr (Or.inr rfl)) (fun w => absurd w (by decide)) ?_
        have h1 : q_b1 g m e M x3 x4 = 1 → ¬ g 42 m = 0 := by
          intro w z
          rcases b1_c (g := g) (m := m) (e := e) (M := M) (ld := x3) (pr := x4) with q | q
          · rw [q] at w; exact absurd w (by decide)
          · exact q.2 (z42.mpr z)
        have hc : q_b1 g m e M x3 x4 = 0 ∨ q_b1 g m e M x3 x4 = 1 ∨ q_b1 g m e M x3 x4 = 2 := by
          rcases b1_c (g := g) (m := m) (e := e) (M := M) (ld := x3) (pr := x4) with q | q
          · exact Or.inl q
          · exact Or.inr (Or.inl q.1)
        refine M_216G I (fun k hk => z_row_ne hk) hm k hM hc h1 (fun m17 e17 => ?_)
        rw [I.bre hm he hM (Or.inr (Or.inr rfl)) (fun w => absurd w (by decide)) hp, I.bre hm he hM hc h1 hp] at e17
        refine X_219_33 _ _ _ _ _ _ _ ?_
        rw [if_pos (by decide)]
        exact ⟨e17, SE.r26⟩
      refine X_219_33 _ _ _ _ _ _ g ?_
      rw [if_neg (by decide), if_pos rfl, im]
      refine ⟨bm, ?_⟩
      by_cases z : g 42 m ≤ 0
      · rw [if_pos z]
        have e1 : q_b1 g m e M x3 x4 = 0 := if_pos z
        have w := last g (fun _ _ => rfl)
        rw [e1] at w
        exact w
      · rw [if_neg z]
        have nz : ¬ g 42 m = 0 := fun w => z (z42.mpr w)
        refine M_216G I (fun _ _ => rfl) hm k hM (Or.inr (Or.inl rfl)) (fun _ => nz) ?_
        refine M_216G I (fun k hk => z_row_ne hk) hm k hM (Or.inl rfl) (fun w => absurd w (by decide)) (fun m10 e10 => ?_)
        rw [I.bre hm he hM (Or.inr (Or.inl rfl)) (fun _ => nz) hp, I.bre hm he hM (Or.inl rfl) (fun w => absurd w (by decide)) hp] at e10
        have e1 : m10 = q_b1 g m e M x3 x4 := e10.trans (if_neg z).symm
        rw [e1]
        exact last _ (fun k hk => z_row_ne hk)
  · refine X_126 _ _ _ _ h R.w (xa_S kS ta ?_)
    rw [if_pos c2, R.n0]
    refine o_S hB (K_open R hm ha hB (fun h' R' C rO kq rm => ?_))
    have ha' : z_rv h' 1 m = some a := by rw [rO 1 (by omega)]; exact ha
    have hB' : z_rv h' 0 9 = some B := by rw [rO 0 (by omega)]; exact hB
    have ta' := R'.w.mt R'.f ha'
    refine X_126_43 _ _ _ _ a _ _ _ _ _ _ _ _ h' R'.w ta' ?_
    cases k : q_wk g (Int32.ofNat m) with
    | none =>
      rw [if_pos (show (if (none : Option Nat).bind (z_rv h 2) = none then (0 : Int32) else 1) = 0 from if_pos rfl), if_pos rfl]
      exact ⟨rfl, R', kq, rm⟩
    | some e =>
      obtain ⟨he, e46, _, _⟩ := q_wk_some k
      obtain ⟨b, hb⟩ := R.engine he
      have hb' : z_rv h' 2 e = some b := by rw [rO 2 (by omega)]; exact hb
      have eb : (some e).bind (z_rv h 2) = some b := hb
      rw [k, eb] at C
      rw [eb, if_neg (show ¬ (if (some b : Option Nat) = none then (0 : Int32) else 1) = 0 by rw [if_neg (fun z => nomatch z)]; decide), if_neg (show ¬ (some e : Option Nat) = none from fun z => nomatch z)]
      have k31 := fun ch => K_31 R' I hm ha' hB' he e46 hb' C hM ch x4
      have last : ∀ u10 u11 u12, KG z_pI 126 67 [some (.ref 0), some (.int (Int32.ofNat m)), some (.int (Int32.ofNat M)), some (.int x3), some (.int x4), some (.ref a), some (.int (q_b1 g m e M x3 x4)), some (.long (q_gn g m e M x3 (q_b1 g m e M x3 x4) x4)), none, some (.int (2 : Int32)), u10, u11, u12] [] h' (fun v1 h1 => v1 = q_b2 g m e M x3 x4 ∧ RC (fun _ => q_n g 0) g h1 ∧ Kq h h1 ∧ Rm h h1) := by
        intro u10 u11 u12
        refine X_126_67 _ _ _ _ a _ _ _ _ _ _ h' R'.w ta' ?_
        rw [if_neg (by decide), if_neg (by decide)]
        refine ⟨_, k31 2, fun m26 e26 m27 _ => ?_⟩
        refine X_126_67 _ _ _ _ a _ _ _ _ _ _ h' R'.w ta' ?_
        rw [if_pos (by decide)]
        exact ⟨e26, R', kq, rm⟩
      refine ⟨_, k31 0, ?_⟩
      refine X_126_67 _ _ _ _ a _ _ _ _ _ _ h' R'.w ta' ?_
      rw [if_neg (by decide), if_pos rfl]
      rcases R'.mtrial hm ha' with ⟨w, z⟩ | ⟨t, w, z, _⟩
      · refine o_N w ⟨_, k31 1, ?_⟩
        have e1 : q_b1 g m e M x3 x4 = 0 := if_pos (z42.mpr z)
        have l := last (some (.int (0 : Int32))) (some (.long (q_gn g m e M x3 1 x4))) none
        rw [e1] at l
        exact l
      · refine o_S w ⟨_, k31 1, fun m20 e20 m21 e21 => ?_⟩
        have e1 : m20 = q_b1 g m e M x3 x4 := e20.trans (if_neg (fun y => z (z42.mp y))).symm
        have e2 : m21 = q_gn g m e M x3 (q_b1 g m e M x3 x4) x4 := by
          rw [← e1, e20, e21]
          by_cases q : q_gn g m e M x3 1 x4 ≤ q_gn g m e M x3 0 x4
          · rw [if_pos q, if_pos q]
          · rw [if_neg q, if_neg q]
        rw [e1, e2]
        exact last _ _ _
end CS
