section RE
variable {c n : Nat} {g : zG} {h : zH}
def r_w (g : zG) (n : Nat) (B : Option (List Nat)) : Int32 := match B with
  | none => -1
  | some b => w_wt g b (n - 1)
def r_d (g : zG) (n : Nat) (B : Option (List Nat)) : Int32 := match B with
  | none => 0
  | some b => w_dy g b (n - 1)
/-- what is asked of the best order -/
def r_v (g : zG) (n : Nat) (b : List Nat) (x : Int32) : Int32 := if x = 0 then w_wt g b (n - 1) else (if x = (1 : Int32) then w_dy g b (n - 1) else (if Int32.ofNat n ≤ (x - (10 : Int32)) then (-4 : Int32) else Int32.ofNat (o_at b (z_ix (x - (10 : Int32))))))
theorem bs_some {w : List Nat → Int32} : ∀ (L : List (List Nat)) (b : List Nat), ∃ b', ry_bs w L (some b) = some b' := by
  intro L
  induction L with
  | nil => intro b; exact ⟨b, rfl⟩
  | cons x r ih =>
    intro b
    show ∃ b', ry_bs w r (if w b ≤ w x then some b else some x) = some b'
    by_cases e : w b ≤ w x
    · rw [if_pos e]; exact ih b
    · rw [if_neg e]; exact ih x
theorem M_226 (I : INV c (fun _ => q_n g 0) g) {m : Nat} (N : q_n g 1 = n) (hm : m < n) {x2 : Int32} (hx : ¬ (x2 = 0) → ¬ (x2 = (1 : Int32)) → 0 ≤ (x2 - (10 : Int32)).toInt ∧ (x2 - (10 : Int32)).toInt < 6) {b0 : List Nat} (hb : ry_bs (fun l => w_wt g l (n - 1)) (ry_fl n (m * 10 ^ (n - 1)) (10 ^ (n - 1))) none = some b0) {Q : Int32 → zG → Prop} (q : ∀ g2, Wd g g2 → Q (r_v g n b0 x2) g2) : MG z_pI 226 54 [some (.ref 27), some (.int (Int32.ofNat m)), some (.int x2), some (.int (Int32.ofNat (10 ^ (n - 1)))), some (.int (-1 : Int32)), some (.int (0 : Int32)), some (.int (Int32.ofNat m * Int32.ofNat (10 ^ (n - 1)))), none] [] g Q := by
  have n6 : n ≤ 6 := by have := I.cnt.2.1; rw [← N]; unfold q_n z_ix; omega
  have h1 : 1 ≤ n := by omega
  have N1 : g 27 1 = Int32.ofNat n := by rw [← N]; exact (n_of I.cnt.2.1.1).symm
  have o : Cn g := I.cn
  have pw : ∀ k, k < 6 → 10 ^ k ≤ 100000 := by decide +kernel
  have p6 := pw (n - 1) (by omega)
  have mb : m * 10 ^ (n - 1) ≤ 5 * 100000 := Nat.mul_le_mul (by omega) p6
  have ms : (m + 1) * 10 ^ (n - 1) = m * 10 ^ (n - 1) + 10 ^ (n - 1) := by rw [Nat.add_mul, Nat.one_mul]
  have et : (Int32.ofNat m + (1 : Int32)) * Int32.ofNat (10 ^ (n - 1)) = Int32.ofNat (m * 10 ^ (n - 1) + 10 ^ (n - 1)) := by rw [n_s, n_mul, ms]
  rw [n_mul]
  generalize hF : 10 ^ (n - 1) = K at *
  generalize hlo : m * K = lo at *
  refine z_lp (N := K) (G := fun k => ∀ g2 B u7, B = ry_bs (fun l => w_wt g l (n - 1)) (ry_fl n lo k) none → Wd g g2 → (∀ b, B = some b → (∀ i, i < n → g2 85 i = Int32.ofNat (o_at b i)) ∧ ∀ i, i < n → o_at b i < n) → MG z_pI 226 54 [some (.ref 27), some (.int (Int32.ofNat m)), some (.int x2), some (.int (Int32.ofNat K)), some (.int (r_w g n B)), some (.int (r_d g n B)), some (.int (Int32.ofNat (lo + k))), u7] [] g2 Q) ?_ ?_ g none none rfl (Wd.refl g) (fun _ z => nomatch z)
  · intro g2 B u7 eB w eb
    rw [hb] at eB
    subst eB
    refine X_226_54 _ _ _ _ _ _ _ g2 ?_
    rw [et, if_pos ((n_lit_le (by omega) (by omega)).mpr (by omega)), w 27 (by decide), N1]
    refine ⟨fun z1 z2 _ => hx z1 z2, fun m9 e9 => ?_⟩
    have ev : m9 = r_v g n b0 x2 := by
      rw [e9]
      unfold r_v
      by_cases z1 : x2 = 0
      · rw [if_pos z1, if_pos z1]; rfl
      · rw [if_neg z1, if_neg z1]
        by_cases z2 : x2 = 1
        · rw [if_pos z2, if_pos z2]; rfl
        · rw [if_neg z2, if_neg z2]
          by_cases z3 : Int32.ofNat n ≤ x2 - 10
          · rw [if_pos z3, if_pos z3]
          · rw [if_neg z3, if_neg z3]
            have bx := hx z1 z2
            have z4 : ¬ (Int32.ofNat n).toInt ≤ (x2 - 10).toInt := fun w => z3 (n_le.mpr w)
            rw [n_i (by omega)] at z4
            exact (eb b0 rfl).1 _ (by unfold z_ix; omega)
    rw [ev]
    exact q g2 w
  · intro k hk m1 g2 B u7 eB w eb
    refine X_226_54 _ _ _ _ _ _ _ g2 ?_
    rw [et, if_neg (fun z => by have := (n_lit_le (by omega) (by omega)).mp z; omega), n_s]
    refine M_224 w N1 n6 (v := lo + k) (by omega) (fun g3 w3 r3 e3 => ?_)
    have ef : ry_fl n lo (k + 1) = ry_fl n lo k ++ (if ry_ok n (lo + k) = true then [ry_dg n (lo + k)] else []) := rfl
    by_cases ko : ry_ok n (lo + k) = true
    · rw [if_pos ko, if_neg (by decide)]
      rw [if_pos ko] at ef
      have O : Rw n (ry_dg n (lo + k)) g3 := by
        intro i hi
        refine ⟨e3 i hi, ?_⟩
        rw [dg_at hi]
        exact (ok_dig (by omega) (ok_iff.mp ko).2 (by omega)).1
      have take : ry_bs (fun l => w_wt g l (n - 1)) (ry_fl n lo (k + 1)) none = some (ry_dg n (lo + k)) → MK z_pI 223 [.ref 27] g3 (fun r13 g14 => MK z_pI 222 [.ref 27] g14 (fun r15 g16 => MG z_pI 226 102 [some (.ref 27), some (.int (Int32.ofNat m)), some (.int x2), some (.int (Int32.ofNat K)), some (.int r13), some (.int r15), some (.int (Int32.ofNat (lo + k))), some (.int (0 : Int32))] [] g16 Q)) := by
        intro eT
        refine M_223 w3 o N1 h1 n6 O (M_222 w3 N1 h1 n6 O ?_)
        refine z_lp (N := n) (G := fun i => ∀ g4, Wd g g4 → g4 84 = g3 84 → (∀ i', i' < i → g4 85 i' = g3 84 i') → MG z_pI 226 102 [some (.ref 27), some (.int (Int32.ofNat m)), some (.int x2), some (.int (Int32.ofNat K)), some (.int (w_wt g (ry_dg n (lo + k)) (n - 1))), some (.int (w_dy g (ry_dg n (lo + k)) (n - 1))), some (.int (Int32.ofNat (lo + k))), some (.int (Int32.ofNat i))] [] g4 Q) ?_ ?_ g3 w3 rfl (fun _ z => absurd z (by omega))
        · intro g4 w4 r4 e4
          refine X_226_102 _ _ _ _ _ _ _ g4 ?_
          rw [w4 27 (by decide), N1, if_pos ((n_lit_le (by omega) (by omega)).mpr (by omega)), n_s]
          refine m1 g4 (some (ry_dg n (lo + k))) _ eT.symm w4 (fun b e => ?_)
          injection e with e
          subst e
          exact ⟨fun i hi => (e4 i hi).trans (O i hi).1, fun i hi => (O i hi).2⟩
        · intro i hi m2 g4 w4 r4 e4
          refine X_226_102 _ _ _ _ _ _ _ g4 ?_
          have bi := n_bd (i := i) (N := 6) (by omega) (by omega)
          rw [w4 27 (by decide), N1, if_neg (fun z => by have := (n_lit_le (by omega) (by omega)).mp z; omega), n_s, n_ix (by omega)]
          refine ⟨bi, bi, m2 _ (w4.up (Or.inr rfl)) ((up_ne (by decide)).trans r4) (fun i' hi' => ?_)⟩
          by_cases e : i' = i
          · subst e
            rw [up_at, r4]
          · rw [up_nj (fun z => e z.2)]
            exact e4 i' (by omega)
      cases B with
      | none =>
        rw [if_pos (show r_w g n none < 0 by show (-1 : Int32) < 0; decide)]
        refine take ?_
        rw [ef, bs_app, ← eB]
        rfl
      | some b =>
        have wb := I.wtb n6 N (eb b rfl).2 (n - 1) (by omega)
        have nz : ¬ r_w g n (some b) < 0 := by
          intro z
          have := n_lt.mp z
          rw [show (0 : Int32).toInt = 0 by decide] at this
          have e : r_w g n (some b) = w_wt g b (n - 1) := rfl
          rw [e] at this
          omega
        rw [if_neg nz]
        refine M_223 w3 o N1 h1 n6 O ?_
        have ew : r_w g n (some b) = w_wt g b (n - 1) := rfl
        by_cases le : w_wt g b (n - 1) ≤ w_wt g (ry_dg n (lo + k)) (n - 1)
        · rw [if_pos (show r_w g n (some b) ≤ w_wt g (ry_dg n (lo + k)) (n - 1) from le)]
          refine m1 g3 (some b) _ ?_ w3 (fun b' e => ?_)
          · rw [ef, bs_app, ← eB]
            show some b = (if w_wt g b (n - 1) ≤ w_wt g (ry_dg n (lo + k)) (n - 1) then some b else some (ry_dg n (lo + k)))
            rw [if_pos le]
          · rw [r3]
            exact eb b' e
        · rw [if_neg (show ¬ r_w g n (some b) ≤ w_wt g (ry_dg n (lo + k)) (n - 1) from le)]
          refine take ?_
          rw [ef, bs_app, ← eB]
          show (if w_wt g b (n - 1) ≤ w_wt g (ry_dg n (lo + k)) (n - 1) then some b else some (ry_dg n (lo + k))) = _
          rw [if_neg le]
    · rw [if_neg ko, if_pos rfl]
      rw [if_neg ko, List.append_nil] at ef
      refine m1 g3 B _ ?_ w3 (fun b e => ?_)
      · rw [ef]; exact eB
      · rw [r3]
        exact eb b e
theorem T_round (X : AH c g h) (x1 x2 : Int32) : ST z_pI 128 [.ref 0, .int x1, .int x2] 226 [.ref 27, .int x1, .int x2] c g h := by
  have I := X.i
  have R := X.r
  rcases (Decidable.em ((0 : Int32) ≤ x1 ∧ x1 ≤ ((g 27 1) - (1 : Int32)))).symm with c1 | c1
  · exact ST.ro X (-1) (X_226 _ _ g (by rw [if_neg c1]; exact ⟨rfl, SE.refl g⟩)) (kv_of (X_128 _ _ h R.w (xa_N (K_mineN R c1) ⟨rfl, rfl⟩)))
  obtain ⟨m, hm, em⟩ := n_rng I.cnt.2.1.1 c1
  have hm : m < q_n g 1 := hm
  subst em
  obtain ⟨a, ha⟩ := R.mine hm
  have ta := R.w.mt R.f ha
  have kS := K_mineS R I hm ha
  by_cases c0 : ((0 : Int32) ≤ x2 ∧ x2 ≤ (1 : Int32)) ∨ ((10 : Int32) ≤ x2 ∧ x2 ≤ (15 : Int32))
  · have n6 : q_n g 1 ≤ 6 := by have := I.cnt.2.1; unfold q_n z_ix; omega
    have F : z_tg h 9 = 6 := R.f.at (by omega) rfl
    have N1 : g 27 1 = Int32.ofNat (q_n g 1) := (n_of I.cnt.2.1.1).symm
    have t10 : (10 : Int32).toInt = 10 := by decide
    have hx : ¬ (x2 = 0) → ¬ (x2 = (1 : Int32)) → 0 ≤ (x2 - (10 : Int32)).toInt ∧ (x2 - (10 : Int32)).toInt < 6 := by
      intro z1 z2
      rcases c0 with w | w
      · exfalso
        obtain ⟨j, hj, ej⟩ := n_lit 1 (by omega) w
        have d : j = 0 ∨ j = 1 := by omega
        rcases d with d | d <;> subst d
        · exact z1 ej
        · exact z2 ej
      · have b := n_bnd (a := 10) (b := 15) (by omega) (by omega) w
        rw [i_sub (by omega) (by omega)]
        omega
    obtain ⟨b0, hb⟩ : ∃ b0, ry_bs (fun l => w_wt g l (q_n g 1 - 1)) (ry_T (q_n g 1) 120 (some (ry_st (q_n g 1) m))) none = some b0 := bs_some _ _
    have hb' := hb
    rw [← ry_all _ (by omega) m hm, E_fl (by omega) _ (by omega)] at hb'
    refine ⟨r_v g (q_n g 1) b0 x2, g, ?_, I.t_c (Nat.le_succ c), ?_⟩
    · have body : MK z_pI 225 [.ref 27, .int (g 27 1)] g (fun r3 g4 => MG z_pI 226 54 [some (.ref 27), some (.int (Int32.ofNat m)), some (.int x2), some (.int r3), some (.int (-1 : Int32)), some (.int (0 : Int32)), some (.int (Int32.ofNat m * r3)), none] [] g4 (fun v1 g1 => v1 = r_v g (q_n g 1) b0 x2 ∧ SE g g1)) := by
        rw [N1]
        exact M_225 (by omega) n6 (M_226 I rfl hm hx hb' (fun g2 w => ⟨rfl, w.se⟩))
      refine X_226 _ _ g ?_
      rw [if_pos c1]
      by_cases c2 : (0 : Int32) ≤ x2 ∧ x2 ≤ (1 : Int32)
      · rw [if_pos c2]; exact body
      · rw [if_neg c2, if_pos (c0.resolve_left c2)]; exact body
    · have fin : ∀ h1 h2, Sc h h1 → Sc h1 h2 → Rd g (q_n g 1) h2 → Bs g (q_n g 1) b0 h2 → (if x2 = 0 then (z_iv h2 9 0 = r_v g (q_n g 1) b0 x2 ∧ RC (fun _ => q_n g 0) g h2 ∧ Kq h h2 ∧ Rm h h2) else (if x2 = (1 : Int32) then (z_iv h2 9 1 = r_v g (q_n g 1) b0 x2 ∧ RC (fun _ => q_n g 0) g h2 ∧ Kq h h2 ∧ Rm h h2) else (∃ v17 : Int32, KV z_pI 67 [.ref 9, .int (x2 - (10 : Int32))] h2 v17 ∧ v17 = r_v g (q_n g 1) b0 x2 ∧ RC (fun _ => q_n g 0) g h2 ∧ Kq h h2 ∧ Rm h h2))) := by
        intro h1 h2 s1 s2 D2 B2
        have s := s1.trans s2
        have t : RC (fun _ => q_n g 0) g h2 ∧ Kq h h2 ∧ Rm h h2 := ⟨R.sc s, s.kq, s.rm⟩
        unfold r_v
        by_cases z1 : x2 = 0
        · rw [if_pos z1, if_pos z1]
          exact ⟨B2.1, t⟩
        · rw [if_neg z1, if_neg z1]
          by_cases z2 : x2 = 1
          · rw [if_pos z2, if_pos z2]
            exact ⟨B2.2.1, t⟩
          · rw [if_neg z2, if_neg z2]
            have bx := hx z1 z2
            obtain ⟨j, hj, ej⟩ : ∃ j, j < 6 ∧ x2 - 10 = Int32.ofNat j := ⟨z_ix (x2 - 10), by unfold z_ix; omega, (n_of bx.1).symm⟩
            rw [ej, n_ix (by omega)]
            exact ⟨_, K_67 (s.1.cw R.w) (s.1.tg F) D2 B2 n6 hj, rfl, t⟩
      refine X_128 _ _ h R.w (xa_S kS ta ?_)
      rw [R.n1, R.n0]
      by_cases c2 : (10 : Int32) ≤ x2 ∧ x2 ≤ (15 : Int32)
      · rw [if_pos c2]
        refine K_58 R I (fun h1 s1 D1 => ⟨s1.1, K_60 (s1.1.cw R.w) (s1.1.tg F) D1 n6 hm (fun b' h2 eb s2 D2 B2 => ⟨s2.1, ?_⟩)⟩)
        rw [hb] at eb
        injection eb with eb
        subst eb
        exact fin h1 h2 s1 s2 D2 B2
      · rw [if_neg c2, if_pos (c0.resolve_right c2)]
        refine K_58 R I (fun h1 s1 D1 => ⟨s1.1, K_60 (s1.1.cw R.w) (s1.1.tg F) D1 n6 hm (fun b' h2 eb s2 D2 B2 => ⟨s2.1, ?_⟩)⟩)
        rw [hb] at eb
        injection eb with eb
        subst eb
        exact fin h1 h2 s1 s2 D2 B2
  · refine ST.ro X (-1) (X_226 _ _ g ?_) (kv_of (X_128 _ _ h R.w (xa_S kS ta ?_)))
    · rw [if_pos c1, if_neg (fun z => c0 (Or.inl z)), if_neg (fun z => c0 (Or.inr z))]
      exact ⟨rfl, SE.refl g⟩
    · rw [if_neg (fun z => c0 (Or.inr z)), if_neg (fun z => c0 (Or.inl z))]
      exact ⟨rfl, rfl⟩
theorem T_waits (X : AH c g h) (x1 : Int32) : ST z_pI 129 [.ref 0, .int x1] 227 [.ref 27, .int x1] c g h := by
  have I := X.i
  have R := X.r
  have t0 : (0 : Int32).toInt = 0 := by decide
  have cn := I.cnt.2.1
  by_cases z0 : x1 < 0
  · refine ST.ro X (-1) (X_227 _ g ?_) (kv_of (X_129 _ h R.w ?_))
    · by_cases z1 : g 27 1 ≤ 0
      · rw [if_pos z1]; exact ⟨rfl, SE.refl g⟩
      · have : ¬ ((0 : Int32) ≤ x1 ∧ x1 ≤ (999999 : Int32)) := by
          intro w
          have a := n_le.mp w.1
          have b := n_lt.mp z0
          omega
        rw [if_neg z1, if_neg this]; exact ⟨rfl, SE.refl g⟩
    · rw [if_pos z0]; exact ⟨rfl, rfl⟩
  · have p0 : 0 ≤ x1.toInt := by
      have : ¬ x1.toInt < (0 : Int32).toInt := fun w => z0 (n_lt.mpr w)
      omega
    by_cases z1 : g 27 1 = 0
    · refine ST.ro X (-1) (X_227 _ g ?_) (kv_of (X_129 _ h R.w ?_))
      · rw [if_pos (by rw [z1]; decide)]; exact ⟨rfl, SE.refl g⟩
      · rw [if_neg z0, R.n1, if_pos z1]; exact ⟨rfl, rfl⟩
    · have n6 : q_n g 1 ≤ 6 := by unfold q_n z_ix; omega
      have n1 : 1 ≤ q_n g 1 := by
        have : ¬ (g 27 1).toInt = 0 := fun w => z1 (Int32.toInt_inj.mp (by rw [w, t0]))
        unfold q_n z_ix; omega
      have F : z_tg h 9 = 6 := R.f.at (by omega) rfl
      have N1 : g 27 1 = Int32.ofNat (q_n g 1) := (n_of I.cnt.2.1.1).symm
      have hx := Int32.toInt_lt x1
      obtain ⟨v, hv, ev⟩ : ∃ v, v < 2147483648 ∧ x1 = Int32.ofNat v := ⟨z_ix x1, by unfold z_ix; omega, (n_of p0).symm⟩
      subst ev
      refine ⟨if ry_ok (q_n g 1) v = true then w_wt g (ry_dg (q_n g 1) v) (q_n g 1 - 1) else -1, g, ?_, I.t_c (Nat.le_succ c), ?_⟩
      · refine X_227 _ g ?_
        have z2 : ¬ g 27 1 ≤ 0 := by
          intro w
          have := n_le.mp w
          rw [N1, n_i (by omega), t0] at this
          omega
        rw [if_neg z2]
        by_cases z3 : (0 : Int32) ≤ Int32.ofNat v ∧ Int32.ofNat v ≤ (999999 : Int32)
        · rw [if_pos z3]
          refine M_224 (Wd.refl g) N1 n6 hv (fun g3 w3 r3 e3 => ?_)
          by_cases ko : ry_ok (q_n g 1) v = true
          · rw [if_pos ko, if_neg (by decide), if_pos ko]
            refine M_223 w3 I.cn N1 n1 n6 (l := ry_dg (q_n g 1) v) (fun i hi => ⟨e3 i hi, ?_⟩) ⟨rfl, w3.se⟩
            rw [dg_at hi]
            exact (ok_dig (by omega) (ok_iff.mp ko).2 (by omega)).1
          · rw [if_neg ko, if_pos rfl, if_neg ko]
            exact ⟨rfl, w3.se⟩
        · rw [if_neg z3]
          have ko : ¬ ry_ok (q_n g 1) v = true := by
            intro ko
            apply z3
            have d := (ok_iff.mp ko).1
            have pw : ∀ k, k < 7 → 0 < 10 ^ k ∧ 10 ^ k ≤ 1000000 := by decide +kernel
            have p := pw (q_n g 1) (by omega)
            have lt := (Nat.div_eq_zero_iff_lt p.1).mp d
            exact ⟨(n_lit_le (k := 0) (by omega) (by omega)).mpr (by omega), (n_lit_le (n := 999999) (by omega) (by omega)).mpr (by omega)⟩
          rw [if_neg ko]
          exact ⟨rfl, SE.refl g⟩
      · refine X_129 _ h R.w ?_
        rw [if_neg z0, R.n1, if_neg z1, R.n0]
        refine K_58 R I (fun h1 s1 D1 => ⟨s1.1, K_68 (s1.1.cw R.w) (s1.1.tg F) D1 n6 hv (fun h2 s2 r2 O2 => ⟨s2, ?_⟩)⟩)
        have s := s1.trans (Sc.r11 s2 r2)
        have t : RC (fun _ => q_n g 0) g h2 ∧ Kq h h2 ∧ Rm h h2 := ⟨R.sc s, s.kq, s.rm⟩
        have D2 : Rd g (q_n g 1) h2 := D1.eq (by rw [r2 9 (by omega)]) (r2 _ (by omega)) (r2 _ (by omega))
        by_cases ko : ry_ok (q_n g 1) v = true
        · rw [if_pos ko, if_neg (by decide), if_pos ko]
          exact ⟨_, K_66 (s.1.cw R.w) (s.1.tg F) D2 (O2 ko) n1 n6, rfl, t⟩
        · rw [if_neg ko, if_pos rfl, if_neg ko]
          exact ⟨rfl, t⟩
end RE
