/-! texts: the class's lines -/
section TD
variable {r : Nat → Int32} {t B : Nat} {h0 h h2 : zH} {n : Nat} {R : Nat → Nat → Int32}
theorem tk_n {p : Nat} {K : xO} {x : Nat × Nat × (Nat → Nat → Int32)} (e : e_tk r t p K = .inr x) : K = .inr x := by
  unfold e_tk at e
  by_cases z : x_k r t p = 9
  · rw [if_pos z] at e; cases e
  · rw [if_neg z] at e; exact e
theorem nm_n {p : Nat} {lo hi : Int32} {K : xO} {x : Nat × Nat × (Nat → Nat → Int32)} (e : e_nm r t p lo hi K = .inr x) : K = .inr x := by
  unfold e_nm at e
  by_cases z : x_k r t p = 2
  · rw [if_pos z] at e
    by_cases w : lo ≤ x_v r t p ∧ x_v r t p ≤ hi
    · rw [if_pos w] at e; exact e
    · rw [if_neg w] at e; cases e
  · rw [if_neg z] at e; cases e
theorem en_n {p : Nat} {x : Nat × Nat × (Nat → Nat → Int32)} (e : e_en r t p n R = .inr x) : x.2.1 = n := by
  unfold e_en at e
  by_cases z : x_k r t p = 3
  · rw [if_pos z] at e
    have := tk_n e
    injection this with this
    rw [← this]
  · rw [if_neg z] at e; cases e
theorem ru_n {p : Nat} {f : Int32} {x : Nat × Nat × (Nat → Nat → Int32)} (e : e_ru r t p n R f = .inr x) : x.2.1 = n + 1 := by
  unfold e_ru at e
  by_cases z : x_rl r t p = -4
  · rw [if_pos z] at e; cases e
  · rw [if_neg z] at e
    by_cases w : x_rl r t p = 5 ∨ x_rl r t p = 6
    · rw [if_pos w] at e
      unfold e_r5 at e
      by_cases y : x_td n R (x_rl r t p) 0 f
      · rw [if_pos y] at e; cases e
      · rw [if_neg y] at e
        exact en_n (tk_n e)
    · rw [if_neg w] at e
      unfold e_r0 at e
      have e := tk_n e
      have e1 : e_r1 r t (x_e r t p) n R (x_rl r t p) (x_ky r t (x_e r t p) (x_rl r t p)) f = .inr x := by
        unfold e_ky at e
        by_cases y : x_rl r t p = 4
        · rw [if_pos y] at e
          by_cases v : x_k r t (x_e r t p) = 1 ∧ x_e r t (x_e r t p) = x_ts r t (x_e r t p) + 1 ∧ (97 : Int32) ≤ r (x_ts r t (x_e r t p)) ∧ r (x_ts r t (x_e r t p)) ≤ (104 : Int32)
          · rw [if_pos v] at e; exact e
          · rw [if_neg v] at e; cases e
        · rw [if_neg y] at e; exact nm_n e
      unfold e_r1 at e1
      by_cases y : x_td n R (x_rl r t p) (x_ky r t (x_e r t p) (x_rl r t p)) f
      · rw [if_pos y] at e1; cases e1
      · rw [if_neg y] at e1
        exact en_n (tk_n (nm_n (tk_n e1)))
theorem li_n {p : Nat} {x : Nat × Nat × (Nat → Nat → Int32)} (e : e_li r t p n R = .inr x) : x.2.1 = n + 1 := by
  unfold e_li at e
  by_cases z : x_m r t p 3
  · rw [if_pos z] at e
    exact ru_n (tk_n (nm_n (tk_n e)))
  · rw [if_neg z] at e
    exact ru_n e
def Gd (n : Nat) (R : Nat → Nat → Int32) : Prop := ∀ i, i < n → (∃ m, m < 7 ∧ R 0 i = Int32.ofNat m) ∧ (0 ≤ (R 1 i).toInt ∧ (R 1 i).toInt ≤ 7) ∧ (0 ≤ (R 2 i).toInt ∧ (R 2 i).toInt ≤ 59) ∧ s_lv (R 0 i) (R 3 i)
theorem pu_at {w o f v : Int32} : x_pu n R w o f v 0 n = w ∧ x_pu n R w o f v 1 n = o ∧ x_pu n R w o f v 2 n = f ∧ x_pu n R w o f v 3 n = v := by
  refine ⟨?_, ?_, ?_, ?_⟩
  · show (if n = n then _ else _) = _; rw [if_pos rfl]; rfl
  · show (if n = n then _ else _) = _; rw [if_pos rfl]; rfl
  · show (if n = n then _ else _) = _; rw [if_pos rfl]; rfl
  · show (if n = n then _ else _) = _; rw [if_pos rfl]; rfl
theorem pu_ne {w o f v : Int32} {k i : Nat} (hi : ¬ i = n) : x_pu n R w o f v k i = R k i := if_neg hi
theorem Gd.pu {w o f v : Int32} (G : Gd n R) (hw : ∃ m, m < 7 ∧ w = Int32.ofNat m) (ho : 0 ≤ o.toInt ∧ o.toInt ≤ 7) (hf : 0 ≤ f.toInt ∧ f.toInt ≤ 59) (hv : s_lv w v) : Gd (n + 1) (x_pu n R w o f v) := by
  intro i hi
  by_cases e : i = n
  · subst e
    obtain ⟨a, b, c, d⟩ := pu_at (n := i) (R := R) (w := w) (o := o) (f := f) (v := v)
    rw [a, b, c, d]
    exact ⟨hw, ho, hf, hv⟩
  · rw [pu_ne e, pu_ne e, pu_ne e, pu_ne e]
    exact G i (by omega)
def Fk (B : Nat) (h0 h : zH) : Prop := Sh h0 h ∧ ∀ k, ¬ k = 8 → ¬ (B ≤ k ∧ k ≤ B + 5) → z_iv h k = z_iv h0 k
def Bk (r : Nat → Int32) (t B : Nat) (h0 : zH) : Prop := Tp r t h0 ∧ z_tg h0 B = 1 ∧ z_rv h0 8 3 = some B ∧ 9 ≤ B ∧ ∀ i, i < t → 0 ≤ (r i).toInt ∧ (r i).toInt ≤ 255
def Dr (B n : Nat) (R : Nat → Nat → Int32) (h : zH) : Prop := z_iv h B 5 = Int32.ofNat n ∧ n ≤ 16 ∧ Gd n R ∧ ∀ i, i < n → z_iv h (B + 1) i = R 2 i ∧ z_iv h (B + 2) i = R 0 i ∧ z_iv h (B + 3) i = s_cg (R 0 i) ∧ z_iv h (B + 4) i = R 1 i ∧ z_iv h (B + 5) i = R 3 i
theorem Fk.s8 (f : Fk B h0 h) (s : S8 h h2) : Fk B h0 h2 := ⟨f.1.trans s.1, fun k h1 h2 => (s.2 k h1).trans (f.2 k h1 h2)⟩
theorem Fk.tp (f : Fk B h0 h) (b : Bk r t B h0) : Tp r t h := by
  obtain ⟨⟨a1, a2, a3, a4, a5, a6⟩, _, _, b9, _⟩ := b
  refine ⟨f.1.cw a1, f.1.tg a2, f.1.tg a3, ?_, ?_, a6⟩
  · rw [f.2 6 (by omega) (by omega)]; exact a4
  · rw [f.2 (6 + 1) (by omega) (by omega)]; exact a5
theorem Dr.s8 (D : Dr B n R h) (s : S8 h h2) (b9 : 9 ≤ B) : Dr B n R h2 := by
  unfold Dr
  rw [s.2 B (by omega), s.2 (B + 1) (by omega), s.2 (B + 2) (by omega), s.2 (B + 3) (by omega), s.2 (B + 4) (by omega), s.2 (B + 5) (by omega)]
  exact D
/-- what is to be shown of an outcome -/
def Hk (r : Nat → Int32) (t B : Nat) (h0 : zH) (Q : Int32 → zH → Prop) : xO → Prop
  | .inl x => ∀ h', Fk B h0 h' → z_iv h' 8 0 = x.1 → z_iv h' 8 1 = Int32.ofNat x.2 → Q 0 h'
  | .inr x => ∀ h', Fk B h0 h' → z_iv h' 8 0 = 0 → Tok r t x.1 h' → Dr B x.2.1 x.2.2 h' → Q 1 h'
theorem K_19 (b : Bk r t B h0) (F : Fk B h0 h) (D : Dr B n R h) {m : Nat} (hm : m < 7) (o f : Int32) : KV z_pI 19 [.ref B, .int f, .int (Int32.ofNat m), .int o] h (if x_td n R (Int32.ofNat m) o f then 1 else 0) := by
  obtain ⟨d1, d2, G, d3⟩ := D
  have W := (F.tp b).1
  have tB := F.1.tg b.2.1
  have c7 : ∀ m, m < 7 → ¬ (Int32.ofNat m < 0) ∧ ¬ ((7 : Int32) ≤ Int32.ofNat m) := by decide +kernel
  have gq : ∀ a, a < 7 → ∀ c, c < 7 → (s_cg (Int32.ofNat a) = s_cg (Int32.ofNat c) ↔ s_gr (Int32.ofNat a) = s_gr (Int32.ofNat c)) := by decide +kernel
  refine kv_of (X_19 B _ _ _ h W tB ⟨fun _ _ => n_bd (N := 7) hm (by omega), ?_⟩)
  rw [if_neg (c7 m hm).1, if_neg (c7 m hm).2]
  refine z_lp (N := n) (G := fun i => (∀ j, j < i → ¬ (s_gr (R 0 j) = s_gr (Int32.ofNat m) ∧ R 1 j = o ∧ R 2 j = f)) → KG z_pI 19 9 [some (.ref B), some (.int f), some (.int (Int32.ofNat m)), some (.int o), some (.int (s_cg (Int32.ofNat m))), some (.int (Int32.ofNat i))] [] h _) ?_ ?_ (fun _ w => absurd w (by omega))
  · intro w
    refine X_19_9 B _ _ _ _ _ h W tB ?_
    rw [d1, if_pos (Int32.le_refl _)]
    exact ⟨(if_neg (fun z => z w)).symm, rfl⟩
  · intro i hi k w
    have bi := n_bd (i := i) (N := 16) (by omega) (by omega)
    obtain ⟨e1, e2, e3, e4, e5⟩ := d3 i hi
    obtain ⟨⟨a, ha, ea⟩, _⟩ := G i hi
    have go : ¬ (s_gr (R 0 i) = s_gr (Int32.ofNat m) ∧ R 1 i = o ∧ R 2 i = f) → KG z_pI 19 9 [some (.ref B), some (.int f), some (.int (Int32.ofNat m)), some (.int o), some (.int (s_cg (Int32.ofNat m))), some (.int (Int32.ofNat i + (1 : Int32)))] [] h (fun v h' => v = (if x_td n R (Int32.ofNat m) o f then 1 else 0) ∧ h' = h) := by
      intro z
      rw [n_s]
      refine k (fun j hj => ?_)
      by_cases ej : j = i
      · subst ej; exact z
      · exact w j (by omega)
    refine X_19_9 B _ _ _ _ _ h W tB ?_
    rw [d1, if_neg (fun z => by have := (n_lit_le (by omega) (by omega)).mp z; omega), if_neg (show ¬ (16 : Int32) ≤ Int32.ofNat i from fun z => by have := (n_lit_le (k := 16) (by omega) (by omega)).mp z; omega), n_ix (by omega), e1, e3, e4]
    refine ⟨bi, ?_⟩
    by_cases z1 : R 2 i = f
    · rw [if_pos z1]
      refine ⟨bi, ?_⟩
      by_cases z2 : s_cg (R 0 i) = s_cg (Int32.ofNat m)
      · rw [if_pos z2]
        refine ⟨bi, ?_⟩
        have z2' : s_gr (R 0 i) = s_gr (Int32.ofNat m) := by rw [ea] at z2 ⊢; exact (gq a ha m hm).mp z2
        by_cases z3 : R 1 i = o
        · rw [if_pos z3]
          exact ⟨(if_pos (fun y => y i hi ⟨z2', z3, z1⟩)).symm, rfl⟩
        · rw [if_neg z3]
          exact go (fun y => z3 y.2.1)
      · rw [if_neg z2]
        refine go (fun y => z2 ?_)
        have := y.1
        rw [ea] at this ⊢
        exact (gq a ha m hm).mpr this
    · rw [if_neg z1]
      exact go (fun y => z1 y.2.2)
theorem K_76 (T : Tp r t h) {p : Nat} (K : Tok r t p h) {lo hi : Int32} {Q : Int32 → zH → Prop} (q1 : x_k r t p = 2 → (lo ≤ x_v r t p ∧ x_v r t p ≤ hi) → Q 1 h) (q0 : ∀ c h', e_nm r t p lo hi (.inl (0, 0)) = .inl (c, x_ts r t p) → ¬ (x_k r t p = 2 ∧ lo ≤ x_v r t p ∧ x_v r t p ≤ hi) → S8 h h' → z_iv h' 8 0 = c → z_iv h' 8 1 = Int32.ofNat (x_ts r t p) → Q 0 h') : KK z_pI 76 [.ref 8, .int lo, .int hi] h Q := by
  obtain ⟨k4, k5, k6, k7, hp, _⟩ := K
  refine X_76 8 _ _ h T.1 T.2.2.1 ?_
  rw [k4, k5]
  unfold e_nm at q0
  by_cases z : x_k r t p = 2
  · rw [if_pos z, k7 z]
    by_cases w : lo ≤ x_v r t p ∧ x_v r t p ≤ hi
    · rw [if_pos w]; exact q1 z w
    · rw [if_neg w]
      refine q0 3 _ (by rw [if_pos z, if_neg w]) (fun y => w y.2) ((S8.refl h).sI.sI) ?_ v_at
      rw [v_no (by omega), v_at]
  · rw [if_neg z]
    refine q0 2 _ (by rw [if_neg z]) (fun y => z y.1) ((S8.refl h).sI.sI) ?_ v_at
    rw [v_no (by omega), v_at]
end TD
