section TK
variable {r : Nat → Int32} {t n p : Nat} {g g0 g2 : zG} {R : Nat → Nat → Int32}
/-- the lines are taken over -/
def Cp (g : zG) (n : Nat) (g2 : zG) : Prop := (∀ k, ¬ k = 27 → ¬ (62 ≤ k ∧ k ≤ 65) → g2 k = g k) ∧ (∀ i, ¬ i = 35 → ¬ i = 36 → ¬ i = 45 → g2 27 i = g 27 i) ∧ g2 27 35 = 0 ∧ g2 27 36 = 0 ∧ g2 27 45 = Int32.ofNat n ∧ ∀ k, k < 4 → ∀ i, g2 (62 + k) i = if i < 16 then g (66 + k) i else g (62 + k) i
def HF (r : Nat → Int32) (t : Nat) (g0 : zG) (Q : Int32 → zG → Prop) : xO → Prop
  | .inl x => ∀ g', Wt g0 g' → g' 27 37 = x.1 → g' 27 38 = Int32.ofNat x.2 → St g' → Q ((-10 : Int32) - Int32.ofNat x.2) (z_up2 (z_up2 g' 27 35 0) 27 36 x.1)
  | .inr x => ∀ g' g2, Wt g0 g' → Li x.2.1 x.2.2 g' → Cp g' x.2.1 g2 → Q (Int32.ofNat x.2.1) g2
theorem M_195c {gb : zG} {Q : Int32 → zG → Prop} (q : ∀ g2, (∀ k, ¬ (62 ≤ k ∧ k ≤ 65) → g2 k = gb k) → (∀ k, k < 4 → ∀ j, g2 (62 + k) j = if j < 16 then gb (66 + k) j else gb (62 + k) j) → Q (gb 27 45) g2) : MG z_pI 195 78 [some (.ref 27), some (.int (0 : Int32))] [] gb Q := by
  refine z_lp (N := 16) (G := fun i => ∀ gi : zG, (∀ k, ¬ (62 ≤ k ∧ k ≤ 65) → gi k = gb k) → (∀ k, k < 4 → ∀ j, gi (62 + k) j = if j < i then gb (66 + k) j else gb (62 + k) j) → MG z_pI 195 78 [some (.ref 27), some (.int (Int32.ofNat i))] [] gi Q) ?_ ?_ gb (fun _ _ => rfl) (fun k _ j => (if_neg (by omega)).symm)
  · intro gi a b
    refine X_195_78 _ gi ?_
    rw [if_pos (by decide), a 27 (by omega)]
    exact q gi a b
  · intro i hi m gi a b
    have bi := n_bd (i := i) (N := 16) hi (by omega)
    refine X_195_78 _ gi ?_
    rw [if_neg (show ¬ (16 : Int32) ≤ Int32.ofNat i from fun z => by have := (n_lit_le (k := 16) (by omega) (by omega)).mp z; omega), n_s, n_ix (by omega)]
    refine ⟨bi, bi, bi, bi, bi, bi, bi, bi, m _ (fun k hk => ?_) (fun k hk j => ?_)⟩
    · rw [up_ne (by omega), up_ne (by omega), up_ne (by omega), up_ne (by omega)]
      exact a k hk
    · have d : k = 0 ∨ k = 1 ∨ k = 2 ∨ k = 3 := by omega
      have fin : ∀ (x : Nat), x < 4 → ∀ (y : Int32), y = gb (66 + x) i → (if j = i then y else gi (62 + x) j) = if j < i + 1 then gb (66 + x) j else gb (62 + x) j := by
        intro x hx y ey
        by_cases e : j = i
        · subst e
          rw [if_pos rfl, if_pos (by omega), ey]
        · rw [if_neg e, b x hx j]
          by_cases z : j < i
          · rw [if_pos z, if_pos (by omega)]
          · rw [if_neg z, if_neg (by omega)]
      have up : ∀ (a : zG) (k : Nat) (y : Int32), z_up2 a k i y k j = if j = i then y else a k j := by
        intro a k y
        show (if k = k ∧ j = i then y else a k j) = _
        by_cases e : j = i
        · rw [if_pos ⟨rfl, e⟩, if_pos e]
        · rw [if_neg (fun w => e w.2), if_neg e]
      rcases d with d | d | d | d <;> subst d
      · show z_up2 (z_up2 (z_up2 (z_up2 gi 62 i _) 63 i _) 64 i _) 65 i _ 62 j = _
        rw [up_ne (by decide), up_ne (by decide), up_ne (by decide), up]
        exact fin 0 (by omega) _ (by rw [a 66 (by omega)])
      · show z_up2 (z_up2 (z_up2 (z_up2 gi 62 i _) 63 i _) 64 i _) 65 i _ 63 j = _
        rw [up_ne (by decide), up_ne (by decide), up, up_ne (by decide)]
        exact fin 1 (by omega) _ (by rw [a 67 (by omega)])
      · show z_up2 (z_up2 (z_up2 (z_up2 gi 62 i _) 63 i _) 64 i _) 65 i _ 64 j = _
        rw [up_ne (by decide), up, up_ne (by decide), up_ne (by decide)]
        exact fin 2 (by omega) _ (by rw [a 68 (by omega)])
      · show z_up2 (z_up2 (z_up2 (z_up2 gi 62 i _) 63 i _) 64 i _) 65 i _ 65 j = _
        rw [up, up_ne (by decide), up_ne (by decide), up_ne (by decide)]
        exact fin 3 (by omega) _ (by rw [a 69 (by omega)])
theorem M_195f {u1 : Option Value} {Q : Int32 → zG → Prop} (s : St g) (q : Q ((-10 : Int32) - g 27 38) (z_up2 (z_up2 g 27 35 0) 27 36 (g 27 37))) : MG z_pI 195 19 [some (.ref 27), u1] [] g Q := by
  refine X_195_19 _ g ?_
  rw [if_neg s.1]
  have e1 : (z_up2 g 27 35 (0 : Int32)) 27 37 = g 27 37 := up_nj (by omega)
  have e2 : (z_up2 (z_up2 g 27 35 (0 : Int32)) 27 36 (g 27 37)) 27 37 = g 27 37 := by rw [up_nj (by omega), e1]
  have e3 : (z_up2 (z_up2 g 27 35 (0 : Int32)) 27 36 (g 27 37)) 27 38 = g 27 38 := by rw [up_nj (by omega), up_nj (by omega)]
  rw [e1, e2, e3, if_neg s.2]
  exact q
theorem M_195s {u1 : Option Value} {Q : Int32 → zG → Prop} (z : g 27 37 = 0) (z41 : g 27 41 = 0) (L : Li n R g) (q : ∀ g2, Cp g n g2 → Q (Int32.ofNat n) g2) : MG z_pI 195 19 [some (.ref 27), u1] [] g Q := by
  refine X_195_19 _ g ?_
  have e1 : (z_up2 g 27 35 (0 : Int32)) 27 37 = 0 := by rw [up_nj (by omega)]; exact z
  have e2 : (z_up2 (z_up2 g 27 35 (0 : Int32)) 27 36 0) 27 37 = 0 := by rw [up_nj (by omega), e1]
  have e3 : (z_up2 (z_up2 g 27 35 (0 : Int32)) 27 36 0) 27 50 = Int32.ofNat n := by rw [up_nj (by omega), up_nj (by omega)]; exact L.1
  rw [if_pos z, if_pos z41, e1, e2, if_pos (by decide), e3]
  refine M_195c (fun g2 a b => ?_)
  rw [up_at]
  refine q g2 ⟨fun k h1 h2 => ?_, fun i h1 h2 h3 => ?_, ?_, ?_, ?_, fun k hk i => ?_⟩
  · rw [a k h2, up_ne h1, up_ne h1, up_ne h1]
  · rw [a 27 (by omega), up_nj (fun w => h3 w.2), up_nj (fun w => h2 w.2), up_nj (fun w => h1 w.2)]
  · rw [a 27 (by omega), up_nj (by omega), up_nj (by omega), up_at]
  · rw [a 27 (by omega), up_nj (by omega), up_at]
  · rw [a 27 (by omega), up_at]
  · rw [b k hk i, up_ne (by omega), up_ne (by omega), up_ne (by omega), up_ne (by omega), up_ne (by omega), up_ne (by omega)]
theorem M_195l (T : Tq r t g0) {Q : Int32 → zG → Prop} : ∀ f p n R g u1, n + f = 16 → Wt g0 g → Tk r t p g → Li n R g → HF r t g0 Q (e_tx r t f p n R) → MG z_pI 195 19 [some (.ref 27), u1] [] g Q := by
  have fail : ∀ (c : Int32) (s : Nat) (g' : zG) (u1 : Option Value), HF r t g0 Q (.inl (c, s)) → Wt g0 g' → g' 27 37 = c → g' 27 38 = Int32.ofNat s → St g' → MG z_pI 195 19 [some (.ref 27), u1] [] g' Q := by
    intro c s g' u1 H W a b st
    refine M_195f st ?_
    rw [b, a]
    exact H g' W a b st
  intro f
  induction f with
  | zero =>
    intro p n R g u1 hn W A L H
    have e16 : n = 16 := by omega
    subst e16
    unfold e_tx at H
    by_cases z : x_k r t p = 0
    · rw [if_pos z] at H
      exact M_195s A.1 (A.2.2.2.1.trans z) L (fun g2 c => H g g2 W L c)
    · rw [if_neg z] at H
      refine X_195_19 _ g ?_
      rw [if_pos A.1, A.2.2.2.1, if_neg z]
      refine M_194F T W A L (fun g' W' a b s => ?_)
      exact fail _ _ g' _ H W' a b s
  | succ f ih =>
    intro p n R g u1 hn W A L H
    unfold e_tx at H
    by_cases z : x_k r t p = 0
    · rw [if_pos z] at H
      exact M_195s A.1 (A.2.2.2.1.trans z) L (fun g2 c => H g g2 W L c)
    · rw [if_neg z] at H
      refine X_195_19 _ g ?_
      rw [if_pos A.1, A.2.2.2.1, if_neg z]
      refine M_194 T W A L (by omega) ?_
      cases e : e_li r t p n R with
      | inl x =>
        rw [e] at H
        exact fun g' W' a b s => fail x.1 x.2 g' _ H W' a b s
      | inr x =>
        rw [e] at H
        have en := li_n e
        exact fun g' W' A' L' => ih x.1 x.2.1 x.2.2 g' _ (by omega) W' A' L' H
theorem M_195 (T : Tq r t g) {Q : Int32 → zG → Prop} (H : HF r t g Q (e_tk r t 0 (e_tx r t 16 0 0 (fun k => g (66 + k))))) : MK z_pI 195 [.ref 27] g Q := by
  refine X_195 g ?_
  have W : Wt g (z_up2 (z_up2 (z_up2 g 27 37 (0 : Int32)) 27 39 (0 : Int32)) 27 50 (0 : Int32)) := by
    intro k i hs
    rw [up_nj (fun z => by obtain ⟨rfl, rfl⟩ := z; cases hs), up_nj (fun z => by obtain ⟨rfl, rfl⟩ := z; cases hs), up_nj (fun z => by obtain ⟨rfl, rfl⟩ := z; cases hs)]
  have L : Li 0 (fun k => g (66 + k)) (z_up2 (z_up2 (z_up2 g 27 37 (0 : Int32)) 27 39 (0 : Int32)) 27 50 (0 : Int32)) := by
    refine ⟨up_at, by omega, fun k hk => ?_⟩
    rw [up_ne (by omega), up_ne (by omega), up_ne (by omega)]
  refine M_187 (W.tq T) ?_ (p := 0) (by omega) ?_ (fun z g1 w1 a b => ?_) (fun z g1 w1 A1 => ?_)
  · rw [up_nj (by omega), up_nj (by omega), up_at]
  · rw [up_nj (by omega), up_at]; rfl
  · unfold e_tk at H
    rw [if_pos z] at H
    have s : St g1 := St.of a (by decide)
    refine M_195f s ?_
    rw [b, a]
    exact H g1 (W.w7 w1) a b s
  · unfold e_tk at H
    rw [if_neg z] at H
    exact M_195l T 16 0 0 _ g1 _ rfl (W.w7 w1) A1 (L.w7 w1) H
end TK
