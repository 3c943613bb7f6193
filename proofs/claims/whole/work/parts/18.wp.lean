/-! the small machine, goal first: KG (from a place of a method), KK (a call) -/
def KG {α : Type} (p : Option Value → Option α) (y pc : Nat) (L : zL) (S : zS) (h : zH) (Q : α → zH → Prop) : Prop := ∃ v h2, z_G p y pc L S h = some (v, h2) ∧ Q v h2
def KK {α : Type} (p : Option Value → Option α) (y : Nat) (A : zS) (h : zH) (Q : α → zH → Prop) : Prop := ∃ v h2, z_K p y A h = some (v, h2) ∧ Q v h2
theorem KG.mono {α : Type} {p : Option Value → Option α} {y pc : Nat} {L : zL} {S : zS} {h : zH} {Q R : α → zH → Prop} (k : KG p y pc L S h Q) (q : ∀ v h2, Q v h2 → R v h2) : KG p y pc L S h R := by
  obtain ⟨v, h2, a, b⟩ := k
  exact ⟨v, h2, a, q v h2 b⟩
theorem KK.mono {α : Type} {p : Option Value → Option α} {y : Nat} {A : zS} {h : zH} {Q R : α → zH → Prop} (k : KK p y A h Q) (q : ∀ v h2, Q v h2 → R v h2) : KK p y A h R := by
  obtain ⟨v, h2, a, b⟩ := k
  exact ⟨v, h2, a, q v h2 b⟩
/-- 1 where it holds, 0 where not -/
def z_bt (c : Prop) [Decidable c] : Int32 := if c then 1 else 0
theorem z_bt_0 {c : Prop} [Decidable c] : z_bt c = 0 ↔ ¬ c := by
  unfold z_bt
  by_cases h : c <;> simp [h]
theorem z_bt_1 {c : Prop} [Decidable c] : z_bt c = 1 ↔ c := by
  unfold z_bt
  by_cases h : c <;> simp [h]
theorem z_bt_01 {c : Prop} [Decidable c] : z_bt c = 0 ∨ z_bt c = 1 := by
  unfold z_bt
  by_cases h : c <;> simp [h]
theorem z_cmp_lt {x y : Int64} : z_cmp x y < 0 ↔ x < y := by
  unfold z_cmp lg_cmp
  by_cases h1 : x > y
  · rw [if_pos h1]
    constructor
    · intro q; exact absurd q (by decide)
    · intro q
      have a := Int64.lt_iff_toInt_lt.mp q
      have b := Int64.lt_iff_toInt_lt.mp h1
      omega
  · rw [if_neg h1]
    by_cases h2 : x = y
    · rw [if_pos h2]
      constructor
      · intro q; exact absurd q (by decide)
      · intro q; rw [h2] at q; exact absurd q (Int64.lt_irrefl)
    · rw [if_neg h2]
      constructor
      · intro _
        have h3 : ¬ x.toInt = y.toInt := fun e => h2 (Int64.toInt_inj.mp e)
        have h4 : ¬ y.toInt < x.toInt := fun q => h1 (Int64.lt_iff_toInt_lt.mpr q)
        exact Int64.lt_iff_toInt_lt.mpr (by omega)
      · intro _; decide
theorem z_cmp_gt {x y : Int64} : 0 < z_cmp x y ↔ y < x := by
  unfold z_cmp lg_cmp
  by_cases h1 : x > y
  · rw [if_pos h1]
    exact ⟨fun _ => h1, fun _ => by decide⟩
  · rw [if_neg h1]
    by_cases h2 : x = y
    · rw [if_pos h2]
      exact ⟨fun q => absurd q (by decide), fun q => absurd q h1⟩
    · rw [if_neg h2]
      exact ⟨fun q => absurd q (by decide), fun q => absurd q h1⟩
theorem z_cmp_eq {x y : Int64} : z_cmp x y = 0 ↔ x = y := by
  unfold z_cmp lg_cmp
  by_cases h1 : x > y
  · rw [if_pos h1]
    refine ⟨fun q => absurd q (by decide), fun q => ?_⟩
    rw [q] at h1
    exact absurd h1 Int64.lt_irrefl
  · rw [if_neg h1]
    by_cases h2 : x = y
    · rw [if_pos h2]; exact ⟨fun _ => h2, fun _ => rfl⟩
    · rw [if_neg h2]; exact ⟨fun q => absurd q (by decide), fun q => absurd q h2⟩
theorem z_cmp_le {x y : Int64} : z_cmp x y ≤ 0 ↔ x ≤ y := by
  rw [← Int32.not_lt, z_cmp_gt, Int64.not_lt]
theorem z_cmp_ge {x y : Int64} : 0 ≤ z_cmp x y ↔ y ≤ x := by
  rw [← Int32.not_lt, z_cmp_lt, Int64.not_lt]
/-- k steps that are neither call nor return -/
def z_itc : Nat → Nat → Nat → zL → zS → zH → Option zT
  | 0, _, pc, L, S, h => some (pc, L, S, h)
  | k + 1, y, pc, L, S, h => bif z_isR (z_c y pc).1 || (z_isC (z_c y pc).1 && Nat.ble 2 (z_c y pc).2.2.1) then none else
    (match z_op (z_c y pc) pc L S h with
    | some (pc', L', S', h') => z_itc k y pc' L' S' h'
    | none => none)
theorem z_itc_go : ∀ (k y pc : Nat) (L : zL) (S : zS) (h : zH) (u : zT), z_itc k y pc L S h = some u → z_go y pc L S h = z_go y u.1 u.2.1 u.2.2.1 u.2.2.2 := by
  intro k
  induction k with
  | zero => intro y pc L S h u e; rw [← Option.some.inj e]
  | succ k ih =>
    intro y pc L S h u e
    unfold z_itc at e
    cases hR : z_isR (z_c y pc).1 with
    | true => rw [hR] at e; exact absurd e (by simp)
    | false =>
      cases hC : z_isC (z_c y pc).1 && Nat.ble 2 (z_c y pc).2.2.1 with
      | true => rw [hR, hC] at e; exact absurd e (by simp)
      | false =>
        rw [hR, hC] at e
        simp only [Bool.or_false, cond_false] at e
        cases hO : z_op (z_c y pc) pc L S h with
        | none => rw [hO] at e; exact absurd e (by simp)
        | some v =>
          rw [hO] at e
          rw [z_go_op hR hC, hO, Option.bind_some]
          exact ih y _ _ _ _ u e
section KR
variable {α : Type} {p : Option Value → Option α} {y pc : Nat} {L : zL} {S : zS} {h : zH} {Q : α → zH → Prop}
theorem k_K {A : zS} (e : z_ini y A = L) (k : KG p y 0 L [] h Q) : KK p y A h Q := by
  subst e; exact k
theorem k_n (n : Nat) {pc' : Nat} {L' : zL} {S' : zS} {h' : zH} (e : z_itc n y pc L S h = some (pc', L', S', h')) (k : KG p y pc' L' S' h' Q) : KG p y pc L S h Q := by
  obtain ⟨v, h2, a, b⟩ := k
  refine ⟨v, h2, ?_, b⟩
  have := z_itc_go n y pc L S h _ e
  unfold z_G at a ⊢
  rw [this]
  exact a
theorem k_g {g : Prop} [Decidable g] {pc' : Nat} {L' : zL} {S' : zS} {h' : zH} (hR : (z_isR (z_c y pc).1 || (z_isC (z_c y pc).1 && Nat.ble 2 (z_c y pc).2.2.1)) = false) (e : z_op (z_c y pc) pc L S h = if g then some (pc', L', S', h') else none) (hg : g) (k : KG p y pc' L' S' h' Q) : KG p y pc L S h Q := by
  obtain ⟨v, h2, a, b⟩ := k
  exact ⟨v, h2, ((g_g hR e).trans (if_pos hg)).trans a, b⟩
theorem k_d {g : Prop} [Decidable g] {pc' : Nat} {L' : zL} {S' : zS} {h' : zH} (hR : (z_isR (z_c y pc).1 || (z_isC (z_c y pc).1 && Nat.ble 2 (z_c y pc).2.2.1)) = false) (e : z_op (z_c y pc) pc L S h = if g then none else some (pc', L', S', h')) (hg : ¬ g) (k : KG p y pc' L' S' h' Q) : KG p y pc L S h Q := by
  obtain ⟨v, h2, a, b⟩ := k
  exact ⟨v, h2, ((g_d hR e).trans (if_neg hg)).trans a, b⟩
theorem k_b {g : Prop} [Decidable g] {pc' pc2 : Nat} {L' L2 : zL} {S' S2 : zS} {h' h2 : zH} (hR : (z_isR (z_c y pc).1 || (z_isC (z_c y pc).1 && Nat.ble 2 (z_c y pc).2.2.1)) = false) (e : z_op (z_c y pc) pc L S h = if g then some (pc', L', S', h') else some (pc2, L2, S2, h2))
    (kt : g → KG p y pc' L' S' h' Q) (kf : ¬ g → KG p y pc2 L2 S2 h2 Q) : KG p y pc L S h Q := by
  by_cases hg : g
  · obtain ⟨v, h2, a, b⟩ := kt hg
    exact ⟨v, h2, ((g_b hR e).trans (if_pos hg)).trans a, b⟩
  · obtain ⟨v, h2, a, b⟩ := kf hg
    exact ⟨v, h2, ((g_b hR e).trans (if_neg hg)).trans a, b⟩
theorem k_r {r : Option Value} {v : α} (hR : z_isR (z_c y pc).1 = true) (hr : z_ret (z_c y pc).1 (z_rt y) S = some r) (hp : p r = some v) (q : Q v h) : KG p y pc L S h Q := ⟨v, h, g_r hR hr hp, q⟩
theorem z_grd_of {z n : Nat} {A : zS} (hA : z_arg n S = A) (h1 : (Nat.ble n S.length && Nat.ble (z_wt (S.drop n)) 8 && Nat.ble (z_lcs A).length (z_ml z)) = true) (h2 : z_rok (z_rc z) h A = true) : z_grd z n S h = decide True := by
  subst hA
  unfold z_grd
  simp only [Bool.and_eq_true] at h1
  rw [h1.1.1, h1.1.2, h1.2, h2]
  rfl
theorem z_rok_ref {t a : Nat} {A : zS} (ht : z_tg h a = t) : z_rok t h (.ref a :: A) = true := by
  show (Nat.beq t 0 || Nat.beq (z_tg h a) t) = true
  rw [show Nat.beq (z_tg h a) t = true from by rw [ht]; exact Nat.beq_refl t]
  exact Bool.or_true _
theorem k_cI (z n : Nat) {A : zS} {rest : zS} (hz : (z_c y pc).2.2.1 = z) (hn : (z_c y pc).2.2.2.1 = n) (hR : (z_isR (z_c y pc).1 || !z_isC (z_c y pc).1 || !Nat.ble 2 z) = false) (hA : z_arg n S = A) (h1 : (Nat.ble n S.length && Nat.ble (z_wt (S.drop n)) 8 && Nat.ble (z_lcs A).length (z_ml z)) = true) (h2 : z_rok (z_rc z) h A = true) (hr : S.drop n = rest) (hT : ∀ r, z_typ (z_rt z) r → ∃ v, r = some (.int v))
    (k : KK z_pI z A h (fun r h1 => KG p y (pc + 3) L (.int r :: rest) h1 Q)) : KG p y pc L S h Q := by
  obtain ⟨v, h3, a, v2, h4, b, c⟩ := k
  refine ⟨v2, h4, ?_, c⟩
  rw [g_cI z n hz hn hR (z_grd_of hA h1 h2) hA hr hT, if_pos trivial, a]
  exact b
theorem k_cL (z n : Nat) {A : zS} {rest : zS} (hz : (z_c y pc).2.2.1 = z) (hn : (z_c y pc).2.2.2.1 = n) (hR : (z_isR (z_c y pc).1 || !z_isC (z_c y pc).1 || !Nat.ble 2 z) = false) (hA : z_arg n S = A) (h1 : (Nat.ble n S.length && Nat.ble (z_wt (S.drop n)) 8 && Nat.ble (z_lcs A).length (z_ml z)) = true) (h2 : z_rok (z_rc z) h A = true) (hr : S.drop n = rest) (hT : z_rt z = some .long)
    (k : KK z_pL z A h (fun r h1 => KG p y (pc + 3) L (.long r :: rest) h1 Q)) : KG p y pc L S h Q := by
  obtain ⟨v, h3, a, v2, h4, b, c⟩ := k
  refine ⟨v2, h4, ?_, c⟩
  rw [g_cL z n hz hn hR (z_grd_of hA h1 h2) hA hr hT, if_pos trivial, a]
  exact b
theorem k_cV (z n : Nat) {A : zS} {rest : zS} (hz : (z_c y pc).2.2.1 = z) (hn : (z_c y pc).2.2.2.1 = n) (hR : (z_isR (z_c y pc).1 || !z_isC (z_c y pc).1 || !Nat.ble 2 z) = false) (hA : z_arg n S = A) (h1 : (Nat.ble n S.length && Nat.ble (z_wt (S.drop n)) 8 && Nat.ble (z_lcs A).length (z_ml z)) = true) (h2 : z_rok (z_rc z) h A = true) (hr : S.drop n = rest) (hT : z_rt z = none)
    (k : KK z_pV z A h (fun _ h1 => KG p y (pc + 3) L rest h1 Q)) : KG p y pc L S h Q := by
  obtain ⟨v, h3, a, v2, h4, b, c⟩ := k
  refine ⟨v2, h4, ?_, c⟩
  rw [g_cV z n hz hn hR (z_grd_of hA h1 h2) hA hr hT, if_pos trivial, a]
  exact b
theorem k_cA (z n : Nat) {A : zS} {rest : zS} (nm : String) (hz : (z_c y pc).2.2.1 = z) (hn : (z_c y pc).2.2.2.1 = n) (hR : (z_isR (z_c y pc).1 || !z_isC (z_c y pc).1 || !Nat.ble 2 z) = false) (hA : z_arg n S = A) (h1 : (Nat.ble n S.length && Nat.ble (z_wt (S.drop n)) 8 && Nat.ble (z_lcs A).length (z_ml z)) = true) (h2 : z_rok (z_rc z) h A = true) (hr : S.drop n = rest) (hT : z_rt z = some (.object nm)) (hN : ¬ nm = "java/lang/String")
    (k : KK z_pA z A h (fun r h1 => KG p y (pc + 3) L (va_rf r :: rest) h1 Q)) : KG p y pc L S h Q := by
  obtain ⟨v, h3, a, v2, h4, b, c⟩ := k
  refine ⟨v2, h4, ?_, c⟩
  rw [g_cA z n nm hz hn hR (z_grd_of hA h1 h2) hA hr hT hN, if_pos trivial, a]
  exact b
theorem k_cS (z n : Nat) {A : zS} {rest : zS} (hz : (z_c y pc).2.2.1 = z) (hn : (z_c y pc).2.2.2.1 = n) (hR : (z_isR (z_c y pc).1 || !z_isC (z_c y pc).1 || !Nat.ble 2 z) = false) (hA : z_arg n S = A) (h1 : (Nat.ble n S.length && Nat.ble (z_wt (S.drop n)) 8 && Nat.ble (z_lcs A).length (z_ml z)) = true) (h2 : z_rok (z_rc z) h A = true) (hr : S.drop n = rest) (hT : z_rt z = some (.object "java/lang/String"))
    (k : KK z_pS z A h (fun r h1 => KG p y (pc + 3) L (.retAddr r :: rest) h1 Q)) : KG p y pc L S h Q := by
  obtain ⟨v, h3, a, v2, h4, b, c⟩ := k
  refine ⟨v2, h4, ?_, c⟩
  rw [g_cS z n hz hn hR (z_grd_of hA h1 h2) hA hr hT, if_pos trivial, a]
  exact b
theorem z_tyI {z : Nat} {t : FieldType} (e : z_rt z = some t) (ht : (match t with | .long => false | .object _ => false | _ => true) = true) : ∀ r, z_typ (z_rt z) r → ∃ v, r = some (.int v) := by
  intro r hr
  rw [e] at hr
  unfold z_typ at hr
  cases t <;> first | exact hr | cases ht
/-- a field that is an int -/
theorem k_gI {i c j a : Nat} {kd : Int} (e : z_c y pc = (.getfield i, 3, c, j, kd)) (hv : z_fv h a j kd = .int (z_iv h a j)) (ht : z_tg h a = c) (k : KG p y (pc + 3) L (.int (z_iv h a j) :: S) h Q) : KG p y pc L (.ref a :: S) h Q := by
  refine k_g (g := z_tg h a = c) (by rw [e]; rfl) (by rw [e]; show (if z_tg h a = c then some (pc + 3, L, z_fv h a j kd :: S, h) else none) = _; rw [hv]) ht k
theorem k_gL {i c j a : Nat} (e : z_c y pc = (.getfield i, 3, c, j, 1)) (ht : z_tg h a = c) (k : KG p y (pc + 3) L (.long (z_lv h a j) :: S) h Q) : KG p y pc L (.ref a :: S) h Q :=
  k_g (g := z_tg h a = c) (by rw [e]; rfl) (by rw [e]; rfl) ht k
theorem k_gR {i c j a : Nat} (e : z_c y pc = (.getfield i, 3, c, j, 2)) (ht : z_tg h a = c) {r : Option Nat} (hr : z_rv h a j = r) (k : KG p y (pc + 3) L (va_rf r :: S) h Q) : KG p y pc L (.ref a :: S) h Q := by
  subst hr
  exact k_g (g := z_tg h a = c) (by rw [e]; rfl) (by rw [e]; rfl) ht k
theorem k_pI {i c j a : Nat} {x : Int32} (e : z_c y pc = (.putfield i, 3, c, j, 0)) (ht : z_tg h a = c) (k : KG p y (pc + 3) L S (z_sI h a j x) Q) : KG p y pc L (.int x :: .ref a :: S) h Q :=
  k_g (g := z_tg h a = c ∧ ((0 : Int) = 0 ∨ ((0 : Int) = 3 ∧ (x = 0 ∨ x = 1)))) (by rw [e]; rfl) (by rw [e]; rfl) ⟨ht, Or.inl rfl⟩ k
theorem k_pZ {i c j a : Nat} {x : Int32} (e : z_c y pc = (.putfield i, 3, c, j, 3)) (ht : z_tg h a = c) (hx : x = 0 ∨ x = 1) (k : KG p y (pc + 3) L S (z_sI h a j x) Q) : KG p y pc L (.int x :: .ref a :: S) h Q :=
  k_g (g := z_tg h a = c ∧ ((3 : Int) = 0 ∨ ((3 : Int) = 3 ∧ (x = 0 ∨ x = 1)))) (by rw [e]; rfl) (by rw [e]; rfl) ⟨ht, Or.inr ⟨rfl, hx⟩⟩ k
theorem k_pL {i c j a : Nat} {x : Int64} (e : z_c y pc = (.putfield i, 3, c, j, 1)) (ht : z_tg h a = c) (k : KG p y (pc + 3) L S (z_sL h a j x) Q) : KG p y pc L (.long x :: .ref a :: S) h Q :=
  k_g (g := z_tg h a = c ∧ (1 : Int) = 1) (by rw [e]; rfl) (by rw [e]; rfl) ⟨ht, rfl⟩ k
theorem k_pR {i c j a b : Nat} (e : z_c y pc = (.putfield i, 3, c, j, 2)) (ht : z_tg h a = c) (k : KG p y (pc + 3) L S (z_sR h a j (some b)) Q) : KG p y pc L (.ref b :: .ref a :: S) h Q :=
  k_g (g := z_tg h a = c ∧ (2 : Int) = 2) (by rw [e]; rfl) (by rw [e]; rfl) ⟨ht, rfl⟩ k
theorem k_pN {i c j a : Nat} (e : z_c y pc = (.putfield i, 3, c, j, 2)) (ht : z_tg h a = c) (k : KG p y (pc + 3) L S (z_sR h a j none) Q) : KG p y pc L (.null :: .ref a :: S) h Q :=
  k_g (g := z_tg h a = c ∧ (2 : Int) = 2) (by rw [e]; rfl) (by rw [e]; rfl) ⟨ht, rfl⟩ k
theorem k_ia {a b c : Nat} {v : Int} {i : Int32} {n : Nat} (e : z_c y pc = (.iaload, 1, a, b, v)) {q : Nat} (ht : z_tg h q = 100) (hl : z_ln h q = n) (hi : 0 ≤ i.toInt ∧ i.toInt < (n : Int)) (k : KG p y (pc + 1) L (.int (z_iv h q (z_ix i)) :: S) h Q) : KG p y pc L (.int i :: .ref q :: S) h Q := by
  subst hl
  exact k_g (g := z_tg h q = 100 ∧ (0 ≤ i.toInt ∧ i.toInt < (z_ln h q : Int))) (by rw [e]; rfl) (by rw [e]; rfl) ⟨ht, hi⟩ k
theorem k_za {a b : Nat} {v : Int} {i : Int32} {n : Nat} (e : z_c y pc = (.baload, 1, a, b, v)) {q : Nat} (ht : z_tg h q = 101) (hl : z_ln h q = n) (hi : 0 ≤ i.toInt ∧ i.toInt < (n : Int)) (k : KG p y (pc + 1) L (.int (z_iv h q (z_ix i)) :: S) h Q) : KG p y pc L (.int i :: .ref q :: S) h Q := by
  subst hl
  exact k_g (g := z_tg h q = 101 ∧ (0 ≤ i.toInt ∧ i.toInt < (z_ln h q : Int))) (by rw [e]; rfl) (by rw [e]; rfl) ⟨ht, hi⟩ k
theorem k_is {a b : Nat} {v : Int} {i x : Int32} {n : Nat} (e : z_c y pc = (.iastore, 1, a, b, v)) {q : Nat} (ht : z_tg h q = 100) (hl : z_ln h q = n) (hi : 0 ≤ i.toInt ∧ i.toInt < (n : Int)) (k : KG p y (pc + 1) L S (z_sI h q (z_ix i) x) Q) : KG p y pc L (.int x :: .int i :: .ref q :: S) h Q := by
  subst hl
  exact k_g (g := z_tg h q = 100 ∧ (0 ≤ i.toInt ∧ i.toInt < (z_ln h q : Int)) ∧ (100 = 100 ∨ x = 0 ∨ x = 1)) (by rw [e]; rfl) (by rw [e]; rfl) ⟨ht, hi, Or.inl rfl⟩ k
theorem k_zs {a b : Nat} {v : Int} {i x : Int32} {n : Nat} (e : z_c y pc = (.bastore, 1, a, b, v)) {q : Nat} (ht : z_tg h q = 101) (hl : z_ln h q = n) (hi : 0 ≤ i.toInt ∧ i.toInt < (n : Int)) (hx : x = 0 ∨ x = 1) (k : KG p y (pc + 1) L S (z_sI h q (z_ix i) x) Q) : KG p y pc L (.int x :: .int i :: .ref q :: S) h Q := by
  subst hl
  exact k_g (g := z_tg h q = 101 ∧ (0 ≤ i.toInt ∧ i.toInt < (z_ln h q : Int)) ∧ (101 = 100 ∨ x = 0 ∨ x = 1)) (by rw [e]; rfl) (by rw [e]; rfl) ⟨ht, hi, Or.inr hx⟩ k
end KR
theorem z_all {α : Sort _} {m e : α} {P : α → Prop} (h : m = e) (k : P m) : ∀ x, x = e → P x := by
  intro x hx
  rw [hx, ← h]
  exact k
theorem z_retB {v : Int32} (hv : v = 0 ∨ v = 1) : z_ret .ireturn (some .boolean) [.int v] = some (some (.int v)) := by
  show (match (if v = 0 ∨ v = 1 then some (Value.int v) else none) with
      | some w => some (some w)
      | none => none) = some (some (.int v))
  rw [if_pos hv]
theorem z_swN {x k : Int32} {lo o d r : Int} {os : List Int} (h : ¬ x = k) (e : k = Int32.ofInt lo) (q : z_swI x (lo + 1) os d = r) : z_swI x lo (o :: os) d = r := by
  subst e
  rw [z_swI, if_neg h]
  exact q
theorem z_swT {x k : Int32} {lo o d : Int} {os : List Int} (h : x = k) (e : k = Int32.ofInt lo) : z_swI x lo (o :: os) d = o := by
  subst e
  rw [z_swI, if_pos h]
theorem k_sw {α : Type} {p : Option Value → Option α} {y pc : Nat} {L : zL} {S : zS} {h : zH} {Q : α → zH → Prop} {a b len : Nat} {v : Int} {d lo hi : Int} {offs : Array Int} {x : Int32} {pc' : Nat} (e : z_c y pc = (.tableswitch d lo hi offs, len, a, b, v)) (ht : z_tgt pc (z_swI x lo offs.toList d) = pc') (k : KG p y pc' L S h Q) : KG p y pc L (.int x :: S) h Q := by
  subst ht
  refine k_n 1 (pc' := z_tgt pc (z_swI x lo offs.toList d)) (L' := L) (S' := S) (h' := h) ?_ k
  unfold z_itc
  simp only [e]
  rfl
