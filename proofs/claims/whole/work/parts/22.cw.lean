/-! the class's part of the heap: what its references are -/
def c_tyl : List (Nat × Nat × Nat) := [(1, 0, 100), (1, 1, 100), (1, 2, 100), (1, 3, 100), (1, 4, 100), (2, 0, 4), (2, 1, 3), (2, 2, 1), (4, 2, 100), (4, 3, 100), (4, 4, 100), (4, 9, 10), (4, 10, 3), (5, 0, 3), (5, 1, 10), (6, 2, 100), (6, 3, 100), (6, 4, 100), (6, 5, 100), (7, 2, 9), (7, 3, 1), (8, 1, 100), (9, 0, 100), (11, 0, 102), (11, 1, 103), (11, 2, 104), (11, 3, 105), (11, 4, 100), (11, 5, 9), (11, 6, 7), (11, 7, 6), (11, 8, 2), (11, 9, 1), (11, 10, 1)]
def c_look (t j : Nat) : List (Nat × Nat × Nat) → Nat
  | [] => 0
  | q :: l => bif Nat.beq q.1 t && Nat.beq q.2.1 j then q.2.2 else c_look t j l
/-- the tag of what a reference at place j of a cell of tag t leads to -/
def c_ty (t j : Nat) : Nat := bif Nat.ble 100 t then z_el t else c_look t j c_tyl
/-- references that never change: (tag, place, how far behind the cell, its length) -/
def c_rel : List (Nat × Nat × Nat × Nat) := [(1, 0, 1, 16), (1, 1, 2, 16), (1, 2, 3, 16), (1, 3, 4, 16), (1, 4, 5, 16), (4, 2, 1, 12), (4, 3, 2, 8), (4, 4, 3, 360), (6, 2, 1, 6), (6, 3, 2, 6), (6, 4, 3, 6), (6, 5, 4, 36), (9, 0, 1, 200)]
/-- (tag, place, the cell, its length) -/
def c_abs : List (Nat × Nat × Nat × Nat) := [(7, 2, 6, 0), (11, 0, 1, 6), (11, 1, 2, 12), (11, 2, 3, 60), (11, 3, 4, 4), (11, 4, 5, 12), (11, 5, 6, 0), (11, 6, 8, 0), (11, 7, 9, 0), (11, 8, 14, 0)]
/-- places that may change -/
def c_free (t j : Nat) : Bool := (Nat.ble 100 t && Nat.blt t 106) || (Nat.beq t 2) || (Nat.beq t 4 && Nat.ble 9 j) || (Nat.beq t 5) || (Nat.beq t 7 && Nat.beq j 3) || (Nat.beq t 11 && Nat.ble 9 j)
def CW (h : zH) : Prop :=
  (∀ a j b, ¬ z_tg h a = 12 → z_rv h a j = some b → z_tg h b = c_ty (z_tg h a) j) ∧
  (∀ q ∈ c_rel, ∀ a, z_tg h a = q.1 → z_rv h a q.2.1 = some (a + q.2.2.1) ∧ z_ln h (a + q.2.2.1) = q.2.2.2) ∧
  (∀ q ∈ c_abs, ∀ a, z_tg h a = q.1 → z_rv h a q.2.1 = some q.2.2.1 ∧ z_ln h q.2.2.1 = q.2.2.2) ∧
  (∀ a, z_tg h a = 8 → z_rv h a 1 = some (a + 1) ∧ z_ln h (a + 1) ≤ 48) ∧
  (∀ a, ¬ z_tg h a = 0 → a < z_nx h) ∧ z_tg h 0 = 11 ∧ 89 ≤ z_nx h ∧ (∀ a j b, z_rv h a j = some b → b < z_nx h)
theorem CW.ty {h : zH} (W : CW h) : ∀ a j b, ¬ z_tg h a = 12 → z_rv h a j = some b → z_tg h b = c_ty (z_tg h a) j := W.1
theorem CW.re {h : zH} (W : CW h) : ∀ q ∈ c_rel, ∀ a, z_tg h a = q.1 → z_rv h a q.2.1 = some (a + q.2.2.1) ∧ z_ln h (a + q.2.2.1) = q.2.2.2 := W.2.1
theorem CW.ab {h : zH} (W : CW h) : ∀ q ∈ c_abs, ∀ a, z_tg h a = q.1 → z_rv h a q.2.1 = some q.2.2.1 ∧ z_ln h q.2.2.1 = q.2.2.2 := W.2.2.1
theorem CW.sh {h : zH} (W : CW h) : ∀ a, z_tg h a = 8 → z_rv h a 1 = some (a + 1) ∧ z_ln h (a + 1) ≤ 48 := W.2.2.2.1
theorem CW.lt {h : zH} (W : CW h) : ∀ a, ¬ z_tg h a = 0 → a < z_nx h := W.2.2.2.2.1
theorem CW.t0 {h : zH} (W : CW h) : z_tg h 0 = 11 := W.2.2.2.2.2.1
theorem CW.ge {h : zH} (W : CW h) : 89 ≤ z_nx h := W.2.2.2.2.2.2.1
theorem CW.lv {h : zH} (W : CW h) : ∀ a j b, z_rv h a j = some b → b < z_nx h := W.2.2.2.2.2.2.2
theorem CW.sI {h : zH} {a i : Nat} {x : Int32} (W : CW h) : CW (z_sI h a i x) := W
theorem CW.sW {h : zH} {a : Nat} {r : Nat → Int32} (W : CW h) : CW (z_sW h a r) := W
theorem c_free_rel {t j : Nat} (hf : c_free t j = true) : (∀ q ∈ c_rel, ¬ (t = q.1 ∧ j = q.2.1)) ∧ (∀ q ∈ c_abs, ¬ (t = q.1 ∧ j = q.2.1)) ∧ ¬ (t = 8 ∧ j = 1) := by
  refine ⟨fun q hq e => ?_, fun q hq e => ?_, fun e => ?_⟩
  · rw [e.1, e.2] at hf
    have : ∀ q ∈ c_rel, c_free q.1 q.2.1 = false := by decide
    rw [this q hq] at hf
    cases hf
  · rw [e.1, e.2] at hf
    have : ∀ q ∈ c_abs, c_free q.1 q.2.1 = false := by decide
    rw [this q hq] at hf
    cases hf
  · rw [e.1, e.2] at hf
    exact absurd hf (by decide)
theorem CW.sR {h : zH} {a j t : Nat} {r : Option Nat} (W : CW h) (ha : z_tg h a = t) (hf : c_free t j = true) (hr : ∀ b, r = some b → z_tg h b = c_ty t j) (hz : ¬ c_ty t j = 0) : CW (z_sR h a j r) := by
  obtain ⟨f1, f2, f3⟩ := c_free_rel hf
  have ne : ∀ {b k}, ¬ (z_tg h b = t ∧ k = j) → z_rv (z_sR h a j r) b k = z_rv h b k := by
    intro b k hn
    show z_up2 (z_rv h) a j r b k = z_rv h b k
    unfold z_up2
    rw [if_neg]
    rintro ⟨e1, e2⟩
    subst e1
    exact hn ⟨ha, e2⟩
  refine ⟨fun b k c hb hc => ?_, fun q hq b hb => ?_, fun q hq b hb => ?_, fun b hb => ?_, W.lt, W.t0, W.ge, fun b k c hc => ?_⟩
  · have hc : z_up2 (z_rv h) a j r b k = some c := hc
    unfold z_up2 at hc
    by_cases e : b = a ∧ k = j
    · rw [if_pos e] at hc
      rw [e.1, e.2]
      show z_tg h c = c_ty (z_tg h a) j
      rw [ha]
      exact hr c hc
    · rw [if_neg e] at hc
      exact W.ty b k c hb hc
  · have hb : z_tg h b = q.1 := hb
    rw [ne (fun e => f1 q hq ⟨e.1.symm.trans hb, e.2.symm⟩)]
    exact W.re q hq b hb
  · have hb : z_tg h b = q.1 := hb
    rw [ne (fun e => f2 q hq ⟨e.1.symm.trans hb, e.2.symm⟩)]
    exact W.ab q hq b hb
  · have hb : z_tg h b = 8 := hb
    rw [ne (fun e => f3 ⟨e.1.symm.trans hb, e.2.symm⟩)]
    exact W.sh b hb
  · have hc : z_up2 (z_rv h) a j r b k = some c := hc
    unfold z_up2 at hc
    by_cases e : b = a ∧ k = j
    · rw [if_pos e] at hc
      exact W.lt c (by rw [hr c hc]; exact hz)
    · rw [if_neg e] at hc
      exact W.lv b k c hc
theorem z_nw_at {h : zH} {c l n : Nat} : z_tg (z_nw h c l n) (z_nx h) = c := if_pos rfl
theorem z_nw_tg {h : zH} {c l n b : Nat} (hb : ¬ b = z_nx h) : z_tg (z_nw h c l n) b = z_tg h b := if_neg hb
theorem z_nw_ln {h : zH} {c l n b : Nat} (hb : ¬ b = z_nx h) : z_ln (z_nw h c l n) b = z_ln h b := if_neg hb
theorem z_nw_lnat {h : zH} {c l n : Nat} : z_ln (z_nw h c l n) (z_nx h) = l := if_pos rfl
theorem z_nw_rv {h : zH} {c l n b : Nat} (hb : ¬ b = z_nx h) : z_rv (z_nw h c l n) b = z_rv h b := z_row_ne hb
theorem z_nw_rvat {h : zH} {c l n : Nat} : z_rv (z_nw h c l n) (z_nx h) = fun _ => none := z_row_at
theorem z_nw_iv {h : zH} {c l n b : Nat} (hb : ¬ b = z_nx h) : z_iv (z_nw h c l n) b = z_iv h b := z_row_ne hb
theorem z_nw_ivat {h : zH} {c l n : Nat} : z_iv (z_nw h c l n) (z_nx h) = fun _ => 0 := z_row_at
theorem CW.keep {h : zH} (W : CW h) {c l n b t : Nat} (hb : z_tg h b = t) (ht : ¬ t = 0) : z_tg (z_nw h c l n) b = t := by
  rw [z_nw_tg (by have := W.lt b (by rw [hb]; exact ht); omega)]
  exact hb
theorem CW.keepL {h : zH} (W : CW h) {c l n b t m : Nat} (hb : z_tg h b = t) (ht : ¬ t = 0) (hl : z_ln h b = m) : z_ln (z_nw h c l n) b = m := by
  rw [z_nw_ln (by have := W.lt b (by rw [hb]; exact ht); omega)]
  exact hl
theorem CW.nw {h : zH} (W : CW h) {c l n : Nat} (hc : c = 3 ∨ c = 5 ∨ c = 10 ∨ c = 100) : CW (z_nw h c l n) := by
  have nt : ∀ {b t}, z_tg (z_nw h c l n) b = t → ¬ t = c → ¬ b = z_nx h := fun e1 e2 e3 => e2 (by rw [← e1, e3]; exact z_nw_at)
  have rn : ∀ {a j b}, z_rv (z_nw h c l n) a j = some b → z_rv h a j = some b ∧ ¬ a = z_nx h := by
    intro a j b hb
    by_cases e : a = z_nx h
    · rw [e, z_nw_rvat] at hb
      cases hb
    · rw [z_nw_rv e] at hb
      exact ⟨hb, e⟩
  have c1 : ∀ q ∈ c_rel, ¬ q.1 = c := by
    intro q hq
    have : ∀ q ∈ c_rel, ¬ q.1 = 3 ∧ ¬ q.1 = 5 ∧ ¬ q.1 = 10 ∧ ¬ q.1 = 100 := by decide
    have := this q hq
    omega
  have c2 : ∀ q ∈ c_abs, ¬ q.1 = c := by
    intro q hq
    have : ∀ q ∈ c_abs, ¬ q.1 = 3 ∧ ¬ q.1 = 5 ∧ ¬ q.1 = 10 ∧ ¬ q.1 = 100 := by decide
    have := this q hq
    omega
  refine ⟨fun a j b ha hb => ?_, fun q hq a ha => ?_, fun q hq a ha => ?_, fun a ha => ?_, fun a ha => ?_, ?_, ?_, fun a j b hb => ?_⟩
  · obtain ⟨hb, e⟩ := rn hb
    rw [z_nw_tg e] at ha ⊢
    rw [z_nw_tg (by have := W.lv a j b hb; omega)]
    exact W.ty a j b ha hb
  · have e := nt ha (c1 q hq)
    rw [z_nw_tg e] at ha
    obtain ⟨r1, r2⟩ := W.re q hq a ha
    refine ⟨by rw [z_nw_rv e]; exact r1, ?_⟩
    rw [z_nw_ln (by have := W.lv a _ _ r1; omega)]
    exact r2
  · have e := nt ha (c2 q hq)
    rw [z_nw_tg e] at ha
    obtain ⟨r1, r2⟩ := W.ab q hq a ha
    refine ⟨by rw [z_nw_rv e]; exact r1, ?_⟩
    rw [z_nw_ln (by have := W.lv a _ _ r1; omega)]
    exact r2
  · have e := nt ha (by omega)
    rw [z_nw_tg e] at ha
    obtain ⟨r1, r2⟩ := W.sh a ha
    refine ⟨by rw [z_nw_rv e]; exact r1, ?_⟩
    rw [z_nw_ln (by have := W.lv a _ _ r1; omega)]
    exact r2
  · show a < z_nx h + 1
    by_cases e : a = z_nx h
    · omega
    · rw [z_nw_tg e] at ha
      have := W.lt a ha
      omega
  · exact W.keep W.t0 (by decide)
  · have := W.ge
    show 89 ≤ z_nx h + 1
    omega
  · have := W.lv a j b (rn hb).1
    show b < z_nx h + 1
    omega
theorem CW.tyOf {h : zH} (W : CW h) {a j b t t' : Nat} (ha : z_tg h a = t) (hb : z_rv h a j = some b) (hn : ¬ t = 12) (e : c_ty t j = t') : z_tg h b = t' := by
  rw [W.ty a j b (by rw [ha]; exact hn) hb, ha, e]
theorem CW.reOf {h : zH} (W : CW h) {a t j o n : Nat} (hm : (t, j, o, n) ∈ c_rel) (ha : z_tg h a = t) : z_rv h a j = some (a + o) ∧ z_ln h (a + o) = n := W.re _ hm a ha
theorem CW.abOf {h : zH} (W : CW h) {a t j o n : Nat} (hm : (t, j, o, n) ∈ c_abs) (ha : z_tg h a = t) : z_rv h a j = some o ∧ z_ln h o = n := W.ab _ hm a ha
theorem z_opt (o : Option Nat) : o = none ∨ ∃ b, o = some b := by
  cases o with
  | none => exact Or.inl rfl
  | some b => exact Or.inr ⟨b, rfl⟩
section KR2
variable {α : Type} {p : Option Value → Option α} {y pc : Nat} {L : zL} {S : zS} {h : zH} {Q : α → zH → Prop}
theorem k_oN {o : Option Nat} (e : o = none) (k : KG p y pc L (.null :: S) h Q) : KG p y pc L (va_rf o :: S) h Q := by subst e; exact k
theorem k_oS {o : Option Nat} {b : Nat} (e : o = some b) (k : KG p y pc L (.ref b :: S) h Q) : KG p y pc L (va_rf o :: S) h Q := by subst e; exact k
theorem k_gN {i c j a : Nat} (e : z_c y pc = (.getfield i, 3, c, j, 2)) (ht : z_tg h a = c) (hr : z_rv h a j = none) (k : KG p y (pc + 3) L (.null :: S) h Q) : KG p y pc L (.ref a :: S) h Q := k_gR e ht hr k
theorem k_gS {i c j a b : Nat} (e : z_c y pc = (.getfield i, 3, c, j, 2)) (ht : z_tg h a = c) (hr : z_rv h a j = some b) (k : KG p y (pc + 3) L (.ref b :: S) h Q) : KG p y pc L (.ref a :: S) h Q := k_gR e ht hr k
theorem k_aa {a b : Nat} {v : Int} {i : Int32} {n t : Nat} (e : z_c y pc = (.aaload, 1, a, b, v)) {q : Nat} (ht : z_tg h q = t) (h1 : (Nat.ble 102 t && Nat.blt t 106) = true) (hl : z_ln h q = n) (hi : 0 ≤ i.toInt ∧ i.toInt < (n : Int)) {r : Option Nat} (hr : z_rv h q (z_ix i) = r) (k : KG p y (pc + 1) L (va_rf r :: S) h Q) : KG p y pc L (.int i :: .ref q :: S) h Q := by
  subst hl; subst hr; subst ht
  simp only [Bool.and_eq_true] at h1
  exact k_g (g := (102 ≤ z_tg h q ∧ z_tg h q < 106) ∧ (0 ≤ i.toInt ∧ i.toInt < (z_ln h q : Int))) (by rw [e]; rfl) (by rw [e]; rfl) ⟨⟨Nat.le_of_ble_eq_true h1.1, Nat.le_of_ble_eq_true h1.2⟩, hi⟩ k
theorem k_aN {a b : Nat} {v : Int} {i : Int32} {n t : Nat} (e : z_c y pc = (.aaload, 1, a, b, v)) {q : Nat} (ht : z_tg h q = t) (h1 : (Nat.ble 102 t && Nat.blt t 106) = true) (hl : z_ln h q = n) (hi : 0 ≤ i.toInt ∧ i.toInt < (n : Int)) (hr : z_rv h q (z_ix i) = none) (k : KG p y (pc + 1) L (.null :: S) h Q) : KG p y pc L (.int i :: .ref q :: S) h Q := k_aa e ht h1 hl hi hr k
theorem k_aS {a b c : Nat} {v : Int} {i : Int32} {n t : Nat} (e : z_c y pc = (.aaload, 1, a, b, v)) {q : Nat} (ht : z_tg h q = t) (h1 : (Nat.ble 102 t && Nat.blt t 106) = true) (hl : z_ln h q = n) (hi : 0 ≤ i.toInt ∧ i.toInt < (n : Int)) (hr : z_rv h q (z_ix i) = some c) (k : KG p y (pc + 1) L (.ref c :: S) h Q) : KG p y pc L (.int i :: .ref q :: S) h Q := k_aa e ht h1 hl hi hr k
theorem k_as {a b c : Nat} {v : Int} {i : Int32} {n t : Nat} (e : z_c y pc = (.aastore, 1, a, b, v)) {q : Nat} (ht : z_tg h q = t) (h1 : (Nat.ble 102 t && Nat.blt t 106) = true) (hl : z_ln h q = n) (hi : 0 ≤ i.toInt ∧ i.toInt < (n : Int)) (hc : z_tg h c = z_el t) (k : KG p y (pc + 1) L S (z_sR h q (z_ix i) (some c)) Q) : KG p y pc L (.ref c :: .int i :: .ref q :: S) h Q := by
  subst hl; subst ht
  simp only [Bool.and_eq_true] at h1
  exact k_g (g := (102 ≤ z_tg h q ∧ z_tg h q < 106) ∧ (0 ≤ i.toInt ∧ i.toInt < (z_ln h q : Int)) ∧ z_tg h c = z_el (z_tg h q)) (by rw [e]; rfl) (by rw [e]; rfl) ⟨⟨Nat.le_of_ble_eq_true h1.1, Nat.le_of_ble_eq_true h1.2⟩, hi, hc⟩ k
theorem k_ln {a b : Nat} {v : Int} {n t : Nat} (e : z_c y pc = (.arraylength, 1, a, b, v)) {q : Nat} (ht : z_tg h q = t) (h1 : (Nat.ble 100 t && Nat.blt t 106) = true) (hl : z_ln h q = n) (k : KG p y (pc + 1) L (.int (Int32.ofNat n) :: S) h Q) : KG p y pc L (.ref q :: S) h Q := by
  subst hl; subst ht
  simp only [Bool.and_eq_true] at h1
  exact k_g (g := 100 ≤ z_tg h q ∧ z_tg h q < 106) (by rw [e]; rfl) (by rw [e]; rfl) ⟨Nat.le_of_ble_eq_true h1.1, Nat.le_of_ble_eq_true h1.2⟩ k
theorem k_na {a t : Nat} {v : Int} {i : Int32} {at' : _} (e : z_c y pc = (.newarray at', 2, t, a, v)) (hi : 0 ≤ i.toInt ∧ i.toInt ≤ 100000) (k : KG p y (pc + 2) L (.ref (z_nx h) :: S) (z_nw h t (z_ix i) (z_ix i)) Q) : KG p y pc L (.int i :: S) h Q :=
  k_g (g := 0 ≤ i.toInt ∧ i.toInt ≤ 100000) (by rw [e]; rfl) (by rw [e]; rfl) hi k
/-- a static row of ints -/
theorem k_sa {a b q : Nat} {v : Int} {i : Int32} {n : Nat} (e : z_c y pc = (.iaload, 1, a, b, v)) (hq : Nat.blt q 3 = true) (hl : (z_st.getD q []).length = n) (hi : 0 ≤ i.toInt ∧ i.toInt < (n : Int)) (k : KG p y (pc + 1) L (.int ((z_st.getD q []).getD (z_ix i) 0) :: S) h Q) : KG p y pc L (.int i :: .retAddr q :: S) h Q := by
  have hq := Nat.le_of_ble_eq_true hq
  have hn : Nat.beq q 19 = false := by
    cases hb : Nat.beq q 19 with
    | false => rfl
    | true => exact absurd (Nat.eq_of_beq_eq_true hb) (by omega)
  have h1 : z_sl h q = n := by unfold z_sl; rw [hn]; exact hl
  have h2 : z_sv h q (z_ix i) = (z_st.getD q []).getD (z_ix i) 0 := by unfold z_sv; rw [hn]; rfl
  refine k_g (g := (q < 3 ∨ q = 19) ∧ (0 ≤ i.toInt ∧ i.toInt < (z_sl h q : Int))) (by rw [e]; rfl) (by rw [e]; rfl) ⟨Or.inl hq, by rw [h1]; exact hi⟩ ?_
  rw [h2]
  exact k
theorem k_cp {a b : Nat} {u v w : Int32} {i c : Nat} {kd : Int} (e : z_c y pc = (.invokestatic i, 3, 1, c, kd)) {la lb : Nat} (ha : z_tg h a = 100) (hb : z_tg h b = 100) (hab : ¬ a = b) (la' : z_ln h a = la) (lb' : z_ln h b = lb) (hi : 0 ≤ u.toInt ∧ 0 ≤ v.toInt ∧ 0 ≤ w.toInt ∧ u.toInt + w.toInt ≤ (la : Int) ∧ v.toInt + w.toInt ≤ (lb : Int)) (k : KG p y (pc + 3) L [] (z_sW h b (va_cpy (z_iv h a) (z_iv h b) (z_ix u) (z_ix v) (z_ix w))) Q) : KG p y pc L [.int w, .int v, .ref b, .int u, .ref a] h Q := by
  subst la'; subst lb'
  exact k_g (g := (z_tg h a = 100 ∧ z_tg h b = 100 ∧ ¬ a = b) ∧ (0 ≤ u.toInt ∧ 0 ≤ v.toInt ∧ 0 ≤ w.toInt ∧ u.toInt + w.toInt ≤ (z_ln h a : Int) ∧ v.toInt + w.toInt ≤ (z_ln h b : Int)) ∧ ([] : zS) = []) (by rw [e]; rfl) (by rw [e]; rfl) ⟨⟨ha, hb, hab⟩, hi, rfl⟩ k
end KR2
theorem z_retA {n : String} {a : Nat} (hn : ¬ n = "java/lang/String") : z_ret .areturn (some (.object n)) [.ref a] = some (some (.ref a)) := by
  show (if n = "java/lang/String" then none else some (some (Value.ref a))) = _
  rw [if_neg hn]
theorem z_retN {n : String} (hn : ¬ n = "java/lang/String") : z_ret .areturn (some (.object n)) [.null] = some (some .null) := by
  show (if n = "java/lang/String" then none else some (some Value.null)) = _
  rw [if_neg hn]
/-! reading behind a write -/
theorem v_at {h : zH} {a i : Nat} {x : Int32} : z_iv (z_sI h a i x) a i = x := z_up2_at
theorem v_nj {h : zH} {a b i j : Nat} {x v : Int32} (hj : ¬ j = i) (e : z_iv h b j = v) : z_iv (z_sI h a i x) b j = v := by
  rw [← e]
  show z_up2 (z_iv h) a i x b j = z_iv h b j
  unfold z_up2
  rw [if_neg (fun q => hj q.2)]
theorem v_na {h : zH} {a b i j : Nat} {x v : Int32} (hj : ¬ b = a) (e : z_iv h b j = v) : z_iv (z_sI h a i x) b j = v := by
  rw [← e]
  show z_up2 (z_iv h) a i x b j = z_iv h b j
  unfold z_up2
  rw [if_neg (fun q => hj q.1)]
theorem v_nt {h : zH} {a b i j s t : Nat} {x v : Int32} (hb : z_tg h b = t) (ha : z_tg h a = s) (hn : ¬ t = s) (e : z_iv h b j = v) : z_iv (z_sI h a i x) b j = v :=
  v_na (fun q => hn (by rw [← hb, q, ha])) e
theorem v_nw {h : zH} {a b j s t : Nat} {r : Nat → Int32} {v : Int32} (hb : z_tg h b = t) (ha : z_tg h a = s) (hn : ¬ t = s) (e : z_iv h b j = v) : z_iv (z_sW h a r) b j = v := by
  rw [← e]
  exact congrFun (z_row_ne (fun q => hn (by rw [← hb, q, ha]))) j
theorem v_sR {h : zH} {a b i j : Nat} {r : Option Nat} {v : Int32} (e : z_iv h b j = v) : z_iv (z_sR h a i r) b j = v := e
section KR3
variable {α : Type} {p : Option Value → Option α} {y pc : Nat} {L : zL} {S : zS} {h : zH} {Q : α → zH → Prop}
theorem k_gV {i c j a : Nat} {kd : Int} {v : Int32} (e : z_c y pc = (.getfield i, 3, c, j, kd)) (hv : z_fv h a j kd = .int (z_iv h a j)) (ht : z_tg h a = c) (ev : z_iv h a j = v) (k : KG p y (pc + 3) L (.int v :: S) h Q) : KG p y pc L (.ref a :: S) h Q := by
  subst ev
  exact k_gI e hv ht k
theorem k_iV {a b c : Nat} {v : Int} {i w : Int32} {n : Nat} (e : z_c y pc = (.iaload, 1, a, b, v)) {q : Nat} (ht : z_tg h q = 100) (hl : z_ln h q = n) (hi : 0 ≤ i.toInt ∧ i.toInt < (n : Int)) (ev : z_iv h q (z_ix i) = w) (k : KG p y (pc + 1) L (.int w :: S) h Q) : KG p y pc L (.int i :: .ref q :: S) h Q := by
  subst ev
  exact k_ia (c := c) e ht hl hi k
end KR3
theorem v_nn {h : zH} (W : CW h) {c l n b j t : Nat} {v : Int32} (hb : z_tg h b = t) (ht : ¬ t = 0) (e : z_iv h b j = v) : z_iv (z_nw h c l n) b j = v := by
  rw [z_nw_iv (by have := W.lt b (by rw [hb]; exact ht); omega)]
  exact e
theorem z_ifd {c : Prop} [Decidable c] {A B : Prop} (a : c → A) (b : ¬ c → B) : if c then A else B := by
  by_cases h : c
  · rw [if_pos h]; exact a h
  · rw [if_neg h]; exact b h
theorem z_cg {α : Type} {Q : α → Prop} {a b : α} (e : a = b) (q : Q a) : Q b := e ▸ q
theorem z_keep {h : zH} {c l n b t : Nat} (hl : b < z_nx h) (hb : z_tg h b = t) : z_tg (z_nw h c l n) b = t := by
  rw [z_nw_tg (by omega)]
  exact hb
theorem z_keepL {h : zH} {c l n b t : Nat} (hl : b < z_nx h) (hb : z_ln h b = t) : z_ln (z_nw h c l n) b = t := by
  rw [z_nw_ln (by omega)]
  exact hb
/-- heaps that differ in their ints alone -/
def Sh (h h2 : zH) : Prop := z_nx h2 = z_nx h ∧ z_us h2 = z_us h ∧ z_tg h2 = z_tg h ∧ z_ln h2 = z_ln h ∧ z_rv h2 = z_rv h ∧ z_lv h2 = z_lv h
theorem Sh.refl (h : zH) : Sh h h := ⟨rfl, rfl, rfl, rfl, rfl, rfl⟩
theorem Sh.trans {a b c : zH} (x : Sh a b) (y : Sh b c) : Sh a c := by
  obtain ⟨p1, p2, p3, p4, p5, p6⟩ := x
  obtain ⟨q1, q2, q3, q4, q5, q6⟩ := y
  exact ⟨q1.trans p1, q2.trans p2, q3.trans p3, q4.trans p4, q5.trans p5, q6.trans p6⟩
theorem Sh.sI {h : zH} {a i : Nat} {x : Int32} : Sh h (z_sI h a i x) := ⟨rfl, rfl, rfl, rfl, rfl, rfl⟩
theorem Sh.sW {h : zH} {a : Nat} {r : Nat → Int32} : Sh h (z_sW h a r) := ⟨rfl, rfl, rfl, rfl, rfl, rfl⟩
theorem Sh.tg {h h2 : zH} (e : Sh h h2) {a t : Nat} (ha : z_tg h a = t) : z_tg h2 a = t := by rw [e.2.2.1]; exact ha
theorem Sh.ln {h h2 : zH} (e : Sh h h2) {a t : Nat} (ha : z_ln h a = t) : z_ln h2 a = t := by rw [e.2.2.2.1]; exact ha
theorem Sh.rv {h h2 : zH} (e : Sh h h2) {a j : Nat} {r : Option Nat} (ha : z_rv h a j = r) : z_rv h2 a j = r := by rw [e.2.2.2.2.1]; exact ha
theorem Sh.cw {h h2 : zH} (e : Sh h h2) (W : CW h) : CW h2 := by
  obtain ⟨p1, p2, p3, p4, p5, p6⟩ := e
  unfold CW
  rw [p1, p3, p4, p5]
  exact W
theorem z_tgI {h : zH} {a b i t : Nat} {x : Int32} (e : z_tg h b = t) : z_tg (z_sI h a i x) b = t := e
theorem z_tgR {h : zH} {a b i t : Nat} {x : Option Nat} (e : z_tg h b = t) : z_tg (z_sR h a i x) b = t := e
theorem z_tgW {h : zH} {a b t : Nat} {r : Nat → Int32} (e : z_tg h b = t) : z_tg (z_sW h a r) b = t := e
theorem z_lnI {h : zH} {a b i t : Nat} {x : Int32} (e : z_ln h b = t) : z_ln (z_sI h a i x) b = t := e
theorem z_lnR {h : zH} {a b i t : Nat} {x : Option Nat} (e : z_ln h b = t) : z_ln (z_sR h a i x) b = t := e
theorem z_lnW {h : zH} {a b t : Nat} {r : Nat → Int32} (e : z_ln h b = t) : z_ln (z_sW h a r) b = t := e
theorem z_rvI {h : zH} {a b i j : Nat} {x : Int32} {t : Option Nat} (e : z_rv h b j = t) : z_rv (z_sI h a i x) b j = t := e
theorem z_rvW {h : zH} {a b j : Nat} {r : Nat → Int32} {t : Option Nat} (e : z_rv h b j = t) : z_rv (z_sW h a r) b j = t := e
