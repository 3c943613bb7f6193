/-! choices: the class's side -/
section CH
variable {c : Nat} {lm : Nat → Nat} {g : zG} {h : zH}
theorem RC.s14 (R : RC lm g h) {j : Nat} {x : Option Nat} (hj : j < 3) (hx : ∀ b, x = some b → z_tg h b = c_ty 2 j) : RC lm g (z_sR h 14 j x) := by
  have rO : ∀ y, ¬ y = 14 → z_rv (z_sR h 14 j x) y = z_rv h y := fun y hy => sR_ne hy
  have t14 : z_tg h 14 = 2 := R.f.at (by omega) rfl
  have d : j = 0 ∨ j = 1 ∨ j = 2 := by omega
  have W2 : CW (z_sR h 14 j x) := by
    refine R.w.sR (t := 2) t14 ?_ hx ?_
    · rcases d with r | r | r <;> subst r <;> rfl
    · rcases d with r | r | r <;> subst r <;> decide
  refine ⟨W2, R.f, ?_, ?_, ?_, ?_⟩
  · have := R.b
    unfold BD
    rw [rO 0 (by omega)]
    exact this
  · have := R.j
    unfold IJ
    rw [rO 1 (by omega), rO 2 (by omega), rO 3 (by omega), rO 4 (by omega)]
    exact this
  · intro k i' c j L
    have L' := L.eq (h := h) (by rw [rO 0 (by omega)]) (fun i _ => by rw [rO 1 (by omega)]) (fun i _ => by rw [rO 2 (by omega)]) (fun i _ => by rw [rO 3 (by omega)]) (fun i _ => by rw [rO 4 (by omega)])
    exact R.i k i' c j L'
  · obtain ⟨x1, x2, x3, x4, x5, x6, x7, x8⟩ := R.x
    have big : ∀ {y t'}, z_tg h y = t' → (t' = 4 ∨ t' = 5) → z_rv (z_sR h 14 j x) y = z_rv h y := fun e q => rO _ (by have := R.f.ge e (by omega); omega)
    unfold RX
    rw [rO 1 (by omega), rO 2 (by omega), rO 3 (by omega), rO 4 (by omega)]
    refine ⟨x1, x2, x3, fun m a hm ha => ?_, fun k c hk hc => ?_, x6, fun m a hm ha => ?_, fun k c hk hc => ?_⟩
    · rw [big (R.w.mt R.f ha) (by omega)]; exact x4 m a hm ha
    · rw [big (R.w.rt R.f hc) (by omega)]; exact x5 k c hk hc
    · rw [big (R.w.mt R.f ha) (by omega)]; exact x7 m a hm ha
    · rw [big (R.w.rt R.f hc) (by omega)]; exact x8 k c hk hc
/-- what the choice's cell holds -/
def Cho (h : zH) (a B : Nat) (b : Option Nat) (n x4 x5 : Int32) : Prop := z_rv h 14 0 = some a ∧ z_rv h 14 1 = b ∧ z_rv h 14 2 = some B ∧ z_iv h 14 3 = n ∧ z_iv h 14 4 = x4 ∧ z_iv h 14 5 = x5
theorem K_open (R : RC lm g h) {m a B : Nat} {x4 x5 : Int32} {Q : Int32 → zH → Prop} (hm : m < q_n g 1) (ha : z_rv h 1 m = some a) (hB : z_rv h 0 9 = some B)
    (q : ∀ h', RC lm g h' → Cho h' a B ((q_wk g (Int32.ofNat m)).bind (z_rv h 2)) (g 27 0) x4 x5 → (∀ y, ¬ y = 14 → z_rv h' y = z_rv h y) → Kq h h' → Rm h h' → Q (if (q_wk g (Int32.ofNat m)).bind (z_rv h 2) = none then 0 else 1) h') : KK z_pI 30 [.ref 14, .ref a, .ref B, .int (g 27 0), .int x4, .int x5] h Q := by
  have t14 : z_tg h 14 = 2 := R.f.at (by omega) rfl
  have ta := R.w.mt R.f ha
  have tB := R.bt hB
  have R1 := R.s14 (j := 0) (x := some a) (by omega) (fun b e => by injection e with e; subst e; exact ta)
  have ga := R.f.ge ta (by omega)
  have ha1 : z_rv (z_sR h 14 0 (some a)) 1 m = some a := by rw [sR_ne (by omega)]; exact ha
  have kw := K_wk R1 hm ha1
  have e2 : z_rv (z_sR h 14 0 (some a)) 2 = z_rv h 2 := sR_ne (by omega)
  rw [e2] at kw
  generalize ho : (q_wk g (Int32.ofNat m)).bind (z_rv h 2) = o at kw q
  have fin : ∀ (x : Option Nat), (∀ b, x = some b → z_tg h b = 3) → x = o → Q (if o = none then 0 else 1) (z_sI (z_sI (z_sI (z_sR (z_sR (z_sR h 14 0 (some a)) 14 1 x) 14 2 (some B)) 14 3 (g 27 0)) 14 4 x4) 14 5 x5) := by
    intro x hx ex
    have R2 := R1.s14 (j := 1) (x := x) (by omega) (fun b e => hx b e)
    have R3 := R2.s14 (j := 2) (x := some B) (by omega) (fun b e => by injection e with e; subst e; exact tB)
    have R4 := ((R3.scr (c := 14) (j := 3) (v := g 27 0) (by omega)).scr (c := 14) (j := 4) (v := x4) (by omega)).scr (c := 14) (j := 5) (v := x5) (by omega)
    refine q _ R4 ?_ ?_ ?_ ?_
    · refine ⟨?_, ?_, ?_, ?_, ?_, ?_⟩
      · show z_rv (z_sR (z_sR (z_sR h 14 0 (some a)) 14 1 x) 14 2 (some B)) 14 0 = _
        rw [sR_nj (by omega), sR_nj (by omega), sR_at]
      · show z_rv (z_sR (z_sR (z_sR h 14 0 (some a)) 14 1 x) 14 2 (some B)) 14 1 = _
        rw [sR_nj (by omega), sR_at]
        exact ex
      · show z_rv (z_sR (z_sR (z_sR h 14 0 (some a)) 14 1 x) 14 2 (some B)) 14 2 = _
        rw [sR_at]
      · rw [v_no (by omega), v_no (by omega), v_at]
      · rw [v_no (by omega), v_at]
      · exact v_at
    · intro y hy
      show z_rv (z_sR (z_sR (z_sR h 14 0 (some a)) 14 1 x) 14 2 (some B)) y = _
      rw [sR_ne hy, sR_ne hy, sR_ne hy]
    · exact (((((Kq.sR (by omega)).trans (Kq.sR (by omega))).trans (Kq.sR (by omega))).trans (Kq.sI (by omega) (by omega))).trans (Kq.sI (by omega) (by omega))).trans (Kq.sI (by omega) (by omega))
    · exact Rm.refl h
  refine X_30 14 a B _ _ _ h R.w t14 ta tB ?_
  cases o with
  | none =>
    refine xa_N kw ?_
    have w := fin none (fun b e => nomatch e) rfl
    rw [if_pos rfl] at w
    have z : z_rv (z_sI (z_sI (z_sI (z_sR (z_sR (z_sR h 14 0 (some a)) 14 1 none) 14 2 (some B)) 14 3 (g 27 0)) 14 4 x4) 14 5 x5) 14 1 = none := by
      show z_rv (z_sR (z_sR (z_sR h 14 0 (some a)) 14 1 none) 14 2 (some B)) 14 1 = _
      rw [sR_nj (by omega), sR_at]
    exact ⟨fun _ => w, fun b e => by rw [z] at e; cases e⟩
  | some b =>
    have tb : z_tg h b = 3 := by
      cases k : q_wk g (Int32.ofNat m) with
      | none => rw [k] at ho; cases ho
      | some e => rw [k] at ho; exact R.w.et R.f ho
    refine xa_S kw tb ?_
    have w := fin (some b) (fun b' e => by injection e with e; subst e; exact tb) rfl
    rw [if_neg (fun z => nomatch z)] at w
    have z : z_rv (z_sI (z_sI (z_sI (z_sR (z_sR (z_sR h 14 0 (some a)) 14 1 (some b)) 14 2 (some B)) 14 3 (g 27 0)) 14 4 x4) 14 5 x5) 14 1 = some b := by
      show z_rv (z_sR (z_sR (z_sR h 14 0 (some a)) 14 1 (some b)) 14 2 (some B)) 14 1 = _
      rw [sR_nj (by omega), sR_at]
    exact ⟨fun e => (by rw [z] at e; cases e), fun _ _ => w⟩
def w_n (g : zG) (m n : Nat) : Int32 := g 32 (12 * m + z_ix (g 27 0 + Int32.ofNat n) % 12)
def d_n (g : zG) (m e n : Nat) : Int64 := a_nd (w_n g m n) (g 30 m) (g 48 e)
def s_n (g : zG) (m e n : Nat) : Int32 := if g 50 e < (d_n g m e n).toInt32 then g 50 e else (d_n g m e n).toInt32
def c_n (g : zG) (m e : Nat) (d a : Int32) (n : Nat) : Int32 := (a_cl (s_n g m e n).toInt64 (g 48 e) d (a + Int32.ofNat n)).toInt32
def f_n (g : zG) (m e : Nat) (d a lim ld : Int32) : Nat → Int64
  | 0 => 0
  | n + 1 => if lim ≤ Int32.ofNat n then f_n g m e d a lim ld n + (if ¬ (w_n g m n ≤ 0) then (0 : Int64) else ld.toInt64) else (f_n g m e d a lim ld n - (c_n g m e d a n).toInt64 * (g 31 m).toInt64) + (if ¬ ((d_n g m e n).toInt32 ≤ g 50 e) then (0 : Int64) else ld.toInt64)
theorem INV.wnb (I : INV c lm g) {m n : Nat} (hm : m < q_n g 1) : 0 ≤ (w_n g m n).toInt ∧ (w_n g m n).toInt ≤ 999 := I.bw.at (k := 32) (a := 0) (b := 999) (by decide) (by have := I.m6 hm; omega)
theorem INV.dnb (I : INV c lm g) {m e n : Nat} (hm : m < q_n g 1) (he : e < q_n g 20) : 0 ≤ (d_n g m e n).toInt ∧ (d_n g m e n).toInt ≤ 299700 := (a_need (I.wnb hm) (I.bm.at (k := 30) (a := 1) (b := 300) (by decide) hm) (I.be.at (k := 48) (a := 1) (b := 99) (by decide) he)).2
theorem INV.mnn (I : INV c lm g) {m e n : Nat} (hm : m < q_n g 1) (he : e < q_n g 20) : ((if d_n g m e n ≤ (g 50 e).toInt64 then d_n g m e n else (g 50 e).toInt64).toInt32 = s_n g m e n) ∧ ((¬ d_n g m e n ≤ (g 50 e).toInt64) ↔ ¬ (d_n g m e n).toInt32 ≤ g 50 e) ∧ 0 ≤ (s_n g m e n).toInt ∧ (s_n g m e n).toInt ≤ 9999 := a_min (I.dnb hm he) (I.be.at (k := 50) (a := 1) (b := 9999) (by decide) he)
theorem K_33 (R : RC lm g h) (I : INV c lm g) {m a B e b M : Nat} {d a' lim ld : Int32} (hm : m < q_n g 1) (ha : z_rv h 1 m = some a) (he : e < q_n g 20) (hb : z_rv h 2 e = some b) (C : Cho h a B (some b) (g 27 0) (Int32.ofNat M) ld) (hM : M ≤ 24) (hd : 0 ≤ d.toInt ∧ d.toInt ≤ 1000000) (hA : 0 ≤ a'.toInt ∧ a'.toInt ≤ 60) : KV z_pL 33 [.ref 14, .int d, .int a', .int lim] h (f_n g m e d a' lim ld M) := by
  obtain ⟨c0, c1, c2, c3, c4, c5⟩ := C
  have t14 : z_tg h 14 = 2 := R.f.at (by omega) rfl
  have k0 := I.cnt.1
  refine kv_of (X_33 14 d a' lim h R.w t14 ?_)
  refine z_lp (N := M) (G := fun n => ∀ u7 u8 u9 u10, KG z_pL 33 6 [some (.ref 14), some (.int d), some (.int a'), some (.int lim), some (.long (f_n g m e d a' lim ld n)), none, some (.int (Int32.ofNat n)), u7, u8, u9, u10] [] h _) ?_ ?_ none none none none
  · intro u7 u8 u9 u10
    refine X_33_6 14 _ _ _ _ _ _ _ _ _ h R.w t14 ?_
    rw [c4, if_pos ((n_lit_le (by omega) (by omega)).mpr (Nat.le_refl _))]
    exact ⟨rfl, rfl⟩
  · intro n hn w u7 u8 u9 u10
    refine X_33_6 14 _ _ _ _ _ _ _ _ _ h R.w t14 ?_
    have tn : (Int32.ofNat n).toInt = (n : Int) := n_i (by omega)
    have tx : (g 27 0 + Int32.ofNat n).toInt = (g 27 0).toInt + n := by rw [i_add (by omega) (by omega), tn]
    have ty : (a' + Int32.ofNat n).toInt = a'.toInt + n := by rw [i_add (by omega) (by omega), tn]
    rw [c4, if_neg (fun z => by have := (n_lit_le (by omega) (by omega)).mp z; omega), c3, c5]
    refine o_S c0 ⟨_, K_wat R hm ha (by omega) (by omega), ?_⟩
    by_cases q : lim ≤ Int32.ofNat n
    · rw [if_pos q]
      intro m9 e9
      have ef : f_n g m e d a' lim ld (n + 1) = f_n g m e d a' lim ld n + m9 := by rw [e9]; exact if_pos q
      rw [n_s, ← ef]
      exact w _ _ _ _
    · rw [if_neg q]
      refine o_S c1 ?_
      rw [R.f30 hm ha, R.f50 he hb, R.f31 hm ha]
      refine ⟨_, K_need R I he hb (I.wnb (n := n) hm) (I.bm.at (k := 30) (a := 1) (b := 300) (by decide) hm), _, K_coal R I he hb (I.mnn (n := n) hm he).2.2 hd (by omega), fun m21 e21 => ?_⟩
      have ef : f_n g m e d a' lim ld (n + 1) = (f_n g m e d a' lim ld n - (c_n g m e d a' n).toInt64 * (g 31 m).toInt64) + m21 := by rw [e21]; exact if_neg q
      rw [n_s]
      have w := w (some (.int (w_n g m n))) (some (.int (z_bt (¬ ((d_n g m e n).toInt32 ≤ g 50 e))))) (some (.int (d_n g m e n).toInt32)) (some (.int (s_n g m e n)))
      rw [ef] at w
      exact w
end CH
