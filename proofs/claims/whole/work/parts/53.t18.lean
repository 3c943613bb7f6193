/-! book -/
def g_bk (g : zG) (m o n : Nat) : zG := fun k i => if k = 32 ∧ 12 * m ≤ i ∧ i < 12 * m + n then g 88 (o + (i - 12 * m)) else g k i
theorem g_bk_0 {g : zG} {m o : Nat} : g_bk g m o 0 = g := by
  funext k i
  exact if_neg (by omega)
theorem g_bk_s {g : zG} {m o n : Nat} : g_bk g m o (n + 1) = z_up2 (g_bk g m o n) 32 (12 * m + n) (g 88 (o + n)) := by
  funext k i
  unfold g_bk z_up2
  by_cases q : k = 32 ∧ i = 12 * m + n
  · rw [if_pos q, if_pos (by omega), show i - 12 * m = n by omega]
  · rw [if_neg q]
    dsimp only
    by_cases w : k = 32 ∧ 12 * m ≤ i ∧ i < 12 * m + n
    · rw [if_pos w, if_pos (by omega)]
    · rw [if_neg w, if_neg (by omega)]
theorem g_bk_ne {g : zG} {m o n k : Nat} (h : ¬ k = 32) : g_bk g m o n k = g k := by
  funext i
  exact if_neg (by omega)
theorem sW_0 {h : zH} {b : Nat} {f : Nat → Int32} : z_sW h b (va_cpy f (z_iv h b) 0 0 0) = h := by
  have e : z_row (z_iv h) b (va_cpy f (z_iv h b) 0 0 0) = z_iv h := by
    funext x y
    unfold z_row
    by_cases q : x = b
    · rw [if_pos q, q]
      exact if_neg (by omega)
    · rw [if_neg q]
  show (h.1, h.2.1, h.2.2.1, z_row (z_iv h) b (va_cpy f (z_iv h b) 0 0 0), h.2.2.2.2) = h
  rw [e]
  rfl
theorem sW_s {h : zH} {b n : Nat} {f : Nat → Int32} : z_sW h b (va_cpy f (z_iv h b) 0 0 (n + 1)) = z_sI (z_sW h b (va_cpy f (z_iv h b) 0 0 n)) b n (f n) := by
  have e : z_row (z_iv h) b (va_cpy f (z_iv h b) 0 0 (n + 1)) = z_up2 (z_row (z_iv h) b (va_cpy f (z_iv h b) 0 0 n)) b n (f n) := by
    funext x y
    unfold z_up2 z_row
    by_cases q : x = b
    · by_cases w : y = n
      · rw [if_pos q, if_pos ⟨q, w⟩]
        unfold va_cpy
        rw [if_pos (by omega), w]
        congr 1
        omega
      · rw [if_pos q, if_neg (fun z => w z.2), if_pos q]
        unfold va_cpy
        by_cases z : 0 ≤ y ∧ y < 0 + n
        · rw [if_pos (by omega), if_pos z]
        · rw [if_neg (by omega), if_neg z]
    · rw [if_neg q, if_neg (fun z => q z.1), if_neg q]
  show (h.1, h.2.1, h.2.2.1, z_row (z_iv h) b (va_cpy f (z_iv h b) 0 0 (n + 1)), h.2.2.2.2) = (h.1, h.2.1, h.2.2.1, z_up2 (z_row (z_iv h) b (va_cpy f (z_iv h b) 0 0 n)) b n (f n), h.2.2.2.2)
  rw [e]
theorem bk_P {f l : Int32} {i : Nat} (hi : i < 12) (hl : 0 ≤ l.toInt ∧ l.toInt ≤ 48) : ((0 : Int32) ≤ f + Int32.ofNat i ∧ f + Int32.ofNat i ≤ l - 1 ↔ 0 ≤ f.toInt + i ∧ f.toInt + i ≤ l.toInt - 1) ∧ ((0 : Int64) ≤ f.toInt64 + (Int32.ofNat i).toInt64 ∧ f.toInt64 + (Int32.ofNat i).toInt64 ≤ (l - 1).toInt64 ↔ 0 ≤ f.toInt + i ∧ f.toInt + i ≤ l.toInt - 1) := by
  have t1 : (1 : Int32).toInt = 1 := by decide
  have z0 : (0 : Int32).toInt = 0 := by decide
  have z6 : (0 : Int64).toInt = 0 := by decide
  have fb := Int32.le_toInt f
  have fb2 := Int32.toInt_lt f
  have e1 : (l - 1).toInt = l.toInt - 1 := by rw [i_sub (by rw [t1]; omega) (by rw [t1]; omega), t1]
  have e2 : (f.toInt64 + (Int32.ofNat i).toInt64).toInt = f.toInt + i := by rw [l_add (by rw [l_i, l_i, n_i (by omega)]; omega) (by rw [l_i, l_i, n_i (by omega)]; omega), l_i, l_i, n_i (by omega)]
  refine ⟨?_, ?_⟩
  · rw [n_le, n_le, e1, z0]
    by_cases q : f.toInt + i < 2147483648
    · rw [i_add (by rw [n_i (by omega)]; omega) (by rw [n_i (by omega)]; omega), n_i (by omega)]
    · have : (f + Int32.ofNat i).toInt = f.toInt + i - 4294967296 := by
        rw [Int32.toInt_add, n_i (by omega)]
        have w := Int.add_bmod_right (f.toInt + i - 4294967296) (2 ^ 32)
        have e3 : f.toInt + (i : Int) - 4294967296 + ((2 ^ 32 : Nat) : Int) = f.toInt + i := by omega
        rw [e3] at w
        rw [w]
        exact Int.bmod_eq_of_le (by omega) (by omega)
      rw [this]
      omega
  · rw [l_le, l_le, e2, l_i, e1, z6]
section BK2
variable {c : Nat} {g : zG} {h : zH}
theorem INV.bk {lm : Nat → Nat} (I : INV c lm g) {m o : Nat} (hm : m < q_n g 1) : ∀ n, n ≤ 12 → (∀ j, j < n → 0 ≤ (g 88 (o + j)).toInt ∧ (g 88 (o + j)).toInt ≤ 999) → INV c lm (g_bk g m o n) := by
  intro n
  induction n with
  | zero => intro _ _; rw [g_bk_0]; exact I
  | succ n ih =>
    intro hn hw
    rw [g_bk_s]
    have q1 : q_n (g_bk g m o n) 1 = q_n g 1 := by unfold q_n; rw [g_bk_ne (by decide)]
    exact (ih (by omega) (fun j hj => hw j (by omega))).u32 (by rw [q1]; omega) (hw n (by omega))
theorem RC.bk {lm : Nat → Nat} (R : RC lm g h) {m a o : Nat} (hm : m < q_n g 1) (ha : z_rv h 1 m = some a) {f : Nat → Int32} : ∀ n, n ≤ 12 → (∀ j, j < n → f j = g 88 (o + j)) → RC lm (g_bk g m o n) (z_sW h (a + 1) (va_cpy f (z_iv h (a + 1)) 0 0 n)) := by
  intro n
  induction n with
  | zero => intro _ _; rw [g_bk_0, sW_0]; exact R
  | succ n ih =>
    intro hn hf
    rw [g_bk_s, sW_s, hf n (by omega)]
    have q : ∀ j, q_n (g_bk g m o n) j = q_n g j := fun j => by unfold q_n; rw [g_bk_ne (by decide)]
    have Rn := ih (by omega) (fun j hj => hf j (by omega))
    refine Rn.up (k := 32) (i := 12 * m + n) (c := a + 1) (j := n) ?_ (by omega)
    exact ⟨m, a, by rw [q]; exact hm, ha, Or.inl ⟨rfl, rfl, by omega, rfl⟩⟩
theorem Kq.sW {h : zH} {b : Nat} {r : Nat → Int32} (hc : b < 27 ∨ 89 ≤ b) (hs : b < 600000) : Kq h (z_sW h b r) := by
  refine ⟨fun k h1 h2 => ⟨rfl, rfl, rfl, ?_⟩, rfl, ?_, rfl⟩
  · exact z_row_ne (by omega)
  · exact z_row_ne (by unfold z_SC; omega)
/-- the end of the reading: n months are taken over -/
theorem bk_end (X : AH c g h) {m a n s F : Nat} {f la tv : Int32} (hm : m < q_n g 1) (ha : z_rv h 1 m = some a) (hn : n < 4) (cnt : Nat) (hc : cnt ≤ 12) (hF : 0 < cnt → f = Int32.ofNat F ∧ F + cnt ≤ 48) (hW : ∀ j, j < cnt → 0 ≤ (g 88 (48 * n + F + j)).toInt ∧ (g 88 (48 * n + F + j)).toInt ≤ 999) :
    MG z_pI 230 168 [some (.ref 27), some (.int (Int32.ofNat m)), some (.int (Int32.ofNat n)), some (.int la), some (.int f), some (.int tv), some (.int (Int32.ofNat cnt)), some (.int (0 : Int32))] [] g (fun v1 g1 => v1 = Int32.ofNat cnt ∧ g1 = z_up2 (g_bk g m (48 * n + F) cnt) 27 76 tv) ∧ INV (c + 1) (fun _ => q_n g 0) (z_up2 (g_bk g m (48 * n + F) cnt) 27 76 tv) ∧
    ∀ h2, RC (fun _ => q_n g 0) g h2 → Sh h h2 → Kq h h2 → (∀ j, j < cnt → z_iv h2 5 j = g 88 (48 * n + F + j)) → RC (fun _ => q_n g 0) (z_up2 (g_bk g m (48 * n + F) cnt) 27 76 tv) (z_sI (z_sW h2 (a + 1) (va_cpy (z_iv h2 5) (z_iv h2 (a + 1)) 0 0 cnt)) 0 15 tv) ∧ Sh h (z_sI (z_sW h2 (a + 1) (va_cpy (z_iv h2 5) (z_iv h2 (a + 1)) 0 0 cnt)) 0 15 tv) ∧ Kq h (z_sI (z_sW h2 (a + 1) (va_cpy (z_iv h2 5) (z_iv h2 (a + 1)) 0 0 cnt)) 0 15 tv) := by
  have I := X.i
  have hm6 := I.m6 hm
  refine ⟨?_, ((I.t_c (Nat.le_succ c)).bk hm cnt hc hW).uf (by omega), ?_⟩
  · have lp := z_lp (N := cnt) (G := fun i => MG z_pI 230 168 [some (.ref 27), some (.int (Int32.ofNat m)), some (.int (Int32.ofNat n)), some (.int la), some (.int f), some (.int tv), some (.int (Int32.ofNat cnt)), some (.int (Int32.ofNat i))] [] (g_bk g m (48 * n + F) i) (fun v1 g1 => v1 = Int32.ofNat cnt ∧ g1 = z_up2 (g_bk g m (48 * n + F) cnt) 27 76 tv)) ?_ ?_
    · rw [g_bk_0] at lp
      exact lp
    · refine X_230_168 _ _ _ _ _ _ _ _ ?_
      rw [if_pos (Int32.le_refl _)]
      exact ⟨rfl, rfl⟩
    · intro i hi w
      obtain ⟨f1, f2⟩ := hF (by omega)
      refine X_230_168 _ _ _ _ _ _ _ _ ?_
      have e1 : (48 : Int32) * Int32.ofNat n + Int32.ofNat F + Int32.ofNat i = Int32.ofNat (48 * n + F + i) := by rw [show (48 : Int32) * Int32.ofNat n + Int32.ofNat F = Int32.ofNat (48 * n + F) from n_ma (a := 48), ← Int32.ofNat_add]
      have e2 : (12 : Int32) * Int32.ofNat m + Int32.ofNat i = Int32.ofNat (12 * m + i) := n_ma (a := 12)
      rw [if_neg (lit_le (by omega) (by omega) hi), f1, e1, e2, n_ix (by omega), n_ix (by omega), n_s, g_bk_ne (k := 88) (by decide), ← g_bk_s, ← f1]
      exact ⟨n_bd (N := 192) (by omega) (by omega), n_bd (N := 72) (by omega) (by omega), w⟩
  · intro h2 R2 s2 k2 hf
    have ha2 : z_rv h2 1 m = some a := s2.rv ha
    have ta := R2.w.mt R2.f ha2
    have ga := R2.f.ge ta (by omega)
    have la : a + 1 < z_nx h2 := R2.w.lt _ (by rw [(R2.w.m1 ta).1]; decide)
    have nx : z_nx h2 = z_nx h := s2.1
    have N := X.2.2.1
    refine ⟨?_, (s2.trans Sh.sW).trans Sh.sI, (k2.trans (Kq.sW (by omega) (by omega))).trans (Kq.sI (by omega) (by omega))⟩
    exact (R2.bk (o := 48 * n + F) hm ha2 cnt hc hf).up (k := 27) (i := 76) (c := 0) (j := 15) (Or.inl ⟨rfl, Or.inr (Or.inr (Or.inr (Or.inr ⟨rfl, rfl⟩)))⟩) (by omega)
end BK2
