section MP
variable {c : Nat} {lm lm2 : Nat → Nat} {g : zG} {h : zH}
theorem K_note {a t w : Nat} {x1 x2 x : Int32} {Q : Unit → zH → Prop} (W : CW h) (ta : z_tg h a = 4) (e1 : x1 = Int32.ofNat t) (e2 : x2 = Int32.ofNat w) (ht : t < 60) (hw : w < 6) (q : Q () (z_sI h (a + 3) (60 * w + t) x)) : KK z_pV 48 [.ref a, .int x1, .int x2, .int x] h Q := by
  refine X_48 a x1 x2 x h W ta ?_
  subst e1
  subst e2
  have p1 : (0 : Int32) ≤ Int32.ofNat t ∧ Int32.ofNat t ≤ (59 : Int32) := ⟨(n_lit_le (k := 0) (by omega) (by omega)).mpr (by omega), (n_lit_le (n := 59) (by omega) (by omega)).mpr (by omega)⟩
  have p2 : (0 : Int32) ≤ Int32.ofNat w ∧ Int32.ofNat w ≤ (5 : Int32) := ⟨(n_lit_le (k := 0) (by omega) (by omega)).mpr (by omega), (n_lit_le (n := 5) (by omega) (by omega)).mpr (by omega)⟩
  have e : Int32.ofNat w * (60 : Int32) + Int32.ofNat t = Int32.ofNat (60 * w + t) := by
    rw [show 60 * w + t = w * 60 + t by omega]
    exact n_ma (b := 60)
  rw [if_pos p1, if_pos p2, e, n_ix (by omega)]
  exact ⟨n_bd (N := 360) (by omega) (by omega), q⟩
def g_gT (G : zG) (m p : Nat) (y n : Int32) : zG := z_up2 (z_up2 (z_up2 (z_up2 (z_up2 G 38 p y) 39 p n) 40 p (G 30 m)) 41 p (G 31 m)) 33 m (G 33 m + y)
theorem v_no {a b i j : Nat} {x : Int32} (hj : ¬ (b = a ∧ j = i)) : z_iv (z_sI h a i x) b j = z_iv h b j := up_nj hj
theorem K_tail {G : zG} (R : RC lm G h) {m a t : Nat} {x1 s cc y n : Int32} {Q : Int32 → zH → Prop} (hm : m < q_n G 1) (ha : z_rv h 1 m = some a) (ht : t < 60) (l1 : lm m = t) (l2 : lm2 m = t + 1) (lo : ∀ m', m' < 6 → ¬ m' = m → lm2 m' = lm m') (n6 : q_n G 1 ≤ 6) (e1 : x1 = Int32.ofNat t) (es : G 36 (60 * m + t) = s) (ec : G 37 (60 * m + t) = cc) (hx : z_nx h < 600000)
    (q : ∀ h', RC lm2 (g_gT G m (60 * m + t) y n) h' → Sh h h' → Kq h h' → Q y h') :
    KK z_pV 48 [.ref a, .int x1, .int (0 : Int32), .int s] h (fun _ h11 => Sh h h11 ∧ KK z_pV 48 [.ref a, .int x1, .int (1 : Int32), .int cc] h11 (fun _ h13 => Sh h11 h13 ∧ KK z_pV 48 [.ref a, .int x1, .int (2 : Int32), .int y] h13 (fun _ h15 => Sh h13 h15 ∧ KK z_pV 48 [.ref a, .int x1, .int (3 : Int32), .int n] h15 (fun _ h17 => Sh h15 h17 ∧ KK z_pV 48 [.ref a, .int x1, .int (4 : Int32), .int (z_iv h17 a 5)] h17 (fun _ h19 => Sh h17 h19 ∧ KK z_pV 48 [.ref a, .int x1, .int (5 : Int32), .int (z_iv h19 a 6)] h19 (fun _ h21 => Sh h19 h21 ∧ Q y (z_sI h21 a 7 ((z_iv h21 a 7) + y)))))))) := by
  have ta := R.w.mt R.f ha
  have ga := R.f.ge ta (by omega)
  have na := R.w.lv 1 m a ha
  have t3 := (R.w.m1 ta).2.2
  have n3 : a + 3 < z_nx h := R.w.lt (a + 3) (by rw [t3]; decide)
  have R1 := R.nl (v := s) (w := 0) hm ha (by omega) ht (by omega)
  have R2 := R1.nl (v := cc) (w := 1) hm ha (by omega) ht (by omega)
  have R3 := R2.nl (v := y) (w := 2) hm ha (by omega) ht (by omega)
  have R4 := R3.nl (v := n) (w := 3) hm ha (by omega) ht (by omega)
  have R5 := R4.nl (v := G 30 m) (w := 4) hm ha (by omega) ht (by omega)
  have R6 := R5.nl (v := G 31 m) (w := 5) hm ha (by omega) ht (by omega)
  refine K_note (w := 0) R.w ta e1 rfl ht (by omega) ⟨Sh.sI, ?_⟩
  refine K_note (w := 1) R1.w ta e1 rfl ht (by omega) ⟨Sh.sI, ?_⟩
  refine K_note (w := 2) R2.w ta e1 rfl ht (by omega) ⟨Sh.sI, ?_⟩
  refine K_note (w := 3) R3.w ta e1 rfl ht (by omega) ⟨Sh.sI, ?_⟩
  rw [R4.f30 hm ha]
  refine K_note (w := 4) R4.w ta e1 rfl ht (by omega) ⟨Sh.sI, ?_⟩
  rw [R5.f31 hm ha]
  refine K_note (w := 5) R5.w ta e1 rfl ht (by omega) ⟨Sh.sI, ?_⟩
  rw [R6.f33 hm ha]
  have A := (((R6.gp (k := 38) (m := m) (v := y) (by omega) ht (by omega)).gp (k := 39) (m := m) (v := n) (by omega) ht (by omega)).gp (k := 40) (m := m) (v := G 30 m) (by omega) ht (by omega)).gp (k := 41) (m := m) (v := G 31 m) (by omega) ht (by omega)
  have B := A.up (k := 33) (i := m) (c := a) (j := 7) (v := G 33 m + y) ⟨hm, ha, by omega, rfl⟩ (by omega)
  refine q _ (B.lm1 (a := a) (t := t) (lm2 := lm2) hm ha l1 l2 (fun m' h1 h2 => lo m' (by have : m' < q_n G 1 := h1; omega) h2) ?_ ?_ ?_ ?_ ?_ ?_) ?_ ?_
  · rw [v_no (by omega), v_no (by omega), v_no (by omega), v_no (by omega), v_no (by omega), v_no (by omega), v_at, up_ne (by decide), up_ne (by decide), up_ne (by decide), up_ne (by decide), up_ne (by decide)]
    exact es.symm
  · rw [v_no (by omega), v_no (by omega), v_no (by omega), v_no (by omega), v_no (by omega), v_at, up_ne (by decide), up_ne (by decide), up_ne (by decide), up_ne (by decide), up_ne (by decide)]
    exact ec.symm
  · rw [v_no (by omega), v_no (by omega), v_no (by omega), v_no (by omega), v_at, up_ne (by decide), up_ne (by decide), up_ne (by decide), up_ne (by decide), up_at]
  · rw [v_no (by omega), v_no (by omega), v_no (by omega), v_at, up_ne (by decide), up_ne (by decide), up_ne (by decide), up_at]
  · rw [v_no (by omega), v_no (by omega), v_at, up_ne (by decide), up_ne (by decide), up_at]
  · rw [v_no (by omega), v_at, up_ne (by decide), up_at]
  · exact (((((Sh.sI.trans Sh.sI).trans Sh.sI).trans Sh.sI).trans Sh.sI).trans Sh.sI).trans Sh.sI
  · exact ((((((Kq.sI (by omega) (by omega)).trans (Kq.sI (by omega) (by omega))).trans (Kq.sI (by omega) (by omega))).trans (Kq.sI (by omega) (by omega))).trans (Kq.sI (by omega) (by omega))).trans (Kq.sI (by omega) (by omega))).trans (Kq.sI (by omega) (by omega))
end MP
