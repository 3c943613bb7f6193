section TF
variable {r : Nat → Int32} {t B : Nat} {h0 h h2 : zH} {n : Nat} {R : Nat → Nat → Int32}
theorem K_tk2 (b : Bk r t B h0) (F : Fk B h0 h) (z0 : z_iv h 8 0 = 0) (D : Dr B n R h) {p : Nat} (hp : p ≤ t) (e6 : z_iv h 8 6 = Int32.ofNat p) {o K : xO} (eo : o = e_tk r t p K) {Q : Int32 → zH → Prop} (q9 : o = .inl (1, x_ts r t p) → ∀ h', Sh h h' → Fk B h0 h' → z_iv h' 8 0 = 1 → z_iv h' 8 1 = Int32.ofNat (x_ts r t p) → Q 0 h') (q : o = K → ∀ h', Sh h h' → Fk B h0 h' → z_iv h' 8 0 = 0 → Tok r t p h' → Dr B n R h' → Q 1 h') : KK z_pI 82 [.ref 8] h Q := K_tk b F z0 D hp e6 K (fun e => q9 (eo.trans e)) (fun e => q (eo.trans e))
theorem K_nm2 (T : Tp r t h) {p : Nat} (A : Tok r t p h) {lo hi : Int32} {o K : xO} (eo : o = e_nm r t p lo hi K) {Q : Int32 → zH → Prop} (q0 : ∀ c h', o = .inl (c, x_ts r t p) → S8 h h' → z_iv h' 8 0 = c → z_iv h' 8 1 = Int32.ofNat (x_ts r t p) → Q 0 h') (q1 : o = K → x_k r t p = 2 → (lo ≤ x_v r t p ∧ x_v r t p ≤ hi) → Q 1 h) : KK z_pI 76 [.ref 8, .int lo, .int hi] h Q := K_nm T A K (fun c h' e => q0 c h' (eo.trans e)) (fun e => q1 (eo.trans e))
theorem K_75b (b : Bk r t B h0) (F : Fk B h0 h) {p m : Nat} (hm : m < 5) (A : Tok r t p h) {o K : xO} (eo : o = e_ky r t p (Int32.ofNat m) K) {Q : Int32 → zH → Prop} (q0 : ∀ c h', o = .inl (c, x_ts r t p) → S8 h h' → z_iv h' 8 0 = c → z_iv h' 8 1 = Int32.ofNat (x_ts r t p) → Q 0 h') (q1 : o = K → (0 ≤ (x_ky r t p (Int32.ofNat m)).toInt ∧ (x_ky r t p (Int32.ofNat m)).toInt ≤ 7) → ∀ h', S8 h h' → z_iv h' 8 0 = z_iv h 8 0 → Tok r t p h' → z_iv h' 8 7 = x_ky r t p (Int32.ofNat m) → Q 1 h') : KK z_pI 75 [.ref 8, .int (Int32.ofNat m)] h Q := K_75 b F hm A K (fun c h' e => q0 c h' (eo.trans e)) (fun e => q1 (eo.trans e))
theorem K_74 (b : Bk r t B h0) (F : Fk B h0 h) (z0 : z_iv h 8 0 = 0) {p m : Nat} (A : Tok r t p h) (D : Dr B n R h) (hn : n < 16) (hm : m < 7) {f : Int32} (hf : 0 ≤ f.toInt ∧ f.toInt ≤ 59) (o : xO) (eo : o = if Int32.ofNat m = 5 ∨ Int32.ofNat m = 6 then e_r5 r t p n R (Int32.ofNat m) f else e_r0 r t p n R (Int32.ofNat m) f) {Q : Int32 → zH → Prop}
    (qf : ∀ c s h', o = .inl (c, s) → Sh h h' → Fk B h0 h' → z_iv h' 8 0 = c → z_iv h' 8 1 = Int32.ofNat s → Q 0 h')
    (qs : ∀ p' R' h', o = e_en r t p' (n + 1) R' → Sh h h' → Fk B h0 h' → z_iv h' 8 0 = 0 → Tok r t p' h' → Dr B (n + 1) R' h' → Q 1 h') : KK z_pI 74 [.ref 8, .int f, .int (Int32.ofNat m)] h Q := by
  have T := F.tp b
  have c7 : ∀ m, m < 7 → ¬ (Int32.ofNat m < 0) ∧ ¬ ((7 : Int32) ≤ Int32.ofNat m) := by decide +kernel
  have c0 : ∀ k, k < 16 → ¬ (Int32.ofNat k < 0) ∧ Int32.ofNat k < (16 : Int32) := by decide +kernel
  have bm : ¬ (Int32.ofNat m < 0) → ¬ ((7 : Int32) ≤ Int32.ofNat m) → 0 ≤ (Int32.ofNat m).toInt ∧ (Int32.ofNat m).toInt < 7 := fun _ _ => n_bd (N := 7) hm (by omega)
  have bn := n_bd (i := n) (N := 16) hn (by omega)
  have eg : (if Int32.ofNat m < 0 then (-4 : Int32) else (if (7 : Int32) ≤ Int32.ofNat m then (-4 : Int32) else ((z_st.getD 0 []).getD (z_ix (Int32.ofNat m)) 0))) = s_cg (Int32.ofNat m) := by
    rw [if_neg (c7 m hm).1, if_neg (c7 m hm).2]; rfl
  have rv := F.1.rv b.2.2.1
  refine X_74 8 _ _ h T.1 T.2.2.1 ?_
  have five : (Int32.ofNat m = 5 ∨ Int32.ofNat m = 6) → ∃ v4 : Int32, KV z_pI 19 [.ref B, .int f, .int (Int32.ofNat m), .int (0 : Int32)] h v4 ∧ (if v4 = 0 then (if (z_iv h B 5) < 0 then (KK z_pI 82 [.ref 8] h (fun r9 h7 => Sh h h7 ∧ (r9 = 0 ∨ r9 = 1) ∧ Q r9 h7)) else (if (z_iv h B 5) < (16 : Int32) then ((0 ≤ (z_iv h B 5).toInt ∧ (z_iv h B 5).toInt < 16) ∧ (0 ≤ (z_iv h B 5).toInt ∧ (z_iv h B 5).toInt < 16) ∧ (¬ (Int32.ofNat m < 0) → ¬ ((7 : Int32) ≤ Int32.ofNat m) → 0 ≤ (Int32.ofNat m).toInt ∧ (Int32.ofNat m).toInt < 7) ∧ (0 ≤ (z_iv h B 5).toInt ∧ (z_iv h B 5).toInt < 16) ∧ (0 ≤ (z_iv h B 5).toInt ∧ (z_iv h B 5).toInt < 16) ∧ (0 ≤ (z_iv h B 5).toInt ∧ (z_iv h B 5).toInt < 16) ∧ KK z_pI 82 [.ref 8] (z_sI (z_sI (z_sI (z_sI (z_sI (z_sI h (B + 1) (z_ix (z_iv h B 5)) f) (B + 2) (z_ix (z_iv h B 5)) (Int32.ofNat m)) (B + 3) (z_ix (z_iv h B 5)) (if Int32.ofNat m < 0 then (-4 : Int32) else (if (7 : Int32) ≤ Int32.ofNat m then (-4 : Int32) else ((z_st.getD 0 []).getD (z_ix (Int32.ofNat m)) 0)))) (B + 4) (z_ix (z_iv h B 5)) (0 : Int32)) (B + 5) (z_ix (z_iv h B 5)) (0 : Int32)) B 5 ((z_iv h B 5) + (1 : Int32))) (fun r20 h18 => Sh (z_sI (z_sI (z_sI (z_sI (z_sI (z_sI h (B + 1) (z_ix (z_iv h B 5)) f) (B + 2) (z_ix (z_iv h B 5)) (Int32.ofNat m)) (B + 3) (z_ix (z_iv h B 5)) (if Int32.ofNat m < 0 then (-4 : Int32) else (if (7 : Int32) ≤ Int32.ofNat m then (-4 : Int32) else ((z_st.getD 0 []).getD (z_ix (Int32.ofNat m)) 0)))) (B + 4) (z_ix (z_iv h B 5)) (0 : Int32)) (B + 5) (z_ix (z_iv h B 5)) (0 : Int32)) B 5 ((z_iv h B 5) + (1 : Int32))) h18 ∧ (r20 = 0 ∨ r20 = 1) ∧ Q r20 h18)) else (KK z_pI 82 [.ref 8] h (fun r24 h22 => Sh h h22 ∧ (r24 = 0 ∨ r24 = 1) ∧ Q r24 h22)))) else (Q (0 : Int32) (z_sI (z_sI h 8 0 (5 : Int32)) 8 1 (z_iv h 8 5)))) := by
    intro w
    rw [if_pos w] at eo
    unfold e_r5 at eo
    refine ⟨_, K_19 b F D hm 0 f, ?_⟩
    by_cases z : x_td n R (Int32.ofNat m) 0 f
    · rw [if_pos z] at eo
      rw [if_pos z, if_neg (by decide), A.2.1]
      have s8 : S8 h (z_sI (z_sI h 8 0 (5 : Int32)) 8 1 (Int32.ofNat (x_ts r t p))) := (S8.refl h).sI.sI
      exact qf 5 _ _ eo s8.1 (F.s8 s8) (by rw [v_no (by omega), v_at]) v_at
    · rw [if_neg z] at eo
      rw [if_neg z, if_pos rfl, D.1, if_neg (c0 n hn).1, if_pos (c0 n hn).2, n_ix (by omega), eg, n_s]
      refine ⟨bn, bn, bm, bn, bn, bn, ?_⟩
      have m5 : 5 ≤ m := by
        have : ∀ m, m < 5 → ¬ (Int32.ofNat m = 5 ∨ Int32.ofNat m = 6) := by decide +kernel
        apply Decidable.byContradiction
        intro y
        exact this m (by omega) w
      obtain ⟨sh, F', D', k8⟩ := D.add b F hn (w := Int32.ofNat m) (o := 0) (f := f) (v := 0) ⟨m, hm, rfl⟩ (by decide) hf (lv_0 m hm m5) _ rfl
      refine K_tk2 b F' ((k8 0).trans z0) D' A.pe ((k8 6).trans A.2.2.1) eo (fun e h' s1 F1 k0 k1 => ⟨s1, Or.inl rfl, ?_⟩) (fun e h' s1 F1 k0 A1 D1 => ⟨s1, Or.inr rfl, ?_⟩)
      · exact qf 1 _ h' e (sh.trans s1) F1 k0 k1
      · exact qs _ _ h' e (sh.trans s1) F1 k0 A1 D1
  by_cases w5 : Int32.ofNat m = 5
  · rw [if_pos w5]
    exact o_S rv (five (Or.inl w5))
  rw [if_neg w5]
  by_cases w6 : Int32.ofNat m = 6
  · rw [if_pos w6]
    exact o_S rv (five (Or.inr w6))
  rw [if_neg w6]
  rw [if_neg (fun z => z.elim w5 w6)] at eo
  have hm5 : m < 5 := by
    apply Decidable.byContradiction
    intro y
    have c : m = 5 ∨ m = 6 := by omega
    rcases c with c | c <;> subst c
    · exact w5 rfl
    · exact w6 rfl
  unfold e_r0 at eo
  refine K_tk2 b F z0 D A.pe A.2.2.1 eo (fun e h1 s1 F1 k0 k1 => ⟨s1, ?_⟩) (fun e h1 s1 F1 k0 A1 D1 => ⟨s1, ?_⟩)
  · rw [if_pos rfl]
    exact qf 1 _ h1 e s1 F1 k0 k1
  rw [if_neg (by decide)]
  have eo := e
  refine K_75b b F1 hm5 A1 eo (fun c h3 e s3 k0' k1 => ⟨s3.1, ?_⟩) (fun e ob h3 s3 k0' A3 k7 => ⟨s3.1, ?_⟩)
  · rw [if_pos rfl]
    exact qf c _ h3 e (s1.trans s3.1) (F1.s8 s3) k0' k1
  rw [if_neg (by decide)]
  have eo := e
  have F3 := F1.s8 s3
  have D3 := D1.s8 s3 b.2.2.2.1
  have sh3 := s1.trans s3.1
  refine o_S (F3.1.rv b.2.2.1) ?_
  rw [k7]
  refine ⟨_, K_19 b F3 D3 hm _ f, ?_⟩
  unfold e_r1 at eo
  by_cases z : x_td n R (Int32.ofNat m) (x_ky r t (x_e r t p) (Int32.ofNat m)) f
  · rw [if_pos z] at eo
    rw [if_pos z, if_neg (by decide), A3.2.1]
    have s8 : S8 h3 (z_sI (z_sI h3 8 0 (5 : Int32)) 8 1 (Int32.ofNat (x_ts r t (x_e r t p)))) := (S8.refl h3).sI.sI
    exact qf 5 _ _ eo (sh3.trans s8.1) (F3.s8 s8) (by rw [v_no (by omega), v_at]) v_at
  rw [if_neg z] at eo
  rw [if_neg z, if_pos rfl]
  refine K_tk2 b F3 (k0'.trans k0) D3 A3.pe A3.2.2.1 eo (fun e h4 s4 F4 k0 k1 => ⟨s4, ?_⟩) (fun e h4 s4 F4 k0 A4 D4 => ⟨s4, ?_⟩)
  · rw [if_pos rfl]
    exact qf 1 _ h4 e (sh3.trans s4) F4 k0 k1
  rw [if_neg (by decide)]
  have eo := e
  have sh4 := sh3.trans s4
  have c5 : ∀ m, m < 5 → ((0 : Int32) ≤ Int32.ofNat m ∧ Int32.ofNat m ≤ ((5 : Int32) - (1 : Int32))) ∧ (z_st.getD 1 []).getD (z_ix (Int32.ofNat m)) 0 = x_lo (Int32.ofNat m) ∧ (z_st.getD 2 []).getD (z_ix (Int32.ofNat m)) 0 = x_hi (Int32.ofNat m) := by decide +kernel
  obtain ⟨y1, y2, y3⟩ := c5 m hm5
  have b5 := n_bd (i := m) (N := 5) hm5 (by omega)
  rw [if_pos y1, if_pos y1, y2, y3]
  refine ⟨fun _ => b5, fun _ => b5, ?_⟩
  refine K_nm2 (F4.tp b) A4 eo (fun c h5 e s5 k0 k1 => ⟨s5.1, ?_⟩) (fun e zk zv => ⟨Sh.refl h4, ?_⟩)
  · rw [if_pos rfl]
    exact qf c _ h5 e (sh4.trans s5.1) (F4.s8 s5) k0 k1
  rw [if_neg (by decide), D4.1, if_neg (c0 n hn).1, if_pos (c0 n hn).2, n_ix (by omega), eg, n_s, A4.2.2.2.1 zk]
  have eo := e
  refine ⟨bn, bn, bm, bn, bn, bn, ?_⟩
  obtain ⟨sh, F', D', k8⟩ := D4.add b F4 hn (w := Int32.ofNat m) (o := x_ky r t (x_e r t p) (Int32.ofNat m)) (f := f) (v := x_v r t (x_e r t (x_e r t p))) ⟨m, hm, rfl⟩ ob hf (lv_1 hm5 zv) _ rfl
  refine K_tk2 b F' ((k8 0).trans k0) D' A4.pe ((k8 6).trans A4.2.2.1) eo (fun e h' s1 F1 k0 k1 => ⟨s1, Or.inl rfl, ?_⟩) (fun e h' s1 F1 k0 A1 D1 => ⟨s1, Or.inr rfl, ?_⟩)
  · exact qf 1 _ h' e ((sh4.trans sh).trans s1) F1 k0 k1
  · exact qs _ _ h' e ((sh4.trans sh).trans s1) F1 k0 A1 D1
/-- the end of a line -/
theorem K_en (b : Bk r t B h0) (F : Fk B h0 h) (z0 : z_iv h 8 0 = 0) {p : Nat} (A : Tok r t p h) (D : Dr B n R h) {Q : Int32 → zH → Prop}
    (qf : ∀ c s h', e_en r t p n R = .inl (c, s) → Sh h h' → Fk B h0 h' → z_iv h' 8 0 = c → z_iv h' 8 1 = Int32.ofNat s → Q 0 h')
    (qs : ∀ x h', e_en r t p n R = .inr x → Sh h h' → Fk B h0 h' → z_iv h' 8 0 = 0 → Tok r t x.1 h' → Dr B x.2.1 x.2.2 h' → Q 1 h') : (if (z_iv h 8 4) = (3 : Int32) then (KK z_pI 82 [.ref 8] h (fun r10 h8 => Sh h h8 ∧ (r10 = 0 ∨ r10 = 1) ∧ Q r10 h8)) else (Q (0 : Int32) (z_sI (z_sI h 8 0 (2 : Int32)) 8 1 (z_iv h 8 5)))) := by
  unfold e_en at qf qs
  rw [A.1, A.2.1]
  by_cases z : x_k r t p = 3
  · rw [if_pos z] at qf qs
    rw [if_pos z]
    refine K_tk b F z0 D A.pe A.2.2.1 (.inr (x_e r t p, n, R)) (fun e h' s1 F1 k0 k1 => ⟨s1, Or.inl rfl, ?_⟩) (fun e h' s1 F1 k0 A1 D1 => ⟨s1, Or.inr rfl, ?_⟩)
    · exact qf 1 _ h' e s1 F1 k0 k1
    · exact qs _ h' e s1 F1 k0 A1 D1
  · rw [if_neg z] at qf
    rw [if_neg z]
    have s8 : S8 h (z_sI (z_sI h 8 0 (2 : Int32)) 8 1 (Int32.ofNat (x_ts r t p))) := (S8.refl h).sI.sI
    exact qf 2 _ _ rfl s8.1 (F.s8 s8) (by rw [v_no (by omega), v_at]) v_at
theorem K_ru (b : Bk r t B h0) (F : Fk B h0 h) (z0 : z_iv h 8 0 = 0) {p : Nat} (A : Tok r t p h) (D : Dr B n R h) (hn : n < 16) {f : Int32} (hf : 0 ≤ f.toInt ∧ f.toInt ≤ 59) {o : xO} (eo : o = e_ru r t p n R f) {Q : Int32 → zH → Prop}
    (qf : ∀ c s h', o = .inl (c, s) → Sh h h' → Fk B h0 h' → z_iv h' 8 0 = c → z_iv h' 8 1 = Int32.ofNat s → Q 0 h')
    (qs : ∀ x h', o = .inr x → Sh h h' → Fk B h0 h' → z_iv h' 8 0 = 0 → Tok r t x.1 h' → Dr B x.2.1 x.2.2 h' → Q 1 h') : ∃ v3 : Int32, KV z_pI 79 [.ref 8] h v3 ∧ (if v3 = (-4 : Int32) then (Q (0 : Int32) (z_sI (z_sI h 8 0 (2 : Int32)) 8 1 (z_iv h 8 5))) else (KK z_pI 74 [.ref 8, .int f, .int v3] h (fun r7 h5 => Sh h h5 ∧ (if r7 = 0 then (Q (0 : Int32) h5) else (if (z_iv h5 8 4) = (3 : Int32) then (KK z_pI 82 [.ref 8] h5 (fun r10 h8 => Sh h5 h8 ∧ (r10 = 0 ∨ r10 = 1) ∧ Q r10 h8)) else (Q (0 : Int32) (z_sI (z_sI h5 8 0 (2 : Int32)) 8 1 (z_iv h5 8 5)))))))) := by
  refine ⟨_, K_79 (F.tp b) A, ?_⟩
  unfold e_ru at eo
  by_cases z : x_rl r t p = -4
  · rw [if_pos z] at eo
    rw [if_pos z, A.2.1]
    have s8 : S8 h (z_sI (z_sI h 8 0 (2 : Int32)) 8 1 (Int32.ofNat (x_ts r t p))) := (S8.refl h).sI.sI
    exact qf 2 _ _ eo s8.1 (F.s8 s8) (by rw [v_no (by omega), v_at]) v_at
  · rw [if_neg z] at eo
    rw [if_neg z]
    rcases rl_c (r := r) (t := t) (p := p) with y | ⟨m, hm, em⟩
    · exact absurd y z
    · rw [em] at eo ⊢
      refine K_74 b F z0 A D hn hm hf o eo (fun c s h' e sh F1 k0 k1 => ⟨sh, ?_⟩) (fun p' R' h' e sh F1 k0 A1 D1 => ⟨sh, ?_⟩)
      · rw [if_pos rfl]
        exact qf c s h' e sh F1 k0 k1
      · rw [if_neg (by decide)]
        exact K_en b F1 k0 A1 D1 (fun c s h2 e2 s2 F2 k0 k1 => qf c s h2 (e.trans e2) (sh.trans s2) F2 k0 k1) (fun x h2 e2 s2 F2 k0 A2 D2 => qs x h2 (e.trans e2) (sh.trans s2) F2 k0 A2 D2)
theorem K_73 (b : Bk r t B h0) (F : Fk B h0 h) (z0 : z_iv h 8 0 = 0) {p : Nat} (A : Tok r t p h) (D : Dr B n R h) (hn : n < 16) {o : xO} (eo : o = e_li r t p n R) {Q : Int32 → zH → Prop}
    (qf : ∀ c s h', o = .inl (c, s) → Sh h h' → Fk B h0 h' → z_iv h' 8 0 = c → z_iv h' 8 1 = Int32.ofNat s → Q 0 h')
    (qs : ∀ x h', o = .inr x → Sh h h' → Fk B h0 h' → z_iv h' 8 0 = 0 → Tok r t x.1 h' → Dr B x.2.1 x.2.2 h' → Q 1 h') : KK z_pI 73 [.ref 8] h Q := by
  have T := F.tp b
  refine X_73 8 h T.1 T.2.2.1 ⟨_, K_81 T A (by omega), ?_⟩
  unfold e_li at eo
  by_cases z : x_m r t p 3
  · rw [if_pos z] at eo
    rw [if_pos z, if_neg (by decide)]
    refine K_tk2 b F z0 D A.pe A.2.2.1 eo (fun e h1 s1 F1 k0 k1 => ⟨s1, ?_⟩) (fun e h1 s1 F1 k0 A1 D1 => ⟨s1, ?_⟩)
    · rw [if_pos rfl]
      exact qf 1 _ h1 e s1 F1 k0 k1
    rw [if_neg (by decide)]
    have eo := e
    refine K_nm2 (F1.tp b) A1 eo (fun c h3 e s3 k0 k1 => ⟨s3.1, ?_⟩) (fun e zk zv => ⟨Sh.refl h1, ?_⟩)
    · rw [if_pos rfl]
      exact qf c _ h3 e (s1.trans s3.1) (F1.s8 s3) k0 k1
    rw [if_neg (by decide)]
    have eo := e
    refine K_tk2 b F1 k0 D1 A1.pe A1.2.2.1 eo (fun e h3 s3 F3 k0 k1 => ⟨s3, ?_⟩) (fun e h3 s3 F3 k0 A3 D3 => ⟨s3, ?_⟩)
    · rw [if_pos rfl]
      exact qf 1 _ h3 e (s1.trans s3) F3 k0 k1
    rw [if_neg (by decide), A1.2.2.2.1 zk]
    have eo := e
    have fb : 0 ≤ (x_v r t (x_e r t p)).toInt ∧ (x_v r t (x_e r t p)).toInt ≤ 59 := by
      have y1 := n_le.mp zv.1
      have y2 := n_le.mp zv.2
      rw [show (0 : Int32).toInt = 0 by decide] at y1
      rw [show (59 : Int32).toInt = 59 by decide] at y2
      exact ⟨y1, y2⟩
    exact K_ru b F3 k0 A3 D3 hn fb eo (fun c s h4 e s4 F4 k0 k1 => qf c s h4 e ((s1.trans s3).trans s4) F4 k0 k1) (fun x h4 e s4 F4 k0 A4 D4 => qs x h4 e ((s1.trans s3).trans s4) F4 k0 A4 D4)
  · rw [if_neg z] at eo
    rw [if_neg z, if_pos rfl]
    exact K_ru b F z0 A D hn (by decide) eo qf qs
theorem K_70l (b : Bk r t B h0) (tB : z_tg h0 B = 1) {Q : Int32 → zH → Prop} : ∀ f p n R h, n + f = 16 → Fk B h0 h → z_iv h 8 0 = 0 → Tok r t p h → Dr B n R h → Hk r t B h0 Q (e_tx r t f p n R) → KG z_pI 70 39 [some (.ref 8), some (.ref B), some (.int (Int32.ofNat n))] [] h Q := by
  intro f
  induction f with
  | zero =>
    intro p n R h hn F z0 A D H
    have T := F.tp b
    have e16 : n = 16 := by omega
    subst e16
    refine X_70_39 8 B _ h T.1 T.2.2.1 (F.1.tg tB) ?_
    rw [if_pos (by decide), A.1]
    unfold e_tx at H
    by_cases z : x_k r t p = 0
    · rw [if_pos z] at H
      rw [if_pos z]
      exact H h F z0 A D
    · rw [if_neg z] at H
      rw [if_neg z]
      refine ⟨_, K_71 T A, fun m10 e10 => ?_⟩
      rw [A.2.1]
      have s8 : S8 h (z_sI (z_sI h 8 0 m10) 8 1 (Int32.ofNat (x_ts r t p))) := (S8.refl h).sI.sI
      refine H _ (F.s8 s8) ?_ v_at
      rw [v_no (by omega), v_at, e10]
      show _ = (if x_m r t p 3 ∨ ¬ x_rl r t p = -4 then (4 : Int32) else 2)
      by_cases w : x_m r t p 3 ∨ ¬ x_rl r t p = -4
      · rw [if_pos w, if_pos w, if_neg (by decide)]
      · rw [if_neg w, if_neg w, if_pos rfl]
  | succ f ih =>
    intro p n R h hn F z0 A D H
    have T := F.tp b
    refine X_70_39 8 B _ h T.1 T.2.2.1 (F.1.tg tB) ?_
    rw [if_neg (show ¬ (16 : Int32) ≤ Int32.ofNat n from fun z => by have := (n_lit_le (k := 16) (by omega) (by omega)).mp z; omega), A.1]
    unfold e_tx at H
    by_cases z : x_k r t p = 0
    · rw [if_pos z] at H
      rw [if_pos z]
      exact H h F z0 A D
    · rw [if_neg z] at H
      rw [if_neg z]
      refine K_73 b F z0 A D (by omega) rfl (fun c s h1 e s1 F1 k0 k1 => ⟨s1, ?_⟩) (fun x h1 e s1 F1 k0 A1 D1 => ⟨s1, ?_⟩)
      · rw [if_pos rfl]
        rw [e] at H
        exact H h1 F1 k0 k1
      · rw [if_neg (by decide), n_s]
        rw [e] at H
        have en := li_n e
        rw [← en]
        exact ih x.1 x.2.1 x.2.2 h1 (by omega) F1 k0 A1 D1 H
end TF
