/-! the first world -/
def gF : zG := fun k i => if k = 26 then z_enc 0 i else if k < 89 then i_lk IF k i else 0
theorem gF_0 {k : Nat} (h : ¬ (k = 0 ∨ k = 60 ∨ k = 61 ∨ k = 86)) (h26 : ¬ k = 26) : ∀ i, gF k i = 0 := by
  intro i
  unfold gF
  rw [if_neg h26]
  by_cases z : k < 89
  · rw [if_pos z]
    have : ∀ k, k < 89 → ¬ (k = 0 ∨ k = 60 ∨ k = 61 ∨ k = 86) → IF.all (fun q => !Nat.beq q.1 k) = true := by decide +kernel
    exact i_fr (this k z h) i
  · rw [if_neg z]
theorem gF_n (j : Nat) : q_n gF j = 0 := by
  unfold q_n
  rw [gF_0 (by omega) (by omega)]
  decide
theorem gF_tb {T : List (Nat × Int × Int)} {n : Nat} (h : ∀ q, q ∈ T → ¬ (q.1 = 0 ∨ q.1 = 60 ∨ q.1 = 61 ∨ q.1 = 86) ∧ ¬ q.1 = 26 ∧ q.2.1 ≤ 0 ∧ 0 ≤ q.2.2) : TB T n gF := by
  intro q hq i _
  obtain ⟨a, b, c, d⟩ := h q hq
  rw [gF_0 a b i, show (0 : Int32).toInt = 0 by decide]
  exact ⟨c, d⟩
theorem gF_t0 {T : List (Nat × Int × Int)} {j : Nat} : TB T (q_n gF j) gF := by
  intro q hq i hi
  rw [gF_n] at hi
  exact absurd hi (by omega)
theorem gF_inv : INV 0 (fun _ => q_n gF 0) gF := by
  have z : (0 : Int32).toInt = 0 := by decide
  have g27 : ∀ j, gF 27 j = 0 := gF_0 (by omega) (by omega)
  have no : ∀ {j i : Nat}, i < q_n gF j → False := fun {j i} h => by rw [gF_n] at h; omega
  refine ⟨?_, gF_t0, fun m hm => (no hm).elim, gF_tb (by decide), gF_tb (by decide), gF_t0, gF_t0, gF_t0, gF_tb (by decide), gF_tb (by decide), gF_tb (by decide), gF_tb (by decide), fun i hi => Or.inl ?_, fun i hi => (no hi).elim, fun i hi => (no hi).elim, fun i hi => (no hi).elim, fun i hi => (no hi).elim, fun i hi => (no hi).elim, fun m hm => Or.inl ⟨gF_0 (by omega) (by omega) m, gF_0 (by omega) (by omega) m, gF_0 (by omega) (by omega) m⟩, fun i hi => (no hi).elim, fun m _ _ => ⟨gF_0 (by omega) (by omega) _, gF_0 (by omega) (by omega) _, gF_0 (by omega) (by omega) _, fun i _ => gF_0 (by omega) (by omega) _, fun i _ => gF_0 (by omega) (by omega) _, fun w t hw _ => gF_0 (by omega) (by omega) _⟩, fun e _ _ => ⟨gF_0 (by omega) (by omega) _, gF_0 (by omega) (by omega) _, gF_0 (by omega) (by omega) _, gF_0 (by omega) (by omega) _, gF_0 (by omega) (by omega) _, gF_0 (by omega) (by omega) _⟩, fun i hi => (no hi).elim, fun i hi => (no hi).elim, fun i hi => (no hi).elim, fun i hi => (no hi).elim, fun m _ => ?_⟩
  · rw [g27 0, g27 1, g27 20, g27 55, g27 45, g27 35, z]; decide
  · have : ∀ i, i < 4 → i_lk IF 86 i = -4 := by decide +kernel
    exact this i hi
  · rw [g27 0, gF_n, z]; show 0 ≤ 60 ∧ (0 : Int) ≤ ((0 : Nat) : Int); decide
section FI
variable {xs : Nat → Int32} {Ls us : Nat}
theorem rvk {nx a j : Nat} {T R : List (Nat × Nat × Nat)} {I : List (Nat × Nat × Int32)} : z_rv (hk xs Ls nx us T I R) a j = r_lk R a j := rfl
theorem ivk {nx a j : Nat} {T R : List (Nat × Nat × Nat)} {I : List (Nat × Nat × Int32)} : z_iv (hk xs Ls nx us T I R) a j = if a = z_SC then xs j else i_lk I a j := rfl
theorem lnk {nx a : Nat} {T R : List (Nat × Nat × Nat)} {I : List (Nat × Nat × Int32)} : z_ln (hk xs Ls nx us T I R) a = if a = z_SC then Ls else (t_lk T a).2 := rfl
theorem hF_tg {a : Nat} (h : ¬ (t_lk TF a).1 = 0) : a < 89 := by
  have key : ∀ (T : List (Nat × Nat × Nat)), (∀ q, q ∈ T → q.1 < 89) → ¬ (t_lk T a).1 = 0 → a < 89 := by
    intro T
    induction T with
    | nil => intro _ z; exact absurd rfl z
    | cons q l ih =>
      intro h1 h2
      unfold t_lk at h2
      by_cases z : a = q.1
      · rw [z]; exact h1 q List.mem_cons_self
      · rw [if_neg z] at h2
        exact ih (fun q hq => h1 q (List.mem_cons_of_mem _ hq)) h2
  exact key TF (by decide +kernel) h
theorem hF_ln {a : Nat} (h : a < 1000) : z_ln (hk xs Ls 89 us TF IF RF) a = (t_lk TF a).2 := if_neg (by unfold z_SC; omega)
theorem hF_cw : CW (hk xs Ls 89 us TF IF RF) := by
  refine ⟨fun a j b h1 h2 => ?_, fun q hq a ha => ?_, fun q hq a ha => ?_, fun a ha => ?_, fun a ha => hF_tg ha, ?_, Nat.le_refl _, fun a j b hb => ?_⟩
  · have m := r_mem (I := RF) h2
    have : ∀ q, q ∈ RF → ¬ (t_lk TF q.1).1 = 12 → (t_lk TF q.2.2).1 = c_ty (t_lk TF q.1).1 q.2.1 := by decide +kernel
    exact this _ m h1
  · have ha : (t_lk TF a).1 = q.1 := ha
    have nz : ∀ q, q ∈ c_rel → ¬ q.1 = 0 := by decide
    have lt := hF_tg (a := a) (by rw [ha]; exact nz q hq)
    have : ∀ q, q ∈ c_rel → ∀ a, a < 89 → (t_lk TF a).1 = q.1 → r_lk RF a q.2.1 = some (a + q.2.2.1) ∧ (t_lk TF (a + q.2.2.1)).2 = q.2.2.2 ∧ q.2.2.1 < 100 := by decide +kernel
    obtain ⟨e1, e2, e3⟩ := this q hq a lt ha
    exact ⟨e1, (hF_ln (by omega)).trans e2⟩
  · have ha : (t_lk TF a).1 = q.1 := ha
    have nz : ∀ q, q ∈ c_abs → ¬ q.1 = 0 := by decide
    have lt := hF_tg (a := a) (by rw [ha]; exact nz q hq)
    have : ∀ q, q ∈ c_abs → ∀ a, a < 89 → (t_lk TF a).1 = q.1 → r_lk RF a q.2.1 = some q.2.2.1 ∧ (t_lk TF q.2.2.1).2 = q.2.2.2 ∧ q.2.2.1 < 100 := by decide +kernel
    obtain ⟨e1, e2, e3⟩ := this q hq a lt ha
    exact ⟨e1, (hF_ln (by omega)).trans e2⟩
  · exfalso
    have ha : (t_lk TF a).1 = 8 := ha
    have lt := hF_tg (a := a) (by rw [ha]; decide)
    have : ∀ a, a < 89 → ¬ (t_lk TF a).1 = 8 := by decide +kernel
    exact this a lt ha
  · show (t_lk TF 0).1 = 11
    decide +kernel
  · have m := r_mem (I := RF) hb
    have : ∀ q, q ∈ RF → q.2.2 < 89 := by decide +kernel
    exact this _ m
theorem hF_rc : RC (fun _ => q_n gF 0) gF (hk xs Ls 89 us TF IF RF) := by
  have no : ∀ {j i : Nat}, i < q_n gF j → False := fun {j i} h => by rw [gF_n] at h; omega
  have r4 : ∀ n, r_lk RF 4 n = none := r_fr (by decide +kernel)
  have r9 : r_lk RF 0 9 = some 15 := by decide +kernel
  have iv : ∀ a j, a < 1000 → z_iv (hk xs Ls 89 us TF IF RF) a j = i_lk IF a j := fun a j h => if_neg (by unfold z_SC; omega)
  have g27 : ∀ j, gF 27 j = 0 := gF_0 (by omega) (by omega)
  have z0 : ∀ a, a < 1000 → (IF.all (fun q => !Nat.beq q.1 a)) = true → ∀ j, z_iv (hk xs Ls 89 us TF IF RF) a j = 0 := fun a h e j => (iv a j h).trans (i_fr e j)
  refine ⟨hF_cw, ?_, ?_, ?_, ?_, ?_⟩
  · have : ∀ a, a < 89 → (t_lk TF a).1 = x_tag a := by decide +kernel
    exact this
  · have : r_lk RF 0 10 = some 21 := by decide +kernel
    exact Or.inl ⟨r9, this⟩
  · refine ⟨fun m n a hm => (no hm).elim, fun m n a hm => (no hm).elim, fun m n a hm => (no hm).elim, fun m n a _ _ h1 _ => ?_⟩
    rw [rvk, r4] at h1
    cases h1
  · intro k i c j L
    unfold Loc at L
    obtain ⟨n, hn⟩ : ∃ n, n = kd k := ⟨_, rfl⟩
    rw [← hn] at L
    have k0 : ∀ k, kd k = 0 → k = 27 := x_kd 0 27 (by decide +kernel)
    have k1 : ∀ k, kd k = 1 → k = 59 := x_kd 1 59 (by decide +kernel)
    match n, hn, L with
    | 0, hn, L =>
      have := k0 k hn.symm
      subst this
      rw [g27 i]
      rcases L with ⟨rfl, L⟩ | ⟨rfl, rfl, rfl⟩ | ⟨rfl, rfl, rfl⟩ | ⟨e, rfl, rfl⟩
      · rw [iv 0 j (by omega)]
        have : ∀ j, j < 16 → i_lk IF 0 j = 0 := by decide +kernel
        exact this j (by omega)
      · exact z0 8 (by omega) (by decide +kernel) _
      · exact z0 6 (by omega) (by decide +kernel) _
      · have e : r_lk RF 0 9 = some c := e
        rw [r9] at e
        injection e with e
        subst e
        exact z0 15 (by omega) (by decide +kernel) _
    | 1, hn, L =>
      have := k1 k hn.symm
      subst this
      obtain ⟨rfl, rfl, _⟩ := L
      rw [gF_0 (by omega) (by omega)]
      exact z0 7 (by omega) (by decide +kernel) _
    | 2, _, L => obtain ⟨B, _, _, hi, _⟩ := L; exact (no hi).elim
    | 3, _, L => exact (no L.1).elim
    | 4, _, L => obtain ⟨m, a, hm, _⟩ := L; exact (no hm).elim
    | 5, _, L => exact (no L.1).elim
    | 6, _, L => exact (no L.1).elim
    | 7, _, L =>
      have e := L.2.1
      rw [rvk, r4] at e
      cases e
    | 8, _, L =>
      obtain ⟨n, s, _, e, _⟩ := L
      rw [rvk, r4] at e
      cases e
    | n + 9, _, L => exact L.elim
  · refine ⟨fun m hm => (no hm).elim, fun m hm => (no hm).elim, fun m hm => (no hm).elim, fun m a hm => (no hm).elim, fun m a hm => (no hm).elim, fun n hn => Or.inl ⟨?_, by rw [rvk]; exact r4 n⟩, fun m a hm => (no hm).elim, fun m a hm => (no hm).elim⟩
    have : ∀ i, i < 4 → i_lk IF 86 i = -4 := by decide +kernel
    exact this n hn
theorem hF_rm : RM gF (hk xs Ls 89 us TF IF RF) := by
  refine ⟨⟨?_, fun k h1 h2 => ?_, fun q hq => ?_⟩, fun k h1 h2 => ?_, ?_, fun i hi => ?_, fun i hi => ?_⟩
  · show (t_lk TF 27).1 = 12
    decide +kernel
  · rw [hF_ln (by omega)]
    have : ∀ k, k < 89 → 28 ≤ k → (t_lk TF k).1 = m_tag k ∧ (t_lk TF k).2 = m_len k := by decide +kernel
    exact this k h2 h1
  · have : ∀ q, q ∈ m_refs → r_lk RF 27 q.1 = some q.2 := by decide +kernel
    exact this q hq
  · funext i
    show (if k = z_SC then xs i else i_lk IF k i) = gF k i
    unfold gF
    rw [if_neg (by unfold z_SC; omega), if_neg (by omega), if_pos h2]
  · funext i
    rfl
  · have : ∀ i, i < 9 → i_lk IF 60 i = m_en i := by decide +kernel
    exact this i hi
  · have : ∀ i, i < 37 → i_lk IF 61 i = m_le i := by decide +kernel
    exact this i hi
theorem h0_eq : z_h0 Ls xs = hk xs Ls 0 0 [] [] [] := by
  have e : z_row (fun _ _ => (0 : Int32)) z_SC xs = fun b i => if b = z_SC then xs i else i_lk [] b i := rfl
  show ((0, 0), (fun _ => 0), (fun b => if b = z_SC then Ls else 0), z_row (fun _ _ => (0 : Int32)) z_SC xs, _, _) = _
  rw [e]
  rfl
theorem L_all (hL : Ls ≤ 3584) : ∃ h', z_go 233 0 (z_ini 233 [.retAddr 19]) [] (z_h0 Ls xs) = some (some (.int 1), h') ∧ z_nx h' ≤ 600000 ∧ z_us h' ≤ 7302250 := by
  have s : Sq xs Ls (hk xs Ls 89 4558 TF IF RF) := by
    refine ⟨?_, ?_, ?_, ?_, hL⟩
    · show (t_lk TF 0).1 = 11
      decide +kernel
    · show (t_lk TF 27).1 = 12
      decide +kernel
    · funext i
      rw [ivk, if_pos rfl]
    · rw [lnk, if_pos rfl]
  obtain ⟨v, h2, e, e1, b1, b2⟩ := L_new (L_loop (U := 4558) (by omega) ⟨gF_inv, hF_rc, hF_rm⟩ s (Nat.le_refl _) (Nat.le_refl _))
  subst e1
  refine ⟨h2, ?_, b1, b2⟩
  rw [h0_eq]
  unfold z_G at e
  have e : (z_go 233 0 [some (.retAddr 19), none, none, none] [] (hk xs Ls 0 0 [] [] [])).bind (fun r => (z_pI r.1).bind (fun v => some (v, r.2))) = some (1, h2) := e
  show z_go 233 0 [some (.retAddr 19), none, none, none] [] (hk xs Ls 0 0 [] [] []) = _
  cases k : z_go 233 0 [some (.retAddr 19), none, none, none] [] (hk xs Ls 0 0 [] [] []) with
  | none => rw [k] at e; cases e
  | some r =>
    rw [k] at e
    obtain ⟨o, h3⟩ := r
    have e : (z_pI o).bind (fun v => some (v, h3)) = some (1, h2) := e
    cases q : z_pI o with
    | none => rw [q] at e; cases e
    | some w =>
      rw [q] at e
      have e := Option.some.inj e
      have e1 : w = 1 := congrArg Prod.fst e
      have e2 : h3 = h2 := congrArg Prod.snd e
      subst e2
      unfold z_pI at q
      split at q
      · injection q with q
        rw [q, e1]
      · cases q
end FI
