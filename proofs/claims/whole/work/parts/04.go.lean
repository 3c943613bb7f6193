/-! what the small machine comes to, as a function; its rules -/
theorem z_run_succ (n y pc : Nat) (L : zL) (S : zS) (h : zH) : z_run (n + 1) y pc L S h =
    bif z_isR (z_c y pc).1 then (match z_ret (z_c y pc).1 (z_rt y) S with
      | some r => some (r, h)
      | none => none)
    else bif z_isC (z_c y pc).1 && Nat.ble 2 (z_c y pc).2.2.1 then
      (bif z_grd (z_c y pc).2.2.1 (z_c y pc).2.2.2.1 S h then
        (match z_run n (z_c y pc).2.2.1 0 (z_ini (z_c y pc).2.2.1 (z_arg (z_c y pc).2.2.2.1 S)) [] h with
        | some r => z_run n y (pc + 3) L (r.1.toList ++ S.drop (z_c y pc).2.2.2.1) r.2
        | none => none)
      else none)
    else (match z_op (z_c y pc) pc L S h with
      | some t => z_run n y t.1 t.2.1 t.2.2.1 t.2.2.2
      | none => none) := rfl
theorem z_run_mono1 : ∀ (n y pc : Nat) (L : zL) (S : zS) (h : zH) (r : Option Value × zH), z_run n y pc L S h = some r → z_run (n + 1) y pc L S h = some r := by
  intro n
  induction n with
  | zero => intro y pc L S h r e; exact absurd e (by simp [z_run])
  | succ n ih =>
    intro y pc L S h r e
    rw [z_run_succ] at e
    rw [z_run_succ]
    cases hR : z_isR (z_c y pc).1 with
    | true => rw [hR] at e; exact e
    | false =>
      rw [hR] at e
      simp only [cond_false] at e ⊢
      cases hC : z_isC (z_c y pc).1 && Nat.ble 2 (z_c y pc).2.2.1 with
      | true =>
        rw [hC] at e
        simp only [cond_true] at e ⊢
        cases hG : z_grd (z_c y pc).2.2.1 (z_c y pc).2.2.2.1 S h with
        | false => rw [hG] at e; exact absurd e (by simp)
        | true =>
          rw [hG] at e
          simp only [cond_true] at e ⊢
          cases hI : z_run n (z_c y pc).2.2.1 0 (z_ini (z_c y pc).2.2.1 (z_arg (z_c y pc).2.2.2.1 S)) [] h with
          | none => rw [hI] at e; exact absurd e (by simp)
          | some q =>
            rw [hI] at e
            rw [ih _ _ _ _ _ _ hI]
            exact ih _ _ _ _ _ _ e
      | false =>
        rw [hC] at e
        simp only [cond_false] at e ⊢
        cases hO : z_op (z_c y pc) pc L S h with
        | none => rw [hO] at e; exact absurd e (by simp)
        | some t =>
          rw [hO] at e
          exact ih _ _ _ _ _ _ e
theorem z_run_mono {n k y pc : Nat} {L : zL} {S : zS} {h : zH} {r : Option Value × zH} (e : z_run n y pc L S h = some r) (hk : n ≤ k) : z_run k y pc L S h = some r := by
  induction hk with
  | refl => exact e
  | step _ ih => exact z_run_mono1 _ _ _ _ _ _ _ ih
theorem z_run_det {n k y pc : Nat} {L : zL} {S : zS} {h : zH} {r q : Option Value × zH} (e : z_run n y pc L S h = some r) (f : z_run k y pc L S h = some q) : r = q := by
  rcases Nat.le_total n k with u | u
  · exact Option.some.inj ((z_run_mono e u).symm.trans f)
  · exact Option.some.inj (e.symm.trans (z_run_mono f u))
noncomputable def z_go (y pc : Nat) (L : zL) (S : zS) (h : zH) : Option (Option Value × zH) :=
  @dite _ (∃ r, ∃ n, z_run n y pc L S h = some r) (Classical.propDecidable _) (fun e => some (Classical.choose e)) (fun _ => none)
theorem z_go_iff {y pc : Nat} {L : zL} {S : zS} {h : zH} {r : Option Value × zH} : z_go y pc L S h = some r ↔ ∃ n, z_run n y pc L S h = some r := by
  unfold z_go
  by_cases e : ∃ r, ∃ n, z_run n y pc L S h = some r
  · rw [dif_pos e]
    constructor
    · intro q
      have := Classical.choose_spec e
      rw [Option.some.inj q] at this
      exact this
    · rintro ⟨n, hn⟩
      obtain ⟨k, hk⟩ := Classical.choose_spec e
      exact congrArg some (z_run_det hk hn)
  · rw [dif_neg e]
    constructor
    · intro q; cases q
    · rintro ⟨n, hn⟩
      exact absurd ⟨r, n, hn⟩ e
theorem z_go_ext {a b : Option (Option Value × zH)} (e : ∀ r, a = some r ↔ b = some r) : a = b := Option.ext e
/-- one step that is no call and no return -/
theorem z_go_op {y pc : Nat} {L : zL} {S : zS} {h : zH} (hR : z_isR (z_c y pc).1 = false) (hC : (z_isC (z_c y pc).1 && Nat.ble 2 (z_c y pc).2.2.1) = false) :
    z_go y pc L S h = (z_op (z_c y pc) pc L S h).bind (fun t => z_go y t.1 t.2.1 t.2.2.1 t.2.2.2) := by
  refine z_go_ext fun r => ?_
  rw [z_go_iff]
  cases hO : z_op (z_c y pc) pc L S h with
  | none =>
    constructor
    · rintro ⟨n, hn⟩
      cases n with
      | zero => exact absurd hn (by simp [z_run])
      | succ n => rw [z_run_succ, hR, hC, hO] at hn; exact absurd hn (by simp)
    · intro e; exact absurd e (by simp)
  | some t =>
    rw [Option.bind_some, z_go_iff]
    constructor
    · rintro ⟨n, hn⟩
      cases n with
      | zero => exact absurd hn (by simp [z_run])
      | succ n => rw [z_run_succ, hR, hC, hO] at hn; exact ⟨n, hn⟩
    · rintro ⟨n, hn⟩
      exact ⟨n + 1, by rw [z_run_succ, hR, hC, hO]; exact hn⟩
theorem z_go_ret {y pc : Nat} {L : zL} {S : zS} {h : zH} {r : Option Value} (hR : z_isR (z_c y pc).1 = true) (hr : z_ret (z_c y pc).1 (z_rt y) S = some r) : z_go y pc L S h = some (r, h) :=
  z_go_iff.mpr ⟨1, by rw [z_run_succ, hR, hr]; rfl⟩
theorem z_go_call {y pc : Nat} {L : zL} {S : zS} {h : zH} (z n : Nat) (hz : (z_c y pc).2.2.1 = z) (hn : (z_c y pc).2.2.2.1 = n) (hR : z_isR (z_c y pc).1 = false) (hC : z_isC (z_c y pc).1 = true) (h2 : Nat.ble 2 z = true)
    (hG : z_grd z n S h = true) :
    z_go y pc L S h = (z_go z 0 (z_ini z (z_arg n S)) [] h).bind (fun r => z_go y (pc + 3) L (r.1.toList ++ S.drop n) r.2) := by
  subst hz; subst hn
  refine z_go_ext fun r => ?_
  rw [z_go_iff]
  constructor
  · rintro ⟨n, hn⟩
    cases n with
    | zero => exact absurd hn (by simp [z_run])
    | succ n =>
      rw [z_run_succ, hR, hC, h2, hG] at hn
      simp only [cond_false, cond_true, Bool.and_self] at hn
      cases hI : z_run n (z_c y pc).2.2.1 0 (z_ini (z_c y pc).2.2.1 (z_arg (z_c y pc).2.2.2.1 S)) [] h with
      | none => rw [hI] at hn; exact absurd hn (by simp)
      | some q =>
        rw [hI] at hn
        rw [z_go_iff.mpr ⟨n, hI⟩, Option.bind_some]
        exact z_go_iff.mpr ⟨n, hn⟩
  · intro e
    cases hI : z_go (z_c y pc).2.2.1 0 (z_ini (z_c y pc).2.2.1 (z_arg (z_c y pc).2.2.2.1 S)) [] h with
    | none => rw [hI] at e; exact absurd e (by simp)
    | some q =>
      rw [hI, Option.bind_some] at e
      obtain ⟨a, ha⟩ := z_go_iff.mp hI
      obtain ⟨b, hb⟩ := z_go_iff.mp e
      refine ⟨max a b + 1, ?_⟩
      rw [z_run_succ, hR, hC, h2, hG]
      simp only [cond_false, cond_true, Bool.and_self]
      rw [z_run_mono ha (Nat.le_max_left a b)]
      exact z_run_mono hb (Nat.le_max_right a b)
theorem z_go_rok {y pc : Nat} {L : zL} {S : zS} {h : zH} (z n : Nat) (hz : (z_c y pc).2.2.1 = z) (hn : (z_c y pc).2.2.2.1 = n) (hR : z_isR (z_c y pc).1 = false) (hC : z_isC (z_c y pc).1 = true) (h2 : Nat.ble 2 z = true)
    (hG : z_grd z n S h = false) : z_go y pc L S h = none := by
  subst hz; subst hn
  refine z_go_ext fun r => ?_
  rw [z_go_iff]
  constructor
  · rintro ⟨n, hn⟩
    cases n with
    | zero => exact absurd hn (by simp [z_run])
    | succ n =>
      rw [z_run_succ, hR, hC, h2, hG] at hn
      exact absurd hn (by simp)
  · intro e; cases e
/-- the answer's type is the method's -/
def z_typ (ty : Option FieldType) (r : Option Value) : Prop := match ty with
  | none => r = none
  | some .long => ∃ v, r = some (.long v)
  | some (.object n) => if n = "java/lang/String" then ∃ q, r = some (.retAddr q) else ∃ a, r = some (va_rf a)
  | _ => ∃ v, r = some (.int v)
theorem z_nar_int {ty : Option FieldType} {v : Int32} {w : Value} (e : z_nar ty v = some w) : w = .int v ∧ (ty = some .int ∨ ty = some .boolean ∨ ty = some .byte ∨ ty = some .char) := by
  unfold z_nar at e
  split at e
  · exact ⟨(Option.some.inj e).symm, Or.inl rfl⟩
  · split at e
    · exact ⟨(Option.some.inj e).symm, Or.inr (Or.inl rfl)⟩
    · cases e
  · split at e
    · exact ⟨(Option.some.inj e).symm, Or.inr (Or.inr (Or.inl rfl))⟩
    · cases e
  · split at e
    · exact ⟨(Option.some.inj e).symm, Or.inr (Or.inr (Or.inr rfl))⟩
    · cases e
  · cases e
theorem z_ret_typ {i : Instr} {ty : Option FieldType} {S : zS} {r : Option Value} (e : z_ret i ty S = some r) : z_typ ty r := by
  unfold z_ret at e
  split at e
  · split at e
    · exact (Option.some.inj e).symm
    · cases e
  · split at e
    · split at e
      · rename_i w hw
        obtain ⟨h1, h2⟩ := z_nar_int hw
        subst h1
        rw [← Option.some.inj e]
        rcases h2 with h2 | h2 | h2 | h2 <;> subst h2 <;> exact ⟨_, rfl⟩
      · cases e
    · cases e
  · split at e
    · exact ⟨_, (Option.some.inj e).symm⟩
    · cases e
  · split at e
    · split at e
      · cases e
      · rename_i hn; show (if _ then _ else _); rw [if_neg hn]; exact ⟨some _, (Option.some.inj e).symm⟩
    · split at e
      · cases e
      · rename_i hn; show (if _ then _ else _); rw [if_neg hn]; exact ⟨none, (Option.some.inj e).symm⟩
    · split at e
      · rename_i hn; show (if _ then _ else _); rw [if_pos hn]; exact ⟨_, (Option.some.inj e).symm⟩
      · cases e
    · cases e
  · cases e
theorem z_run_typ : ∀ (n y pc : Nat) (L : zL) (S : zS) (h : zH) (r : Option Value × zH), z_run n y pc L S h = some r → z_typ (z_rt y) r.1 := by
  intro n
  induction n with
  | zero => intro y pc L S h r e; exact absurd e (by simp [z_run])
  | succ n ih =>
    intro y pc L S h r e
    rw [z_run_succ] at e
    cases hR : z_isR (z_c y pc).1 with
    | true =>
      rw [hR] at e
      simp only [cond_true] at e
      cases hr : z_ret (z_c y pc).1 (z_rt y) S with
      | none => rw [hr] at e; exact absurd e (by simp)
      | some q =>
        rw [hr] at e
        have := z_ret_typ hr
        rw [← Option.some.inj e]
        exact this
    | false =>
      rw [hR] at e
      simp only [cond_false] at e
      cases hC : z_isC (z_c y pc).1 && Nat.ble 2 (z_c y pc).2.2.1 with
      | true =>
        rw [hC] at e
        simp only [cond_true] at e
        cases hG : z_grd (z_c y pc).2.2.1 (z_c y pc).2.2.2.1 S h with
        | false => rw [hG] at e; exact absurd e (by simp)
        | true =>
          rw [hG] at e
          simp only [cond_true] at e
          cases hI : z_run n (z_c y pc).2.2.1 0 (z_ini (z_c y pc).2.2.1 (z_arg (z_c y pc).2.2.2.1 S)) [] h with
          | none => rw [hI] at e; exact absurd e (by simp)
          | some q =>
            rw [hI] at e
            exact ih _ _ _ _ _ _ e
      | false =>
        rw [hC] at e
        simp only [cond_false] at e
        cases hO : z_op (z_c y pc) pc L S h with
        | none => rw [hO] at e; exact absurd e (by simp)
        | some t =>
          rw [hO] at e
          exact ih _ _ _ _ _ _ e
theorem z_go_typ {y pc : Nat} {L : zL} {S : zS} {h : zH} {r : Option Value × zH} (e : z_go y pc L S h = some r) : z_typ (z_rt y) r.1 := by
  obtain ⟨n, hn⟩ := z_go_iff.mp e
  exact z_run_typ _ _ _ _ _ _ _ hn
/-- answers by their kinds -/
def z_pI : Option Value → Option Int32
  | some (.int v) => some v
  | _ => none
def z_pL : Option Value → Option Int64
  | some (.long v) => some v
  | _ => none
def z_pA : Option Value → Option (Option Nat)
  | some (.ref a) => some (some a)
  | some .null => some none
  | _ => none
def z_pS : Option Value → Option Nat
  | some (.retAddr q) => some q
  | _ => none
def z_pV : Option Value → Option Unit
  | none => some ()
  | _ => none
noncomputable def z_G {α : Type} (p : Option Value → Option α) (y pc : Nat) (L : zL) (S : zS) (h : zH) : Option (α × zH) := (z_go y pc L S h).bind (fun r => (p r.1).bind (fun v => some (v, r.2)))
/-- a call, its answer of a kind -/
noncomputable def z_K {α : Type} (p : Option Value → Option α) (y : Nat) (args : zS) (h : zH) : Option (α × zH) := z_G p y 0 (z_ini y args) [] h
/-- k steps that are neither call nor return -/
def z_its : Nat → Nat → zT → Option zT
  | 0, _, t => some t
  | k + 1, y, t => bif z_isR (z_c y t.1).1 || (z_isC (z_c y t.1).1 && Nat.ble 2 (z_c y t.1).2.2.1) then none else
    (match z_op (z_c y t.1) t.1 t.2.1 t.2.2.1 t.2.2.2 with
    | some u => z_its k y u
    | none => none)
theorem z_its_go : ∀ (k y : Nat) (t u : zT), z_its k y t = some u → z_go y t.1 t.2.1 t.2.2.1 t.2.2.2 = z_go y u.1 u.2.1 u.2.2.1 u.2.2.2 := by
  intro k
  induction k with
  | zero => intro y t u e; rw [Option.some.inj e]
  | succ k ih =>
    intro y t u e
    unfold z_its at e
    cases hR : z_isR (z_c y t.1).1 with
    | true => rw [hR] at e; exact absurd e (by simp)
    | false =>
      cases hC : z_isC (z_c y t.1).1 && Nat.ble 2 (z_c y t.1).2.2.1 with
      | true => rw [hR, hC] at e; exact absurd e (by simp)
      | false =>
        rw [hR, hC] at e
        simp only [Bool.or_false, cond_false] at e
        cases hO : z_op (z_c y t.1) t.1 t.2.1 t.2.2.1 t.2.2.2 with
        | none => rw [hO] at e; exact absurd e (by simp)
        | some v =>
          rw [hO] at e
          rw [z_go_op hR hC, hO, Option.bind_some]
          exact ih y v u e
section GR
variable {α : Type} {p : Option Value → Option α} {y pc : Nat} {L : zL} {S : zS} {h : zH}
theorem g_n (k : Nat) {pc' : Nat} {L' : zL} {S' : zS} {h' : zH} (e : z_its k y (pc, L, S, h) = some (pc', L', S', h')) : z_G p y pc L S h = z_G p y pc' L' S' h' := by
  unfold z_G
  rw [z_its_go k y (pc, L, S, h) (pc', L', S', h') e]
/-- a step that is guarded -/
theorem g_g {g : Prop} [Decidable g] {pc' : Nat} {L' : zL} {S' : zS} {h' : zH} (hR : (z_isR (z_c y pc).1 || (z_isC (z_c y pc).1 && Nat.ble 2 (z_c y pc).2.2.1)) = false) (e : z_op (z_c y pc) pc L S h = if g then some (pc', L', S', h') else none) :
    z_G p y pc L S h = if g then z_G p y pc' L' S' h' else none := by
  have h1 := Bool.or_eq_false_iff.mp hR
  unfold z_G
  rw [z_go_op h1.1 h1.2, e]
  by_cases hg : g
  · rw [if_pos hg, if_pos hg]; rfl
  · rw [if_neg hg, if_neg hg]; rfl
/-- a guard that is the other way round (division) -/
theorem g_d {g : Prop} [Decidable g] {pc' : Nat} {L' : zL} {S' : zS} {h' : zH} (hR : (z_isR (z_c y pc).1 || (z_isC (z_c y pc).1 && Nat.ble 2 (z_c y pc).2.2.1)) = false) (e : z_op (z_c y pc) pc L S h = if g then none else some (pc', L', S', h')) :
    z_G p y pc L S h = if g then none else z_G p y pc' L' S' h' := by
  have h1 := Bool.or_eq_false_iff.mp hR
  unfold z_G
  rw [z_go_op h1.1 h1.2, e]
  by_cases hg : g
  · rw [if_pos hg, if_pos hg]; rfl
  · rw [if_neg hg, if_neg hg]; rfl
/-- a branch -/
theorem g_b {g : Prop} [Decidable g] {pc' pc2 : Nat} {L' L2 : zL} {S' S2 : zS} {h' h2 : zH} (hR : (z_isR (z_c y pc).1 || (z_isC (z_c y pc).1 && Nat.ble 2 (z_c y pc).2.2.1)) = false) (e : z_op (z_c y pc) pc L S h = if g then some (pc', L', S', h') else some (pc2, L2, S2, h2)) :
    z_G p y pc L S h = if g then z_G p y pc' L' S' h' else z_G p y pc2 L2 S2 h2 := by
  have h1 := Bool.or_eq_false_iff.mp hR
  unfold z_G
  rw [z_go_op h1.1 h1.2, e]
  by_cases hg : g
  · rw [if_pos hg, if_pos hg]; rfl
  · rw [if_neg hg, if_neg hg]; rfl
theorem g_r {r : Option Value} {v : α} (hR : z_isR (z_c y pc).1 = true) (hr : z_ret (z_c y pc).1 (z_rt y) S = some r) (hp : p r = some v) : z_G p y pc L S h = some (v, h) := by
  unfold z_G
  rw [z_go_ret hR hr, Option.bind_some, hp]
  rfl
theorem g_cI (z n : Nat) {A : zS} {rest : zS} {g : Prop} [Decidable g] (hz : (z_c y pc).2.2.1 = z) (hn : (z_c y pc).2.2.2.1 = n) (hR : (z_isR (z_c y pc).1 || !z_isC (z_c y pc).1 || !Nat.ble 2 z) = false)
    (hG : z_grd z n S h = decide g) (hA : z_arg n S = A) (hr : S.drop n = rest) (hT : ∀ r, z_typ (z_rt z) r → ∃ v, r = some (.int v)) :
    z_G p y pc L S h = if g then (z_K z_pI z A h).bind (fun r => z_G p y (pc + 3) L (.int r.1 :: rest) r.2) else none := by
  subst hA; subst hr
  simp only [Bool.or_eq_false_iff, Bool.not_eq_false'] at hR
  by_cases hg : g
  · rw [if_pos hg]
    unfold z_K z_G
    rw [z_go_call z n hz hn hR.1.1 hR.1.2 hR.2 (by rw [hG]; exact decide_eq_true hg)]
    cases hI : z_go z 0 (z_ini z (z_arg n S)) [] h with
    | none => rfl
    | some r =>
      obtain ⟨v, hv⟩ := hT _ (z_go_typ hI)
      obtain ⟨r1, r2⟩ := r
      have hv : r1 = some (.int v) := hv
      subst hv
      rfl
  · rw [if_neg hg]
    unfold z_G
    rw [z_go_rok z n hz hn hR.1.1 hR.1.2 hR.2 (by rw [hG]; exact decide_eq_false hg)]
    rfl
theorem g_cL (z n : Nat) {A : zS} {rest : zS} {g : Prop} [Decidable g] (hz : (z_c y pc).2.2.1 = z) (hn : (z_c y pc).2.2.2.1 = n) (hR : (z_isR (z_c y pc).1 || !z_isC (z_c y pc).1 || !Nat.ble 2 z) = false)
    (hG : z_grd z n S h = decide g) (hA : z_arg n S = A) (hr : S.drop n = rest) (hT : z_rt z = some .long) :
    z_G p y pc L S h = if g then (z_K z_pL z A h).bind (fun r => z_G p y (pc + 3) L (.long r.1 :: rest) r.2) else none := by
  subst hA; subst hr
  simp only [Bool.or_eq_false_iff, Bool.not_eq_false'] at hR
  by_cases hg : g
  · rw [if_pos hg]
    unfold z_K z_G
    rw [z_go_call z n hz hn hR.1.1 hR.1.2 hR.2 (by rw [hG]; exact decide_eq_true hg)]
    cases hI : z_go z 0 (z_ini z (z_arg n S)) [] h with
    | none => rfl
    | some r =>
      have ht := z_go_typ hI
      rw [hT] at ht
      obtain ⟨v, hv⟩ := ht
      obtain ⟨r1, r2⟩ := r
      have hv : r1 = some (.long v) := hv
      subst hv
      rfl
  · rw [if_neg hg]
    unfold z_G
    rw [z_go_rok z n hz hn hR.1.1 hR.1.2 hR.2 (by rw [hG]; exact decide_eq_false hg)]
    rfl
theorem g_cV (z n : Nat) {A : zS} {rest : zS} {g : Prop} [Decidable g] (hz : (z_c y pc).2.2.1 = z) (hn : (z_c y pc).2.2.2.1 = n) (hR : (z_isR (z_c y pc).1 || !z_isC (z_c y pc).1 || !Nat.ble 2 z) = false)
    (hG : z_grd z n S h = decide g) (hA : z_arg n S = A) (hr : S.drop n = rest) (hT : z_rt z = none) :
    z_G p y pc L S h = if g then (z_K z_pV z A h).bind (fun r => z_G p y (pc + 3) L rest r.2) else none := by
  subst hA; subst hr
  simp only [Bool.or_eq_false_iff, Bool.not_eq_false'] at hR
  by_cases hg : g
  · rw [if_pos hg]
    unfold z_K z_G
    rw [z_go_call z n hz hn hR.1.1 hR.1.2 hR.2 (by rw [hG]; exact decide_eq_true hg)]
    cases hI : z_go z 0 (z_ini z (z_arg n S)) [] h with
    | none => rfl
    | some r =>
      have ht := z_go_typ hI
      rw [hT] at ht
      obtain ⟨r1, r2⟩ := r
      have hv : r1 = none := ht
      subst hv
      rfl
  · rw [if_neg hg]
    unfold z_G
    rw [z_go_rok z n hz hn hR.1.1 hR.1.2 hR.2 (by rw [hG]; exact decide_eq_false hg)]
    rfl
theorem g_cA (z n : Nat) {A : zS} {rest : zS} {g : Prop} [Decidable g] (nm : String) (hz : (z_c y pc).2.2.1 = z) (hn : (z_c y pc).2.2.2.1 = n) (hR : (z_isR (z_c y pc).1 || !z_isC (z_c y pc).1 || !Nat.ble 2 z) = false)
    (hG : z_grd z n S h = decide g) (hA : z_arg n S = A) (hr : S.drop n = rest) (hT : z_rt z = some (.object nm)) (hN : ¬ nm = "java/lang/String") :
    z_G p y pc L S h = if g then (z_K z_pA z A h).bind (fun r => z_G p y (pc + 3) L (va_rf r.1 :: rest) r.2) else none := by
  subst hA; subst hr
  simp only [Bool.or_eq_false_iff, Bool.not_eq_false'] at hR
  by_cases hg : g
  · rw [if_pos hg]
    unfold z_K z_G
    rw [z_go_call z n hz hn hR.1.1 hR.1.2 hR.2 (by rw [hG]; exact decide_eq_true hg)]
    cases hI : z_go z 0 (z_ini z (z_arg n S)) [] h with
    | none => rfl
    | some r =>
      have ht := z_go_typ hI
      rw [hT] at ht
      unfold z_typ at ht
      simp only at ht
      rw [if_neg hN] at ht
      obtain ⟨v, hv⟩ := ht
      obtain ⟨r1, r2⟩ := r
      have hv : r1 = some (va_rf v) := hv
      subst hv
      cases v <;> rfl
  · rw [if_neg hg]
    unfold z_G
    rw [z_go_rok z n hz hn hR.1.1 hR.1.2 hR.2 (by rw [hG]; exact decide_eq_false hg)]
    rfl
theorem g_cS (z n : Nat) {A : zS} {rest : zS} {g : Prop} [Decidable g] (hz : (z_c y pc).2.2.1 = z) (hn : (z_c y pc).2.2.2.1 = n) (hR : (z_isR (z_c y pc).1 || !z_isC (z_c y pc).1 || !Nat.ble 2 z) = false)
    (hG : z_grd z n S h = decide g) (hA : z_arg n S = A) (hr : S.drop n = rest) (hT : z_rt z = some (.object "java/lang/String")) :
    z_G p y pc L S h = if g then (z_K z_pS z A h).bind (fun r => z_G p y (pc + 3) L (.retAddr r.1 :: rest) r.2) else none := by
  subst hA; subst hr
  simp only [Bool.or_eq_false_iff, Bool.not_eq_false'] at hR
  by_cases hg : g
  · rw [if_pos hg]
    unfold z_K z_G
    rw [z_go_call z n hz hn hR.1.1 hR.1.2 hR.2 (by rw [hG]; exact decide_eq_true hg)]
    cases hI : z_go z 0 (z_ini z (z_arg n S)) [] h with
    | none => rfl
    | some r =>
      have ht := z_go_typ hI
      rw [hT] at ht
      unfold z_typ at ht
      simp only [if_true] at ht
      obtain ⟨v, hv⟩ := ht
      obtain ⟨r1, r2⟩ := r
      have hv : r1 = some (.retAddr v) := hv
      subst hv
      rfl
  · rw [if_neg hg]
    unfold z_G
    rw [z_go_rok z n hz hn hR.1.1 hR.1.2 hR.2 (by rw [hG]; exact decide_eq_false hg)]
    rfl
end GR
