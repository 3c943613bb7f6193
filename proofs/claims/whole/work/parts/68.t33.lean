section CJ
variable {c : Nat} {lm : Nat → Nat} {g : zG} {h : zH}
/-- the reference's duty -/
def q_dr (g : zG) (m : Nat) : Int64 := if g 44 m = 0 then (1 : Int64) else (((g 42 m).toInt64 * (g 43 m).toInt64) / (g 44 m).toInt64)
theorem INV.du (I : INV c lm g) {m : Nat} (hm : m < q_n g 1) (hz : ¬ g 42 m = 0) : q_du g m = (if (1 : Int64) ≤ q_dr g m then (q_dr g m).toInt32 else (1 : Int32)) ∧ 0 ≤ (q_du g m).toInt ∧ (q_du g m).toInt ≤ 1000000 := by
  rcases I.tm m (I.m6 hm) with z | ⟨q1, q2, q3, _⟩
  · exact absurd z.1 hz
  have q2 : 1 ≤ (g 43 m).toInt ∧ (g 43 m).toInt ≤ 99 := q2
  have q3 : 1 ≤ (g 44 m).toInt ∧ (g 44 m).toInt ≤ 9999 := q3
  have t1 : (1 : Int64).toInt = 1 := by decide
  have z0 : (0 : Int32).toInt = 0 := by decide
  have b := m_bd (by omega : 0 ≤ (g 42 m).toInt) q1.2 (by omega : 0 ≤ (g 43 m).toInt) q2.2
  have e1 : ((g 42 m).toInt64 * (g 43 m).toInt64).toInt = (g 42 m).toInt * (g 43 m).toInt := by rw [l_mul (by rw [l_i, l_i]; omega) (by rw [l_i, l_i]; omega), l_i, l_i]
  have e3 : s_dn ((g 42 m).toInt64 * (g 43 m).toInt64) (g 44 m).toInt64 = ((g 42 m).toInt64 * (g 43 m).toInt64) / (g 44 m).toInt64 := d_dn (by rw [e1]; exact b.1) (by rw [l_i]; omega)
  have e4 : (((g 42 m).toInt64 * (g 43 m).toInt64) / (g 44 m).toInt64).toInt = (g 42 m).toInt * (g 43 m).toInt / (g 44 m).toInt := by
    rw [d_dv (by rw [e1]; exact b.1) (by rw [l_i]; omega), e1, l_i]
  have b1 : (g 42 m).toInt * (g 43 m).toInt / (g 44 m).toInt ≤ 989901 := by
    have := Int.ediv_le_self (a := (g 42 m).toInt * (g 43 m).toInt) (g 44 m).toInt b.1
    omega
  have n44 : ¬ g 44 m = 0 := fun z => by rw [z, z0] at q3; omega
  have b0 : 0 ≤ (g 42 m).toInt * (g 43 m).toInt / (g 44 m).toInt := Int.ediv_nonneg b.1 (by omega)
  unfold q_du q_dr
  rw [e3, if_neg n44]
  rw [← e4] at b1 b0
  generalize ((g 42 m).toInt64 * (g 43 m).toInt64) / (g 44 m).toInt64 = v at b1 b0
  have tw : v.toInt32.toInt = v.toInt := i_l (by omega) (by omega)
  have to : (1 : Int64).toInt32 = (1 : Int32) := by decide
  have ti : (1 : Int32).toInt = 1 := by decide
  by_cases c1 : (1 : Int64) < v
  · have c2 : (1 : Int64) ≤ v := l_le.mpr (by have := l_lt.mp c1; omega)
    rw [if_pos c1, if_pos c2]
    exact ⟨rfl, by omega, by omega⟩
  · by_cases c2 : (1 : Int64) ≤ v
    · have : v = 1 := by
        apply Int64.toInt_inj.mp
        have q1 := l_le.mp c2
        have q2 : ¬ (1 : Int64).toInt < v.toInt := fun q => c1 (l_lt.mpr q)
        omega
      rw [if_neg c1, if_pos c2, this, to]
      exact ⟨rfl, by omega, by omega⟩
    · rw [if_neg c1, if_neg c2, to]
      exact ⟨rfl, by omega, by omega⟩
/-- the class's gain -/
def q_gn (g : zG) (m e M : Nat) (ld ch pr : Int32) : Int64 := if ch = 0 then f_n g m e (g 49 e) (g 52 e) (Int32.ofNat M) ld M - q_py g m e M else (if ch = 1 then (if g 42 m = 0 then (0 : Int64) else f_n g m e (q_du g m) 0 (Int32.ofNat M) ld M - pr.toInt64) else (if g 47 e = 1 then f_n g m e (g 49 e) (g 52 e) (q_hd g 2 (Int32.ofNat m) (g 27 0) 3) ld M else f_n g m e (g 49 e) (g 52 e) (Int32.ofNat M) ld M))
theorem K_31 (R : RC lm g h) (I : INV c lm g) {m a B e b M : Nat} {ld : Int32} (hm : m < q_n g 1) (ha : z_rv h 1 m = some a) (hB : z_rv h 0 9 = some B) (he : e < q_n g 20) (e46 : g 46 e = Int32.ofNat m) (hb : z_rv h 2 e = some b) (C : Cho h a B (some b) (g 27 0) (Int32.ofNat M) ld) (hM : M ≤ 24) (ch pr : Int32) : KV z_pL 31 [.ref 14, .int ch, .int pr] h (q_gn g m e M ld ch pr) := by
  have C' := C
  obtain ⟨c0, c1, c2, c3, c4, c5⟩ := C
  have t14 : z_tg h 14 = 2 := R.f.at (by omega) rfl
  refine kv_of (X_31 14 ch pr h R.w t14 (o_S c1 ?_))
  unfold q_gn
  by_cases p0 : ch = 0
  · rw [if_pos p0, if_pos p0]
    exact ⟨_, K_32 R I hm ha he hb C' hM, _, K_34 R I hm ha hB he e46 hb C' hM, rfl, rfl⟩
  rw [if_neg p0, if_neg p0]
  by_cases p1 : ch = 1
  · rw [if_pos p1, if_pos p1]
    refine o_S c0 ?_
    rcases R.mtrial hm ha with ⟨w, z⟩ | ⟨t, w, z, v0, v1, v2, _⟩
    · rw [if_pos z]
      exact o_N w ⟨rfl, rfl⟩
    · rw [if_neg z, c4]
      have ta := R.w.mt R.f ha
      have tt : z_tg h t = 10 := R.w.tyOf ta (j := 9) w (by decide) rfl
      have kd : KV z_pI 96 [.ref t] h (q_du g m) := by
        refine kv_of (C_96 t h R.w tt ⟨?_, rfl⟩)
        rw [v0, v1, v2]
        rfl
      exact o_S w ⟨_, kd, _, K_33 R I hm ha he hb C' hM (I.du hm z).2 (by decide), rfl, rfl⟩
  rw [if_neg p1, if_neg p1, R.f47 he hb, R.f49 he hb, R.f52 he hb, R.f46 he hb, c3, c4, e46]
  by_cases p2 : g 47 e = 1
  · rw [if_pos p2, if_pos p2]
    exact o_S c2 ⟨_, K_stop R I hB _ _, _, K_33 R I hm ha he hb C' hM (I.d49 he) (I.a60 he), rfl, rfl⟩
  · rw [if_neg p2, if_neg p2]
    exact ⟨_, K_33 R I hm ha he hb C' hM (I.d49 he) (I.a60 he), rfl, rfl⟩
end CJ
