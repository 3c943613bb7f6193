/-! sums that both sides make in their own way -/
theorem m_bd {a b A B : Int} (ha : 0 ≤ a) (hA : a ≤ A) (hb : 0 ≤ b) (hB : b ≤ B) : 0 ≤ a * b ∧ a * b ≤ A * B :=
  ⟨Int.mul_nonneg ha hb, Int.mul_le_mul hA hB hb (by omega)⟩
theorem a_m12 {x : Int32} (h0 : 0 ≤ x.toInt) (h1 : x.toInt ≤ 100000) : x - x / 12 * 12 = Int32.ofNat (z_ix x % 12) := by
  have t12 : (12 : Int32).toInt = 12 := by decide
  have e1 : (x / 12).toInt = x.toInt / 12 := by
    rw [i_div (by omega), t12, Int.tdiv_eq_ediv_of_nonneg h0]
  have e2 : (x / 12 * 12).toInt = x.toInt / 12 * 12 := by
    rw [i_mul (by rw [e1, t12]; omega) (by rw [e1, t12]; omega), e1, t12]
  apply Int32.toInt_inj.mp
  rw [i_sub (by rw [e2]; omega) (by rw [e2]; omega), e2, n_i (by omega)]
  unfold z_ix
  omega
theorem a_fm12 {x : Int32} (h0 : 0 ≤ x.toInt) (h1 : x.toInt ≤ 100000) : s_fm x 12 = Int32.ofNat (z_ix x % 12) := by
  rw [d_fm h0 (by decide)]
  exact a_m12 h0 h1
/-- NEED -/
def a_nd (w d l : Int32) : Int64 := ((w.toInt64 * d.toInt64 + l.toInt64) - (1 : Int64)) / l.toInt64
theorem a_wd {w d : Int32} (hw : 0 ≤ w.toInt ∧ w.toInt ≤ 999) (hd : 1 ≤ d.toInt ∧ d.toInt ≤ 300) : (w.toInt64 * d.toInt64).toInt = w.toInt * d.toInt ∧ 0 ≤ w.toInt * d.toInt ∧ w.toInt * d.toInt ≤ 299700 := by
  have b := m_bd hw.1 hw.2 (by omega : 0 ≤ d.toInt) hd.2
  refine ⟨?_, b.1, by omega⟩
  rw [l_mul (by rw [l_i, l_i]; omega) (by rw [l_i, l_i]; omega), l_i, l_i]
theorem a_need {w d l : Int32} (hw : 0 ≤ w.toInt ∧ w.toInt ≤ 999) (hd : 1 ≤ d.toInt ∧ d.toInt ≤ 300) (hl : 1 ≤ l.toInt ∧ l.toInt ≤ 99) : s_up (w.toInt64 * d.toInt64) l.toInt64 = a_nd w d l ∧ 0 ≤ (a_nd w d l).toInt ∧ (a_nd w d l).toInt ≤ 299700 := by
  obtain ⟨e, e0, e1⟩ := a_wd hw hd
  have u := d_up (x := w.toInt64 * d.toInt64) (y := l.toInt64) (by rw [e]; exact e0) (by rw [l_i]; omega) (by rw [e, l_i]; omega)
  have v : (a_nd w d l).toInt = (w.toInt * d.toInt + l.toInt - 1) / l.toInt := by
    rw [← show s_up (w.toInt64 * d.toInt64) l.toInt64 = a_nd w d l from u, d_upt (by rw [e]; exact e0) (by rw [l_i]; omega), e, l_i]
  refine ⟨u, ?_, ?_⟩
  · rw [v]; exact Int.ediv_nonneg (by omega) (by omega)
  · rw [v]
    have := Int.ediv_le_ediv (c := l.toInt) (by omega) (show w.toInt * d.toInt + l.toInt - 1 ≤ 299700 + l.toInt - 1 by omega)
    have h2 : (299700 + l.toInt - 1) / l.toInt ≤ 299700 := by
      apply Int.ediv_le_of_le_mul (by omega)
      have : 299700 * l.toInt ≥ 299700 + l.toInt - 1 := by omega
      omega
    omega
/-- COAL for strokes -/
def a_wn (d a : Int32) : Int64 := if (1 : Int64) ≤ ((d.toInt64 * (100 : Int64)) / ((100 : Int32) + a).toInt64) then ((d.toInt64 * (100 : Int64)) / ((100 : Int32) + a).toInt64) else (1 : Int64)
def a_cl (s : Int64) (l d a : Int32) : Int64 := (((s * l.toInt64) + a_wn d a) - (1 : Int64)) / a_wn d a
theorem a_100 {a : Int32} (ha : 0 ≤ a.toInt ∧ a.toInt ≤ 100000) : ((100 : Int32) + a).toInt = 100 + a.toInt ∧ ((100 : Int32) + a).toInt64 = (100 : Int64) + a.toInt64 := by
  have t : (100 : Int32).toInt = 100 := by decide
  have t' : (100 : Int64).toInt = 100 := by decide
  have e : ((100 : Int32) + a).toInt = 100 + a.toInt := by rw [i_add (by rw [t]; omega) (by rw [t]; omega), t]
  refine ⟨e, ?_⟩
  apply Int64.toInt_inj.mp
  rw [l_i, e, l_add (by rw [t', l_i]; omega) (by rw [t', l_i]; omega), t', l_i]
theorem a_worn {d a : Int32} (hd : 0 ≤ d.toInt ∧ d.toInt ≤ 1000000) (ha : 0 ≤ a.toInt ∧ a.toInt ≤ 100000) : (if (1 : Int64) < (s_dn (d.toInt64 * (100 : Int64)) ((100 : Int64) + a.toInt64)) then (s_dn (d.toInt64 * (100 : Int64)) ((100 : Int64) + a.toInt64)) else (1 : Int64)) = a_wn d a ∧ 1 ≤ (a_wn d a).toInt ∧ (a_wn d a).toInt ≤ 100000000 := by
  have t' : (100 : Int64).toInt = 100 := by decide
  have t1 : (1 : Int64).toInt = 1 := by decide
  have e1 : (d.toInt64 * (100 : Int64)).toInt = d.toInt * 100 := by rw [l_mul (by rw [l_i, t']; omega) (by rw [l_i, t']; omega), l_i, t']
  have e2 : ((100 : Int64) + a.toInt64).toInt = 100 + a.toInt := by rw [← (a_100 ha).2, l_i, (a_100 ha).1]
  have e3 : s_dn (d.toInt64 * (100 : Int64)) ((100 : Int64) + a.toInt64) = (d.toInt64 * (100 : Int64)) / ((100 : Int32) + a).toInt64 := by
    rw [d_dn (by rw [e1]; omega) (by rw [e2]; omega), (a_100 ha).2]
  have e4 : ((d.toInt64 * (100 : Int64)) / ((100 : Int32) + a).toInt64).toInt = d.toInt * 100 / (100 + a.toInt) := by
    rw [d_dv (by rw [e1]; omega) (by rw [l_i, (a_100 ha).1]; omega), e1, l_i, (a_100 ha).1]
  have b1 : d.toInt * 100 / (100 + a.toInt) ≤ 100000000 := by
    have := Int.ediv_le_self (a := d.toInt * 100) (100 + a.toInt) (by omega)
    omega
  rw [e3]
  unfold a_wn
  generalize hv : (d.toInt64 * (100 : Int64)) / ((100 : Int32) + a).toInt64 = v at e4 ⊢
  by_cases c1 : (1 : Int64) < v
  · have c2 : (1 : Int64) ≤ v := l_le.mpr (by have := l_lt.mp c1; omega)
    rw [if_pos c1, if_pos c2]
    have := l_lt.mp c1
    rw [t1] at this
    exact ⟨rfl, by omega, by omega⟩
  · by_cases c2 : (1 : Int64) ≤ v
    · have : v = 1 := by
        apply Int64.toInt_inj.mp
        have q1 := l_le.mp c2
        have q2 : ¬ (1 : Int64).toInt < v.toInt := fun q => c1 (l_lt.mpr q)
        omega
      rw [if_neg c1, if_pos c2, this, t1]
      exact ⟨rfl, by omega, by omega⟩
    · rw [if_neg c1, if_neg c2, t1]
      exact ⟨rfl, by omega, by omega⟩
theorem a_coal {s l d a : Int32} (hs : 0 ≤ s.toInt ∧ s.toInt ≤ 9999) (hl : 1 ≤ l.toInt ∧ l.toInt ≤ 99) (hd : 0 ≤ d.toInt ∧ d.toInt ≤ 1000000) (ha : 0 ≤ a.toInt ∧ a.toInt ≤ 100000) : s_up (s.toInt64 * l.toInt64) (a_wn d a) = a_cl s.toInt64 l d a ∧ 0 ≤ (a_cl s.toInt64 l d a).toInt ∧ (a_cl s.toInt64 l d a).toInt ≤ 989901 := by
  have w := (a_worn hd ha).2
  have b := m_bd hs.1 hs.2 (by omega : 0 ≤ l.toInt) hl.2
  have e : (s.toInt64 * l.toInt64).toInt = s.toInt * l.toInt := by
    rw [l_mul (by rw [l_i, l_i]; omega) (by rw [l_i, l_i]; omega), l_i, l_i]
  have u := d_up (x := s.toInt64 * l.toInt64) (y := a_wn d a) (by rw [e]; exact b.1) (by omega) (by rw [e]; omega)
  have v : (a_cl s.toInt64 l d a).toInt = (s.toInt * l.toInt + (a_wn d a).toInt - 1) / (a_wn d a).toInt := by
    rw [← show s_up (s.toInt64 * l.toInt64) (a_wn d a) = a_cl s.toInt64 l d a from u, d_upt (by rw [e]; exact b.1) (by omega), e]
  refine ⟨u, ?_, ?_⟩
  · rw [v]; exact Int.ediv_nonneg (by omega) (by omega)
  · rw [v]
    generalize (a_wn d a).toInt = y at w
    have h1 := Int.ediv_le_ediv (c := y) (by omega) (show s.toInt * l.toInt + y - 1 ≤ 989901 + y - 1 by omega)
    have h2 : (989901 + y - 1) / y ≤ 989901 := by
      apply Int.ediv_le_of_le_mul (by omega)
      omega
    omega
/-- OLD COAL -/
def a_oc (s : Int64) (l s2 l2 c : Int32) : Int64 := if (((s * l.toInt64) * c.toInt64) / (s2.toInt64 * l2.toInt64)) ≤ (100000 : Int64) then (((s * l.toInt64) * c.toInt64) / (s2.toInt64 * l2.toInt64)) else (100000 : Int64)
theorem a_old {s l s2 l2 c : Int32} (hs : 0 ≤ s.toInt ∧ s.toInt ≤ 700000) (hl : 1 ≤ l.toInt ∧ l.toInt ≤ 99) (h2 : 1 ≤ s2.toInt ∧ s2.toInt ≤ 9999) (hl2 : 1 ≤ l2.toInt ∧ l2.toInt ≤ 99) (hc : 1 ≤ c.toInt ∧ c.toInt ≤ 9999) :
    (if (s_dn ((s.toInt64 * l.toInt64) * c.toInt64) (s2.toInt64 * l2.toInt64)) < (100000 : Int64) then (s_dn ((s.toInt64 * l.toInt64) * c.toInt64) (s2.toInt64 * l2.toInt64)) else (100000 : Int64)) = a_oc s.toInt64 l s2 l2 c ∧ (0 ≤ (a_oc s.toInt64 l s2 l2 c).toInt ∧ (a_oc s.toInt64 l s2 l2 c).toInt ≤ 100000) ∧ ¬ s2.toInt64 * l2.toInt64 = 0 := by
  have t : (100000 : Int64).toInt = 100000 := by decide
  have b1 := m_bd hs.1 hs.2 (by omega : 0 ≤ l.toInt) hl.2
  have b2 := m_bd b1.1 b1.2 (by omega : 0 ≤ c.toInt) hc.2
  have b3 := m_bd (by omega : 0 ≤ s2.toInt - 1) (by omega : s2.toInt - 1 ≤ 9998) (by omega : 0 ≤ l2.toInt) hl2.2
  have b4 := m_bd (by omega : 0 ≤ s2.toInt) h2.2 (by omega : 0 ≤ l2.toInt) hl2.2
  have b5 : 1 ≤ s2.toInt * l2.toInt := by
    rw [Int.sub_mul, Int.one_mul] at b3
    omega
  have e1 : (s.toInt64 * l.toInt64).toInt = s.toInt * l.toInt := by
    rw [l_mul (by rw [l_i, l_i]; omega) (by rw [l_i, l_i]; omega), l_i, l_i]
  have e2 : ((s.toInt64 * l.toInt64) * c.toInt64).toInt = s.toInt * l.toInt * c.toInt := by
    rw [l_mul (by rw [e1, l_i]; omega) (by rw [e1, l_i]; omega), e1, l_i]
  have e3 : (s2.toInt64 * l2.toInt64).toInt = s2.toInt * l2.toInt := by
    rw [l_mul (by rw [l_i, l_i]; omega) (by rw [l_i, l_i]; omega), l_i, l_i]
  have e4 := d_dn (x := (s.toInt64 * l.toInt64) * c.toInt64) (y := s2.toInt64 * l2.toInt64) (by rw [e2]; omega) (by rw [e3]; omega)
  have e5 := d_dv (x := (s.toInt64 * l.toInt64) * c.toInt64) (y := s2.toInt64 * l2.toInt64) (by rw [e2]; omega) (by rw [e3]; omega)
  have p0 : 0 ≤ ((s.toInt64 * l.toInt64) * c.toInt64 / (s2.toInt64 * l2.toInt64)).toInt := by
    rw [e5]
    exact Int.ediv_nonneg (by rw [e2]; omega) (by rw [e3]; omega)
  refine ⟨?_, ?_, fun q => ?_⟩
  · rw [e4]
    unfold a_oc
    generalize (s.toInt64 * l.toInt64) * c.toInt64 / (s2.toInt64 * l2.toInt64) = v
    by_cases c1 : v < (100000 : Int64)
    · rw [if_pos c1, if_pos (l_le.mpr (by have := l_lt.mp c1; omega))]
    · rw [if_neg c1]
      by_cases c2 : v ≤ (100000 : Int64)
      · rw [if_pos c2]
        apply Int64.toInt_inj.mp
        have q1 := l_le.mp c2
        have q2 : ¬ v.toInt < (100000 : Int64).toInt := fun q => c1 (l_lt.mpr q)
        omega
      · rw [if_neg c2]
  · unfold a_oc
    generalize (s.toInt64 * l.toInt64) * c.toInt64 / (s2.toInt64 * l2.toInt64) = v at p0
    by_cases c2 : v ≤ (100000 : Int64)
    · rw [if_pos c2]
      have := l_le.mp c2
      omega
    · rw [if_neg c2, t]
      omega
  · have := congrArg Int64.toInt q
    rw [e3] at this
    have z : (0 : Int64).toInt = 0 := by decide
    omega
/-- a share of what is saved -/
theorem a_share {oc : Int64} {b cn pt : Int32} (ho : 0 ≤ oc.toInt ∧ oc.toInt ≤ 100000) (hb : 0 ≤ b.toInt ∧ b.toInt ≤ 59394060) (hc : 0 ≤ cn.toInt ∧ cn.toInt ≤ 99) (hp : 1 ≤ pt.toInt ∧ pt.toInt ≤ 9) :
    (s_dn ((if (0 : Int32) < (oc.toInt32 - b) then (oc.toInt32 - b) else (0 : Int32)).toInt64 * cn.toInt64) pt.toInt64).toInt32 = (if (0 : Int64) ≤ (oc - b.toInt64) then (((oc - b.toInt64) * cn.toInt64) / pt.toInt64).toInt32 else (0 : Int32)) := by
  have z64 : (0 : Int64).toInt = 0 := by decide
  have z32 : (0 : Int32).toInt = 0 := by decide
  have e0 : oc.toInt32.toInt = oc.toInt := i_l (by omega) (by omega)
  have e1 : (oc.toInt32 - b).toInt = oc.toInt - b.toInt := by rw [i_sub (by rw [e0]; omega) (by rw [e0]; omega), e0]
  have e2 : (oc - b.toInt64).toInt = oc.toInt - b.toInt := by rw [l_sub (by rw [l_i]; omega) (by rw [l_i]; omega), l_i]
  by_cases c1 : (0 : Int32) < oc.toInt32 - b
  · have h1 := n_lt.mp c1
    rw [if_pos c1, if_pos (l_le.mpr (by omega))]
    have e3 : (oc.toInt32 - b).toInt64 = oc - b.toInt64 := by
      apply Int64.toInt_inj.mp
      rw [l_i, e1, e2]
    have bb := m_bd (by omega : 0 ≤ oc.toInt - b.toInt) (by omega : oc.toInt - b.toInt ≤ 100000) hc.1 hc.2
    rw [e3, d_dn (by rw [l_mul (by rw [e2, l_i]; omega) (by rw [e2, l_i]; omega), e2, l_i]; exact bb.1) (by rw [l_i]; omega)]
  · have h1 : ¬ (0 : Int32).toInt < (oc.toInt32 - b).toInt := fun q => c1 (n_lt.mpr q)
    rw [if_neg c1]
    have e4 : (0 : Int32).toInt64 * cn.toInt64 = 0 := by
      apply Int64.toInt_inj.mp
      rw [l_mul (by rw [l_i, z32, Int.zero_mul]; omega) (by rw [l_i, z32, Int.zero_mul]; omega), l_i, z32, Int.zero_mul]
      exact z64.symm
    have e5 : s_dn 0 pt.toInt64 = 0 := by
      rw [d_dn (by decide) (by rw [l_i]; omega)]
      apply Int64.toInt_inj.mp
      rw [d_dv (by decide) (by rw [l_i]; omega), z64, Int.zero_ediv]
    rw [e4, e5]
    by_cases c2 : (0 : Int64) ≤ oc - b.toInt64
    · rw [if_pos c2]
      have h2 := l_le.mp c2
      have e6 : oc - b.toInt64 = 0 := Int64.toInt_inj.mp (by omega)
      have e7 : (0 : Int64) * cn.toInt64 = 0 := by
        apply Int64.toInt_inj.mp
        rw [l_mul (by rw [z64, Int.zero_mul]; omega) (by rw [z64, Int.zero_mul]; omega), z64, Int.zero_mul]
      rw [e6, e7]
      have e8 : (0 : Int64) / pt.toInt64 = 0 := by
        apply Int64.toInt_inj.mp
        rw [d_dv (by decide) (by rw [l_i]; omega), z64, Int.zero_ediv]
      rw [e8]
    · rw [if_neg c2]
      rfl
