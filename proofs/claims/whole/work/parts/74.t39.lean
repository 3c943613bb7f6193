section CP
variable {c : Nat} {lm : Nat → Nat} {g : zG} {h : zH}
def q_br (g : zG) (m e M : Nat) (ld ch pr : Int32) : Int64 := if ch = 0 then q_rf g m e M ld ch pr - q_rp g m e M ch else q_rf g m e M ld ch pr
theorem M_216 (I : INV c lm g) {m e M : Nat} {ld ch pr : Int32} {Q : Int64 → zG → Prop} (hm : m < q_n g 1) (k : q_wk g (Int32.ofNat m) = some e) (hM : M ≤ 24) (hc : ch = 0 ∨ ch = 1 ∨ ch = 2) (h1 : ch = 1 → ¬ g 42 m = 0) (q : Q (q_br g m e M ld ch pr) (z_row g 26 (z_enc (q_rp g m e M ch)))) : MK z_pL 216 [.ref 27, .int (Int32.ofNat m), .int ch, .int (Int32.ofNat M), .int ld, .int pr] g Q := by
  refine X_216 _ _ _ _ _ g (M_215 I hm k hM hc h1 ?_)
  unfold q_br at q
  by_cases p : ch = 0
  · rw [if_pos p] at q
    rw [if_pos p, z_row_at, z_dec_enc]
    exact q
  · rw [if_neg p] at q
    rw [if_neg p]
    exact q
theorem INV.bre (I : INV c lm g) {m e M : Nat} {ld ch pr : Int32} (hm : m < q_n g 1) (he : e < q_n g 20) (hM : M ≤ 24) (hc : ch = 0 ∨ ch = 1 ∨ ch = 2) (h1 : ch = 1 → ¬ g 42 m = 0) (hp : 0 ≤ pr.toInt ∧ pr.toInt ≤ 99999) : q_br g m e M ld ch pr = q_gn g m e M ld ch pr := by
  unfold q_br q_gn q_rf
  rcases hc with p | p | p
  · subst p
    rw [if_pos rfl, if_pos rfl, if_neg (by decide), if_neg (fun z => absurd z.1 (by decide)), I.pye hm he hM, Int64.zero_add]
  · subst p
    rw [if_neg (show ¬ (1 : Int32) = 0 by decide), if_neg (show ¬ (1 : Int32) = 0 by decide), if_pos rfl, if_pos rfl, if_neg (h1 rfl)]
    have e1 : (-pr).toInt64 = -(pr.toInt64) := by
      apply Int64.toInt_inj.mp
      have a1 : (-pr).toInt = -pr.toInt := i_neg (by omega)
      have a2 : (-(pr.toInt64)).toInt = -pr.toInt := by rw [l_neg (by rw [l_i]; omega), l_i]
      rw [l_i, a1, a2]
    rw [e1, Int64.sub_eq_add_neg, Int64.add_comm]
  · subst p
    rw [if_neg (show ¬ (2 : Int32) = 0 by decide), if_neg (show ¬ (2 : Int32) = 0 by decide), if_neg (show ¬ (2 : Int32) = 1 by decide), if_neg (show ¬ (2 : Int32) = 1 by decide)]
    by_cases p1 : g 47 e = 1
    · rw [if_pos (show (2 : Int32) = 2 ∧ g 47 e = 1 from ⟨rfl, p1⟩), if_pos p1, Int64.zero_add]
    · rw [if_neg (show ¬ ((2 : Int32) = 2 ∧ g 47 e = 1) from fun z => p1 z.2), if_neg p1, Int64.zero_add]
end CP
