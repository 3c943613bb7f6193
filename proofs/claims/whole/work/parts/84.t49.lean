/-! words: what the machine's texts answer -/
section TW
variable {h : zH}
def s_wl (q : Nat) : Nat := (z_st.getD (q + 8) []).length
def s_wc (q i : Nat) : Int32 := (z_st.getD (q + 8) []).getD i 0
theorem sl_w {q : Nat} (hq : 3 ≤ q ∧ q < 11) : z_sl h (q + 8) = s_wl q := by
  have : Nat.beq (q + 8) 19 = false := by
    cases hb : Nat.beq (q + 8) 19 with
    | false => rfl
    | true => exact absurd (Nat.eq_of_beq_eq_true hb) (by omega)
  unfold z_sl s_wl
  rw [this]
  rfl
theorem sv_w {q i : Nat} (hq : 3 ≤ q ∧ q < 11) : z_sv h (q + 8) i = s_wc q i := by
  have : Nat.beq (q + 8) 19 = false := by
    cases hb : Nat.beq (q + 8) 19 with
    | false => rfl
    | true => exact absurd (Nat.eq_of_beq_eq_true hb) (by omega)
  unfold z_sv s_wc
  rw [this]
  rfl
theorem ret_ch {v : Int32} (e : v = (v.toUInt32 % 65536).toInt32) : z_ret .ireturn (some .char) [.int v] = some (some (.int v)) := by
  show (match (if v = (v.toUInt32 % 65536).toInt32 then some (Value.int v) else none) with | some w => some (some w) | none => none) = _
  rw [if_pos e]
theorem wc_ch : ∀ q, q < 11 → ∀ i, i < s_wl q → s_wc q i = ((s_wc q i).toUInt32 % 65536).toInt32 := by decide +kernel
theorem K_4 {q : Nat} (hq : 3 ≤ q ∧ q < 11) {Q : Int32 → zH → Prop} (k : Q 0 h) : KK z_pI 4 [.retAddr q] h Q := by
  refine k_K (L := [some (.retAddr q)]) rfl ?_
  refine k_n 1 (pc' := 3) (L' := [some (.retAddr q)]) (S' := [.int (1 : Int32)]) (h' := h) rfl ?_
  refine k_b (g := (1 : Int32) = 0) (pc' := 13) (L' := [some (.retAddr q)]) (S' := []) (pc2 := 6) (L2 := [some (.retAddr q)]) (S2 := []) (h' := h) (h2 := h) rfl rfl (fun hc => absurd hc (by decide)) (fun hc => ?_)
  refine k_n 1 (pc' := 7) (L' := [some (.retAddr q)]) (S' := [.retAddr q]) (h' := h) rfl ?_
  refine k_g (g := 20 = 20 ∧ 3 ≤ q ∧ q < 11) (pc' := 10) (L' := [some (.retAddr q)]) (S' := [.int (0 : Int32)]) (h' := h) rfl rfl ⟨rfl, hq⟩ ?_
  refine k_n 1 (pc' := 14) (L' := [some (.retAddr q)]) (S' := [.int (0 : Int32)]) (h' := h) rfl ?_
  exact k_r rfl rfl rfl k
theorem K_5 {q : Nat} (hq : 3 ≤ q ∧ q < 11) {Q : Int32 → zH → Prop} (k : Q 1 h) : KK z_pI 5 [.retAddr q] h Q := by
  refine k_K (L := [some (.retAddr q)]) rfl ?_
  refine k_n 1 (pc' := 3) (L' := [some (.retAddr q)]) (S' := [.int (1 : Int32)]) (h' := h) rfl ?_
  refine k_b (g := (1 : Int32) = 0) (pc' := 17) (L' := [some (.retAddr q)]) (S' := []) (pc2 := 6) (L2 := [some (.retAddr q)]) (S2 := []) (h' := h) (h2 := h) rfl rfl (fun hc => absurd hc (by decide)) (fun hc => ?_)
  refine k_n 1 (pc' := 7) (L' := [some (.retAddr q)]) (S' := [.retAddr q]) (h' := h) rfl ?_
  refine k_g (g := 20 = 20 ∧ 3 ≤ q ∧ q < 11) (pc' := 10) (L' := [some (.retAddr q)]) (S' := [.int (0 : Int32)]) (h' := h) rfl rfl ⟨rfl, hq⟩ ?_
  refine k_b (g := (0 : Int32) = 0) (pc' := 13) (L' := [some (.retAddr q)]) (S' := []) (pc2 := 17) (L2 := [some (.retAddr q)]) (S2 := []) (h' := h) (h2 := h) rfl rfl (fun hc => ?_) (fun hc => absurd rfl hc)
  refine k_n 2 (pc' := 18) (L' := [some (.retAddr q)]) (S' := [.int (1 : Int32)]) (h' := h) rfl ?_
  exact k_r rfl rfl rfl k
theorem K_2 {q : Nat} (hq : 3 ≤ q ∧ q < 11) : KV z_pI 2 [.retAddr q] h (Int32.ofNat (s_wl q)) := by
  refine kv_of (k_K (L := [some (.retAddr q)]) rfl ?_)
  refine k_n 1 (pc' := 1) (L' := [some (.retAddr q)]) (S' := [.retAddr q]) (h' := h) rfl ?_
  refine k_g (g := 20 = 20 ∧ 3 ≤ q ∧ q < 11) (pc' := 4) (L' := [some (.retAddr q)]) (S' := [.retAddr (q + 8)]) (h' := h) rfl rfl ⟨rfl, hq⟩ ?_
  refine k_g (g := q + 8 < 3 ∨ (11 ≤ q + 8 ∧ q + 8 < 20)) (pc' := 5) (L' := [some (.retAddr q)]) (S' := [.int (Int32.ofNat (z_sl h (q + 8)))]) (h' := h) rfl rfl (by omega) ?_
  refine k_n 1 (pc' := 6) (L' := [some (.retAddr q)]) (S' := [.retAddr q, .int (Int32.ofNat (z_sl h (q + 8)))]) (h' := h) rfl ?_
  refine k_cI 4 1 rfl rfl rfl (A := [.retAddr q]) rfl rfl (z_rok_S hq) (rest := [.int (Int32.ofNat (z_sl h (q + 8)))]) rfl (z_tyI rfl rfl) ?_
  refine K_4 hq ?_
  refine k_n 1 (pc' := 10) (L' := [some (.retAddr q)]) (S' := [.int (Int32.ofNat (z_sl h (q + 8)) >>> ((0 : Int32) &&& 31))]) (h' := h) rfl ?_
  have e : Int32.ofNat (z_sl h (q + 8)) >>> ((0 : Int32) &&& 31) = Int32.ofNat (s_wl q) := by
    rw [sl_w hq]
    have : ∀ q, q < 11 → Int32.ofNat (s_wl q) >>> ((0 : Int32) &&& 31) = Int32.ofNat (s_wl q) := by decide +kernel
    exact this q hq.2
  rw [e]
  exact k_r rfl rfl rfl ⟨rfl, rfl⟩
theorem K_8 {i n : Int32} (h0 : 0 ≤ i.toInt) (hi : i.toInt < n.toInt) {Q : Int32 → zH → Prop} (k : Q i h) : KK z_pI 8 [.int i, .int n, .retAddr 100] h Q := by
  have t0 : (0 : Int32).toInt = 0 := by decide
  refine k_K (L := [some (.int i), some (.int n), some (.retAddr 100)]) rfl ?_
  refine k_n 1 (pc' := 1) (L' := [some (.int i), some (.int n), some (.retAddr 100)]) (S' := [.int i]) (h' := h) rfl ?_
  refine k_b (g := i < 0) (pc' := 9) (L' := [some (.int i), some (.int n), some (.retAddr 100)]) (S' := []) (pc2 := 4) (L2 := [some (.int i), some (.int n), some (.retAddr 100)]) (S2 := []) (h' := h) (h2 := h) rfl rfl (fun hc => absurd (n_lt.mp hc) (by omega)) (fun hc => ?_)
  refine k_n 2 (pc' := 6) (L' := [some (.int i), some (.int n), some (.retAddr 100)]) (S' := [.int n, .int i]) (h' := h) rfl ?_
  refine k_b (g := i < n) (pc' := 16) (L' := [some (.int i), some (.int n), some (.retAddr 100)]) (S' := []) (pc2 := 9) (L2 := [some (.int i), some (.int n), some (.retAddr 100)]) (S2 := []) (h' := h) (h2 := h) rfl rfl (fun hc => ?_) (fun hc => absurd (n_lt.mpr hi) hc)
  refine k_n 1 (pc' := 17) (L' := [some (.int i), some (.int n), some (.retAddr 100)]) (S' := [.int i]) (h' := h) rfl ?_
  exact k_r rfl rfl rfl k
theorem K_6 {i n : Int32} (h0 : 0 ≤ i.toInt) (hi : i.toInt < n.toInt) {Q : Unit → zH → Prop} (k : Q () h) : KK z_pV 6 [.int i, .int n] h Q := by
  refine k_K (L := [some (.int i), some (.int n)]) rfl ?_
  refine k_n 3 (pc' := 5) (L' := [some (.int i), some (.int n)]) (S' := [.retAddr 100, .int n, .int i]) (h' := h) rfl ?_
  refine k_cI 8 3 rfl rfl rfl (A := [.int i, .int n, .retAddr 100]) rfl rfl rfl (rest := []) rfl (z_tyI rfl rfl) ?_
  refine K_8 h0 hi ?_
  refine k_n 1 (pc' := 9) (L' := [some (.int i), some (.int n)]) (S' := []) (h' := h) rfl ?_
  exact k_r rfl rfl rfl k
theorem K_7 {q i : Nat} (hq : 3 ≤ q ∧ q < 11) (hi : i < s_wl q) {Q : Int32 → zH → Prop} (k : Q (s_wc q i) h) : KK z_pI 7 [.retAddr (q + 8), .int (Int32.ofNat i)] h Q := by
  have l6 : ∀ q, q < 11 → s_wl q ≤ 6 := by decide +kernel
  have l := l6 q hq.2
  have ti : (Int32.ofNat i).toInt = (i : Int) := n_i (by omega)
  have tl : (Int32.ofNat (z_sl h (q + 8))).toInt = (s_wl q : Int) := by rw [sl_w hq]; exact n_i (by omega)
  refine k_K (L := [some (.retAddr (q + 8)), some (.int (Int32.ofNat i))]) rfl ?_
  refine k_n 2 (pc' := 2) (L' := [some (.retAddr (q + 8)), some (.int (Int32.ofNat i))]) (S' := [.retAddr (q + 8), .int (Int32.ofNat i)]) (h' := h) rfl ?_
  refine k_g (g := q + 8 < 3 ∨ (11 ≤ q + 8 ∧ q + 8 < 20)) (pc' := 3) (L' := [some (.retAddr (q + 8)), some (.int (Int32.ofNat i))]) (S' := [.int (Int32.ofNat (z_sl h (q + 8))), .int (Int32.ofNat i)]) (h' := h) rfl rfl (by omega) ?_
  refine k_cV 6 2 rfl rfl rfl (A := [.int (Int32.ofNat i), .int (Int32.ofNat (z_sl h (q + 8)))]) rfl rfl rfl (rest := []) rfl rfl ?_
  refine K_6 (by omega) (by omega) ?_
  refine k_n 2 (pc' := 8) (L' := [some (.retAddr (q + 8)), some (.int (Int32.ofNat i))]) (S' := [.int (Int32.ofNat i), .retAddr (q + 8)]) (h' := h) rfl ?_
  refine k_g (g := (11 ≤ q + 8 ∧ q + 8 < 19) ∧ (0 ≤ (Int32.ofNat i).toInt ∧ (Int32.ofNat i).toInt < (z_sl h (q + 8) : Int))) (pc' := 9) (L' := [some (.retAddr (q + 8)), some (.int (Int32.ofNat i))]) (S' := [.int (z_sv h (q + 8) (z_ix (Int32.ofNat i)))]) (h' := h) rfl rfl ⟨by omega, by omega, by rw [sl_w hq]; omega⟩ ?_
  rw [sv_w hq, n_ix (by omega)]
  refine k_n 3 (pc' := 14) (L' := [some (.retAddr (q + 8)), some (.int (Int32.ofNat i))]) (S' := [.int ((s_wc q i &&& 255).toUInt32 % 65536).toInt32]) (h' := h) rfl ?_
  have e : ∀ q, q < 11 → ∀ i, i < s_wl q → ((s_wc q i &&& 255).toUInt32 % 65536).toInt32 = s_wc q i := by decide +kernel
  rw [e q hq.2 i hi]
  exact k_r rfl (ret_ch (wc_ch q hq.2 i hi)) rfl k
theorem K_3 {q i : Nat} (hq : 3 ≤ q ∧ q < 11) (hi : i < s_wl q) : KV z_pI 3 [.retAddr q, .int (Int32.ofNat i)] h (s_wc q i) := by
  refine kv_of (k_K (L := [some (.retAddr q), some (.int (Int32.ofNat i))]) rfl ?_)
  refine k_n 1 (pc' := 1) (L' := [some (.retAddr q), some (.int (Int32.ofNat i))]) (S' := [.retAddr q]) (h' := h) rfl ?_
  refine k_cI 5 1 rfl rfl rfl (A := [.retAddr q]) rfl rfl (z_rok_S hq) (rest := []) rfl (z_tyI rfl rfl) ?_
  refine K_5 hq ?_
  refine k_b (g := (1 : Int32) = 0) (pc' := 16) (L' := [some (.retAddr q), some (.int (Int32.ofNat i))]) (S' := []) (pc2 := 7) (L2 := [some (.retAddr q), some (.int (Int32.ofNat i))]) (S2 := []) (h' := h) (h2 := h) rfl rfl (fun hc => absurd hc (by decide)) (fun hc => ?_)
  refine k_n 1 (pc' := 8) (L' := [some (.retAddr q), some (.int (Int32.ofNat i))]) (S' := [.retAddr q]) (h' := h) rfl ?_
  refine k_g (g := 20 = 20 ∧ 3 ≤ q ∧ q < 11) (pc' := 11) (L' := [some (.retAddr q), some (.int (Int32.ofNat i))]) (S' := [.retAddr (q + 8)]) (h' := h) rfl rfl ⟨rfl, hq⟩ ?_
  refine k_n 1 (pc' := 12) (L' := [some (.retAddr q), some (.int (Int32.ofNat i))]) (S' := [.int (Int32.ofNat i), .retAddr (q + 8)]) (h' := h) rfl ?_
  refine k_cI 7 2 rfl rfl rfl (A := [.retAddr (q + 8), .int (Int32.ofNat i)]) rfl rfl rfl (rest := []) rfl (z_tyI rfl rfl) ?_
  refine K_7 hq hi ?_
  exact k_r rfl (ret_ch (wc_ch q hq.2 i hi)) rfl ⟨rfl, rfl⟩
end TW
