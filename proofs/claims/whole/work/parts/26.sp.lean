/-! what both sides compute, told of the reference's world -/
def s_no (o : Option Nat) : Int32 := match o with
  | none => -4
  | some b => Int32.ofNat b
def s_lat (r : Nat → Int32) (x : Int32) : Nat → Option Nat
  | 0 => none
  | n + 1 => if r n = x then some n else s_lat r x n
def s_lst (r : Nat → Int32) (x : Int32) (v : Nat → Int32) (d : Int32) : Nat → Int32
  | 0 => d
  | n + 1 => if r n = x then v n else s_lst r x v d n
def s_hold (fr gr ke : Nat → Int32) (group key month : Int32) : Nat → Option Nat
  | 0 => none
  | n + 1 => match s_hold fr gr ke group key month n with
    | none => if gr n = group ∧ ke n = key ∧ fr n ≤ month then some n else none
    | some b => if gr n = group ∧ ke n = key ∧ fr n ≤ month ∧ fr b < fr n then some n else some b
/-- the reference's groups, the class's -/
def s_gr (x : Int32) : Int32 := if x = 1 then 0 else if x = 6 then 5 else x
def s_cg (x : Int32) : Int32 := (z_st.getD 0 []).getD (z_ix x) 0
def q_n (g : zG) (j : Nat) : Nat := z_ix (g 27 j)
def q_lt (g : zG) (x : Int32) : Option Nat := s_lat (g 46) x (q_n g 20)
def q_wk (g : zG) (x : Int32) : Option Nat := match q_lt g x with
  | none => none
  | some e => if g 55 e = 0 then some e else none
def q_si (g : zG) (e : Nat) : Int32 := s_lst (g 71) (Int32.ofNat e) (g 72) (g 58 e) (q_n g 55)
def q_sh (g : zG) (e : Nat) : Int32 := s_lst (g 71) (Int32.ofNat e) (g 73) 0 (q_n g 55)
def q_un (g : zG) (x : Int32) : Int32 := match q_wk g x with
  | none => 0
  | some e => g 27 0 - q_si g e
def q_la (g : zG) (group key month : Int32) : Option Nat := s_hold (g 64) (fun i => s_gr (g 62 i)) (g 63) group key month (q_n g 45)
def q_hd (g : zG) (what key month other : Int32) : Int32 := match q_la g (s_gr what) key month with
  | none => other
  | some k => if g 62 k = what then g 65 k else other
def q_wi (g : zG) (month : Int32) : Int32 := match q_la g 5 0 month with
  | none => 0
  | some k => if g 62 k = 5 then 1 else 0
/-- coal of the months from a to b of a mine that an engine burned -/
def s_cs (w c : Nat → Int32) (e : Int32) (o a : Nat) : Nat → Int32
  | 0 => 0
  | n + 1 => s_cs w c e o a n + (if w (o + (a + n)) = e then c (o + (a + n)) else 0)
/-- bounds of rows -/
def TB (T : List (Nat × Int × Int)) (n : Nat) (g : zG) : Prop := ∀ q ∈ T, ∀ i, i < n → q.2.1 ≤ (g q.1 i).toInt ∧ (g q.1 i).toInt ≤ q.2.2
theorem TB.at {T : List (Nat × Int × Int)} {n : Nat} {g : zG} (h : TB T n g) {k i : Nat} {a b : Int} (hq : (k, a, b) ∈ T) (hi : i < n) : a ≤ (g k i).toInt ∧ (g k i).toInt ≤ b := h _ hq i hi
theorem TB.up {T : List (Nat × Int × Int)} {n : Nat} {g : zG} (h : TB T n g) {k i : Nat} {v : Int32} (hv : ∀ q ∈ T, q.1 = k → q.2.1 ≤ v.toInt ∧ v.toInt ≤ q.2.2) : TB T n (z_up2 g k i v) := by
  intro q hq j hj
  unfold z_up2
  by_cases e : q.1 = k ∧ j = i
  · rw [if_pos e]; exact hv q hq e.1
  · rw [if_neg e]; exact h q hq j hj
theorem TB.push {T : List (Nat × Int × Int)} {n : Nat} {g : zG} (h : TB T n g) (hv : ∀ q ∈ T, q.2.1 ≤ (g q.1 n).toInt ∧ (g q.1 n).toInt ≤ q.2.2) : TB T (n + 1) g := by
  intro q hq j hj
  by_cases e : j = n
  · rw [e]; exact hv q hq
  · exact h q hq j (by omega)
theorem TB.eq {T : List (Nat × Int × Int)} {n : Nat} {g g2 : zG} (h : TB T n g) (e : ∀ q ∈ T, g2 q.1 = g q.1) : TB T n g2 := by
  intro q hq j hj
  rw [e q hq]
  exact h q hq j hj
def BM : List (Nat × Int × Int) := [(28, 0, 99), (29, 0, 99), (30, 1, 300), (31, 1, 99)]
def BE : List (Nat × Int × Int) := [(47, 0, 2), (48, 1, 99), (49, 1, 9999), (50, 1, 9999), (51, 0, 255), (53, 0, 9999), (54, 0, 1), (55, 0, 1)]
def BR : List (Nat × Int × Int) := [(73, 0, 9999), (74, 0, 60), (75, 0, 9999), (76, 0, 700000), (77, 0, 59394060), (78, 0, 99), (79, 1, 300)]
def BL : List (Nat × Int × Int) := [(62, 0, 6), (63, 0, 7), (64, 0, 59)]
/-- bounds of a line's value -/
def s_lv (w v : Int32) : Prop := (w = 0 → 1 ≤ v.toInt ∧ v.toInt ≤ 9) ∧ (w = 1 → 0 ≤ v.toInt ∧ v.toInt ≤ 9999) ∧ (w = 2 → 1 ≤ v.toInt ∧ v.toInt ≤ 24) ∧ (w = 3 → 1 ≤ v.toInt ∧ v.toInt ≤ 99) ∧ (w = 4 → 0 ≤ v.toInt ∧ v.toInt ≤ 60) ∧ (w = 5 → v = 0)
def s_tr (g : zG) (k m : Nat) : Prop := (g k m = 0 ∧ g (k + 1) m = 0 ∧ g (k + 2) m = 0) ∨ ((1 ≤ (g k m).toInt ∧ (g k m).toInt ≤ 9999) ∧ (1 ≤ (g (k + 1) m).toInt ∧ (g (k + 1) m).toInt ≤ 99) ∧ (1 ≤ (g (k + 2) m).toInt ∧ (g (k + 2) m).toInt ≤ 9999) ∧ (1 ≤ (g (k + 3) m).toInt ∧ (g (k + 3) m).toInt ≤ 300))
/-- what holds of the reference's world ahead of each call; lm: how many months are written of each mine -/
def INV (c : Nat) (lm : Nat → Nat) (g : zG) : Prop :=
  ((0 ≤ (g 27 0).toInt ∧ (g 27 0).toInt ≤ 60) ∧ (0 ≤ (g 27 1).toInt ∧ (g 27 1).toInt ≤ 6) ∧ (0 ≤ (g 27 20).toInt ∧ (g 27 20).toInt ≤ 12) ∧ (0 ≤ (g 27 55).toInt ∧ (g 27 55).toInt ≤ 60) ∧ (0 ≤ (g 27 45).toInt ∧ (g 27 45).toInt ≤ 16) ∧ (0 ≤ (g 27 35).toInt ∧ (g 27 35).toInt ≤ 200)) ∧
  (TB BM (q_n g 1) g) ∧
  (∀ m, m < q_n g 1 → 0 ≤ (g 34 m).toInt ∧ (g 34 m).toInt ≤ 99999 * (c : Int)) ∧
  (TB [(32, 0, 999)] 72 g) ∧
  (TB [(35, 0, 99)] 48 g) ∧
  (TB BE (q_n g 20) g) ∧
  (TB BR (q_n g 55) g) ∧
  (TB BL (q_n g 45) g) ∧
  (TB [(59, 0, 255)] 200 g) ∧
  (TB [(37, 0, 989901)] 360 g) ∧
  (TB [(41, 0, 99)] 360 g) ∧
  (TB [(87, 0, 48)] 4 g) ∧
  (∀ i, i < 4 → g 86 i = -4 ∨ (0 ≤ (g 86 i).toInt ∧ (g 86 i).toInt ≤ 2)) ∧
  (∀ i, i < q_n g 45 → s_lv (g 62 i) (g 65 i)) ∧
  (∀ e, e < q_n g 20 → 0 ≤ (g 46 e).toInt ∧ (g 46 e).toInt < (g 27 1).toInt) ∧
  (∀ e, e < q_n g 20 → 0 ≤ (g 58 e).toInt ∧ (g 58 e).toInt ≤ (g 27 0).toInt) ∧
  (∀ e, e < q_n g 20 → 0 ≤ (g 52 e).toInt ∧ (g 52 e).toInt ≤ (lm (z_ix (g 46 e)) : Int)) ∧
  (∀ k, k < q_n g 55 → (0 ≤ (g 71 k).toInt ∧ (g 71 k).toInt < (g 27 20).toInt) ∧ g 70 k = g 46 (z_ix (g 71 k)) ∧ 0 ≤ (g 72 k).toInt ∧ (g 72 k).toInt ≤ (g 27 0).toInt) ∧
  (∀ m, m < 6 → s_tr g 42 m) ∧
  (∀ k, k < q_n g 55 → s_tr g 80 k) ∧
  (∀ m, q_n g 1 ≤ m → m < 6 → g 33 m = 0 ∧ g 34 m = 0 ∧ g 42 m = 0 ∧ (∀ i, i < 12 → g 32 (12 * m + i) = 0) ∧ (∀ i, i < 8 → g 35 (8 * m + i) = 0) ∧ ∀ w t, w < 6 → t < 60 → g (36 + w) (60 * m + t) = 0) ∧
  (∀ e, q_n g 20 ≤ e → e < 12 → g 52 e = 0 ∧ g 53 e = 0 ∧ g 54 e = 0 ∧ g 55 e = 0 ∧ g 56 e = 0 ∧ g 57 e = 0) ∧
  (∀ e, e < q_n g 20 → g 200 e = q_si g e ∧ g 201 e = q_sh g e ∧ g 204 e = Int32.ofNat e) ∧
  (∀ e, e < q_n g 20 → g 202 e + s_cs (g 39) (g 37) (Int32.ofNat e) (60 * z_ix (g 46 e)) (z_ix (q_si g e)) (lm (z_ix (g 46 e)) - z_ix (q_si g e)) = g 57 e) ∧
  (∀ i, i < q_n g 45 → g 203 i = s_cg (g 62 i)) ∧
  (∀ k, k < q_n g 55 → 0 < (g 74 k).toInt → g 205 k = g 78 k) ∧
  (∀ m, m < 6 → lm m ≤ 60 ∧ (g 27 0).toInt ≤ (lm m : Int))
theorem INV.cnt {c : Nat} {lm : Nat → Nat} {g : zG} (I : INV c lm g) : (0 ≤ (g 27 0).toInt ∧ (g 27 0).toInt ≤ 60) ∧ (0 ≤ (g 27 1).toInt ∧ (g 27 1).toInt ≤ 6) ∧ (0 ≤ (g 27 20).toInt ∧ (g 27 20).toInt ≤ 12) ∧ (0 ≤ (g 27 55).toInt ∧ (g 27 55).toInt ≤ 60) ∧ (0 ≤ (g 27 45).toInt ∧ (g 27 45).toInt ≤ 16) ∧ (0 ≤ (g 27 35).toInt ∧ (g 27 35).toInt ≤ 200) := I.1
theorem INV.bm {c : Nat} {lm : Nat → Nat} {g : zG} (I : INV c lm g) : TB BM (q_n g 1) g := I.2.1
theorem INV.pd {c : Nat} {lm : Nat → Nat} {g : zG} (I : INV c lm g) : ∀ m, m < q_n g 1 → 0 ≤ (g 34 m).toInt ∧ (g 34 m).toInt ≤ 99999 * (c : Int) := I.2.2.1
theorem INV.bw {c : Nat} {lm : Nat → Nat} {g : zG} (I : INV c lm g) : TB [(32, 0, 999)] 72 g := I.2.2.2.1
theorem INV.bs {c : Nat} {lm : Nat → Nat} {g : zG} (I : INV c lm g) : TB [(35, 0, 99)] 48 g := I.2.2.2.2.1
theorem INV.be {c : Nat} {lm : Nat → Nat} {g : zG} (I : INV c lm g) : TB BE (q_n g 20) g := I.2.2.2.2.2.1
theorem INV.br {c : Nat} {lm : Nat → Nat} {g : zG} (I : INV c lm g) : TB BR (q_n g 55) g := I.2.2.2.2.2.2.1
theorem INV.bl {c : Nat} {lm : Nat → Nat} {g : zG} (I : INV c lm g) : TB BL (q_n g 45) g := I.2.2.2.2.2.2.2.1
theorem INV.bt {c : Nat} {lm : Nat → Nat} {g : zG} (I : INV c lm g) : TB [(59, 0, 255)] 200 g := I.2.2.2.2.2.2.2.2.1
theorem INV.wc {c : Nat} {lm : Nat → Nat} {g : zG} (I : INV c lm g) : TB [(37, 0, 989901)] 360 g := I.2.2.2.2.2.2.2.2.2.1
theorem INV.wn {c : Nat} {lm : Nat → Nat} {g : zG} (I : INV c lm g) : TB [(41, 0, 99)] 360 g := I.2.2.2.2.2.2.2.2.2.2.1
theorem INV.sh {c : Nat} {lm : Nat → Nat} {g : zG} (I : INV c lm g) : TB [(87, 0, 48)] 4 g := I.2.2.2.2.2.2.2.2.2.2.2.1
theorem INV.la {c : Nat} {lm : Nat → Nat} {g : zG} (I : INV c lm g) : ∀ i, i < 4 → g 86 i = -4 ∨ (0 ≤ (g 86 i).toInt ∧ (g 86 i).toInt ≤ 2) := I.2.2.2.2.2.2.2.2.2.2.2.2.1
theorem INV.lv {c : Nat} {lm : Nat → Nat} {g : zG} (I : INV c lm g) : ∀ i, i < q_n g 45 → s_lv (g 62 i) (g 65 i) := I.2.2.2.2.2.2.2.2.2.2.2.2.2.1
theorem INV.em {c : Nat} {lm : Nat → Nat} {g : zG} (I : INV c lm g) : ∀ e, e < q_n g 20 → 0 ≤ (g 46 e).toInt ∧ (g 46 e).toInt < (g 27 1).toInt := I.2.2.2.2.2.2.2.2.2.2.2.2.2.2.1
theorem INV.ca {c : Nat} {lm : Nat → Nat} {g : zG} (I : INV c lm g) : ∀ e, e < q_n g 20 → 0 ≤ (g 58 e).toInt ∧ (g 58 e).toInt ≤ (g 27 0).toInt := I.2.2.2.2.2.2.2.2.2.2.2.2.2.2.2.1
theorem INV.ag {c : Nat} {lm : Nat → Nat} {g : zG} (I : INV c lm g) : ∀ e, e < q_n g 20 → 0 ≤ (g 52 e).toInt ∧ (g 52 e).toInt ≤ (lm (z_ix (g 46 e)) : Int) := I.2.2.2.2.2.2.2.2.2.2.2.2.2.2.2.2.1
theorem INV.re {c : Nat} {lm : Nat → Nat} {g : zG} (I : INV c lm g) : ∀ k, k < q_n g 55 → (0 ≤ (g 71 k).toInt ∧ (g 71 k).toInt < (g 27 20).toInt) ∧ g 70 k = g 46 (z_ix (g 71 k)) ∧ 0 ≤ (g 72 k).toInt ∧ (g 72 k).toInt ≤ (g 27 0).toInt := I.2.2.2.2.2.2.2.2.2.2.2.2.2.2.2.2.2.1
theorem INV.tm {c : Nat} {lm : Nat → Nat} {g : zG} (I : INV c lm g) : ∀ m, m < 6 → s_tr g 42 m := I.2.2.2.2.2.2.2.2.2.2.2.2.2.2.2.2.2.2.1
theorem INV.tk {c : Nat} {lm : Nat → Nat} {g : zG} (I : INV c lm g) : ∀ k, k < q_n g 55 → s_tr g 80 k := I.2.2.2.2.2.2.2.2.2.2.2.2.2.2.2.2.2.2.2.1
theorem INV.zm {c : Nat} {lm : Nat → Nat} {g : zG} (I : INV c lm g) : ∀ m, q_n g 1 ≤ m → m < 6 → g 33 m = 0 ∧ g 34 m = 0 ∧ g 42 m = 0 ∧ (∀ i, i < 12 → g 32 (12 * m + i) = 0) ∧ (∀ i, i < 8 → g 35 (8 * m + i) = 0) ∧ ∀ w t, w < 6 → t < 60 → g (36 + w) (60 * m + t) = 0 := I.2.2.2.2.2.2.2.2.2.2.2.2.2.2.2.2.2.2.2.2.1
theorem INV.ze {c : Nat} {lm : Nat → Nat} {g : zG} (I : INV c lm g) : ∀ e, q_n g 20 ≤ e → e < 12 → g 52 e = 0 ∧ g 53 e = 0 ∧ g 54 e = 0 ∧ g 55 e = 0 ∧ g 56 e = 0 ∧ g 57 e = 0 := I.2.2.2.2.2.2.2.2.2.2.2.2.2.2.2.2.2.2.2.2.2.1
theorem INV.gs {c : Nat} {lm : Nat → Nat} {g : zG} (I : INV c lm g) : ∀ e, e < q_n g 20 → g 200 e = q_si g e ∧ g 201 e = q_sh g e ∧ g 204 e = Int32.ofNat e := I.2.2.2.2.2.2.2.2.2.2.2.2.2.2.2.2.2.2.2.2.2.2.1
theorem INV.gc {c : Nat} {lm : Nat → Nat} {g : zG} (I : INV c lm g) : ∀ e, e < q_n g 20 → g 202 e + s_cs (g 39) (g 37) (Int32.ofNat e) (60 * z_ix (g 46 e)) (z_ix (q_si g e)) (lm (z_ix (g 46 e)) - z_ix (q_si g e)) = g 57 e := I.2.2.2.2.2.2.2.2.2.2.2.2.2.2.2.2.2.2.2.2.2.2.2.1
theorem INV.gg {c : Nat} {lm : Nat → Nat} {g : zG} (I : INV c lm g) : ∀ i, i < q_n g 45 → g 203 i = s_cg (g 62 i) := I.2.2.2.2.2.2.2.2.2.2.2.2.2.2.2.2.2.2.2.2.2.2.2.2.1
theorem INV.gk {c : Nat} {lm : Nat → Nat} {g : zG} (I : INV c lm g) : ∀ k, k < q_n g 55 → 0 < (g 74 k).toInt → g 205 k = g 78 k := I.2.2.2.2.2.2.2.2.2.2.2.2.2.2.2.2.2.2.2.2.2.2.2.2.2.1
theorem INV.wl {c : Nat} {lm : Nat → Nat} {g : zG} (I : INV c lm g) : ∀ m, m < 6 → lm m ≤ 60 ∧ (g 27 0).toInt ≤ (lm m : Int) := I.2.2.2.2.2.2.2.2.2.2.2.2.2.2.2.2.2.2.2.2.2.2.2.2.2.2
