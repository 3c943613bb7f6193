theorem ag_of {S L : List Nat} {g g2 : zG} (e : ∀ k, S.contains k = false → g2 k = g k) (d : L.all (fun k => !S.contains k) = true) : ∀ k, k ∈ L → g2 k = g k := by
  intro k hk
  have := List.all_eq_true.mp d k hk
  exact e k (by simpa using this)
theorem an_of {S : List Nat} {g g2 : zG} (e : ∀ k, S.contains k = false → g2 k = g k) (d : S.contains 27 = false) {N : List Nat} : ∀ j, j ∈ N → g2 27 j = g 27 j := fun j _ => by rw [e 27 d]
theorem INV.t_cnt {g g2 : zG} (n : ∀ j, j ∈ ([0, 1, 20, 55, 45, 35] : List Nat) → g2 27 j = g 27 j) (e : ∀ k, k ∈ ([] : List Nat) → g2 k = g k) (I : (0 ≤ (g 27 0).toInt ∧ (g 27 0).toInt ≤ 60) ∧ (0 ≤ (g 27 1).toInt ∧ (g 27 1).toInt ≤ 6) ∧ (0 ≤ (g 27 20).toInt ∧ (g 27 20).toInt ≤ 12) ∧ (0 ≤ (g 27 55).toInt ∧ (g 27 55).toInt ≤ 60) ∧ (0 ≤ (g 27 45).toInt ∧ (g 27 45).toInt ≤ 16) ∧ (0 ≤ (g 27 35).toInt ∧ (g 27 35).toInt ≤ 200)) : (0 ≤ (g2 27 0).toInt ∧ (g2 27 0).toInt ≤ 60) ∧ (0 ≤ (g2 27 1).toInt ∧ (g2 27 1).toInt ≤ 6) ∧ (0 ≤ (g2 27 20).toInt ∧ (g2 27 20).toInt ≤ 12) ∧ (0 ≤ (g2 27 55).toInt ∧ (g2 27 55).toInt ≤ 60) ∧ (0 ≤ (g2 27 45).toInt ∧ (g2 27 45).toInt ≤ 16) ∧ (0 ≤ (g2 27 35).toInt ∧ (g2 27 35).toInt ≤ 200) := by
  have n0 := n 0 (by decide)
  have q0 : q_n g2 0 = q_n g 0 := by unfold q_n; rw [n0]
  have n1 := n 1 (by decide)
  have q1 : q_n g2 1 = q_n g 1 := by unfold q_n; rw [n1]
  have n20 := n 20 (by decide)
  have q20 : q_n g2 20 = q_n g 20 := by unfold q_n; rw [n20]
  have n55 := n 55 (by decide)
  have q55 : q_n g2 55 = q_n g 55 := by unfold q_n; rw [n55]
  have n45 := n 45 (by decide)
  have q45 : q_n g2 45 = q_n g 45 := by unfold q_n; rw [n45]
  have n35 := n 35 (by decide)
  have q35 : q_n g2 35 = q_n g 35 := by unfold q_n; rw [n35]
  rw [n0, n1, n20, n55, n45, n35]
  exact I
theorem INV.t_bm {g g2 : zG} (n : ∀ j, j ∈ ([1] : List Nat) → g2 27 j = g 27 j) (e : ∀ k, k ∈ ([28, 29, 30, 31] : List Nat) → g2 k = g k) (I : TB BM (q_n g 1) g) : TB BM (q_n g2 1) g2 := by
  have n1 := n 1 (by decide)
  have q1 : q_n g2 1 = q_n g 1 := by unfold q_n; rw [n1]
  have e28 := e 28 (by decide)
  have e29 := e 29 (by decide)
  have e30 := e 30 (by decide)
  have e31 := e 31 (by decide)
  rw [q1]
  exact I.eq (fun q hq => e q.1 ((by decide : ∀ q, q ∈ BM → q.1 ∈ ([28, 29, 30, 31] : List Nat)) q hq))
theorem INV.t_pd {c : Nat} {g g2 : zG} (n : ∀ j, j ∈ ([1] : List Nat) → g2 27 j = g 27 j) (e : ∀ k, k ∈ ([34] : List Nat) → g2 k = g k) (I : ∀ m, m < q_n g 1 → 0 ≤ (g 34 m).toInt ∧ (g 34 m).toInt ≤ 99999 * (c : Int)) : ∀ m, m < q_n g2 1 → 0 ≤ (g2 34 m).toInt ∧ (g2 34 m).toInt ≤ 99999 * (c : Int) := by
  have n1 := n 1 (by decide)
  have q1 : q_n g2 1 = q_n g 1 := by unfold q_n; rw [n1]
  have e34 := e 34 (by decide)
  rw [q1, e34]
  exact I
theorem INV.t_bw {g g2 : zG} (n : ∀ j, j ∈ ([] : List Nat) → g2 27 j = g 27 j) (e : ∀ k, k ∈ ([32] : List Nat) → g2 k = g k) (I : TB [(32, 0, 999)] 72 g) : TB [(32, 0, 999)] 72 g2 := by
  have e32 := e 32 (by decide)
  exact I.eq (fun q hq => e q.1 ((by decide : ∀ q, q ∈ ([(32, 0, 999)] : List (Nat × Int × Int)) → q.1 ∈ ([32] : List Nat)) q hq))
theorem INV.t_bs {g g2 : zG} (n : ∀ j, j ∈ ([] : List Nat) → g2 27 j = g 27 j) (e : ∀ k, k ∈ ([35] : List Nat) → g2 k = g k) (I : TB [(35, 0, 99)] 48 g) : TB [(35, 0, 99)] 48 g2 := by
  have e35 := e 35 (by decide)
  exact I.eq (fun q hq => e q.1 ((by decide : ∀ q, q ∈ ([(35, 0, 99)] : List (Nat × Int × Int)) → q.1 ∈ ([35] : List Nat)) q hq))
theorem INV.t_be {g g2 : zG} (n : ∀ j, j ∈ ([20] : List Nat) → g2 27 j = g 27 j) (e : ∀ k, k ∈ ([47, 48, 49, 50, 51, 53, 54, 55] : List Nat) → g2 k = g k) (I : TB BE (q_n g 20) g) : TB BE (q_n g2 20) g2 := by
  have n20 := n 20 (by decide)
  have q20 : q_n g2 20 = q_n g 20 := by unfold q_n; rw [n20]
  have e47 := e 47 (by decide)
  have e48 := e 48 (by decide)
  have e49 := e 49 (by decide)
  have e50 := e 50 (by decide)
  have e51 := e 51 (by decide)
  have e53 := e 53 (by decide)
  have e54 := e 54 (by decide)
  have e55 := e 55 (by decide)
  rw [q20]
  exact I.eq (fun q hq => e q.1 ((by decide : ∀ q, q ∈ BE → q.1 ∈ ([47, 48, 49, 50, 51, 53, 54, 55] : List Nat)) q hq))
theorem INV.t_br {g g2 : zG} (n : ∀ j, j ∈ ([55] : List Nat) → g2 27 j = g 27 j) (e : ∀ k, k ∈ ([73, 74, 75, 76, 77, 78, 79] : List Nat) → g2 k = g k) (I : TB BR (q_n g 55) g) : TB BR (q_n g2 55) g2 := by
  have n55 := n 55 (by decide)
  have q55 : q_n g2 55 = q_n g 55 := by unfold q_n; rw [n55]
  have e73 := e 73 (by decide)
  have e74 := e 74 (by decide)
  have e75 := e 75 (by decide)
  have e76 := e 76 (by decide)
  have e77 := e 77 (by decide)
  have e78 := e 78 (by decide)
  have e79 := e 79 (by decide)
  rw [q55]
  exact I.eq (fun q hq => e q.1 ((by decide : ∀ q, q ∈ BR → q.1 ∈ ([73, 74, 75, 76, 77, 78, 79] : List Nat)) q hq))
theorem INV.t_bl {g g2 : zG} (n : ∀ j, j ∈ ([45] : List Nat) → g2 27 j = g 27 j) (e : ∀ k, k ∈ ([62, 63, 64] : List Nat) → g2 k = g k) (I : TB BL (q_n g 45) g) : TB BL (q_n g2 45) g2 := by
  have n45 := n 45 (by decide)
  have q45 : q_n g2 45 = q_n g 45 := by unfold q_n; rw [n45]
  have e62 := e 62 (by decide)
  have e63 := e 63 (by decide)
  have e64 := e 64 (by decide)
  rw [q45]
  exact I.eq (fun q hq => e q.1 ((by decide : ∀ q, q ∈ BL → q.1 ∈ ([62, 63, 64] : List Nat)) q hq))
theorem INV.t_bt {g g2 : zG} (n : ∀ j, j ∈ ([] : List Nat) → g2 27 j = g 27 j) (e : ∀ k, k ∈ ([59] : List Nat) → g2 k = g k) (I : TB [(59, 0, 255)] 200 g) : TB [(59, 0, 255)] 200 g2 := by
  have e59 := e 59 (by decide)
  exact I.eq (fun q hq => e q.1 ((by decide : ∀ q, q ∈ ([(59, 0, 255)] : List (Nat × Int × Int)) → q.1 ∈ ([59] : List Nat)) q hq))
theorem INV.t_wc {g g2 : zG} (n : ∀ j, j ∈ ([] : List Nat) → g2 27 j = g 27 j) (e : ∀ k, k ∈ ([37] : List Nat) → g2 k = g k) (I : TB [(37, 0, 989901)] 360 g) : TB [(37, 0, 989901)] 360 g2 := by
  have e37 := e 37 (by decide)
  exact I.eq (fun q hq => e q.1 ((by decide : ∀ q, q ∈ ([(37, 0, 989901)] : List (Nat × Int × Int)) → q.1 ∈ ([37] : List Nat)) q hq))
theorem INV.t_wn {g g2 : zG} (n : ∀ j, j ∈ ([] : List Nat) → g2 27 j = g 27 j) (e : ∀ k, k ∈ ([41] : List Nat) → g2 k = g k) (I : TB [(41, 0, 99)] 360 g) : TB [(41, 0, 99)] 360 g2 := by
  have e41 := e 41 (by decide)
  exact I.eq (fun q hq => e q.1 ((by decide : ∀ q, q ∈ ([(41, 0, 99)] : List (Nat × Int × Int)) → q.1 ∈ ([41] : List Nat)) q hq))
theorem INV.t_sh {g g2 : zG} (n : ∀ j, j ∈ ([] : List Nat) → g2 27 j = g 27 j) (e : ∀ k, k ∈ ([87] : List Nat) → g2 k = g k) (I : TB [(87, 0, 48)] 4 g) : TB [(87, 0, 48)] 4 g2 := by
  have e87 := e 87 (by decide)
  exact I.eq (fun q hq => e q.1 ((by decide : ∀ q, q ∈ ([(87, 0, 48)] : List (Nat × Int × Int)) → q.1 ∈ ([87] : List Nat)) q hq))
theorem INV.t_la {g g2 : zG} (n : ∀ j, j ∈ ([] : List Nat) → g2 27 j = g 27 j) (e : ∀ k, k ∈ ([86] : List Nat) → g2 k = g k) (I : ∀ i, i < 4 → g 86 i = -4 ∨ (0 ≤ (g 86 i).toInt ∧ (g 86 i).toInt ≤ 2)) : ∀ i, i < 4 → g2 86 i = -4 ∨ (0 ≤ (g2 86 i).toInt ∧ (g2 86 i).toInt ≤ 2) := by
  have e86 := e 86 (by decide)
  rw [e86]
  exact I
theorem INV.t_lv {g g2 : zG} (n : ∀ j, j ∈ ([45] : List Nat) → g2 27 j = g 27 j) (e : ∀ k, k ∈ ([62, 65] : List Nat) → g2 k = g k) (I : ∀ i, i < q_n g 45 → s_lv (g 62 i) (g 65 i)) : ∀ i, i < q_n g2 45 → s_lv (g2 62 i) (g2 65 i) := by
  have n45 := n 45 (by decide)
  have q45 : q_n g2 45 = q_n g 45 := by unfold q_n; rw [n45]
  have e62 := e 62 (by decide)
  have e65 := e 65 (by decide)
  rw [q45, e62, e65]
  exact I
theorem INV.t_em {g g2 : zG} (n : ∀ j, j ∈ ([20, 1] : List Nat) → g2 27 j = g 27 j) (e : ∀ k, k ∈ ([46] : List Nat) → g2 k = g k) (I : ∀ e, e < q_n g 20 → 0 ≤ (g 46 e).toInt ∧ (g 46 e).toInt < (g 27 1).toInt) : ∀ e, e < q_n g2 20 → 0 ≤ (g2 46 e).toInt ∧ (g2 46 e).toInt < (g2 27 1).toInt := by
  have n20 := n 20 (by decide)
  have q20 : q_n g2 20 = q_n g 20 := by unfold q_n; rw [n20]
  have n1 := n 1 (by decide)
  have q1 : q_n g2 1 = q_n g 1 := by unfold q_n; rw [n1]
  have e46 := e 46 (by decide)
  rw [q20, n1, e46]
  exact I
theorem INV.t_ca {g g2 : zG} (n : ∀ j, j ∈ ([20, 0] : List Nat) → g2 27 j = g 27 j) (e : ∀ k, k ∈ ([58] : List Nat) → g2 k = g k) (I : ∀ e, e < q_n g 20 → 0 ≤ (g 58 e).toInt ∧ (g 58 e).toInt ≤ (g 27 0).toInt) : ∀ e, e < q_n g2 20 → 0 ≤ (g2 58 e).toInt ∧ (g2 58 e).toInt ≤ (g2 27 0).toInt := by
  have n20 := n 20 (by decide)
  have q20 : q_n g2 20 = q_n g 20 := by unfold q_n; rw [n20]
  have n0 := n 0 (by decide)
  have q0 : q_n g2 0 = q_n g 0 := by unfold q_n; rw [n0]
  have e58 := e 58 (by decide)
  rw [q20, n0, e58]
  exact I
theorem INV.t_ag {lm : Nat → Nat} {g g2 : zG} (n : ∀ j, j ∈ ([20] : List Nat) → g2 27 j = g 27 j) (e : ∀ k, k ∈ ([52, 46] : List Nat) → g2 k = g k) (I : ∀ e, e < q_n g 20 → 0 ≤ (g 52 e).toInt ∧ (g 52 e).toInt ≤ (lm (z_ix (g 46 e)) : Int)) : ∀ e, e < q_n g2 20 → 0 ≤ (g2 52 e).toInt ∧ (g2 52 e).toInt ≤ (lm (z_ix (g2 46 e)) : Int) := by
  have n20 := n 20 (by decide)
  have q20 : q_n g2 20 = q_n g 20 := by unfold q_n; rw [n20]
  have e52 := e 52 (by decide)
  have e46 := e 46 (by decide)
  rw [q20, e52, e46]
  exact I
theorem INV.t_re {g g2 : zG} (n : ∀ j, j ∈ ([55, 20, 0] : List Nat) → g2 27 j = g 27 j) (e : ∀ k, k ∈ ([71, 70, 46, 72] : List Nat) → g2 k = g k) (I : ∀ k, k < q_n g 55 → (0 ≤ (g 71 k).toInt ∧ (g 71 k).toInt < (g 27 20).toInt) ∧ g 70 k = g 46 (z_ix (g 71 k)) ∧ 0 ≤ (g 72 k).toInt ∧ (g 72 k).toInt ≤ (g 27 0).toInt) : ∀ k, k < q_n g2 55 → (0 ≤ (g2 71 k).toInt ∧ (g2 71 k).toInt < (g2 27 20).toInt) ∧ g2 70 k = g2 46 (z_ix (g2 71 k)) ∧ 0 ≤ (g2 72 k).toInt ∧ (g2 72 k).toInt ≤ (g2 27 0).toInt := by
  have n55 := n 55 (by decide)
  have q55 : q_n g2 55 = q_n g 55 := by unfold q_n; rw [n55]
  have n20 := n 20 (by decide)
  have q20 : q_n g2 20 = q_n g 20 := by unfold q_n; rw [n20]
  have n0 := n 0 (by decide)
  have q0 : q_n g2 0 = q_n g 0 := by unfold q_n; rw [n0]
  have e71 := e 71 (by decide)
  have e70 := e 70 (by decide)
  have e46 := e 46 (by decide)
  have e72 := e 72 (by decide)
  rw [q55, n20, n0, e71, e70, e46, e72]
  exact I
theorem INV.t_tm {g g2 : zG} (n : ∀ j, j ∈ ([] : List Nat) → g2 27 j = g 27 j) (e : ∀ k, k ∈ ([42, 43, 44, 45] : List Nat) → g2 k = g k) (I : ∀ m, m < 6 → s_tr g 42 m) : ∀ m, m < 6 → s_tr g2 42 m := by
  have e42 := e 42 (by decide)
  have e43 := e 43 (by decide)
  have e44 := e 44 (by decide)
  have e45 := e 45 (by decide)
  have f1 : g2 (42 + 1) = g (42 + 1) := e43
  have f2 : g2 (42 + 2) = g (42 + 2) := e44
  have f3 : g2 (42 + 3) = g (42 + 3) := e45
  intro m hm
  unfold s_tr
  rw [e42, f1, f2, f3]
  exact I m hm
theorem INV.t_tk {g g2 : zG} (n : ∀ j, j ∈ ([55] : List Nat) → g2 27 j = g 27 j) (e : ∀ k, k ∈ ([80, 81, 82, 83] : List Nat) → g2 k = g k) (I : ∀ k, k < q_n g 55 → s_tr g 80 k) : ∀ k, k < q_n g2 55 → s_tr g2 80 k := by
  have n55 := n 55 (by decide)
  have q55 : q_n g2 55 = q_n g 55 := by unfold q_n; rw [n55]
  have e80 := e 80 (by decide)
  have e81 := e 81 (by decide)
  have e82 := e 82 (by decide)
  have e83 := e 83 (by decide)
  have f1 : g2 (80 + 1) = g (80 + 1) := e81
  have f2 : g2 (80 + 2) = g (80 + 2) := e82
  have f3 : g2 (80 + 3) = g (80 + 3) := e83
  rw [q55]
  intro m hm
  unfold s_tr
  rw [e80, f1, f2, f3]
  exact I m hm
theorem INV.t_zm {g g2 : zG} (n : ∀ j, j ∈ ([1] : List Nat) → g2 27 j = g 27 j) (e : ∀ k, k ∈ ([33, 34, 42, 32, 35, 36, 37, 38, 39, 40, 41] : List Nat) → g2 k = g k) (I : ∀ m, q_n g 1 ≤ m → m < 6 → g 33 m = 0 ∧ g 34 m = 0 ∧ g 42 m = 0 ∧ (∀ i, i < 12 → g 32 (12 * m + i) = 0) ∧ (∀ i, i < 8 → g 35 (8 * m + i) = 0) ∧ ∀ w t, w < 6 → t < 60 → g (36 + w) (60 * m + t) = 0) : ∀ m, q_n g2 1 ≤ m → m < 6 → g2 33 m = 0 ∧ g2 34 m = 0 ∧ g2 42 m = 0 ∧ (∀ i, i < 12 → g2 32 (12 * m + i) = 0) ∧ (∀ i, i < 8 → g2 35 (8 * m + i) = 0) ∧ ∀ w t, w < 6 → t < 60 → g2 (36 + w) (60 * m + t) = 0 := by
  have n1 := n 1 (by decide)
  have q1 : q_n g2 1 = q_n g 1 := by unfold q_n; rw [n1]
  have e33 := e 33 (by decide)
  have e34 := e 34 (by decide)
  have e42 := e 42 (by decide)
  have e32 := e 32 (by decide)
  have e35 := e 35 (by decide)
  have e36 := e 36 (by decide)
  have e37 := e 37 (by decide)
  have e38 := e 38 (by decide)
  have e39 := e 39 (by decide)
  have e40 := e 40 (by decide)
  have e41 := e 41 (by decide)
  rw [q1, e33, e34, e42, e32, e35]
  intro m h1 h2
  obtain ⟨a1, a2, a3, a4, a5, a6⟩ := I m h1 h2
  refine ⟨a1, a2, a3, a4, a5, fun w t hw ht => ?_⟩
  rw [e (36 + w) ((by decide : ∀ w, w < 6 → (36 + w) ∈ ([33, 34, 42, 32, 35, 36, 37, 38, 39, 40, 41] : List Nat)) w hw)]
  exact a6 w t hw ht
theorem INV.t_ze {g g2 : zG} (n : ∀ j, j ∈ ([20] : List Nat) → g2 27 j = g 27 j) (e : ∀ k, k ∈ ([52, 53, 54, 55, 56, 57] : List Nat) → g2 k = g k) (I : ∀ e, q_n g 20 ≤ e → e < 12 → g 52 e = 0 ∧ g 53 e = 0 ∧ g 54 e = 0 ∧ g 55 e = 0 ∧ g 56 e = 0 ∧ g 57 e = 0) : ∀ e, q_n g2 20 ≤ e → e < 12 → g2 52 e = 0 ∧ g2 53 e = 0 ∧ g2 54 e = 0 ∧ g2 55 e = 0 ∧ g2 56 e = 0 ∧ g2 57 e = 0 := by
  have n20 := n 20 (by decide)
  have q20 : q_n g2 20 = q_n g 20 := by unfold q_n; rw [n20]
  have e52 := e 52 (by decide)
  have e53 := e 53 (by decide)
  have e54 := e 54 (by decide)
  have e55 := e 55 (by decide)
  have e56 := e 56 (by decide)
  have e57 := e 57 (by decide)
  rw [q20, e52, e53, e54, e55, e56, e57]
  exact I
theorem INV.t_gs {g g2 : zG} (n : ∀ j, j ∈ ([20, 55] : List Nat) → g2 27 j = g 27 j) (e : ∀ k, k ∈ ([200, 201, 204, 71, 72, 58, 73] : List Nat) → g2 k = g k) (I : ∀ e, e < q_n g 20 → g 200 e = q_si g e ∧ g 201 e = q_sh g e ∧ g 204 e = Int32.ofNat e) : ∀ e, e < q_n g2 20 → g2 200 e = q_si g2 e ∧ g2 201 e = q_sh g2 e ∧ g2 204 e = Int32.ofNat e := by
  have n20 := n 20 (by decide)
  have q20 : q_n g2 20 = q_n g 20 := by unfold q_n; rw [n20]
  have n55 := n 55 (by decide)
  have q55 : q_n g2 55 = q_n g 55 := by unfold q_n; rw [n55]
  have e200 := e 200 (by decide)
  have e201 := e 201 (by decide)
  have e204 := e 204 (by decide)
  have e71 := e 71 (by decide)
  have e72 := e 72 (by decide)
  have e58 := e 58 (by decide)
  have e73 := e 73 (by decide)
  have s1 : ∀ e, q_si g2 e = q_si g e := by intro e; unfold q_si; rw [q55, e71, e72, e58]
  have s2 : ∀ e, q_sh g2 e = q_sh g e := by intro e; unfold q_sh; rw [q55, e71, e73]
  rw [q20, e200, e201, e204]
  intro e he
  rw [s1, s2]
  exact I e he
theorem INV.t_gc {lm : Nat → Nat} {g g2 : zG} (n : ∀ j, j ∈ ([20, 55] : List Nat) → g2 27 j = g 27 j) (e : ∀ k, k ∈ ([202, 39, 37, 46, 57, 71, 72, 58] : List Nat) → g2 k = g k) (I : ∀ e, e < q_n g 20 → g 202 e + s_cs (g 39) (g 37) (Int32.ofNat e) (60 * z_ix (g 46 e)) (z_ix (q_si g e)) (lm (z_ix (g 46 e)) - z_ix (q_si g e)) = g 57 e) : ∀ e, e < q_n g2 20 → g2 202 e + s_cs (g2 39) (g2 37) (Int32.ofNat e) (60 * z_ix (g2 46 e)) (z_ix (q_si g2 e)) (lm (z_ix (g2 46 e)) - z_ix (q_si g2 e)) = g2 57 e := by
  have n20 := n 20 (by decide)
  have q20 : q_n g2 20 = q_n g 20 := by unfold q_n; rw [n20]
  have n55 := n 55 (by decide)
  have q55 : q_n g2 55 = q_n g 55 := by unfold q_n; rw [n55]
  have e202 := e 202 (by decide)
  have e39 := e 39 (by decide)
  have e37 := e 37 (by decide)
  have e46 := e 46 (by decide)
  have e57 := e 57 (by decide)
  have e71 := e 71 (by decide)
  have e72 := e 72 (by decide)
  have e58 := e 58 (by decide)
  have s1 : ∀ e, q_si g2 e = q_si g e := by intro e; unfold q_si; rw [q55, e71, e72, e58]
  rw [q20, e202, e39, e37, e46, e57]
  intro e he
  rw [s1]
  exact I e he
theorem INV.t_gg {g g2 : zG} (n : ∀ j, j ∈ ([45] : List Nat) → g2 27 j = g 27 j) (e : ∀ k, k ∈ ([203, 62] : List Nat) → g2 k = g k) (I : ∀ i, i < q_n g 45 → g 203 i = s_cg (g 62 i)) : ∀ i, i < q_n g2 45 → g2 203 i = s_cg (g2 62 i) := by
  have n45 := n 45 (by decide)
  have q45 : q_n g2 45 = q_n g 45 := by unfold q_n; rw [n45]
  have e203 := e 203 (by decide)
  have e62 := e 62 (by decide)
  rw [q45, e203, e62]
  exact I
theorem INV.t_gk {g g2 : zG} (n : ∀ j, j ∈ ([55] : List Nat) → g2 27 j = g 27 j) (e : ∀ k, k ∈ ([74, 205, 78] : List Nat) → g2 k = g k) (I : ∀ k, k < q_n g 55 → 0 < (g 74 k).toInt → g 205 k = g 78 k) : ∀ k, k < q_n g2 55 → 0 < (g2 74 k).toInt → g2 205 k = g2 78 k := by
  have n55 := n 55 (by decide)
  have q55 : q_n g2 55 = q_n g 55 := by unfold q_n; rw [n55]
  have e74 := e 74 (by decide)
  have e205 := e 205 (by decide)
  have e78 := e 78 (by decide)
  rw [q55, e74, e205, e78]
  exact I
theorem INV.t_wl {lm : Nat → Nat} {g g2 : zG} (n : ∀ j, j ∈ ([0] : List Nat) → g2 27 j = g 27 j) (e : ∀ k, k ∈ ([] : List Nat) → g2 k = g k) (I : ∀ m, m < 6 → lm m ≤ 60 ∧ (g 27 0).toInt ≤ (lm m : Int)) : ∀ m, m < 6 → lm m ≤ 60 ∧ (g2 27 0).toInt ≤ (lm m : Int) := by
  have n0 := n 0 (by decide)
  have q0 : q_n g2 0 = q_n g 0 := by unfold q_n; rw [n0]
  rw [n0]
  exact I
theorem INV.t_c {c d : Nat} {lm : Nat → Nat} {g : zG} (I : INV c lm g) (hc : c ≤ d) : INV d lm g := ⟨I.cnt, I.bm, fun m hm => ⟨(I.pd m hm).1, by have := (I.pd m hm).2; omega⟩, I.bw, I.bs, I.be, I.br, I.bl, I.bt, I.wc, I.wn, I.sh, I.la, I.lv, I.em, I.ca, I.ag, I.re, I.tm, I.tk, I.zm, I.ze, I.gs, I.gc, I.gg, I.gk, I.wl⟩
