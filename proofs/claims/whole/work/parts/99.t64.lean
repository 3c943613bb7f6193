/-! the start: both objects are made -/
def t_lk : List (Nat × Nat × Nat) → Nat → Nat × Nat
  | [], _ => (0, 0)
  | q :: l, b => if b = q.1 then q.2 else t_lk l b
def i_lk : List (Nat × Nat × Int32) → Nat → Nat → Int32
  | [], _, _ => 0
  | q :: l, b, i => if b = q.1 ∧ i = q.2.1 then q.2.2 else i_lk l b i
def r_lk : List (Nat × Nat × Nat) → Nat → Nat → Option Nat
  | [], _, _ => none
  | q :: l, b, i => if b = q.1 ∧ i = q.2.1 then some q.2.2 else r_lk l b i
/-- a heap that is told by lists -/
def hk (xs : Nat → Int32) (Ls nx us : Nat) (T : List (Nat × Nat × Nat)) (I : List (Nat × Nat × Int32)) (R : List (Nat × Nat × Nat)) : zH := ((nx, us), (fun b => (t_lk T b).1), (fun b => if b = z_SC then Ls else (t_lk T b).2), (fun b i => if b = z_SC then xs i else i_lk I b i), (fun _ _ => 0), (fun b j => r_lk R b j))
theorem i_fr {I : List (Nat × Nat × Int32)} {k : Nat} (h : I.all (fun q => !Nat.beq q.1 k) = true) : ∀ i, i_lk I k i = 0 := by
  intro i
  induction I with
  | nil => rfl
  | cons q l ih =>
    rw [List.all_cons, Bool.and_eq_true] at h
    unfold i_lk
    rw [if_neg (fun z => by rw [z.1, Nat.beq_refl] at h; exact absurd h.1 (by decide))]
    exact ih h.2
theorem r_fr {I : List (Nat × Nat × Nat)} {k : Nat} (h : I.all (fun q => !Nat.beq q.1 k) = true) : ∀ i, r_lk I k i = none := by
  intro i
  induction I with
  | nil => rfl
  | cons q l ih =>
    rw [List.all_cons, Bool.and_eq_true] at h
    unfold r_lk
    rw [if_neg (fun z => by rw [z.1, Nat.beq_refl] at h; exact absurd h.1 (by decide))]
    exact ih h.2
theorem r_mem {I : List (Nat × Nat × Nat)} {a j b : Nat} (h : r_lk I a j = some b) : (a, j, b) ∈ I := by
  induction I with
  | nil => cases h
  | cons q l ih =>
    unfold r_lk at h
    by_cases z : a = q.1 ∧ j = q.2.1
    · rw [if_pos z] at h
      injection h with h
      have : (a, j, b) = q := by rw [z.1, z.2, ← h]
      rw [this]
      exact List.mem_cons_self
    · rw [if_neg z] at h
      exact List.mem_cons_of_mem _ (ih h)
section HK
variable {α : Type} {p : Option Value → Option α} {y pc : Nat} {L : zL} {S : zS} {Q : α → zH → Prop} {xs : Nat → Int32} {Ls nx us : Nat} {T R : List (Nat × Nat × Nat)} {I : List (Nat × Nat × Int32)}
theorem hk_nw {c l n : Nat} (hf : (Nat.blt nx 1000 && I.all (fun q => !Nat.beq q.1 nx) && R.all (fun q => !Nat.beq q.1 nx)) = true) : z_nw (hk xs Ls nx us T I R) c l n = hk xs Ls (nx + 1) (us + n) ((nx, c, l) :: T) I R := by
  simp only [Bool.and_eq_true] at hf
  have n1 := Nat.le_of_ble_eq_true hf.1.1
  have i1 := i_fr hf.1.2
  have r1 := r_fr hf.2
  have nS : ¬ nx = z_SC := by unfold z_SC; omega
  have e1 : (fun b => if b = nx then c else (t_lk T b).1) = fun b => (t_lk ((nx, c, l) :: T) b).1 := by
    funext b
    show _ = (if b = nx then (c, l) else t_lk T b).1
    by_cases z : b = nx
    · rw [if_pos z, if_pos z]
    · rw [if_neg z, if_neg z]
  have e2 : (fun b => if b = nx then l else (if b = z_SC then Ls else (t_lk T b).2)) = fun b => if b = z_SC then Ls else (t_lk ((nx, c, l) :: T) b).2 := by
    funext b
    show _ = if b = z_SC then Ls else (if b = nx then (c, l) else t_lk T b).2
    by_cases z : b = nx
    · rw [if_pos z, if_pos z, if_neg (by rw [z]; exact nS)]
    · rw [if_neg z, if_neg z]
  have e3 : z_row (fun b i => if b = z_SC then xs i else i_lk I b i) nx (fun _ => 0) = fun b i => if b = z_SC then xs i else i_lk I b i := by
    funext b i
    show (if b = nx then 0 else (if b = z_SC then xs i else i_lk I b i)) = _
    by_cases z : b = nx
    · rw [if_pos z, if_neg (by rw [z]; exact nS), z, i1 i]
    · rw [if_neg z]
  have e4 : z_row (fun _ _ => (0 : Int64)) nx (fun _ => 0) = fun _ _ => 0 := by
    funext b i
    show (if b = nx then 0 else (0 : Int64)) = 0
    by_cases z : b = nx
    · rw [if_pos z]
    · rw [if_neg z]
  have e5 : z_row (fun b j => r_lk R b j) nx (fun _ => none) = fun b j => r_lk R b j := by
    funext b i
    show (if b = nx then none else r_lk R b i) = _
    by_cases z : b = nx
    · rw [if_pos z, z, r1 i]
    · rw [if_neg z]
  show ((nx + 1, us + n), (fun b => if b = nx then c else (t_lk T b).1), (fun b => if b = nx then l else (if b = z_SC then Ls else (t_lk T b).2)), z_row (fun b i => if b = z_SC then xs i else i_lk I b i) nx (fun _ => 0), z_row (fun _ _ => (0 : Int64)) nx (fun _ => 0), z_row (fun b j => r_lk R b j) nx (fun _ => none)) = _
  rw [e1, e2, e3, e4, e5]
  rfl
theorem hk_sI {a i : Nat} {v : Int32} (ha : Nat.blt a 1000 = true) : z_sI (hk xs Ls nx us T I R) a i v = hk xs Ls nx us T ((a, i, v) :: I) R := by
  have n1 := Nat.le_of_ble_eq_true ha
  have e : z_up2 (fun b i => if b = z_SC then xs i else i_lk I b i) a i v = fun b j => if b = z_SC then xs j else i_lk ((a, i, v) :: I) b j := by
    funext b j
    show (if b = a ∧ j = i then v else (if b = z_SC then xs j else i_lk I b j)) = if b = z_SC then xs j else (if b = a ∧ j = i then v else i_lk I b j)
    by_cases z : b = a ∧ j = i
    · rw [if_pos z, if_pos z, if_neg (by unfold z_SC; omega)]
    · rw [if_neg z, if_neg z]
  show ((nx, us), _, _, z_up2 (fun b i => if b = z_SC then xs i else i_lk I b i) a i v, _, _) = _
  rw [e]
  rfl
theorem hk_sR {a j b : Nat} : z_sR (hk xs Ls nx us T I R) a j (some b) = hk xs Ls nx us T I ((a, j, b) :: R) := by
  have e : z_up2 (fun b j => r_lk R b j) a j (some b) = fun c i => r_lk ((a, j, b) :: R) c i := by
    funext c i
    rfl
  show ((nx, us), _, _, _, _, z_up2 (fun b j => r_lk R b j) a j (some b)) = _
  rw [e]
  rfl
theorem q_new {i c n nx' us' : Nat} {v : Int} (e : z_c y pc = (.new i, 3, c, n, v)) (h1 : nx + 1 = nx') (h2 : us + n = us') (hf : (Nat.blt nx 1000 && I.all (fun q => !Nat.beq q.1 nx) && R.all (fun q => !Nat.beq q.1 nx)) = true) (k : KG p y (pc + 3) L (.ref nx :: S) (hk xs Ls nx' us' ((nx, c, 0) :: T) I R) Q) : KG p y pc L S (hk xs Ls nx us T I R) Q := by
  subst h1; subst h2
  rw [← hk_nw hf] at k
  exact k_g (g := True) (by rw [e]; rfl) (by rw [e, if_pos trivial]; rfl) trivial k
theorem q_na {a t m nx' us' : Nat} {v : Int} {i : Int32} {at' : _} (e : z_c y pc = (.newarray at', 2, t, a, v)) (hi : 0 ≤ i.toInt ∧ i.toInt ≤ 100000) (hm : z_ix i = m) (h1 : nx + 1 = nx') (h2 : us + m = us') (hf : (Nat.blt nx 1000 && I.all (fun q => !Nat.beq q.1 nx) && R.all (fun q => !Nat.beq q.1 nx)) = true) (k : KG p y (pc + 2) L (.ref nx :: S) (hk xs Ls nx' us' ((nx, t, m) :: T) I R) Q) : KG p y pc L (.int i :: S) (hk xs Ls nx us T I R) Q := by
  subst h1; subst h2; subst hm
  rw [← hk_nw hf] at k
  exact k_na e hi k
theorem q_an {a t m nx' us' : Nat} {v : Int} {i : Int32} {at' : _} (e : z_c y pc = (.anewarray at', 3, t, a, v)) (hi : 0 ≤ i.toInt ∧ i.toInt ≤ 100000) (hm : z_ix i = m) (h1 : nx + 1 = nx') (h2 : us + m = us') (hf : (Nat.blt nx 1000 && I.all (fun q => !Nat.beq q.1 nx) && R.all (fun q => !Nat.beq q.1 nx)) = true) (k : KG p y (pc + 3) L (.ref nx :: S) (hk xs Ls nx' us' ((nx, t, m) :: T) I R) Q) : KG p y pc L (.int i :: S) (hk xs Ls nx us T I R) Q := by
  subst h1; subst h2; subst hm
  rw [← hk_nw hf] at k
  exact k_g (g := 0 ≤ i.toInt ∧ i.toInt ≤ 100000) (by rw [e]; rfl) (by rw [e]; rfl) hi k
theorem q_pR {i c j a b : Nat} (e : z_c y pc = (.putfield i, 3, c, j, 2)) (ht : (t_lk T a).1 = c) (k : KG p y (pc + 3) L S (hk xs Ls nx us T I ((a, j, b) :: R)) Q) : KG p y pc L (.ref b :: .ref a :: S) (hk xs Ls nx us T I R) Q := by
  rw [← hk_sR] at k
  exact k_pR e ht k
theorem q_pI {i c j a : Nat} {x : Int32} (e : z_c y pc = (.putfield i, 3, c, j, 0)) (ha : Nat.blt a 1000 = true) (ht : (t_lk T a).1 = c) (k : KG p y (pc + 3) L S (hk xs Ls nx us T ((a, j, x) :: I) R) Q) : KG p y pc L (.int x :: .ref a :: S) (hk xs Ls nx us T I R) Q := by
  rw [← hk_sI ha] at k
  exact k_pI e ht k
theorem q_is {a b : Nat} {v : Int} {i x : Int32} {n i' q : Nat} (e : z_c y pc = (.iastore, 1, a, b, v)) (ht : (t_lk T q).1 = 100) (hl : (t_lk T q).2 = n) (hi : 0 ≤ i.toInt ∧ i.toInt < (n : Int)) (hi' : z_ix i = i') (hq : Nat.blt q 1000 = true) (k : KG p y (pc + 1) L S (hk xs Ls nx us T ((q, i', x) :: I) R) Q) : KG p y pc L (.int x :: .int i :: .ref q :: S) (hk xs Ls nx us T I R) Q := by
  have n1 := Nat.le_of_ble_eq_true hq
  rw [← hk_sI hq] at k
  subst hi'
  refine k_is e ht ?_ hi k
  show (if q = z_SC then Ls else (t_lk T q).2) = n
  rw [if_neg (by unfold z_SC; omega)]
  exact hl
end HK
def TF : List (Nat × Nat × Nat) := [(88, 100, 192), (87, 100, 4), (86, 100, 4), (85, 100, 6), (84, 100, 6), (83, 100, 60), (82, 100, 60), (81, 100, 60), (80, 100, 60), (79, 100, 60), (78, 100, 60), (77, 100, 60), (76, 100, 60), (75, 100, 60), (74, 100, 60), (73, 100, 60), (72, 100, 60), (71, 100, 60), (70, 100, 60), (69, 100, 16), (68, 100, 16), (67, 100, 16), (66, 100, 16), (65, 100, 16), (64, 100, 16), (63, 100, 16), (62, 100, 16), (61, 100, 37), (60, 100, 9), (59, 100, 200), (58, 100, 12), (57, 100, 12), (56, 100, 12), (55, 101, 12), (54, 101, 12), (53, 100, 12), (52, 100, 12), (51, 100, 12), (50, 100, 12), (49, 100, 12), (48, 100, 12), (47, 100, 12), (46, 100, 12), (45, 100, 6), (44, 100, 6), (43, 100, 6), (42, 100, 6), (41, 100, 360), (40, 100, 360), (39, 100, 360), (38, 100, 360), (37, 100, 360), (36, 100, 360), (35, 100, 48), (34, 100, 6), (33, 100, 6), (32, 100, 72), (31, 100, 6), (30, 100, 6), (29, 100, 6), (28, 100, 6), (27, 12, 0), (26, 100, 16), (25, 100, 16), (24, 100, 16), (23, 100, 16), (22, 100, 16), (21, 1, 0), (20, 100, 16), (19, 100, 16), (18, 100, 16), (17, 100, 16), (16, 100, 16), (15, 1, 0), (14, 2, 0), (13, 100, 36), (12, 100, 6), (11, 100, 6), (10, 100, 6), (9, 6, 0), (8, 7, 0), (7, 100, 200), (6, 9, 0), (5, 100, 12), (4, 105, 4), (3, 104, 60), (2, 103, 12), (1, 102, 6), (0, 11, 0)]
def IF : List (Nat × Nat × Int32) := [(86, 3, -4), (86, 2, -4), (86, 1, -4), (86, 0, -4), (61, 36, 109), (61, 35, 111), (61, 34, 114), (61, 33, 102), (61, 32, 119), (61, 31, 111), (61, 30, 114), (61, 29, 114), (61, 28, 97), (61, 27, 110), (61, 26, 101), (61, 25, 100), (61, 24, 105), (61, 23, 119), (61, 22, 116), (61, 21, 114), (61, 20, 97), (61, 19, 112), (61, 18, 110), (61, 17, 105), (61, 16, 97), (61, 15, 103), (61, 14, 97), (61, 13, 112), (61, 12, 111), (61, 11, 116), (61, 10, 115), (61, 9, 100), (61, 8, 101), (61, 7, 120), (61, 6, 105), (61, 5, 102), (61, 4, 101), (61, 3, 114), (61, 2, 97), (61, 1, 104), (61, 0, 115), (60, 8, 37), (60, 7, 33), (60, 6, 27), (60, 5, 23), (60, 4, 19), (60, 3, 14), (60, 2, 10), (60, 1, 5), (60, 0, 0), (0, 11, 0)]
def RF : List (Nat × Nat × Nat) := [(27, 75, 88), (27, 74, 87), (27, 73, 86), (27, 72, 85), (27, 71, 84), (27, 69, 83), (27, 68, 82), (27, 67, 81), (27, 66, 80), (27, 65, 79), (27, 64, 78), (27, 63, 77), (27, 62, 76), (27, 61, 75), (27, 60, 74), (27, 59, 73), (27, 58, 72), (27, 57, 71), (27, 56, 70), (27, 54, 69), (27, 53, 68), (27, 52, 67), (27, 51, 66), (27, 49, 65), (27, 48, 64), (27, 47, 63), (27, 46, 62), (27, 44, 61), (27, 43, 60), (27, 34, 59), (27, 33, 58), (27, 32, 57), (27, 31, 56), (27, 30, 55), (27, 29, 54), (27, 28, 53), (27, 27, 52), (27, 26, 51), (27, 25, 50), (27, 24, 49), (27, 23, 48), (27, 22, 47), (27, 21, 46), (27, 19, 45), (27, 18, 44), (27, 17, 43), (27, 16, 42), (27, 15, 41), (27, 14, 40), (27, 13, 39), (27, 12, 38), (27, 11, 37), (27, 10, 36), (27, 9, 35), (27, 8, 34), (27, 7, 33), (27, 6, 32), (27, 5, 31), (27, 4, 30), (27, 3, 29), (27, 2, 28), (0, 10, 21), (21, 4, 26), (21, 3, 25), (21, 2, 24), (21, 1, 23), (21, 0, 22), (0, 9, 15), (15, 4, 20), (15, 3, 19), (15, 2, 18), (15, 1, 17), (15, 0, 16), (0, 8, 14), (0, 7, 9), (9, 5, 13), (9, 4, 12), (9, 3, 11), (9, 2, 10), (0, 6, 8), (8, 2, 6), (0, 5, 6), (6, 0, 7), (0, 4, 5), (0, 3, 4), (0, 2, 3), (0, 1, 2), (0, 0, 1)]
set_option maxRecDepth 100000 in
set_option maxHeartbeats 4000000 in
theorem L_new {xs : Nat → Int32} {Ls : Nat} {Q : Int32 → zH → Prop} (H : KG z_pI 233 18 (z_lw (0 : Int32)) [] (hk xs Ls 89 4558 TF IF RF) Q) : KG z_pI 233 0 [some (.retAddr 19), none, none, none] [] (hk xs Ls 0 0 [] [] []) Q := by
  refine q_new rfl rfl rfl rfl ?_
  refine k_n 1 (pc' := 4) (L' := [some (.retAddr 19), none, none, none]) (S' := [.ref 0, .ref 0]) (h' := _) rfl ?_
  refine k_cV 98 1 rfl rfl rfl (A := [.ref 0]) rfl rfl (z_rok_ref rfl) (rest := [.ref 0]) rfl rfl ?_
  refine k_K (L := [some (.ref 0)]) rfl ?_
  refine k_n 4 (pc' := 7) (L' := [some (.ref 0)]) (S' := [.int (6 : Int32), .ref 0]) (h' := _) rfl ?_
  refine q_an (m := 6) rfl (by decide) rfl rfl rfl rfl ?_
  refine q_pR rfl rfl ?_
  refine k_n 2 (pc' := 16) (L' := [some (.ref 0)]) (S' := [.int (12 : Int32), .ref 0]) (h' := _) rfl ?_
  refine q_an (m := 12) rfl (by decide) rfl rfl rfl rfl ?_
  refine q_pR rfl rfl ?_
  refine k_n 2 (pc' := 25) (L' := [some (.ref 0)]) (S' := [.int (60 : Int32), .ref 0]) (h' := _) rfl ?_
  refine q_an (m := 60) rfl (by decide) rfl rfl rfl rfl ?_
  refine q_pR rfl rfl ?_
  refine k_n 2 (pc' := 33) (L' := [some (.ref 0)]) (S' := [.int (4 : Int32), .ref 0]) (h' := _) rfl ?_
  refine q_an (m := 4) rfl (by decide) rfl rfl rfl rfl ?_
  refine q_pR rfl rfl ?_
  refine k_n 2 (pc' := 42) (L' := [some (.ref 0)]) (S' := [.int (12 : Int32), .ref 0]) (h' := _) rfl ?_
  refine q_na (m := 12) rfl (by decide) rfl rfl rfl rfl ?_
  refine q_pR rfl rfl ?_
  refine k_n 1 (pc' := 48) (L' := [some (.ref 0)]) (S' := [.ref 0]) (h' := _) rfl ?_
  refine q_new rfl rfl rfl rfl ?_
  refine k_n 1 (pc' := 52) (L' := [some (.ref 0)]) (S' := [.ref 6, .ref 6, .ref 0]) (h' := _) rfl ?_
  refine k_cV 91 1 rfl rfl rfl (A := [.ref 6]) rfl rfl (z_rok_ref rfl) (rest := [.ref 6, .ref 0]) rfl rfl ?_
  refine k_K (L := [some (.ref 6)]) rfl ?_
  refine k_n 4 (pc' := 8) (L' := [some (.ref 6)]) (S' := [.int (200 : Int32), .ref 6]) (h' := _) rfl ?_
  refine q_na (m := 200) rfl (by decide) rfl rfl rfl rfl ?_
  refine q_pR rfl rfl ?_
  refine k_r (v := ()) rfl rfl rfl ?_
  refine q_pR rfl rfl ?_
  refine k_n 1 (pc' := 59) (L' := [some (.ref 0)]) (S' := [.ref 0]) (h' := _) rfl ?_
  refine q_new rfl rfl rfl rfl ?_
  refine k_n 2 (pc' := 64) (L' := [some (.ref 0)]) (S' := [.ref 0, .ref 8, .ref 8, .ref 0]) (h' := _) rfl ?_
  refine k_gS (b := 6) rfl rfl rfl ?_
  refine k_cV 69 2 rfl rfl rfl (A := [.ref 8, .ref 6]) rfl rfl (z_rok_ref rfl) (rest := [.ref 8, .ref 0]) rfl rfl ?_
  refine k_K (L := [some (.ref 8), some (.ref 6)]) rfl ?_
  refine k_n 4 (pc' := 6) (L' := [some (.ref 8), some (.ref 6)]) (S' := [.ref 6, .ref 8]) (h' := _) rfl ?_
  refine q_pR rfl rfl ?_
  refine k_r (v := ()) rfl rfl rfl ?_
  refine q_pR rfl rfl ?_
  refine k_n 1 (pc' := 74) (L' := [some (.ref 0)]) (S' := [.ref 0]) (h' := _) rfl ?_
  refine q_new rfl rfl rfl rfl ?_
  refine k_n 1 (pc' := 78) (L' := [some (.ref 0)]) (S' := [.ref 9, .ref 9, .ref 0]) (h' := _) rfl ?_
  refine k_cV 57 1 rfl rfl rfl (A := [.ref 9]) rfl rfl (z_rok_ref rfl) (rest := [.ref 9, .ref 0]) rfl rfl ?_
  refine k_K (L := [some (.ref 9)]) rfl ?_
  refine k_n 4 (pc' := 7) (L' := [some (.ref 9)]) (S' := [.int (6 : Int32), .ref 9]) (h' := _) rfl ?_
  refine q_na (m := 6) rfl (by decide) rfl rfl rfl rfl ?_
  refine q_pR rfl rfl ?_
  refine k_n 2 (pc' := 15) (L' := [some (.ref 9)]) (S' := [.int (6 : Int32), .ref 9]) (h' := _) rfl ?_
  refine q_na (m := 6) rfl (by decide) rfl rfl rfl rfl ?_
  refine q_pR rfl rfl ?_
  refine k_n 2 (pc' := 23) (L' := [some (.ref 9)]) (S' := [.int (6 : Int32), .ref 9]) (h' := _) rfl ?_
  refine q_na (m := 6) rfl (by decide) rfl rfl rfl rfl ?_
  refine q_pR rfl rfl ?_
  refine k_n 2 (pc' := 31) (L' := [some (.ref 9)]) (S' := [.int (36 : Int32), .ref 9]) (h' := _) rfl ?_
  refine q_na (m := 36) rfl (by decide) rfl rfl rfl rfl ?_
  refine q_pR rfl rfl ?_
  refine k_r (v := ()) rfl rfl rfl ?_
  refine q_pR rfl rfl ?_
  refine k_n 1 (pc' := 85) (L' := [some (.ref 0)]) (S' := [.ref 0]) (h' := _) rfl ?_
  refine q_new rfl rfl rfl rfl ?_
  refine k_n 1 (pc' := 89) (L' := [some (.ref 0)]) (S' := [.ref 14, .ref 14, .ref 0]) (h' := _) rfl ?_
  refine k_cV 29 1 rfl rfl rfl (A := [.ref 14]) rfl rfl (z_rok_ref rfl) (rest := [.ref 14, .ref 0]) rfl rfl ?_
  refine k_K (L := [some (.ref 14)]) rfl ?_
  refine k_n 2 (pc' := 4) (L' := [some (.ref 14)]) (S' := []) (h' := _) rfl ?_
  refine k_r (v := ()) rfl rfl rfl ?_
  refine q_pR rfl rfl ?_
  refine k_n 1 (pc' := 96) (L' := [some (.ref 0)]) (S' := [.ref 0]) (h' := _) rfl ?_
  refine q_new rfl rfl rfl rfl ?_
  refine k_n 1 (pc' := 100) (L' := [some (.ref 0)]) (S' := [.ref 15, .ref 15, .ref 0]) (h' := _) rfl ?_
  refine k_cV 16 1 rfl rfl rfl (A := [.ref 15]) rfl rfl (z_rok_ref rfl) (rest := [.ref 15, .ref 0]) rfl rfl ?_
  refine k_K (L := [some (.ref 15)]) rfl ?_
  refine k_n 4 (pc' := 7) (L' := [some (.ref 15)]) (S' := [.int (16 : Int32), .ref 15]) (h' := _) rfl ?_
  refine q_na (m := 16) rfl (by decide) rfl rfl rfl rfl ?_
  refine q_pR rfl rfl ?_
  refine k_n 2 (pc' := 15) (L' := [some (.ref 15)]) (S' := [.int (16 : Int32), .ref 15]) (h' := _) rfl ?_
  refine q_na (m := 16) rfl (by decide) rfl rfl rfl rfl ?_
  refine q_pR rfl rfl ?_
  refine k_n 2 (pc' := 23) (L' := [some (.ref 15)]) (S' := [.int (16 : Int32), .ref 15]) (h' := _) rfl ?_
  refine q_na (m := 16) rfl (by decide) rfl rfl rfl rfl ?_
  refine q_pR rfl rfl ?_
  refine k_n 2 (pc' := 31) (L' := [some (.ref 15)]) (S' := [.int (16 : Int32), .ref 15]) (h' := _) rfl ?_
  refine q_na (m := 16) rfl (by decide) rfl rfl rfl rfl ?_
  refine q_pR rfl rfl ?_
  refine k_n 2 (pc' := 39) (L' := [some (.ref 15)]) (S' := [.int (16 : Int32), .ref 15]) (h' := _) rfl ?_
  refine q_na (m := 16) rfl (by decide) rfl rfl rfl rfl ?_
  refine q_pR rfl rfl ?_
  refine k_r (v := ()) rfl rfl rfl ?_
  refine q_pR rfl rfl ?_
  refine k_n 1 (pc' := 107) (L' := [some (.ref 0)]) (S' := [.ref 0]) (h' := _) rfl ?_
  refine q_new rfl rfl rfl rfl ?_
  refine k_n 1 (pc' := 111) (L' := [some (.ref 0)]) (S' := [.ref 21, .ref 21, .ref 0]) (h' := _) rfl ?_
  refine k_cV 16 1 rfl rfl rfl (A := [.ref 21]) rfl rfl (z_rok_ref rfl) (rest := [.ref 21, .ref 0]) rfl rfl ?_
  refine k_K (L := [some (.ref 21)]) rfl ?_
  refine k_n 4 (pc' := 7) (L' := [some (.ref 21)]) (S' := [.int (16 : Int32), .ref 21]) (h' := _) rfl ?_
  refine q_na (m := 16) rfl (by decide) rfl rfl rfl rfl ?_
  refine q_pR rfl rfl ?_
  refine k_n 2 (pc' := 15) (L' := [some (.ref 21)]) (S' := [.int (16 : Int32), .ref 21]) (h' := _) rfl ?_
  refine q_na (m := 16) rfl (by decide) rfl rfl rfl rfl ?_
  refine q_pR rfl rfl ?_
  refine k_n 2 (pc' := 23) (L' := [some (.ref 21)]) (S' := [.int (16 : Int32), .ref 21]) (h' := _) rfl ?_
  refine q_na (m := 16) rfl (by decide) rfl rfl rfl rfl ?_
  refine q_pR rfl rfl ?_
  refine k_n 2 (pc' := 31) (L' := [some (.ref 21)]) (S' := [.int (16 : Int32), .ref 21]) (h' := _) rfl ?_
  refine q_na (m := 16) rfl (by decide) rfl rfl rfl rfl ?_
  refine q_pR rfl rfl ?_
  refine k_n 2 (pc' := 39) (L' := [some (.ref 21)]) (S' := [.int (16 : Int32), .ref 21]) (h' := _) rfl ?_
  refine q_na (m := 16) rfl (by decide) rfl rfl rfl rfl ?_
  refine q_pR rfl rfl ?_
  refine k_r (v := ()) rfl rfl rfl ?_
  refine q_pR rfl rfl ?_
  refine k_n 2 (pc' := 119) (L' := [some (.ref 0)]) (S' := [.int (0 : Int32), .ref 0]) (h' := _) rfl ?_
  refine q_pI rfl rfl rfl ?_
  refine k_r (v := ()) rfl rfl rfl ?_
  refine k_n 1 (pc' := 8) (L' := [some (.retAddr 19), some (.ref 0), none, none]) (S' := []) (h' := _) rfl ?_
  refine q_new rfl rfl rfl rfl ?_
  refine k_n 1 (pc' := 12) (L' := [some (.retAddr 19), some (.ref 0), none, none]) (S' := [.ref 27, .ref 27]) (h' := _) rfl ?_
  refine k_cV 160 1 rfl rfl rfl (A := [.ref 27]) rfl rfl (z_rok_ref rfl) (rest := [.ref 27]) rfl rfl ?_
  refine k_K (L := [some (.ref 27)]) rfl ?_
  refine k_n 4 (pc' := 7) (L' := [some (.ref 27)]) (S' := [.int (6 : Int32), .ref 27]) (h' := _) rfl ?_
  refine q_na (m := 6) rfl (by decide) rfl rfl rfl rfl ?_
  refine q_pR rfl rfl ?_
  refine k_n 2 (pc' := 15) (L' := [some (.ref 27)]) (S' := [.int (6 : Int32), .ref 27]) (h' := _) rfl ?_
  refine q_na (m := 6) rfl (by decide) rfl rfl rfl rfl ?_
  refine q_pR rfl rfl ?_
  refine k_n 2 (pc' := 23) (L' := [some (.ref 27)]) (S' := [.int (6 : Int32), .ref 27]) (h' := _) rfl ?_
  refine q_na (m := 6) rfl (by decide) rfl rfl rfl rfl ?_
  refine q_pR rfl rfl ?_
  refine k_n 2 (pc' := 31) (L' := [some (.ref 27)]) (S' := [.int (6 : Int32), .ref 27]) (h' := _) rfl ?_
  refine q_na (m := 6) rfl (by decide) rfl rfl rfl rfl ?_
  refine q_pR rfl rfl ?_
  refine k_n 2 (pc' := 39) (L' := [some (.ref 27)]) (S' := [.int (72 : Int32), .ref 27]) (h' := _) rfl ?_
  refine q_na (m := 72) rfl (by decide) rfl rfl rfl rfl ?_
  refine q_pR rfl rfl ?_
  refine k_n 2 (pc' := 47) (L' := [some (.ref 27)]) (S' := [.int (6 : Int32), .ref 27]) (h' := _) rfl ?_
  refine q_na (m := 6) rfl (by decide) rfl rfl rfl rfl ?_
  refine q_pR rfl rfl ?_
  refine k_n 2 (pc' := 55) (L' := [some (.ref 27)]) (S' := [.int (6 : Int32), .ref 27]) (h' := _) rfl ?_
  refine q_na (m := 6) rfl (by decide) rfl rfl rfl rfl ?_
  refine q_pR rfl rfl ?_
  refine k_n 2 (pc' := 63) (L' := [some (.ref 27)]) (S' := [.int (48 : Int32), .ref 27]) (h' := _) rfl ?_
  refine q_na (m := 48) rfl (by decide) rfl rfl rfl rfl ?_
  refine q_pR rfl rfl ?_
  refine k_n 2 (pc' := 72) (L' := [some (.ref 27)]) (S' := [.int (360 : Int32), .ref 27]) (h' := _) rfl ?_
  refine q_na (m := 360) rfl (by decide) rfl rfl rfl rfl ?_
  refine q_pR rfl rfl ?_
  refine k_n 2 (pc' := 81) (L' := [some (.ref 27)]) (S' := [.int (360 : Int32), .ref 27]) (h' := _) rfl ?_
  refine q_na (m := 360) rfl (by decide) rfl rfl rfl rfl ?_
  refine q_pR rfl rfl ?_
  refine k_n 2 (pc' := 90) (L' := [some (.ref 27)]) (S' := [.int (360 : Int32), .ref 27]) (h' := _) rfl ?_
  refine q_na (m := 360) rfl (by decide) rfl rfl rfl rfl ?_
  refine q_pR rfl rfl ?_
  refine k_n 2 (pc' := 99) (L' := [some (.ref 27)]) (S' := [.int (360 : Int32), .ref 27]) (h' := _) rfl ?_
  refine q_na (m := 360) rfl (by decide) rfl rfl rfl rfl ?_
  refine q_pR rfl rfl ?_
  refine k_n 2 (pc' := 108) (L' := [some (.ref 27)]) (S' := [.int (360 : Int32), .ref 27]) (h' := _) rfl ?_
  refine q_na (m := 360) rfl (by decide) rfl rfl rfl rfl ?_
  refine q_pR rfl rfl ?_
  refine k_n 2 (pc' := 117) (L' := [some (.ref 27)]) (S' := [.int (360 : Int32), .ref 27]) (h' := _) rfl ?_
  refine q_na (m := 360) rfl (by decide) rfl rfl rfl rfl ?_
  refine q_pR rfl rfl ?_
  refine k_n 2 (pc' := 125) (L' := [some (.ref 27)]) (S' := [.int (6 : Int32), .ref 27]) (h' := _) rfl ?_
  refine q_na (m := 6) rfl (by decide) rfl rfl rfl rfl ?_
  refine q_pR rfl rfl ?_
  refine k_n 2 (pc' := 133) (L' := [some (.ref 27)]) (S' := [.int (6 : Int32), .ref 27]) (h' := _) rfl ?_
  refine q_na (m := 6) rfl (by decide) rfl rfl rfl rfl ?_
  refine q_pR rfl rfl ?_
  refine k_n 2 (pc' := 141) (L' := [some (.ref 27)]) (S' := [.int (6 : Int32), .ref 27]) (h' := _) rfl ?_
  refine q_na (m := 6) rfl (by decide) rfl rfl rfl rfl ?_
  refine q_pR rfl rfl ?_
  refine k_n 2 (pc' := 149) (L' := [some (.ref 27)]) (S' := [.int (6 : Int32), .ref 27]) (h' := _) rfl ?_
  refine q_na (m := 6) rfl (by decide) rfl rfl rfl rfl ?_
  refine q_pR rfl rfl ?_
  refine k_n 2 (pc' := 157) (L' := [some (.ref 27)]) (S' := [.int (12 : Int32), .ref 27]) (h' := _) rfl ?_
  refine q_na (m := 12) rfl (by decide) rfl rfl rfl rfl ?_
  refine q_pR rfl rfl ?_
  refine k_n 2 (pc' := 165) (L' := [some (.ref 27)]) (S' := [.int (12 : Int32), .ref 27]) (h' := _) rfl ?_
  refine q_na (m := 12) rfl (by decide) rfl rfl rfl rfl ?_
  refine q_pR rfl rfl ?_
  refine k_n 2 (pc' := 173) (L' := [some (.ref 27)]) (S' := [.int (12 : Int32), .ref 27]) (h' := _) rfl ?_
  refine q_na (m := 12) rfl (by decide) rfl rfl rfl rfl ?_
  refine q_pR rfl rfl ?_
  refine k_n 2 (pc' := 181) (L' := [some (.ref 27)]) (S' := [.int (12 : Int32), .ref 27]) (h' := _) rfl ?_
  refine q_na (m := 12) rfl (by decide) rfl rfl rfl rfl ?_
  refine q_pR rfl rfl ?_
  refine k_n 2 (pc' := 189) (L' := [some (.ref 27)]) (S' := [.int (12 : Int32), .ref 27]) (h' := _) rfl ?_
  refine q_na (m := 12) rfl (by decide) rfl rfl rfl rfl ?_
  refine q_pR rfl rfl ?_
  refine k_n 2 (pc' := 197) (L' := [some (.ref 27)]) (S' := [.int (12 : Int32), .ref 27]) (h' := _) rfl ?_
  refine q_na (m := 12) rfl (by decide) rfl rfl rfl rfl ?_
  refine q_pR rfl rfl ?_
  refine k_n 2 (pc' := 205) (L' := [some (.ref 27)]) (S' := [.int (12 : Int32), .ref 27]) (h' := _) rfl ?_
  refine q_na (m := 12) rfl (by decide) rfl rfl rfl rfl ?_
  refine q_pR rfl rfl ?_
  refine k_n 2 (pc' := 213) (L' := [some (.ref 27)]) (S' := [.int (12 : Int32), .ref 27]) (h' := _) rfl ?_
  refine q_na (m := 12) rfl (by decide) rfl rfl rfl rfl ?_
  refine q_pR rfl rfl ?_
  refine k_n 2 (pc' := 221) (L' := [some (.ref 27)]) (S' := [.int (12 : Int32), .ref 27]) (h' := _) rfl ?_
  refine q_na (m := 12) rfl (by decide) rfl rfl rfl rfl ?_
  refine q_pR rfl rfl ?_
  refine k_n 2 (pc' := 229) (L' := [some (.ref 27)]) (S' := [.int (12 : Int32), .ref 27]) (h' := _) rfl ?_
  refine q_na (m := 12) rfl (by decide) rfl rfl rfl rfl ?_
  refine q_pR rfl rfl ?_
  refine k_n 2 (pc' := 237) (L' := [some (.ref 27)]) (S' := [.int (12 : Int32), .ref 27]) (h' := _) rfl ?_
  refine q_na (m := 12) rfl (by decide) rfl rfl rfl rfl ?_
  refine q_pR rfl rfl ?_
  refine k_n 2 (pc' := 245) (L' := [some (.ref 27)]) (S' := [.int (12 : Int32), .ref 27]) (h' := _) rfl ?_
  refine q_na (m := 12) rfl (by decide) rfl rfl rfl rfl ?_
  refine q_pR rfl rfl ?_
  refine k_n 2 (pc' := 253) (L' := [some (.ref 27)]) (S' := [.int (12 : Int32), .ref 27]) (h' := _) rfl ?_
  refine q_na (m := 12) rfl (by decide) rfl rfl rfl rfl ?_
  refine q_pR rfl rfl ?_
  refine k_n 2 (pc' := 262) (L' := [some (.ref 27)]) (S' := [.int (200 : Int32), .ref 27]) (h' := _) rfl ?_
  refine q_na (m := 200) rfl (by decide) rfl rfl rfl rfl ?_
  refine q_pR rfl rfl ?_
  refine k_n 2 (pc' := 270) (L' := [some (.ref 27)]) (S' := [.int (9 : Int32), .ref 27]) (h' := _) rfl ?_
  refine q_na (m := 9) rfl (by decide) rfl rfl rfl rfl ?_
  refine k_n 3 (pc' := 275) (L' := [some (.ref 27)]) (S' := [.int (0 : Int32), .int (0 : Int32), .ref 60, .ref 60, .ref 27]) (h' := _) rfl ?_
  refine q_is (i' := 0) (n := 9) rfl rfl rfl (by decide) rfl rfl ?_
  refine k_n 3 (pc' := 279) (L' := [some (.ref 27)]) (S' := [.int (5 : Int32), .int (1 : Int32), .ref 60, .ref 60, .ref 27]) (h' := _) rfl ?_
  refine q_is (i' := 1) (n := 9) rfl rfl rfl (by decide) rfl rfl ?_
  refine k_n 3 (pc' := 284) (L' := [some (.ref 27)]) (S' := [.int (10 : Int32), .int (2 : Int32), .ref 60, .ref 60, .ref 27]) (h' := _) rfl ?_
  refine q_is (i' := 2) (n := 9) rfl rfl rfl (by decide) rfl rfl ?_
  refine k_n 3 (pc' := 289) (L' := [some (.ref 27)]) (S' := [.int (14 : Int32), .int (3 : Int32), .ref 60, .ref 60, .ref 27]) (h' := _) rfl ?_
  refine q_is (i' := 3) (n := 9) rfl rfl rfl (by decide) rfl rfl ?_
  refine k_n 3 (pc' := 294) (L' := [some (.ref 27)]) (S' := [.int (19 : Int32), .int (4 : Int32), .ref 60, .ref 60, .ref 27]) (h' := _) rfl ?_
  refine q_is (i' := 4) (n := 9) rfl rfl rfl (by decide) rfl rfl ?_
  refine k_n 3 (pc' := 299) (L' := [some (.ref 27)]) (S' := [.int (23 : Int32), .int (5 : Int32), .ref 60, .ref 60, .ref 27]) (h' := _) rfl ?_
  refine q_is (i' := 5) (n := 9) rfl rfl rfl (by decide) rfl rfl ?_
  refine k_n 3 (pc' := 305) (L' := [some (.ref 27)]) (S' := [.int (27 : Int32), .int (6 : Int32), .ref 60, .ref 60, .ref 27]) (h' := _) rfl ?_
  refine q_is (i' := 6) (n := 9) rfl rfl rfl (by decide) rfl rfl ?_
  refine k_n 3 (pc' := 311) (L' := [some (.ref 27)]) (S' := [.int (33 : Int32), .int (7 : Int32), .ref 60, .ref 60, .ref 27]) (h' := _) rfl ?_
  refine q_is (i' := 7) (n := 9) rfl rfl rfl (by decide) rfl rfl ?_
  refine k_n 3 (pc' := 317) (L' := [some (.ref 27)]) (S' := [.int (37 : Int32), .int (8 : Int32), .ref 60, .ref 60, .ref 27]) (h' := _) rfl ?_
  refine q_is (i' := 8) (n := 9) rfl rfl rfl (by decide) rfl rfl ?_
  refine q_pR rfl rfl ?_
  refine k_n 2 (pc' := 324) (L' := [some (.ref 27)]) (S' := [.int (37 : Int32), .ref 27]) (h' := _) rfl ?_
  refine q_na (m := 37) rfl (by decide) rfl rfl rfl rfl ?_
  refine k_n 3 (pc' := 330) (L' := [some (.ref 27)]) (S' := [.int (115 : Int32), .int (0 : Int32), .ref 61, .ref 61, .ref 27]) (h' := _) rfl ?_
  refine q_is (i' := 0) (n := 37) rfl rfl rfl (by decide) rfl rfl ?_
  refine k_n 3 (pc' := 335) (L' := [some (.ref 27)]) (S' := [.int (104 : Int32), .int (1 : Int32), .ref 61, .ref 61, .ref 27]) (h' := _) rfl ?_
  refine q_is (i' := 1) (n := 37) rfl rfl rfl (by decide) rfl rfl ?_
  refine k_n 3 (pc' := 340) (L' := [some (.ref 27)]) (S' := [.int (97 : Int32), .int (2 : Int32), .ref 61, .ref 61, .ref 27]) (h' := _) rfl ?_
  refine q_is (i' := 2) (n := 37) rfl rfl rfl (by decide) rfl rfl ?_
  refine k_n 3 (pc' := 345) (L' := [some (.ref 27)]) (S' := [.int (114 : Int32), .int (3 : Int32), .ref 61, .ref 61, .ref 27]) (h' := _) rfl ?_
  refine q_is (i' := 3) (n := 37) rfl rfl rfl (by decide) rfl rfl ?_
  refine k_n 3 (pc' := 350) (L' := [some (.ref 27)]) (S' := [.int (101 : Int32), .int (4 : Int32), .ref 61, .ref 61, .ref 27]) (h' := _) rfl ?_
  refine q_is (i' := 4) (n := 37) rfl rfl rfl (by decide) rfl rfl ?_
  refine k_n 3 (pc' := 355) (L' := [some (.ref 27)]) (S' := [.int (102 : Int32), .int (5 : Int32), .ref 61, .ref 61, .ref 27]) (h' := _) rfl ?_
  refine q_is (i' := 5) (n := 37) rfl rfl rfl (by decide) rfl rfl ?_
  refine k_n 3 (pc' := 361) (L' := [some (.ref 27)]) (S' := [.int (105 : Int32), .int (6 : Int32), .ref 61, .ref 61, .ref 27]) (h' := _) rfl ?_
  refine q_is (i' := 6) (n := 37) rfl rfl rfl (by decide) rfl rfl ?_
  refine k_n 3 (pc' := 367) (L' := [some (.ref 27)]) (S' := [.int (120 : Int32), .int (7 : Int32), .ref 61, .ref 61, .ref 27]) (h' := _) rfl ?_
  refine q_is (i' := 7) (n := 37) rfl rfl rfl (by decide) rfl rfl ?_
  refine k_n 3 (pc' := 373) (L' := [some (.ref 27)]) (S' := [.int (101 : Int32), .int (8 : Int32), .ref 61, .ref 61, .ref 27]) (h' := _) rfl ?_
  refine q_is (i' := 8) (n := 37) rfl rfl rfl (by decide) rfl rfl ?_
  refine k_n 3 (pc' := 379) (L' := [some (.ref 27)]) (S' := [.int (100 : Int32), .int (9 : Int32), .ref 61, .ref 61, .ref 27]) (h' := _) rfl ?_
  refine q_is (i' := 9) (n := 37) rfl rfl rfl (by decide) rfl rfl ?_
  refine k_n 3 (pc' := 385) (L' := [some (.ref 27)]) (S' := [.int (115 : Int32), .int (10 : Int32), .ref 61, .ref 61, .ref 27]) (h' := _) rfl ?_
  refine q_is (i' := 10) (n := 37) rfl rfl rfl (by decide) rfl rfl ?_
  refine k_n 3 (pc' := 391) (L' := [some (.ref 27)]) (S' := [.int (116 : Int32), .int (11 : Int32), .ref 61, .ref 61, .ref 27]) (h' := _) rfl ?_
  refine q_is (i' := 11) (n := 37) rfl rfl rfl (by decide) rfl rfl ?_
  refine k_n 3 (pc' := 397) (L' := [some (.ref 27)]) (S' := [.int (111 : Int32), .int (12 : Int32), .ref 61, .ref 61, .ref 27]) (h' := _) rfl ?_
  refine q_is (i' := 12) (n := 37) rfl rfl rfl (by decide) rfl rfl ?_
  refine k_n 3 (pc' := 403) (L' := [some (.ref 27)]) (S' := [.int (112 : Int32), .int (13 : Int32), .ref 61, .ref 61, .ref 27]) (h' := _) rfl ?_
  refine q_is (i' := 13) (n := 37) rfl rfl rfl (by decide) rfl rfl ?_
  refine k_n 3 (pc' := 409) (L' := [some (.ref 27)]) (S' := [.int (97 : Int32), .int (14 : Int32), .ref 61, .ref 61, .ref 27]) (h' := _) rfl ?_
  refine q_is (i' := 14) (n := 37) rfl rfl rfl (by decide) rfl rfl ?_
  refine k_n 3 (pc' := 415) (L' := [some (.ref 27)]) (S' := [.int (103 : Int32), .int (15 : Int32), .ref 61, .ref 61, .ref 27]) (h' := _) rfl ?_
  refine q_is (i' := 15) (n := 37) rfl rfl rfl (by decide) rfl rfl ?_
  refine k_n 3 (pc' := 421) (L' := [some (.ref 27)]) (S' := [.int (97 : Int32), .int (16 : Int32), .ref 61, .ref 61, .ref 27]) (h' := _) rfl ?_
  refine q_is (i' := 16) (n := 37) rfl rfl rfl (by decide) rfl rfl ?_
  refine k_n 3 (pc' := 427) (L' := [some (.ref 27)]) (S' := [.int (105 : Int32), .int (17 : Int32), .ref 61, .ref 61, .ref 27]) (h' := _) rfl ?_
  refine q_is (i' := 17) (n := 37) rfl rfl rfl (by decide) rfl rfl ?_
  refine k_n 3 (pc' := 433) (L' := [some (.ref 27)]) (S' := [.int (110 : Int32), .int (18 : Int32), .ref 61, .ref 61, .ref 27]) (h' := _) rfl ?_
  refine q_is (i' := 18) (n := 37) rfl rfl rfl (by decide) rfl rfl ?_
  refine k_n 3 (pc' := 439) (L' := [some (.ref 27)]) (S' := [.int (112 : Int32), .int (19 : Int32), .ref 61, .ref 61, .ref 27]) (h' := _) rfl ?_
  refine q_is (i' := 19) (n := 37) rfl rfl rfl (by decide) rfl rfl ?_
  refine k_n 3 (pc' := 445) (L' := [some (.ref 27)]) (S' := [.int (97 : Int32), .int (20 : Int32), .ref 61, .ref 61, .ref 27]) (h' := _) rfl ?_
  refine q_is (i' := 20) (n := 37) rfl rfl rfl (by decide) rfl rfl ?_
  refine k_n 3 (pc' := 451) (L' := [some (.ref 27)]) (S' := [.int (114 : Int32), .int (21 : Int32), .ref 61, .ref 61, .ref 27]) (h' := _) rfl ?_
  refine q_is (i' := 21) (n := 37) rfl rfl rfl (by decide) rfl rfl ?_
  refine k_n 3 (pc' := 457) (L' := [some (.ref 27)]) (S' := [.int (116 : Int32), .int (22 : Int32), .ref 61, .ref 61, .ref 27]) (h' := _) rfl ?_
  refine q_is (i' := 22) (n := 37) rfl rfl rfl (by decide) rfl rfl ?_
  refine k_n 3 (pc' := 463) (L' := [some (.ref 27)]) (S' := [.int (119 : Int32), .int (23 : Int32), .ref 61, .ref 61, .ref 27]) (h' := _) rfl ?_
  refine q_is (i' := 23) (n := 37) rfl rfl rfl (by decide) rfl rfl ?_
  refine k_n 3 (pc' := 469) (L' := [some (.ref 27)]) (S' := [.int (105 : Int32), .int (24 : Int32), .ref 61, .ref 61, .ref 27]) (h' := _) rfl ?_
  refine q_is (i' := 24) (n := 37) rfl rfl rfl (by decide) rfl rfl ?_
  refine k_n 3 (pc' := 475) (L' := [some (.ref 27)]) (S' := [.int (100 : Int32), .int (25 : Int32), .ref 61, .ref 61, .ref 27]) (h' := _) rfl ?_
  refine q_is (i' := 25) (n := 37) rfl rfl rfl (by decide) rfl rfl ?_
  refine k_n 3 (pc' := 481) (L' := [some (.ref 27)]) (S' := [.int (101 : Int32), .int (26 : Int32), .ref 61, .ref 61, .ref 27]) (h' := _) rfl ?_
  refine q_is (i' := 26) (n := 37) rfl rfl rfl (by decide) rfl rfl ?_
  refine k_n 3 (pc' := 487) (L' := [some (.ref 27)]) (S' := [.int (110 : Int32), .int (27 : Int32), .ref 61, .ref 61, .ref 27]) (h' := _) rfl ?_
  refine q_is (i' := 27) (n := 37) rfl rfl rfl (by decide) rfl rfl ?_
  refine k_n 3 (pc' := 493) (L' := [some (.ref 27)]) (S' := [.int (97 : Int32), .int (28 : Int32), .ref 61, .ref 61, .ref 27]) (h' := _) rfl ?_
  refine q_is (i' := 28) (n := 37) rfl rfl rfl (by decide) rfl rfl ?_
  refine k_n 3 (pc' := 499) (L' := [some (.ref 27)]) (S' := [.int (114 : Int32), .int (29 : Int32), .ref 61, .ref 61, .ref 27]) (h' := _) rfl ?_
  refine q_is (i' := 29) (n := 37) rfl rfl rfl (by decide) rfl rfl ?_
  refine k_n 3 (pc' := 505) (L' := [some (.ref 27)]) (S' := [.int (114 : Int32), .int (30 : Int32), .ref 61, .ref 61, .ref 27]) (h' := _) rfl ?_
  refine q_is (i' := 30) (n := 37) rfl rfl rfl (by decide) rfl rfl ?_
  refine k_n 3 (pc' := 511) (L' := [some (.ref 27)]) (S' := [.int (111 : Int32), .int (31 : Int32), .ref 61, .ref 61, .ref 27]) (h' := _) rfl ?_
  refine q_is (i' := 31) (n := 37) rfl rfl rfl (by decide) rfl rfl ?_
  refine k_n 3 (pc' := 517) (L' := [some (.ref 27)]) (S' := [.int (119 : Int32), .int (32 : Int32), .ref 61, .ref 61, .ref 27]) (h' := _) rfl ?_
  refine q_is (i' := 32) (n := 37) rfl rfl rfl (by decide) rfl rfl ?_
  refine k_n 3 (pc' := 523) (L' := [some (.ref 27)]) (S' := [.int (102 : Int32), .int (33 : Int32), .ref 61, .ref 61, .ref 27]) (h' := _) rfl ?_
  refine q_is (i' := 33) (n := 37) rfl rfl rfl (by decide) rfl rfl ?_
  refine k_n 3 (pc' := 529) (L' := [some (.ref 27)]) (S' := [.int (114 : Int32), .int (34 : Int32), .ref 61, .ref 61, .ref 27]) (h' := _) rfl ?_
  refine q_is (i' := 34) (n := 37) rfl rfl rfl (by decide) rfl rfl ?_
  refine k_n 3 (pc' := 535) (L' := [some (.ref 27)]) (S' := [.int (111 : Int32), .int (35 : Int32), .ref 61, .ref 61, .ref 27]) (h' := _) rfl ?_
  refine q_is (i' := 35) (n := 37) rfl rfl rfl (by decide) rfl rfl ?_
  refine k_n 3 (pc' := 541) (L' := [some (.ref 27)]) (S' := [.int (109 : Int32), .int (36 : Int32), .ref 61, .ref 61, .ref 27]) (h' := _) rfl ?_
  refine q_is (i' := 36) (n := 37) rfl rfl rfl (by decide) rfl rfl ?_
  refine q_pR rfl rfl ?_
  refine k_n 2 (pc' := 548) (L' := [some (.ref 27)]) (S' := [.int (16 : Int32), .ref 27]) (h' := _) rfl ?_
  refine q_na (m := 16) rfl (by decide) rfl rfl rfl rfl ?_
  refine q_pR rfl rfl ?_
  refine k_n 2 (pc' := 556) (L' := [some (.ref 27)]) (S' := [.int (16 : Int32), .ref 27]) (h' := _) rfl ?_
  refine q_na (m := 16) rfl (by decide) rfl rfl rfl rfl ?_
  refine q_pR rfl rfl ?_
  refine k_n 2 (pc' := 564) (L' := [some (.ref 27)]) (S' := [.int (16 : Int32), .ref 27]) (h' := _) rfl ?_
  refine q_na (m := 16) rfl (by decide) rfl rfl rfl rfl ?_
  refine q_pR rfl rfl ?_
  refine k_n 2 (pc' := 572) (L' := [some (.ref 27)]) (S' := [.int (16 : Int32), .ref 27]) (h' := _) rfl ?_
  refine q_na (m := 16) rfl (by decide) rfl rfl rfl rfl ?_
  refine q_pR rfl rfl ?_
  refine k_n 2 (pc' := 580) (L' := [some (.ref 27)]) (S' := [.int (16 : Int32), .ref 27]) (h' := _) rfl ?_
  refine q_na (m := 16) rfl (by decide) rfl rfl rfl rfl ?_
  refine q_pR rfl rfl ?_
  refine k_n 2 (pc' := 588) (L' := [some (.ref 27)]) (S' := [.int (16 : Int32), .ref 27]) (h' := _) rfl ?_
  refine q_na (m := 16) rfl (by decide) rfl rfl rfl rfl ?_
  refine q_pR rfl rfl ?_
  refine k_n 2 (pc' := 596) (L' := [some (.ref 27)]) (S' := [.int (16 : Int32), .ref 27]) (h' := _) rfl ?_
  refine q_na (m := 16) rfl (by decide) rfl rfl rfl rfl ?_
  refine q_pR rfl rfl ?_
  refine k_n 2 (pc' := 604) (L' := [some (.ref 27)]) (S' := [.int (16 : Int32), .ref 27]) (h' := _) rfl ?_
  refine q_na (m := 16) rfl (by decide) rfl rfl rfl rfl ?_
  refine q_pR rfl rfl ?_
  refine k_n 2 (pc' := 612) (L' := [some (.ref 27)]) (S' := [.int (60 : Int32), .ref 27]) (h' := _) rfl ?_
  refine q_na (m := 60) rfl (by decide) rfl rfl rfl rfl ?_
  refine q_pR rfl rfl ?_
  refine k_n 2 (pc' := 620) (L' := [some (.ref 27)]) (S' := [.int (60 : Int32), .ref 27]) (h' := _) rfl ?_
  refine q_na (m := 60) rfl (by decide) rfl rfl rfl rfl ?_
  refine q_pR rfl rfl ?_
  refine k_n 2 (pc' := 628) (L' := [some (.ref 27)]) (S' := [.int (60 : Int32), .ref 27]) (h' := _) rfl ?_
  refine q_na (m := 60) rfl (by decide) rfl rfl rfl rfl ?_
  refine q_pR rfl rfl ?_
  refine k_n 2 (pc' := 636) (L' := [some (.ref 27)]) (S' := [.int (60 : Int32), .ref 27]) (h' := _) rfl ?_
  refine q_na (m := 60) rfl (by decide) rfl rfl rfl rfl ?_
  refine q_pR rfl rfl ?_
  refine k_n 2 (pc' := 644) (L' := [some (.ref 27)]) (S' := [.int (60 : Int32), .ref 27]) (h' := _) rfl ?_
  refine q_na (m := 60) rfl (by decide) rfl rfl rfl rfl ?_
  refine q_pR rfl rfl ?_
  refine k_n 2 (pc' := 652) (L' := [some (.ref 27)]) (S' := [.int (60 : Int32), .ref 27]) (h' := _) rfl ?_
  refine q_na (m := 60) rfl (by decide) rfl rfl rfl rfl ?_
  refine q_pR rfl rfl ?_
  refine k_n 2 (pc' := 660) (L' := [some (.ref 27)]) (S' := [.int (60 : Int32), .ref 27]) (h' := _) rfl ?_
  refine q_na (m := 60) rfl (by decide) rfl rfl rfl rfl ?_
  refine q_pR rfl rfl ?_
  refine k_n 2 (pc' := 668) (L' := [some (.ref 27)]) (S' := [.int (60 : Int32), .ref 27]) (h' := _) rfl ?_
  refine q_na (m := 60) rfl (by decide) rfl rfl rfl rfl ?_
  refine q_pR rfl rfl ?_
  refine k_n 2 (pc' := 676) (L' := [some (.ref 27)]) (S' := [.int (60 : Int32), .ref 27]) (h' := _) rfl ?_
  refine q_na (m := 60) rfl (by decide) rfl rfl rfl rfl ?_
  refine q_pR rfl rfl ?_
  refine k_n 2 (pc' := 684) (L' := [some (.ref 27)]) (S' := [.int (60 : Int32), .ref 27]) (h' := _) rfl ?_
  refine q_na (m := 60) rfl (by decide) rfl rfl rfl rfl ?_
  refine q_pR rfl rfl ?_
  refine k_n 2 (pc' := 692) (L' := [some (.ref 27)]) (S' := [.int (60 : Int32), .ref 27]) (h' := _) rfl ?_
  refine q_na (m := 60) rfl (by decide) rfl rfl rfl rfl ?_
  refine q_pR rfl rfl ?_
  refine k_n 2 (pc' := 700) (L' := [some (.ref 27)]) (S' := [.int (60 : Int32), .ref 27]) (h' := _) rfl ?_
  refine q_na (m := 60) rfl (by decide) rfl rfl rfl rfl ?_
  refine q_pR rfl rfl ?_
  refine k_n 2 (pc' := 708) (L' := [some (.ref 27)]) (S' := [.int (60 : Int32), .ref 27]) (h' := _) rfl ?_
  refine q_na (m := 60) rfl (by decide) rfl rfl rfl rfl ?_
  refine q_pR rfl rfl ?_
  refine k_n 2 (pc' := 716) (L' := [some (.ref 27)]) (S' := [.int (60 : Int32), .ref 27]) (h' := _) rfl ?_
  refine q_na (m := 60) rfl (by decide) rfl rfl rfl rfl ?_
  refine q_pR rfl rfl ?_
  refine k_n 2 (pc' := 724) (L' := [some (.ref 27)]) (S' := [.int (6 : Int32), .ref 27]) (h' := _) rfl ?_
  refine q_na (m := 6) rfl (by decide) rfl rfl rfl rfl ?_
  refine q_pR rfl rfl ?_
  refine k_n 2 (pc' := 732) (L' := [some (.ref 27)]) (S' := [.int (6 : Int32), .ref 27]) (h' := _) rfl ?_
  refine q_na (m := 6) rfl (by decide) rfl rfl rfl rfl ?_
  refine q_pR rfl rfl ?_
  refine k_n 2 (pc' := 739) (L' := [some (.ref 27)]) (S' := [.int (4 : Int32), .ref 27]) (h' := _) rfl ?_
  refine q_na (m := 4) rfl (by decide) rfl rfl rfl rfl ?_
  refine k_n 3 (pc' := 745) (L' := [some (.ref 27)]) (S' := [.int (-4 : Int32), .int (0 : Int32), .ref 86, .ref 86, .ref 27]) (h' := _) rfl ?_
  refine q_is (i' := 0) (n := 4) rfl rfl rfl (by decide) rfl rfl ?_
  refine k_n 3 (pc' := 750) (L' := [some (.ref 27)]) (S' := [.int (-4 : Int32), .int (1 : Int32), .ref 86, .ref 86, .ref 27]) (h' := _) rfl ?_
  refine q_is (i' := 1) (n := 4) rfl rfl rfl (by decide) rfl rfl ?_
  refine k_n 3 (pc' := 755) (L' := [some (.ref 27)]) (S' := [.int (-4 : Int32), .int (2 : Int32), .ref 86, .ref 86, .ref 27]) (h' := _) rfl ?_
  refine q_is (i' := 2) (n := 4) rfl rfl rfl (by decide) rfl rfl ?_
  refine k_n 3 (pc' := 760) (L' := [some (.ref 27)]) (S' := [.int (-4 : Int32), .int (3 : Int32), .ref 86, .ref 86, .ref 27]) (h' := _) rfl ?_
  refine q_is (i' := 3) (n := 4) rfl rfl rfl (by decide) rfl rfl ?_
  refine q_pR rfl rfl ?_
  refine k_n 2 (pc' := 766) (L' := [some (.ref 27)]) (S' := [.int (4 : Int32), .ref 27]) (h' := _) rfl ?_
  refine q_na (m := 4) rfl (by decide) rfl rfl rfl rfl ?_
  refine q_pR rfl rfl ?_
  refine k_n 2 (pc' := 775) (L' := [some (.ref 27)]) (S' := [.int (192 : Int32), .ref 27]) (h' := _) rfl ?_
  refine q_na (m := 192) rfl (by decide) rfl rfl rfl rfl ?_
  refine q_pR rfl rfl ?_
  refine k_r (v := ()) rfl rfl rfl ?_
  refine k_n 3 (pc' := 18) (L' := [some (.retAddr 19), some (.ref 0), some (.ref 27), some (.int (0 : Int32))]) (S' := []) (h' := _) rfl ?_
  exact H
