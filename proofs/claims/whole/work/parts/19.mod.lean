/-! the reference's part of the heap: its object is 27, its rows 28 to 88; g k i: the int at place i of k -/
abbrev a_xs : Nat := 28
abbrev a_ys : Nat := 29
abbrev a_depths : Nat := 30
abbrev a_coins : Nat := 31
abbrev a_waters : Nat := 32
abbrev a_wets : Nat := 33
abbrev a_paid : Nat := 34
abbrev a_shareOf : Nat := 35
abbrev a_wasStrokes : Nat := 36
abbrev a_wasCoal : Nat := 37
abbrev a_wasWet : Nat := 38
abbrev a_wasEngine : Nat := 39
abbrev a_wasDepth : Nat := 40
abbrev a_wasCoin : Nat := 41
abbrev a_trialS : Nat := 42
abbrev a_trialL : Nat := 43
abbrev a_trialC : Nat := 44
abbrev a_trialDepth : Nat := 45
abbrev a_mineOf : Nat := 46
abbrev a_kindOf : Nat := 47
abbrev a_loads : Nat := 48
abbrev a_duties : Nat := 49
abbrev a_mosts : Nat := 50
abbrev a_partsOf : Nat := 51
abbrev a_ages : Nat := 52
abbrev a_boxes : Nat := 53
abbrev a_stuck : Nat := 54
abbrev a_stopped : Nat := 55
abbrev a_strokesOf : Nat := 56
abbrev a_coalOf : Nat := 57
abbrev a_cameOn : Nat := 58
abbrev a_tape : Nat := 59
abbrev a_ends : Nat := 60
abbrev a_letters : Nat := 61
abbrev a_lineWhat : Nat := 62
abbrev a_lineOf : Nat := 63
abbrev a_lineFrom : Nat := 64
abbrev a_lineValue : Nat := 65
abbrev a_newWhat : Nat := 66
abbrev a_newOf : Nat := 67
abbrev a_newFrom : Nat := 68
abbrev a_newValue : Nat := 69
abbrev a_readMine : Nat := 70
abbrev a_readEngine : Nat := 71
abbrev a_readMonth : Nat := 72
abbrev a_readShown : Nat := 73
abbrev a_readMonths : Nat := 74
abbrev a_readLeast : Nat := 75
abbrev a_readMost : Nat := 76
abbrev a_readCoal : Nat := 77
abbrev a_readCoin : Nat := 78
abbrev a_readDepth : Nat := 79
abbrev a_readS : Nat := 80
abbrev a_readL : Nat := 81
abbrev a_readC : Nat := 82
abbrev a_readTrialDepth : Nat := 83
abbrev a_way : Nat := 84
abbrev a_bestWay : Nat := 85
abbrev a_lanes : Nat := 86
abbrev a_lengths : Nat := 87
abbrev a_cells : Nat := 88
abbrev f_now : Nat := 0
abbrev f_mines : Nat := 1
abbrev f_engines : Nat := 20
abbrev f_taped : Nat := 35
abbrev f_fault : Nat := 36
abbrev f_wrong : Nat := 37
abbrev f_wrongAt : Nat := 38
abbrev f_at : Nat := 39
abbrev f_place : Nat := 40
abbrev f_token : Nat := 41
abbrev f_value : Nat := 42
abbrev f_lines : Nat := 45
abbrev f_newLines : Nat := 50
abbrev f_readings : Nat := 55
abbrev f_payments : Nat := 70
abbrev f_torn : Nat := 76
def m_lens : List Nat := [6, 6, 6, 6, 72, 6, 6, 48, 360, 360, 360, 360, 360, 360, 6, 6, 6, 6, 12, 12, 12, 12, 12, 12, 12, 12, 12, 12, 12, 12, 12, 200, 9, 37, 16, 16, 16, 16, 16, 16, 16, 16, 60, 60, 60, 60, 60, 60, 60, 60, 60, 60, 60, 60, 60, 60, 6, 6, 4, 4, 192]
def m_refs : List (Nat × Nat) := [(2, 28), (3, 29), (4, 30), (5, 31), (6, 32), (7, 33), (8, 34), (9, 35), (10, 36), (11, 37), (12, 38), (13, 39), (14, 40), (15, 41), (16, 42), (17, 43), (18, 44), (19, 45), (21, 46), (22, 47), (23, 48), (24, 49), (25, 50), (26, 51), (27, 52), (28, 53), (29, 54), (30, 55), (31, 56), (32, 57), (33, 58), (34, 59), (43, 60), (44, 61), (46, 62), (47, 63), (48, 64), (49, 65), (51, 66), (52, 67), (53, 68), (54, 69), (56, 70), (57, 71), (58, 72), (59, 73), (60, 74), (61, 75), (62, 76), (63, 77), (64, 78), (65, 79), (66, 80), (67, 81), (68, 82), (69, 83), (71, 84), (72, 85), (73, 86), (74, 87), (75, 88)]
def m_tag (k : Nat) : Nat := bif Nat.beq k 54 || Nat.beq k 55 then 101 else 100
def m_len (k : Nat) : Nat := m_lens.getD (k - 28) 0
abbrev zG : Type := Nat → Nat → Int32
def MW (h : zH) : Prop := z_tg h 27 = 12 ∧ (∀ k, 28 ≤ k → k < 89 → z_tg h k = m_tag k ∧ z_ln h k = m_len k) ∧ ∀ q ∈ m_refs, z_rv h 27 q.1 = some q.2
/-- a long, told as a row of ints -/
def z_enc (x : Int64) : Nat → Int32 := fun i => if i = 0 then Int32.ofInt (x.toInt / 4294967296) else Int32.ofInt (x.toInt % 4294967296 - 2147483648)
noncomputable def z_dec (r : Nat → Int32) : Int64 := @dite _ (∃ x, z_enc x = r) (Classical.propDecidable _) (fun e => Classical.choose e) (fun _ => 0)
theorem z_enc_inj {x y : Int64} (h : z_enc x = z_enc y) : x = y := by
  have h0 := congrFun h 0
  have h1 := congrFun h 1
  unfold z_enc at h0 h1
  rw [if_pos rfl, if_pos rfl] at h0
  rw [if_neg (by decide), if_neg (by decide)] at h1
  have bx := Int64.le_toInt x
  have bx2 := Int64.toInt_lt x
  have bz := Int64.le_toInt y
  have bz2 := Int64.toInt_lt y
  have e0 := congrArg Int32.toInt h0
  have e1 := congrArg Int32.toInt h1
  rw [Int32.toInt_ofInt_of_le (by omega) (by omega), Int32.toInt_ofInt_of_le (by omega) (by omega)] at e0 e1
  exact Int64.toInt_inj.mp (by omega)
theorem z_dec_enc (x : Int64) : z_dec (z_enc x) = x := by
  have e : ∃ y, z_enc y = z_enc x := ⟨x, rfl⟩
  unfold z_dec
  rw [dif_pos e]
  exact z_enc_inj (Classical.choose_spec e)
/-- the reference's rows that no call writes: ends and letters of its words -/
def m_en (i : Nat) : Int32 := [0, 5, 10, 14, 19, 23, 27, 33, 37].getD i 0
def m_le (i : Nat) : Int32 := [115, 104, 97, 114, 101, 102, 105, 120, 101, 100, 115, 116, 111, 112, 97, 103, 97, 105, 110, 112, 97, 114, 116, 119, 105, 100, 101, 110, 97, 114, 114, 111, 119, 102, 114, 111, 109].getD i 0
def Cs (g : zG) : Prop := (∀ i, i < 9 → g 60 i = m_en i) ∧ ∀ i, i < 37 → g 61 i = m_le i
def RM (g : zG) (h : zH) : Prop := MW h ∧ (∀ k, 27 ≤ k → k < 89 → z_iv h k = g k) ∧ g 26 = z_enc (z_lv h 27 70) ∧ Cs g
theorem Cs.eq {g g2 : zG} (c : Cs g) (e1 : g2 60 = g 60) (e2 : g2 61 = g 61) : Cs g2 := by
  unfold Cs
  rw [e1, e2]
  exact c
/-- what the reference leaves as it is -/
def Fr (h h2 : zH) : Prop := z_nx h2 = z_nx h ∧ z_us h2 = z_us h ∧ z_tg h2 = z_tg h ∧ z_ln h2 = z_ln h ∧ z_rv h2 = z_rv h ∧ ∀ k, (k < 27 ∨ 89 ≤ k) → z_iv h2 k = z_iv h k
theorem Fr.refl (h : zH) : Fr h h := ⟨rfl, rfl, rfl, rfl, rfl, fun _ _ => rfl⟩
theorem Fr.trans {a b c : zH} (h1 : Fr a b) (h2 : Fr b c) : Fr a c := by
  obtain ⟨p1, p2, p3, p4, p5, p6⟩ := h1
  obtain ⟨q1, q2, q3, q4, q5, q6⟩ := h2
  exact ⟨q1.trans p1, q2.trans p2, q3.trans p3, q4.trans p4, q5.trans p5, fun k hk => (q6 k hk).trans (p6 k hk)⟩
theorem Fr.sI (h : zH) {a i : Nat} {x : Int32} (h1 : 27 ≤ a) (h2 : a < 89) : Fr h (z_sI h a i x) := ⟨rfl, rfl, rfl, rfl, rfl, fun k hk => z_up2_ne (by omega)⟩
theorem Fr.sL (h : zH) {a i : Nat} {x : Int64} : Fr h (z_sL h a i x) := ⟨rfl, rfl, rfl, rfl, rfl, fun k hk => rfl⟩
theorem RM.sI {g : zG} {h : zH} {a i : Nat} {x : Int32} (ha : 27 ≤ a) (hc : ¬ a = 60 ∧ ¬ a = 61) (hR : RM g h) : RM (z_up2 g a i x) (z_sI h a i x) := by
  refine ⟨hR.1, fun k h1 h2 => ?_, (z_up2_ne (by omega)).trans hR.2.2.1, hR.2.2.2.eq (z_up2_ne (by omega)) (z_up2_ne (by omega))⟩
  funext j
  show z_up2 (z_iv h) a i x k j = z_up2 g a i x k j
  unfold z_up2
  rw [hR.2.1 k h1 h2]
theorem RM.sL {g : zG} {h : zH} {x : Int64} (hR : RM g h) : RM (z_row g 26 (z_enc x)) (z_sL h 27 70 x) := by
  refine ⟨hR.1, fun k h1 h2 => (hR.2.1 k h1 h2).trans (z_row_ne (by omega)).symm, z_row_at.trans ?_, hR.2.2.2.eq (z_row_ne (by omega)) (z_row_ne (by omega))⟩
  exact congrArg z_enc (show x = z_up2 (z_lv h) 27 70 x 27 70 from z_up2_at.symm)
def MG {α : Type} (p : Option Value → Option α) (y pc : Nat) (L : zL) (S : zS) (g : zG) (Q : α → zG → Prop) : Prop := ∀ h, RM g h → KG p y pc L S h (fun v h2 => ∃ g2, RM g2 h2 ∧ Fr h h2 ∧ Q v g2)
def MK {α : Type} (p : Option Value → Option α) (y : Nat) (A : zS) (g : zG) (Q : α → zG → Prop) : Prop := ∀ h, RM g h → KK p y A h (fun v h2 => ∃ g2, RM g2 h2 ∧ Fr h h2 ∧ Q v g2)
theorem MK.mono {α : Type} {p : Option Value → Option α} {y : Nat} {A : zS} {g : zG} {Q R : α → zG → Prop} (k : MK p y A g Q) (q : ∀ v g2, Q v g2 → R v g2) : MK p y A g R :=
  fun h hR => (k h hR).mono fun v h2 ⟨g2, a, b, c⟩ => ⟨g2, a, b, q v g2 c⟩
theorem MG.mono {α : Type} {p : Option Value → Option α} {y pc : Nat} {L : zL} {S : zS} {g : zG} {Q R : α → zG → Prop} (k : MG p y pc L S g Q) (q : ∀ v g2, Q v g2 → R v g2) : MG p y pc L S g R :=
  fun h hR => (k h hR).mono fun v h2 ⟨g2, a, b, c⟩ => ⟨g2, a, b, q v g2 c⟩
theorem m_cs {q : Nat} (hw : (Nat.beq q 60 || Nat.beq q 61) = false) : ¬ q = 60 ∧ ¬ q = 61 := by
  rw [Bool.or_eq_false_iff] at hw
  exact ⟨fun e => by subst e; exact absurd hw.1 (by decide), fun e => by subst e; exact absurd hw.2 (by decide)⟩
section MR
variable {α : Type} {p : Option Value → Option α} {y pc : Nat} {L : zL} {S : zS} {g : zG} {Q : α → zG → Prop}
theorem m_K {A : zS} (e : z_ini y A = L) (k : MG p y 0 L [] g Q) : MK p y A g Q := fun h hR => k_K e (k h hR)
theorem m_n (n : Nat) {pc' : Nat} {L' : zL} {S' : zS} (e : ∀ h, z_itc n y pc L S h = some (pc', L', S', h)) (k : MG p y pc' L' S' g Q) : MG p y pc L S g Q := fun h hR => k_n n (e h) (k h hR)
theorem m_d {c : Prop} [Decidable c] {pc' : Nat} {L' : zL} {S' : zS} (hR : (z_isR (z_c y pc).1 || (z_isC (z_c y pc).1 && Nat.ble 2 (z_c y pc).2.2.1)) = false) (e : ∀ h, z_op (z_c y pc) pc L S h = if c then none else some (pc', L', S', h)) (hc : ¬ c) (k : MG p y pc' L' S' g Q) : MG p y pc L S g Q :=
  fun h hM => k_d hR (e h) hc (k h hM)
theorem m_b {c : Prop} [Decidable c] {pc' pc2 : Nat} {L' L2 : zL} {S' S2 : zS} (hR : (z_isR (z_c y pc).1 || (z_isC (z_c y pc).1 && Nat.ble 2 (z_c y pc).2.2.1)) = false) (e : ∀ h, z_op (z_c y pc) pc L S h = if c then some (pc', L', S', h) else some (pc2, L2, S2, h))
    (kt : c → MG p y pc' L' S' g Q) (kf : ¬ c → MG p y pc2 L2 S2 g Q) : MG p y pc L S g Q := fun h hM => k_b hR (e h) (fun q => kt q h hM) (fun q => kf q h hM)
theorem m_r {r : Option Value} {v : α} (hR : z_isR (z_c y pc).1 = true) (hr : z_ret (z_c y pc).1 (z_rt y) S = some r) (hp : p r = some v) (q : Q v g) : MG p y pc L S g Q := fun h hM => k_r hR hr hp ⟨g, hM, Fr.refl h, q⟩
theorem m_gI {i j : Nat} (e : z_c y pc = (.getfield i, 3, 12, j, 0)) (k : MG p y (pc + 3) L (.int (g 27 j) :: S) g Q) : MG p y pc L (.ref 27 :: S) g Q := fun h hM => by
  have := k h hM
  rw [← hM.2.1 27 (by omega) (by omega)] at this
  exact k_gI e rfl hM.1.1 this
theorem m_gR {i j q : Nat} (e : z_c y pc = (.getfield i, 3, 12, j, 2)) (hq : (j, q) ∈ m_refs) (k : MG p y (pc + 3) L (.ref q :: S) g Q) : MG p y pc L (.ref 27 :: S) g Q := fun h hM => k_gR e hM.1.1 (hM.1.2.2 _ hq) (k h hM)
theorem MG.sI {a i : Nat} {x : Int32} {h : zH} (h1 : 27 ≤ a) (h2 : a < 89) (hc : ¬ a = 60 ∧ ¬ a = 61) (hM : RM g h) (k : MG p y pc L S (z_up2 g a i x) Q) : KG p y pc L S (z_sI h a i x) (fun v h2 => ∃ g2, RM g2 h2 ∧ Fr h h2 ∧ Q v g2) :=
  (k _ (hM.sI h1 hc)).mono fun _ _ ⟨g2, a1, b1, c1⟩ => ⟨g2, a1, (Fr.sI h h1 h2).trans b1, c1⟩
theorem m_pI {i j : Nat} {x : Int32} (e : z_c y pc = (.putfield i, 3, 12, j, 0)) (k : MG p y (pc + 3) L S (z_up2 g 27 j x) Q) : MG p y pc L (.int x :: .ref 27 :: S) g Q := fun h hM => k_pI e hM.1.1 (MG.sI (by omega) (by omega) (by omega) hM k)
theorem m_gL {i : Nat} (e : z_c y pc = (.getfield i, 3, 12, 70, 1)) (k : MG p y (pc + 3) L (.long (z_dec (g 26)) :: S) g Q) : MG p y pc L (.ref 27 :: S) g Q := fun h hM => by
  have := k h hM
  rw [hM.2.2.1, z_dec_enc] at this
  exact k_gL e hM.1.1 this
theorem m_pL {i : Nat} {x : Int64} (e : z_c y pc = (.putfield i, 3, 12, 70, 1)) (k : MG p y (pc + 3) L S (z_row g 26 (z_enc x)) Q) : MG p y pc L (.long x :: .ref 27 :: S) g Q := fun h hM =>
  k_pL e hM.1.1 ((k _ hM.sL).mono fun _ _ ⟨g2, a1, b1, c1⟩ => ⟨g2, a1, (Fr.sL h).trans b1, c1⟩)
theorem m_ia {a b : Nat} {v : Int} {i : Int32} (n : Nat) (e : z_c y pc = (.iaload, 1, a, b, v)) {q : Nat} (hq : (Nat.ble 28 q && Nat.blt q 89 && Nat.beq (m_tag q) 100 && Nat.beq (m_len q) n) = true) (hi : 0 ≤ i.toInt ∧ i.toInt < (n : Int)) (k : MG p y (pc + 1) L (.int (g q (z_ix i)) :: S) g Q) : MG p y pc L (.int i :: .ref q :: S) g Q := fun h hM => by
  simp only [Bool.and_eq_true] at hq
  have q1 := Nat.le_of_ble_eq_true hq.1.1.1
  have q2 := Nat.le_of_ble_eq_true hq.1.1.2
  have := k h hM
  rw [← hM.2.1 q (by omega) q2] at this
  exact k_ia (c := 0) e ((hM.1.2.1 q q1 q2).1.trans (Nat.eq_of_beq_eq_true hq.1.2)) ((hM.1.2.1 q q1 q2).2.trans (Nat.eq_of_beq_eq_true hq.2)) hi this
theorem m_za {a b : Nat} {v : Int} {i : Int32} (n : Nat) (e : z_c y pc = (.baload, 1, a, b, v)) {q : Nat} (hq : (Nat.ble 28 q && Nat.blt q 89 && Nat.beq (m_tag q) 101 && Nat.beq (m_len q) n) = true) (hi : 0 ≤ i.toInt ∧ i.toInt < (n : Int)) (k : MG p y (pc + 1) L (.int (g q (z_ix i)) :: S) g Q) : MG p y pc L (.int i :: .ref q :: S) g Q := fun h hM => by
  simp only [Bool.and_eq_true] at hq
  have q1 := Nat.le_of_ble_eq_true hq.1.1.1
  have q2 := Nat.le_of_ble_eq_true hq.1.1.2
  have := k h hM
  rw [← hM.2.1 q (by omega) q2] at this
  exact k_za e ((hM.1.2.1 q q1 q2).1.trans (Nat.eq_of_beq_eq_true hq.1.2)) ((hM.1.2.1 q q1 q2).2.trans (Nat.eq_of_beq_eq_true hq.2)) hi this
theorem m_is {a b : Nat} {v : Int} {i x : Int32} (n : Nat) (e : z_c y pc = (.iastore, 1, a, b, v)) {q : Nat} (hq : (Nat.ble 28 q && Nat.blt q 89 && Nat.beq (m_tag q) 100 && Nat.beq (m_len q) n) = true)  (hw : (Nat.beq q 60 || Nat.beq q 61) = false) (hi : 0 ≤ i.toInt ∧ i.toInt < (n : Int)) (k : MG p y (pc + 1) L S (z_up2 g q (z_ix i) x) Q) : MG p y pc L (.int x :: .int i :: .ref q :: S) g Q := fun h hM => by
  simp only [Bool.and_eq_true] at hq
  have q1 := Nat.le_of_ble_eq_true hq.1.1.1
  have q2 := Nat.le_of_ble_eq_true hq.1.1.2
  exact k_is e ((hM.1.2.1 q q1 q2).1.trans (Nat.eq_of_beq_eq_true hq.1.2)) ((hM.1.2.1 q q1 q2).2.trans (Nat.eq_of_beq_eq_true hq.2)) hi (MG.sI (by omega) q2 (m_cs hw) hM k)
theorem m_zs {a b : Nat} {v : Int} {i x : Int32} (n : Nat) (e : z_c y pc = (.bastore, 1, a, b, v)) {q : Nat} (hq : (Nat.ble 28 q && Nat.blt q 89 && Nat.beq (m_tag q) 101 && Nat.beq (m_len q) n) = true)  (hw : (Nat.beq q 60 || Nat.beq q 61) = false) (hi : 0 ≤ i.toInt ∧ i.toInt < (n : Int)) (hx : x = 0 ∨ x = 1) (k : MG p y (pc + 1) L S (z_up2 g q (z_ix i) x) Q) : MG p y pc L (.int x :: .int i :: .ref q :: S) g Q := fun h hM => by
  simp only [Bool.and_eq_true] at hq
  have q1 := Nat.le_of_ble_eq_true hq.1.1.1
  have q2 := Nat.le_of_ble_eq_true hq.1.1.2
  exact k_zs e ((hM.1.2.1 q q1 q2).1.trans (Nat.eq_of_beq_eq_true hq.1.2)) ((hM.1.2.1 q q1 q2).2.trans (Nat.eq_of_beq_eq_true hq.2)) hi hx (MG.sI (by omega) q2 (m_cs hw) hM k)
theorem m_rok {t : Nat} {A : zS} {h : zH} (hM : RM g h) (ht : t = 0 ∨ (t = 12 ∧ ∃ B, A = .ref 27 :: B)) : z_rok t h A = true := by
  rcases ht with rfl | ⟨rfl, B, rfl⟩
  · unfold z_rok; rfl
  · exact z_rok_ref hM.1.1
theorem MK.go {β : Type} {p2 : Option Value → Option β} {z : Nat} {A : zS} {h : zH} (hM : RM g h) {F : β → Nat → zL × zS} (pc2 : Nat) (k : MK p2 z A g (fun r g1 => MG p y pc2 (F r 0).1 (F r 0).2 g1 Q)) : KK p2 z A h (fun r h1 => KG p y pc2 (F r 0).1 (F r 0).2 h1 (fun v h2 => ∃ g2, RM g2 h2 ∧ Fr h h2 ∧ Q v g2)) :=
  (k h hM).mono fun _ _ ⟨_, a1, b1, c1⟩ => (c1 _ a1).mono fun _ _ ⟨g3, a2, b2, c2⟩ => ⟨g3, a2, b1.trans b2, c2⟩
theorem m_cI (z n : Nat) {A : zS} {rest : zS} {t : FieldType} (hz : (z_c y pc).2.2.1 = z) (hn : (z_c y pc).2.2.2.1 = n) (hR : (z_isR (z_c y pc).1 || !z_isC (z_c y pc).1 || !Nat.ble 2 z) = false) (hA : z_arg n S = A) (h1 : (Nat.ble n S.length && Nat.ble (z_wt (S.drop n)) 8 && Nat.ble (z_lcs A).length (z_ml z)) = true) (h2 : z_rc z = 0 ∨ (z_rc z = 12 ∧ ∃ B, A = .ref 27 :: B)) (hr : S.drop n = rest) (hT : z_rt z = some t) (ht : (match t with | .long => false | .object _ => false | _ => true) = true)
    (k : MK z_pI z A g (fun r g1 => MG p y (pc + 3) L (.int r :: rest) g1 Q)) : MG p y pc L S g Q := fun h hM =>
  k_cI z n hz hn hR hA h1 (m_rok hM h2) hr (z_tyI hT ht) (MK.go (F := fun r _ => (L, .int r :: rest)) hM (pc + 3) k)
theorem m_cL (z n : Nat) {A : zS} {rest : zS} (hz : (z_c y pc).2.2.1 = z) (hn : (z_c y pc).2.2.2.1 = n) (hR : (z_isR (z_c y pc).1 || !z_isC (z_c y pc).1 || !Nat.ble 2 z) = false) (hA : z_arg n S = A) (h1 : (Nat.ble n S.length && Nat.ble (z_wt (S.drop n)) 8 && Nat.ble (z_lcs A).length (z_ml z)) = true) (h2 : z_rc z = 0 ∨ (z_rc z = 12 ∧ ∃ B, A = .ref 27 :: B)) (hr : S.drop n = rest) (hT : z_rt z = some .long)
    (k : MK z_pL z A g (fun r g1 => MG p y (pc + 3) L (.long r :: rest) g1 Q)) : MG p y pc L S g Q := fun h hM =>
  k_cL z n hz hn hR hA h1 (m_rok hM h2) hr hT (MK.go (F := fun r _ => (L, .long r :: rest)) hM (pc + 3) k)
theorem m_cV (z n : Nat) {A : zS} {rest : zS} (hz : (z_c y pc).2.2.1 = z) (hn : (z_c y pc).2.2.2.1 = n) (hR : (z_isR (z_c y pc).1 || !z_isC (z_c y pc).1 || !Nat.ble 2 z) = false) (hA : z_arg n S = A) (h1 : (Nat.ble n S.length && Nat.ble (z_wt (S.drop n)) 8 && Nat.ble (z_lcs A).length (z_ml z)) = true) (h2 : z_rc z = 0 ∨ (z_rc z = 12 ∧ ∃ B, A = .ref 27 :: B)) (hr : S.drop n = rest) (hT : z_rt z = none)
    (k : MK z_pV z A g (fun _ g1 => MG p y (pc + 3) L rest g1 Q)) : MG p y pc L S g Q := fun h hM =>
  k_cV z n hz hn hR hA h1 (m_rok hM h2) hr hT (MK.go (F := fun _ _ => (L, rest)) hM (pc + 3) k)
theorem m_sw {a b len : Nat} {v : Int} {d lo hi : Int} {offs : Array Int} {x : Int32} {pc' : Nat} (e : z_c y pc = (.tableswitch d lo hi offs, len, a, b, v)) (ht : z_tgt pc (z_swI x lo offs.toList d) = pc') (k : MG p y pc' L S g Q) : MG p y pc L (.int x :: S) g Q := fun h hM => k_sw e ht (k h hM)
end MR
