/-! one call of the law -/
/-- worlds alike but for scratch, ghosts too -/
def SQ (g2 g3 : zG) : Prop := ∀ k i, scr k i = false → g3 k i = g2 k i
/-- the reference's world with the ghosts of another -/
def g_jn (g1 g2 : zG) : zG := fun k => if k < 200 then g1 k else g2 k
theorem SE.jn {g1 g2 : zG} (s : SE g2 g1) : SQ g2 (g_jn g1 g2) := by
  intro k i h
  unfold g_jn
  by_cases q : k < 200
  · rw [if_pos q]; exact s k i q h
  · rw [if_neg q]
theorem scr_l {L : List Nat} (d : L.all (fun k => !(k == 26 || k == 84 || k == 85 || (Nat.ble 66 k && Nat.ble k 69) || k == 27)) = true) {g2 g3 : zG} (s : SQ g2 g3) : ∀ k, k ∈ L → g3 k = g2 k := by
  intro k hk
  have w := List.all_eq_true.mp d k hk
  funext i
  refine s k i ?_
  unfold scr
  revert w
  generalize (k == 26) = b1
  generalize (k == 84) = b2
  generalize (k == 85) = b3
  generalize (Nat.ble 66 k && Nat.ble k 69) = b4
  generalize (k == 27) = b5
  intro w
  cases b1 <;> cases b2 <;> cases b3 <;> cases b4 <;> cases b5 <;> first | rfl | (exact absurd w (by decide))
theorem scr_n {N : List Nat} (d : N.all (fun j => !scr 27 j) = true) {g2 g3 : zG} (s : SQ g2 g3) : ∀ j, j ∈ N → g3 27 j = g2 27 j := by
  intro j hj
  have w := List.all_eq_true.mp d j hj
  refine s 27 j ?_
  cases q : scr 27 j with
  | false => rfl
  | true => rw [q] at w; exact absurd w (by decide)
theorem INV.sq {c : Nat} {lm : Nat → Nat} {g2 g3 : zG} (I : INV c lm g2) (s : SQ g2 g3) : INV c lm g3 :=
  ⟨INV.t_cnt (scr_n rfl s) (scr_l rfl s) I.cnt,
    INV.t_bm (scr_n rfl s) (scr_l rfl s) I.bm,
    INV.t_pd (scr_n rfl s) (scr_l rfl s) I.pd,
    INV.t_bw (scr_n rfl s) (scr_l rfl s) I.bw,
    INV.t_bs (scr_n rfl s) (scr_l rfl s) I.bs,
    INV.t_be (scr_n rfl s) (scr_l rfl s) I.be,
    INV.t_br (scr_n rfl s) (scr_l rfl s) I.br,
    INV.t_bl (scr_n rfl s) (scr_l rfl s) I.bl,
    INV.t_bt (scr_n rfl s) (scr_l rfl s) I.bt,
    INV.t_wc (scr_n rfl s) (scr_l rfl s) I.wc,
    INV.t_wn (scr_n rfl s) (scr_l rfl s) I.wn,
    INV.t_sh (scr_n rfl s) (scr_l rfl s) I.sh,
    INV.t_la (scr_n rfl s) (scr_l rfl s) I.la,
    INV.t_lv (scr_n rfl s) (scr_l rfl s) I.lv,
    INV.t_em (scr_n rfl s) (scr_l rfl s) I.em,
    INV.t_ca (scr_n rfl s) (scr_l rfl s) I.ca,
    INV.t_ag (scr_n rfl s) (scr_l rfl s) I.ag,
    INV.t_re (scr_n rfl s) (scr_l rfl s) I.re,
    INV.t_tm (scr_n rfl s) (scr_l rfl s) I.tm,
    INV.t_tk (scr_n rfl s) (scr_l rfl s) I.tk,
    INV.t_zm (scr_n rfl s) (scr_l rfl s) I.zm,
    INV.t_ze (scr_n rfl s) (scr_l rfl s) I.ze,
    INV.t_gs (scr_n rfl s) (scr_l rfl s) I.gs,
    INV.t_gc (scr_n rfl s) (scr_l rfl s) I.gc,
    INV.t_gg (scr_n rfl s) (scr_l rfl s) I.gg,
    INV.t_gk (scr_n rfl s) (scr_l rfl s) I.gk,
    INV.t_wl (scr_n rfl s) (scr_l rfl s) I.wl⟩
theorem scr_kd {k i : Nat} (h : ¬ kd k = 9) (h27 : k = 27 → i = 0 ∨ i = 1 ∨ i = 20 ∨ i = 55 ∨ i = 76 ∨ i = 36 ∨ i = 35 ∨ i = 45) : scr k i = false := by
  by_cases q : k = 27
  · subst q
    rcases h27 rfl with r | r | r | r | r | r | r | r <;> subst r <;> rfl
  · have n : ∀ v, kd v = 9 → ¬ k = v := fun v hv z => h (by rw [z]; exact hv)
    have n1 := n 26 rfl
    have n2 := n 84 rfl
    have n3 := n 85 rfl
    have n4 := n 66 rfl
    have n5 := n 67 rfl
    have n6 := n 68 rfl
    have n7 := n 69 rfl
    have e1 : (k == 26) = false := by simp [n1]
    have e2 : (k == 84) = false := by simp [n2]
    have e3 : (k == 85) = false := by simp [n3]
    have e5 : (k == 27) = false := by simp [q]
    have e4 : (Nat.ble 66 k && Nat.ble k 69) = false := by
      cases w : (Nat.ble 66 k && Nat.ble k 69) with
      | false => rfl
      | true =>
        have w' : Nat.ble 66 k = true ∧ Nat.ble k 69 = true := by simpa using w
        have a1 := Nat.le_of_ble_eq_true w'.1
        have a2 := Nat.le_of_ble_eq_true w'.2
        omega
    unfold scr
    rw [e1, e2, e3, e4, e5]
    rfl
theorem Loc.scr {nm ne nr nl : Nat} {lm : Nat → Nat} {h : zH} {k i c j : Nat} (L : Loc nm ne nr nl lm h k i c j) : scr k i = false := by
  refine scr_kd (fun q => ?_) (fun q => ?_)
  · unfold Loc at L
    rw [q] at L
    exact L
  · subst q
    have L : Lk nm ne nr nl lm h 27 i c j 0 := L
    rcases L with ⟨_, q⟩ | ⟨_, q⟩ | ⟨_, q⟩ | ⟨_, q⟩ <;> omega
theorem RC.sq {lm : Nat → Nat} {g2 g3 : zG} {h : zH} (R : RC lm g2 h) (s : SQ g2 g3) : RC lm g3 h := by
  have e : ∀ {k i}, k = 46 ∨ k = 71 ∨ (80 ≤ k ∧ k ≤ 83) ∨ (42 ≤ k ∧ k ≤ 45) ∨ k = 86 ∨ k = 87 → g3 k i = g2 k i := by
    intro k i hk
    have l := scr_l (L := [46, 71, 80, 81, 82, 83, 42, 43, 44, 45, 86, 87]) rfl s k (by simp; omega)
    rw [l]
  exact R.gw (s 27 1 rfl) (s 27 20 rfl) (s 27 55 rfl) (s 27 45 rfl) (fun k i c j L => s k i L.scr) (fun i _ => e (by omega)) (fun k i hk _ => e (by omega)) (fun k i h1 h2 _ => e (by omega)) (fun k i hk _ => e (by omega))
theorem RC.fr {lm : Nat → Nat} {g : zG} {h h2 : zH} (R : RC lm g h) (f : Fr h h2) : RC lm g h2 := by
  obtain ⟨p1, p2, p3, p4, p5, p6⟩ := f
  have W2 : CW h2 := by
    unfold CW
    rw [p1, p3, p4, p5]
    exact R.w
  have F2 : FX h2 := by
    unfold FX
    rw [p3]
    exact R.f
  refine ⟨W2, F2, ?_, ?_, ?_, ?_⟩
  · unfold BD
    rw [p5]
    exact R.b
  · unfold IJ
    rw [p5]
    exact R.j
  · intro k i c j L
    have L' : Loc (q_n g 1) (q_n g 20) (q_n g 55) (q_n g 45) lm h k i c j := L.eq (by rw [p5]) (fun i _ => by rw [p5]) (fun i _ => by rw [p5]) (fun i _ => by rw [p5]) (fun i _ => by rw [p5])
    rw [p6 c (L'.safe R.w R.f R.b).1]
    exact R.i k i c j L'
  · exact R.x.iv p5 p4 (fun c hc => p6 c (Or.inr (R.f.ge hc (by omega)))) R.w R.f
theorem RM.kq {g : zG} {h h2 : zH} (M : RM g h) (k : Kq h h2) : RM g h2 := by
  obtain ⟨⟨m1, m2, m3⟩, v, l, cs⟩ := M
  refine ⟨⟨?_, ?_, ?_⟩, ?_, ?_, cs⟩
  · rw [(k.1 27 (by omega) (by omega)).1]; exact m1
  · intro j h1 h2
    have w := k.1 j (by omega) h2
    rw [w.1, w.2.1]
    exact m2 j h1 h2
  · intro q hq
    rw [(k.1 27 (by omega) (by omega)).2.2.1]
    exact m3 q hq
  · intro j h1 h2
    rw [(k.1 j h1 h2).2.2.2]
    exact v j h1 h2
  · rw [k.2.1]; exact l
theorem RM.jn {g1 g2 : zG} {h : zH} (M : RM g1 h) : RM (g_jn g1 g2) h := by
  obtain ⟨m, v, l, cs⟩ := M
  refine ⟨m, fun j h1 h2 => ?_, ?_, cs.eq rfl rfl⟩
  · unfold g_jn
    rw [if_pos (by omega)]
    exact v j h1 h2
  · exact l
/-- what stands ahead of a call, of both sides -/
def AL (c : Nat) (g : zG) (h : zH) : Prop := INV c (fun _ => q_n g 0) g ∧ RC (fun _ => q_n g 0) g h ∧ RM g h
theorem ST.run {α : Type} {p : Option Value → Option α} {yc ym : Nat} {A B : zS} {c : Nat} {g : zG} {h : zH} (S : ST p yc A ym B c g h) (M : RM g h) : KK p yc A h (fun v1 h1 => Kq h h1 ∧ Rm h h1 ∧ KK p ym B h1 (fun v2 h2 => v2 = v1 ∧ (∃ g3, AL (c + 1) g3 h2) ∧ Fr h1 h2)) := by
  obtain ⟨v, g2, m, i, k⟩ := S
  refine k.mono (fun v1 h1 q => ?_)
  obtain ⟨e, r, kq, rm⟩ := q
  refine ⟨kq, rm, ?_⟩
  refine (m h1 (M.kq kq)).mono (fun v2 h2 q => ?_)
  obtain ⟨g1, M2, f, e2, s⟩ := q
  refine ⟨e2.trans e.symm, ⟨g_jn g1 g2, ?_, ?_, M2.jn⟩, f⟩
  · have n0 : q_n (g_jn g1 g2) 0 = q_n g2 0 := by unfold q_n; rw [s.jn 27 0 rfl]
    rw [n0]
    exact i.sq s.jn
  · have n0 : q_n (g_jn g1 g2) 0 = q_n g2 0 := by unfold q_n; rw [s.jn 27 0 rfl]
    rw [n0]
    exact (r.sq s.jn).fr f
