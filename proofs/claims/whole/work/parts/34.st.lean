/-! a call on both sides -/
def scr (k i : Nat) : Bool := k == 26 || k == 84 || k == 85 || (Nat.ble 66 k && Nat.ble k 69) || (k == 27 && ((Nat.ble 37 i && Nat.ble i 42) || i == 50 || i == 70))
/-- worlds that differ in what no call asks for -/
def SE (g2 g1 : zG) : Prop := ∀ k i, k < 200 → scr k i = false → g1 k i = g2 k i
theorem SE.refl (g : zG) : SE g g := fun _ _ _ _ => rfl
theorem SE.trans {a b c : zG} (x : SE a b) (y : SE b c) : SE a c := fun k i h1 h2 => (y k i h1 h2).trans (x k i h1 h2)
theorem SE.of {a b : zG} (e : b = a) : SE a b := e ▸ SE.refl a
/-- what the class must leave: the reference's cells, the script -/
def Kq (h h2 : zH) : Prop := (∀ k, 27 ≤ k → k < 89 → z_tg h2 k = z_tg h k ∧ z_ln h2 k = z_ln h k ∧ z_rv h2 k = z_rv h k ∧ z_iv h2 k = z_iv h k) ∧ z_lv h2 27 = z_lv h 27 ∧ z_iv h2 z_SC = z_iv h z_SC ∧ z_ln h2 z_SC = z_ln h z_SC
def Rm (h h2 : zH) : Prop := z_nx h2 ≤ z_nx h + 4 ∧ z_us h2 ≤ z_us h + 400
theorem Kq.refl (h : zH) : Kq h h := ⟨fun _ _ _ => ⟨rfl, rfl, rfl, rfl⟩, rfl, rfl, rfl⟩
theorem Kq.trans {a b c : zH} (x : Kq a b) (y : Kq b c) : Kq a c := by
  obtain ⟨x1, x2, x3, x4⟩ := x
  obtain ⟨y1, y2, y3, y4⟩ := y
  refine ⟨fun k h1 h2 => ?_, y2.trans x2, y3.trans x3, y4.trans x4⟩
  obtain ⟨a1, a2, a3, a4⟩ := x1 k h1 h2
  obtain ⟨b1, b2, b3, b4⟩ := y1 k h1 h2
  exact ⟨b1.trans a1, b2.trans a2, b3.trans a3, b4.trans a4⟩
theorem Rm.refl (h : zH) : Rm h h := ⟨Nat.le_add_right _ _, Nat.le_add_right _ _⟩
theorem Rm.sI {h : zH} {a i : Nat} {x : Int32} : Rm h (z_sI h a i x) := ⟨Nat.le_add_right _ _, Nat.le_add_right _ _⟩
theorem Rm.sh {h h2 : zH} (s : Sh h h2) : Rm h h2 := ⟨by rw [s.1]; omega, by rw [s.2.1]; omega⟩
theorem Kq.sI {h : zH} {c j : Nat} {x : Int32} (hc : c < 27 ∨ 89 ≤ c) (hs : c < 600000) : Kq h (z_sI h c j x) := by
  refine ⟨fun k h1 h2 => ⟨rfl, rfl, rfl, ?_⟩, rfl, ?_, rfl⟩
  · exact up_ne (by omega)
  · exact up_ne (by unfold z_SC; omega)
theorem Loc.safe {nm ne nr nl : Nat} {lm : Nat → Nat} {h : zH} {k i c j : Nat} (W : CW h) (F : FX h) (b : BD h) (L : Loc nm ne nr nl lm h k i c j) : (c < 27 ∨ 89 ≤ c) ∧ c < z_nx h := by
  have hn := W.ge
  rcases L.cell W F with q | q | q | q | ⟨B, q, q2⟩ | q
  · omega
  · omega
  · omega
  · omega
  · have := b.c q; omega
  · have := W.lt c q.2.1; omega
def ST {α : Type} (p : Option Value → Option α) (yc : Nat) (A : zS) (ym : Nat) (B : zS) (c : Nat) (g : zG) (h : zH) : Prop := ∃ v g2, MK p ym B g (fun v1 g1 => v1 = v ∧ SE g2 g1) ∧ INV (c + 1) (fun _ => q_n g2 0) g2 ∧ KK p yc A h (fun v1 h1 => v1 = v ∧ RC (fun _ => q_n g2 0) g2 h1 ∧ Kq h h1 ∧ Rm h h1)
/-- the standing facts ahead of a call -/
def AH (c : Nat) (g : zG) (h : zH) : Prop := INV c (fun _ => q_n g 0) g ∧ RC (fun _ => q_n g 0) g h ∧ z_nx h < 500000 ∧ c < 512
theorem ST.ro {α : Type} {p : Option Value → Option α} {yc ym : Nat} {A B : zS} {c : Nat} {g : zG} {h : zH} (X : AH c g h) (v : α) (M : MK p ym B g (fun v1 g1 => v1 = v ∧ SE g g1)) (K : KV p yc A h v) : ST p yc A ym B c g h :=
  ⟨v, g, M, X.1.t_c (Nat.le_succ c), k_P K ⟨rfl, X.2.1, Kq.refl h, Rm.refl h⟩⟩
theorem ST.up {α : Type} {p : Option Value → Option α} {yc ym : Nat} {A B : zS} {c : Nat} {g : zG} {h : zH} (X : AH c g h) (v : α) {k i d j : Nat} {w : Int32} (L : Loc (q_n g 1) (q_n g 20) (q_n g 55) (q_n g 45) (fun _ => q_n g 0) h k i d j) (hk : (k = 27 → i = 35 ∨ i = 36 ∨ i = 76) ∧ ¬ k = 46 ∧ ¬ k = 86) (J : INV (c + 1) (fun _ => q_n g 0) (z_up2 g k i w)) (M : MK p ym B g (fun v1 g1 => v1 = v ∧ g1 = z_up2 g k i w)) (K : KK p yc A h (fun v1 h1 => v1 = v ∧ h1 = z_sI h d j w)) : ST p yc A ym B c g h := by
  have n0 : q_n (z_up2 g k i w) 0 = q_n g 0 := by unfold q_n; rw [up_nj (by omega)]
  have sf := L.safe X.2.1.w X.2.1.f X.2.1.b
  refine ⟨v, z_up2 g k i w, M.mono fun v1 g1 q => ⟨q.1, SE.of q.2⟩, by rw [n0]; exact J, K.mono fun v1 h1 q => ⟨q.1, ?_⟩⟩
  obtain ⟨-, rfl⟩ := q
  rw [n0]
  exact ⟨X.2.1.up L (by omega), Kq.sI sf.1 (by have := X.2.2.1; omega), Rm.sI⟩
theorem TB.up1 {T : List (Nat × Int × Int)} {n : Nat} {g : zG} (h : TB T n g) {k i : Nat} {v : Int32} {a b : Int} (hT : ∀ q, q ∈ T → q.1 = k → q.2 = (a, b)) (hv : a ≤ v.toInt ∧ v.toInt ≤ b) : TB T n (z_up2 g k i v) := h.up (fun q hq he => by rw [hT q hq he]; exact hv)
theorem e_up {g : zG} {r i : Nat} {v : Int32} : ∀ k, [r].contains k = false → z_up2 g r i v k = g k := fun k hk => up_ne (fun q => by subst q; simp at hk)
theorem INV.u30 {c : Nat} {lm : Nat → Nat} {g : zG} (I : INV c lm g) {i : Nat} {v : Int32} (hv : 1 ≤ v.toInt ∧ v.toInt ≤ 300) : INV c lm (z_up2 g 30 i v) := by
  have e := e_up (g := g) (r := 30) (i := i) (v := v)
  exact ⟨INV.t_cnt (an_of e rfl) (ag_of e rfl) I.cnt,
    by rw [(show q_n (z_up2 g 30 i v) 1 = q_n g 1 by unfold q_n; rw [up_ne (by decide)])]; exact I.bm.up1 (a := 1) (b := 300) (by decide) hv,
    INV.t_pd (an_of e rfl) (ag_of e rfl) I.pd,
    INV.t_bw (an_of e rfl) (ag_of e rfl) I.bw,
    INV.t_bs (an_of e rfl) (ag_of e rfl) I.bs,
    INV.t_be (an_of e rfl) (ag_of e rfl) I.be,
    INV.t_br (an_of e rfl) (ag_of e rfl) I.br,
    INV.t_bl (an_of e rfl) (ag_of e rfl) I.bl,
    INV.t_bt (an_of e rfl) (ag_of e rfl) I.bt,
    INV.t_wc (an_of e rfl) (ag_of e rfl) I.wc,
    INV.t_wn (an_of e rfl) (ag_of e rfl) I.wn,
    INV.t_sh (an_of e rfl) (ag_of e rfl) I.sh,
    INV.t_la (an_of e rfl) (ag_of e rfl) I.la,
    INV.t_lv (an_of e rfl) (ag_of e rfl) I.lv,
    INV.t_em (an_of e rfl) (ag_of e rfl) I.em,
    INV.t_ca (an_of e rfl) (ag_of e rfl) I.ca,
    INV.t_ag (an_of e rfl) (ag_of e rfl) I.ag,
    INV.t_re (an_of e rfl) (ag_of e rfl) I.re,
    INV.t_tm (an_of e rfl) (ag_of e rfl) I.tm,
    INV.t_tk (an_of e rfl) (ag_of e rfl) I.tk,
    INV.t_zm (an_of e rfl) (ag_of e rfl) I.zm,
    INV.t_ze (an_of e rfl) (ag_of e rfl) I.ze,
    INV.t_gs (an_of e rfl) (ag_of e rfl) I.gs,
    INV.t_gc (an_of e rfl) (ag_of e rfl) I.gc,
    INV.t_gg (an_of e rfl) (ag_of e rfl) I.gg,
    INV.t_gk (an_of e rfl) (ag_of e rfl) I.gk,
    INV.t_wl (an_of e rfl) (ag_of e rfl) I.wl⟩
theorem INV.u31 {c : Nat} {lm : Nat → Nat} {g : zG} (I : INV c lm g) {i : Nat} {v : Int32} (hv : 1 ≤ v.toInt ∧ v.toInt ≤ 99) : INV c lm (z_up2 g 31 i v) := by
  have e := e_up (g := g) (r := 31) (i := i) (v := v)
  exact ⟨INV.t_cnt (an_of e rfl) (ag_of e rfl) I.cnt,
    by rw [(show q_n (z_up2 g 31 i v) 1 = q_n g 1 by unfold q_n; rw [up_ne (by decide)])]; exact I.bm.up1 (a := 1) (b := 99) (by decide) hv,
    INV.t_pd (an_of e rfl) (ag_of e rfl) I.pd,
    INV.t_bw (an_of e rfl) (ag_of e rfl) I.bw,
    INV.t_bs (an_of e rfl) (ag_of e rfl) I.bs,
    INV.t_be (an_of e rfl) (ag_of e rfl) I.be,
    INV.t_br (an_of e rfl) (ag_of e rfl) I.br,
    INV.t_bl (an_of e rfl) (ag_of e rfl) I.bl,
    INV.t_bt (an_of e rfl) (ag_of e rfl) I.bt,
    INV.t_wc (an_of e rfl) (ag_of e rfl) I.wc,
    INV.t_wn (an_of e rfl) (ag_of e rfl) I.wn,
    INV.t_sh (an_of e rfl) (ag_of e rfl) I.sh,
    INV.t_la (an_of e rfl) (ag_of e rfl) I.la,
    INV.t_lv (an_of e rfl) (ag_of e rfl) I.lv,
    INV.t_em (an_of e rfl) (ag_of e rfl) I.em,
    INV.t_ca (an_of e rfl) (ag_of e rfl) I.ca,
    INV.t_ag (an_of e rfl) (ag_of e rfl) I.ag,
    INV.t_re (an_of e rfl) (ag_of e rfl) I.re,
    INV.t_tm (an_of e rfl) (ag_of e rfl) I.tm,
    INV.t_tk (an_of e rfl) (ag_of e rfl) I.tk,
    INV.t_zm (an_of e rfl) (ag_of e rfl) I.zm,
    INV.t_ze (an_of e rfl) (ag_of e rfl) I.ze,
    INV.t_gs (an_of e rfl) (ag_of e rfl) I.gs,
    INV.t_gc (an_of e rfl) (ag_of e rfl) I.gc,
    INV.t_gg (an_of e rfl) (ag_of e rfl) I.gg,
    INV.t_gk (an_of e rfl) (ag_of e rfl) I.gk,
    INV.t_wl (an_of e rfl) (ag_of e rfl) I.wl⟩
theorem INV.u32 {c : Nat} {lm : Nat → Nat} {g : zG} (I : INV c lm g) {i : Nat} {v : Int32} (hi : i < 12 * q_n g 1) (hv : 0 ≤ v.toInt ∧ v.toInt ≤ 999) : INV c lm (z_up2 g 32 i v) := by
  have e := e_up (g := g) (r := 32) (i := i) (v := v)
  exact ⟨INV.t_cnt (an_of e rfl) (ag_of e rfl) I.cnt,
    INV.t_bm (an_of e rfl) (ag_of e rfl) I.bm,
    INV.t_pd (an_of e rfl) (ag_of e rfl) I.pd,
    I.bw.up1 (a := 0) (b := 999) (by decide) hv,
    INV.t_bs (an_of e rfl) (ag_of e rfl) I.bs,
    INV.t_be (an_of e rfl) (ag_of e rfl) I.be,
    INV.t_br (an_of e rfl) (ag_of e rfl) I.br,
    INV.t_bl (an_of e rfl) (ag_of e rfl) I.bl,
    INV.t_bt (an_of e rfl) (ag_of e rfl) I.bt,
    INV.t_wc (an_of e rfl) (ag_of e rfl) I.wc,
    INV.t_wn (an_of e rfl) (ag_of e rfl) I.wn,
    INV.t_sh (an_of e rfl) (ag_of e rfl) I.sh,
    INV.t_la (an_of e rfl) (ag_of e rfl) I.la,
    INV.t_lv (an_of e rfl) (ag_of e rfl) I.lv,
    INV.t_em (an_of e rfl) (ag_of e rfl) I.em,
    INV.t_ca (an_of e rfl) (ag_of e rfl) I.ca,
    INV.t_ag (an_of e rfl) (ag_of e rfl) I.ag,
    INV.t_re (an_of e rfl) (ag_of e rfl) I.re,
    INV.t_tm (an_of e rfl) (ag_of e rfl) I.tm,
    INV.t_tk (an_of e rfl) (ag_of e rfl) I.tk,
    fun m h1 h2 => by
      rw [(show q_n (z_up2 g 32 i v) 1 = q_n g 1 by unfold q_n; rw [up_ne (by decide)])] at h1
      obtain ⟨a1, a2, a3, a4, a5, a6⟩ := I.zm m h1 h2
      refine ⟨by rw [up_ne (by decide)]; exact a1, by rw [up_ne (by decide)]; exact a2, by rw [up_ne (by decide)]; exact a3, fun j hj => by rw [up_nj (by omega)]; exact a4 j hj, fun j hj => by rw [up_ne (by decide)]; exact a5 j hj, fun w t hw ht => by rw [up_ne (by omega)]; exact a6 w t hw ht⟩,
    INV.t_ze (an_of e rfl) (ag_of e rfl) I.ze,
    INV.t_gs (an_of e rfl) (ag_of e rfl) I.gs,
    INV.t_gc (an_of e rfl) (ag_of e rfl) I.gc,
    INV.t_gg (an_of e rfl) (ag_of e rfl) I.gg,
    INV.t_gk (an_of e rfl) (ag_of e rfl) I.gk,
    INV.t_wl (an_of e rfl) (ag_of e rfl) I.wl⟩
theorem INV.u35 {c : Nat} {lm : Nat → Nat} {g : zG} (I : INV c lm g) {i : Nat} {v : Int32} (hi : i < 8 * q_n g 1) (hv : 0 ≤ v.toInt ∧ v.toInt ≤ 99) : INV c lm (z_up2 g 35 i v) := by
  have e := e_up (g := g) (r := 35) (i := i) (v := v)
  exact ⟨INV.t_cnt (an_of e rfl) (ag_of e rfl) I.cnt,
    INV.t_bm (an_of e rfl) (ag_of e rfl) I.bm,
    INV.t_pd (an_of e rfl) (ag_of e rfl) I.pd,
    INV.t_bw (an_of e rfl) (ag_of e rfl) I.bw,
    I.bs.up1 (a := 0) (b := 99) (by decide) hv,
    INV.t_be (an_of e rfl) (ag_of e rfl) I.be,
    INV.t_br (an_of e rfl) (ag_of e rfl) I.br,
    INV.t_bl (an_of e rfl) (ag_of e rfl) I.bl,
    INV.t_bt (an_of e rfl) (ag_of e rfl) I.bt,
    INV.t_wc (an_of e rfl) (ag_of e rfl) I.wc,
    INV.t_wn (an_of e rfl) (ag_of e rfl) I.wn,
    INV.t_sh (an_of e rfl) (ag_of e rfl) I.sh,
    INV.t_la (an_of e rfl) (ag_of e rfl) I.la,
    INV.t_lv (an_of e rfl) (ag_of e rfl) I.lv,
    INV.t_em (an_of e rfl) (ag_of e rfl) I.em,
    INV.t_ca (an_of e rfl) (ag_of e rfl) I.ca,
    INV.t_ag (an_of e rfl) (ag_of e rfl) I.ag,
    INV.t_re (an_of e rfl) (ag_of e rfl) I.re,
    INV.t_tm (an_of e rfl) (ag_of e rfl) I.tm,
    INV.t_tk (an_of e rfl) (ag_of e rfl) I.tk,
    fun m h1 h2 => by
      rw [(show q_n (z_up2 g 35 i v) 1 = q_n g 1 by unfold q_n; rw [up_ne (by decide)])] at h1
      obtain ⟨a1, a2, a3, a4, a5, a6⟩ := I.zm m h1 h2
      refine ⟨by rw [up_ne (by decide)]; exact a1, by rw [up_ne (by decide)]; exact a2, by rw [up_ne (by decide)]; exact a3, fun j hj => by rw [up_ne (by decide)]; exact a4 j hj, fun j hj => by rw [up_nj (by omega)]; exact a5 j hj, fun w t hw ht => by rw [up_ne (by omega)]; exact a6 w t hw ht⟩,
    INV.t_ze (an_of e rfl) (ag_of e rfl) I.ze,
    INV.t_gs (an_of e rfl) (ag_of e rfl) I.gs,
    INV.t_gc (an_of e rfl) (ag_of e rfl) I.gc,
    INV.t_gg (an_of e rfl) (ag_of e rfl) I.gg,
    INV.t_gk (an_of e rfl) (ag_of e rfl) I.gk,
    INV.t_wl (an_of e rfl) (ag_of e rfl) I.wl⟩
theorem INV.u54 {c : Nat} {lm : Nat → Nat} {g : zG} (I : INV c lm g) {i : Nat} {v : Int32} (hi : i < q_n g 20) (hv : 0 ≤ v.toInt ∧ v.toInt ≤ 1) : INV c lm (z_up2 g 54 i v) := by
  have e := e_up (g := g) (r := 54) (i := i) (v := v)
  exact ⟨INV.t_cnt (an_of e rfl) (ag_of e rfl) I.cnt,
    INV.t_bm (an_of e rfl) (ag_of e rfl) I.bm,
    INV.t_pd (an_of e rfl) (ag_of e rfl) I.pd,
    INV.t_bw (an_of e rfl) (ag_of e rfl) I.bw,
    INV.t_bs (an_of e rfl) (ag_of e rfl) I.bs,
    by rw [(show q_n (z_up2 g 54 i v) 20 = q_n g 20 by unfold q_n; rw [up_ne (by decide)])]; exact I.be.up1 (a := 0) (b := 1) (by decide) hv,
    INV.t_br (an_of e rfl) (ag_of e rfl) I.br,
    INV.t_bl (an_of e rfl) (ag_of e rfl) I.bl,
    INV.t_bt (an_of e rfl) (ag_of e rfl) I.bt,
    INV.t_wc (an_of e rfl) (ag_of e rfl) I.wc,
    INV.t_wn (an_of e rfl) (ag_of e rfl) I.wn,
    INV.t_sh (an_of e rfl) (ag_of e rfl) I.sh,
    INV.t_la (an_of e rfl) (ag_of e rfl) I.la,
    INV.t_lv (an_of e rfl) (ag_of e rfl) I.lv,
    INV.t_em (an_of e rfl) (ag_of e rfl) I.em,
    INV.t_ca (an_of e rfl) (ag_of e rfl) I.ca,
    INV.t_ag (an_of e rfl) (ag_of e rfl) I.ag,
    INV.t_re (an_of e rfl) (ag_of e rfl) I.re,
    INV.t_tm (an_of e rfl) (ag_of e rfl) I.tm,
    INV.t_tk (an_of e rfl) (ag_of e rfl) I.tk,
    INV.t_zm (an_of e rfl) (ag_of e rfl) I.zm,
    fun e h1 h2 => by
      rw [(show q_n (z_up2 g 54 i v) 20 = q_n g 20 by unfold q_n; rw [up_ne (by decide)])] at h1
      obtain ⟨a1, a2, a3, a4, a5, a6⟩ := I.ze e h1 h2
      exact ⟨by rw [up_nj (by omega)]; exact a1, by rw [up_nj (by omega)]; exact a2, by rw [up_nj (by omega)]; exact a3, by rw [up_nj (by omega)]; exact a4, by rw [up_nj (by omega)]; exact a5, by rw [up_nj (by omega)]; exact a6⟩,
    INV.t_gs (an_of e rfl) (ag_of e rfl) I.gs,
    INV.t_gc (an_of e rfl) (ag_of e rfl) I.gc,
    INV.t_gg (an_of e rfl) (ag_of e rfl) I.gg,
    INV.t_gk (an_of e rfl) (ag_of e rfl) I.gk,
    INV.t_wl (an_of e rfl) (ag_of e rfl) I.wl⟩
theorem INV.u55 {c : Nat} {lm : Nat → Nat} {g : zG} (I : INV c lm g) {i : Nat} {v : Int32} (hi : i < q_n g 20) (hv : 0 ≤ v.toInt ∧ v.toInt ≤ 1) : INV c lm (z_up2 g 55 i v) := by
  have e := e_up (g := g) (r := 55) (i := i) (v := v)
  exact ⟨INV.t_cnt (an_of e rfl) (ag_of e rfl) I.cnt,
    INV.t_bm (an_of e rfl) (ag_of e rfl) I.bm,
    INV.t_pd (an_of e rfl) (ag_of e rfl) I.pd,
    INV.t_bw (an_of e rfl) (ag_of e rfl) I.bw,
    INV.t_bs (an_of e rfl) (ag_of e rfl) I.bs,
    by rw [(show q_n (z_up2 g 55 i v) 20 = q_n g 20 by unfold q_n; rw [up_ne (by decide)])]; exact I.be.up1 (a := 0) (b := 1) (by decide) hv,
    INV.t_br (an_of e rfl) (ag_of e rfl) I.br,
    INV.t_bl (an_of e rfl) (ag_of e rfl) I.bl,
    INV.t_bt (an_of e rfl) (ag_of e rfl) I.bt,
    INV.t_wc (an_of e rfl) (ag_of e rfl) I.wc,
    INV.t_wn (an_of e rfl) (ag_of e rfl) I.wn,
    INV.t_sh (an_of e rfl) (ag_of e rfl) I.sh,
    INV.t_la (an_of e rfl) (ag_of e rfl) I.la,
    INV.t_lv (an_of e rfl) (ag_of e rfl) I.lv,
    INV.t_em (an_of e rfl) (ag_of e rfl) I.em,
    INV.t_ca (an_of e rfl) (ag_of e rfl) I.ca,
    INV.t_ag (an_of e rfl) (ag_of e rfl) I.ag,
    INV.t_re (an_of e rfl) (ag_of e rfl) I.re,
    INV.t_tm (an_of e rfl) (ag_of e rfl) I.tm,
    INV.t_tk (an_of e rfl) (ag_of e rfl) I.tk,
    INV.t_zm (an_of e rfl) (ag_of e rfl) I.zm,
    fun e h1 h2 => by
      rw [(show q_n (z_up2 g 55 i v) 20 = q_n g 20 by unfold q_n; rw [up_ne (by decide)])] at h1
      obtain ⟨a1, a2, a3, a4, a5, a6⟩ := I.ze e h1 h2
      exact ⟨by rw [up_nj (by omega)]; exact a1, by rw [up_nj (by omega)]; exact a2, by rw [up_nj (by omega)]; exact a3, by rw [up_nj (by omega)]; exact a4, by rw [up_nj (by omega)]; exact a5, by rw [up_nj (by omega)]; exact a6⟩,
    INV.t_gs (an_of e rfl) (ag_of e rfl) I.gs,
    INV.t_gc (an_of e rfl) (ag_of e rfl) I.gc,
    INV.t_gg (an_of e rfl) (ag_of e rfl) I.gg,
    INV.t_gk (an_of e rfl) (ag_of e rfl) I.gk,
    INV.t_wl (an_of e rfl) (ag_of e rfl) I.wl⟩
theorem INV.u52 {c : Nat} {lm : Nat → Nat} {g : zG} (I : INV c lm g) {i : Nat} {v : Int32} (hi : i < q_n g 20) (hv : v = 0) : INV c lm (z_up2 g 52 i v) := by
  have e := e_up (g := g) (r := 52) (i := i) (v := v)
  exact ⟨INV.t_cnt (an_of e rfl) (ag_of e rfl) I.cnt,
    INV.t_bm (an_of e rfl) (ag_of e rfl) I.bm,
    INV.t_pd (an_of e rfl) (ag_of e rfl) I.pd,
    INV.t_bw (an_of e rfl) (ag_of e rfl) I.bw,
    INV.t_bs (an_of e rfl) (ag_of e rfl) I.bs,
    INV.t_be (an_of e rfl) (ag_of e rfl) I.be,
    INV.t_br (an_of e rfl) (ag_of e rfl) I.br,
    INV.t_bl (an_of e rfl) (ag_of e rfl) I.bl,
    INV.t_bt (an_of e rfl) (ag_of e rfl) I.bt,
    INV.t_wc (an_of e rfl) (ag_of e rfl) I.wc,
    INV.t_wn (an_of e rfl) (ag_of e rfl) I.wn,
    INV.t_sh (an_of e rfl) (ag_of e rfl) I.sh,
    INV.t_la (an_of e rfl) (ag_of e rfl) I.la,
    INV.t_lv (an_of e rfl) (ag_of e rfl) I.lv,
    INV.t_em (an_of e rfl) (ag_of e rfl) I.em,
    INV.t_ca (an_of e rfl) (ag_of e rfl) I.ca,
    fun e he => by
      rw [(show q_n (z_up2 g 52 i v) 20 = q_n g 20 by unfold q_n; rw [up_ne (by decide)])] at he
      rw [up_ne (k' := 46) (by decide)]
      by_cases q : e = i
      · rw [q, up_at, hv]; exact ⟨by decide, by show (0 : Int) ≤ _; omega⟩
      · rw [up_nj (by omega)]; exact I.ag e he,
    INV.t_re (an_of e rfl) (ag_of e rfl) I.re,
    INV.t_tm (an_of e rfl) (ag_of e rfl) I.tm,
    INV.t_tk (an_of e rfl) (ag_of e rfl) I.tk,
    INV.t_zm (an_of e rfl) (ag_of e rfl) I.zm,
    fun e h1 h2 => by
      rw [(show q_n (z_up2 g 52 i v) 20 = q_n g 20 by unfold q_n; rw [up_ne (by decide)])] at h1
      obtain ⟨a1, a2, a3, a4, a5, a6⟩ := I.ze e h1 h2
      exact ⟨by rw [up_nj (by omega)]; exact a1, by rw [up_nj (by omega)]; exact a2, by rw [up_nj (by omega)]; exact a3, by rw [up_nj (by omega)]; exact a4, by rw [up_nj (by omega)]; exact a5, by rw [up_nj (by omega)]; exact a6⟩,
    INV.t_gs (an_of e rfl) (ag_of e rfl) I.gs,
    INV.t_gc (an_of e rfl) (ag_of e rfl) I.gc,
    INV.t_gg (an_of e rfl) (ag_of e rfl) I.gg,
    INV.t_gk (an_of e rfl) (ag_of e rfl) I.gk,
    INV.t_wl (an_of e rfl) (ag_of e rfl) I.wl⟩
theorem INV.u34 {c : Nat} {lm : Nat → Nat} {g : zG} (I : INV c lm g) {i : Nat} {v : Int32} (hi : i < q_n g 1) (hv : 0 ≤ v.toInt ∧ v.toInt ≤ (g 34 i).toInt + 99999) : INV (c + 1) lm (z_up2 g 34 i v) := by
  have e := e_up (g := g) (r := 34) (i := i) (v := v)
  exact ⟨INV.t_cnt (an_of e rfl) (ag_of e rfl) I.cnt,
    INV.t_bm (an_of e rfl) (ag_of e rfl) I.bm,
    fun m hm => by
      rw [(show q_n (z_up2 g 34 i v) 1 = q_n g 1 by unfold q_n; rw [up_ne (by decide)])] at hm
      by_cases q : m = i
      · rw [q, up_at]; have := I.pd i hi; omega
      · rw [up_nj (by omega)]; have := I.pd m hm; omega,
    INV.t_bw (an_of e rfl) (ag_of e rfl) I.bw,
    INV.t_bs (an_of e rfl) (ag_of e rfl) I.bs,
    INV.t_be (an_of e rfl) (ag_of e rfl) I.be,
    INV.t_br (an_of e rfl) (ag_of e rfl) I.br,
    INV.t_bl (an_of e rfl) (ag_of e rfl) I.bl,
    INV.t_bt (an_of e rfl) (ag_of e rfl) I.bt,
    INV.t_wc (an_of e rfl) (ag_of e rfl) I.wc,
    INV.t_wn (an_of e rfl) (ag_of e rfl) I.wn,
    INV.t_sh (an_of e rfl) (ag_of e rfl) I.sh,
    INV.t_la (an_of e rfl) (ag_of e rfl) I.la,
    INV.t_lv (an_of e rfl) (ag_of e rfl) I.lv,
    INV.t_em (an_of e rfl) (ag_of e rfl) I.em,
    INV.t_ca (an_of e rfl) (ag_of e rfl) I.ca,
    INV.t_ag (an_of e rfl) (ag_of e rfl) I.ag,
    INV.t_re (an_of e rfl) (ag_of e rfl) I.re,
    INV.t_tm (an_of e rfl) (ag_of e rfl) I.tm,
    INV.t_tk (an_of e rfl) (ag_of e rfl) I.tk,
    fun m h1 h2 => by
      rw [(show q_n (z_up2 g 34 i v) 1 = q_n g 1 by unfold q_n; rw [up_ne (by decide)])] at h1
      obtain ⟨a1, a2, a3, a4, a5, a6⟩ := I.zm m h1 h2
      refine ⟨by rw [up_ne (by decide)]; exact a1, by rw [up_nj (by omega)]; exact a2, by rw [up_ne (by decide)]; exact a3, fun j hj => by rw [up_ne (by decide)]; exact a4 j hj, fun j hj => by rw [up_ne (by decide)]; exact a5 j hj, fun w t hw ht => by rw [up_ne (by omega)]; exact a6 w t hw ht⟩,
    INV.t_ze (an_of e rfl) (ag_of e rfl) I.ze,
    INV.t_gs (an_of e rfl) (ag_of e rfl) I.gs,
    INV.t_gc (an_of e rfl) (ag_of e rfl) I.gc,
    INV.t_gg (an_of e rfl) (ag_of e rfl) I.gg,
    INV.t_gk (an_of e rfl) (ag_of e rfl) I.gk,
    INV.t_wl (an_of e rfl) (ag_of e rfl) I.wl⟩
theorem INV.uf {c : Nat} {lm : Nat → Nat} {g : zG} (I : INV c lm g) {i : Nat} {v : Int32} (hi : i = 36 ∨ i = 76) : INV c lm (z_up2 g 27 i v) := by
  have e := e_up (g := g) (r := 27) (i := i) (v := v)
  have n : ∀ N : List Nat, N.all (fun j => !(j == 36) && !(j == 76)) = true → ∀ j, j ∈ N → z_up2 g 27 i v 27 j = g 27 j := fun N hN j hj => up_nj (fun q => by have := List.all_eq_true.mp hN j hj; simp at this; omega)
  exact ⟨INV.t_cnt (n _ rfl) (ag_of e rfl) I.cnt,
    INV.t_bm (n _ rfl) (ag_of e rfl) I.bm,
    INV.t_pd (n _ rfl) (ag_of e rfl) I.pd,
    INV.t_bw (n _ rfl) (ag_of e rfl) I.bw,
    INV.t_bs (n _ rfl) (ag_of e rfl) I.bs,
    INV.t_be (n _ rfl) (ag_of e rfl) I.be,
    INV.t_br (n _ rfl) (ag_of e rfl) I.br,
    INV.t_bl (n _ rfl) (ag_of e rfl) I.bl,
    INV.t_bt (n _ rfl) (ag_of e rfl) I.bt,
    INV.t_wc (n _ rfl) (ag_of e rfl) I.wc,
    INV.t_wn (n _ rfl) (ag_of e rfl) I.wn,
    INV.t_sh (n _ rfl) (ag_of e rfl) I.sh,
    INV.t_la (n _ rfl) (ag_of e rfl) I.la,
    INV.t_lv (n _ rfl) (ag_of e rfl) I.lv,
    INV.t_em (n _ rfl) (ag_of e rfl) I.em,
    INV.t_ca (n _ rfl) (ag_of e rfl) I.ca,
    INV.t_ag (n _ rfl) (ag_of e rfl) I.ag,
    INV.t_re (n _ rfl) (ag_of e rfl) I.re,
    INV.t_tm (n _ rfl) (ag_of e rfl) I.tm,
    INV.t_tk (n _ rfl) (ag_of e rfl) I.tk,
    INV.t_zm (n _ rfl) (ag_of e rfl) I.zm,
    INV.t_ze (n _ rfl) (ag_of e rfl) I.ze,
    INV.t_gs (n _ rfl) (ag_of e rfl) I.gs,
    INV.t_gc (n _ rfl) (ag_of e rfl) I.gc,
    INV.t_gg (n _ rfl) (ag_of e rfl) I.gg,
    INV.t_gk (n _ rfl) (ag_of e rfl) I.gk,
    INV.t_wl (n _ rfl) (ag_of e rfl) I.wl⟩
theorem INV.u2735 {c : Nat} {lm : Nat → Nat} {g : zG} (I : INV c lm g) {v : Int32} (hv : 0 ≤ v.toInt ∧ v.toInt ≤ 200) : INV c lm (z_up2 g 27 35 v) := by
  have e := e_up (g := g) (r := 27) (i := 35) (v := v)
  have n : ∀ N : List Nat, N.all (fun j => !(j == 35)) = true → ∀ j, j ∈ N → z_up2 g 27 35 v 27 j = g 27 j := fun N hN j hj => up_nj (fun q => by have := List.all_eq_true.mp hN j hj; simp at this; omega)
  exact ⟨by
      have a := I.cnt
      rw [up_nj (by omega), up_nj (by omega), up_nj (by omega), up_nj (by omega), up_nj (by omega), up_at]
      exact ⟨a.1, a.2.1, a.2.2.1, a.2.2.2.1, a.2.2.2.2.1, hv⟩,
    INV.t_bm (n _ rfl) (ag_of e rfl) I.bm,
    INV.t_pd (n _ rfl) (ag_of e rfl) I.pd,
    INV.t_bw (n _ rfl) (ag_of e rfl) I.bw,
    INV.t_bs (n _ rfl) (ag_of e rfl) I.bs,
    INV.t_be (n _ rfl) (ag_of e rfl) I.be,
    INV.t_br (n _ rfl) (ag_of e rfl) I.br,
    INV.t_bl (n _ rfl) (ag_of e rfl) I.bl,
    INV.t_bt (n _ rfl) (ag_of e rfl) I.bt,
    INV.t_wc (n _ rfl) (ag_of e rfl) I.wc,
    INV.t_wn (n _ rfl) (ag_of e rfl) I.wn,
    INV.t_sh (n _ rfl) (ag_of e rfl) I.sh,
    INV.t_la (n _ rfl) (ag_of e rfl) I.la,
    INV.t_lv (n _ rfl) (ag_of e rfl) I.lv,
    INV.t_em (n _ rfl) (ag_of e rfl) I.em,
    INV.t_ca (n _ rfl) (ag_of e rfl) I.ca,
    INV.t_ag (n _ rfl) (ag_of e rfl) I.ag,
    INV.t_re (n _ rfl) (ag_of e rfl) I.re,
    INV.t_tm (n _ rfl) (ag_of e rfl) I.tm,
    INV.t_tk (n _ rfl) (ag_of e rfl) I.tk,
    INV.t_zm (n _ rfl) (ag_of e rfl) I.zm,
    INV.t_ze (n _ rfl) (ag_of e rfl) I.ze,
    INV.t_gs (n _ rfl) (ag_of e rfl) I.gs,
    INV.t_gc (n _ rfl) (ag_of e rfl) I.gc,
    INV.t_gg (n _ rfl) (ag_of e rfl) I.gg,
    INV.t_gk (n _ rfl) (ag_of e rfl) I.gk,
    INV.t_wl (n _ rfl) (ag_of e rfl) I.wl⟩
