/-! THE CLAIM OUT OF ONE WALK OF THE LAW'S BODY. Your part is whole_start (and what it stands on); all else here is the same for every law, but numbers. -/
def R_law : String := "SavedThirdLaw"
def lw_P (b : Addr) (xs : List Int32) (args : Array Value) (s : State) : Prop := args = #[.ref b] ∧ s.IntsAt b xs ∧ xs.length ≤ 3584 ∧ (Jvm.Cond.and given_1 narrow_1).before args s = true
def lw_Q (_ : Array Value) (s : State) (o : Outcome) (t : State) : Prop := o = .returned (some (.int 1)) ∧ Framed s o t [] 600000 7302250
def lw_Z (below : List Frame) (a : Array Value) (s : State) : State → Prop := fun t => ∃ o, t.status = .running ∧ Ended t below o ∧ lw_Q a s o t
/-- the law's own end, with 1 on the stack, nothing written that was there before, its room as the claim has it -/
theorem lw_ret {p : Program} {l : Launch} {e : Env} {s : State} {m : MethodId} {below : List Frame} {meth : Method} {c : Code} {b : Nat} (hx : p.tables.exec = Jvm.exec) (hb : c.code = code) (hr : meth.sig.returnType = ret) (hlocks : meth.locks = false) {pc : Nat} {H : Heap} {ls : Array Slot} (hdg : decode code pc = .ok (.ireturn, 1)) : W p l e room_1 s m #[Value.ref b] below meth c H [] 600000 7302250 (lw_Z below #[Value.ref b] s) (F0 m pc ls [.int 1]) := by
  intro T hT X
  obtain ⟨fs, hret, hrun, hended, hW, hframe⟩ := X.leave (v := some (.int 1)) (hlocks := hlocks) (fun h => by rw [hr] at h; cases h)
  have hmeth' : T.vm.method? m = some meth := X.method'
  refine ⟨T.setFrames fs, ?_, .returned (some (.int 1)), hrun, hended, rfl, ⟨_, rfl⟩, hW, hframe⟩
  jvm_step X.here [X.here.top, hx, hb, hdg, hmeth', hr, ret, narrow_b1]
  (try refine ⟨rfl, ?_⟩); (try refine ⟨rfl, ?_⟩)
  first | (intro acts; rw [hret _ acts rfl rfl rfl]) | rw [hret _ _ rfl rfl rfl]
  exact Steps.refl _
/-- what holds at the law's entry: the machine, the code, the tables' words (any of lw_tbl by 'hts w (by decide +kernel)'), the script of L ints xs at the cell b, what the Statement gives of the start (any of its parts by flat_of_before) -/
def lw_At (p : Program) (s : State) (m : MethodId) (meth : Method) (c : Code) (b L : Nat) (xs : Nat → Int32) : Prop :=
  p.tables.exec = Jvm.exec ∧ c.code = code ∧ meth.sig.returnType = ret ∧ c.maxLocals = 4 ∧ s.vm.findClass R_law = some m.cls ∧ (∀ w ∈ lw_tbl, w.before #[Value.ref b] s = true) ∧ va_X b L xs s s.heap ∧ b < s.heap.size ∧ meth.locks = false ∧ (Jvm.Cond.and given_1 narrow_1).before #[Value.ref b] s = true
/-- the heap at the start: nothing but the script -/
def z_h0 (L : Nat) (xs : Nat → Int32) : zH := ((0, 0), (fun _ => 0), (fun b => if b = z_SC then L else 0), z_row (fun _ _ => 0) z_SC xs, (fun _ _ => 0), (fun _ _ => none))
theorem z_law_by : z_by 233 = code := rfl
theorem z_law_ml : z_ml 233 = 4 := rfl
theorem z_law_rt : z_rt 233 = some .boolean := rfl
theorem z_law_nm : z_nm 233 = yL_law := rfl
theorem z_law_fr : z_fr 233 = 9 := rfl
theorem z_law_lo : z_lo 233 = 201 := rfl
theorem z_top (hOK : z_OK) (hCd : z_CODE) (hY : z_LAY) (hI : z_INS) {p : Program} {e : Env} {s : State} {m : MethodId} {below : List Frame} {meth : Method} {c : Code} (l : Launch) {b L : Nat} {xs : Nat → Int32} (hL : L ≤ 3584) (C0 : lw_At p s m meth c b L xs)
    {h' : zH} (hgo : z_go 233 0 (z_ini 233 [.retAddr 19]) [] (z_h0 L xs) = some (some (.int 1), h')) (hn : z_nx h' ≤ 600000) (hu : z_us h' ≤ 7302250) :
    W p l e room_1 s m #[Value.ref b] below meth c s.heap [] 0 0 (lw_Z below #[Value.ref b] s) (entryFrame m ([Value.ref b] : List Value).toArray 4) := by
  obtain ⟨hx, hb, hr, hml, hown, hts, hX, hbl, hlocks, hgv⟩ := C0
  obtain ⟨D, cA, st, hVM, hST, h19⟩ := z_start hY hI hts hX hbl hL hgv
  obtain ⟨n, hrun⟩ := z_go_iff.mp hgo
  have C : z_CX p room_1 s m #[Value.ref b] meth c D cA s.heap.size st L xs 233 := by
    refine ⟨hx, by rw [z_law_by]; exact hb, by rw [z_law_ml]; exact hml, by rw [z_law_nm]; exact hown, fun w hw => hts w (List.mem_filter.mp hw).1, fun q => ?_, hVM, hST, Nat.le_refl _, by rw [z_law_fr]; decide, by rw [z_law_lo]; decide⟩
    rw [z_law_nm] at q
    exact absurd q (by decide)
  have hHR : z_HR D cA s.heap.size st L xs (z_h0 L xs) s.heap := by
    refine ⟨rfl, fun k q hq => ?_, fun _ _ => rfl, Nat.zero_le _, by show (if z_SC = z_SC then L else 0) = L; rw [if_pos rfl], z_row_at (f := fun _ _ => (0 : Int32)) (a := z_SC) (g := xs)⟩
    have h1 : k < (z_W cA s.heap.size st (z_h0 L xs)).length := (List.getElem?_eq_some_iff.mp hq).1
    have h2 : (z_W cA s.heap.size st (z_h0 L xs)).length = 0 := rfl
    omega
  have hl := lv_entry ([.ref b]) (n := 4) (Nat.le_of_ble_eq_true rfl)
  have hLR : z_LR (z_ml 233) s.heap.size st (z_ini 233 [.retAddr 19]) ((lg_sl [Value.ref b] ++ List.replicate (4 - (lg_sl [Value.ref b]).length) Slot.unset).toArray) := by
    refine ⟨rfl, hl.1, hl.2.1, ?_⟩
    rintro ⟨i, w⟩ hq
    obtain ⟨v, hv, rfl⟩ := z_lvl_mem.mp hq
    have h1 := z_ini_get hv
    match i, h1 with
    | 0, h1 =>
      have hv2 : Value.retAddr 19 = v := by simpa [z_lcs] using h1
      subst hv2
      exact hl.2.2 (0, z_ph s.heap.size st (.retAddr 19)) (by show (0, st 19) ∈ _; rw [h19]; exact List.mem_cons_self)
    | i + 1, h1 => simp [z_lcs] at h1
  rw [lg_entry_eq]
  have key := z_sim hOK hCd hY l D cA s.heap.size st L xs n 233 0 (z_ini 233 [.retAddr 19]) [] (z_h0 L xs) (some (.int 1)) h' hrun (R := room_1) (Q := lw_Z below #[Value.ref b] s) (c0 := 0) (u0 := 0) (below := below) (e := e) C rfl (show z_nx h' - 0 ≤ 600000 by omega) (show z_us h' - 0 ≤ 7302250 by omega) (show z_nx h' ≤ 1000000 by omega)
    (fun pc L2 S hg hR hret => ?_) s.heap [] _ hHR hLR va_S.rf (Nat.zero_le _) (Nat.zero_le _)
  · exact key
  · intro H locs ls hH hLr hS _ _
    obtain ⟨hd, hlen, -, -, -⟩ := hg
    have hi : (z_c 233 pc).1 = .ireturn ∧ S = [.int 1] := by
      revert hret hR
      generalize (z_c 233 pc).1 = i
      rw [z_law_rt]
      intro hR hret
      cases i with
      | ireturn =>
        refine ⟨rfl, ?_⟩
        unfold z_ret at hret
        split at hret
        · rename_i heq; cases heq
        · split at hret
          · split at hret
            · rename_i w hw
              have := z_nar_int hw
              have h2 := Option.some.inj (Option.some.inj hret)
              rw [this.1] at h2
              rw [h2]
            · cases hret
          · cases hret
        · rename_i heq; cases heq
        · rename_i heq; cases heq
        · rename_i h1 h2 h3 h4; exact absurd rfl h2
      | return_ => simp [z_ret] at hret
      | lreturn => simp [z_ret] at hret
      | areturn => simp [z_ret] at hret
      | _ => cases hR
    obtain ⟨hi1, hi2⟩ := hi
    subst hi2
    rw [hi1] at hd hlen
    have hlen : (z_c 233 pc).2.1 = 1 := hlen
    rw [hlen, z_law_by] at hd
    refine va_forget (fun q hq => hS.2.2 q hq) ?_
    refine W.widen (k := 600000) (n := 7302250) (by omega) (by omega) ?_
    exact lw_ret hx hb hr hlocks hd
