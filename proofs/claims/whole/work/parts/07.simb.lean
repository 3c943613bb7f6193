/-! what is known of the tables and of what nobody writes; the judgement z_SW; rows of one instruction each -/
def z_sl0 (Ls q : Nat) : Nat := bif Nat.beq q 19 then Ls else (z_st.getD q []).length
def z_sv0 (xs : Nat → Int32) (q i : Nat) : Int32 := bif Nat.beq q 19 then xs i else (z_st.getD q []).getD i 0
/-- the tables -/
def z_VM (D : va_G) (cA : Nat → ClassId) (st : Nat → Value) (s : State) : Prop :=
  va_K D vwCl (z_ty cA) s ∧ (∀ a i x o, Jvm.Cond.methodLinkNest a i x o ∈ z_nest → va_Nw (.methodLinkNest a i x o) s) ∧ (∀ t, 102 ≤ t → t ≤ 105 → va_AO (z_cl (z_el t)).1 s) ∧
  (∀ i b, b < 8 → Jvm.Cond.stringRef RX6 i (z_tx b) ∈ lw_tbl → ∃ a, st (3 + b) = .ref a ∧ vk_R RX6 i (z_tx b) a s)
/-- what lies in the heap from the start: static fields and arrays, texts, the script -/
def z_ST (n0 : Nat) (st : Nat → Value) (Ls : Nat) (xs : Nat → Int32) (s : State) (H : Heap) : Prop :=
  (∀ q, q < 3 → va_Z (z_sd q).1 (z_sd q).2.1 (z_sd q).2.2 (st q) (z_A n0) s H) ∧ va_Z (z_sd 100).1 (z_sd 100).2.1 (z_sd 100).2.2 (st 100) (z_A n0) s H ∧ va_Z RJ0 "COMPACT_STRINGS" "Z" (.int 1) (z_A n0) s H ∧
  (∀ q, q < 3 ∨ q = 19 → ∃ t, st q = .ref t ∧ va_T .int t (z_sl0 Ls q) (fun j => .int (z_sv0 xs q j)) (z_A n0) s H) ∧
  (∀ q, 11 ≤ q → q < 19 → ∃ t, st q = .ref t ∧ va_T .byte t (z_sl0 Ls q) (fun j => .int (z_sv0 xs q j)) (z_A n0) s H) ∧
  (∀ q, 3 ≤ q → q < 11 → ∃ a, st q = .ref a ∧ va_O "java/lang/String" a (z_A n0) s H ∧ va_OF RJ0 "coder" "B" (.int 0) a (z_A n0) s H ∧ va_OF RJ0 "value" "[B" (st (q + 8)) a (z_A n0) s H) ∧
  (∀ q, (∃ t, st q = .ref t) ∨ st q = .null)
theorem z_ST.moved {n0 : Nat} {st : Nat → Value} {Ls : Nat} {xs : Nat → Int32} {u U : State} {H : Heap} (hvm : u.vm.Alike U.vm) (h : z_ST n0 st Ls xs u H) : z_ST n0 st Ls xs U H := by
  obtain ⟨h1, h2, h3, h4, h5, h6, h7⟩ := h
  refine ⟨fun q hq => (h1 q hq).moved hvm, h2.moved hvm, h3.moved hvm, fun q hq => ?_, fun q a b => ?_, fun q a b => ?_, h7⟩
  · obtain ⟨t, a, b⟩ := h4 q hq; exact ⟨t, a, b.moved hvm⟩
  · obtain ⟨t, a, b⟩ := h5 q a b; exact ⟨t, a, b.moved hvm⟩
  · obtain ⟨t, a, b, c, d⟩ := h6 q a b; exact ⟨t, a, b.moved hvm, c.moved hvm, d.moved hvm⟩
theorem z_ST.kept {n0 : Nat} {st : Nat → Value} {Ls : Nat} {xs : Nat → Int32} {U : State} {H H1 : Heap} (h : z_ST n0 st Ls xs U H) (hq : ∀ a : Nat, a < H.size → ¬ z_A n0 a → H1[a]? = H[a]?) : z_ST n0 st Ls xs U H1 := by
  obtain ⟨h1, h2, h3, h4, h5, h6, h7⟩ := h
  refine ⟨fun q h => (h1 q h).kept hq, h2.kept hq, h3.kept hq, fun q h => ?_, fun q a b => ?_, fun q a b => ?_, h7⟩
  · obtain ⟨t, a, b⟩ := h4 q h; exact ⟨t, a, b.kept hq⟩
  · obtain ⟨t, a, b⟩ := h5 q a b; exact ⟨t, a, b.kept hq⟩
  · obtain ⟨t, a, b, c, d⟩ := h6 q a b; exact ⟨t, a, b.kept hq, c.kept hq, d.kept hq⟩
theorem z_VM.warm {D : va_G} {cA : Nat → ClassId} {st : Nat → Value} {s U : State} (hW : s.WarmedH U.vm) (h : z_VM D cA st s) : z_VM D cA st U := by
  obtain ⟨h1, h2, h3, h4⟩ := h
  refine ⟨va_K.moved hW.alike h1, fun a i x o hm => va_Nw.warmM hW (h2 a i x o hm), fun t a b => va_AO.moved hW.alike (h3 t a b), fun i b hb hm => ?_⟩
  obtain ⟨a, h5, h6⟩ := h4 i b hb hm
  exact ⟨a, h5, vk_R.warm hW h6⟩
/-- a method's frame: its code, its names, what its tables say -/
def z_CX (p : Program) (R : Room) (s : State) (m : MethodId) (args : Array Value) (meth : Method) (c : Code) (D : va_G) (cA : Nat → ClassId) (n0 : Nat) (st : Nat → Value) (Ls : Nat) (xs : Nat → Int32) (y : Nat) : Prop :=
  p.tables.exec = Jvm.exec ∧ c.code = z_by y ∧ c.maxLocals = z_ml y ∧ s.vm.findClass (z_nm y).cls = some m.cls ∧ (∀ w ∈ z_tbl, w.before args s = true) ∧ ((z_nm y).name = "<init>" → meth.name = "<init>") ∧ z_VM D cA st s ∧ z_ST n0 st Ls xs s s.heap ∧ n0 ≤ s.heap.size ∧ z_fr y ≤ R.frames ∧ z_lo y ≤ R.locals
def z_SW (p : Program) (l : Launch) (e : Env) (R : Room) (s : State) (m : MethodId) (args : Array Value) (below : List Frame) (meth : Method) (c : Code) (Q : State → Prop) (D : va_G) (cA : Nat → ClassId) (n0 : Nat) (st : Nat → Value) (Ls : Nat) (xs : Nat → Int32) (y c0 u0 : Nat) (pc : Nat) (L : zL) (S : zS) (h : zH) : Prop :=
  ∀ (H : Heap) (locs : List Loc) (ls : Array Slot), z_HR D cA n0 st Ls xs h H → z_LR (z_ml y) n0 st L ls → va_S (z_A n0) s.heap H locs → c0 ≤ z_nx h → u0 ≤ z_us h →
    W p l e R s m args below meth c H locs (z_nx h - c0) (z_us h - u0) Q (F0 m pc ls (S.map (z_ph n0 st)))
section SIM
variable {p : Program} {l : Launch} {e : Env} {R : Room} {s : State} {m : MethodId} {args : Array Value} {below : List Frame} {meth : Method} {c : Code} {Q : State → Prop}
variable {D : va_G} {cA : Nat → ClassId} {n0 : Nat} {st : Nat → Value} {Ls : Nat} {xs : Nat → Int32} {y c0 u0 : Nat} {pc : Nat} {L : zL} {S : zS} {h : zH}
theorem z_CX.hst (C : z_CX p R s m args meth c D cA n0 st Ls xs y) : ∀ q, (∃ t, st q = .ref t) ∨ st q = .null := C.2.2.2.2.2.2.2.1.2.2.2.2.2.2
theorem s_iadd (C : z_CX p R s m args meth c D cA n0 st Ls xs y) {x w : Int32} (hd : decode (z_by y) pc = .ok (.iadd, 1))  (k : z_SW p l e R s m args below meth c Q D cA n0 st Ls xs y c0 u0 (pc + 1) L (.int (x + w) :: S) h) : z_SW p l e R s m args below meth c Q D cA n0 st Ls xs y c0 u0 pc L (.int w :: .int x :: S) h :=
  fun H locs ls hH hL hS h1 h2 => lv_iadd C.1 C.2.1 hd  (k H locs ls hH hL hS h1 h2)
theorem s_isub (C : z_CX p R s m args meth c D cA n0 st Ls xs y) {x w : Int32} (hd : decode (z_by y) pc = .ok (.isub, 1))  (k : z_SW p l e R s m args below meth c Q D cA n0 st Ls xs y c0 u0 (pc + 1) L (.int (x - w) :: S) h) : z_SW p l e R s m args below meth c Q D cA n0 st Ls xs y c0 u0 pc L (.int w :: .int x :: S) h :=
  fun H locs ls hH hL hS h1 h2 => lv_isub C.1 C.2.1 hd  (k H locs ls hH hL hS h1 h2)
theorem s_imul (C : z_CX p R s m args meth c D cA n0 st Ls xs y) {x w : Int32} (hd : decode (z_by y) pc = .ok (.imul, 1))  (k : z_SW p l e R s m args below meth c Q D cA n0 st Ls xs y c0 u0 (pc + 1) L (.int (x * w) :: S) h) : z_SW p l e R s m args below meth c Q D cA n0 st Ls xs y c0 u0 pc L (.int w :: .int x :: S) h :=
  fun H locs ls hH hL hS h1 h2 => lv_imul C.1 C.2.1 hd  (k H locs ls hH hL hS h1 h2)
theorem s_iand (C : z_CX p R s m args meth c D cA n0 st Ls xs y) {x w : Int32} (hd : decode (z_by y) pc = .ok (.iand, 1))  (k : z_SW p l e R s m args below meth c Q D cA n0 st Ls xs y c0 u0 (pc + 1) L (.int (x &&& w) :: S) h) : z_SW p l e R s m args below meth c Q D cA n0 st Ls xs y c0 u0 pc L (.int w :: .int x :: S) h :=
  fun H locs ls hH hL hS h1 h2 => lv_iand C.1 C.2.1 hd  (k H locs ls hH hL hS h1 h2)
theorem s_ior (C : z_CX p R s m args meth c D cA n0 st Ls xs y) {x w : Int32} (hd : decode (z_by y) pc = .ok (.ior, 1))  (k : z_SW p l e R s m args below meth c Q D cA n0 st Ls xs y c0 u0 (pc + 1) L (.int (x ||| w) :: S) h) : z_SW p l e R s m args below meth c Q D cA n0 st Ls xs y c0 u0 pc L (.int w :: .int x :: S) h :=
  fun H locs ls hH hL hS h1 h2 => lv_ior C.1 C.2.1 hd  (k H locs ls hH hL hS h1 h2)
theorem s_ixor (C : z_CX p R s m args meth c D cA n0 st Ls xs y) {x w : Int32} (hd : decode (z_by y) pc = .ok (.ixor, 1))  (k : z_SW p l e R s m args below meth c Q D cA n0 st Ls xs y c0 u0 (pc + 1) L (.int (x ^^^ w) :: S) h) : z_SW p l e R s m args below meth c Q D cA n0 st Ls xs y c0 u0 pc L (.int w :: .int x :: S) h :=
  fun H locs ls hH hL hS h1 h2 => lv_ixor C.1 C.2.1 hd  (k H locs ls hH hL hS h1 h2)
theorem s_ishl (C : z_CX p R s m args meth c D cA n0 st Ls xs y) {x w : Int32} (hd : decode (z_by y) pc = .ok (.ishl, 1))  (k : z_SW p l e R s m args below meth c Q D cA n0 st Ls xs y c0 u0 (pc + 1) L (.int (x <<< (w &&& 31)) :: S) h) : z_SW p l e R s m args below meth c Q D cA n0 st Ls xs y c0 u0 pc L (.int w :: .int x :: S) h :=
  fun H locs ls hH hL hS h1 h2 => lv_ishl C.1 C.2.1 hd  (k H locs ls hH hL hS h1 h2)
theorem s_ishr (C : z_CX p R s m args meth c D cA n0 st Ls xs y) {x w : Int32} (hd : decode (z_by y) pc = .ok (.ishr, 1))  (k : z_SW p l e R s m args below meth c Q D cA n0 st Ls xs y c0 u0 (pc + 1) L (.int (x >>> (w &&& 31)) :: S) h) : z_SW p l e R s m args below meth c Q D cA n0 st Ls xs y c0 u0 pc L (.int w :: .int x :: S) h :=
  fun H locs ls hH hL hS h1 h2 => lv_ishr C.1 C.2.1 hd  (k H locs ls hH hL hS h1 h2)
theorem s_idiv (C : z_CX p R s m args meth c D cA n0 st Ls xs y) {x w : Int32} (hd : decode (z_by y) pc = .ok (.idiv, 1)) (hne : ¬ w = 0) (k : z_SW p l e R s m args below meth c Q D cA n0 st Ls xs y c0 u0 (pc + 1) L (.int (x / w) :: S) h) : z_SW p l e R s m args below meth c Q D cA n0 st Ls xs y c0 u0 pc L (.int w :: .int x :: S) h :=
  fun H locs ls hH hL hS h1 h2 => lv_idiv C.1 C.2.1 hd hne (k H locs ls hH hL hS h1 h2)
theorem s_irem (C : z_CX p R s m args meth c D cA n0 st Ls xs y) {x w : Int32} (hd : decode (z_by y) pc = .ok (.irem, 1)) (hne : ¬ w = 0) (k : z_SW p l e R s m args below meth c Q D cA n0 st Ls xs y c0 u0 (pc + 1) L (.int (x - x / w * w) :: S) h) : z_SW p l e R s m args below meth c Q D cA n0 st Ls xs y c0 u0 pc L (.int w :: .int x :: S) h :=
  fun H locs ls hH hL hS h1 h2 => lv_irem C.1 C.2.1 hd hne (k H locs ls hH hL hS h1 h2)
theorem s_ldiv (C : z_CX p R s m args meth c D cA n0 st Ls xs y) {x w : Int64} (hd : decode (z_by y) pc = .ok (.ldiv, 1)) (hne : ¬ w = 0) (k : z_SW p l e R s m args below meth c Q D cA n0 st Ls xs y c0 u0 (pc + 1) L (.long (x / w) :: S) h) : z_SW p l e R s m args below meth c Q D cA n0 st Ls xs y c0 u0 pc L (.long w :: .long x :: S) h :=
  fun H locs ls hH hL hS h1 h2 => lv_ldiv C.1 C.2.1 hd hne (k H locs ls hH hL hS h1 h2)
theorem s_ladd (C : z_CX p R s m args meth c D cA n0 st Ls xs y) {x w : Int64} (hd : decode (z_by y) pc = .ok (.ladd, 1))  (k : z_SW p l e R s m args below meth c Q D cA n0 st Ls xs y c0 u0 (pc + 1) L (.long (x + w) :: S) h) : z_SW p l e R s m args below meth c Q D cA n0 st Ls xs y c0 u0 pc L (.long w :: .long x :: S) h :=
  fun H locs ls hH hL hS h1 h2 => lv_ladd C.1 C.2.1 hd  (k H locs ls hH hL hS h1 h2)
theorem s_lsub (C : z_CX p R s m args meth c D cA n0 st Ls xs y) {x w : Int64} (hd : decode (z_by y) pc = .ok (.lsub, 1))  (k : z_SW p l e R s m args below meth c Q D cA n0 st Ls xs y c0 u0 (pc + 1) L (.long (x - w) :: S) h) : z_SW p l e R s m args below meth c Q D cA n0 st Ls xs y c0 u0 pc L (.long w :: .long x :: S) h :=
  fun H locs ls hH hL hS h1 h2 => lv_lsub C.1 C.2.1 hd  (k H locs ls hH hL hS h1 h2)
theorem s_lmul (C : z_CX p R s m args meth c D cA n0 st Ls xs y) {x w : Int64} (hd : decode (z_by y) pc = .ok (.lmul, 1))  (k : z_SW p l e R s m args below meth c Q D cA n0 st Ls xs y c0 u0 (pc + 1) L (.long (x * w) :: S) h) : z_SW p l e R s m args below meth c Q D cA n0 st Ls xs y c0 u0 pc L (.long w :: .long x :: S) h :=
  fun H locs ls hH hL hS h1 h2 => lv_lmul C.1 C.2.1 hd  (k H locs ls hH hL hS h1 h2)
theorem s_land (C : z_CX p R s m args meth c D cA n0 st Ls xs y) {x w : Int64} (hd : decode (z_by y) pc = .ok (.land, 1))  (k : z_SW p l e R s m args below meth c Q D cA n0 st Ls xs y c0 u0 (pc + 1) L (.long (x &&& w) :: S) h) : z_SW p l e R s m args below meth c Q D cA n0 st Ls xs y c0 u0 pc L (.long w :: .long x :: S) h :=
  fun H locs ls hH hL hS h1 h2 => lv_land C.1 C.2.1 hd  (k H locs ls hH hL hS h1 h2)
theorem s_lor (C : z_CX p R s m args meth c D cA n0 st Ls xs y) {x w : Int64} (hd : decode (z_by y) pc = .ok (.lor, 1))  (k : z_SW p l e R s m args below meth c Q D cA n0 st Ls xs y c0 u0 (pc + 1) L (.long (x ||| w) :: S) h) : z_SW p l e R s m args below meth c Q D cA n0 st Ls xs y c0 u0 pc L (.long w :: .long x :: S) h :=
  fun H locs ls hH hL hS h1 h2 => lv_lor C.1 C.2.1 hd  (k H locs ls hH hL hS h1 h2)
theorem s_lxor (C : z_CX p R s m args meth c D cA n0 st Ls xs y) {x w : Int64} (hd : decode (z_by y) pc = .ok (.lxor, 1))  (k : z_SW p l e R s m args below meth c Q D cA n0 st Ls xs y c0 u0 (pc + 1) L (.long (x ^^^ w) :: S) h) : z_SW p l e R s m args below meth c Q D cA n0 st Ls xs y c0 u0 pc L (.long w :: .long x :: S) h :=
  fun H locs ls hH hL hS h1 h2 => lv_lxor C.1 C.2.1 hd  (k H locs ls hH hL hS h1 h2)
theorem s_ineg (C : z_CX p R s m args meth c D cA n0 st Ls xs y) {x : Int32} (hd : decode (z_by y) pc = .ok (.ineg, 1))  (k : z_SW p l e R s m args below meth c Q D cA n0 st Ls xs y c0 u0 (pc + 1) L (.int (-x) :: S) h) : z_SW p l e R s m args below meth c Q D cA n0 st Ls xs y c0 u0 pc L (.int x :: S) h :=
  fun H locs ls hH hL hS h1 h2 => lv_ineg C.1 C.2.1 hd  (k H locs ls hH hL hS h1 h2)
theorem s_lneg (C : z_CX p R s m args meth c D cA n0 st Ls xs y) {x : Int64} (hd : decode (z_by y) pc = .ok (.lneg, 1))  (k : z_SW p l e R s m args below meth c Q D cA n0 st Ls xs y c0 u0 (pc + 1) L (.long (-x) :: S) h) : z_SW p l e R s m args below meth c Q D cA n0 st Ls xs y c0 u0 pc L (.long x :: S) h :=
  fun H locs ls hH hL hS h1 h2 => lv_lneg C.1 C.2.1 hd  (k H locs ls hH hL hS h1 h2)
theorem s_i2l (C : z_CX p R s m args meth c D cA n0 st Ls xs y) {x : Int32} (hd : decode (z_by y) pc = .ok (.i2l, 1))  (k : z_SW p l e R s m args below meth c Q D cA n0 st Ls xs y c0 u0 (pc + 1) L (.long (x.toInt64) :: S) h) : z_SW p l e R s m args below meth c Q D cA n0 st Ls xs y c0 u0 pc L (.int x :: S) h :=
  fun H locs ls hH hL hS h1 h2 => lv_i2l C.1 C.2.1 hd rfl (k H locs ls hH hL hS h1 h2)
theorem s_i2b (C : z_CX p R s m args meth c D cA n0 st Ls xs y) {x : Int32} (hd : decode (z_by y) pc = .ok (.i2b, 1))  (k : z_SW p l e R s m args below meth c Q D cA n0 st Ls xs y c0 u0 (pc + 1) L (.int (x.toInt8.toInt32) :: S) h) : z_SW p l e R s m args below meth c Q D cA n0 st Ls xs y c0 u0 pc L (.int x :: S) h :=
  fun H locs ls hH hL hS h1 h2 => lv_i2b C.1 C.2.1 hd rfl (k H locs ls hH hL hS h1 h2)
theorem s_i2s (C : z_CX p R s m args meth c D cA n0 st Ls xs y) {x : Int32} (hd : decode (z_by y) pc = .ok (.i2s, 1))  (k : z_SW p l e R s m args below meth c Q D cA n0 st Ls xs y c0 u0 (pc + 1) L (.int (x.toInt16.toInt32) :: S) h) : z_SW p l e R s m args below meth c Q D cA n0 st Ls xs y c0 u0 pc L (.int x :: S) h :=
  fun H locs ls hH hL hS h1 h2 => lv_i2s C.1 C.2.1 hd rfl (k H locs ls hH hL hS h1 h2)
theorem s_i2c (C : z_CX p R s m args meth c D cA n0 st Ls xs y) {x : Int32} (hd : decode (z_by y) pc = .ok (.i2c, 1))  (k : z_SW p l e R s m args below meth c Q D cA n0 st Ls xs y c0 u0 (pc + 1) L (.int ((x.toUInt32 % 65536).toInt32) :: S) h) : z_SW p l e R s m args below meth c Q D cA n0 st Ls xs y c0 u0 pc L (.int x :: S) h :=
  fun H locs ls hH hL hS h1 h2 => lv_i2c C.1 C.2.1 hd rfl (k H locs ls hH hL hS h1 h2)
theorem s_l2i (C : z_CX p R s m args meth c D cA n0 st Ls xs y) {x : Int64} (hd : decode (z_by y) pc = .ok (.l2i, 1))  (k : z_SW p l e R s m args below meth c Q D cA n0 st Ls xs y c0 u0 (pc + 1) L (.int (x.toInt32) :: S) h) : z_SW p l e R s m args below meth c Q D cA n0 st Ls xs y c0 u0 pc L (.long x :: S) h :=
  fun H locs ls hH hL hS h1 h2 => lv_l2i C.1 C.2.1 hd rfl (k H locs ls hH hL hS h1 h2)
theorem s_lshl (C : z_CX p R s m args meth c D cA n0 st Ls xs y) {x : Int64} {w : Int32} (hd : decode (z_by y) pc = .ok (.lshl, 1))  (k : z_SW p l e R s m args below meth c Q D cA n0 st Ls xs y c0 u0 (pc + 1) L (.long (x <<< (w.toInt64 &&& 63)) :: S) h) : z_SW p l e R s m args below meth c Q D cA n0 st Ls xs y c0 u0 pc L (.int w :: .long x :: S) h :=
  fun H locs ls hH hL hS h1 h2 => lv_lshl C.1 C.2.1 hd rfl (k H locs ls hH hL hS h1 h2)
theorem s_lshr (C : z_CX p R s m args meth c D cA n0 st Ls xs y) {x : Int64} {w : Int32} (hd : decode (z_by y) pc = .ok (.lshr, 1))  (k : z_SW p l e R s m args below meth c Q D cA n0 st Ls xs y c0 u0 (pc + 1) L (.long (x >>> (w.toInt64 &&& 63)) :: S) h) : z_SW p l e R s m args below meth c Q D cA n0 st Ls xs y c0 u0 pc L (.int w :: .long x :: S) h :=
  fun H locs ls hH hL hS h1 h2 => lv_lshr C.1 C.2.1 hd rfl (k H locs ls hH hL hS h1 h2)
theorem s_lushr (C : z_CX p R s m args meth c D cA n0 st Ls xs y) {x : Int64} {w : Int32} (hd : decode (z_by y) pc = .ok (.lushr, 1))  (k : z_SW p l e R s m args below meth c Q D cA n0 st Ls xs y c0 u0 (pc + 1) L (.long ((x.toUInt64 >>> (w.toInt64.toUInt64 &&& Int64.toUInt64 63)).toInt64) :: S) h) : z_SW p l e R s m args below meth c Q D cA n0 st Ls xs y c0 u0 pc L (.int w :: .long x :: S) h :=
  fun H locs ls hH hL hS h1 h2 => lv_lushr C.1 C.2.1 hd rfl (k H locs ls hH hL hS h1 h2)
theorem s_lcmp (C : z_CX p R s m args meth c D cA n0 st Ls xs y) {x w : Int64} (hd : decode (z_by y) pc = .ok (.lcmp, 1))  (k : z_SW p l e R s m args below meth c Q D cA n0 st Ls xs y c0 u0 (pc + 1) L (.int (z_cmp x w) :: S) h) : z_SW p l e R s m args below meth c Q D cA n0 st Ls xs y c0 u0 pc L (.long w :: .long x :: S) h :=
  fun H locs ls hH hL hS h1 h2 => W.lcmp C.1 C.2.1 hd  (k H locs ls hH hL hS h1 h2)
theorem s_iconst (C : z_CX p R s m args meth c D cA n0 st Ls xs y) {v : Int} (hd : decode (z_by y) pc = .ok (.iconst v, 1))  (k : z_SW p l e R s m args below meth c Q D cA n0 st Ls xs y c0 u0 (pc + 1) L (.int (Int32.ofInt v) :: S) h) : z_SW p l e R s m args below meth c Q D cA n0 st Ls xs y c0 u0 pc L (S) h :=
  fun H locs ls hH hL hS h1 h2 => lv_iconst C.1 C.2.1 hd rfl (k H locs ls hH hL hS h1 h2)
theorem s_bipush (C : z_CX p R s m args meth c D cA n0 st Ls xs y) {v : Int} (hd : decode (z_by y) pc = .ok (.bipush v, 2)) (hv : (Int8.ofInt v).toInt32 = Int32.ofInt v) (k : z_SW p l e R s m args below meth c Q D cA n0 st Ls xs y c0 u0 (pc + 2) L (.int (Int32.ofInt v) :: S) h) : z_SW p l e R s m args below meth c Q D cA n0 st Ls xs y c0 u0 pc L (S) h :=
  fun H locs ls hH hL hS h1 h2 => lv_bipush C.1 C.2.1 hd hv (k H locs ls hH hL hS h1 h2)
theorem s_sipush (C : z_CX p R s m args meth c D cA n0 st Ls xs y) {v : Int} (hd : decode (z_by y) pc = .ok (.sipush v, 3)) (hv : (Int16.ofInt v).toInt32 = Int32.ofInt v) (k : z_SW p l e R s m args below meth c Q D cA n0 st Ls xs y c0 u0 (pc + 3) L (.int (Int32.ofInt v) :: S) h) : z_SW p l e R s m args below meth c Q D cA n0 st Ls xs y c0 u0 pc L (S) h :=
  fun H locs ls hH hL hS h1 h2 => lv_sipush C.1 C.2.1 hd hv (k H locs ls hH hL hS h1 h2)
theorem s_lconst (C : z_CX p R s m args meth c D cA n0 st Ls xs y) {v : Fin 2} (hd : decode (z_by y) pc = .ok (.lconst v, 1))  (k : z_SW p l e R s m args below meth c Q D cA n0 st Ls xs y c0 u0 (pc + 1) L (.long (Int64.ofNat v) :: S) h) : z_SW p l e R s m args below meth c Q D cA n0 st Ls xs y c0 u0 pc L (S) h :=
  fun H locs ls hH hL hS h1 h2 => lv_lconst C.1 C.2.1 hd rfl (k H locs ls hH hL hS h1 h2)
theorem s_null (C : z_CX p R s m args meth c D cA n0 st Ls xs y)  (hd : decode (z_by y) pc = .ok (.aconst_null, 1))  (k : z_SW p l e R s m args below meth c Q D cA n0 st Ls xs y c0 u0 (pc + 1) L (.null :: S) h) : z_SW p l e R s m args below meth c Q D cA n0 st Ls xs y c0 u0 pc L (S) h :=
  fun H locs ls hH hL hS h1 h2 => lv_null C.1 C.2.1 hd  (k H locs ls hH hL hS h1 h2)
theorem s_dupI (C : z_CX p R s m args meth c D cA n0 st Ls xs y) {x : Int32} (hd : decode (z_by y) pc = .ok (.dup, 1))  (k : z_SW p l e R s m args below meth c Q D cA n0 st Ls xs y c0 u0 (pc + 1) L (.int x :: .int x :: S) h) : z_SW p l e R s m args below meth c Q D cA n0 st Ls xs y c0 u0 pc L (.int x :: S) h :=
  fun H locs ls hH hL hS h1 h2 => lv_dup C.1 C.2.1 hd rfl (k H locs ls hH hL hS h1 h2)
theorem s_dupR (C : z_CX p R s m args meth c D cA n0 st Ls xs y) {x : Nat} (hd : decode (z_by y) pc = .ok (.dup, 1))  (k : z_SW p l e R s m args below meth c Q D cA n0 st Ls xs y c0 u0 (pc + 1) L (.ref x :: .ref x :: S) h) : z_SW p l e R s m args below meth c Q D cA n0 st Ls xs y c0 u0 pc L (.ref x :: S) h :=
  fun H locs ls hH hL hS h1 h2 => lv_dup C.1 C.2.1 hd rfl (k H locs ls hH hL hS h1 h2)
theorem s_pop (C : z_CX p R s m args meth c D cA n0 st Ls xs y) {x : Int32} (hd : decode (z_by y) pc = .ok (.pop, 1))  (k : z_SW p l e R s m args below meth c Q D cA n0 st Ls xs y c0 u0 (pc + 1) L (S) h) : z_SW p l e R s m args below meth c Q D cA n0 st Ls xs y c0 u0 pc L (.int x :: S) h :=
  fun H locs ls hH hL hS h1 h2 => lv_pop C.1 C.2.1 hd rfl (k H locs ls hH hL hS h1 h2)
theorem s_dup2 (C : z_CX p R s m args meth c D cA n0 st Ls xs y) {x : Int32} {w : Nat} (hd : decode (z_by y) pc = .ok (.dup2, 1))  (k : z_SW p l e R s m args below meth c Q D cA n0 st Ls xs y c0 u0 (pc + 1) L (.int x :: .ref w :: .int x :: .ref w :: S) h) : z_SW p l e R s m args below meth c Q D cA n0 st Ls xs y c0 u0 pc L (.int x :: .ref w :: S) h :=
  fun H locs ls hH hL hS h1 h2 => lv_dup2_11 C.1 C.2.1 hd rfl rfl (k H locs ls hH hL hS h1 h2)
theorem s_iload (C : z_CX p R s m args meth c D cA n0 st Ls xs y) {i : Nat} {x : Int32} (hd : decode (z_by y) pc = .ok (.iload i, 2)) (hv : L.getD i none = some (.int x)) (k : z_SW p l e R s m args below meth c Q D cA n0 st Ls xs y c0 u0 (pc + 2) L (.int x :: S) h) : z_SW p l e R s m args below meth c Q D cA n0 st Ls xs y c0 u0 pc L (S) h :=
  fun H locs ls hH hL hS h1 h2 => lv_iload C.1 C.2.1 hd (z_LR_at hL hv) (k H locs ls hH hL hS h1 h2)
theorem s_iload_n (C : z_CX p R s m args meth c D cA n0 st Ls xs y) {i : Fin 4} {x : Int32} (hd : decode (z_by y) pc = .ok (.iload_n i, 1)) (hv : L.getD i none = some (.int x)) (k : z_SW p l e R s m args below meth c Q D cA n0 st Ls xs y c0 u0 (pc + 1) L (.int x :: S) h) : z_SW p l e R s m args below meth c Q D cA n0 st Ls xs y c0 u0 pc L (S) h :=
  fun H locs ls hH hL hS h1 h2 => lv_iload_n C.1 C.2.1 hd rfl (z_LR_at hL hv) (k H locs ls hH hL hS h1 h2)
theorem s_lload (C : z_CX p R s m args meth c D cA n0 st Ls xs y) {i : Nat} {x : Int64} (hd : decode (z_by y) pc = .ok (.lload i, 2)) (hv : L.getD i none = some (.long x)) (k : z_SW p l e R s m args below meth c Q D cA n0 st Ls xs y c0 u0 (pc + 2) L (.long x :: S) h) : z_SW p l e R s m args below meth c Q D cA n0 st Ls xs y c0 u0 pc L (S) h :=
  fun H locs ls hH hL hS h1 h2 => lv_lload C.1 C.2.1 hd (z_LR_at hL hv) (k H locs ls hH hL hS h1 h2)
theorem s_lload_n (C : z_CX p R s m args meth c D cA n0 st Ls xs y) {i : Fin 4} {x : Int64} (hd : decode (z_by y) pc = .ok (.lload_n i, 1)) (hv : L.getD i none = some (.long x)) (k : z_SW p l e R s m args below meth c Q D cA n0 st Ls xs y c0 u0 (pc + 1) L (.long x :: S) h) : z_SW p l e R s m args below meth c Q D cA n0 st Ls xs y c0 u0 pc L (S) h :=
  fun H locs ls hH hL hS h1 h2 => lv_lload_n C.1 C.2.1 hd rfl (z_LR_at hL hv) (k H locs ls hH hL hS h1 h2)
theorem s_aload (C : z_CX p R s m args meth c D cA n0 st Ls xs y) {i : Nat} {x : Nat} (hd : decode (z_by y) pc = .ok (.aload i, 2)) (hv : L.getD i none = some (.ref x)) (k : z_SW p l e R s m args below meth c Q D cA n0 st Ls xs y c0 u0 (pc + 2) L (.ref x :: S) h) : z_SW p l e R s m args below meth c Q D cA n0 st Ls xs y c0 u0 pc L (S) h :=
  fun H locs ls hH hL hS h1 h2 => lv_aload C.1 C.2.1 hd (z_LR_at hL hv) (k H locs ls hH hL hS h1 h2)
theorem s_aloadN (C : z_CX p R s m args meth c D cA n0 st Ls xs y) {i : Nat} (hd : decode (z_by y) pc = .ok (.aload i, 2)) (hv : L.getD i none = some .null) (k : z_SW p l e R s m args below meth c Q D cA n0 st Ls xs y c0 u0 (pc + 2) L (.null :: S) h) : z_SW p l e R s m args below meth c Q D cA n0 st Ls xs y c0 u0 pc L (S) h :=
  fun H locs ls hH hL hS h1 h2 => lv_aloadN C.1 C.2.1 hd (z_LR_at hL hv) (k H locs ls hH hL hS h1 h2)
theorem s_aloadS (C : z_CX p R s m args meth c D cA n0 st Ls xs y) {i : Nat} {q : Nat} (hd : decode (z_by y) pc = .ok (.aload i, 2)) (hv : L.getD i none = some (.retAddr q)) (k : z_SW p l e R s m args below meth c Q D cA n0 st Ls xs y c0 u0 (pc + 2) L (.retAddr q :: S) h) : z_SW p l e R s m args below meth c Q D cA n0 st Ls xs y c0 u0 pc L S h := by
  intro H locs ls hH hL hS h1 h2
  have hl := z_LR_at hL hv
  have kk := k H locs ls hH hL hS h1 h2
  rw [List.map_cons] at kk
  simp only [z_ph] at hl kk
  rcases C.hst q with ⟨t, ht⟩ | ht
  · rw [ht] at hl kk
    exact lv_aload C.1 C.2.1 hd hl kk
  · rw [ht] at hl kk
    exact lv_aloadN C.1 C.2.1 hd hl kk
theorem s_aload_n (C : z_CX p R s m args meth c D cA n0 st Ls xs y) {i : Fin 4} {x : Nat} (hd : decode (z_by y) pc = .ok (.aload_n i, 1)) (hv : L.getD i none = some (.ref x)) (k : z_SW p l e R s m args below meth c Q D cA n0 st Ls xs y c0 u0 (pc + 1) L (.ref x :: S) h) : z_SW p l e R s m args below meth c Q D cA n0 st Ls xs y c0 u0 pc L (S) h :=
  fun H locs ls hH hL hS h1 h2 => lv_aload_n C.1 C.2.1 hd rfl (z_LR_at hL hv) (k H locs ls hH hL hS h1 h2)
theorem s_aloadN_n (C : z_CX p R s m args meth c D cA n0 st Ls xs y) {i : Fin 4} (hd : decode (z_by y) pc = .ok (.aload_n i, 1)) (hv : L.getD i none = some .null) (k : z_SW p l e R s m args below meth c Q D cA n0 st Ls xs y c0 u0 (pc + 1) L (.null :: S) h) : z_SW p l e R s m args below meth c Q D cA n0 st Ls xs y c0 u0 pc L (S) h :=
  fun H locs ls hH hL hS h1 h2 => lv_aload_nN C.1 C.2.1 hd rfl (z_LR_at hL hv) (k H locs ls hH hL hS h1 h2)
theorem s_aloadS_n (C : z_CX p R s m args meth c D cA n0 st Ls xs y) {i : Fin 4} {q : Nat} (hd : decode (z_by y) pc = .ok (.aload_n i, 1)) (hv : L.getD i none = some (.retAddr q)) (k : z_SW p l e R s m args below meth c Q D cA n0 st Ls xs y c0 u0 (pc + 1) L (.retAddr q :: S) h) : z_SW p l e R s m args below meth c Q D cA n0 st Ls xs y c0 u0 pc L S h := by
  intro H locs ls hH hL hS h1 h2
  have hl := z_LR_at hL hv
  have kk := k H locs ls hH hL hS h1 h2
  rw [List.map_cons] at kk
  simp only [z_ph] at hl kk
  rcases C.hst q with ⟨t, ht⟩ | ht
  · rw [ht] at hl kk
    exact lv_aload_n C.1 C.2.1 hd rfl hl kk
  · rw [ht] at hl kk
    exact lv_aload_nN C.1 C.2.1 hd rfl hl kk
theorem s_istore (C : z_CX p R s m args meth c D cA n0 st Ls xs y) {i : Nat} {x : Int32} (hd : decode (z_by y) pc = .ok (.istore i, 2)) (hi : (i : Nat) < L.length) (k : z_SW p l e R s m args below meth c Q D cA n0 st Ls xs y c0 u0 (pc + 2) (z_s1 L i (.int x)) S h) : z_SW p l e R s m args below meth c Q D cA n0 st Ls xs y c0 u0 pc L (.int x :: S) h :=
  fun H locs ls hH hL hS h1 h2 => lv_istore C.1 C.2.1 hd hL.2 (by rw [← hL.1]; exact hi) rfl (fun ls' hl' => k H locs ls' hH (z_LR_s1 C.hst hL.1 hl') hS h1 h2)
theorem s_lstore (C : z_CX p R s m args meth c D cA n0 st Ls xs y) {i : Nat} {x : Int64} (hd : decode (z_by y) pc = .ok (.lstore i, 2)) (hi : (i : Nat) + 1 < L.length) (k : z_SW p l e R s m args below meth c Q D cA n0 st Ls xs y c0 u0 (pc + 2) (z_s2 L i (.long x)) S h) : z_SW p l e R s m args below meth c Q D cA n0 st Ls xs y c0 u0 pc L (.long x :: S) h :=
  fun H locs ls hH hL hS h1 h2 => lv_lstore C.1 C.2.1 hd hL.2 (by rw [← hL.1]; exact hi) rfl (fun ls' hl' => k H locs ls' hH (z_LR_s2 C.hst hL.1 hl') hS h1 h2)
theorem s_astore (C : z_CX p R s m args meth c D cA n0 st Ls xs y) {i : Nat} {x : Nat} (hd : decode (z_by y) pc = .ok (.astore i, 2)) (hi : (i : Nat) < L.length) (k : z_SW p l e R s m args below meth c Q D cA n0 st Ls xs y c0 u0 (pc + 2) (z_s1 L i (.ref x)) S h) : z_SW p l e R s m args below meth c Q D cA n0 st Ls xs y c0 u0 pc L (.ref x :: S) h :=
  fun H locs ls hH hL hS h1 h2 => lv_astore C.1 C.2.1 hd hL.2 (by rw [← hL.1]; exact hi) rfl (fun ls' hl' => k H locs ls' hH (z_LR_s1 C.hst hL.1 hl') hS h1 h2)
theorem s_astoreN (C : z_CX p R s m args meth c D cA n0 st Ls xs y) {i : Nat} (hd : decode (z_by y) pc = .ok (.astore i, 2)) (hi : (i : Nat) < L.length) (k : z_SW p l e R s m args below meth c Q D cA n0 st Ls xs y c0 u0 (pc + 2) (z_s1 L i .null) S h) : z_SW p l e R s m args below meth c Q D cA n0 st Ls xs y c0 u0 pc L (.null :: S) h :=
  fun H locs ls hH hL hS h1 h2 => lv_astoreN C.1 C.2.1 hd hL.2 (by rw [← hL.1]; exact hi) rfl (fun ls' hl' => k H locs ls' hH (z_LR_s1 (v := .null) C.hst hL.1 hl') hS h1 h2)
theorem s_astoreS (C : z_CX p R s m args meth c D cA n0 st Ls xs y) {i : Nat} {q : Nat} (hd : decode (z_by y) pc = .ok (.astore i, 2)) (hi : (i : Nat) < L.length) (k : z_SW p l e R s m args below meth c Q D cA n0 st Ls xs y c0 u0 (pc + 2) (z_s1 L i (.retAddr q)) S h) : z_SW p l e R s m args below meth c Q D cA n0 st Ls xs y c0 u0 pc L (.retAddr q :: S) h := by
  intro H locs ls hH hL hS h1 h2
  rw [List.map_cons]
  have key : ∀ ls' : Array Slot, lv_has ls' (z_ml y) (((i : Nat), z_ph n0 st (.retAddr q)) :: (z_lvl n0 st L).filter (fun q => !(q.1 == (i : Nat)) && !(q.1 + 1 == (i : Nat) && q.2.category == 2))) → W p l e R s m args below meth c H locs (z_nx h - c0) (z_us h - u0) Q (F0 m (pc + 2) ls' (S.map (z_ph n0 st))) := fun ls' hl' => k H locs ls' hH (z_LR_s1 (v := .retAddr q) C.hst hL.1 hl') hS h1 h2
  simp only [z_ph] at key ⊢
  rcases C.hst q with ⟨t, ht⟩ | ht
  · rw [ht] at key ⊢
    exact lv_astore C.1 C.2.1 hd hL.2 (by rw [← hL.1]; exact hi) rfl key
  · rw [ht] at key ⊢
    exact lv_astoreN C.1 C.2.1 hd hL.2 (by rw [← hL.1]; exact hi) rfl key
theorem s_istore_n (C : z_CX p R s m args meth c D cA n0 st Ls xs y) {i : Fin 4} {x : Int32} (hd : decode (z_by y) pc = .ok (.istore_n i, 1)) (hi : (i : Nat) < L.length) (k : z_SW p l e R s m args below meth c Q D cA n0 st Ls xs y c0 u0 (pc + 1) (z_s1 L i (.int x)) S h) : z_SW p l e R s m args below meth c Q D cA n0 st Ls xs y c0 u0 pc L (.int x :: S) h :=
  fun H locs ls hH hL hS h1 h2 => lv_istore_n C.1 C.2.1 hd rfl hL.2 (by rw [← hL.1]; exact hi) rfl (fun ls' hl' => k H locs ls' hH (z_LR_s1 C.hst hL.1 hl') hS h1 h2)
theorem s_lstore_n (C : z_CX p R s m args meth c D cA n0 st Ls xs y) {i : Fin 4} {x : Int64} (hd : decode (z_by y) pc = .ok (.lstore_n i, 1)) (hi : (i : Nat) + 1 < L.length) (k : z_SW p l e R s m args below meth c Q D cA n0 st Ls xs y c0 u0 (pc + 1) (z_s2 L i (.long x)) S h) : z_SW p l e R s m args below meth c Q D cA n0 st Ls xs y c0 u0 pc L (.long x :: S) h :=
  fun H locs ls hH hL hS h1 h2 => lv_lstore_n C.1 C.2.1 hd rfl hL.2 (by rw [← hL.1]; exact hi) rfl (fun ls' hl' => k H locs ls' hH (z_LR_s2 C.hst hL.1 hl') hS h1 h2)
theorem s_astore_n (C : z_CX p R s m args meth c D cA n0 st Ls xs y) {i : Fin 4} {x : Nat} (hd : decode (z_by y) pc = .ok (.astore_n i, 1)) (hi : (i : Nat) < L.length) (k : z_SW p l e R s m args below meth c Q D cA n0 st Ls xs y c0 u0 (pc + 1) (z_s1 L i (.ref x)) S h) : z_SW p l e R s m args below meth c Q D cA n0 st Ls xs y c0 u0 pc L (.ref x :: S) h :=
  fun H locs ls hH hL hS h1 h2 => lv_astore_n C.1 C.2.1 hd rfl hL.2 (by rw [← hL.1]; exact hi) rfl (fun ls' hl' => k H locs ls' hH (z_LR_s1 C.hst hL.1 hl') hS h1 h2)
theorem s_astoreN_n (C : z_CX p R s m args meth c D cA n0 st Ls xs y) {i : Fin 4} (hd : decode (z_by y) pc = .ok (.astore_n i, 1)) (hi : (i : Nat) < L.length) (k : z_SW p l e R s m args below meth c Q D cA n0 st Ls xs y c0 u0 (pc + 1) (z_s1 L i .null) S h) : z_SW p l e R s m args below meth c Q D cA n0 st Ls xs y c0 u0 pc L (.null :: S) h :=
  fun H locs ls hH hL hS h1 h2 => lv_astore_nN C.1 C.2.1 hd rfl hL.2 (by rw [← hL.1]; exact hi) rfl (fun ls' hl' => k H locs ls' hH (z_LR_s1 (v := .null) C.hst hL.1 hl') hS h1 h2)
theorem s_astoreS_n (C : z_CX p R s m args meth c D cA n0 st Ls xs y) {i : Fin 4} {q : Nat} (hd : decode (z_by y) pc = .ok (.astore_n i, 1)) (hi : (i : Nat) < L.length) (k : z_SW p l e R s m args below meth c Q D cA n0 st Ls xs y c0 u0 (pc + 1) (z_s1 L i (.retAddr q)) S h) : z_SW p l e R s m args below meth c Q D cA n0 st Ls xs y c0 u0 pc L (.retAddr q :: S) h := by
  intro H locs ls hH hL hS h1 h2
  rw [List.map_cons]
  have key : ∀ ls' : Array Slot, lv_has ls' (z_ml y) (((i : Nat), z_ph n0 st (.retAddr q)) :: (z_lvl n0 st L).filter (fun q => !(q.1 == (i : Nat)) && !(q.1 + 1 == (i : Nat) && q.2.category == 2))) → W p l e R s m args below meth c H locs (z_nx h - c0) (z_us h - u0) Q (F0 m (pc + 1) ls' (S.map (z_ph n0 st))) := fun ls' hl' => k H locs ls' hH (z_LR_s1 (v := .retAddr q) C.hst hL.1 hl') hS h1 h2
  simp only [z_ph] at key ⊢
  rcases C.hst q with ⟨t, ht⟩ | ht
  · rw [ht] at key ⊢
    exact lv_astore_n C.1 C.2.1 hd rfl hL.2 (by rw [← hL.1]; exact hi) rfl key
  · rw [ht] at key ⊢
    exact lv_astore_nN C.1 C.2.1 hd rfl hL.2 (by rw [← hL.1]; exact hi) rfl key
theorem s_iinc (C : z_CX p R s m args meth c D cA n0 st Ls xs y) {i : Nat} {v : Int} {x : Int32} (hd : decode (z_by y) pc = .ok (.iinc i v, 3)) (hv : L.getD i none = some (.int x)) (k : z_SW p l e R s m args below meth c Q D cA n0 st Ls xs y c0 u0 (pc + 3) (L.set i (some (.int (x + Int32.ofInt v)))) S h) : z_SW p l e R s m args below meth c Q D cA n0 st Ls xs y c0 u0 pc L S h := by
  intro H locs ls hH hL hS h1 h2
  have hm : (i, z_ph n0 st (.int x)) ∈ z_lvl n0 st L := z_lvl_mem.mpr ⟨_, hv, rfl⟩
  obtain ⟨j, hj⟩ := List.getElem?_of_mem hm
  have hi : i < z_ml y := by
    rw [← hL.1]
    rcases Nat.lt_or_ge i L.length with q | q
    · exact q
    · rw [List.getD_eq_getElem?_getD, List.getElem?_eq_none q] at hv; cases hv
  refine lv_iinc C.1 C.2.1 hd hL.2 (k := j) hj rfl hi rfl (fun ls' hl' => k H locs ls' hH (z_LR_inc (v := .int (x + Int32.ofInt v)) C.hst hL.1 ?_ hl') hS h1 h2)
  intro a w ha hw h2
  have g1 := z_LR_at hL hw
  have hc : (z_ph n0 st w).category = 2 := by cases w <;> first | exact h2 | cases h2
  have g2 := hL.2.2.1.1 a _ g1 hc
  have g3 := z_LR_at hL hv
  rw [ha] at g2
  rw [g2] at g3
  cases g3
theorem s_if_eq (C : z_CX p R s m args meth c D cA n0 st Ls xs y) {x : Int32} {off : Int} (hd : decode (z_by y) pc = .ok (.ifCond .eq off, 3)) (ho : 0 ≤ (pc : Int) + off) (kt : x = 0 → z_SW p l e R s m args below meth c Q D cA n0 st Ls xs y c0 u0 (z_tgt pc off) L S h) (kf : ¬ x = 0 → z_SW p l e R s m args below meth c Q D cA n0 st Ls xs y c0 u0 (pc + 3) L S h) : z_SW p l e R s m args below meth c Q D cA n0 st Ls xs y c0 u0 pc L (.int x :: S) h :=
  fun H locs ls hH hL hS h1 h2 => lv_if_eq C.1 C.2.1 hd (by unfold z_tgt; omega) (fun q => kt q H locs ls hH hL hS h1 h2) (fun q => kf q H locs ls hH hL hS h1 h2)
theorem s_icmp_eq (C : z_CX p R s m args meth c D cA n0 st Ls xs y) {x w : Int32} {off : Int} (hd : decode (z_by y) pc = .ok (.if_icmp .eq off, 3)) (ho : 0 ≤ (pc : Int) + off) (kt : x = w → z_SW p l e R s m args below meth c Q D cA n0 st Ls xs y c0 u0 (z_tgt pc off) L S h) (kf : ¬ x = w → z_SW p l e R s m args below meth c Q D cA n0 st Ls xs y c0 u0 (pc + 3) L S h) : z_SW p l e R s m args below meth c Q D cA n0 st Ls xs y c0 u0 pc L (.int w :: .int x :: S) h :=
  fun H locs ls hH hL hS h1 h2 => lv_icmp_eq C.1 C.2.1 hd (by unfold z_tgt; omega) (fun q => kt q H locs ls hH hL hS h1 h2) (fun q => kf q H locs ls hH hL hS h1 h2)
theorem s_if_ne (C : z_CX p R s m args meth c D cA n0 st Ls xs y) {x : Int32} {off : Int} (hd : decode (z_by y) pc = .ok (.ifCond .ne off, 3)) (ho : 0 ≤ (pc : Int) + off) (kt : ¬ x = 0 → z_SW p l e R s m args below meth c Q D cA n0 st Ls xs y c0 u0 (z_tgt pc off) L S h) (kf : x = 0 → z_SW p l e R s m args below meth c Q D cA n0 st Ls xs y c0 u0 (pc + 3) L S h) : z_SW p l e R s m args below meth c Q D cA n0 st Ls xs y c0 u0 pc L (.int x :: S) h :=
  fun H locs ls hH hL hS h1 h2 => lv_if_ne C.1 C.2.1 hd (by unfold z_tgt; omega) (fun q => kt q H locs ls hH hL hS h1 h2) (fun q => kf q H locs ls hH hL hS h1 h2)
theorem s_icmp_ne (C : z_CX p R s m args meth c D cA n0 st Ls xs y) {x w : Int32} {off : Int} (hd : decode (z_by y) pc = .ok (.if_icmp .ne off, 3)) (ho : 0 ≤ (pc : Int) + off) (kt : ¬ x = w → z_SW p l e R s m args below meth c Q D cA n0 st Ls xs y c0 u0 (z_tgt pc off) L S h) (kf : x = w → z_SW p l e R s m args below meth c Q D cA n0 st Ls xs y c0 u0 (pc + 3) L S h) : z_SW p l e R s m args below meth c Q D cA n0 st Ls xs y c0 u0 pc L (.int w :: .int x :: S) h :=
  fun H locs ls hH hL hS h1 h2 => lv_icmp_ne C.1 C.2.1 hd (by unfold z_tgt; omega) (fun q => kt q H locs ls hH hL hS h1 h2) (fun q => kf q H locs ls hH hL hS h1 h2)
theorem s_if_lt (C : z_CX p R s m args meth c D cA n0 st Ls xs y) {x : Int32} {off : Int} (hd : decode (z_by y) pc = .ok (.ifCond .lt off, 3)) (ho : 0 ≤ (pc : Int) + off) (kt : x < 0 → z_SW p l e R s m args below meth c Q D cA n0 st Ls xs y c0 u0 (z_tgt pc off) L S h) (kf : ¬ x < 0 → z_SW p l e R s m args below meth c Q D cA n0 st Ls xs y c0 u0 (pc + 3) L S h) : z_SW p l e R s m args below meth c Q D cA n0 st Ls xs y c0 u0 pc L (.int x :: S) h :=
  fun H locs ls hH hL hS h1 h2 => lv_if_lt C.1 C.2.1 hd (by unfold z_tgt; omega) (fun q => kt q H locs ls hH hL hS h1 h2) (fun q => kf q H locs ls hH hL hS h1 h2)
theorem s_icmp_lt (C : z_CX p R s m args meth c D cA n0 st Ls xs y) {x w : Int32} {off : Int} (hd : decode (z_by y) pc = .ok (.if_icmp .lt off, 3)) (ho : 0 ≤ (pc : Int) + off) (kt : x < w → z_SW p l e R s m args below meth c Q D cA n0 st Ls xs y c0 u0 (z_tgt pc off) L S h) (kf : ¬ x < w → z_SW p l e R s m args below meth c Q D cA n0 st Ls xs y c0 u0 (pc + 3) L S h) : z_SW p l e R s m args below meth c Q D cA n0 st Ls xs y c0 u0 pc L (.int w :: .int x :: S) h :=
  fun H locs ls hH hL hS h1 h2 => lv_icmp_lt C.1 C.2.1 hd (by unfold z_tgt; omega) (fun q => kt q H locs ls hH hL hS h1 h2) (fun q => kf q H locs ls hH hL hS h1 h2)
theorem s_if_ge (C : z_CX p R s m args meth c D cA n0 st Ls xs y) {x : Int32} {off : Int} (hd : decode (z_by y) pc = .ok (.ifCond .ge off, 3)) (ho : 0 ≤ (pc : Int) + off) (kt : 0 ≤ x → z_SW p l e R s m args below meth c Q D cA n0 st Ls xs y c0 u0 (z_tgt pc off) L S h) (kf : ¬ 0 ≤ x → z_SW p l e R s m args below meth c Q D cA n0 st Ls xs y c0 u0 (pc + 3) L S h) : z_SW p l e R s m args below meth c Q D cA n0 st Ls xs y c0 u0 pc L (.int x :: S) h :=
  fun H locs ls hH hL hS h1 h2 => lv_if_ge C.1 C.2.1 hd (by unfold z_tgt; omega) (fun q => kt q H locs ls hH hL hS h1 h2) (fun q => kf q H locs ls hH hL hS h1 h2)
theorem s_icmp_ge (C : z_CX p R s m args meth c D cA n0 st Ls xs y) {x w : Int32} {off : Int} (hd : decode (z_by y) pc = .ok (.if_icmp .ge off, 3)) (ho : 0 ≤ (pc : Int) + off) (kt : w ≤ x → z_SW p l e R s m args below meth c Q D cA n0 st Ls xs y c0 u0 (z_tgt pc off) L S h) (kf : ¬ w ≤ x → z_SW p l e R s m args below meth c Q D cA n0 st Ls xs y c0 u0 (pc + 3) L S h) : z_SW p l e R s m args below meth c Q D cA n0 st Ls xs y c0 u0 pc L (.int w :: .int x :: S) h :=
  fun H locs ls hH hL hS h1 h2 => lv_icmp_ge C.1 C.2.1 hd (by unfold z_tgt; omega) (fun q => kt q H locs ls hH hL hS h1 h2) (fun q => kf q H locs ls hH hL hS h1 h2)
theorem s_if_gt (C : z_CX p R s m args meth c D cA n0 st Ls xs y) {x : Int32} {off : Int} (hd : decode (z_by y) pc = .ok (.ifCond .gt off, 3)) (ho : 0 ≤ (pc : Int) + off) (kt : 0 < x → z_SW p l e R s m args below meth c Q D cA n0 st Ls xs y c0 u0 (z_tgt pc off) L S h) (kf : ¬ 0 < x → z_SW p l e R s m args below meth c Q D cA n0 st Ls xs y c0 u0 (pc + 3) L S h) : z_SW p l e R s m args below meth c Q D cA n0 st Ls xs y c0 u0 pc L (.int x :: S) h :=
  fun H locs ls hH hL hS h1 h2 => lv_if_gt C.1 C.2.1 hd (by unfold z_tgt; omega) (fun q => kt q H locs ls hH hL hS h1 h2) (fun q => kf q H locs ls hH hL hS h1 h2)
theorem s_icmp_gt (C : z_CX p R s m args meth c D cA n0 st Ls xs y) {x w : Int32} {off : Int} (hd : decode (z_by y) pc = .ok (.if_icmp .gt off, 3)) (ho : 0 ≤ (pc : Int) + off) (kt : w < x → z_SW p l e R s m args below meth c Q D cA n0 st Ls xs y c0 u0 (z_tgt pc off) L S h) (kf : ¬ w < x → z_SW p l e R s m args below meth c Q D cA n0 st Ls xs y c0 u0 (pc + 3) L S h) : z_SW p l e R s m args below meth c Q D cA n0 st Ls xs y c0 u0 pc L (.int w :: .int x :: S) h :=
  fun H locs ls hH hL hS h1 h2 => lv_icmp_gt C.1 C.2.1 hd (by unfold z_tgt; omega) (fun q => kt q H locs ls hH hL hS h1 h2) (fun q => kf q H locs ls hH hL hS h1 h2)
theorem s_if_le (C : z_CX p R s m args meth c D cA n0 st Ls xs y) {x : Int32} {off : Int} (hd : decode (z_by y) pc = .ok (.ifCond .le off, 3)) (ho : 0 ≤ (pc : Int) + off) (kt : x ≤ 0 → z_SW p l e R s m args below meth c Q D cA n0 st Ls xs y c0 u0 (z_tgt pc off) L S h) (kf : ¬ x ≤ 0 → z_SW p l e R s m args below meth c Q D cA n0 st Ls xs y c0 u0 (pc + 3) L S h) : z_SW p l e R s m args below meth c Q D cA n0 st Ls xs y c0 u0 pc L (.int x :: S) h :=
  fun H locs ls hH hL hS h1 h2 => lv_if_le C.1 C.2.1 hd (by unfold z_tgt; omega) (fun q => kt q H locs ls hH hL hS h1 h2) (fun q => kf q H locs ls hH hL hS h1 h2)
theorem s_icmp_le (C : z_CX p R s m args meth c D cA n0 st Ls xs y) {x w : Int32} {off : Int} (hd : decode (z_by y) pc = .ok (.if_icmp .le off, 3)) (ho : 0 ≤ (pc : Int) + off) (kt : x ≤ w → z_SW p l e R s m args below meth c Q D cA n0 st Ls xs y c0 u0 (z_tgt pc off) L S h) (kf : ¬ x ≤ w → z_SW p l e R s m args below meth c Q D cA n0 st Ls xs y c0 u0 (pc + 3) L S h) : z_SW p l e R s m args below meth c Q D cA n0 st Ls xs y c0 u0 pc L (.int w :: .int x :: S) h :=
  fun H locs ls hH hL hS h1 h2 => lv_icmp_le C.1 C.2.1 hd (by unfold z_tgt; omega) (fun q => kt q H locs ls hH hL hS h1 h2) (fun q => kf q H locs ls hH hL hS h1 h2)
theorem s_goto (C : z_CX p R s m args meth c D cA n0 st Ls xs y) {off : Int} (hd : decode (z_by y) pc = .ok (.goto off, 3)) (ho : 0 ≤ (pc : Int) + off) (k : z_SW p l e R s m args below meth c Q D cA n0 st Ls xs y c0 u0 (z_tgt pc off) L S h) : z_SW p l e R s m args below meth c Q D cA n0 st Ls xs y c0 u0 pc L S h :=
  fun H locs ls hH hL hS h1 h2 => lv_goto C.1 C.2.1 hd (by unfold z_tgt; omega) (k H locs ls hH hL hS h1 h2)
theorem s_ifnullR (C : z_CX p R s m args meth c D cA n0 st Ls xs y) {x : Nat} {off : Int} (hd : decode (z_by y) pc = .ok (.ifnull off, 3)) (ho : 0 ≤ (pc : Int) + off) (k : z_SW p l e R s m args below meth c Q D cA n0 st Ls xs y c0 u0 (pc + 3) L S h) : z_SW p l e R s m args below meth c Q D cA n0 st Ls xs y c0 u0 pc L (.ref x :: S) h :=
  fun H locs ls hH hL hS h1 h2 => lv_ifnull C.1 C.2.1 hd (k H locs ls hH hL hS h1 h2)
theorem s_ifnullN (C : z_CX p R s m args meth c D cA n0 st Ls xs y) {off : Int} (hd : decode (z_by y) pc = .ok (.ifnull off, 3)) (ho : 0 ≤ (pc : Int) + off) (k : z_SW p l e R s m args below meth c Q D cA n0 st Ls xs y c0 u0 (z_tgt pc off) L S h) : z_SW p l e R s m args below meth c Q D cA n0 st Ls xs y c0 u0 pc L (.null :: S) h :=
  fun H locs ls hH hL hS h1 h2 => lv_ifnullN C.1 C.2.1 hd (by unfold z_tgt; omega) (k H locs ls hH hL hS h1 h2)
theorem s_ifnonnullR (C : z_CX p R s m args meth c D cA n0 st Ls xs y) {x : Nat} {off : Int} (hd : decode (z_by y) pc = .ok (.ifnonnull off, 3)) (ho : 0 ≤ (pc : Int) + off) (k : z_SW p l e R s m args below meth c Q D cA n0 st Ls xs y c0 u0 (z_tgt pc off) L S h) : z_SW p l e R s m args below meth c Q D cA n0 st Ls xs y c0 u0 pc L (.ref x :: S) h :=
  fun H locs ls hH hL hS h1 h2 => lv_ifnonnull C.1 C.2.1 hd (by unfold z_tgt; omega) (k H locs ls hH hL hS h1 h2)
theorem s_ifnonnullN (C : z_CX p R s m args meth c D cA n0 st Ls xs y) {off : Int} (hd : decode (z_by y) pc = .ok (.ifnonnull off, 3)) (ho : 0 ≤ (pc : Int) + off) (k : z_SW p l e R s m args below meth c Q D cA n0 st Ls xs y c0 u0 (pc + 3) L S h) : z_SW p l e R s m args below meth c Q D cA n0 st Ls xs y c0 u0 pc L (.null :: S) h :=
  fun H locs ls hH hL hS h1 h2 => lv_ifnonnullN C.1 C.2.1 hd (k H locs ls hH hL hS h1 h2)
theorem s_acmp_ne (C : z_CX p R s m args meth c D cA n0 st Ls xs y) {rx ry : Option Nat} {off : Int} (hd : decode (z_by y) pc = .ok (.if_acmp .ne off, 3)) (ho : 0 ≤ (pc : Int) + off) (kt : ¬ rx = ry → z_SW p l e R s m args below meth c Q D cA n0 st Ls xs y c0 u0 (z_tgt pc off) L S h) (kf : rx = ry → z_SW p l e R s m args below meth c Q D cA n0 st Ls xs y c0 u0 (pc + 3) L S h) : z_SW p l e R s m args below meth c Q D cA n0 st Ls xs y c0 u0 pc L (va_rf ry :: va_rf rx :: S) h := by
  intro H locs ls hH hL hS h1 h2
  rw [List.map_cons, List.map_cons, z_ph_rf, z_ph_rf]
  have hinj : z_rm n0 rx = z_rm n0 ry → rx = ry := by
    intro q
    cases rx <;> cases ry <;> simp [z_rm] at q ⊢
    exact q
  exact lv_acmp_ne C.1 C.2.1 hd (by unfold z_tgt; omega) (fun q => kt (fun r => q (by rw [r])) H locs ls hH hL hS h1 h2) (fun q => kf (hinj q) H locs ls hH hL hS h1 h2)
end SIM
