/-! a small machine of our own: frames as lists, one heap of numbered cells; what it does the JVM does too (part 05) -/
abbrev zL : Type := List (Option Value)
abbrev zS : Type := List Value
/-- (next address, slots used), tags, lengths, ints, longs, references -/
abbrev zH : Type := (Nat × Nat) × (Nat → Nat) × (Nat → Nat) × (Nat → Nat → Int32) × (Nat → Nat → Int64) × (Nat → Nat → Option Nat)
abbrev zT : Type := Nat × zL × zS × zH
def z_nx (h : zH) : Nat := h.1.1
def z_us (h : zH) : Nat := h.1.2
def z_tg (h : zH) : Nat → Nat := h.2.1
def z_ln (h : zH) : Nat → Nat := h.2.2.1
def z_iv (h : zH) : Nat → Nat → Int32 := h.2.2.2.1
def z_lv (h : zH) : Nat → Nat → Int64 := h.2.2.2.2.1
def z_rv (h : zH) : Nat → Nat → Option Nat := h.2.2.2.2.2
def z_up2 {α : Type} (f : Nat → Nat → α) (a i : Nat) (v : α) : Nat → Nat → α := fun b j => if b = a ∧ j = i then v else f b j
def z_row {α : Type} (f : Nat → Nat → α) (a : Nat) (g : Nat → α) : Nat → Nat → α := fun b j => if b = a then g j else f b j
def z_sI (h : zH) (a i : Nat) (v : Int32) : zH := (h.1, h.2.1, h.2.2.1, z_up2 (z_iv h) a i v, h.2.2.2.2)
def z_sL (h : zH) (a i : Nat) (v : Int64) : zH := (h.1, h.2.1, h.2.2.1, z_iv h, z_up2 (z_lv h) a i v, z_rv h)
def z_sR (h : zH) (a i : Nat) (v : Option Nat) : zH := (h.1, h.2.1, h.2.2.1, z_iv h, z_lv h, z_up2 (z_rv h) a i v)
def z_sW (h : zH) (a : Nat) (g : Nat → Int32) : zH := (h.1, h.2.1, h.2.2.1, z_row (z_iv h) a g, h.2.2.2.2)
/-- a new cell: its tag, its length, how many slots it takes -/
def z_nw (h : zH) (c len n : Nat) : zH := ((z_nx h + 1, z_us h + n), (fun b => if b = z_nx h then c else z_tg h b), (fun b => if b = z_nx h then len else z_ln h b), z_row (z_iv h) (z_nx h) (fun _ => 0), z_row (z_lv h) (z_nx h) (fun _ => 0), z_row (z_rv h) (z_nx h) (fun _ => none))
/-- the static arrays, the texts and their bytes: lengths and contents (3 tables, 8 texts, 8 rows of bytes; 19 is the script) -/
def z_st : List (List Int32) := [[0, 0, 1, 2, 3, 4, 4], [1, 0, 1, 1, 0], [9, 9999, 24, 99, 60], [], [], [], [], [], [], [], [], [102, 114, 111, 109], [115, 104, 97, 114, 101], [102, 105, 120, 101, 100], [115, 116, 111, 112], [97, 103, 97, 105, 110], [112, 97, 114, 116], [119, 105, 100, 101], [110, 97, 114, 114, 111, 119]]
/-- where the script lies in the heap of ints -/
def z_SC : Nat := 1000000
def z_sl (h : zH) (q : Nat) : Nat := bif Nat.beq q 19 then z_ln h z_SC else (z_st.getD q []).length
def z_sv (h : zH) (q i : Nat) : Int32 := bif Nat.beq q 19 then z_iv h z_SC i else (z_st.getD q []).getD i 0
def z_isL (v : Option Value) : Bool := match v with
  | some (.long _) => true
  | some (.double _) => true
  | _ => false
def z_kp (L : zL) (i : Nat) : zL := match i with
  | 0 => L
  | j + 1 => bif z_isL (L.getD j none) then L.set j none else L
def z_s1 (L : zL) (i : Nat) (v : Value) : zL := (z_kp L i).set i (some v)
def z_s2 (L : zL) (i : Nat) (v : Value) : zL := ((z_kp L i).set i (some v)).set (i + 1) none
def z_tgt (pc : Nat) (off : Int) : Nat := ((pc : Int) + off).toNat
def z_swI (x : Int32) : Int → List Int → Int → Int
  | _, [], d => d
  | lo, o :: os, d => if x = Int32.ofInt lo then o else z_swI x (lo + 1) os d
def z_cmp (x y : Int64) : Int32 := lg_cmp x y
/-- the class of a reference array's elements -/
def z_el (t : Nat) : Nat := bif Nat.beq t 102 then 4 else bif Nat.beq t 103 then 3 else bif Nat.beq t 104 then 5 else bif Nat.beq t 105 then 8 else 0
def z_ldI (L : zL) (i : Nat) (pc : Nat) (S : zS) (h : zH) : Option zT := match L.getD i none with
  | some (.int x) => some (pc, L, .int x :: S, h)
  | _ => none
def z_ldL (L : zL) (i : Nat) (pc : Nat) (S : zS) (h : zH) : Option zT := match L.getD i none with
  | some (.long x) => some (pc, L, .long x :: S, h)
  | _ => none
def z_ldA (L : zL) (i : Nat) (pc : Nat) (S : zS) (h : zH) : Option zT := match L.getD i none with
  | some (.ref x) => some (pc, L, .ref x :: S, h)
  | some .null => some (pc, L, .null :: S, h)
  | some (.retAddr q) => some (pc, L, .retAddr q :: S, h)
  | _ => none
def z_stI (L : zL) (i : Nat) (pc : Nat) (S : zS) (h : zH) : Option zT := match S with
  | .int x :: S => bif Nat.blt i L.length then some (pc, z_s1 L i (.int x), S, h) else none
  | _ => none
def z_stL (L : zL) (i : Nat) (pc : Nat) (S : zS) (h : zH) : Option zT := match S with
  | .long x :: S => bif Nat.blt (i + 1) L.length then some (pc, z_s2 L i (.long x), S, h) else none
  | _ => none
def z_stA (L : zL) (i : Nat) (pc : Nat) (S : zS) (h : zH) : Option zT := match S with
  | .ref x :: S => bif Nat.blt i L.length then some (pc, z_s1 L i (.ref x), S, h) else none
  | .null :: S => bif Nat.blt i L.length then some (pc, z_s1 L i .null, S, h) else none
  | .retAddr q :: S => bif Nat.blt i L.length then some (pc, z_s1 L i (.retAddr q), S, h) else none
  | _ => none
def z_ii (f : Int32 → Int32 → Int32) (L : zL) (pc : Nat) (S : zS) (h : zH) : Option zT := match S with
  | .int y :: .int x :: S => some (pc, L, .int (f x y) :: S, h)
  | _ => none
def z_ll (f : Int64 → Int64 → Int64) (L : zL) (pc : Nat) (S : zS) (h : zH) : Option zT := match S with
  | .long y :: .long x :: S => some (pc, L, .long (f x y) :: S, h)
  | _ => none
def z_li (f : Int64 → Int32 → Int64) (L : zL) (pc : Nat) (S : zS) (h : zH) : Option zT := match S with
  | .int y :: .long x :: S => some (pc, L, .long (f x y) :: S, h)
  | _ => none
def z_i1 (f : Int32 → Value) (L : zL) (pc : Nat) (S : zS) (h : zH) : Option zT := match S with
  | .int x :: S => some (pc, L, f x :: S, h)
  | _ => none
def z_l1 (f : Int64 → Value) (L : zL) (pc : Nat) (S : zS) (h : zH) : Option zT := match S with
  | .long x :: S => some (pc, L, f x :: S, h)
  | _ => none
def z_dvI (L : zL) (pc : Nat) (S : zS) (h : zH) : Option zT := match S with
  | .int y :: .int x :: S => if y = 0 then none else some (pc, L, .int (x / y) :: S, h)
  | _ => none
def z_rmI (L : zL) (pc : Nat) (S : zS) (h : zH) : Option zT := match S with
  | .int y :: .int x :: S => if y = 0 then none else some (pc, L, .int (x - x / y * y) :: S, h)
  | _ => none
def z_dvL (L : zL) (pc : Nat) (S : zS) (h : zH) : Option zT := match S with
  | .long y :: .long x :: S => if y = 0 then none else some (pc, L, .long (x / y) :: S, h)
  | _ => none
/-- a branch: the target, the next place -/
def z_b1 (c : ClassFile.Cond) (L : zL) (t f : Nat) (S : zS) (h : zH) : Option zT := match S with
  | .int x :: S => (match c with
    | .eq => if x = 0 then some (t, L, S, h) else some (f, L, S, h)
    | .ne => if x = 0 then some (f, L, S, h) else some (t, L, S, h)
    | .lt => if x < 0 then some (t, L, S, h) else some (f, L, S, h)
    | .ge => if 0 ≤ x then some (t, L, S, h) else some (f, L, S, h)
    | .gt => if 0 < x then some (t, L, S, h) else some (f, L, S, h)
    | .le => if x ≤ 0 then some (t, L, S, h) else some (f, L, S, h))
  | _ => none
def z_b2 (c : ClassFile.Cond) (L : zL) (t f : Nat) (S : zS) (h : zH) : Option zT := match S with
  | .int y :: .int x :: S => (match c with
    | .eq => if x = y then some (t, L, S, h) else some (f, L, S, h)
    | .ne => if x = y then some (f, L, S, h) else some (t, L, S, h)
    | .lt => if x < y then some (t, L, S, h) else some (f, L, S, h)
    | .ge => if y ≤ x then some (t, L, S, h) else some (f, L, S, h)
    | .gt => if y < x then some (t, L, S, h) else some (f, L, S, h)
    | .le => if x ≤ y then some (t, L, S, h) else some (f, L, S, h))
  | _ => none
def z_nl (L : zL) (t f : Nat) (S : zS) (h : zH) : Option zT := match S with
  | .null :: S => some (t, L, S, h)
  | .ref _ :: S => some (f, L, S, h)
  | _ => none
def z_acn (L : zL) (t f : Nat) (S : zS) (h : zH) : Option zT := match S with
  | .ref y :: .ref x :: S => if x = y then some (f, L, S, h) else some (t, L, S, h)
  | .null :: .null :: S => some (f, L, S, h)
  | .ref _ :: .null :: S => some (t, L, S, h)
  | .null :: .ref _ :: S => some (t, L, S, h)
  | _ => none
/-- the value of a field -/
def z_fv (h : zH) (a j : Nat) (k : Int) : Value := if k = 1 then .long (z_lv h a j) else if k = 2 then va_rf (z_rv h a j) else .int (z_iv h a j)
def z_gf (c j : Nat) (k : Int) (L : zL) (pc : Nat) (S : zS) (h : zH) : Option zT := match S with
  | .ref a :: S => if z_tg h a = c then some (pc, L, z_fv h a j k :: S, h) else none
  | .retAddr q :: S => if c = 20 ∧ 3 ≤ q ∧ q < 11 then some (pc, L, (if j = 0 then .retAddr (q + 8) else .int 0) :: S, h) else none
  | _ => none
def z_pf (c j : Nat) (k : Int) (L : zL) (pc : Nat) (S : zS) (h : zH) : Option zT := match S with
  | .int x :: .ref a :: S => if z_tg h a = c ∧ (k = 0 ∨ (k = 3 ∧ (x = 0 ∨ x = 1))) then some (pc, L, S, z_sI h a j x) else none
  | .long x :: .ref a :: S => if z_tg h a = c ∧ k = 1 then some (pc, L, S, z_sL h a j x) else none
  | .ref b :: .ref a :: S => if z_tg h a = c ∧ k = 2 then some (pc, L, S, z_sR h a j (some b)) else none
  | .null :: .ref a :: S => if z_tg h a = c ∧ k = 2 then some (pc, L, S, z_sR h a j none) else none
  | _ => none
/-- the index is in the row -/
def z_in (i : Int32) (n : Nat) : Prop := 0 ≤ i.toInt ∧ i.toInt < (n : Int)
def z_ix (i : Int32) : Nat := i.toInt.toNat
def z_aldI (L : zL) (pc : Nat) (S : zS) (h : zH) : Option zT := match S with
  | .int i :: .ref a :: S => if z_tg h a = 100 ∧ (0 ≤ i.toInt ∧ i.toInt < (z_ln h a : Int)) then some (pc, L, .int (z_iv h a (z_ix i)) :: S, h) else none
  | .int i :: .retAddr q :: S => if (q < 3 ∨ q = 19) ∧ (0 ≤ i.toInt ∧ i.toInt < (z_sl h q : Int)) then some (pc, L, .int (z_sv h q (z_ix i)) :: S, h) else none
  | _ => none
def z_aldB (L : zL) (pc : Nat) (S : zS) (h : zH) : Option zT := match S with
  | .int i :: .ref a :: S => if z_tg h a = 101 ∧ (0 ≤ i.toInt ∧ i.toInt < (z_ln h a : Int)) then some (pc, L, .int (z_iv h a (z_ix i)) :: S, h) else none
  | .int i :: .retAddr q :: S => if (11 ≤ q ∧ q < 19) ∧ (0 ≤ i.toInt ∧ i.toInt < (z_sl h q : Int)) then some (pc, L, .int (z_sv h q (z_ix i)) :: S, h) else none
  | _ => none
def z_ais (t : Nat) (L : zL) (pc : Nat) (S : zS) (h : zH) : Option zT := match S with
  | .int x :: .int i :: .ref a :: S => if z_tg h a = t ∧ (0 ≤ i.toInt ∧ i.toInt < (z_ln h a : Int)) ∧ (t = 100 ∨ x = 0 ∨ x = 1) then some (pc, L, S, z_sI h a (z_ix i) x) else none
  | _ => none
def z_ard (L : zL) (pc : Nat) (S : zS) (h : zH) : Option zT := match S with
  | .int i :: .ref a :: S => if (102 ≤ z_tg h a ∧ z_tg h a < 106) ∧ (0 ≤ i.toInt ∧ i.toInt < (z_ln h a : Int)) then some (pc, L, va_rf (z_rv h a (z_ix i)) :: S, h) else none
  | _ => none
def z_ars (L : zL) (pc : Nat) (S : zS) (h : zH) : Option zT := match S with
  | .ref v :: .int i :: .ref a :: S => if (102 ≤ z_tg h a ∧ z_tg h a < 106) ∧ (0 ≤ i.toInt ∧ i.toInt < (z_ln h a : Int)) ∧ z_tg h v = z_el (z_tg h a) then some (pc, L, S, z_sR h a (z_ix i) (some v)) else none
  | _ => none
def z_len (L : zL) (pc : Nat) (S : zS) (h : zH) : Option zT := match S with
  | .ref a :: S => if 100 ≤ z_tg h a ∧ z_tg h a < 106 then some (pc, L, .int (Int32.ofNat (z_ln h a)) :: S, h) else none
  | .retAddr q :: S => if q < 3 ∨ (11 ≤ q ∧ q < 20) then some (pc, L, .int (Int32.ofNat (z_sl h q)) :: S, h) else none
  | _ => none
def z_na (t : Nat) (L : zL) (pc : Nat) (S : zS) (h : zH) : Option zT := match S with
  | .int n :: S => if 0 ≤ n.toInt ∧ n.toInt ≤ 100000 then some (pc, L, .ref (z_nx h) :: S, z_nw h t (z_ix n) (z_ix n)) else none
  | _ => none
def z_cpy (L : zL) (pc : Nat) (S : zS) (h : zH) : Option zT := match S with
  | .int n :: .int dp :: .ref b :: .int sp :: .ref a :: S =>
    if (z_tg h a = 100 ∧ z_tg h b = 100 ∧ ¬ a = b) ∧ (0 ≤ sp.toInt ∧ 0 ≤ dp.toInt ∧ 0 ≤ n.toInt ∧ sp.toInt + n.toInt ≤ (z_ln h a : Int) ∧ dp.toInt + n.toInt ≤ (z_ln h b : Int)) ∧ S = [] then some (pc, L, S, z_sW h b (va_cpy (z_iv h a) (z_iv h b) (z_ix sp) (z_ix dp) (z_ix n))) else none
  | _ => none
def z_op (e : zE) (pc : Nat) (L : zL) (S : zS) (h : zH) : Option zT :=
  match e.1 with
  | .iconst n => some (pc + 1, L, .int (Int32.ofInt n) :: S, h)
  | .bipush n => some (pc + 2, L, .int (Int32.ofInt n) :: S, h)
  | .sipush n => some (pc + 3, L, .int (Int32.ofInt n) :: S, h)
  | .lconst n => some (pc + 1, L, .long (Int64.ofNat n) :: S, h)
  | .aconst_null => some (pc + 1, L, .null :: S, h)
  | .ldc _ => some (pc + 2, L, (bif Nat.beq e.2.2.1 0 then .int (Int32.ofInt e.2.2.2.2) else .retAddr (3 + e.2.2.2.1)) :: S, h)
  | .ldc_w _ => some (pc + 3, L, .int (Int32.ofInt e.2.2.2.2) :: S, h)
  | .ldc2_w _ => some (pc + 3, L, .long (Int64.ofInt e.2.2.2.2) :: S, h)
  | .getstatic _ => some (pc + 3, L, (bif Nat.beq e.2.2.1 0 then .retAddr e.2.2.2.1 else .int (Int32.ofInt e.2.2.2.2)) :: S, h)
  | .iload i => z_ldI L i (pc + 2) S h
  | .iload_n i => z_ldI L i (pc + 1) S h
  | .lload i => z_ldL L i (pc + 2) S h
  | .lload_n i => z_ldL L i (pc + 1) S h
  | .aload i => z_ldA L i (pc + 2) S h
  | .aload_n i => z_ldA L i (pc + 1) S h
  | .istore i => z_stI L i (pc + 2) S h
  | .istore_n i => z_stI L i (pc + 1) S h
  | .lstore i => z_stL L i (pc + 2) S h
  | .lstore_n i => z_stL L i (pc + 1) S h
  | .astore i => z_stA L i (pc + 2) S h
  | .astore_n i => z_stA L i (pc + 1) S h
  | .iinc i n => (match L.getD i none with
    | some (.int x) => some (pc + 3, L.set i (some (.int (x + Int32.ofInt n))), S, h)
    | _ => none)
  | .iadd => z_ii (· + ·) L (pc + 1) S h
  | .isub => z_ii (· - ·) L (pc + 1) S h
  | .imul => z_ii (· * ·) L (pc + 1) S h
  | .iand => z_ii (· &&& ·) L (pc + 1) S h
  | .ior => z_ii (· ||| ·) L (pc + 1) S h
  | .ixor => z_ii (· ^^^ ·) L (pc + 1) S h
  | .ishl => z_ii (fun x y => x <<< (y &&& 31)) L (pc + 1) S h
  | .ishr => z_ii (fun x y => x >>> (y &&& 31)) L (pc + 1) S h
  | .idiv => z_dvI L (pc + 1) S h
  | .irem => z_rmI L (pc + 1) S h
  | .ldiv => z_dvL L (pc + 1) S h
  | .ineg => z_i1 (fun x => .int (-x)) L (pc + 1) S h
  | .i2l => z_i1 (fun x => .long x.toInt64) L (pc + 1) S h
  | .i2b => z_i1 (fun x => .int x.toInt8.toInt32) L (pc + 1) S h
  | .i2s => z_i1 (fun x => .int x.toInt16.toInt32) L (pc + 1) S h
  | .i2c => z_i1 (fun x => .int (x.toUInt32 % 65536).toInt32) L (pc + 1) S h
  | .l2i => z_l1 (fun x => .int x.toInt32) L (pc + 1) S h
  | .lneg => z_l1 (fun x => .long (-x)) L (pc + 1) S h
  | .ladd => z_ll (· + ·) L (pc + 1) S h
  | .lsub => z_ll (· - ·) L (pc + 1) S h
  | .lmul => z_ll (· * ·) L (pc + 1) S h
  | .land => z_ll (· &&& ·) L (pc + 1) S h
  | .lor => z_ll (· ||| ·) L (pc + 1) S h
  | .lxor => z_ll (· ^^^ ·) L (pc + 1) S h
  | .lshl => z_li (fun x y => x <<< (y.toInt64 &&& 63)) L (pc + 1) S h
  | .lshr => z_li (fun x y => x >>> (y.toInt64 &&& 63)) L (pc + 1) S h
  | .lushr => z_li (fun x y => (x.toUInt64 >>> (y.toInt64.toUInt64 &&& Int64.toUInt64 63)).toInt64) L (pc + 1) S h
  | .lcmp => (match S with
    | .long y :: .long x :: S => some (pc + 1, L, .int (z_cmp x y) :: S, h)
    | _ => none)
  | .dup => (match S with
    | .int x :: S => some (pc + 1, L, .int x :: .int x :: S, h)
    | .ref x :: S => some (pc + 1, L, .ref x :: .ref x :: S, h)
    | _ => none)
  | .pop => (match S with
    | .int _ :: S => some (pc + 1, L, S, h)
    | _ => none)
  | .dup2 => (match S with
    | .int x :: .ref y :: S => some (pc + 1, L, .int x :: .ref y :: .int x :: .ref y :: S, h)
    | _ => none)
  | .goto off => some (z_tgt pc off, L, S, h)
  | .ifCond c off => z_b1 c L (z_tgt pc off) (pc + 3) S h
  | .if_icmp c off => z_b2 c L (z_tgt pc off) (pc + 3) S h
  | .ifnull off => z_nl L (z_tgt pc off) (pc + 3) S h
  | .ifnonnull off => z_nl L (pc + 3) (z_tgt pc off) S h
  | .if_acmp .ne off => z_acn L (z_tgt pc off) (pc + 3) S h
  | .tableswitch d lo _ offs => (match S with
    | .int x :: S => some (z_tgt pc (z_swI x lo offs.toList d), L, S, h)
    | _ => none)
  | .getfield _ => z_gf e.2.2.1 e.2.2.2.1 e.2.2.2.2 L (pc + 3) S h
  | .putfield _ => z_pf e.2.2.1 e.2.2.2.1 e.2.2.2.2 L (pc + 3) S h
  | .iaload => z_aldI L (pc + 1) S h
  | .baload => z_aldB L (pc + 1) S h
  | .iastore => z_ais 100 L (pc + 1) S h
  | .bastore => z_ais 101 L (pc + 1) S h
  | .aaload => z_ard L (pc + 1) S h
  | .aastore => z_ars L (pc + 1) S h
  | .arraylength => z_len L (pc + 1) S h
  | .newarray _ => z_na e.2.2.1 L (pc + 2) S h
  | .anewarray _ => z_na e.2.2.1 L (pc + 3) S h
  | .new _ => some (pc + 3, L, .ref (z_nx h) :: S, z_nw h e.2.2.1 0 e.2.2.2.1)
  | .invokespecial _ => (bif Nat.beq e.2.2.1 0 then (match S with
    | [.ref _] => some (pc + 3, L, [], h)
    | _ => none) else none)
  | .invokestatic _ => (bif Nat.beq e.2.2.1 1 then z_cpy L (pc + 3) S h else none)
  | _ => none
def z_find (pc : Nat) : List (Nat × zE) → zE
  | [] => (.athrow, 0, 0, 0, 0)
  | q :: l => bif Nat.beq q.1 pc then q.2 else z_find pc l
/-- the instruction of a method at a place -/
def z_c (y pc : Nat) : zE := z_find pc (((z_tab.getD (y / 16) []).getD (y % 16) []).getD (pc / 16) [])
def z_mi (y : Nat) : zM := (z_inf.getD (y / 16) []).getD (y % 16) z_m0
def z_nm (y : Nat) : MethodName := (z_mi y).1
def z_by (y : Nat) : ByteArray := (z_mi y).2.1
def z_ml (y : Nat) : Nat := (z_mi y).2.2.1
def z_rt (y : Nat) : Option FieldType := (z_mi y).2.2.2.1
def z_fr (y : Nat) : Nat := (z_mi y).2.2.2.2.1
def z_lo (y : Nat) : Nat := (z_mi y).2.2.2.2.2.1
def z_rc (y : Nat) : Nat := (z_mi y).2.2.2.2.2.2
def z_lcs : zS → zL
  | [] => []
  | .long x :: vs => some (.long x) :: none :: z_lcs vs
  | .double x :: vs => some (.double x) :: none :: z_lcs vs
  | v :: vs => some v :: z_lcs vs
/-- the locals at a method's entry -/
def z_ini (y : Nat) (args : zS) : zL := z_lcs args ++ List.replicate (z_ml y - (z_lcs args).length) none
def z_wt : zS → Nat
  | [] => 0
  | .long _ :: vs => 2 + z_wt vs
  | .double _ :: vs => 2 + z_wt vs
  | _ :: vs => 1 + z_wt vs
/-- the receiver is of the callee's class (0: a static method) -/
def z_rok (t : Nat) (h : zH) (args : zS) : Bool := Nat.beq t 0 || (match args with
  | .ref a :: _ => Nat.beq (z_tg h a) t
  | .retAddr q :: _ => Nat.beq t 20 && (Nat.ble 3 q && Nat.blt q 11)
  | _ => false)
/-- what an int answer becomes by the method's type -/
def z_nar (ty : Option FieldType) (v : Int32) : Option Value := match ty with
  | some .int => some (.int v)
  | some .boolean => if v = 0 ∨ v = 1 then some (.int v) else none
  | some .byte => if v = v.toInt8.toInt32 then some (.int v) else none
  | some .char => if v = (v.toUInt32 % 65536).toInt32 then some (.int v) else none
  | _ => none
def z_ret (i : Instr) (ty : Option FieldType) (S : zS) : Option (Option Value) := match i with
  | .return_ => (match ty, S with
    | none, [] => some none
    | _, _ => none)
  | .ireturn => (match S with
    | [.int v] => (match z_nar ty v with
      | some w => some (some w)
      | none => none)
    | _ => none)
  | .lreturn => (match ty, S with
    | some .long, [.long v] => some (some (.long v))
    | _, _ => none)
  | .areturn => (match ty, S with
    | some (.object n), [.ref a] => if n = "java/lang/String" then none else some (some (.ref a))
    | some (.object n), [.null] => if n = "java/lang/String" then none else some (some .null)
    | some (.object n), [.retAddr q] => if n = "java/lang/String" then some (some (.retAddr q)) else none
    | _, _ => none)
  | _ => none
def z_isR : Instr → Bool
  | .return_ => true
  | .ireturn => true
  | .lreturn => true
  | .areturn => true
  | _ => false
def z_isC : Instr → Bool
  | .invokestatic _ => true
  | .invokevirtual _ => true
  | .invokespecial _ => true
  | _ => false
def z_arg (n : Nat) (S : zS) : zS := (S.take n).reverse
/-- a call may be made: arguments, what lies below them, the receiver, the callee's locals -/
def z_grd (z n : Nat) (S : zS) (h : zH) : Bool := Nat.ble n S.length && Nat.ble (z_wt (S.drop n)) 8 && z_rok (z_rc z) h (z_arg n S) && Nat.ble (z_lcs (z_arg n S)).length (z_ml z)
/-- the machine: from a place of a method to its answer -/
def z_run : Nat → Nat → Nat → zL → zS → zH → Option (Option Value × zH)
  | 0, _, _, _, _, _ => none
  | n + 1, y, pc, L, S, h =>
    bif z_isR (z_c y pc).1 then (match z_ret (z_c y pc).1 (z_rt y) S with
      | some r => some (r, h)
      | none => none)
    else bif z_isC (z_c y pc).1 && Nat.ble 2 (z_c y pc).2.2.1 then
      (bif z_grd (z_c y pc).2.2.1 (z_c y pc).2.2.2.1 S h then
        (match z_run n (z_c y pc).2.2.1 0 (z_ini (z_c y pc).2.2.1 (z_arg (z_c y pc).2.2.2.1 S)) [] h with
        | some r => z_run n y (pc + 3) L (r.1.toList ++ S.drop (z_c y pc).2.2.2.1) r.2
        | none => none)
      else none)
    else (match z_op (z_c y pc) pc L S h with
      | some t => z_run n y t.1 t.2.1 t.2.2.1 t.2.2.2
      | none => none)
