/-! what is to be looked up of each instruction: its decoding, the words that it needs among the tables' -/
def z_tbl : List Jvm.Cond := lw_tbl.filter goodWord
def z_cl (c : Nat) : vw_C := vwCl.getD (c - 1) ("", TX0, 0)
def z_fd (c j : Nat) : String × String × String × Bool := (z_cl c).2.1 j
/-- the kind of a field by its descriptor -/
def z_kd (d : String) : Int := if d = "I" then 0 else if d = "Z" then 3 else if d = "J" then 1 else 2
def z_sd (b : Nat) : String × String × String := bif Nat.beq b 0 then (RX0, "GROUP", "[I") else bif Nat.beq b 1 then (RX6, "LEAST", "[I") else bif Nat.beq b 2 then (RX6, "MOST", "[I") else (RJ3, "SIOOBE_FORMATTER", "Ljava/util/function/BiFunction;")
def z_tx (b : Nat) : String := (["from", "share", "fixed", "stop", "again", "part", "wide", "narrow"] : List String).getD b ""
def z_codeW (z : Nat) : Jvm.Cond := .code (z_nm z) (z_by z) (z_ml z) (z_rt z)
def z_need (own : String) (e : zE) : List Jvm.Cond := match e.1 with
  | .getfield i => bif Nat.beq e.2.2.1 20 then [.fieldLink own i RJ0 (bif Nat.beq e.2.2.2.1 0 then "value" else "coder") (bif Nat.beq e.2.2.2.1 0 then "[B" else "B")] else [.fieldLink own i (z_cl e.2.2.1).1 (z_fd e.2.2.1 e.2.2.2.1).2.1 (z_fd e.2.2.1 e.2.2.2.1).2.2.1]
  | .putfield i => [.fieldLink own i (z_cl e.2.2.1).1 (z_fd e.2.2.1 e.2.2.2.1).2.1 (z_fd e.2.2.1 e.2.2.2.1).2.2.1]
  | .getstatic i => bif Nat.beq e.2.2.1 0 then [.fieldLink own i (z_sd e.2.2.2.1).1 (z_sd e.2.2.2.1).2.1 (z_sd e.2.2.2.1).2.2] else [.fieldLink own i RJ0 "COMPACT_STRINGS" "Z"]
  | .invokestatic i => bif Nat.beq e.2.2.1 1 then [.methodLink own i arraycopyName, .native arraycopyName, .static arraycopyName, .initialized "java/lang/System"] else
      bif decide (e.2.2.2.2 = 0) then [.static (z_nm e.2.2.1), .initialized (z_nm e.2.2.1).cls, .methodLink own i (z_nm e.2.2.1)] else [.static (z_nm e.2.2.1), .initialized (z_nm e.2.2.1).cls]
  | .invokevirtual i => [.instanceMethod (z_nm e.2.2.1), .selects (z_nm e.2.2.1).cls (z_nm e.2.2.1) (z_nm e.2.2.1), .initialized (z_nm e.2.2.1).cls, .methodLink own i (z_nm e.2.2.1)]
  | .invokespecial i => bif Nat.beq e.2.2.1 0 then [.methodLink own i objectInit, .instanceMethod objectInit, .code objectInit ⟨#[0xb1]⟩ 1 none] else
      bif decide (e.2.2.2.2 = 0) then [.instanceMethod (z_nm e.2.2.1), .initialized (z_nm e.2.2.1).cls, .methodLink own i (z_nm e.2.2.1)] else [.instanceMethod (z_nm e.2.2.1), .initialized (z_nm e.2.2.1).cls]
  | .new i => [.classLink own i (z_cl e.2.2.1).1, .instantiable (z_cl e.2.2.1).1 (z_cl e.2.2.1).2.2, .initialized (z_cl e.2.2.1).1]
  | .anewarray i => [.classLink own i (z_cl (z_el e.2.2.1)).1]
  | .newarray t => [.arrayClass (newarray.typeOf t)]
  | .ldc i => bif Nat.beq e.2.2.1 0 then [.constant own i (Int32.ofInt e.2.2.2.2)] else []
  | .ldc_w i => [.constant own i (Int32.ofInt e.2.2.2.2)]
  | .ldc2_w i => [.constantLong own i (Int64.ofInt e.2.2.2.2)]
  | _ => []
/-- every method's code is among the tables' words -/
def z_CODE : Prop := ∀ z, 2 ≤ z → z < 233 → z_codeW z ∈ z_tbl
/-- the words that are no good for a callee: they are carried by themselves -/
def z_nest : List Jvm.Cond := lw_tbl.filter (fun w => match w with
  | .methodLinkNest _ _ _ _ => true
  | _ => false)
def z_ndN (own : String) (e : zE) : List Jvm.Cond := match e.1 with
  | .invokestatic i => bif Nat.beq e.2.2.1 1 || decide (e.2.2.2.2 = 0) then [] else [.methodLinkNest own i (z_nm e.2.2.1) "SavedThird"]
  | .invokespecial i => bif Nat.beq e.2.2.1 0 || decide (e.2.2.2.2 = 0) then [] else [.methodLinkNest own i (z_nm e.2.2.1) "SavedThird"]
  | _ => []
def z_len1 : Instr → Nat
  | .bipush _ => 2
  | .sipush _ => 3
  | .ldc _ => 2
  | .ldc_w _ => 3
  | .ldc2_w _ => 3
  | .getstatic _ => 3
  | .iload _ => 2
  | .lload _ => 2
  | .aload _ => 2
  | .istore _ => 2
  | .lstore _ => 2
  | .astore _ => 2
  | .iinc _ _ => 3
  | .goto _ => 3
  | .ifCond _ _ => 3
  | .if_icmp _ _ => 3
  | .ifnull _ => 3
  | .ifnonnull _ => 3
  | .if_acmp _ _ => 3
  | .getfield _ => 3
  | .putfield _ => 3
  | .newarray _ => 2
  | .anewarray _ => 3
  | .new _ => 3
  | .invokespecial _ => 3
  | .invokestatic _ => 3
  | .invokevirtual _ => 3
  | _ => 1
/-- a call: room, names, how many arguments -/
def z_okC (y z n : Nat) (st : Bool) : Bool :=
  Nat.blt z 233 && Nat.ble (z_fr z + 1) (z_fr y) && Nat.ble (8 + (z_ml z + 11) + z_lo z) (z_lo y) && decide ((z_nm z).cls ≠ "java/lang/invoke/MethodHandle") && decide ((z_nm z).cls ≠ "java/lang/invoke/VarHandle") && plainFor (z_nm z) &&
  (bif st then decide ((parseMethodDescriptor (z_nm z).desc).map (fun d => d.parameters.length) = some n) && Nat.beq (z_rc z) 0
   else decide ((parseMethodDescriptor (z_nm z).desc).map (fun d => d.parameters.length + 1) = some n) && (bif Nat.beq (z_rc z) 20 then decide ((z_nm z).cls = "java/lang/String") else (Nat.ble 1 (z_rc z) && Nat.ble (z_rc z) 12 && decide ((z_nm z).cls = (z_cl (z_rc z)).1))))
def z_side (y pc : Nat) (e : zE) : Bool := match e.1 with
  | .bipush n => decide ((Int8.ofInt n).toInt32 = Int32.ofInt n)
  | .sipush n => decide ((Int16.ofInt n).toInt32 = Int32.ofInt n)
  | .ldc i => bif Nat.beq e.2.2.1 0 then true else decide ((z_nm y).cls = RX6 ∧ e.2.2.2.1 < 8 ∧ Jvm.Cond.stringRef RX6 i (z_tx e.2.2.2.1) ∈ lw_tbl)
  | .getstatic _ => bif Nat.beq e.2.2.1 0 then decide (e.2.2.2.1 < 3 ∨ e.2.2.2.1 = 100) else decide (e.2.2.2.2 = 1)
  | .goto off => decide (0 ≤ (pc : Int) + off)
  | .ifCond _ off => decide (0 ≤ (pc : Int) + off)
  | .if_icmp _ off => decide (0 ≤ (pc : Int) + off)
  | .ifnull off => decide (0 ≤ (pc : Int) + off)
  | .ifnonnull off => decide (0 ≤ (pc : Int) + off)
  | .if_acmp _ off => decide (0 ≤ (pc : Int) + off)
  | .tableswitch d lo hi offs => decide (0 ≤ (pc : Int) + d ∧ 0 ≤ lo ∧ hi = lo + offs.size - 1 ∧ hi < 1000000) && offs.toList.all (fun o => decide (0 ≤ (pc : Int) + o))
  | .getfield _ => bif Nat.beq e.2.2.1 20 then decide (e.2.2.2.1 < 2) else Nat.ble 1 e.2.2.1 && Nat.ble e.2.2.1 12 && Nat.blt e.2.2.2.1 (z_cl e.2.2.1).2.2 && decide ((z_fd e.2.2.1 e.2.2.2.1).1 = (z_cl e.2.2.1).1) && decide (e.2.2.2.2 = z_kd (z_fd e.2.2.1 e.2.2.2.1).2.2.1)
  | .putfield _ => Nat.ble 1 e.2.2.1 && Nat.ble e.2.2.1 12 && Nat.blt e.2.2.2.1 (z_cl e.2.2.1).2.2 && decide ((z_fd e.2.2.1 e.2.2.2.1).1 = (z_cl e.2.2.1).1) && decide (e.2.2.2.2 = z_kd (z_fd e.2.2.1 e.2.2.2.1).2.2.1) &&
      (bif (z_fd e.2.2.1 e.2.2.2.1).2.2.2 then decide ((z_nm y).name = "<init>") && decide ((z_nm y).cls = (z_cl e.2.2.1).1) else true)
  | .new _ => Nat.ble 1 e.2.2.1 && Nat.ble e.2.2.1 12 && Nat.beq e.2.2.2.1 (z_cl e.2.2.1).2.2
  | .newarray t => decide ((t = .int ∧ e.2.2.1 = 100) ∨ (t = .boolean ∧ e.2.2.1 = 101))
  | .anewarray _ => Nat.ble 102 e.2.2.1 && Nat.ble e.2.2.1 105
  | .invokestatic _ => bif Nat.beq e.2.2.1 1 then Nat.ble 1 (z_fr y) && Nat.ble 30 (z_lo y) else z_okC y e.2.2.1 e.2.2.2.1 true
  | .invokevirtual _ => z_okC y e.2.2.1 e.2.2.2.1 false
  | .invokespecial _ => bif Nat.beq e.2.2.1 0 then Nat.ble 1 (z_fr y) && Nat.ble 20 (z_lo y) else z_okC y e.2.2.1 e.2.2.2.1 false && decide ((z_nm e.2.2.1).name = "<init>") && decide (z_rt e.2.2.1 = none)
  | _ => true
def z_chk1 (y : Nat) (q : Nat × zE) (ps : List Nat) : Bool :=
  decide (decode (z_by y) q.1 = .ok (q.2.1, q.2.2.1)) && (match q.2.1 with
    | .tableswitch _ _ _ _ => true
    | i => Nat.beq q.2.2.1 (z_len1 i)) && z_side y q.1 q.2 && decide ((z_need (z_nm y).cls q.2 ++ z_ndN (z_nm y).cls q.2).map some = ps.map (fun p => lw_tbl[p]?)) && (z_need (z_nm y).cls q.2).all goodWord
def z_chkL (y : Nat) : List (Nat × zE) → List (List Nat) → Bool
  | [], _ => true
  | q :: l, [] => z_chk1 y q [] && z_chkL y l []
  | q :: l, p :: ps => z_chk1 y q p && z_chkL y l ps
def z_chkM (y : Nat) : zK → List (List (List Nat)) → Bool
  | [], _ => true
  | b :: l, [] => z_chkL y b [] && z_chkM y l []
  | b :: l, p :: ps => z_chkL y b p && z_chkM y l ps
/-- every row of a bucket list is good -/
def z_okK (y : Nat) (K : zK) : Prop := ∀ b ∈ K, ∃ ps, z_chkL y b ps = true
theorem z_okM {y : Nat} : ∀ {K : zK} {ps : List (List (List Nat))}, z_chkM y K ps = true → z_okK y K := by
  intro K
  induction K with
  | nil => intro ps _ b hb; exact absurd hb List.not_mem_nil
  | cons a l ih =>
    intro ps h b hb
    cases ps with
    | nil =>
      have h := Bool.and_eq_true_iff.mp h
      rcases List.mem_cons.mp hb with rfl | hb
      · exact ⟨_, h.1⟩
      · exact ih h.2 b hb
    | cons p ps =>
      have h := Bool.and_eq_true_iff.mp h
      rcases List.mem_cons.mp hb with rfl | hb
      · exact ⟨_, h.1⟩
      · exact ih h.2 b hb
theorem z_okE {y : Nat} : z_okK y [] := fun _ h => absurd h List.not_mem_nil
/-- the rest of a long method is empty -/
theorem z_okD {y : Nat} {K : zK} (n m : Nat) {ps : List (List (List Nat))} (h1 : z_chkM y ((K.drop n).take m) ps = true) (h2 : z_okK y (K.drop (n + m))) : z_okK y (K.drop n) := by
  intro b hb
  rw [← List.take_append_drop m (K.drop n)] at hb
  rcases List.mem_append.mp hb with q | q
  · exact z_okM h1 b q
  · rw [List.drop_drop] at q
    exact h2 b q
theorem z_okN {y : Nat} : z_okK y [] := z_okE
def z_okT (k : Nat) (T : List zK) : Prop := ∀ i K, T[i]? = some K → z_okK (k + i) K
theorem z_okT_n {k : Nat} : z_okT k [] := fun i K h => by simp at h
theorem z_okT_c {k : Nat} {K : zK} {T : List zK} (h1 : z_okK k K) (h2 : z_okT (k + 1) T) : z_okT k (K :: T) := by
  intro i K' h
  cases i with
  | zero => simp at h; rw [← h]; exact h1
  | succ i =>
    have := h2 i K' (by simpa using h)
    rwa [show k + 1 + i = k + (i + 1) by omega] at this
def z_okA (k : Nat) (T : List (List zK)) : Prop := ∀ i K, T[i]? = some K → z_okT (16 * (k + i)) K
theorem z_okA_n {k : Nat} : z_okA k [] := fun i K h => by simp at h
theorem z_okA_c {k : Nat} {K : List zK} {T : List (List zK)} (h1 : z_okT (16 * k) K) (h2 : z_okA (k + 1) T) : z_okA k (K :: T) := by
  intro i K' h
  cases i with
  | zero => simp at h; rw [← h]; exact h1
  | succ i =>
    have := h2 i K' (by simpa using h)
    rwa [show k + 1 + i = k + (i + 1) by omega] at this
