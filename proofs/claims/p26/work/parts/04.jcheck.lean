/-! what must hold of each instruction of the lists, by the bytes and the tables' words -/
def jown (M : Nat) : String := (jget M).1.cls
def jbs (M : Nat) : ByteArray := (jget M).2.1
def jret (M : Nat) : Option FieldType := (jget M).2.2.2.1
def jhint (M i : Nat) : Nat := (jget M).2.2.2.2.2.2.1.getD i 0
def jdc (M pc : Nat) (i : Instr) (len n : Nat) : Bool := decide (decode (jbs M) pc = .ok (i, len)) && decide (n = pc + len)
def jwd (i : Nat) (w : Jvm.Cond) : Bool := decide (lw_tbl[i]? = some w)
def jat (a : Nat) : ArrayType := if a = 0 then .int else if a = 1 then .byte else .boolean
def jfl (M a b : Nat) (k : Int) : Bool := match jcl[a / 64]? with
  | some c => decide (a % 64 < c.2.2) && jwd k.toNat (.fieldLink (jown M) b (c.2.1 (a % 64)).1 (c.2.1 (a % 64)).2.1 (c.2.1 (a % 64)).2.2.1)
  | none => false
def jfin (a : Nat) : Bool := match jcl[a / 64]? with
  | some c => (c.2.1 (a % 64)).2.2.2
  | none => false
def jfo (a : Nat) : String := match jcl[a / 64]? with
  | some c => (c.2.1 (a % 64)).1
  | none => ""
/-- a method that is called: its words -/
def jmk (M : Nat) : Bool :=
  jwd (jhint M 0) (.code (jget M).1 (jbs M) (jml M) (jret M)) && jwd (jhint M 1) (.initialized (jown M)) && decide (jown M ≠ "java/lang/invoke/MethodHandle" ∧ jown M ≠ "java/lang/invoke/VarHandle") && decide (jml M ≤ 17)
def jmS (M : Nat) : Bool := jmk M && jwd (jhint M 2) (.static (jget M).1) && decide ((parseMethodDescriptor (jget M).1.desc).map (fun d => d.parameters.length) = some (jna M))
def jmV (M : Nat) : Bool := jmk M && jwd (jhint M 2) (.instanceMethod (jget M).1) && jwd (jhint M 3) (.selects (jown M) (jget M).1 (jget M).1) && decide ((parseMethodDescriptor (jget M).1.desc).map (fun d => d.parameters.length + 1) = some (jna M)) && decide ((jcl[jci M]?).map (fun c => c.1) = some (jown M))
def jmI (M : Nat) : Bool := jmk M && jwd (jhint M 2) (.instanceMethod (jget M).1) && decide ((jget M).1.name = "<init>") && decide (jret M = none) && decide ((parseMethodDescriptor (jget M).1.desc).map (fun d => d.parameters.length + 1) = some (jna M)) && decide ((jcl[jci M]?).map (fun c => c.1) = some (jown M))
def jcon (M pc : Nat) (i : Instr → Bool) : Bool := match decode (jbs M) pc with
  | .ok (x, _) => i x
  | _ => false
def jchk1 (M pc op a b : Nat) (k : Int) (n : Nat) : Bool :=
  if op = 0 then jdc M pc (.iconst k) 1 n || (jdc M pc (.bipush k) 2 n && decide ((Int8.ofInt k).toInt32 = Int32.ofInt k)) || (jdc M pc (.sipush k) 3 n && decide ((Int16.ofInt k).toInt32 = Int32.ofInt k))
  else if op = 1 then (decide (a < 4) && jdc M pc (.iload_n (Fin.ofNat 4 a)) 1 n) || jdc M pc (.iload a) 2 n
  else if op = 2 then (decide (a < 4) && jdc M pc (.aload_n (Fin.ofNat 4 a)) 1 n) || jdc M pc (.aload a) 2 n
  else if op = 3 then (decide (a < 4) && jdc M pc (.lload_n (Fin.ofNat 4 a)) 1 n) || jdc M pc (.lload a) 2 n
  else if op = 4 then (decide (a < 4) && jdc M pc (.istore_n (Fin.ofNat 4 a)) 1 n) || jdc M pc (.istore a) 2 n
  else if op = 5 then (decide (a < 4) && jdc M pc (.astore_n (Fin.ofNat 4 a)) 1 n) || jdc M pc (.astore a) 2 n
  else if op = 6 then (decide (a < 4) && jdc M pc (.lstore_n (Fin.ofNat 4 a)) 1 n) || jdc M pc (.lstore a) 2 n
  else if op = 7 then jdc M pc (.iinc a k) 3 n
  else if op = 8 then
    (decide (a = 0) && jdc M pc .iadd 1 n) || (decide (a = 1) && jdc M pc .isub 1 n) || (decide (a = 2) && jdc M pc .imul 1 n) || (decide (a = 3) && jdc M pc .iand 1 n) || (decide (a = 4) && jdc M pc .ior 1 n)
    || (decide (a = 5) && jdc M pc .ixor 1 n) || (decide (a = 6) && jdc M pc .ishl 1 n) || (decide (a = 7) && jdc M pc .ishr 1 n) || (decide (a = 8) && jdc M pc .idiv 1 n) || (decide (a = 9) && jdc M pc .irem 1 n)
  else if op = 9 then jdc M pc .ineg 1 n
  else if op = 10 then jdc M pc .i2l 1 n
  else if op = 11 then jdc M pc .l2i 1 n
  else if op = 12 then (decide (k = 0) && jdc M pc (.lconst 0) 1 n) || (decide (k = 1) && jdc M pc (.lconst 1) 1 n) || (jdc M pc (.ldc2_w b) 3 n && jwd a (.constantLong (jown M) b (Int64.ofInt k)))
  else if op = 13 then jdc M pc .lmul 1 n
  else if op = 14 then jdc M pc .lcmp 1 n
  else if op = 15 then jdc M pc .i2b 1 n
  else if op = 16 then jdc M pc .dup 1 n
  else if op = 17 then jdc M pc .dup2 1 n
  else if op = 18 then jdc M pc .pop 1 n
  else if op = 19 then
    (decide (a = 0) && jdc M pc (.ifCond .eq ((b : Int) - pc)) 3 n) || (decide (a = 1) && jdc M pc (.ifCond .ne ((b : Int) - pc)) 3 n) || (decide (a = 2) && jdc M pc (.ifCond .lt ((b : Int) - pc)) 3 n)
    || (decide (a = 3) && jdc M pc (.ifCond .ge ((b : Int) - pc)) 3 n) || (decide (a = 4) && jdc M pc (.ifCond .gt ((b : Int) - pc)) 3 n) || (decide (a = 5) && jdc M pc (.ifCond .le ((b : Int) - pc)) 3 n)
  else if op = 20 then
    (decide (a = 0) && jdc M pc (.if_icmp .eq ((b : Int) - pc)) 3 n) || (decide (a = 1) && jdc M pc (.if_icmp .ne ((b : Int) - pc)) 3 n) || (decide (a = 2) && jdc M pc (.if_icmp .lt ((b : Int) - pc)) 3 n)
    || (decide (a = 3) && jdc M pc (.if_icmp .ge ((b : Int) - pc)) 3 n) || (decide (a = 4) && jdc M pc (.if_icmp .gt ((b : Int) - pc)) 3 n) || (decide (a = 5) && jdc M pc (.if_icmp .le ((b : Int) - pc)) 3 n)
  else if op = 21 then jdc M pc (.goto ((b : Int) - pc)) 3 n
  else if op = 22 then jdc M pc (.ifnull ((b : Int) - pc)) 3 n
  else if op = 23 then jdc M pc (.ifnonnull ((b : Int) - pc)) 3 n
  else if op = 24 then jdc M pc .aconst_null 1 n
  else false
def jchk2 (M pc op a b : Nat) (k : Int) (n : Nat) : Bool :=
  if op = 25 then jdc M pc (.getfield b) 3 n && jfl M a b k
  else if op = 26 then jdc M pc (.putfield b) 3 n && jfl M a b k && !(jfin a)
  else if op = 27 then jdc M pc (.putfield b) 3 n && jfl M a b k && jfin a && decide (jfo a = jown M) && decide ((jget M).1.name = "<init>")
  else if op = 28 then jdc M pc .iaload 1 n
  else if op = 29 then jdc M pc .iastore 1 n
  else if op = 30 then jdc M pc .baload 1 n
  else if op = 31 then jdc M pc .bastore 1 n
  else if op = 32 then jdc M pc .aaload 1 n
  else if op = 33 then jdc M pc .aastore 1 n
  else if op = 34 then jdc M pc .arraylength 1 n
  else if op = 35 then jdc M pc (.new b) 3 n && (match jcl[a]? with | some c => jwd k.toNat (.classLink (jown M) b c.1) | none => false)
  else if op = 36 then jdc M pc (.newarray (jat a)) 2 n && decide (a < 3)
  else if op = 37 then jdc M pc (.anewarray b) 3 n && decide (a = 4 ∨ a = 5) && (match jcl[a]? with | some c => jwd k.toNat (.classLink (jown M) b c.1) | none => false)
  else false
def jchk3 (M pc op a b : Nat) (k : Int) (n : Nat) : Bool :=
  if op = 38 then jdc M pc (.invokestatic b) 3 n && jwd k.toNat (.methodLink (jown M) b (jget a).1) && jmS a
  else if op = 39 then jdc M pc (.invokevirtual b) 3 n && jwd k.toNat (.methodLink (jown M) b (jget a).1) && jmV a
  else if op = 40 then jdc M pc (.invokespecial b) 3 n && jwd k.toNat (.methodLink (jown M) b (jget a).1) && jmI a
  else if op = 41 then jdc M pc (.invokestatic b) 3 n && jwd k.toNat (.methodLinkNest (jown M) b (jget a).1 "RuleMill") && jmS a
  else if op = 42 then jdc M pc (.invokevirtual b) 3 n && jwd k.toNat (.methodLinkNest (jown M) b (jget a).1 "RuleMill") && jmV a
  else if op = 43 then jdc M pc (.invokespecial b) 3 n && jwd k.toNat (.methodLinkNest (jown M) b (jget a).1 "RuleMill") && jmI a
  else if op = 44 then jdc M pc (.invokespecial b) 3 n && jwd k.toNat (.methodLink (jown M) b objectInit)
  else if op = 45 then jdc M pc .return_ 1 n && decide (jret M = none)
  else if op = 46 then jdc M pc .ireturn 1 n && decide (jret M = some .int)
  else if op = 47 then jdc M pc .ireturn 1 n && decide (jret M = some .boolean)
  else if op = 48 then jdc M pc .areturn 1 n && (match jret M with | some (.object _) => true | _ => false)
  else if op = 49 then jdc M pc .lreturn 1 n && decide (jret M = some .long)
  else if op = 50 then (match jts[a]? with
    | some (lo, hi, df, ts) => jdc M pc (.tableswitch ((df : Int) - pc) lo hi ((ts.map (fun (t : Nat) => (t : Int) - pc)).toArray)) (n - pc) n
    | none => false)
  else if op = 51 then (match jls[a]? with
    | some (df, ps) => jdc M pc (.lookupswitch ((df : Int) - pc) ((ps.map (fun (q : Int × Nat) => (q.1, (q.2 : Int) - pc))).toArray)) (n - pc) n && decide (((((ps.map (fun (q : Int × Nat) => (q.1, (q.2 : Int) - pc))).toArray).toList.zip ((((ps.map (fun (q : Int × Nat) => (q.1, (q.2 : Int) - pc))).toArray).toList.drop 1))).all (fun (a, next) => a.1 < next.1)) = true)
    | none => false)
  else decide (51 < op)
def jmT (M : Nat) : Bool := jmk M && jwd (jhint M 2) (.instanceMethod (jget M).1) && jwd (jhint M 3) (.selects (jown M) (jget M).1 (jget M).1) && decide ((parseMethodDescriptor (jget M).1.desc).map (fun d => d.parameters.length + 1) = some (jna M)) && decide (jown M = "java/lang/String")
def jchk4 (M pc op a b : Nat) (k : Int) (n : Nat) : Bool :=
  if op = 52 then jdc M pc (.getstatic b) 3 n && jwd k.toNat (.fieldLink (jown M) b "RuleMill" (if a = 1 then "REGISTERS_OF" else "PRICES") "[I")
  else if op = 53 then jdc M pc (.ldc b) 2 n && (decide (jown M = "RuleMill$Reader" ∧ b = 163) || decide (jown M = "RuleMill$Row" ∧ b = 93))
  else if op = 54 then jdc M pc (.invokevirtual b) 3 n && jwd k.toNat (.methodLink (jown M) b (jget a).1) && jmT a
  else if op = 55 then jdc M pc (.getstatic b) 3 n && jwd k.toNat (.fieldLink (jown M) b "java/lang/String" "COMPACT_STRINGS" "Z")
  else if op = 56 then jdc M pc (.invokestatic b) 3 n && jwd k.toNat (.methodLink (jown M) b arraycopyName)
  else if op = 57 then jdc M pc (.getfield b) 3 n && jwd k.toNat (.fieldLink (jown M) b "java/lang/String" "value" "[B")
  else if op = 58 then jdc M pc (.getfield b) 3 n && jwd k.toNat (.fieldLink (jown M) b "java/lang/String" "coder" "B")
  else if op = 59 then jdc M pc (.getstatic b) 3 n && jwd k.toNat (.fieldLink (jown M) b "jdk/internal/util/Preconditions" "SIOOBE_FORMATTER" "Ljava/util/function/BiFunction;")
  else if op = 60 then jdc M pc .i2c 1 n
  else if op = 61 then jdc M pc .ireturn 1 n && decide ((a = 0 ∧ jret M = some .char) ∨ (a = 1 ∧ jret M = some .byte))
  else if op = 62 then jdc M pc .baload 1 n
  else if op = 63 then jdc M pc .arraylength 1 n
  else decide (63 < op)
def jchk (M pc : Nat) (e : jE) : Bool :=
  if e.1 < 25 then jchk1 M pc e.1 e.2.1 e.2.2.1 e.2.2.2.1 e.2.2.2.2
  else if e.1 < 38 then jchk2 M pc e.1 e.2.1 e.2.2.1 e.2.2.2.1 e.2.2.2.2
  else if e.1 < 52 then jchk3 M pc e.1 e.2.1 e.2.2.1 e.2.2.2.1 e.2.2.2.2
  else jchk4 M pc e.1 e.2.1 e.2.2.1 e.2.2.2.1 e.2.2.2.2
def jcM (M : Nat) : Bool := (jget M).2.2.2.2.2.2.2.all (fun q => jchk M q.1 q.2)
def jcR (M i j : Nat) : Bool := (((jget M).2.2.2.2.2.2.2.drop i).take j).all (fun q => jchk M q.1 q.2)
