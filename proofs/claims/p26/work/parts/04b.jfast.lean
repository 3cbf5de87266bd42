/-! the same checks, quicker: the words lie in rows of 32, each row behind the last; what is called is checked once, not at every call -/
def jwt_0 : List Jvm.Cond := lw_tbl
def jwt_1 : List Jvm.Cond := jwt_0.drop 32
def jwt_2 : List Jvm.Cond := jwt_1.drop 32
def jwt_3 : List Jvm.Cond := jwt_2.drop 32
def jwt_4 : List Jvm.Cond := jwt_3.drop 32
def jwt_5 : List Jvm.Cond := jwt_4.drop 32
def jwt_6 : List Jvm.Cond := jwt_5.drop 32
def jwt_7 : List Jvm.Cond := jwt_6.drop 32
def jwt_8 : List Jvm.Cond := jwt_7.drop 32
def jwt_9 : List Jvm.Cond := jwt_8.drop 32
def jwt_10 : List Jvm.Cond := jwt_9.drop 32
def jwt_11 : List Jvm.Cond := jwt_10.drop 32
def jwt_12 : List Jvm.Cond := jwt_11.drop 32
def jwt_13 : List Jvm.Cond := jwt_12.drop 32
def jwt_14 : List Jvm.Cond := jwt_13.drop 32
def jwt_15 : List Jvm.Cond := jwt_14.drop 32
def jwt_16 : List Jvm.Cond := jwt_15.drop 32
def jwt_17 : List Jvm.Cond := jwt_16.drop 32
def jwt_18 : List Jvm.Cond := jwt_17.drop 32
def jwt_19 : List Jvm.Cond := jwt_18.drop 32
def jwt_20 : List Jvm.Cond := jwt_19.drop 32
def jwt_21 : List Jvm.Cond := jwt_20.drop 32
def jwt_22 : List Jvm.Cond := jwt_21.drop 32
def jwt_23 : List Jvm.Cond := jwt_22.drop 32
def jwt_24 : List Jvm.Cond := jwt_23.drop 32
def jwt_25 : List Jvm.Cond := jwt_24.drop 32
def jwt_26 : List Jvm.Cond := jwt_25.drop 32
def jwt_27 : List Jvm.Cond := jwt_26.drop 32
def jwt_28 : List Jvm.Cond := jwt_27.drop 32
def jwt_29 : List Jvm.Cond := jwt_28.drop 32
def jwt_30 : List Jvm.Cond := jwt_29.drop 32
def jwt_31 : List Jvm.Cond := jwt_30.drop 32
def jwt_32 : List Jvm.Cond := jwt_31.drop 32
def jwt_33 : List Jvm.Cond := jwt_32.drop 32
def jwt_34 : List Jvm.Cond := jwt_33.drop 32
def jwt_35 : List Jvm.Cond := jwt_34.drop 32
def jwt_36 : List Jvm.Cond := jwt_35.drop 32
def jwt_37 : List Jvm.Cond := jwt_36.drop 32
def jwt_38 : List Jvm.Cond := jwt_37.drop 32
def jwt_39 : List Jvm.Cond := jwt_38.drop 32
def jwt_40 : List Jvm.Cond := jwt_39.drop 32
def jwt_41 : List Jvm.Cond := jwt_40.drop 32
def jwts : List (List Jvm.Cond) := [jwt_0, jwt_1, jwt_2, jwt_3, jwt_4, jwt_5, jwt_6, jwt_7, jwt_8, jwt_9, jwt_10, jwt_11, jwt_12, jwt_13, jwt_14, jwt_15, jwt_16, jwt_17, jwt_18, jwt_19, jwt_20, jwt_21, jwt_22, jwt_23, jwt_24, jwt_25, jwt_26, jwt_27, jwt_28, jwt_29, jwt_30, jwt_31, jwt_32, jwt_33, jwt_34, jwt_35, jwt_36, jwt_37, jwt_38, jwt_39, jwt_40, jwt_41]
theorem jwe_0 : jwt_0 = lw_tbl.drop (32 * 0) := rfl
theorem jwe_1 : jwt_1 = lw_tbl.drop (32 * 1) := by
  unfold jwt_1
  rw [jwe_0, List.drop_drop]
theorem jwe_2 : jwt_2 = lw_tbl.drop (32 * 2) := by
  unfold jwt_2
  rw [jwe_1, List.drop_drop]
theorem jwe_3 : jwt_3 = lw_tbl.drop (32 * 3) := by
  unfold jwt_3
  rw [jwe_2, List.drop_drop]
theorem jwe_4 : jwt_4 = lw_tbl.drop (32 * 4) := by
  unfold jwt_4
  rw [jwe_3, List.drop_drop]
theorem jwe_5 : jwt_5 = lw_tbl.drop (32 * 5) := by
  unfold jwt_5
  rw [jwe_4, List.drop_drop]
theorem jwe_6 : jwt_6 = lw_tbl.drop (32 * 6) := by
  unfold jwt_6
  rw [jwe_5, List.drop_drop]
theorem jwe_7 : jwt_7 = lw_tbl.drop (32 * 7) := by
  unfold jwt_7
  rw [jwe_6, List.drop_drop]
theorem jwe_8 : jwt_8 = lw_tbl.drop (32 * 8) := by
  unfold jwt_8
  rw [jwe_7, List.drop_drop]
theorem jwe_9 : jwt_9 = lw_tbl.drop (32 * 9) := by
  unfold jwt_9
  rw [jwe_8, List.drop_drop]
theorem jwe_10 : jwt_10 = lw_tbl.drop (32 * 10) := by
  unfold jwt_10
  rw [jwe_9, List.drop_drop]
theorem jwe_11 : jwt_11 = lw_tbl.drop (32 * 11) := by
  unfold jwt_11
  rw [jwe_10, List.drop_drop]
theorem jwe_12 : jwt_12 = lw_tbl.drop (32 * 12) := by
  unfold jwt_12
  rw [jwe_11, List.drop_drop]
theorem jwe_13 : jwt_13 = lw_tbl.drop (32 * 13) := by
  unfold jwt_13
  rw [jwe_12, List.drop_drop]
theorem jwe_14 : jwt_14 = lw_tbl.drop (32 * 14) := by
  unfold jwt_14
  rw [jwe_13, List.drop_drop]
theorem jwe_15 : jwt_15 = lw_tbl.drop (32 * 15) := by
  unfold jwt_15
  rw [jwe_14, List.drop_drop]
theorem jwe_16 : jwt_16 = lw_tbl.drop (32 * 16) := by
  unfold jwt_16
  rw [jwe_15, List.drop_drop]
theorem jwe_17 : jwt_17 = lw_tbl.drop (32 * 17) := by
  unfold jwt_17
  rw [jwe_16, List.drop_drop]
theorem jwe_18 : jwt_18 = lw_tbl.drop (32 * 18) := by
  unfold jwt_18
  rw [jwe_17, List.drop_drop]
theorem jwe_19 : jwt_19 = lw_tbl.drop (32 * 19) := by
  unfold jwt_19
  rw [jwe_18, List.drop_drop]
theorem jwe_20 : jwt_20 = lw_tbl.drop (32 * 20) := by
  unfold jwt_20
  rw [jwe_19, List.drop_drop]
theorem jwe_21 : jwt_21 = lw_tbl.drop (32 * 21) := by
  unfold jwt_21
  rw [jwe_20, List.drop_drop]
theorem jwe_22 : jwt_22 = lw_tbl.drop (32 * 22) := by
  unfold jwt_22
  rw [jwe_21, List.drop_drop]
theorem jwe_23 : jwt_23 = lw_tbl.drop (32 * 23) := by
  unfold jwt_23
  rw [jwe_22, List.drop_drop]
theorem jwe_24 : jwt_24 = lw_tbl.drop (32 * 24) := by
  unfold jwt_24
  rw [jwe_23, List.drop_drop]
theorem jwe_25 : jwt_25 = lw_tbl.drop (32 * 25) := by
  unfold jwt_25
  rw [jwe_24, List.drop_drop]
theorem jwe_26 : jwt_26 = lw_tbl.drop (32 * 26) := by
  unfold jwt_26
  rw [jwe_25, List.drop_drop]
theorem jwe_27 : jwt_27 = lw_tbl.drop (32 * 27) := by
  unfold jwt_27
  rw [jwe_26, List.drop_drop]
theorem jwe_28 : jwt_28 = lw_tbl.drop (32 * 28) := by
  unfold jwt_28
  rw [jwe_27, List.drop_drop]
theorem jwe_29 : jwt_29 = lw_tbl.drop (32 * 29) := by
  unfold jwt_29
  rw [jwe_28, List.drop_drop]
theorem jwe_30 : jwt_30 = lw_tbl.drop (32 * 30) := by
  unfold jwt_30
  rw [jwe_29, List.drop_drop]
theorem jwe_31 : jwt_31 = lw_tbl.drop (32 * 31) := by
  unfold jwt_31
  rw [jwe_30, List.drop_drop]
theorem jwe_32 : jwt_32 = lw_tbl.drop (32 * 32) := by
  unfold jwt_32
  rw [jwe_31, List.drop_drop]
theorem jwe_33 : jwt_33 = lw_tbl.drop (32 * 33) := by
  unfold jwt_33
  rw [jwe_32, List.drop_drop]
theorem jwe_34 : jwt_34 = lw_tbl.drop (32 * 34) := by
  unfold jwt_34
  rw [jwe_33, List.drop_drop]
theorem jwe_35 : jwt_35 = lw_tbl.drop (32 * 35) := by
  unfold jwt_35
  rw [jwe_34, List.drop_drop]
theorem jwe_36 : jwt_36 = lw_tbl.drop (32 * 36) := by
  unfold jwt_36
  rw [jwe_35, List.drop_drop]
theorem jwe_37 : jwt_37 = lw_tbl.drop (32 * 37) := by
  unfold jwt_37
  rw [jwe_36, List.drop_drop]
theorem jwe_38 : jwt_38 = lw_tbl.drop (32 * 38) := by
  unfold jwt_38
  rw [jwe_37, List.drop_drop]
theorem jwe_39 : jwt_39 = lw_tbl.drop (32 * 39) := by
  unfold jwt_39
  rw [jwe_38, List.drop_drop]
theorem jwe_40 : jwt_40 = lw_tbl.drop (32 * 40) := by
  unfold jwt_40
  rw [jwe_39, List.drop_drop]
theorem jwe_41 : jwt_41 = lw_tbl.drop (32 * 41) := by
  unfold jwt_41
  rw [jwe_40, List.drop_drop]
theorem jq1 {P : Nat → Prop} {a : Nat} (h : P a) : ∀ M, a ≤ M → M < a + 1 → P M := fun M h1 h2 => by rw [show M = a by omega]; exact h
theorem jq2 {P : Nat → Prop} {a b c : Nat} (h1 : ∀ M, a ≤ M → M < b → P M) (h2 : ∀ M, b ≤ M → M < c → P M) : ∀ M, a ≤ M → M < c → P M := fun M p q => (Nat.lt_or_ge M b).elim (fun z => h1 M p z) (fun z => h2 M z q)
def jwP (k : Nat) : Prop := jwts.getD k [] = lw_tbl.drop (32 * k)
theorem jwp_all : ∀ k, 0 ≤ k → k < 42 → jwP k := (jq2 (b := 21) (jq2 (b := 10) (jq2 (b := 5) (jq2 (b := 2) (jq2 (b := 1) (jq1 (P := jwP) jwe_0) (jq1 (P := jwP) jwe_1)) (jq2 (b := 3) (jq1 (P := jwP) jwe_2) (jq2 (b := 4) (jq1 (P := jwP) jwe_3) (jq1 (P := jwP) jwe_4)))) (jq2 (b := 7) (jq2 (b := 6) (jq1 (P := jwP) jwe_5) (jq1 (P := jwP) jwe_6)) (jq2 (b := 8) (jq1 (P := jwP) jwe_7) (jq2 (b := 9) (jq1 (P := jwP) jwe_8) (jq1 (P := jwP) jwe_9))))) (jq2 (b := 15) (jq2 (b := 12) (jq2 (b := 11) (jq1 (P := jwP) jwe_10) (jq1 (P := jwP) jwe_11)) (jq2 (b := 13) (jq1 (P := jwP) jwe_12) (jq2 (b := 14) (jq1 (P := jwP) jwe_13) (jq1 (P := jwP) jwe_14)))) (jq2 (b := 18) (jq2 (b := 16) (jq1 (P := jwP) jwe_15) (jq2 (b := 17) (jq1 (P := jwP) jwe_16) (jq1 (P := jwP) jwe_17))) (jq2 (b := 19) (jq1 (P := jwP) jwe_18) (jq2 (b := 20) (jq1 (P := jwP) jwe_19) (jq1 (P := jwP) jwe_20)))))) (jq2 (b := 31) (jq2 (b := 26) (jq2 (b := 23) (jq2 (b := 22) (jq1 (P := jwP) jwe_21) (jq1 (P := jwP) jwe_22)) (jq2 (b := 24) (jq1 (P := jwP) jwe_23) (jq2 (b := 25) (jq1 (P := jwP) jwe_24) (jq1 (P := jwP) jwe_25)))) (jq2 (b := 28) (jq2 (b := 27) (jq1 (P := jwP) jwe_26) (jq1 (P := jwP) jwe_27)) (jq2 (b := 29) (jq1 (P := jwP) jwe_28) (jq2 (b := 30) (jq1 (P := jwP) jwe_29) (jq1 (P := jwP) jwe_30))))) (jq2 (b := 36) (jq2 (b := 33) (jq2 (b := 32) (jq1 (P := jwP) jwe_31) (jq1 (P := jwP) jwe_32)) (jq2 (b := 34) (jq1 (P := jwP) jwe_33) (jq2 (b := 35) (jq1 (P := jwP) jwe_34) (jq1 (P := jwP) jwe_35)))) (jq2 (b := 39) (jq2 (b := 37) (jq1 (P := jwP) jwe_36) (jq2 (b := 38) (jq1 (P := jwP) jwe_37) (jq1 (P := jwP) jwe_38))) (jq2 (b := 40) (jq1 (P := jwP) jwe_39) (jq2 (b := 41) (jq1 (P := jwP) jwe_40) (jq1 (P := jwP) jwe_41)))))))
theorem jwl_len : lw_tbl.length ≤ 1344 := by decide +kernel
def jwdf (i : Nat) (w : Jvm.Cond) : Bool := decide ((jwts.getD (i / 32) [])[i % 32]? = some w)
theorem jwdf_eq : jwdf = jwd := by
  funext i w
  unfold jwdf jwd
  by_cases h : i / 32 < 42
  · have e : jwts.getD (i / 32) [] = lw_tbl.drop (32 * (i / 32)) := jwp_all (i / 32) (Nat.zero_le _) h
    rw [e, List.getElem?_drop, Nat.div_add_mod]
  · have e1 : jwts.getD (i / 32) [] = [] := by
      rw [List.getD_eq_getElem?_getD, List.getElem?_eq_none (show jwts.length ≤ i / 32 from Nat.le_of_not_lt h)]
      rfl
    have e2 : lw_tbl[i]? = none := List.getElem?_eq_none (Nat.le_trans jwl_len (by omega))
    rw [e1, e2]
    rfl
def jkdl : List Nat := [0, 3, 3, 3, 3, 1, 1, 3, 3, 3, 3, 3, 2, 2, 2, 2, 2, 2, 2, 3, 2, 2, 2, 2, 2, 2, 2, 2, 2, 1, 2, 1, 2, 2, 1, 2, 2, 2, 2, 2, 1, 1, 2, 1, 2, 1, 1, 2, 2, 2, 2, 2, 2, 2, 1, 1, 2, 2, 2, 2, 2, 2, 2, 2, 2, 2, 2, 1, 2, 2, 2, 1, 2, 2, 2, 1, 2, 2, 2, 2, 2, 2, 1, 2, 2, 2, 2, 2, 2, 2, 1, 2, 2, 2, 2, 2, 2, 2, 2, 2, 2, 2, 2, 2, 2, 2, 2, 2, 2, 2, 2, 2, 2, 2, 2, 2, 2, 2, 2, 2, 3, 1, 2, 1, 2, 2, 2, 2, 2, 2, 2, 2, 2, 1, 2, 2, 2, 1, 2, 2, 2, 1, 2, 1, 2, 2, 2, 1, 2, 2, 2, 2, 2, 2, 2, 2, 1, 2, 2, 2, 2, 2, 2, 2, 2, 2, 2, 1, 2, 2, 2, 2, 2, 2, 2, 2, 2, 2, 2, 2, 2, 2, 2, 1, 2, 2, 2, 2, 2, 2, 2, 2, 2, 2, 2, 2, 2, 2, 4, 4, 1, 1, 1, 4, 4]
def jkS (a : Nat) : Bool := Nat.beq (jkdl.getD a 0) 1
def jkV (a : Nat) : Bool := Nat.beq (jkdl.getD a 0) 2
def jkI (a : Nat) : Bool := Nat.beq (jkdl.getD a 0) 3
def jkT (a : Nat) : Bool := Nat.beq (jkdl.getD a 0) 4
def jflg (f : Nat → Jvm.Cond → Bool) (M a b : Nat) (k : Int) : Bool := match jcl[a / 64]? with
  | some c => decide (a % 64 < c.2.2) && f k.toNat (.fieldLink (jown M) b (c.2.1 (a % 64)).1 (c.2.1 (a % 64)).2.1 (c.2.1 (a % 64)).2.2.1)
  | none => false
def jmkg (f : Nat → Jvm.Cond → Bool) (M : Nat) : Bool :=
  f (jhint M 1) (.initialized (jown M)) && decide (jown M ≠ "java/lang/invoke/MethodHandle" ∧ jown M ≠ "java/lang/invoke/VarHandle") && decide (jml M ≤ 17)
def jmSg (f : Nat → Jvm.Cond → Bool) (M : Nat) : Bool := jmkg f M && f (jhint M 2) (.static (jget M).1) && decide ((parseMethodDescriptor (jget M).1.desc).map (fun d => d.parameters.length) = some (jna M))
def jmVg (f : Nat → Jvm.Cond → Bool) (M : Nat) : Bool := jmkg f M && f (jhint M 2) (.instanceMethod (jget M).1) && f (jhint M 3) (.selects (jown M) (jget M).1 (jget M).1) && decide ((parseMethodDescriptor (jget M).1.desc).map (fun d => d.parameters.length + 1) = some (jna M)) && decide ((jcl[jci M]?).map (fun c => c.1) = some (jown M))
def jmIg (f : Nat → Jvm.Cond → Bool) (M : Nat) : Bool := jmkg f M && f (jhint M 2) (.instanceMethod (jget M).1) && decide ((jget M).1.name = "<init>") && decide (jret M = none) && decide ((parseMethodDescriptor (jget M).1.desc).map (fun d => d.parameters.length + 1) = some (jna M)) && decide ((jcl[jci M]?).map (fun c => c.1) = some (jown M))
def jmTg (f : Nat → Jvm.Cond → Bool) (M : Nat) : Bool := jmkg f M && f (jhint M 2) (.instanceMethod (jget M).1) && f (jhint M 3) (.selects (jown M) (jget M).1 (jget M).1) && decide ((parseMethodDescriptor (jget M).1.desc).map (fun d => d.parameters.length + 1) = some (jna M)) && decide (jown M = "java/lang/String")
def jc2g (f : Nat → Jvm.Cond → Bool) (M pc op a b : Nat) (k : Int) (n : Nat) : Bool :=
  if op = 25 then jdc M pc (.getfield b) 3 n && jflg f M a b k
  else if op = 26 then jdc M pc (.putfield b) 3 n && jflg f M a b k && !(jfin a)
  else if op = 27 then jdc M pc (.putfield b) 3 n && jflg f M a b k && jfin a && decide (jfo a = jown M) && decide ((jget M).1.name = "<init>")
  else if op = 28 then jdc M pc .iaload 1 n
  else if op = 29 then jdc M pc .iastore 1 n
  else if op = 30 then jdc M pc .baload 1 n
  else if op = 31 then jdc M pc .bastore 1 n
  else if op = 32 then jdc M pc .aaload 1 n
  else if op = 33 then jdc M pc .aastore 1 n
  else if op = 34 then jdc M pc .arraylength 1 n
  else if op = 35 then jdc M pc (.new b) 3 n && (match jcl[a]? with | some c => f k.toNat (.classLink (jown M) b c.1) | none => false)
  else if op = 36 then jdc M pc (.newarray (jat a)) 2 n && decide (a < 3)
  else if op = 37 then jdc M pc (.anewarray b) 3 n && decide (a = 4 ∨ a = 5) && (match jcl[a]? with | some c => f k.toNat (.classLink (jown M) b c.1) | none => false)
  else false
def jc3g (f : Nat → Jvm.Cond → Bool) (M pc op a b : Nat) (k : Int) (n : Nat) : Bool :=
  if op = 38 then jdc M pc (.invokestatic b) 3 n && f k.toNat (.methodLink (jown M) b (jget a).1) && jkS a
  else if op = 39 then jdc M pc (.invokevirtual b) 3 n && f k.toNat (.methodLink (jown M) b (jget a).1) && jkV a
  else if op = 40 then jdc M pc (.invokespecial b) 3 n && f k.toNat (.methodLink (jown M) b (jget a).1) && jkI a
  else if op = 41 then jdc M pc (.invokestatic b) 3 n && f k.toNat (.methodLinkNest (jown M) b (jget a).1 "RuleMill") && jkS a
  else if op = 42 then jdc M pc (.invokevirtual b) 3 n && f k.toNat (.methodLinkNest (jown M) b (jget a).1 "RuleMill") && jkV a
  else if op = 43 then jdc M pc (.invokespecial b) 3 n && f k.toNat (.methodLinkNest (jown M) b (jget a).1 "RuleMill") && jkI a
  else if op = 44 then jdc M pc (.invokespecial b) 3 n && f k.toNat (.methodLink (jown M) b objectInit)
  else if op = 45 then jdc M pc .return_ 1 n && decide (jret M = none)
  else if op = 46 then jdc M pc .ireturn 1 n && decide (jret M = some .int)
  else if op = 47 then jdc M pc .ireturn 1 n && decide (jret M = some .boolean)
  else if op = 48 then jdc M pc .areturn 1 n && (match jret M with | some (.object _) => true | _ => false)
  else if op = 49 then jdc M pc .lreturn 1 n && decide (jret M = some .long)
  else if op = 50 then (match jts[a]? with
    | some (lo, hi, df, ts) => jdc M pc (.tableswitch ((df : Int) - pc) lo hi ((ts.map (fun (t : Nat) => (t : Int) - pc)).toArray)) (n - pc) n
    | none => false)
  else if op = 51 then (match jls[a]? with
    | some (df, ps) => jdc M pc (.lookupswitch ((df : Int) - pc) ((ps.map (fun (q : Int × Nat) => (q.1, (q.2 : Int) - pc))).toArray)) (n - pc) n && decide (((((ps.map (fun (q : Int × Nat) => (q.1, (q.2 : Int) - pc))).toArray).toList.zip ((((ps.map (fun (q : Int × Nat) => (q.1, (q.2 : Int) - pc))).toArray).toList.drop 1))).all (fun (a, next) => a.1 < next.1)) = true)
    | none => false)
  else decide (51 < op)
def jc4g (f : Nat → Jvm.Cond → Bool) (M pc op a b : Nat) (k : Int) (n : Nat) : Bool :=
  if op = 52 then jdc M pc (.getstatic b) 3 n && f k.toNat (.fieldLink (jown M) b "RuleMill" (if a = 1 then "REGISTERS_OF" else "PRICES") "[I")
  else if op = 53 then jdc M pc (.ldc b) 2 n && (decide (jown M = "RuleMill$Reader" ∧ b = 163) || decide (jown M = "RuleMill$Row" ∧ b = 93))
  else if op = 54 then jdc M pc (.invokevirtual b) 3 n && f k.toNat (.methodLink (jown M) b (jget a).1) && jkT a
  else if op = 55 then jdc M pc (.getstatic b) 3 n && f k.toNat (.fieldLink (jown M) b "java/lang/String" "COMPACT_STRINGS" "Z")
  else if op = 56 then jdc M pc (.invokestatic b) 3 n && f k.toNat (.methodLink (jown M) b arraycopyName)
  else if op = 57 then jdc M pc (.getfield b) 3 n && f k.toNat (.fieldLink (jown M) b "java/lang/String" "value" "[B")
  else if op = 58 then jdc M pc (.getfield b) 3 n && f k.toNat (.fieldLink (jown M) b "java/lang/String" "coder" "B")
  else if op = 59 then jdc M pc (.getstatic b) 3 n && f k.toNat (.fieldLink (jown M) b "jdk/internal/util/Preconditions" "SIOOBE_FORMATTER" "Ljava/util/function/BiFunction;")
  else if op = 60 then jdc M pc .i2c 1 n
  else if op = 61 then jdc M pc .ireturn 1 n && decide ((a = 0 ∧ jret M = some .char) ∨ (a = 1 ∧ jret M = some .byte))
  else if op = 62 then jdc M pc .baload 1 n
  else if op = 63 then jdc M pc .arraylength 1 n
  else decide (63 < op)
def jcg (f : Nat → Jvm.Cond → Bool) (M pc : Nat) (e : jE) : Bool :=
  if e.1 < 25 then jchk1 M pc e.1 e.2.1 e.2.2.1 e.2.2.2.1 e.2.2.2.2
  else if e.1 < 38 then jc2g f M pc e.1 e.2.1 e.2.2.1 e.2.2.2.1 e.2.2.2.2
  else if e.1 < 52 then jc3g f M pc e.1 e.2.1 e.2.2.1 e.2.2.2.1 e.2.2.2.2
  else jc4g f M pc e.1 e.2.1 e.2.2.1 e.2.2.2.1 e.2.2.2.2
def jcRg (f : Nat → Jvm.Cond → Bool) (M i j : Nat) : Bool := (((jget M).2.2.2.2.2.2.2.drop i).take j).all (fun q => jcg f M q.1 q.2)
def jQ (M : Nat) : Prop := (jkS M = true → jmS M = true) ∧ (jkV M = true → jmV M = true) ∧ (jkI M = true → jmI M = true) ∧ (jkT M = true → jmT M = true)
def jQg (f : Nat → Jvm.Cond → Bool) (M : Nat) : Bool := (!(jkS M) || jmSg f M) && (!(jkV M) || jmVg f M) && (!(jkI M) || jmIg f M) && (!(jkT M) || jmTg f M)
theorem jQ_or {a b : Bool} (h : (!a || b) = true) : a = true → b = true := by
  intro z
  rw [z] at h
  exact h
/-- the word of its code -/
def jCW (M : Nat) : Prop := jwd (jhint M 0) (.code (jget M).1 (jbs M) (jml M) (jret M)) = true
theorem jmk_g {M : Nat} (c : jCW M) (h : jmkg jwd M = true) : jmk M = true := by
  unfold jmkg at h
  unfold jmk
  unfold jCW at c
  simp only [Bool.and_eq_true] at h ⊢
  exact ⟨⟨⟨c, h.1.1⟩, h.1.2⟩, h.2⟩
theorem jmS_g {M : Nat} (c : jCW M) (h : jmSg jwd M = true) : jmS M = true := by
  unfold jmSg at h
  unfold jmS
  simp only [Bool.and_eq_true] at h ⊢
  exact ⟨⟨jmk_g c h.1.1, h.1.2⟩, h.2⟩
theorem jmV_g {M : Nat} (c : jCW M) (h : jmVg jwd M = true) : jmV M = true := by
  unfold jmVg at h
  unfold jmV
  simp only [Bool.and_eq_true] at h ⊢
  exact ⟨⟨⟨⟨jmk_g c h.1.1.1.1, h.1.1.1.2⟩, h.1.1.2⟩, h.1.2⟩, h.2⟩
theorem jmI_g {M : Nat} (c : jCW M) (h : jmIg jwd M = true) : jmI M = true := by
  unfold jmIg at h
  unfold jmI
  simp only [Bool.and_eq_true] at h ⊢
  exact ⟨⟨⟨⟨⟨jmk_g c h.1.1.1.1.1, h.1.1.1.1.2⟩, h.1.1.1.2⟩, h.1.1.2⟩, h.1.2⟩, h.2⟩
theorem jmT_g {M : Nat} (c : jCW M) (h : jmTg jwd M = true) : jmT M = true := by
  unfold jmTg at h
  unfold jmT
  simp only [Bool.and_eq_true] at h ⊢
  exact ⟨⟨⟨⟨jmk_g c h.1.1.1.1, h.1.1.1.2⟩, h.1.1.2⟩, h.1.2⟩, h.2⟩
theorem jQ_of {M : Nat} (c : jCW M) (h : jQg jwd M = true) : jQ M := by
  unfold jQg at h
  rw [Bool.and_eq_true, Bool.and_eq_true, Bool.and_eq_true] at h
  exact ⟨fun z => jmS_g c (jQ_or h.1.1.1 z), fun z => jmV_g c (jQ_or h.1.1.2 z), fun z => jmI_g c (jQ_or h.1.2 z), fun z => jmT_g c (jQ_or h.2 z)⟩
theorem jcw_of {M : Nat} {m : jM} {i : Nat} (e : jget M = m) (hi : m.2.2.2.2.2.2.1.getD 0 0 = i) (h : lw_tbl[i]? = some (.code m.1 m.2.1 m.2.2.1 m.2.2.2.1)) : jCW M := by
  unfold jCW jwd jhint jbs jml jret
  rw [e, hi]
  exact decide_eq_true h
theorem jtl_p : (k2_sels lw_privs).length = 80 := by decide +kernel
theorem jtl_1 : tables_1_1.length = 240 := by decide +kernel
theorem jtl_2 : tables_1_2.length = 240 := by decide +kernel
theorem jtl_3 : tables_1_3.length = 240 := by decide +kernel
theorem jtl_4 : tables_1_4.length = 240 := by decide +kernel
theorem jtl_5 : tables_1_5.length = 240 := by decide +kernel
theorem jtl_6 : tables_1_6.length = 49 := by decide +kernel
theorem jtk_1 {j : Nat} (h : j < 240) : lw_tbl[80 + j]? = tables_1_1[j]? := by
  unfold lw_tbl tables_1
  rw [List.getElem?_append_right (by rw [jtl_p]; omega), jtl_p, show 80 + j - 80 = j by omega, List.getElem?_append_left (by rw [jtl_1]; exact h)]
theorem jtk_2 {j : Nat} (h : j < 240) : lw_tbl[320 + j]? = tables_1_2[j]? := by
  unfold lw_tbl tables_1
  rw [List.getElem?_append_right (by rw [jtl_p]; omega), jtl_p, List.getElem?_append_right (by rw [jtl_1]; omega), jtl_1, show 320 + j - 80 - 240 = j by omega, List.getElem?_append_left (by rw [jtl_2]; exact h)]
theorem jtk_3 {j : Nat} (h : j < 240) : lw_tbl[560 + j]? = tables_1_3[j]? := by
  unfold lw_tbl tables_1
  rw [List.getElem?_append_right (by rw [jtl_p]; omega), jtl_p, List.getElem?_append_right (by rw [jtl_1]; omega), jtl_1, List.getElem?_append_right (by rw [jtl_2]; omega), jtl_2, show 560 + j - 80 - 240 - 240 = j by omega, List.getElem?_append_left (by rw [jtl_3]; exact h)]
theorem jtk_4 {j : Nat} (h : j < 240) : lw_tbl[800 + j]? = tables_1_4[j]? := by
  unfold lw_tbl tables_1
  rw [List.getElem?_append_right (by rw [jtl_p]; omega), jtl_p, List.getElem?_append_right (by rw [jtl_1]; omega), jtl_1, List.getElem?_append_right (by rw [jtl_2]; omega), jtl_2, List.getElem?_append_right (by rw [jtl_3]; omega), jtl_3, show 800 + j - 80 - 240 - 240 - 240 = j by omega, List.getElem?_append_left (by rw [jtl_4]; exact h)]
theorem jtk_5 {j : Nat} (h : j < 240) : lw_tbl[1040 + j]? = tables_1_5[j]? := by
  unfold lw_tbl tables_1
  rw [List.getElem?_append_right (by rw [jtl_p]; omega), jtl_p, List.getElem?_append_right (by rw [jtl_1]; omega), jtl_1, List.getElem?_append_right (by rw [jtl_2]; omega), jtl_2, List.getElem?_append_right (by rw [jtl_3]; omega), jtl_3, List.getElem?_append_right (by rw [jtl_4]; omega), jtl_4, show 1040 + j - 80 - 240 - 240 - 240 - 240 = j by omega, List.getElem?_append_left (by rw [jtl_5]; exact h)]
theorem jtk_6 {j : Nat} (h : j < 49) : lw_tbl[1280 + j]? = tables_1_6[j]? := by
  unfold lw_tbl tables_1
  rw [List.getElem?_append_right (by rw [jtl_p]; omega), jtl_p, List.getElem?_append_right (by rw [jtl_1]; omega), jtl_1, List.getElem?_append_right (by rw [jtl_2]; omega), jtl_2, List.getElem?_append_right (by rw [jtl_3]; omega), jtl_3, List.getElem?_append_right (by rw [jtl_4]; omega), jtl_4, List.getElem?_append_right (by rw [jtl_5]; omega), jtl_5, show 1280 + j - 80 - 240 - 240 - 240 - 240 - 240 = j by omega]
theorem jQ0 {a : Nat} (e : jkdl.getD a 0 = 0) : jQ a := ⟨(fun z => by unfold jkS at z; rw [e] at z; cases z), (fun z => by unfold jkV at z; rw [e] at z; cases z), (fun z => by unfold jkI at z; rw [e] at z; cases z), (fun z => by unfold jkT at z; rw [e] at z; cases z)⟩
