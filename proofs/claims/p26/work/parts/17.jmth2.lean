theorem jmaths : (List.range 205).all (fun M => !(decide (jown M = "java/lang/Math")) || (decide (M = 5) || (decide (M = 6) || decide (M = 55)))) = true := by decide +kernel
theorem jplains : (List.range 205).all (fun M => decide (jown M = "java/lang/Math") || Jvm.plainName (jown M)) = true := by decide +kernel
theorem jmk_lt {M : Nat} (h : jmk M = true) : M < 205 := by
  rcases Nat.lt_or_ge M 205 with q | q
  · exact q
  · exfalso
    have e : jget M = jm_no := by
      unfold jget
      rw [List.getD, List.getElem?_eq_none (by exact q)]
      rfl
    have : jmk M = (jwd 0 (.code jm_no.1 jm_no.2.1 0 none) && jwd 0 (.initialized "") && decide ("" ≠ "java/lang/invoke/MethodHandle" ∧ "" ≠ "java/lang/invoke/VarHandle") && decide (0 ≤ 17)) := by
      unfold jmk jhint jbs jml jret jown
      rw [e]
      rfl
    rw [this] at h
    simp only [Bool.and_eq_true] at h
    have h0 := of_decide_eq_true h.1.1.1
    revert h0
    decide +kernel
theorem jmath_ix {a : Nat} (h : jmk a = true) (hm : jown a = "java/lang/Math") : a = 5 ∨ a = 6 ∨ a = 55 := by
  have h2 := List.all_eq_true.mp jmaths a (List.mem_range.mpr (jmk_lt h))
  simp only [hm, decide_true, Bool.not_true, Bool.false_or, Bool.or_eq_true, decide_eq_true_eq] at h2
  exact h2
theorem jplain_of {a : Nat} (h : jmk a = true) (hm : ¬ jown a = "java/lang/Math") : Jvm.plainName (jown a) = true := by
  have h2 := List.all_eq_true.mp jplains a (List.mem_range.mpr (jmk_lt h))
  rw [Bool.or_eq_true, decide_eq_true_eq] at h2
  exact h2.resolve_left hm
theorem jplcl : jcl.all (fun c => Jvm.plainName c.1) = true := by decide +kernel
theorem jplain_cl {a : Nat} (h : (jcl[jci a]?).map (fun c => c.1) = some (jown a)) : Jvm.plainName (jown a) = true := by
  cases hc : jcl[jci a]? with
  | none => rw [hc] at h; cases h
  | some z =>
    rw [hc] at h
    have hz : z.1 = jown a := Option.some.inj h
    rw [← hz]
    exact List.all_eq_true.mp jplcl z (List.mem_of_getElem? hc)
def jnm : Jvm.Cond → Bool
  | .methodLinkNest _ _ y _ => decide (¬ y.cls = "java/lang/Math")
  | _ => true
theorem jnms : lw_tbl.all jnm = true := by decide +kernel
theorem jplain_nest {a b i : Nat} {o h0 : String} (h : jmk a = true) (hw : jwd i (.methodLinkNest o b (jget a).1 h0) = true) : Jvm.plainName (jown a) = true := by
  refine jplain_of h ?_
  have h2 := List.all_eq_true.mp jnms _ (List.mem_of_getElem? (of_decide_eq_true hw))
  exact of_decide_eq_true h2
