section S_27
/-! the class: names -/
theorem nmOK : ∀ i, i < 57 → (((jnmb i &&& 255).toUInt32 % 65536).toInt32 = jnmb i ∧ (jnmb i).toUInt32.toUInt16.toUInt32.toInt32 = jnmb i) := by decide
def wlF (t : Nat → Int32) : Nat → Nat → Nat
  | 0, _ => 0
  | f + 1, p => if isLo (t p) ∨ isUp (t p) then wlF t f (p + 1) + 1 else 0
def wl (len : Nat) (b : Nat → Int32) (p : Nat) : Nat := wlF (tv len b) (len - p) p
theorem wlF_le (t : Nat → Int32) : ∀ f p, wlF t f p ≤ f := by
  intro f
  induction f with
  | zero => intro p; exact Nat.le_refl _
  | succ f ih =>
    intro p
    unfold wlF
    split
    · have := ih (p + 1); omega
    · omega
/-- the letters that a kind's name has, from k on -/
def nmM (t : Nat → Int32) (p k L : Nat) : Prop := ∀ j, j < L → jnmb (3 * k + j) = t (p + j)
def nmD (t : Nat → Int32) (p k L : Nat) : Bool := (List.range L).all (fun j => decide (jnmb (3 * k + j) = t (p + j)))
theorem nmD_iff {t : Nat → Int32} {p k L : Nat} : nmD t p k L = true ↔ nmM t p k L := by
  unfold nmD nmM
  rw [List.all_eq_true]
  constructor
  · intro h j hj; exact of_decide_eq_true (h j (List.mem_range.mpr hj))
  · intro h j hj; exact decide_eq_true (h j (List.mem_range.mp hj))
def knF (t : Nat → Int32) (p L : Nat) : Nat → Nat → Int32
  | 0, _ => -1
  | f + 1, k => if nlnN k = L ∧ nmD t p k L = true then nI k else knF t p L f (k + 1)
section NAM
variable {d : Nat} {σ : jS} {len : Nat} {b : Nat → Int32}
theorem c202 {x0 x1 : Int32} {v : Option Value} (h1 : ¬ x0 < 0) (h2 : x0 < x1) : jx d 202 0 [some (.int x0), some (.int x1), v] [] σ = some (some (.int x0), σ) := by
  simp (decide := true) only [k202_0, k202_4, k202_9, k202_16, h1, h2, Option.getD_some, ne_eq, reduceCtorEq, not_false_eq_true, not_true_eq_false, Option.bind_some, Option.toList_none, Option.toList_some, List.nil_append, List.cons_append, List.append_nil, ↓reduceIte, and_self, true_and, and_true, false_and, and_false, or_true, true_or, or_false, false_or, Nat.reduceEqDiff, Nat.reduceAdd, Int32.reduceMul, Int32.reduceAdd, Int32.reduceSub, Int32.reduceToNatClampNeg, Int32.reduceOfNat, Int32.reduceLT, Int32.reduceLE, va_rf]
theorem c201 (hS : SH σ) {x0 x1 : Int32} (h1 : ¬ x0 < 0) (h2 : x0 < x1) : jx (d + 1) 201 0 [some (.int x0), some (.int x1)] [] σ = some (none, σ) := by
  cases h : jR σ 0 3 with
  | none => simp (decide := true) only [k201_0, k201_5R, k201_5N, k201_8, c202 h1 h2, sT_1, sT_2, sT_3, sT_16, sT_17, sT_18, sT_19, sT_20, sT_21, sT_22, sT_23, sT_24, sT_25, sT_26, sT_27, sT_28, sT_29, sT_30, sT_31, sT_32, sT_33, sT_34, sT_35, sT_36, sT_37, sT_38, sT_39, sT_40, sT_41, sT_42, sT_43, sT_44, sT_45, sT_46, sT_47, sT_48, sT_49, sT_50, sT_51, sT_52, sT_53, sT_54, sT_55, sT_56, sT_57, sT_58, sT_59, sT_60, sT_61, sT_62, sT_63, sT_64, sT_65, sT_66, sT_67, sT_68, sT_69, sT_70, sT_71, sT_72, sT_73, sT_74, sT_75, sT_76, sT_77, sT_78, sT_79, sT_80, sN_1, sN_2, sN_19, sN_21, sN_23, sN_24, sN_26, sN_29, sN_31, sN_33, sN_35, sN_36, sN_37, sN_39, sN_40, sN_42, sN_44, sN_45, sN_46, sN_48, sN_49, sN_50, sN_51, sN_52, sN_53, sN_54, sN_55, sN_56, sN_57, sN_58, sN_59, sN_60, sN_61, sN_62, sN_63, sN_64, sN_65, sN_66, sN_67, sN_68, sN_69, sN_70, sN_71, sN_72, sN_73, sN_74, sN_75, sN_76, sN_77, sN_78, sN_79, sN_80, sR_0_34, sR_0_38, sR_1_34, sR_1_38, sR_64_20, sR_64_22, sR_128_25, sR_128_28, sR_194_17, sR_195_17, sR_196_17, sR_197_17, sR_258_30, sR_258_32, sR_258_41, sR_384_43, sR_448_18, sR_512_27, sR_513_27, sR_514_27, sR_515_27, sR_516_27, sR_576_16, sR_577_16, sR_578_16, sR_579_16, sR_580_16, sR_581_16, sR_582_16, sR_583_16, sR_584_16, sR_641_47, sR_643_47, sR_645_47, sR_646_47, sR_647_47, sR_648_47, sR_649_47, sR_650_47, sR_651_47, sR_652_47, sR_653_47, sR_654_47, sR_655_47, sR_656_47, sR_657_47, sR_658_47, sR_659_47, sR_661_47, sR_662_47, sR_663_47, sR_664_47, sR_665_47, sR_669_47, sR_670_47, sR_671_47, sR_672_47, sR_673_47, sR_674_47, sR_676_47, sR_677_47, sR_679_47, sR_680_47, sR_681_47, SH_I, SH_A, SH_G, SH_C, hS, h, Option.getD_some, ne_eq, reduceCtorEq, not_false_eq_true, not_true_eq_false, Option.bind_some, Option.toList_none, Option.toList_some, List.nil_append, List.cons_append, List.append_nil, ↓reduceIte, and_self, true_and, and_true, false_and, and_false, or_true, true_or, or_false, false_or, Nat.reduceEqDiff, Nat.reduceAdd, Int32.reduceMul, Int32.reduceAdd, Int32.reduceSub, Int32.reduceToNatClampNeg, Int32.reduceOfNat, Int32.reduceLT, Int32.reduceLE, va_rf]
  | some t => simp (decide := true) only [k201_0, k201_5R, k201_5N, k201_8, c202 h1 h2, sT_1, sT_2, sT_3, sT_16, sT_17, sT_18, sT_19, sT_20, sT_21, sT_22, sT_23, sT_24, sT_25, sT_26, sT_27, sT_28, sT_29, sT_30, sT_31, sT_32, sT_33, sT_34, sT_35, sT_36, sT_37, sT_38, sT_39, sT_40, sT_41, sT_42, sT_43, sT_44, sT_45, sT_46, sT_47, sT_48, sT_49, sT_50, sT_51, sT_52, sT_53, sT_54, sT_55, sT_56, sT_57, sT_58, sT_59, sT_60, sT_61, sT_62, sT_63, sT_64, sT_65, sT_66, sT_67, sT_68, sT_69, sT_70, sT_71, sT_72, sT_73, sT_74, sT_75, sT_76, sT_77, sT_78, sT_79, sT_80, sN_1, sN_2, sN_19, sN_21, sN_23, sN_24, sN_26, sN_29, sN_31, sN_33, sN_35, sN_36, sN_37, sN_39, sN_40, sN_42, sN_44, sN_45, sN_46, sN_48, sN_49, sN_50, sN_51, sN_52, sN_53, sN_54, sN_55, sN_56, sN_57, sN_58, sN_59, sN_60, sN_61, sN_62, sN_63, sN_64, sN_65, sN_66, sN_67, sN_68, sN_69, sN_70, sN_71, sN_72, sN_73, sN_74, sN_75, sN_76, sN_77, sN_78, sN_79, sN_80, sR_0_34, sR_0_38, sR_1_34, sR_1_38, sR_64_20, sR_64_22, sR_128_25, sR_128_28, sR_194_17, sR_195_17, sR_196_17, sR_197_17, sR_258_30, sR_258_32, sR_258_41, sR_384_43, sR_448_18, sR_512_27, sR_513_27, sR_514_27, sR_515_27, sR_516_27, sR_576_16, sR_577_16, sR_578_16, sR_579_16, sR_580_16, sR_581_16, sR_582_16, sR_583_16, sR_584_16, sR_641_47, sR_643_47, sR_645_47, sR_646_47, sR_647_47, sR_648_47, sR_649_47, sR_650_47, sR_651_47, sR_652_47, sR_653_47, sR_654_47, sR_655_47, sR_656_47, sR_657_47, sR_658_47, sR_659_47, sR_661_47, sR_662_47, sR_663_47, sR_664_47, sR_665_47, sR_669_47, sR_670_47, sR_671_47, sR_672_47, sR_673_47, sR_674_47, sR_676_47, sR_677_47, sR_679_47, sR_680_47, sR_681_47, SH_I, SH_A, SH_G, SH_C, hS, h, Option.getD_some, ne_eq, reduceCtorEq, not_false_eq_true, not_true_eq_false, Option.bind_some, Option.toList_none, Option.toList_some, List.nil_append, List.cons_append, List.append_nil, ↓reduceIte, and_self, true_and, and_true, false_and, and_false, or_true, true_or, or_false, false_or, Nat.reduceEqDiff, Nat.reduceAdd, Int32.reduceMul, Int32.reduceAdd, Int32.reduceSub, Int32.reduceToNatClampNeg, Int32.reduceOfNat, Int32.reduceLT, Int32.reduceLE, va_rf]
theorem c198 (hS : SH σ) {i : Nat} (hi : i < 57) : jx (d + 3) 198 0 [some (.ref 3), some (.int (nI i))] [] σ = some (some (.int (jnmb i)), σ) := by
  have h1 : ¬ nI i < 0 := nI_pos (by omega)
  have h2 : nI i < 57 := nI_lt (b := 57) hi (by decide)
  have h3 : jin 57 (nI i) := jin_n hi (by decide)
  have h4 : (nI i).toNatClampNeg = i := nI_clamp (by omega)
  obtain ⟨h5, h6⟩ := nmOK i hi
  have e : jx (d + 2) 200 0 [some (.ref 4), some (.int (nI i))] [] σ = some (some (.int (jnmb i)), σ) := by
    rw [k200_0 (sT_3 hS), c201 hS h1 h2]
    simp only [Option.bind_some, Option.toList_none, List.nil_append]
    rw [k200_6 (sT_3 hS) h3 (by rw [h4, h5]; exact h6), h4, h5]
  simp (decide := true) only [k198_0, k198_4, k198_7, k198_15, k198_16, k199_0, k199_6, k199_13, k199_17, sT_1, sT_2, sT_3, sT_16, sT_17, sT_18, sT_19, sT_20, sT_21, sT_22, sT_23, sT_24, sT_25, sT_26, sT_27, sT_28, sT_29, sT_30, sT_31, sT_32, sT_33, sT_34, sT_35, sT_36, sT_37, sT_38, sT_39, sT_40, sT_41, sT_42, sT_43, sT_44, sT_45, sT_46, sT_47, sT_48, sT_49, sT_50, sT_51, sT_52, sT_53, sT_54, sT_55, sT_56, sT_57, sT_58, sT_59, sT_60, sT_61, sT_62, sT_63, sT_64, sT_65, sT_66, sT_67, sT_68, sT_69, sT_70, sT_71, sT_72, sT_73, sT_74, sT_75, sT_76, sT_77, sT_78, sT_79, sT_80, sN_1, sN_2, sN_19, sN_21, sN_23, sN_24, sN_26, sN_29, sN_31, sN_33, sN_35, sN_36, sN_37, sN_39, sN_40, sN_42, sN_44, sN_45, sN_46, sN_48, sN_49, sN_50, sN_51, sN_52, sN_53, sN_54, sN_55, sN_56, sN_57, sN_58, sN_59, sN_60, sN_61, sN_62, sN_63, sN_64, sN_65, sN_66, sN_67, sN_68, sN_69, sN_70, sN_71, sN_72, sN_73, sN_74, sN_75, sN_76, sN_77, sN_78, sN_79, sN_80, sR_0_34, sR_0_38, sR_1_34, sR_1_38, sR_64_20, sR_64_22, sR_128_25, sR_128_28, sR_194_17, sR_195_17, sR_196_17, sR_197_17, sR_258_30, sR_258_32, sR_258_41, sR_384_43, sR_448_18, sR_512_27, sR_513_27, sR_514_27, sR_515_27, sR_516_27, sR_576_16, sR_577_16, sR_578_16, sR_579_16, sR_580_16, sR_581_16, sR_582_16, sR_583_16, sR_584_16, sR_641_47, sR_643_47, sR_645_47, sR_646_47, sR_647_47, sR_648_47, sR_649_47, sR_650_47, sR_651_47, sR_652_47, sR_653_47, sR_654_47, sR_655_47, sR_656_47, sR_657_47, sR_658_47, sR_659_47, sR_661_47, sR_662_47, sR_663_47, sR_664_47, sR_665_47, sR_669_47, sR_670_47, sR_671_47, sR_672_47, sR_673_47, sR_674_47, sR_676_47, sR_677_47, sR_679_47, sR_680_47, sR_681_47, SH_I, SH_A, SH_G, SH_C, hS, e, h6, Option.getD_some, ne_eq, reduceCtorEq, not_false_eq_true, not_true_eq_false, Option.bind_some, Option.toList_none, Option.toList_some, List.nil_append, List.cons_append, List.append_nil, ↓reduceIte, and_self, true_and, and_true, false_and, and_false, or_true, true_or, or_false, false_or, Nat.reduceEqDiff, Nat.reduceAdd, Int32.reduceMul, Int32.reduceAdd, Int32.reduceSub, Int32.reduceToNatClampNeg, Int32.reduceOfNat, Int32.reduceLT, Int32.reduceLE, va_rf]
theorem c28 (hS : SH σ) (hT : TX σ len b) {p : Nat} (hp : p ≤ len) (hat : jI σ 198 17 = nI p) : jx (d + 1) 28 0 [some (.ref 17), none] [] σ = some (some (.int (nI (wl len b p))), σ) := by
  have hl : len ≤ 400 := hT.2.1
  suffices H : ∀ f n, len - (p + n) = f → p + n ≤ len → jx (d + 1) 28 2 [some (.ref 17), some (.int (nI n))] [] σ = some (some (.int (nI (n + wlF (tv len b) f (p + n)))), σ) by
    have e := H (len - p) 0 rfl hp
    rw [k28_0]
    rw [Nat.zero_add] at e
    exact e
  intro f
  induction f with
  | zero =>
    intro n hf hn
    have h2 : nI len ≤ nI p + nI n := by rw [nadd]; exact nI_le (by omega) (by omega)
    rw [k28_2 (by simp (decide := true) only [sT_1, sT_2, sT_3, sT_16, sT_17, sT_18, sT_19, sT_20, sT_21, sT_22, sT_23, sT_24, sT_25, sT_26, sT_27, sT_28, sT_29, sT_30, sT_31, sT_32, sT_33, sT_34, sT_35, sT_36, sT_37, sT_38, sT_39, sT_40, sT_41, sT_42, sT_43, sT_44, sT_45, sT_46, sT_47, sT_48, sT_49, sT_50, sT_51, sT_52, sT_53, sT_54, sT_55, sT_56, sT_57, sT_58, sT_59, sT_60, sT_61, sT_62, sT_63, sT_64, sT_65, sT_66, sT_67, sT_68, sT_69, sT_70, sT_71, sT_72, sT_73, sT_74, sT_75, sT_76, sT_77, sT_78, sT_79, sT_80, sN_1, sN_2, sN_19, sN_21, sN_23, sN_24, sN_26, sN_29, sN_31, sN_33, sN_35, sN_36, sN_37, sN_39, sN_40, sN_42, sN_44, sN_45, sN_46, sN_48, sN_49, sN_50, sN_51, sN_52, sN_53, sN_54, sN_55, sN_56, sN_57, sN_58, sN_59, sN_60, sN_61, sN_62, sN_63, sN_64, sN_65, sN_66, sN_67, sN_68, sN_69, sN_70, sN_71, sN_72, sN_73, sN_74, sN_75, sN_76, sN_77, sN_78, sN_79, sN_80, sR_0_34, sR_0_38, sR_1_34, sR_1_38, sR_64_20, sR_64_22, sR_128_25, sR_128_28, sR_194_17, sR_195_17, sR_196_17, sR_197_17, sR_258_30, sR_258_32, sR_258_41, sR_384_43, sR_448_18, sR_512_27, sR_513_27, sR_514_27, sR_515_27, sR_516_27, sR_576_16, sR_577_16, sR_578_16, sR_579_16, sR_580_16, sR_581_16, sR_582_16, sR_583_16, sR_584_16, sR_641_47, sR_643_47, sR_645_47, sR_646_47, sR_647_47, sR_648_47, sR_649_47, sR_650_47, sR_651_47, sR_652_47, sR_653_47, sR_654_47, sR_655_47, sR_656_47, sR_657_47, sR_658_47, sR_659_47, sR_661_47, sR_662_47, sR_663_47, sR_664_47, sR_665_47, sR_669_47, sR_670_47, sR_671_47, sR_672_47, sR_673_47, sR_674_47, sR_676_47, sR_677_47, sR_679_47, sR_680_47, sR_681_47, SH_I, SH_A, SH_G, SH_C, hS, Option.getD_some, ne_eq, reduceCtorEq, not_false_eq_true, not_true_eq_false, Option.bind_some, Option.toList_none, Option.toList_some, List.nil_append, List.cons_append, List.append_nil, ↓reduceIte, and_self, true_and, and_true, false_and, and_false, or_true, true_or, or_false, false_or, Nat.reduceEqDiff, Nat.reduceAdd, Int32.reduceMul, Int32.reduceAdd, Int32.reduceSub, Int32.reduceToNatClampNeg, Int32.reduceOfNat, Int32.reduceLT, Int32.reduceLE, va_rf]) (by simp (decide := true) only [sT_1, sT_2, sT_3, sT_16, sT_17, sT_18, sT_19, sT_20, sT_21, sT_22, sT_23, sT_24, sT_25, sT_26, sT_27, sT_28, sT_29, sT_30, sT_31, sT_32, sT_33, sT_34, sT_35, sT_36, sT_37, sT_38, sT_39, sT_40, sT_41, sT_42, sT_43, sT_44, sT_45, sT_46, sT_47, sT_48, sT_49, sT_50, sT_51, sT_52, sT_53, sT_54, sT_55, sT_56, sT_57, sT_58, sT_59, sT_60, sT_61, sT_62, sT_63, sT_64, sT_65, sT_66, sT_67, sT_68, sT_69, sT_70, sT_71, sT_72, sT_73, sT_74, sT_75, sT_76, sT_77, sT_78, sT_79, sT_80, sN_1, sN_2, sN_19, sN_21, sN_23, sN_24, sN_26, sN_29, sN_31, sN_33, sN_35, sN_36, sN_37, sN_39, sN_40, sN_42, sN_44, sN_45, sN_46, sN_48, sN_49, sN_50, sN_51, sN_52, sN_53, sN_54, sN_55, sN_56, sN_57, sN_58, sN_59, sN_60, sN_61, sN_62, sN_63, sN_64, sN_65, sN_66, sN_67, sN_68, sN_69, sN_70, sN_71, sN_72, sN_73, sN_74, sN_75, sN_76, sN_77, sN_78, sN_79, sN_80, sR_0_34, sR_0_38, sR_1_34, sR_1_38, sR_64_20, sR_64_22, sR_128_25, sR_128_28, sR_194_17, sR_195_17, sR_196_17, sR_197_17, sR_258_30, sR_258_32, sR_258_41, sR_384_43, sR_448_18, sR_512_27, sR_513_27, sR_514_27, sR_515_27, sR_516_27, sR_576_16, sR_577_16, sR_578_16, sR_579_16, sR_580_16, sR_581_16, sR_582_16, sR_583_16, sR_584_16, sR_641_47, sR_643_47, sR_645_47, sR_646_47, sR_647_47, sR_648_47, sR_649_47, sR_650_47, sR_651_47, sR_652_47, sR_653_47, sR_654_47, sR_655_47, sR_656_47, sR_657_47, sR_658_47, sR_659_47, sR_661_47, sR_662_47, sR_663_47, sR_664_47, sR_665_47, sR_669_47, sR_670_47, sR_671_47, sR_672_47, sR_673_47, sR_674_47, sR_676_47, sR_677_47, sR_679_47, sR_680_47, sR_681_47, SH_I, SH_A, SH_G, SH_C, hS, Option.getD_some, ne_eq, reduceCtorEq, not_false_eq_true, not_true_eq_false, Option.bind_some, Option.toList_none, Option.toList_some, List.nil_append, List.cons_append, List.append_nil, ↓reduceIte, and_self, true_and, and_true, false_and, and_false, or_true, true_or, or_false, false_or, Nat.reduceEqDiff, Nat.reduceAdd, Int32.reduceMul, Int32.reduceAdd, Int32.reduceSub, Int32.reduceToNatClampNeg, Int32.reduceOfNat, Int32.reduceLT, Int32.reduceLE, va_rf]) (by simp (decide := true) only [sT_1, sT_2, sT_3, sT_16, sT_17, sT_18, sT_19, sT_20, sT_21, sT_22, sT_23, sT_24, sT_25, sT_26, sT_27, sT_28, sT_29, sT_30, sT_31, sT_32, sT_33, sT_34, sT_35, sT_36, sT_37, sT_38, sT_39, sT_40, sT_41, sT_42, sT_43, sT_44, sT_45, sT_46, sT_47, sT_48, sT_49, sT_50, sT_51, sT_52, sT_53, sT_54, sT_55, sT_56, sT_57, sT_58, sT_59, sT_60, sT_61, sT_62, sT_63, sT_64, sT_65, sT_66, sT_67, sT_68, sT_69, sT_70, sT_71, sT_72, sT_73, sT_74, sT_75, sT_76, sT_77, sT_78, sT_79, sT_80, sN_1, sN_2, sN_19, sN_21, sN_23, sN_24, sN_26, sN_29, sN_31, sN_33, sN_35, sN_36, sN_37, sN_39, sN_40, sN_42, sN_44, sN_45, sN_46, sN_48, sN_49, sN_50, sN_51, sN_52, sN_53, sN_54, sN_55, sN_56, sN_57, sN_58, sN_59, sN_60, sN_61, sN_62, sN_63, sN_64, sN_65, sN_66, sN_67, sN_68, sN_69, sN_70, sN_71, sN_72, sN_73, sN_74, sN_75, sN_76, sN_77, sN_78, sN_79, sN_80, sR_0_34, sR_0_38, sR_1_34, sR_1_38, sR_64_20, sR_64_22, sR_128_25, sR_128_28, sR_194_17, sR_195_17, sR_196_17, sR_197_17, sR_258_30, sR_258_32, sR_258_41, sR_384_43, sR_448_18, sR_512_27, sR_513_27, sR_514_27, sR_515_27, sR_516_27, sR_576_16, sR_577_16, sR_578_16, sR_579_16, sR_580_16, sR_581_16, sR_582_16, sR_583_16, sR_584_16, sR_641_47, sR_643_47, sR_645_47, sR_646_47, sR_647_47, sR_648_47, sR_649_47, sR_650_47, sR_651_47, sR_652_47, sR_653_47, sR_654_47, sR_655_47, sR_656_47, sR_657_47, sR_658_47, sR_659_47, sR_661_47, sR_662_47, sR_663_47, sR_664_47, sR_665_47, sR_669_47, sR_670_47, sR_671_47, sR_672_47, sR_673_47, sR_674_47, sR_676_47, sR_677_47, sR_679_47, sR_680_47, sR_681_47, SH_I, SH_A, SH_G, SH_C, hS, Option.getD_some, ne_eq, reduceCtorEq, not_false_eq_true, not_true_eq_false, Option.bind_some, Option.toList_none, Option.toList_some, List.nil_append, List.cons_append, List.append_nil, ↓reduceIte, and_self, true_and, and_true, false_and, and_false, or_true, true_or, or_false, false_or, Nat.reduceEqDiff, Nat.reduceAdd, Int32.reduceMul, Int32.reduceAdd, Int32.reduceSub, Int32.reduceToNatClampNeg, Int32.reduceOfNat, Int32.reduceLT, Int32.reduceLE, va_rf])]
    simp (decide := true) only [k28_43, sT_1, sT_2, sT_3, sT_16, sT_17, sT_18, sT_19, sT_20, sT_21, sT_22, sT_23, sT_24, sT_25, sT_26, sT_27, sT_28, sT_29, sT_30, sT_31, sT_32, sT_33, sT_34, sT_35, sT_36, sT_37, sT_38, sT_39, sT_40, sT_41, sT_42, sT_43, sT_44, sT_45, sT_46, sT_47, sT_48, sT_49, sT_50, sT_51, sT_52, sT_53, sT_54, sT_55, sT_56, sT_57, sT_58, sT_59, sT_60, sT_61, sT_62, sT_63, sT_64, sT_65, sT_66, sT_67, sT_68, sT_69, sT_70, sT_71, sT_72, sT_73, sT_74, sT_75, sT_76, sT_77, sT_78, sT_79, sT_80, sN_1, sN_2, sN_19, sN_21, sN_23, sN_24, sN_26, sN_29, sN_31, sN_33, sN_35, sN_36, sN_37, sN_39, sN_40, sN_42, sN_44, sN_45, sN_46, sN_48, sN_49, sN_50, sN_51, sN_52, sN_53, sN_54, sN_55, sN_56, sN_57, sN_58, sN_59, sN_60, sN_61, sN_62, sN_63, sN_64, sN_65, sN_66, sN_67, sN_68, sN_69, sN_70, sN_71, sN_72, sN_73, sN_74, sN_75, sN_76, sN_77, sN_78, sN_79, sN_80, sR_0_34, sR_0_38, sR_1_34, sR_1_38, sR_64_20, sR_64_22, sR_128_25, sR_128_28, sR_194_17, sR_195_17, sR_196_17, sR_197_17, sR_258_30, sR_258_32, sR_258_41, sR_384_43, sR_448_18, sR_512_27, sR_513_27, sR_514_27, sR_515_27, sR_516_27, sR_576_16, sR_577_16, sR_578_16, sR_579_16, sR_580_16, sR_581_16, sR_582_16, sR_583_16, sR_584_16, sR_641_47, sR_643_47, sR_645_47, sR_646_47, sR_647_47, sR_648_47, sR_649_47, sR_650_47, sR_651_47, sR_652_47, sR_653_47, sR_654_47, sR_655_47, sR_656_47, sR_657_47, sR_658_47, sR_659_47, sR_661_47, sR_662_47, sR_663_47, sR_664_47, sR_665_47, sR_669_47, sR_670_47, sR_671_47, sR_672_47, sR_673_47, sR_674_47, sR_676_47, sR_677_47, sR_679_47, sR_680_47, sR_681_47, SH_I, SH_A, SH_G, SH_C, hS, hT.1, hat, h2, wlF, Nat.add_zero, Option.getD_some, ne_eq, reduceCtorEq, not_false_eq_true, not_true_eq_false, Option.bind_some, Option.toList_none, Option.toList_some, List.nil_append, List.cons_append, List.append_nil, ↓reduceIte, and_self, true_and, and_true, false_and, and_false, or_true, true_or, or_false, false_or, Nat.reduceEqDiff, Nat.reduceAdd, Int32.reduceMul, Int32.reduceAdd, Int32.reduceSub, Int32.reduceToNatClampNeg, Int32.reduceOfNat, Int32.reduceLT, Int32.reduceLE, va_rf]
  | succ f ih =>
    intro n hf hn
    have h2 : ¬ nI len ≤ nI p + nI n := by rw [nadd]; exact nI_ge (by omega) (by omega)
    have c := c25 (d := d) hS hT (p := p + n) (by omega)
    rw [← nadd] at c
    rw [k28_2 (by simp (decide := true) only [sT_1, sT_2, sT_3, sT_16, sT_17, sT_18, sT_19, sT_20, sT_21, sT_22, sT_23, sT_24, sT_25, sT_26, sT_27, sT_28, sT_29, sT_30, sT_31, sT_32, sT_33, sT_34, sT_35, sT_36, sT_37, sT_38, sT_39, sT_40, sT_41, sT_42, sT_43, sT_44, sT_45, sT_46, sT_47, sT_48, sT_49, sT_50, sT_51, sT_52, sT_53, sT_54, sT_55, sT_56, sT_57, sT_58, sT_59, sT_60, sT_61, sT_62, sT_63, sT_64, sT_65, sT_66, sT_67, sT_68, sT_69, sT_70, sT_71, sT_72, sT_73, sT_74, sT_75, sT_76, sT_77, sT_78, sT_79, sT_80, sN_1, sN_2, sN_19, sN_21, sN_23, sN_24, sN_26, sN_29, sN_31, sN_33, sN_35, sN_36, sN_37, sN_39, sN_40, sN_42, sN_44, sN_45, sN_46, sN_48, sN_49, sN_50, sN_51, sN_52, sN_53, sN_54, sN_55, sN_56, sN_57, sN_58, sN_59, sN_60, sN_61, sN_62, sN_63, sN_64, sN_65, sN_66, sN_67, sN_68, sN_69, sN_70, sN_71, sN_72, sN_73, sN_74, sN_75, sN_76, sN_77, sN_78, sN_79, sN_80, sR_0_34, sR_0_38, sR_1_34, sR_1_38, sR_64_20, sR_64_22, sR_128_25, sR_128_28, sR_194_17, sR_195_17, sR_196_17, sR_197_17, sR_258_30, sR_258_32, sR_258_41, sR_384_43, sR_448_18, sR_512_27, sR_513_27, sR_514_27, sR_515_27, sR_516_27, sR_576_16, sR_577_16, sR_578_16, sR_579_16, sR_580_16, sR_581_16, sR_582_16, sR_583_16, sR_584_16, sR_641_47, sR_643_47, sR_645_47, sR_646_47, sR_647_47, sR_648_47, sR_649_47, sR_650_47, sR_651_47, sR_652_47, sR_653_47, sR_654_47, sR_655_47, sR_656_47, sR_657_47, sR_658_47, sR_659_47, sR_661_47, sR_662_47, sR_663_47, sR_664_47, sR_665_47, sR_669_47, sR_670_47, sR_671_47, sR_672_47, sR_673_47, sR_674_47, sR_676_47, sR_677_47, sR_679_47, sR_680_47, sR_681_47, SH_I, SH_A, SH_G, SH_C, hS, Option.getD_some, ne_eq, reduceCtorEq, not_false_eq_true, not_true_eq_false, Option.bind_some, Option.toList_none, Option.toList_some, List.nil_append, List.cons_append, List.append_nil, ↓reduceIte, and_self, true_and, and_true, false_and, and_false, or_true, true_or, or_false, false_or, Nat.reduceEqDiff, Nat.reduceAdd, Int32.reduceMul, Int32.reduceAdd, Int32.reduceSub, Int32.reduceToNatClampNeg, Int32.reduceOfNat, Int32.reduceLT, Int32.reduceLE, va_rf]) (by simp (decide := true) only [sT_1, sT_2, sT_3, sT_16, sT_17, sT_18, sT_19, sT_20, sT_21, sT_22, sT_23, sT_24, sT_25, sT_26, sT_27, sT_28, sT_29, sT_30, sT_31, sT_32, sT_33, sT_34, sT_35, sT_36, sT_37, sT_38, sT_39, sT_40, sT_41, sT_42, sT_43, sT_44, sT_45, sT_46, sT_47, sT_48, sT_49, sT_50, sT_51, sT_52, sT_53, sT_54, sT_55, sT_56, sT_57, sT_58, sT_59, sT_60, sT_61, sT_62, sT_63, sT_64, sT_65, sT_66, sT_67, sT_68, sT_69, sT_70, sT_71, sT_72, sT_73, sT_74, sT_75, sT_76, sT_77, sT_78, sT_79, sT_80, sN_1, sN_2, sN_19, sN_21, sN_23, sN_24, sN_26, sN_29, sN_31, sN_33, sN_35, sN_36, sN_37, sN_39, sN_40, sN_42, sN_44, sN_45, sN_46, sN_48, sN_49, sN_50, sN_51, sN_52, sN_53, sN_54, sN_55, sN_56, sN_57, sN_58, sN_59, sN_60, sN_61, sN_62, sN_63, sN_64, sN_65, sN_66, sN_67, sN_68, sN_69, sN_70, sN_71, sN_72, sN_73, sN_74, sN_75, sN_76, sN_77, sN_78, sN_79, sN_80, sR_0_34, sR_0_38, sR_1_34, sR_1_38, sR_64_20, sR_64_22, sR_128_25, sR_128_28, sR_194_17, sR_195_17, sR_196_17, sR_197_17, sR_258_30, sR_258_32, sR_258_41, sR_384_43, sR_448_18, sR_512_27, sR_513_27, sR_514_27, sR_515_27, sR_516_27, sR_576_16, sR_577_16, sR_578_16, sR_579_16, sR_580_16, sR_581_16, sR_582_16, sR_583_16, sR_584_16, sR_641_47, sR_643_47, sR_645_47, sR_646_47, sR_647_47, sR_648_47, sR_649_47, sR_650_47, sR_651_47, sR_652_47, sR_653_47, sR_654_47, sR_655_47, sR_656_47, sR_657_47, sR_658_47, sR_659_47, sR_661_47, sR_662_47, sR_663_47, sR_664_47, sR_665_47, sR_669_47, sR_670_47, sR_671_47, sR_672_47, sR_673_47, sR_674_47, sR_676_47, sR_677_47, sR_679_47, sR_680_47, sR_681_47, SH_I, SH_A, SH_G, SH_C, hS, Option.getD_some, ne_eq, reduceCtorEq, not_false_eq_true, not_true_eq_false, Option.bind_some, Option.toList_none, Option.toList_some, List.nil_append, List.cons_append, List.append_nil, ↓reduceIte, and_self, true_and, and_true, false_and, and_false, or_true, true_or, or_false, false_or, Nat.reduceEqDiff, Nat.reduceAdd, Int32.reduceMul, Int32.reduceAdd, Int32.reduceSub, Int32.reduceToNatClampNeg, Int32.reduceOfNat, Int32.reduceLT, Int32.reduceLE, va_rf]) (by simp (decide := true) only [sT_1, sT_2, sT_3, sT_16, sT_17, sT_18, sT_19, sT_20, sT_21, sT_22, sT_23, sT_24, sT_25, sT_26, sT_27, sT_28, sT_29, sT_30, sT_31, sT_32, sT_33, sT_34, sT_35, sT_36, sT_37, sT_38, sT_39, sT_40, sT_41, sT_42, sT_43, sT_44, sT_45, sT_46, sT_47, sT_48, sT_49, sT_50, sT_51, sT_52, sT_53, sT_54, sT_55, sT_56, sT_57, sT_58, sT_59, sT_60, sT_61, sT_62, sT_63, sT_64, sT_65, sT_66, sT_67, sT_68, sT_69, sT_70, sT_71, sT_72, sT_73, sT_74, sT_75, sT_76, sT_77, sT_78, sT_79, sT_80, sN_1, sN_2, sN_19, sN_21, sN_23, sN_24, sN_26, sN_29, sN_31, sN_33, sN_35, sN_36, sN_37, sN_39, sN_40, sN_42, sN_44, sN_45, sN_46, sN_48, sN_49, sN_50, sN_51, sN_52, sN_53, sN_54, sN_55, sN_56, sN_57, sN_58, sN_59, sN_60, sN_61, sN_62, sN_63, sN_64, sN_65, sN_66, sN_67, sN_68, sN_69, sN_70, sN_71, sN_72, sN_73, sN_74, sN_75, sN_76, sN_77, sN_78, sN_79, sN_80, sR_0_34, sR_0_38, sR_1_34, sR_1_38, sR_64_20, sR_64_22, sR_128_25, sR_128_28, sR_194_17, sR_195_17, sR_196_17, sR_197_17, sR_258_30, sR_258_32, sR_258_41, sR_384_43, sR_448_18, sR_512_27, sR_513_27, sR_514_27, sR_515_27, sR_516_27, sR_576_16, sR_577_16, sR_578_16, sR_579_16, sR_580_16, sR_581_16, sR_582_16, sR_583_16, sR_584_16, sR_641_47, sR_643_47, sR_645_47, sR_646_47, sR_647_47, sR_648_47, sR_649_47, sR_650_47, sR_651_47, sR_652_47, sR_653_47, sR_654_47, sR_655_47, sR_656_47, sR_657_47, sR_658_47, sR_659_47, sR_661_47, sR_662_47, sR_663_47, sR_664_47, sR_665_47, sR_669_47, sR_670_47, sR_671_47, sR_672_47, sR_673_47, sR_674_47, sR_676_47, sR_677_47, sR_679_47, sR_680_47, sR_681_47, SH_I, SH_A, SH_G, SH_C, hS, Option.getD_some, ne_eq, reduceCtorEq, not_false_eq_true, not_true_eq_false, Option.bind_some, Option.toList_none, Option.toList_some, List.nil_append, List.cons_append, List.append_nil, ↓reduceIte, and_self, true_and, and_true, false_and, and_false, or_true, true_or, or_false, false_or, Nat.reduceEqDiff, Nat.reduceAdd, Int32.reduceMul, Int32.reduceAdd, Int32.reduceSub, Int32.reduceToNatClampNeg, Int32.reduceOfNat, Int32.reduceLT, Int32.reduceLE, va_rf])]
    by_cases h : isLo (tv len b (p + n)) ∨ isUp (tv len b (p + n))
    · have e := ih (n + 1) (by omega) (by omega)
      have e2 : wlF (tv len b) (f + 1) (p + n) = wlF (tv len b) f (p + (n + 1)) + 1 := if_pos h
      rw [e2, show n + (wlF (tv len b) f (p + (n + 1)) + 1) = n + 1 + wlF (tv len b) f (p + (n + 1)) by omega, ← e]
      simp (decide := true) only [k28_18, k28_31, k28_34, k28_37, k28_43, c29, sT_1, sT_2, sT_3, sT_16, sT_17, sT_18, sT_19, sT_20, sT_21, sT_22, sT_23, sT_24, sT_25, sT_26, sT_27, sT_28, sT_29, sT_30, sT_31, sT_32, sT_33, sT_34, sT_35, sT_36, sT_37, sT_38, sT_39, sT_40, sT_41, sT_42, sT_43, sT_44, sT_45, sT_46, sT_47, sT_48, sT_49, sT_50, sT_51, sT_52, sT_53, sT_54, sT_55, sT_56, sT_57, sT_58, sT_59, sT_60, sT_61, sT_62, sT_63, sT_64, sT_65, sT_66, sT_67, sT_68, sT_69, sT_70, sT_71, sT_72, sT_73, sT_74, sT_75, sT_76, sT_77, sT_78, sT_79, sT_80, sN_1, sN_2, sN_19, sN_21, sN_23, sN_24, sN_26, sN_29, sN_31, sN_33, sN_35, sN_36, sN_37, sN_39, sN_40, sN_42, sN_44, sN_45, sN_46, sN_48, sN_49, sN_50, sN_51, sN_52, sN_53, sN_54, sN_55, sN_56, sN_57, sN_58, sN_59, sN_60, sN_61, sN_62, sN_63, sN_64, sN_65, sN_66, sN_67, sN_68, sN_69, sN_70, sN_71, sN_72, sN_73, sN_74, sN_75, sN_76, sN_77, sN_78, sN_79, sN_80, sR_0_34, sR_0_38, sR_1_34, sR_1_38, sR_64_20, sR_64_22, sR_128_25, sR_128_28, sR_194_17, sR_195_17, sR_196_17, sR_197_17, sR_258_30, sR_258_32, sR_258_41, sR_384_43, sR_448_18, sR_512_27, sR_513_27, sR_514_27, sR_515_27, sR_516_27, sR_576_16, sR_577_16, sR_578_16, sR_579_16, sR_580_16, sR_581_16, sR_582_16, sR_583_16, sR_584_16, sR_641_47, sR_643_47, sR_645_47, sR_646_47, sR_647_47, sR_648_47, sR_649_47, sR_650_47, sR_651_47, sR_652_47, sR_653_47, sR_654_47, sR_655_47, sR_656_47, sR_657_47, sR_658_47, sR_659_47, sR_661_47, sR_662_47, sR_663_47, sR_664_47, sR_665_47, sR_669_47, sR_670_47, sR_671_47, sR_672_47, sR_673_47, sR_674_47, sR_676_47, sR_677_47, sR_679_47, sR_680_47, sR_681_47, SH_I, SH_A, SH_G, SH_C, hS, hT.1, hat, h2, c, h, nI_succ, Option.getD_some, ne_eq, reduceCtorEq, not_false_eq_true, not_true_eq_false, Option.bind_some, Option.toList_none, Option.toList_some, List.nil_append, List.cons_append, List.append_nil, ↓reduceIte, and_self, true_and, and_true, false_and, and_false, or_true, true_or, or_false, false_or, Nat.reduceEqDiff, Nat.reduceAdd, Int32.reduceMul, Int32.reduceAdd, Int32.reduceSub, Int32.reduceToNatClampNeg, Int32.reduceOfNat, Int32.reduceLT, Int32.reduceLE, va_rf]
    · have e2 : wlF (tv len b) (f + 1) (p + n) = 0 := if_neg h
      rw [e2]
      simp (decide := true) only [k28_18, k28_31, k28_34, k28_37, k28_43, c29, sT_1, sT_2, sT_3, sT_16, sT_17, sT_18, sT_19, sT_20, sT_21, sT_22, sT_23, sT_24, sT_25, sT_26, sT_27, sT_28, sT_29, sT_30, sT_31, sT_32, sT_33, sT_34, sT_35, sT_36, sT_37, sT_38, sT_39, sT_40, sT_41, sT_42, sT_43, sT_44, sT_45, sT_46, sT_47, sT_48, sT_49, sT_50, sT_51, sT_52, sT_53, sT_54, sT_55, sT_56, sT_57, sT_58, sT_59, sT_60, sT_61, sT_62, sT_63, sT_64, sT_65, sT_66, sT_67, sT_68, sT_69, sT_70, sT_71, sT_72, sT_73, sT_74, sT_75, sT_76, sT_77, sT_78, sT_79, sT_80, sN_1, sN_2, sN_19, sN_21, sN_23, sN_24, sN_26, sN_29, sN_31, sN_33, sN_35, sN_36, sN_37, sN_39, sN_40, sN_42, sN_44, sN_45, sN_46, sN_48, sN_49, sN_50, sN_51, sN_52, sN_53, sN_54, sN_55, sN_56, sN_57, sN_58, sN_59, sN_60, sN_61, sN_62, sN_63, sN_64, sN_65, sN_66, sN_67, sN_68, sN_69, sN_70, sN_71, sN_72, sN_73, sN_74, sN_75, sN_76, sN_77, sN_78, sN_79, sN_80, sR_0_34, sR_0_38, sR_1_34, sR_1_38, sR_64_20, sR_64_22, sR_128_25, sR_128_28, sR_194_17, sR_195_17, sR_196_17, sR_197_17, sR_258_30, sR_258_32, sR_258_41, sR_384_43, sR_448_18, sR_512_27, sR_513_27, sR_514_27, sR_515_27, sR_516_27, sR_576_16, sR_577_16, sR_578_16, sR_579_16, sR_580_16, sR_581_16, sR_582_16, sR_583_16, sR_584_16, sR_641_47, sR_643_47, sR_645_47, sR_646_47, sR_647_47, sR_648_47, sR_649_47, sR_650_47, sR_651_47, sR_652_47, sR_653_47, sR_654_47, sR_655_47, sR_656_47, sR_657_47, sR_658_47, sR_659_47, sR_661_47, sR_662_47, sR_663_47, sR_664_47, sR_665_47, sR_669_47, sR_670_47, sR_671_47, sR_672_47, sR_673_47, sR_674_47, sR_676_47, sR_677_47, sR_679_47, sR_680_47, sR_681_47, SH_I, SH_A, SH_G, SH_C, hS, hT.1, hat, h2, c, h, Nat.add_zero, Option.getD_some, ne_eq, reduceCtorEq, not_false_eq_true, not_true_eq_false, Option.bind_some, Option.toList_none, Option.toList_some, List.nil_append, List.cons_append, List.append_nil, ↓reduceIte, and_self, true_and, and_true, false_and, and_false, or_true, true_or, or_false, false_or, Nat.reduceEqDiff, Nat.reduceAdd, Int32.reduceMul, Int32.reduceAdd, Int32.reduceSub, Int32.reduceToNatClampNeg, Int32.reduceOfNat, Int32.reduceLT, Int32.reduceLE, va_rf]
theorem c30i (hS : SH σ) (hT : TX σ len b) {p : Nat} (hp : p ≤ len) (hat : jI σ 198 17 = nI p) {L k : Nat} (hL : L ≤ 3) (hk : k < 19) : ∀ f j, L - j = f → j ≤ L → (∀ i, i < j → jnmb (3 * k + i) = tv len b (p + i)) →
    jx (d + 4) 30 25 [some (.ref 17), some (.int (nI L)), some (.int (nI k)), some (.int 1), some (.int (nI j))] [] σ = (if nmD (tv len b) p k L = true then some (some (.int (nI k)), σ) else jx (d + 4) 30 81 [some (.ref 17), some (.int (nI L)), some (.int (nI k)), some (.int 0), some (.int (nI (j + 1)))] [] σ) ∨ ∃ v w, jx (d + 4) 30 25 [some (.ref 17), some (.int (nI L)), some (.int (nI k)), some (.int 1), some (.int (nI j))] [] σ = (if nmD (tv len b) p k L = true then some (some (.int (nI k)), σ) else jx (d + 4) 30 81 [some (.ref 17), some (.int (nI L)), some (.int (nI k)), v, w] [] σ) := by
  have hl : len ≤ 400 := hT.2.1
  intro f
  induction f with
  | zero =>
    intro j hf hj hm
    have e : j = L := by omega
    subst e
    have hd : nmD (tv len b) p k j = true := nmD_iff.mpr hm
    have h2 : nI j ≤ nI j := nI_le (Nat.le_refl _) (by omega)
    left
    rw [k30_25]
    simp (decide := true) only [k30_75, k30_79, h2, hd, Option.getD_some, ne_eq, reduceCtorEq, not_false_eq_true, not_true_eq_false, Option.bind_some, Option.toList_none, Option.toList_some, List.nil_append, List.cons_append, List.append_nil, ↓reduceIte, and_self, true_and, and_true, false_and, and_false, or_true, true_or, or_false, false_or, Nat.reduceEqDiff, Nat.reduceAdd, Int32.reduceMul, Int32.reduceAdd, Int32.reduceSub, Int32.reduceToNatClampNeg, Int32.reduceOfNat, Int32.reduceLT, Int32.reduceLE, va_rf]
  | succ f ih =>
    intro j hf hj hm
    have h2 : ¬ nI L ≤ nI j := nI_ge (by omega) (by omega)
    have c1 := c198 (d := d) hS (i := 3 * k + j) (by omega)
    have c2 := c25 (d := d + 3) hS hT (p := p + j) (by omega)
    have e1 : nI k * 3 + nI j = nI (3 * k + j) := by rw [show (3 : Int32) = nI 3 from rfl, nmul, nadd, Nat.mul_comm]
    by_cases h : jnmb (3 * k + j) = tv len b (p + j)
    · have hm2 : ∀ i, i < j + 1 → jnmb (3 * k + i) = tv len b (p + i) := by
        intro i hi
        rcases Nat.lt_or_ge i j with q | q
        · exact hm i q
        · rw [show i = j by omega]; exact h
      have step : jx (d + 4) 30 25 [some (.ref 17), some (.int (nI L)), some (.int (nI k)), some (.int 1), some (.int (nI j))] [] σ = jx (d + 4) 30 25 [some (.ref 17), some (.int (nI L)), some (.int (nI k)), some (.int 1), some (.int (nI (j + 1)))] [] σ := by
        rw [k30_25]
        simp (decide := true) only [k30_31, k30_35, k30_46, k30_60, k30_63, k30_67, e1, nadd, hat, sT_1, sT_2, sT_3, sT_16, sT_17, sT_18, sT_19, sT_20, sT_21, sT_22, sT_23, sT_24, sT_25, sT_26, sT_27, sT_28, sT_29, sT_30, sT_31, sT_32, sT_33, sT_34, sT_35, sT_36, sT_37, sT_38, sT_39, sT_40, sT_41, sT_42, sT_43, sT_44, sT_45, sT_46, sT_47, sT_48, sT_49, sT_50, sT_51, sT_52, sT_53, sT_54, sT_55, sT_56, sT_57, sT_58, sT_59, sT_60, sT_61, sT_62, sT_63, sT_64, sT_65, sT_66, sT_67, sT_68, sT_69, sT_70, sT_71, sT_72, sT_73, sT_74, sT_75, sT_76, sT_77, sT_78, sT_79, sT_80, sN_1, sN_2, sN_19, sN_21, sN_23, sN_24, sN_26, sN_29, sN_31, sN_33, sN_35, sN_36, sN_37, sN_39, sN_40, sN_42, sN_44, sN_45, sN_46, sN_48, sN_49, sN_50, sN_51, sN_52, sN_53, sN_54, sN_55, sN_56, sN_57, sN_58, sN_59, sN_60, sN_61, sN_62, sN_63, sN_64, sN_65, sN_66, sN_67, sN_68, sN_69, sN_70, sN_71, sN_72, sN_73, sN_74, sN_75, sN_76, sN_77, sN_78, sN_79, sN_80, sR_0_34, sR_0_38, sR_1_34, sR_1_38, sR_64_20, sR_64_22, sR_128_25, sR_128_28, sR_194_17, sR_195_17, sR_196_17, sR_197_17, sR_258_30, sR_258_32, sR_258_41, sR_384_43, sR_448_18, sR_512_27, sR_513_27, sR_514_27, sR_515_27, sR_516_27, sR_576_16, sR_577_16, sR_578_16, sR_579_16, sR_580_16, sR_581_16, sR_582_16, sR_583_16, sR_584_16, sR_641_47, sR_643_47, sR_645_47, sR_646_47, sR_647_47, sR_648_47, sR_649_47, sR_650_47, sR_651_47, sR_652_47, sR_653_47, sR_654_47, sR_655_47, sR_656_47, sR_657_47, sR_658_47, sR_659_47, sR_661_47, sR_662_47, sR_663_47, sR_664_47, sR_665_47, sR_669_47, sR_670_47, sR_671_47, sR_672_47, sR_673_47, sR_674_47, sR_676_47, sR_677_47, sR_679_47, sR_680_47, sR_681_47, SH_I, SH_A, SH_G, SH_C, hS, h2, c1, c2, h, nI_succ, Option.getD_some, ne_eq, reduceCtorEq, not_false_eq_true, not_true_eq_false, Option.bind_some, Option.toList_none, Option.toList_some, List.nil_append, List.cons_append, List.append_nil, ↓reduceIte, and_self, true_and, and_true, false_and, and_false, or_true, true_or, or_false, false_or, Nat.reduceEqDiff, Nat.reduceAdd, Int32.reduceMul, Int32.reduceAdd, Int32.reduceSub, Int32.reduceToNatClampNeg, Int32.reduceOfNat, Int32.reduceLT, Int32.reduceLE, va_rf]
      rw [step]
      rcases ih (j + 1) (by omega) (by omega) hm2 with q | ⟨v, w, q⟩
      · exact Or.inr ⟨_, _, q⟩
      · exact Or.inr ⟨v, w, q⟩
    · have hd : ¬ nmD (tv len b) p k L = true := fun z => h (nmD_iff.mp z j (by omega))
      left
      rw [k30_25]
      rw [if_neg hd]
      have s2 : jx (d + 4) 30 25 [some (.ref 17), some (.int (nI L)), some (.int (nI k)), some (.int 0), some (.int (nI (j + 1)))] [] σ = jx (d + 4) 30 81 [some (.ref 17), some (.int (nI L)), some (.int (nI k)), some (.int 0), some (.int (nI (j + 1)))] [] σ := by
        rw [k30_25]
        by_cases h3 : nI L ≤ nI (j + 1)
        · simp (decide := true) only [k30_75, h3, Option.getD_some, ne_eq, reduceCtorEq, not_false_eq_true, not_true_eq_false, Option.bind_some, Option.toList_none, Option.toList_some, List.nil_append, List.cons_append, List.append_nil, ↓reduceIte, and_self, true_and, and_true, false_and, and_false, or_true, true_or, or_false, false_or, Nat.reduceEqDiff, Nat.reduceAdd, Int32.reduceMul, Int32.reduceAdd, Int32.reduceSub, Int32.reduceToNatClampNeg, Int32.reduceOfNat, Int32.reduceLT, Int32.reduceLE, va_rf]
        · simp (decide := true) only [k30_31, k30_75, h3, Option.getD_some, ne_eq, reduceCtorEq, not_false_eq_true, not_true_eq_false, Option.bind_some, Option.toList_none, Option.toList_some, List.nil_append, List.cons_append, List.append_nil, ↓reduceIte, and_self, true_and, and_true, false_and, and_false, or_true, true_or, or_false, false_or, Nat.reduceEqDiff, Nat.reduceAdd, Int32.reduceMul, Int32.reduceAdd, Int32.reduceSub, Int32.reduceToNatClampNeg, Int32.reduceOfNat, Int32.reduceLT, Int32.reduceLE, va_rf]
      rw [← s2]
      simp (decide := true) only [k30_31, k30_35, k30_46, k30_60, k30_63, k30_67, e1, nadd, hat, sT_1, sT_2, sT_3, sT_16, sT_17, sT_18, sT_19, sT_20, sT_21, sT_22, sT_23, sT_24, sT_25, sT_26, sT_27, sT_28, sT_29, sT_30, sT_31, sT_32, sT_33, sT_34, sT_35, sT_36, sT_37, sT_38, sT_39, sT_40, sT_41, sT_42, sT_43, sT_44, sT_45, sT_46, sT_47, sT_48, sT_49, sT_50, sT_51, sT_52, sT_53, sT_54, sT_55, sT_56, sT_57, sT_58, sT_59, sT_60, sT_61, sT_62, sT_63, sT_64, sT_65, sT_66, sT_67, sT_68, sT_69, sT_70, sT_71, sT_72, sT_73, sT_74, sT_75, sT_76, sT_77, sT_78, sT_79, sT_80, sN_1, sN_2, sN_19, sN_21, sN_23, sN_24, sN_26, sN_29, sN_31, sN_33, sN_35, sN_36, sN_37, sN_39, sN_40, sN_42, sN_44, sN_45, sN_46, sN_48, sN_49, sN_50, sN_51, sN_52, sN_53, sN_54, sN_55, sN_56, sN_57, sN_58, sN_59, sN_60, sN_61, sN_62, sN_63, sN_64, sN_65, sN_66, sN_67, sN_68, sN_69, sN_70, sN_71, sN_72, sN_73, sN_74, sN_75, sN_76, sN_77, sN_78, sN_79, sN_80, sR_0_34, sR_0_38, sR_1_34, sR_1_38, sR_64_20, sR_64_22, sR_128_25, sR_128_28, sR_194_17, sR_195_17, sR_196_17, sR_197_17, sR_258_30, sR_258_32, sR_258_41, sR_384_43, sR_448_18, sR_512_27, sR_513_27, sR_514_27, sR_515_27, sR_516_27, sR_576_16, sR_577_16, sR_578_16, sR_579_16, sR_580_16, sR_581_16, sR_582_16, sR_583_16, sR_584_16, sR_641_47, sR_643_47, sR_645_47, sR_646_47, sR_647_47, sR_648_47, sR_649_47, sR_650_47, sR_651_47, sR_652_47, sR_653_47, sR_654_47, sR_655_47, sR_656_47, sR_657_47, sR_658_47, sR_659_47, sR_661_47, sR_662_47, sR_663_47, sR_664_47, sR_665_47, sR_669_47, sR_670_47, sR_671_47, sR_672_47, sR_673_47, sR_674_47, sR_676_47, sR_677_47, sR_679_47, sR_680_47, sR_681_47, SH_I, SH_A, SH_G, SH_C, hS, h2, c1, c2, h, nI_succ, Option.getD_some, ne_eq, reduceCtorEq, not_false_eq_true, not_true_eq_false, Option.bind_some, Option.toList_none, Option.toList_some, List.nil_append, List.cons_append, List.append_nil, ↓reduceIte, and_self, true_and, and_true, false_and, and_false, or_true, true_or, or_false, false_or, Nat.reduceEqDiff, Nat.reduceAdd, Int32.reduceMul, Int32.reduceAdd, Int32.reduceSub, Int32.reduceToNatClampNeg, Int32.reduceOfNat, Int32.reduceLT, Int32.reduceLE, va_rf]
theorem c30 (hS : SH σ) (hT : TX σ len b) {p : Nat} (hp : p ≤ len) (hat : jI σ 198 17 = nI p) {L : Nat} (hL : L < 2 ^ 31) : jx (d + 4) 30 0 [some (.ref 17), some (.int (nI L)), none, none, none] [] σ = some (some (.int (knF (tv len b) p L 19 0)), σ) := by
  suffices H : ∀ f k, 19 - k = f → k ≤ 19 → ∀ v w, jx (d + 4) 30 2 [some (.ref 17), some (.int (nI L)), some (.int (nI k)), v, w] [] σ = some (some (.int (knF (tv len b) p L f k)), σ) by
    rw [k30_0]
    exact H 19 0 rfl (by decide) none none
  intro f
  induction f with
  | zero =>
    intro k hf hk v w
    have e : k = 19 := by omega
    subst e
    have h2 : (19 : Int32) ≤ nI 19 := by decide
    simp (decide := true) only [k30_2, k30_87, h2, knF, Option.getD_some, ne_eq, reduceCtorEq, not_false_eq_true, not_true_eq_false, Option.bind_some, Option.toList_none, Option.toList_some, List.nil_append, List.cons_append, List.append_nil, ↓reduceIte, and_self, true_and, and_true, false_and, and_false, or_true, true_or, or_false, false_or, Nat.reduceEqDiff, Nat.reduceAdd, Int32.reduceMul, Int32.reduceAdd, Int32.reduceSub, Int32.reduceToNatClampNeg, Int32.reduceOfNat, Int32.reduceLT, Int32.reduceLE, va_rf]
  | succ f ih =>
    intro k hf hk v w
    have hk19 : k < 19 := by omega
    have h2 : ¬ (19 : Int32) ≤ nI k := nI_ge (b := 19) hk19 (by decide)
    have next : ∀ v w, jx (d + 4) 30 81 [some (.ref 17), some (.int (nI L)), some (.int (nI k)), v, w] [] σ = some (some (.int (knF (tv len b) p L f (k + 1))), σ) := by
      intro v w
      rw [k30_81, ← nI_succ]
      exact ih (k + 1) (by omega) (by omega) v w
    rw [k30_2, if_neg h2, k30_8, c31 hk19]
    simp only [Option.bind_some, Option.toList_some, List.cons_append, List.nil_append]
    rw [k30_13]
    by_cases hn : nlnN k = L
    · subst hn
      have hL3 : nlnN k ≤ 3 := by unfold nlnN; split <;> omega
      rw [if_neg (by simp), k30_16]
      have e0 : (0 : Int32) = nI 0 := rfl
      rw [e0]
      have hK : knF (tv len b) p (nlnN k) (f + 1) k = if nmD (tv len b) p k (nlnN k) = true then nI k else knF (tv len b) p (nlnN k) f (k + 1) := by
        show (if nlnN k = nlnN k ∧ _ then _ else _) = _
        by_cases hq : nmD (tv len b) p k (nlnN k) = true
        · rw [if_pos ⟨rfl, hq⟩, if_pos hq]
        · rw [if_neg (fun z => hq z.2), if_neg hq]
      rw [hK]
      rcases c30i (d := d) hS hT hp hat hL3 hk19 (nlnN k) 0 rfl (Nat.zero_le _) (fun i hi => absurd hi (Nat.not_lt_zero i)) with q | ⟨v', w', q⟩
      · rw [q]
        by_cases hq : nmD (tv len b) p k (nlnN k) = true
        · rw [if_pos hq, if_pos hq]
        · rw [if_neg hq, if_neg hq]; exact next _ _
      · rw [q]
        by_cases hq : nmD (tv len b) p k (nlnN k) = true
        · rw [if_pos hq, if_pos hq]
        · rw [if_neg hq, if_neg hq]; exact next _ _
    · have hne : ¬ (nI L = nI (nlnN k)) := by
        have hL3 : nlnN k ≤ 3 := by unfold nlnN; split <;> omega
        rw [n31eq hL (by omega)]
        exact fun z => hn z.symm
      have hK : knF (tv len b) p L (f + 1) k = knF (tv len b) p L f (k + 1) := if_neg (fun z => hn z.1)
      rw [if_pos hne, k30_20, hK]
      have s2 : jx (d + 4) 30 25 [some (.ref 17), some (.int (nI L)), some (.int (nI k)), some (.int 0), some (.int 0)] [] σ = jx (d + 4) 30 81 [some (.ref 17), some (.int (nI L)), some (.int (nI k)), some (.int 0), some (.int 0)] [] σ := by
        rw [k30_25]
        by_cases h3 : nI L ≤ 0
        · simp (decide := true) only [k30_75, h3, Option.getD_some, ne_eq, reduceCtorEq, not_false_eq_true, not_true_eq_false, Option.bind_some, Option.toList_none, Option.toList_some, List.nil_append, List.cons_append, List.append_nil, ↓reduceIte, and_self, true_and, and_true, false_and, and_false, or_true, true_or, or_false, false_or, Nat.reduceEqDiff, Nat.reduceAdd, Int32.reduceMul, Int32.reduceAdd, Int32.reduceSub, Int32.reduceToNatClampNeg, Int32.reduceOfNat, Int32.reduceLT, Int32.reduceLE, va_rf]
        · simp (decide := true) only [k30_31, k30_75, h3, Option.getD_some, ne_eq, reduceCtorEq, not_false_eq_true, not_true_eq_false, Option.bind_some, Option.toList_none, Option.toList_some, List.nil_append, List.cons_append, List.append_nil, ↓reduceIte, and_self, true_and, and_true, false_and, and_false, or_true, true_or, or_false, false_or, Nat.reduceEqDiff, Nat.reduceAdd, Int32.reduceMul, Int32.reduceAdd, Int32.reduceSub, Int32.reduceToNatClampNeg, Int32.reduceOfNat, Int32.reduceLT, Int32.reduceLE, va_rf]
      rw [s2]
      exact next _ _
end NAM
end S_27
section S_28
/-! frames of cells; the class's reader: gaps, registers, marks, terms -/
def FPs (σ σ' : jS) : Prop := jI σ' 667 47 = jI σ 667 47 ∨ 0 < jI σ' 667 47
def KP (σ σ' : jS) : Prop := jT σ' = jT σ ∧ jN σ' = jN σ ∧ jR σ' = jR σ ∧ (jG σ' = jG σ ∧ FPs σ σ') ∧ jnx σ' = jnx σ ∧ jsl σ' = jsl σ
def FR (l : List Nat) (σ σ' : jS) : Prop := KP σ σ' ∧ ∀ a, a ∉ l → (∀ g, jI σ' g a = jI σ g a) ∧ (∀ i, jA σ' a i = jA σ a i)
theorem FPs.trans {σ τ υ : jS} (h : FPs σ τ) (k : FPs τ υ) : FPs σ υ := by
  rcases k with k | k
  · rcases h with h | h
    · exact Or.inl (k.trans h)
    · exact Or.inr (by rw [k]; exact h)
  · exact Or.inr k
theorem KP.refl (σ : jS) : KP σ σ := ⟨rfl, rfl, rfl, ⟨rfl, Or.inl rfl⟩, rfl, rfl⟩
theorem KP.trans {σ τ υ : jS} (h : KP σ τ) (k : KP τ υ) : KP σ υ := ⟨k.1.trans h.1, k.2.1.trans h.2.1, k.2.2.1.trans h.2.2.1, ⟨k.2.2.2.1.1.trans h.2.2.2.1.1, h.2.2.2.1.2.trans k.2.2.2.1.2⟩, k.2.2.2.2.1.trans h.2.2.2.2.1, k.2.2.2.2.2.trans h.2.2.2.2.2⟩
theorem FR.refl (l : List Nat) (σ : jS) : FR l σ σ := ⟨KP.refl σ, fun _ _ => ⟨fun _ => rfl, fun _ => rfl⟩⟩
theorem FR.trans {l : List Nat} {σ τ υ : jS} (h : FR l σ τ) (k : FR l τ υ) : FR l σ υ := ⟨h.1.trans k.1, fun a ha => ⟨fun g => ((k.2 a ha).1 g).trans ((h.2 a ha).1 g), fun i => ((k.2 a ha).2 i).trans ((h.2 a ha).2 i)⟩⟩
theorem FR.mono {l l' : List Nat} {σ τ : jS} (h : FR l σ τ) (hl : ∀ a, a ∈ l → a ∈ l') : FR l' σ τ := ⟨h.1, fun a ha => h.2 a (fun z => ha (hl a z))⟩
theorem FPs_I {τ : jS} {g q : Nat} {v : Int32} (hv : g = 667 → q = 47 → 0 < v) : FPs τ (jsI τ g q v) := by
  unfold FPs
  rw [zI_I]
  by_cases h : 667 = g ∧ 47 = q
  · rw [if_pos h]; exact Or.inr (hv h.1.symm h.2.symm)
  · rw [if_neg h]; exact Or.inl rfl
theorem FR.Ip {l : List Nat} {σ τ : jS} {g q : Nat} {v : Int32} (h : FR l σ τ) (hq : q ∈ l) (hv : g = 667 → q = 47 → 0 < v) : FR l σ (jsI τ g q v) := h.trans ⟨⟨rfl, rfl, rfl, ⟨rfl, FPs_I hv⟩, rfl, rfl⟩, fun a ha => by
  have hne : a ≠ q := fun z => ha (z ▸ hq)
  exact ⟨fun g' => by rw [zI_I, if_neg (fun z => hne z.2)], fun _ => rfl⟩⟩
theorem FR.I {l : List Nat} {σ τ : jS} {g q : Nat} {v : Int32} (h : FR l σ τ) (hq : q ∈ l) (h667 : ¬ (g = 667 ∧ q = 47) := by first | decide | omega) : FR l σ (jsI τ g q v) := h.Ip hq (fun a b => absurd ⟨a, b⟩ h667)
theorem FR.A {l : List Nat} {σ τ : jS} {q i : Nat} {v : Int32} (h : FR l σ τ) (hq : q ∈ l) : FR l σ (jsA τ q i v) := h.trans ⟨⟨rfl, rfl, rfl, ⟨rfl, Or.inl rfl⟩, rfl, rfl⟩, fun a ha => by
  have hne : a ≠ q := fun z => ha (z ▸ hq)
  exact ⟨fun _ => rfl, fun j => by rw [zA_A, if_neg (fun z => hne z.1)]⟩⟩
theorem FR.C {l : List Nat} {σ τ : jS} {p sp q dp x : Nat} (h : FR l σ τ) (hq : q ∈ l) : FR l σ (jcp τ p sp q dp x) := h.trans ⟨⟨rfl, rfl, rfl, ⟨rfl, Or.inl rfl⟩, rfl, rfl⟩, fun a ha => by
  have hne : a ≠ q := fun z => ha (z ▸ hq)
  exact ⟨fun _ => rfl, fun j => by rw [zC_A, if_neg hne]⟩⟩
theorem FR.sh {l : List Nat} {σ τ : jS} (h : FR l σ τ) (hS : SH σ) : SH τ := by
  unfold SH at hS ⊢
  rw [h.1.1, h.1.2.1, h.1.2.2.1]; exact hS
theorem FR.st {l : List Nat} {σ τ : jS} (h : FR l σ τ) (h1 : 1 ∉ l) (h2 : 2 ∉ l) (hS : ST σ) : ST τ :=
  ⟨fun i hi => by show jA τ 1 i = _; rw [(h.2 1 h1).2 i]; exact hS.1 i hi, fun i hi => by show jA τ 2 i = _; rw [(h.2 2 h2).2 i]; exact hS.2 i hi⟩
theorem FR.tx {l : List Nat} {σ τ : jS} {len : Nat} {b : Nat → Int32} (h : FR l σ τ) (h1 : 18 ∉ l) (h2 : 19 ∉ l) (hT : TX σ len b) : TX τ len b :=
  ⟨by rw [(h.2 18 h1).1]; exact hT.1, hT.2.1, fun i hi => by rw [(h.2 19 h2).2]; exact hT.2.2 i hi⟩
/-! letters -/
theorem nodup_le : ∀ (n : Nat) (rs : List Nat), rs.Nodup → (∀ x, x ∈ rs → x < n) → rs.length ≤ n := by
  intro n
  induction n with
  | zero =>
    intro rs _ h
    cases rs with
    | nil => exact Nat.le_refl _
    | cons x t => exact absurd (h x List.mem_cons_self) (Nat.not_lt_zero x)
  | succ n ih =>
    intro rs hn h
    by_cases hm : n ∈ rs
    · have h2 := ih (rs.erase n) (hn.erase n) (fun x hx => by
        have h3 := (hn.mem_erase_iff).mp hx
        have h4 := h x h3.2
        have h5 := h3.1
        omega)
      rw [List.length_erase_of_mem hm] at h2
      omega
    · have h2 := ih rs hn (fun x hx => by
        have h4 := h x hx
        have h5 : x ≠ n := fun z => hm (z ▸ hx)
        omega)
      omega
def lidx (rs : List Nat) (l : Nat) : Int32 := if l ∈ rs then nI (rs.idxOf l) else -1
def LT (σ : jS) (c a n : Nat) (rs : List Nat) : Prop := jI σ 65 c = nI rs.length ∧ (∀ l, l < n → jA σ a l = lidx rs l) ∧ rs.Nodup ∧ (∀ x, x ∈ rs → x < n)
def lk (rs : List Nat) (l : Nat) (nw : Bool) : Option (Nat × List Nat) := if l ∈ rs then some (rs.idxOf l, rs) else if nw = true then some (rs.length, rs ++ [l]) else none
theorem lidx_add {rs : List Nat} {l : Nat} (h : l ∉ rs) (x : Nat) : lidx (rs ++ [l]) x = if x = l then nI rs.length else lidx rs x := by
  unfold lidx
  by_cases hx : x = l
  · subst hx
    rw [if_pos (by simp), if_pos rfl, List.idxOf_append, if_neg h]
    simp
  · rw [if_neg hx]
    by_cases hm : x ∈ rs
    · rw [if_pos hm, if_pos (by simp [hm]), List.idxOf_append, if_pos hm]
    · rw [if_neg hm, if_neg (by simp [hm, hx])]
section RDR
variable {d : Nat} {σ : jS} {len : Nat} {b : Nat → Int32}
/-- a letter is looked up -/
theorem c37 {c a n : Nat} (h1 : jT σ c = 2) (h2 : jR σ 64 c = some a) (h3 : jT σ a = 20) (h4 : jN σ a = n) (hn : n ≤ 4) {rs : List Nat} (hL : LT σ c a n rs) {l : Nat} (hl : l < n) {w : Int32} {nw : Bool} (hw : w = if nw = true then 1 else 0) :
    match lk rs l nw with
    | some (k, rs') => ∃ σ', jx d 37 0 [some (.ref c), some (.int (nI l)), some (.int w)] [] σ = some (some (.int (nI k)), σ') ∧ FR [c, a] σ σ' ∧ (c ≠ a → LT σ' c a n rs') ∧ k < 2 ^ 31
    | none => jx d 37 0 [some (.ref c), some (.int (nI l)), some (.int w)] [] σ = some (some (.int (-1)), σ) := by
  obtain ⟨q1, q2, q3, q4⟩ := hL
  have hlen := nodup_le n rs q3 q4
  have g1 : ¬ nI l < 0 := nI_pos (by omega)
  have g2 : nI l < Int32.ofNat n := nI_lt hl (by omega)
  have g3 : jin n (nI l) := jin_n hl (by omega)
  have g4 : (nI l).toNatClampNeg = l := nI_clamp (by omega)
  have g5 := q2 l hl
  unfold lk
  by_cases hm : l ∈ rs
  · rw [if_pos hm]
    have hi : rs.idxOf l < rs.length := List.idxOf_lt_length_iff.mpr hm
    have g6 : lidx rs l = nI (rs.idxOf l) := if_pos hm
    rw [g6] at g5
    have g7 : (0 : Int32) ≤ nI (rs.idxOf l) := nI_pos' (by omega)
    refine ⟨σ, ?_, FR.refl _ _, fun _ => ⟨q1, q2, q3, q4⟩, by omega⟩
    simp (decide := true) only [k37_0, k37_4, k37_13, k37_15, k37_24, k37_28, k37_48, h1, h2, h3, h4, g1, g2, g3, g4, g5, g7, ↓reduceIte, Option.getD_some, ne_eq, reduceCtorEq, not_false_eq_true, Option.bind_some, and_self, true_or]
  · rw [if_neg hm]
    have g6 : lidx rs l = -1 := if_neg hm
    rw [g6] at g5
    cases nw with
    | true =>
      rw [if_pos rfl]
      rw [if_pos rfl] at hw
      subst hw
      refine ⟨jsI (jsA σ a l (nI rs.length)) 65 c (nI (rs.length + 1)), ?_, ((FR.refl _ _).A (by simp)).I (by simp), fun hca => ⟨?_, ?_, ?_, ?_⟩, by omega⟩
      · simp (decide := true) only [k37_0, k37_4, k37_13, k37_15, k37_24, k37_28, k37_48, h1, h2, h3, h4, g1, g2, g3, g4, g5, q1, zA_A, nI_succ, ↓reduceIte, Option.getD_some, ne_eq, reduceCtorEq, not_false_eq_true, Option.bind_some, and_self, true_or]
      · rw [zI_I, if_pos ⟨rfl, rfl⟩, List.length_append]; rfl
      · intro x hx
        rw [zI_A, zA_A, lidx_add hm]
        by_cases hxl : x = l
        · rw [if_pos ⟨rfl, hxl⟩, if_pos hxl]
        · rw [if_neg (fun z => hxl z.2), if_neg hxl]; exact q2 x hx
      · rw [List.nodup_append]
        exact ⟨q3, by simp, fun x hx y hy => by simp at hy; subst hy; exact fun z => hm (z ▸ hx)⟩
      · intro x hx
        rcases List.mem_append.mp hx with z | z
        · exact q4 x z
        · simp at z; subst z; exact hl
    | false =>
      rw [if_neg (by decide)]
      rw [if_neg (by decide)] at hw
      subst hw
      simp (decide := true) only [k37_0, k37_4, k37_13, k37_15, k37_24, k37_28, k37_48, h1, h2, h3, h4, g1, g2, g3, g4, g5, ↓reduceIte, Option.getD_some, ne_eq, reduceCtorEq, not_false_eq_true, Option.bind_some, and_self, true_or]
end RDR
/-- what the reader has: its place, the letters of registers and marks, the order's fields -/
abbrev jPS : Type := Nat × List Nat × List Nat × (Nat → Int32)
def RD (m W : Nat) (s : jPS) (σ : jS) : Prop := jI σ 198 17 = nI s.1 ∧ jI σ 199 17 = nI m ∧ jI σ 200 17 = nI W ∧ LT σ 20 21 4 s.2.1 ∧ LT σ 22 23 3 s.2.2.1 ∧ (∀ j, j < 6 → jA σ 24 j = s.2.2.2 j) ∧ jI σ 192 17 = 0
def rdl : List Nat := [17, 20, 21, 22, 23, 24]
def RES (m W : Nat) (σ : jS) (r : jr) (o : Option jPS) : Prop := match o with
  | some s => ∃ σ', r = some (some (.int 1), σ') ∧ FR rdl σ σ' ∧ RD m W s σ'
  | none => ∃ σ', r = some (some (.int 0), σ') ∧ FR rdl σ σ' ∧ ¬ jI σ' 192 17 = 0
def up6 (f : Nat → Int32) (j : Nat) (v : Int32) : Nat → Int32 := fun i => if i = j then v else f i
theorem LT_I {σ : jS} {g q : Nat} {v : Int32} {c a n : Nat} {rs : List Nat} (h : ¬ (g = 65 ∧ q = c)) (hL : LT σ c a n rs) : LT (jsI σ g q v) c a n rs := by
  refine ⟨?_, hL.2.1, hL.2.2⟩
  rw [zI_I, if_neg (fun z => h ⟨z.1.symm, z.2.symm⟩)]; exact hL.1
theorem LT_A {σ : jS} {q i : Nat} {v : Int32} {c a n : Nat} {rs : List Nat} (h : ¬ q = a) (hL : LT σ c a n rs) : LT (jsA σ q i v) c a n rs := by
  refine ⟨hL.1, fun l hl => ?_, hL.2.2⟩
  rw [zA_A, if_neg (fun z => h z.1.symm)]; exact hL.2.1 l hl
theorem RD.at {m W : Nat} {s : jPS} {σ : jS} (h : RD m W s σ) (p : Nat) : RD m W (p, s.2) (jsI σ 198 17 (nI p)) := by
  obtain ⟨h1, h2, h3, h4, h5, h6, h7⟩ := h
  refine ⟨by rw [zI_I, if_pos ⟨rfl, rfl⟩], by rw [zI_I, if_neg (by decide)]; exact h2, by rw [zI_I, if_neg (by decide)]; exact h3, LT_I (by decide) h4, LT_I (by decide) h5, h6, by rw [zI_I, if_neg (by decide)]; exact h7⟩
theorem RD.fld {m W : Nat} {s : jPS} {σ : jS} (h : RD m W s σ) (j : Nat) (v : Int32) : RD m W (s.1, s.2.1, s.2.2.1, up6 s.2.2.2 j v) (jsA σ 24 j v) := by
  obtain ⟨h1, h2, h3, h4, h5, h6, h7⟩ := h
  refine ⟨h1, h2, h3, LT_A (by decide) h4, LT_A (by decide) h5, fun i hi => ?_, h7⟩
  rw [zA_A]
  show _ = if i = j then v else s.2.2.2 i
  by_cases hij : i = j
  · rw [if_pos ⟨rfl, hij⟩, if_pos hij]
  · rw [if_neg (fun z => hij z.2), if_neg hij]; exact h6 i hi
section RD2
variable {d : Nat} {σ : jS} {len m W : Nat} {b : Nat → Int32} {s : jPS}
theorem c32 (hS : SH σ) {k : Int32} (hk : ¬ k = 0) : ∃ σ', jx d 32 0 [some (.ref 17), some (.int k)] [] σ = some (some (.int 0), σ') ∧ FR rdl σ σ' ∧ ¬ jI σ' 192 17 = 0 := by
  refine ⟨jsI (jsI σ 192 17 k) 193 17 (jI σ 198 17), ?_, ((FR.refl _ _).I (by decide)).I (by decide), ?_⟩
  · simp (decide := true) only [k32_0, sT_1, sT_2, sT_3, sT_16, sT_17, sT_18, sT_19, sT_20, sT_21, sT_22, sT_23, sT_24, sT_25, sT_26, sT_27, sT_28, sT_29, sT_30, sT_31, sT_32, sT_33, sT_34, sT_35, sT_36, sT_37, sT_38, sT_39, sT_40, sT_41, sT_42, sT_43, sT_44, sT_45, sT_46, sT_47, sT_48, sT_49, sT_50, sT_51, sT_52, sT_53, sT_54, sT_55, sT_56, sT_57, sT_58, sT_59, sT_60, sT_61, sT_62, sT_63, sT_64, sT_65, sT_66, sT_67, sT_68, sT_69, sT_70, sT_71, sT_72, sT_73, sT_74, sT_75, sT_76, sT_77, sT_78, sT_79, sT_80, sN_1, sN_2, sN_19, sN_21, sN_23, sN_24, sN_26, sN_29, sN_31, sN_33, sN_35, sN_36, sN_37, sN_39, sN_40, sN_42, sN_44, sN_45, sN_46, sN_48, sN_49, sN_50, sN_51, sN_52, sN_53, sN_54, sN_55, sN_56, sN_57, sN_58, sN_59, sN_60, sN_61, sN_62, sN_63, sN_64, sN_65, sN_66, sN_67, sN_68, sN_69, sN_70, sN_71, sN_72, sN_73, sN_74, sN_75, sN_76, sN_77, sN_78, sN_79, sN_80, sR_0_34, sR_0_38, sR_1_34, sR_1_38, sR_64_20, sR_64_22, sR_128_25, sR_128_28, sR_194_17, sR_195_17, sR_196_17, sR_197_17, sR_258_30, sR_258_32, sR_258_41, sR_384_43, sR_448_18, sR_512_27, sR_513_27, sR_514_27, sR_515_27, sR_516_27, sR_576_16, sR_577_16, sR_578_16, sR_579_16, sR_580_16, sR_581_16, sR_582_16, sR_583_16, sR_584_16, sR_641_47, sR_643_47, sR_645_47, sR_646_47, sR_647_47, sR_648_47, sR_649_47, sR_650_47, sR_651_47, sR_652_47, sR_653_47, sR_654_47, sR_655_47, sR_656_47, sR_657_47, sR_658_47, sR_659_47, sR_661_47, sR_662_47, sR_663_47, sR_664_47, sR_665_47, sR_669_47, sR_670_47, sR_671_47, sR_672_47, sR_673_47, sR_674_47, sR_676_47, sR_677_47, sR_679_47, sR_680_47, sR_681_47, SH_I, SH_A, SH_G, SH_C, hS]
  · rw [zI_I, if_neg (by decide), zI_I, if_pos ⟨rfl, rfl⟩]; exact hk
theorem c38 (hS : SH σ) (hR : RD m W s σ) {j : Nat} (hj : j < 6) (v : Int32) : ∃ σ', jx d 38 0 [some (.ref 17), some (.int (nI j)), some (.int v)] [] σ = some (some (.int 1), σ') ∧ FR rdl σ σ' ∧ RD m W (s.1 + 1, s.2.1, s.2.2.1, up6 s.2.2.2 j v) σ' := by
  have g1 : ¬ nI j < 0 := nI_pos (by omega)
  have g2 : ¬ (6 : Int32) ≤ nI j := nI_ge (b := 6) hj (by decide)
  have g3 : jin 6 (nI j) := jin_n hj (by decide)
  have g4 : (nI j).toNatClampNeg = j := nI_clamp (by omega)
  refine ⟨jsI (jsA σ 24 j v) 198 17 (nI (s.1 + 1)), ?_, ((FR.refl _ _).A (by decide)).I (by decide), (hR.fld j v).at (s.1 + 1)⟩
  simp (decide := true) only [k38_0, k38_4, k38_13, k38_20, sT_1, sT_2, sT_3, sT_16, sT_17, sT_18, sT_19, sT_20, sT_21, sT_22, sT_23, sT_24, sT_25, sT_26, sT_27, sT_28, sT_29, sT_30, sT_31, sT_32, sT_33, sT_34, sT_35, sT_36, sT_37, sT_38, sT_39, sT_40, sT_41, sT_42, sT_43, sT_44, sT_45, sT_46, sT_47, sT_48, sT_49, sT_50, sT_51, sT_52, sT_53, sT_54, sT_55, sT_56, sT_57, sT_58, sT_59, sT_60, sT_61, sT_62, sT_63, sT_64, sT_65, sT_66, sT_67, sT_68, sT_69, sT_70, sT_71, sT_72, sT_73, sT_74, sT_75, sT_76, sT_77, sT_78, sT_79, sT_80, sN_1, sN_2, sN_19, sN_21, sN_23, sN_24, sN_26, sN_29, sN_31, sN_33, sN_35, sN_36, sN_37, sN_39, sN_40, sN_42, sN_44, sN_45, sN_46, sN_48, sN_49, sN_50, sN_51, sN_52, sN_53, sN_54, sN_55, sN_56, sN_57, sN_58, sN_59, sN_60, sN_61, sN_62, sN_63, sN_64, sN_65, sN_66, sN_67, sN_68, sN_69, sN_70, sN_71, sN_72, sN_73, sN_74, sN_75, sN_76, sN_77, sN_78, sN_79, sN_80, sR_0_34, sR_0_38, sR_1_34, sR_1_38, sR_64_20, sR_64_22, sR_128_25, sR_128_28, sR_194_17, sR_195_17, sR_196_17, sR_197_17, sR_258_30, sR_258_32, sR_258_41, sR_384_43, sR_448_18, sR_512_27, sR_513_27, sR_514_27, sR_515_27, sR_516_27, sR_576_16, sR_577_16, sR_578_16, sR_579_16, sR_580_16, sR_581_16, sR_582_16, sR_583_16, sR_584_16, sR_641_47, sR_643_47, sR_645_47, sR_646_47, sR_647_47, sR_648_47, sR_649_47, sR_650_47, sR_651_47, sR_652_47, sR_653_47, sR_654_47, sR_655_47, sR_656_47, sR_657_47, sR_658_47, sR_659_47, sR_661_47, sR_662_47, sR_663_47, sR_664_47, sR_665_47, sR_669_47, sR_670_47, sR_671_47, sR_672_47, sR_673_47, sR_674_47, sR_676_47, sR_677_47, sR_679_47, sR_680_47, sR_681_47, SH_I, SH_A, SH_G, SH_C, hS, g1, g2, g3, g4, hR.1, nI_succ, Option.getD_some, ne_eq, reduceCtorEq, not_false_eq_true, not_true_eq_false, Option.bind_some, Option.toList_none, Option.toList_some, List.nil_append, List.cons_append, List.append_nil, ↓reduceIte, and_self, true_and, and_true, false_and, and_false, or_true, true_or, or_false, false_or, Nat.reduceEqDiff, Nat.reduceAdd, Int32.reduceMul, Int32.reduceAdd, Int32.reduceSub, Int32.reduceToNatClampNeg, Int32.reduceOfNat, Int32.reduceLT, Int32.reduceLE, va_rf]
def sGap (len : Nat) (b : Nat → Int32) (s : jPS) : Option jPS := if tv len b s.1 = 32 then some (sk len b s.1, s.2) else none
theorem c35 (hS : SH σ) (hT : TX σ len b) (hR : RD m W s σ) (hp : s.1 ≤ len) : RES m W σ (jx (d + 2) 35 0 [some (.ref 17)] [] σ) (sGap len b s) := by
  have hl : len ≤ 400 := hT.2.1
  have c := c25 (d := d + 1) hS hT (p := s.1) (by omega)
  unfold sGap
  by_cases h : tv len b s.1 = 32
  · rw [if_pos h]
    refine ⟨jsI σ 198 17 (nI (sk len b s.1)), ?_, (FR.refl _ _).I (by decide), hR.at _⟩
    have c2 := c24 (d := d) hS hT hp hR.1
    simp (decide := true) only [k35_0, k35_11, k35_16, k35_21, k35_22, k35_26, sT_1, sT_2, sT_3, sT_16, sT_17, sT_18, sT_19, sT_20, sT_21, sT_22, sT_23, sT_24, sT_25, sT_26, sT_27, sT_28, sT_29, sT_30, sT_31, sT_32, sT_33, sT_34, sT_35, sT_36, sT_37, sT_38, sT_39, sT_40, sT_41, sT_42, sT_43, sT_44, sT_45, sT_46, sT_47, sT_48, sT_49, sT_50, sT_51, sT_52, sT_53, sT_54, sT_55, sT_56, sT_57, sT_58, sT_59, sT_60, sT_61, sT_62, sT_63, sT_64, sT_65, sT_66, sT_67, sT_68, sT_69, sT_70, sT_71, sT_72, sT_73, sT_74, sT_75, sT_76, sT_77, sT_78, sT_79, sT_80, sN_1, sN_2, sN_19, sN_21, sN_23, sN_24, sN_26, sN_29, sN_31, sN_33, sN_35, sN_36, sN_37, sN_39, sN_40, sN_42, sN_44, sN_45, sN_46, sN_48, sN_49, sN_50, sN_51, sN_52, sN_53, sN_54, sN_55, sN_56, sN_57, sN_58, sN_59, sN_60, sN_61, sN_62, sN_63, sN_64, sN_65, sN_66, sN_67, sN_68, sN_69, sN_70, sN_71, sN_72, sN_73, sN_74, sN_75, sN_76, sN_77, sN_78, sN_79, sN_80, sR_0_34, sR_0_38, sR_1_34, sR_1_38, sR_64_20, sR_64_22, sR_128_25, sR_128_28, sR_194_17, sR_195_17, sR_196_17, sR_197_17, sR_258_30, sR_258_32, sR_258_41, sR_384_43, sR_448_18, sR_512_27, sR_513_27, sR_514_27, sR_515_27, sR_516_27, sR_576_16, sR_577_16, sR_578_16, sR_579_16, sR_580_16, sR_581_16, sR_582_16, sR_583_16, sR_584_16, sR_641_47, sR_643_47, sR_645_47, sR_646_47, sR_647_47, sR_648_47, sR_649_47, sR_650_47, sR_651_47, sR_652_47, sR_653_47, sR_654_47, sR_655_47, sR_656_47, sR_657_47, sR_658_47, sR_659_47, sR_661_47, sR_662_47, sR_663_47, sR_664_47, sR_665_47, sR_669_47, sR_670_47, sR_671_47, sR_672_47, sR_673_47, sR_674_47, sR_676_47, sR_677_47, sR_679_47, sR_680_47, sR_681_47, SH_I, SH_A, SH_G, SH_C, hS, hR.1, c, c2, h, Option.getD_some, ne_eq, reduceCtorEq, not_false_eq_true, not_true_eq_false, Option.bind_some, Option.toList_none, Option.toList_some, List.nil_append, List.cons_append, List.append_nil, ↓reduceIte, and_self, true_and, and_true, false_and, and_false, or_true, true_or, or_false, false_or, Nat.reduceEqDiff, Nat.reduceAdd, Int32.reduceMul, Int32.reduceAdd, Int32.reduceSub, Int32.reduceToNatClampNeg, Int32.reduceOfNat, Int32.reduceLT, Int32.reduceLE, va_rf]
  · rw [if_neg h]
    obtain ⟨σ', e, f1, f2⟩ := c32 (d := d + 1) hS (k := 1) (by decide)
    refine ⟨σ', ?_, f1, f2⟩
    simp (decide := true) only [k35_0, k35_11, k35_16, k35_21, k35_22, k35_26, sT_1, sT_2, sT_3, sT_16, sT_17, sT_18, sT_19, sT_20, sT_21, sT_22, sT_23, sT_24, sT_25, sT_26, sT_27, sT_28, sT_29, sT_30, sT_31, sT_32, sT_33, sT_34, sT_35, sT_36, sT_37, sT_38, sT_39, sT_40, sT_41, sT_42, sT_43, sT_44, sT_45, sT_46, sT_47, sT_48, sT_49, sT_50, sT_51, sT_52, sT_53, sT_54, sT_55, sT_56, sT_57, sT_58, sT_59, sT_60, sT_61, sT_62, sT_63, sT_64, sT_65, sT_66, sT_67, sT_68, sT_69, sT_70, sT_71, sT_72, sT_73, sT_74, sT_75, sT_76, sT_77, sT_78, sT_79, sT_80, sN_1, sN_2, sN_19, sN_21, sN_23, sN_24, sN_26, sN_29, sN_31, sN_33, sN_35, sN_36, sN_37, sN_39, sN_40, sN_42, sN_44, sN_45, sN_46, sN_48, sN_49, sN_50, sN_51, sN_52, sN_53, sN_54, sN_55, sN_56, sN_57, sN_58, sN_59, sN_60, sN_61, sN_62, sN_63, sN_64, sN_65, sN_66, sN_67, sN_68, sN_69, sN_70, sN_71, sN_72, sN_73, sN_74, sN_75, sN_76, sN_77, sN_78, sN_79, sN_80, sR_0_34, sR_0_38, sR_1_34, sR_1_38, sR_64_20, sR_64_22, sR_128_25, sR_128_28, sR_194_17, sR_195_17, sR_196_17, sR_197_17, sR_258_30, sR_258_32, sR_258_41, sR_384_43, sR_448_18, sR_512_27, sR_513_27, sR_514_27, sR_515_27, sR_516_27, sR_576_16, sR_577_16, sR_578_16, sR_579_16, sR_580_16, sR_581_16, sR_582_16, sR_583_16, sR_584_16, sR_641_47, sR_643_47, sR_645_47, sR_646_47, sR_647_47, sR_648_47, sR_649_47, sR_650_47, sR_651_47, sR_652_47, sR_653_47, sR_654_47, sR_655_47, sR_656_47, sR_657_47, sR_658_47, sR_659_47, sR_661_47, sR_662_47, sR_663_47, sR_664_47, sR_665_47, sR_669_47, sR_670_47, sR_671_47, sR_672_47, sR_673_47, sR_674_47, sR_676_47, sR_677_47, sR_679_47, sR_680_47, sR_681_47, SH_I, SH_A, SH_G, SH_C, hS, hR.1, c, h, e, Option.getD_some, ne_eq, reduceCtorEq, not_false_eq_true, not_true_eq_false, Option.bind_some, Option.toList_none, Option.toList_some, List.nil_append, List.cons_append, List.append_nil, ↓reduceIte, and_self, true_and, and_true, false_and, and_false, or_true, true_or, or_false, false_or, Nat.reduceEqDiff, Nat.reduceAdd, Int32.reduceMul, Int32.reduceAdd, Int32.reduceSub, Int32.reduceToNatClampNeg, Int32.reduceOfNat, Int32.reduceLT, Int32.reduceLE, va_rf]
end RD2
end S_28
