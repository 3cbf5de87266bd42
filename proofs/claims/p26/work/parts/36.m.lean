section S_36
/-! the reference's reader: what kinds keep; registers and numbers of a program's order -/
def rst (v n : Int32) : Int32 := if 0 ≤ v - v / n * n then v - v / n * n else v - v / n * n + n
def kpM (W k : Nat) (v : Int32) : Int32 := if k = 0 then rst v ((1 : Int32) <<< (nI W &&& 31)) else if k = 15 ∨ k = 16 then rst v 4 else if rst v 16 ≤ nI W then rst v 16 else nI W
def bdM (W k : Nat) : Int32 := if k = 0 then ((1 : Int32) <<< (nI W &&& 31)) - 1 else if k = 15 ∨ k = 16 then 3 else nI W
theorem kpM_kptX {W k : Nat} (hW : W = 1 ∨ W = 2 ∨ W = 3) (hk : numN k = true) {i : Nat} (hi : i < 46) : kpM W k (nI i - 15) = kptX W k (nI i - 15) := by
  have H : ∀ W, W ∈ [1, 2, 3] → ∀ k, k ∈ [0, 12, 13, 15, 16] → ∀ i, i < 46 → kpM W k (nI i - 15) = kptX W k (nI i - 15) := by decide +kernel
  refine H W (by simpa using hW) k ?_ i hi
  simpa [numN, or_assoc] using hk
section MR3
variable {d : Nat} {σ : jS} {len W : Nat} {b : Nat → Int32} {p : Nat}
theorem c156 {v n : Int32} (hn : ¬ n = 0) : jx d 156 0 [some (.int v), some (.int n), none] [] σ = some (some (.int (rst v n)), σ) := by
  unfold rst
  by_cases h : 0 ≤ v - v / n * n
  · simp (decide := true) only [k156_0 hn, k156_8, k156_14, h, Option.getD_some, ne_eq, reduceCtorEq, not_false_eq_true, not_true_eq_false, Option.bind_some, Option.toList_none, Option.toList_some, List.nil_append, List.cons_append, List.append_nil, ↓reduceIte, and_self, true_and, and_true, false_and, and_false, or_true, true_or, or_false, false_or, Nat.reduceEqDiff, Nat.reduceAdd, Int32.reduceMul, Int32.reduceAdd, Int32.reduceSub, Int32.reduceToNatClampNeg, Int32.reduceOfNat, Int32.reduceLT, Int32.reduceLE, va_rf]
  · simp (decide := true) only [k156_0 hn, k156_8, k156_14, h, Option.getD_some, ne_eq, reduceCtorEq, not_false_eq_true, not_true_eq_false, Option.bind_some, Option.toList_none, Option.toList_some, List.nil_append, List.cons_append, List.append_nil, ↓reduceIte, and_self, true_and, and_true, false_and, and_false, or_true, true_or, or_false, false_or, Nat.reduceEqDiff, Nat.reduceAdd, Int32.reduceMul, Int32.reduceAdd, Int32.reduceSub, Int32.reduceToNatClampNeg, Int32.reduceOfNat, Int32.reduceLT, Int32.reduceLE, va_rf]
theorem c155 (hS : SH σ) (hW : W = 1 ∨ W = 2 ∨ W = 3) (hw : jI σ 640 47 = nI W) {k : Nat} (hk : k < 19) (v : Int32) : jx (d + 1) 155 0 [some (.ref 47), some (.int (nI k)), some (.int v), none] [] σ = some (some (.int (kpM W k v)), σ) := by
  unfold kpM
  by_cases h1 : k = 0
  · subst h1
    have hn : ¬ (1 : Int32) <<< (nI W &&& 31) = 0 := by rcases hW with rfl | rfl | rfl <;> decide
    simp (decide := true) only [k155_0, k155_4, k155_14, k155_15, k155_21, k155_27, k155_32, k155_33, k155_39, k155_48, k155_55, sT_1, sT_2, sT_3, sT_16, sT_17, sT_18, sT_19, sT_20, sT_21, sT_22, sT_23, sT_24, sT_25, sT_26, sT_27, sT_28, sT_29, sT_30, sT_31, sT_32, sT_33, sT_34, sT_35, sT_36, sT_37, sT_38, sT_39, sT_40, sT_41, sT_42, sT_43, sT_44, sT_45, sT_46, sT_47, sT_48, sT_49, sT_50, sT_51, sT_52, sT_53, sT_54, sT_55, sT_56, sT_57, sT_58, sT_59, sT_60, sT_61, sT_62, sT_63, sT_64, sT_65, sT_66, sT_67, sT_68, sT_69, sT_70, sT_71, sT_72, sT_73, sT_74, sT_75, sT_76, sT_77, sT_78, sT_79, sT_80, sN_1, sN_2, sN_19, sN_21, sN_23, sN_24, sN_26, sN_29, sN_31, sN_33, sN_35, sN_36, sN_37, sN_39, sN_40, sN_42, sN_44, sN_45, sN_46, sN_48, sN_49, sN_50, sN_51, sN_52, sN_53, sN_54, sN_55, sN_56, sN_57, sN_58, sN_59, sN_60, sN_61, sN_62, sN_63, sN_64, sN_65, sN_66, sN_67, sN_68, sN_69, sN_70, sN_71, sN_72, sN_73, sN_74, sN_75, sN_76, sN_77, sN_78, sN_79, sN_80, sR_0_34, sR_0_38, sR_1_34, sR_1_38, sR_64_20, sR_64_22, sR_128_25, sR_128_28, sR_194_17, sR_195_17, sR_196_17, sR_197_17, sR_258_30, sR_258_32, sR_258_41, sR_384_43, sR_448_18, sR_512_27, sR_513_27, sR_514_27, sR_515_27, sR_516_27, sR_576_16, sR_577_16, sR_578_16, sR_579_16, sR_580_16, sR_581_16, sR_582_16, sR_583_16, sR_584_16, sR_641_47, sR_643_47, sR_645_47, sR_646_47, sR_647_47, sR_648_47, sR_649_47, sR_650_47, sR_651_47, sR_652_47, sR_653_47, sR_654_47, sR_655_47, sR_656_47, sR_657_47, sR_658_47, sR_659_47, sR_661_47, sR_662_47, sR_663_47, sR_664_47, sR_665_47, sR_669_47, sR_670_47, sR_671_47, sR_672_47, sR_673_47, sR_674_47, sR_676_47, sR_677_47, sR_679_47, sR_680_47, sR_681_47, SH_I, SH_A, SH_G, SH_C, hS, hw, c156 hn, Option.getD_some, ne_eq, reduceCtorEq, not_false_eq_true, not_true_eq_false, Option.bind_some, Option.toList_none, Option.toList_some, List.nil_append, List.cons_append, List.append_nil, ↓reduceIte, and_self, true_and, and_true, false_and, and_false, or_true, true_or, or_false, false_or, Nat.reduceEqDiff, Nat.reduceAdd, Int32.reduceMul, Int32.reduceAdd, Int32.reduceSub, Int32.reduceToNatClampNeg, Int32.reduceOfNat, Int32.reduceLT, Int32.reduceLE, va_rf]
  have g1 : ¬ nI k = 0 := nne (c := 0) (by omega) (by decide) h1
  have e4 := c156 (d := d) (σ := σ) (v := v) (n := 4) (by decide)
  have e16 := c156 (d := d) (σ := σ) (v := v) (n := 16) (by decide)
  by_cases h2 : k = 15
  · subst h2
    simp (decide := true) only [k155_0, k155_4, k155_14, k155_15, k155_21, k155_27, k155_32, k155_33, k155_39, k155_48, k155_55, sT_1, sT_2, sT_3, sT_16, sT_17, sT_18, sT_19, sT_20, sT_21, sT_22, sT_23, sT_24, sT_25, sT_26, sT_27, sT_28, sT_29, sT_30, sT_31, sT_32, sT_33, sT_34, sT_35, sT_36, sT_37, sT_38, sT_39, sT_40, sT_41, sT_42, sT_43, sT_44, sT_45, sT_46, sT_47, sT_48, sT_49, sT_50, sT_51, sT_52, sT_53, sT_54, sT_55, sT_56, sT_57, sT_58, sT_59, sT_60, sT_61, sT_62, sT_63, sT_64, sT_65, sT_66, sT_67, sT_68, sT_69, sT_70, sT_71, sT_72, sT_73, sT_74, sT_75, sT_76, sT_77, sT_78, sT_79, sT_80, sN_1, sN_2, sN_19, sN_21, sN_23, sN_24, sN_26, sN_29, sN_31, sN_33, sN_35, sN_36, sN_37, sN_39, sN_40, sN_42, sN_44, sN_45, sN_46, sN_48, sN_49, sN_50, sN_51, sN_52, sN_53, sN_54, sN_55, sN_56, sN_57, sN_58, sN_59, sN_60, sN_61, sN_62, sN_63, sN_64, sN_65, sN_66, sN_67, sN_68, sN_69, sN_70, sN_71, sN_72, sN_73, sN_74, sN_75, sN_76, sN_77, sN_78, sN_79, sN_80, sR_0_34, sR_0_38, sR_1_34, sR_1_38, sR_64_20, sR_64_22, sR_128_25, sR_128_28, sR_194_17, sR_195_17, sR_196_17, sR_197_17, sR_258_30, sR_258_32, sR_258_41, sR_384_43, sR_448_18, sR_512_27, sR_513_27, sR_514_27, sR_515_27, sR_516_27, sR_576_16, sR_577_16, sR_578_16, sR_579_16, sR_580_16, sR_581_16, sR_582_16, sR_583_16, sR_584_16, sR_641_47, sR_643_47, sR_645_47, sR_646_47, sR_647_47, sR_648_47, sR_649_47, sR_650_47, sR_651_47, sR_652_47, sR_653_47, sR_654_47, sR_655_47, sR_656_47, sR_657_47, sR_658_47, sR_659_47, sR_661_47, sR_662_47, sR_663_47, sR_664_47, sR_665_47, sR_669_47, sR_670_47, sR_671_47, sR_672_47, sR_673_47, sR_674_47, sR_676_47, sR_677_47, sR_679_47, sR_680_47, sR_681_47, SH_I, SH_A, SH_G, SH_C, hS, hw, e4, Option.getD_some, ne_eq, reduceCtorEq, not_false_eq_true, not_true_eq_false, Option.bind_some, Option.toList_none, Option.toList_some, List.nil_append, List.cons_append, List.append_nil, ↓reduceIte, and_self, true_and, and_true, false_and, and_false, or_true, true_or, or_false, false_or, Nat.reduceEqDiff, Nat.reduceAdd, Int32.reduceMul, Int32.reduceAdd, Int32.reduceSub, Int32.reduceToNatClampNeg, Int32.reduceOfNat, Int32.reduceLT, Int32.reduceLE, va_rf]
  have g2 : ¬ nI k = 15 := nne (by omega) (by decide) h2
  by_cases h3 : k = 16
  · subst h3
    simp (decide := true) only [k155_0, k155_4, k155_14, k155_15, k155_21, k155_27, k155_32, k155_33, k155_39, k155_48, k155_55, sT_1, sT_2, sT_3, sT_16, sT_17, sT_18, sT_19, sT_20, sT_21, sT_22, sT_23, sT_24, sT_25, sT_26, sT_27, sT_28, sT_29, sT_30, sT_31, sT_32, sT_33, sT_34, sT_35, sT_36, sT_37, sT_38, sT_39, sT_40, sT_41, sT_42, sT_43, sT_44, sT_45, sT_46, sT_47, sT_48, sT_49, sT_50, sT_51, sT_52, sT_53, sT_54, sT_55, sT_56, sT_57, sT_58, sT_59, sT_60, sT_61, sT_62, sT_63, sT_64, sT_65, sT_66, sT_67, sT_68, sT_69, sT_70, sT_71, sT_72, sT_73, sT_74, sT_75, sT_76, sT_77, sT_78, sT_79, sT_80, sN_1, sN_2, sN_19, sN_21, sN_23, sN_24, sN_26, sN_29, sN_31, sN_33, sN_35, sN_36, sN_37, sN_39, sN_40, sN_42, sN_44, sN_45, sN_46, sN_48, sN_49, sN_50, sN_51, sN_52, sN_53, sN_54, sN_55, sN_56, sN_57, sN_58, sN_59, sN_60, sN_61, sN_62, sN_63, sN_64, sN_65, sN_66, sN_67, sN_68, sN_69, sN_70, sN_71, sN_72, sN_73, sN_74, sN_75, sN_76, sN_77, sN_78, sN_79, sN_80, sR_0_34, sR_0_38, sR_1_34, sR_1_38, sR_64_20, sR_64_22, sR_128_25, sR_128_28, sR_194_17, sR_195_17, sR_196_17, sR_197_17, sR_258_30, sR_258_32, sR_258_41, sR_384_43, sR_448_18, sR_512_27, sR_513_27, sR_514_27, sR_515_27, sR_516_27, sR_576_16, sR_577_16, sR_578_16, sR_579_16, sR_580_16, sR_581_16, sR_582_16, sR_583_16, sR_584_16, sR_641_47, sR_643_47, sR_645_47, sR_646_47, sR_647_47, sR_648_47, sR_649_47, sR_650_47, sR_651_47, sR_652_47, sR_653_47, sR_654_47, sR_655_47, sR_656_47, sR_657_47, sR_658_47, sR_659_47, sR_661_47, sR_662_47, sR_663_47, sR_664_47, sR_665_47, sR_669_47, sR_670_47, sR_671_47, sR_672_47, sR_673_47, sR_674_47, sR_676_47, sR_677_47, sR_679_47, sR_680_47, sR_681_47, SH_I, SH_A, SH_G, SH_C, hS, hw, e4, Option.getD_some, ne_eq, reduceCtorEq, not_false_eq_true, not_true_eq_false, Option.bind_some, Option.toList_none, Option.toList_some, List.nil_append, List.cons_append, List.append_nil, ↓reduceIte, and_self, true_and, and_true, false_and, and_false, or_true, true_or, or_false, false_or, Nat.reduceEqDiff, Nat.reduceAdd, Int32.reduceMul, Int32.reduceAdd, Int32.reduceSub, Int32.reduceToNatClampNeg, Int32.reduceOfNat, Int32.reduceLT, Int32.reduceLE, va_rf]
  have g3 : ¬ nI k = 16 := nne (by omega) (by decide) h3
  by_cases h4 : rst v 16 ≤ nI W
  · simp (decide := true) only [k155_0, k155_4, k155_14, k155_15, k155_21, k155_27, k155_32, k155_33, k155_39, k155_48, k155_55, sT_1, sT_2, sT_3, sT_16, sT_17, sT_18, sT_19, sT_20, sT_21, sT_22, sT_23, sT_24, sT_25, sT_26, sT_27, sT_28, sT_29, sT_30, sT_31, sT_32, sT_33, sT_34, sT_35, sT_36, sT_37, sT_38, sT_39, sT_40, sT_41, sT_42, sT_43, sT_44, sT_45, sT_46, sT_47, sT_48, sT_49, sT_50, sT_51, sT_52, sT_53, sT_54, sT_55, sT_56, sT_57, sT_58, sT_59, sT_60, sT_61, sT_62, sT_63, sT_64, sT_65, sT_66, sT_67, sT_68, sT_69, sT_70, sT_71, sT_72, sT_73, sT_74, sT_75, sT_76, sT_77, sT_78, sT_79, sT_80, sN_1, sN_2, sN_19, sN_21, sN_23, sN_24, sN_26, sN_29, sN_31, sN_33, sN_35, sN_36, sN_37, sN_39, sN_40, sN_42, sN_44, sN_45, sN_46, sN_48, sN_49, sN_50, sN_51, sN_52, sN_53, sN_54, sN_55, sN_56, sN_57, sN_58, sN_59, sN_60, sN_61, sN_62, sN_63, sN_64, sN_65, sN_66, sN_67, sN_68, sN_69, sN_70, sN_71, sN_72, sN_73, sN_74, sN_75, sN_76, sN_77, sN_78, sN_79, sN_80, sR_0_34, sR_0_38, sR_1_34, sR_1_38, sR_64_20, sR_64_22, sR_128_25, sR_128_28, sR_194_17, sR_195_17, sR_196_17, sR_197_17, sR_258_30, sR_258_32, sR_258_41, sR_384_43, sR_448_18, sR_512_27, sR_513_27, sR_514_27, sR_515_27, sR_516_27, sR_576_16, sR_577_16, sR_578_16, sR_579_16, sR_580_16, sR_581_16, sR_582_16, sR_583_16, sR_584_16, sR_641_47, sR_643_47, sR_645_47, sR_646_47, sR_647_47, sR_648_47, sR_649_47, sR_650_47, sR_651_47, sR_652_47, sR_653_47, sR_654_47, sR_655_47, sR_656_47, sR_657_47, sR_658_47, sR_659_47, sR_661_47, sR_662_47, sR_663_47, sR_664_47, sR_665_47, sR_669_47, sR_670_47, sR_671_47, sR_672_47, sR_673_47, sR_674_47, sR_676_47, sR_677_47, sR_679_47, sR_680_47, sR_681_47, SH_I, SH_A, SH_G, SH_C, hS, hw, e16, h1, h2, h3, g1, g2, g3, h4, Option.getD_some, ne_eq, reduceCtorEq, not_false_eq_true, not_true_eq_false, Option.bind_some, Option.toList_none, Option.toList_some, List.nil_append, List.cons_append, List.append_nil, ↓reduceIte, and_self, true_and, and_true, false_and, and_false, or_true, true_or, or_false, false_or, Nat.reduceEqDiff, Nat.reduceAdd, Int32.reduceMul, Int32.reduceAdd, Int32.reduceSub, Int32.reduceToNatClampNeg, Int32.reduceOfNat, Int32.reduceLT, Int32.reduceLE, va_rf]
  · simp (decide := true) only [k155_0, k155_4, k155_14, k155_15, k155_21, k155_27, k155_32, k155_33, k155_39, k155_48, k155_55, sT_1, sT_2, sT_3, sT_16, sT_17, sT_18, sT_19, sT_20, sT_21, sT_22, sT_23, sT_24, sT_25, sT_26, sT_27, sT_28, sT_29, sT_30, sT_31, sT_32, sT_33, sT_34, sT_35, sT_36, sT_37, sT_38, sT_39, sT_40, sT_41, sT_42, sT_43, sT_44, sT_45, sT_46, sT_47, sT_48, sT_49, sT_50, sT_51, sT_52, sT_53, sT_54, sT_55, sT_56, sT_57, sT_58, sT_59, sT_60, sT_61, sT_62, sT_63, sT_64, sT_65, sT_66, sT_67, sT_68, sT_69, sT_70, sT_71, sT_72, sT_73, sT_74, sT_75, sT_76, sT_77, sT_78, sT_79, sT_80, sN_1, sN_2, sN_19, sN_21, sN_23, sN_24, sN_26, sN_29, sN_31, sN_33, sN_35, sN_36, sN_37, sN_39, sN_40, sN_42, sN_44, sN_45, sN_46, sN_48, sN_49, sN_50, sN_51, sN_52, sN_53, sN_54, sN_55, sN_56, sN_57, sN_58, sN_59, sN_60, sN_61, sN_62, sN_63, sN_64, sN_65, sN_66, sN_67, sN_68, sN_69, sN_70, sN_71, sN_72, sN_73, sN_74, sN_75, sN_76, sN_77, sN_78, sN_79, sN_80, sR_0_34, sR_0_38, sR_1_34, sR_1_38, sR_64_20, sR_64_22, sR_128_25, sR_128_28, sR_194_17, sR_195_17, sR_196_17, sR_197_17, sR_258_30, sR_258_32, sR_258_41, sR_384_43, sR_448_18, sR_512_27, sR_513_27, sR_514_27, sR_515_27, sR_516_27, sR_576_16, sR_577_16, sR_578_16, sR_579_16, sR_580_16, sR_581_16, sR_582_16, sR_583_16, sR_584_16, sR_641_47, sR_643_47, sR_645_47, sR_646_47, sR_647_47, sR_648_47, sR_649_47, sR_650_47, sR_651_47, sR_652_47, sR_653_47, sR_654_47, sR_655_47, sR_656_47, sR_657_47, sR_658_47, sR_659_47, sR_661_47, sR_662_47, sR_663_47, sR_664_47, sR_665_47, sR_669_47, sR_670_47, sR_671_47, sR_672_47, sR_673_47, sR_674_47, sR_676_47, sR_677_47, sR_679_47, sR_680_47, sR_681_47, SH_I, SH_A, SH_G, SH_C, hS, hw, e16, h1, h2, h3, g1, g2, g3, h4, Option.getD_some, ne_eq, reduceCtorEq, not_false_eq_true, not_true_eq_false, Option.bind_some, Option.toList_none, Option.toList_some, List.nil_append, List.cons_append, List.append_nil, ↓reduceIte, and_self, true_and, and_true, false_and, and_false, or_true, true_or, or_false, false_or, Nat.reduceEqDiff, Nat.reduceAdd, Int32.reduceMul, Int32.reduceAdd, Int32.reduceSub, Int32.reduceToNatClampNeg, Int32.reduceOfNat, Int32.reduceLT, Int32.reduceLE, va_rf]
theorem c146 (hS : SH σ) (hw : jI σ 640 47 = nI W) {k : Nat} (hk : k < 19) : jx d 146 0 [some (.ref 47), some (.int (nI k))] [] σ = some (some (.int (bdM W k)), σ) := by
  unfold bdM
  by_cases h1 : k = 0
  · subst h1
    simp (decide := true) only [k146_0, k146_4, k146_15, k146_21, k146_27, k146_31, sT_1, sT_2, sT_3, sT_16, sT_17, sT_18, sT_19, sT_20, sT_21, sT_22, sT_23, sT_24, sT_25, sT_26, sT_27, sT_28, sT_29, sT_30, sT_31, sT_32, sT_33, sT_34, sT_35, sT_36, sT_37, sT_38, sT_39, sT_40, sT_41, sT_42, sT_43, sT_44, sT_45, sT_46, sT_47, sT_48, sT_49, sT_50, sT_51, sT_52, sT_53, sT_54, sT_55, sT_56, sT_57, sT_58, sT_59, sT_60, sT_61, sT_62, sT_63, sT_64, sT_65, sT_66, sT_67, sT_68, sT_69, sT_70, sT_71, sT_72, sT_73, sT_74, sT_75, sT_76, sT_77, sT_78, sT_79, sT_80, sN_1, sN_2, sN_19, sN_21, sN_23, sN_24, sN_26, sN_29, sN_31, sN_33, sN_35, sN_36, sN_37, sN_39, sN_40, sN_42, sN_44, sN_45, sN_46, sN_48, sN_49, sN_50, sN_51, sN_52, sN_53, sN_54, sN_55, sN_56, sN_57, sN_58, sN_59, sN_60, sN_61, sN_62, sN_63, sN_64, sN_65, sN_66, sN_67, sN_68, sN_69, sN_70, sN_71, sN_72, sN_73, sN_74, sN_75, sN_76, sN_77, sN_78, sN_79, sN_80, sR_0_34, sR_0_38, sR_1_34, sR_1_38, sR_64_20, sR_64_22, sR_128_25, sR_128_28, sR_194_17, sR_195_17, sR_196_17, sR_197_17, sR_258_30, sR_258_32, sR_258_41, sR_384_43, sR_448_18, sR_512_27, sR_513_27, sR_514_27, sR_515_27, sR_516_27, sR_576_16, sR_577_16, sR_578_16, sR_579_16, sR_580_16, sR_581_16, sR_582_16, sR_583_16, sR_584_16, sR_641_47, sR_643_47, sR_645_47, sR_646_47, sR_647_47, sR_648_47, sR_649_47, sR_650_47, sR_651_47, sR_652_47, sR_653_47, sR_654_47, sR_655_47, sR_656_47, sR_657_47, sR_658_47, sR_659_47, sR_661_47, sR_662_47, sR_663_47, sR_664_47, sR_665_47, sR_669_47, sR_670_47, sR_671_47, sR_672_47, sR_673_47, sR_674_47, sR_676_47, sR_677_47, sR_679_47, sR_680_47, sR_681_47, SH_I, SH_A, SH_G, SH_C, hS, hw, Option.getD_some, ne_eq, reduceCtorEq, not_false_eq_true, not_true_eq_false, Option.bind_some, Option.toList_none, Option.toList_some, List.nil_append, List.cons_append, List.append_nil, ↓reduceIte, and_self, true_and, and_true, false_and, and_false, or_true, true_or, or_false, false_or, Nat.reduceEqDiff, Nat.reduceAdd, Int32.reduceMul, Int32.reduceAdd, Int32.reduceSub, Int32.reduceToNatClampNeg, Int32.reduceOfNat, Int32.reduceLT, Int32.reduceLE, va_rf]
  have g1 : ¬ nI k = 0 := nne (c := 0) (by omega) (by decide) h1
  by_cases h2 : k = 15
  · subst h2
    simp (decide := true) only [k146_0, k146_4, k146_15, k146_21, k146_27, k146_31, sT_1, sT_2, sT_3, sT_16, sT_17, sT_18, sT_19, sT_20, sT_21, sT_22, sT_23, sT_24, sT_25, sT_26, sT_27, sT_28, sT_29, sT_30, sT_31, sT_32, sT_33, sT_34, sT_35, sT_36, sT_37, sT_38, sT_39, sT_40, sT_41, sT_42, sT_43, sT_44, sT_45, sT_46, sT_47, sT_48, sT_49, sT_50, sT_51, sT_52, sT_53, sT_54, sT_55, sT_56, sT_57, sT_58, sT_59, sT_60, sT_61, sT_62, sT_63, sT_64, sT_65, sT_66, sT_67, sT_68, sT_69, sT_70, sT_71, sT_72, sT_73, sT_74, sT_75, sT_76, sT_77, sT_78, sT_79, sT_80, sN_1, sN_2, sN_19, sN_21, sN_23, sN_24, sN_26, sN_29, sN_31, sN_33, sN_35, sN_36, sN_37, sN_39, sN_40, sN_42, sN_44, sN_45, sN_46, sN_48, sN_49, sN_50, sN_51, sN_52, sN_53, sN_54, sN_55, sN_56, sN_57, sN_58, sN_59, sN_60, sN_61, sN_62, sN_63, sN_64, sN_65, sN_66, sN_67, sN_68, sN_69, sN_70, sN_71, sN_72, sN_73, sN_74, sN_75, sN_76, sN_77, sN_78, sN_79, sN_80, sR_0_34, sR_0_38, sR_1_34, sR_1_38, sR_64_20, sR_64_22, sR_128_25, sR_128_28, sR_194_17, sR_195_17, sR_196_17, sR_197_17, sR_258_30, sR_258_32, sR_258_41, sR_384_43, sR_448_18, sR_512_27, sR_513_27, sR_514_27, sR_515_27, sR_516_27, sR_576_16, sR_577_16, sR_578_16, sR_579_16, sR_580_16, sR_581_16, sR_582_16, sR_583_16, sR_584_16, sR_641_47, sR_643_47, sR_645_47, sR_646_47, sR_647_47, sR_648_47, sR_649_47, sR_650_47, sR_651_47, sR_652_47, sR_653_47, sR_654_47, sR_655_47, sR_656_47, sR_657_47, sR_658_47, sR_659_47, sR_661_47, sR_662_47, sR_663_47, sR_664_47, sR_665_47, sR_669_47, sR_670_47, sR_671_47, sR_672_47, sR_673_47, sR_674_47, sR_676_47, sR_677_47, sR_679_47, sR_680_47, sR_681_47, SH_I, SH_A, SH_G, SH_C, hS, hw, Option.getD_some, ne_eq, reduceCtorEq, not_false_eq_true, not_true_eq_false, Option.bind_some, Option.toList_none, Option.toList_some, List.nil_append, List.cons_append, List.append_nil, ↓reduceIte, and_self, true_and, and_true, false_and, and_false, or_true, true_or, or_false, false_or, Nat.reduceEqDiff, Nat.reduceAdd, Int32.reduceMul, Int32.reduceAdd, Int32.reduceSub, Int32.reduceToNatClampNeg, Int32.reduceOfNat, Int32.reduceLT, Int32.reduceLE, va_rf]
  have g2 : ¬ nI k = 15 := nne (by omega) (by decide) h2
  by_cases h3 : k = 16
  · subst h3
    simp (decide := true) only [k146_0, k146_4, k146_15, k146_21, k146_27, k146_31, sT_1, sT_2, sT_3, sT_16, sT_17, sT_18, sT_19, sT_20, sT_21, sT_22, sT_23, sT_24, sT_25, sT_26, sT_27, sT_28, sT_29, sT_30, sT_31, sT_32, sT_33, sT_34, sT_35, sT_36, sT_37, sT_38, sT_39, sT_40, sT_41, sT_42, sT_43, sT_44, sT_45, sT_46, sT_47, sT_48, sT_49, sT_50, sT_51, sT_52, sT_53, sT_54, sT_55, sT_56, sT_57, sT_58, sT_59, sT_60, sT_61, sT_62, sT_63, sT_64, sT_65, sT_66, sT_67, sT_68, sT_69, sT_70, sT_71, sT_72, sT_73, sT_74, sT_75, sT_76, sT_77, sT_78, sT_79, sT_80, sN_1, sN_2, sN_19, sN_21, sN_23, sN_24, sN_26, sN_29, sN_31, sN_33, sN_35, sN_36, sN_37, sN_39, sN_40, sN_42, sN_44, sN_45, sN_46, sN_48, sN_49, sN_50, sN_51, sN_52, sN_53, sN_54, sN_55, sN_56, sN_57, sN_58, sN_59, sN_60, sN_61, sN_62, sN_63, sN_64, sN_65, sN_66, sN_67, sN_68, sN_69, sN_70, sN_71, sN_72, sN_73, sN_74, sN_75, sN_76, sN_77, sN_78, sN_79, sN_80, sR_0_34, sR_0_38, sR_1_34, sR_1_38, sR_64_20, sR_64_22, sR_128_25, sR_128_28, sR_194_17, sR_195_17, sR_196_17, sR_197_17, sR_258_30, sR_258_32, sR_258_41, sR_384_43, sR_448_18, sR_512_27, sR_513_27, sR_514_27, sR_515_27, sR_516_27, sR_576_16, sR_577_16, sR_578_16, sR_579_16, sR_580_16, sR_581_16, sR_582_16, sR_583_16, sR_584_16, sR_641_47, sR_643_47, sR_645_47, sR_646_47, sR_647_47, sR_648_47, sR_649_47, sR_650_47, sR_651_47, sR_652_47, sR_653_47, sR_654_47, sR_655_47, sR_656_47, sR_657_47, sR_658_47, sR_659_47, sR_661_47, sR_662_47, sR_663_47, sR_664_47, sR_665_47, sR_669_47, sR_670_47, sR_671_47, sR_672_47, sR_673_47, sR_674_47, sR_676_47, sR_677_47, sR_679_47, sR_680_47, sR_681_47, SH_I, SH_A, SH_G, SH_C, hS, hw, Option.getD_some, ne_eq, reduceCtorEq, not_false_eq_true, not_true_eq_false, Option.bind_some, Option.toList_none, Option.toList_some, List.nil_append, List.cons_append, List.append_nil, ↓reduceIte, and_self, true_and, and_true, false_and, and_false, or_true, true_or, or_false, false_or, Nat.reduceEqDiff, Nat.reduceAdd, Int32.reduceMul, Int32.reduceAdd, Int32.reduceSub, Int32.reduceToNatClampNeg, Int32.reduceOfNat, Int32.reduceLT, Int32.reduceLE, va_rf]
  have g3 : ¬ nI k = 16 := nne (by omega) (by decide) h3
  simp (decide := true) only [k146_0, k146_4, k146_15, k146_21, k146_27, k146_31, sT_1, sT_2, sT_3, sT_16, sT_17, sT_18, sT_19, sT_20, sT_21, sT_22, sT_23, sT_24, sT_25, sT_26, sT_27, sT_28, sT_29, sT_30, sT_31, sT_32, sT_33, sT_34, sT_35, sT_36, sT_37, sT_38, sT_39, sT_40, sT_41, sT_42, sT_43, sT_44, sT_45, sT_46, sT_47, sT_48, sT_49, sT_50, sT_51, sT_52, sT_53, sT_54, sT_55, sT_56, sT_57, sT_58, sT_59, sT_60, sT_61, sT_62, sT_63, sT_64, sT_65, sT_66, sT_67, sT_68, sT_69, sT_70, sT_71, sT_72, sT_73, sT_74, sT_75, sT_76, sT_77, sT_78, sT_79, sT_80, sN_1, sN_2, sN_19, sN_21, sN_23, sN_24, sN_26, sN_29, sN_31, sN_33, sN_35, sN_36, sN_37, sN_39, sN_40, sN_42, sN_44, sN_45, sN_46, sN_48, sN_49, sN_50, sN_51, sN_52, sN_53, sN_54, sN_55, sN_56, sN_57, sN_58, sN_59, sN_60, sN_61, sN_62, sN_63, sN_64, sN_65, sN_66, sN_67, sN_68, sN_69, sN_70, sN_71, sN_72, sN_73, sN_74, sN_75, sN_76, sN_77, sN_78, sN_79, sN_80, sR_0_34, sR_0_38, sR_1_34, sR_1_38, sR_64_20, sR_64_22, sR_128_25, sR_128_28, sR_194_17, sR_195_17, sR_196_17, sR_197_17, sR_258_30, sR_258_32, sR_258_41, sR_384_43, sR_448_18, sR_512_27, sR_513_27, sR_514_27, sR_515_27, sR_516_27, sR_576_16, sR_577_16, sR_578_16, sR_579_16, sR_580_16, sR_581_16, sR_582_16, sR_583_16, sR_584_16, sR_641_47, sR_643_47, sR_645_47, sR_646_47, sR_647_47, sR_648_47, sR_649_47, sR_650_47, sR_651_47, sR_652_47, sR_653_47, sR_654_47, sR_655_47, sR_656_47, sR_657_47, sR_658_47, sR_659_47, sR_661_47, sR_662_47, sR_663_47, sR_664_47, sR_665_47, sR_669_47, sR_670_47, sR_671_47, sR_672_47, sR_673_47, sR_674_47, sR_676_47, sR_677_47, sR_679_47, sR_680_47, sR_681_47, SH_I, SH_A, SH_G, SH_C, hS, hw, h1, h2, h3, g1, g2, g3, Option.getD_some, ne_eq, reduceCtorEq, not_false_eq_true, not_true_eq_false, Option.bind_some, Option.toList_none, Option.toList_some, List.nil_append, List.cons_append, List.append_nil, ↓reduceIte, and_self, true_and, and_true, false_and, and_false, or_true, true_or, or_false, false_or, Nat.reduceEqDiff, Nat.reduceAdd, Int32.reduceMul, Int32.reduceAdd, Int32.reduceSub, Int32.reduceToNatClampNeg, Int32.reduceOfNat, Int32.reduceLT, Int32.reduceLE, va_rf]
end MR3
def mRegsP (len : Nat) (b : Nat → Int32) : Nat → Nat → Nat → (Nat → Int32) → Option (Nat × (Nat → Int32))
  | 0, _, p, g => some (p, g)
  | f + 1, j, p, g => (mGap len b p).bind (fun p1 => (mLet len b 97 4 p1).bind (fun z => mRegsP len b f (j + 1) z.2 (up6 g j z.1)))
/-- one order's reading: the reader's fields and the row q may change -/
def MQf (q : Nat) (σ σ' : jS) : Prop := FR [47, q] σ σ' ∧ ∀ g, g ≠ 666 → g ≠ 667 → g ≠ 668 → jI σ' g 47 = jI σ g 47
theorem MQf.refl (q : Nat) (σ : jS) : MQf q σ σ := ⟨FR.refl _ _, fun _ _ _ _ => rfl⟩
theorem MQf.trans {q : Nat} {σ τ υ : jS} (h : MQf q σ τ) (k : MQf q τ υ) : MQf q σ υ := ⟨h.1.trans k.1, fun g a b c => (k.2 g a b c).trans (h.2 g a b c)⟩
theorem MF.mq {q : Nat} {σ τ : jS} (h : MF σ τ) : MQf q σ τ := ⟨h.1.mono (fun a ha => by simp at ha; simp [ha]), h.2⟩
theorem MQf.A {q : Nat} {σ τ : jS} {i : Nat} {v : Int32} (h : MQf q σ τ) : MQf q σ (jsA τ q i v) := ⟨h.1.A (by simp), fun g a b c => by rw [zA_I]; exact h.2 g a b c⟩
theorem MQf.tm {q : Nat} {σ τ : jS} {len : Nat} {b : Nat → Int32} (h : MQf q σ τ) (hq : 80 < q) (hT : TM σ len b) : TM τ len b := ⟨by rw [h.2 642 (by decide) (by decide) (by decide)]; exact hT.1, hT.2.1, fun i hi => by rw [(h.1.2 48 (by simp; omega)).2]; exact hT.2.2 i hi⟩
section MR4
variable {d : Nat} {len W : Nat} {b : Nat → Int32}
theorem mGap_le {p p' : Nat} (hp : p ≤ len) (h : mGap len b p = some p') : p' ≤ len := by
  unfold mGap at h
  split at h
  · cases h; exact (sk_le hp).2
  · cases h
theorem mLet_le {p : Nat} {x y : Int32} {z : Int32 × Nat} (h : mLet len b x y p = some z) : z.2 ≤ len := by
  unfold mLet at h
  split at h
  · rename_i g
    cases h
    have : p < len := tv_in (fun z => by rw [z] at g; exact absurd g.1 (by decide))
    exact this
  · cases h
theorem c159r {q : Nat} (hq : 80 < q) {x1 x2 x3 x4 x5 : Option Value} {m : Nat} (hm : m ≤ 3) : ∀ (f j p : Nat) (g : Nat → Int32) (σ : jS), j + f = m → SH σ → TM σ len b → p ≤ len → jI σ 666 47 = nI p → jI σ 667 47 = 0 → jT σ q = 20 → jN σ q = 3 → (∀ i, i < 3 → jA σ q i = g i) →
    ∃ σ' v, jx (d + 3) 159 94 [some (.ref 47), x1, x2, x3, x4, x5, some (.ref q), some (.int (nI m)), some (.int (nI j))] [] σ = jx (d + 3) 159 141 [some (.ref 47), x1, x2, x3, x4, x5, some (.ref q), some (.int (nI m)), v] [] σ' ∧ MQf q σ σ' ∧ (match mRegsP len b f j p g with | some z => jI σ' 666 47 = nI z.1 ∧ jI σ' 667 47 = 0 ∧ z.1 ≤ len ∧ (∀ i, i < 3 → jA σ' q i = z.2 i) | none => ¬ jI σ' 667 47 = 0) := by
  intro f
  induction f with
  | zero =>
    intro j p g σ hj hS hT hp hat h0 t1 t2 hg
    have e : nI m ≤ nI j := nI_le (by omega) (by omega)
    refine ⟨σ, some (.int (nI j)), ?_, MQf.refl q σ, hat, h0, hp, hg⟩
    rw [k159_94, if_pos e]
  | succ f ih =>
    intro j p g σ hj hS hT hp hat h0 t1 t2 hg
    have e : ¬ nI m ≤ nI j := nI_ge (by omega) (by omega)
    have hjj : jin 3 (nI j) := jin_n (by omega) (by decide)
    have hcl : (nI j).toNatClampNeg = j := nI_clamp (by omega)
    have stop : ∀ (σ' : jS), SH σ' → ¬ jI σ' 667 47 = 0 → ∃ v, jx (d + 3) 159 94 [some (.ref 47), x1, x2, x3, x4, x5, some (.ref q), some (.int (nI m)), some (.int (nI (j + 1)))] [] σ' = jx (d + 3) 159 141 [some (.ref 47), x1, x2, x3, x4, x5, some (.ref q), some (.int (nI m)), v] [] σ' := by
      intro σ' hS' hf'
      refine ⟨some (.int (nI (j + 1))), ?_⟩
      rw [k159_94]
      by_cases h : nI m ≤ nI (j + 1)
      · rw [if_pos h]
      · rw [if_neg h, k159_101 (sT_47 hS'), if_pos hf']
    obtain ⟨σ1, e1, f1, r1⟩ := c138 (d := d) hS hT hp hat h0
    have hS1 := f1.1.sh hS
    have q1 : q ∉ [47] := by simp; omega
    have t11 : jT σ1 q = 20 := by rw [f1.1.1.1]; exact t1
    have t21 : jN σ1 q = 3 := by rw [f1.1.1.2.1]; exact t2
    show ∃ σ' v, _ ∧ _ ∧ (match (mGap len b p).bind (fun p1 => (mLet len b 97 4 p1).bind (fun z => mRegsP len b f (j + 1) z.2 (up6 g j z.1))) with | some z => _ | none => _)
    have start : jx (d + 3) 159 94 [some (.ref 47), x1, x2, x3, x4, x5, some (.ref q), some (.int (nI m)), some (.int (nI j))] [] σ = jx (d + 3) 159 112 [some (.ref 47), x1, x2, x3, x4, x5, some (.ref q), some (.int (nI m)), some (.int (nI j))] [] σ1 := by
      rw [k159_94, if_neg e, k159_101 (sT_47 hS), if_neg (fun z => z h0), k159_108 (sT_47 hS), e1]
      rfl
    cases hG : mGap len b p with
    | none =>
      rw [hG] at r1
      have r1 : ¬ jI σ1 667 47 = 0 := r1
      have hS2 : SH (jsA σ1 q j 0) := by rw [SH_A]; exact hS1
      obtain ⟨v, ev⟩ := stop (jsA σ1 q j 0) hS2 (by rw [zA_I]; exact r1)
      refine ⟨jsA σ1 q j 0, v, ?_, f1.mq.A, by rw [zA_I]; exact r1⟩
      rw [start, ← ev]
      simp (decide := true) only [k159_112, k159_123, k159_133, sT_1, sT_2, sT_3, sT_16, sT_17, sT_18, sT_19, sT_20, sT_21, sT_22, sT_23, sT_24, sT_25, sT_26, sT_27, sT_28, sT_29, sT_30, sT_31, sT_32, sT_33, sT_34, sT_35, sT_36, sT_37, sT_38, sT_39, sT_40, sT_41, sT_42, sT_43, sT_44, sT_45, sT_46, sT_47, sT_48, sT_49, sT_50, sT_51, sT_52, sT_53, sT_54, sT_55, sT_56, sT_57, sT_58, sT_59, sT_60, sT_61, sT_62, sT_63, sT_64, sT_65, sT_66, sT_67, sT_68, sT_69, sT_70, sT_71, sT_72, sT_73, sT_74, sT_75, sT_76, sT_77, sT_78, sT_79, sT_80, sN_1, sN_2, sN_19, sN_21, sN_23, sN_24, sN_26, sN_29, sN_31, sN_33, sN_35, sN_36, sN_37, sN_39, sN_40, sN_42, sN_44, sN_45, sN_46, sN_48, sN_49, sN_50, sN_51, sN_52, sN_53, sN_54, sN_55, sN_56, sN_57, sN_58, sN_59, sN_60, sN_61, sN_62, sN_63, sN_64, sN_65, sN_66, sN_67, sN_68, sN_69, sN_70, sN_71, sN_72, sN_73, sN_74, sN_75, sN_76, sN_77, sN_78, sN_79, sN_80, sR_0_34, sR_0_38, sR_1_34, sR_1_38, sR_64_20, sR_64_22, sR_128_25, sR_128_28, sR_194_17, sR_195_17, sR_196_17, sR_197_17, sR_258_30, sR_258_32, sR_258_41, sR_384_43, sR_448_18, sR_512_27, sR_513_27, sR_514_27, sR_515_27, sR_516_27, sR_576_16, sR_577_16, sR_578_16, sR_579_16, sR_580_16, sR_581_16, sR_582_16, sR_583_16, sR_584_16, sR_641_47, sR_643_47, sR_645_47, sR_646_47, sR_647_47, sR_648_47, sR_649_47, sR_650_47, sR_651_47, sR_652_47, sR_653_47, sR_654_47, sR_655_47, sR_656_47, sR_657_47, sR_658_47, sR_659_47, sR_661_47, sR_662_47, sR_663_47, sR_664_47, sR_665_47, sR_669_47, sR_670_47, sR_671_47, sR_672_47, sR_673_47, sR_674_47, sR_676_47, sR_677_47, sR_679_47, sR_680_47, sR_681_47, SH_I, SH_A, SH_G, SH_C, hS1, r1, t11, t21, hjj, hcl, nI_succ, Option.getD_some, ne_eq, reduceCtorEq, not_false_eq_true, not_true_eq_false, Option.bind_some, Option.toList_none, Option.toList_some, List.nil_append, List.cons_append, List.append_nil, ↓reduceIte, and_self, true_and, and_true, false_and, and_false, or_true, true_or, or_false, false_or, Nat.reduceEqDiff, Nat.reduceAdd, Int32.reduceMul, Int32.reduceAdd, Int32.reduceSub, Int32.reduceToNatClampNeg, Int32.reduceOfNat, Int32.reduceLT, Int32.reduceLE, va_rf]
    | some p1 =>
      rw [hG] at r1
      obtain ⟨a1, z1⟩ := r1
      have hp1 := mGap_le hp hG
      obtain ⟨w, σ2, e2, f2, r2⟩ := c140 (d := d) hS1 (f1.tm hT) hp1 a1 z1 97 4
      have hS2 := f2.1.sh hS1
      have t12 : jT σ2 q = 20 := by rw [f2.1.1.1]; exact t11
      have t22 : jN σ2 q = 3 := by rw [f2.1.1.2.1]; exact t21
      have hS3 : SH (jsA σ2 q j w) := by rw [SH_A]; exact hS2
      have step : jx (d + 3) 159 94 [some (.ref 47), x1, x2, x3, x4, x5, some (.ref q), some (.int (nI m)), some (.int (nI j))] [] σ = jx (d + 3) 159 94 [some (.ref 47), x1, x2, x3, x4, x5, some (.ref q), some (.int (nI m)), some (.int (nI (j + 1)))] [] (jsA σ2 q j w) := by
        rw [start, k159_112 (sT_47 hS1), if_neg (fun z => z z1), k159_123 (sT_47 hS1), e2]
        simp only [Option.bind_some, Option.toList_some, List.cons_append, List.nil_append]
        rw [k159_130 t12 (by rw [t22]; exact hjj), hcl, nI_succ]
      have F : MQf q σ (jsA σ2 q j w) := ((f1.mq).trans f2.mq).A
      cases hL : mLet len b 97 4 p1 with
      | none =>
        rw [hL] at r2
        have r2 : ¬ jI σ2 667 47 = 0 := r2
        obtain ⟨v, ev⟩ := stop (jsA σ2 q j w) hS3 (by rw [zA_I]; exact r2)
        refine ⟨jsA σ2 q j w, v, by rw [step, ev], F, ?_⟩
        have r3 : ¬ jI (jsA σ2 q j w) 667 47 = 0 := by rw [zA_I]; exact r2
        rw [Option.bind_some, hL]
        exact r3
      | some z =>
        rw [hL] at r2
        obtain ⟨w1, a2, z2⟩ := r2
        have hp2 := mLet_le hL
        obtain ⟨σ', v, e', F', r'⟩ := ih (j + 1) z.2 (up6 g j z.1) (jsA σ2 q j w) (by omega) hS3 (F.tm hq hT) hp2 (by rw [zA_I]; exact a2) (by rw [zA_I]; exact z2) t12 t22 (by
          intro i hi
          show _ = if i = j then z.1 else g i
          rw [zA_A]
          by_cases hij : i = j
          · rw [if_pos ⟨rfl, hij⟩, if_pos hij, w1]
          · rw [if_neg (fun y => hij y.2), if_neg hij, (f2.1.2 q q1).2, (f1.1.2 q q1).2]; exact hg i hi)
        refine ⟨σ', v, by rw [step, e'], F.trans F', ?_⟩
        rw [Option.bind_some, hL]
        exact r'
end MR4
end S_36
section S_37
/-! the reference's reader: known letters -/
/-- the row a holds these letters in their order -/
def LRw (σ : jS) (a : Nat) (rs : List Nat) : Prop := ∀ i, i < rs.length → jA σ a i = nI (rs.getD i 0)
theorem lr_idx : ∀ (rs : List Nat) (k l : Nat), k < rs.length → rs.getD k 0 = l → (∀ i, i < k → ¬ rs.getD i 0 = l) → l ∈ rs ∧ rs.idxOf l = k := by
  intro rs
  induction rs with
  | nil => intro k l h; exact absurd h (Nat.not_lt_zero k)
  | cons x t ih =>
    intro k l hk hg hn
    cases k with
    | zero =>
      have e : x = l := hg
      subst e
      exact ⟨List.mem_cons_self, List.idxOf_cons_self⟩
    | succ k =>
      have hx : ¬ x = l := hn 0 (Nat.succ_pos k)
      obtain ⟨h1, h2⟩ := ih k l (Nat.lt_of_succ_lt_succ hk) hg (fun i hi => hn (i + 1) (Nat.succ_lt_succ hi))
      refine ⟨List.mem_cons_of_mem x h1, ?_⟩
      rw [List.idxOf_cons, h2]
      have e : (x == l) = false := by simpa using hx
      rw [e]; rfl
theorem lr_none {rs : List Nat} {l : Nat} (hn : ∀ i, i < rs.length → ¬ rs.getD i 0 = l) : ¬ l ∈ rs := by
  intro h
  obtain ⟨i, hi, e⟩ := List.mem_iff_getElem.mp h
  refine hn i hi ?_
  rw [List.getD_eq_getElem?_getD, List.getElem?_eq_getElem hi]
  exact e
section MR5
variable {d : Nat} {σ : jS}
theorem c142 (hS : SH σ) {a N : Nat} (ha : jT σ a = 20) (hN : jN σ a = N) (hN4 : N ≤ 4) {rs : List Nat} {l : Nat} (hL : LRw σ a rs) (hlen : rs.length ≤ N) (hnew : ¬ l ∈ rs → rs.length < N) (hl : l < 2 ^ 31) (hrs : ∀ i, i < rs.length → rs.getD i 0 < 2 ^ 31) (h0 : jI σ 667 47 = 0) (fs : Bool) (pl : Int32) :
    match lk rs l fs with
    | some z => ∃ σ', jx (d + 1) 142 0 [some (.ref 47), some (.ref a), some (.int (nI l)), some (.int (nI rs.length)), some (.int (if fs = true then 1 else 0)), some (.int pl), none] [] σ = some (some (.int (nI z.1)), σ') ∧ σ' = (if l ∈ rs then σ else jsA σ a rs.length (nI l))
    | none => ∃ σ', jx (d + 1) 142 0 [some (.ref 47), some (.ref a), some (.int (nI l)), some (.int (nI rs.length)), some (.int (if fs = true then 1 else 0)), some (.int pl), none] [] σ = some (some (.int 0), σ') ∧ MF σ σ' ∧ ¬ jI σ' 667 47 = 0 := by
  have H : ∀ f k, rs.length - k = f → k ≤ rs.length → (∀ i, i < k → ¬ rs.getD i 0 = l) → jx (d + 1) 142 3 [some (.ref 47), some (.ref a), some (.int (nI l)), some (.int (nI rs.length)), some (.int (if fs = true then 1 else 0)), some (.int pl), some (.int (nI k))] [] σ = if l ∈ rs then some (some (.int (nI (rs.idxOf l))), σ) else jx (d + 1) 142 26 [some (.ref 47), some (.ref a), some (.int (nI l)), some (.int (nI rs.length)), some (.int (if fs = true then 1 else 0)), some (.int pl), some (.int (nI rs.length))] [] σ := by
    intro f
    induction f with
    | zero =>
      intro k hf hk hn
      have e : k = rs.length := by omega
      subst e
      rw [if_neg (lr_none hn), k142_3, if_pos (nI_le (Nat.le_refl _) (by omega))]
    | succ f ih =>
      intro k hf hk hn
      have hk2 : k < rs.length := by omega
      have g1 : ¬ nI rs.length ≤ nI k := nI_ge hk2 (by omega)
      have g2 : jin (jN σ a) (nI k) := by rw [hN]; exact jin_n (by omega) (by omega)
      have g3 : (nI k).toNatClampNeg = k := nI_clamp (by omega)
      rw [k142_3, if_neg g1, k142_9 (Or.inl ha) g2, g3, hL k hk2]
      by_cases h : rs.getD k 0 = l
      · obtain ⟨q1, q2⟩ := lr_idx rs k l hk2 h hn
        rw [if_neg (fun z => z (by rw [h])), if_pos q1, q2, k142_17]
      · have h2 : ¬ nI (rs.getD k 0) = nI l := by rw [n31eq (hrs k hk2) hl]; exact h
        rw [if_pos h2, k142_20, ← nI_succ]
        refine ih (k + 1) (by omega) (by omega) (fun i hi => ?_)
        rcases Nat.lt_or_ge i k with q | q
        · exact hn i q
        · rw [show i = k by omega]; exact h
  have E := H rs.length 0 rfl (Nat.zero_le _) (fun i hi => absurd hi (Nat.not_lt_zero i))
  rw [show nI 0 = (0 : Int32) from rfl, ← k142_0] at E
  rw [E]
  unfold lk
  by_cases hm : l ∈ rs
  · rw [if_pos hm, if_pos hm]
    exact ⟨σ, rfl, by rw [if_pos hm]⟩
  · rw [if_neg hm, if_neg hm]
    cases fs with
    | true =>
      have g2 : jin (jN σ a) (nI rs.length) := by rw [hN]; exact jin_n (hnew hm) (by omega)
      have g3 : (nI rs.length).toNatClampNeg = rs.length := nI_clamp (by omega)
      refine ⟨jsA σ a rs.length (nI l), ?_, by rw [if_neg hm]⟩
      simp (decide := true) only [k142_26, k142_40 ha g2, g3, Option.getD_some, ne_eq, reduceCtorEq, not_false_eq_true, not_true_eq_false, Option.bind_some, Option.toList_none, Option.toList_some, List.nil_append, List.cons_append, List.append_nil, ↓reduceIte, and_self, true_and, and_true, false_and, and_false, or_true, true_or, or_false, false_or, Nat.reduceEqDiff, Nat.reduceAdd, Int32.reduceMul, Int32.reduceAdd, Int32.reduceSub, Int32.reduceToNatClampNeg, Int32.reduceOfNat, Int32.reduceLT, Int32.reduceLE, va_rf]
    | false =>
      obtain ⟨σ2, e2, f2, f3⟩ := c136x (d := d) hS h0 (c := 3) (by decide) pl
      refine ⟨σ2, ?_, f2, f3⟩
      simp (decide := true) only [k142_26, k142_31, k142_38, sT_1, sT_2, sT_3, sT_16, sT_17, sT_18, sT_19, sT_20, sT_21, sT_22, sT_23, sT_24, sT_25, sT_26, sT_27, sT_28, sT_29, sT_30, sT_31, sT_32, sT_33, sT_34, sT_35, sT_36, sT_37, sT_38, sT_39, sT_40, sT_41, sT_42, sT_43, sT_44, sT_45, sT_46, sT_47, sT_48, sT_49, sT_50, sT_51, sT_52, sT_53, sT_54, sT_55, sT_56, sT_57, sT_58, sT_59, sT_60, sT_61, sT_62, sT_63, sT_64, sT_65, sT_66, sT_67, sT_68, sT_69, sT_70, sT_71, sT_72, sT_73, sT_74, sT_75, sT_76, sT_77, sT_78, sT_79, sT_80, sN_1, sN_2, sN_19, sN_21, sN_23, sN_24, sN_26, sN_29, sN_31, sN_33, sN_35, sN_36, sN_37, sN_39, sN_40, sN_42, sN_44, sN_45, sN_46, sN_48, sN_49, sN_50, sN_51, sN_52, sN_53, sN_54, sN_55, sN_56, sN_57, sN_58, sN_59, sN_60, sN_61, sN_62, sN_63, sN_64, sN_65, sN_66, sN_67, sN_68, sN_69, sN_70, sN_71, sN_72, sN_73, sN_74, sN_75, sN_76, sN_77, sN_78, sN_79, sN_80, sR_0_34, sR_0_38, sR_1_34, sR_1_38, sR_64_20, sR_64_22, sR_128_25, sR_128_28, sR_194_17, sR_195_17, sR_196_17, sR_197_17, sR_258_30, sR_258_32, sR_258_41, sR_384_43, sR_448_18, sR_512_27, sR_513_27, sR_514_27, sR_515_27, sR_516_27, sR_576_16, sR_577_16, sR_578_16, sR_579_16, sR_580_16, sR_581_16, sR_582_16, sR_583_16, sR_584_16, sR_641_47, sR_643_47, sR_645_47, sR_646_47, sR_647_47, sR_648_47, sR_649_47, sR_650_47, sR_651_47, sR_652_47, sR_653_47, sR_654_47, sR_655_47, sR_656_47, sR_657_47, sR_658_47, sR_659_47, sR_661_47, sR_662_47, sR_663_47, sR_664_47, sR_665_47, sR_669_47, sR_670_47, sR_671_47, sR_672_47, sR_673_47, sR_674_47, sR_676_47, sR_677_47, sR_679_47, sR_680_47, sR_681_47, SH_I, SH_A, SH_G, SH_C, hS, e2, Option.getD_some, ne_eq, reduceCtorEq, not_false_eq_true, not_true_eq_false, Option.bind_some, Option.toList_none, Option.toList_some, List.nil_append, List.cons_append, List.append_nil, ↓reduceIte, and_self, true_and, and_true, false_and, and_false, or_true, true_or, or_false, false_or, Nat.reduceEqDiff, Nat.reduceAdd, Int32.reduceMul, Int32.reduceAdd, Int32.reduceSub, Int32.reduceToNatClampNeg, Int32.reduceOfNat, Int32.reduceLT, Int32.reduceLE, va_rf]
end MR5
end S_37
section S_38
/-! the reference's reader: a rule's register -/
section MR6
variable {d : Nat} {σ : jS} {len : Nat} {b : Nat → Int32} {p : Nat}
theorem mLet_val {X Y : Nat} {z : Int32 × Nat} (hXY : X + Y < 2 ^ 31) (hY : 1 ≤ Y) (h : mLet len b (nI X) (nI Y) p = some z) : ∃ l, l < Y ∧ z.1 = nI l := by
  unfold mLet at h
  split at h
  · rename_i g
    obtain ⟨-, -, ⟨g1, g2⟩, -⟩ := g
    rw [nadd, show (1 : Int32) = nI 1 from rfl, nsub (by omega)] at g2
    have n1 : ¬ tv len b p < 0 := by
      intro z
      rw [Int32.lt_iff_toInt_lt] at z
      rw [Int32.le_iff_toInt_le, nI_toInt (by omega)] at g1
      have : (0 : Int32).toInt = 0 := rfl
      omega
    have n2 : ¬ nI (X + Y) ≤ tv len b p := by
      intro z
      rw [Int32.le_iff_toInt_le, nI_toInt (by omega)] at z
      rw [Int32.le_iff_toInt_le, nI_toInt (by omega)] at g2
      omega
    obtain ⟨e, hlt⟩ := i32_nat hXY n1 n2
    generalize (tv len b p).toNatClampNeg = t at e hlt
    rw [e, n31le (by omega) (by omega)] at g1
    cases h
    refine ⟨t - X, by omega, ?_⟩
    show tv len b p - nI X = _
    rw [e, nsub g1]
  · cases h
def mRegR (len : Nat) (b : Nat → Int32) (fs : Bool) (p : Nat) (rs : List Nat) : Option (Nat × Nat × List Nat) :=
  (mLet len b 112 4 p).bind (fun z => (lk rs z.1.toNatClampNeg fs).map (fun y => (z.2, y.1, y.2)))
theorem c139 (hS : SH σ) (hT : TM σ len b) (hp : p ≤ len) (hat : jI σ 666 47 = nI p) (h0 : jI σ 667 47 = 0) {r k : Nat} (hr : r < 24) (hk : k < 576) {rs : List Nat} (hL : LRw σ 71 rs) (hn : rs.Nodup) (hb : ∀ x, x ∈ rs → x < 4) (hc : jA σ 56 r = nI rs.length) (fs : Bool) :
    ∃ σ', jx (d + 3) 139 0 [some (.ref 47), some (.int (nI r)), some (.int (nI k)), some (.int (if fs = true then 1 else 0)), none, none, none] [] σ = some (none, σ') ∧ FR [47, 71, 56, 52] σ σ' ∧ (∀ g, g ≠ 666 → g ≠ 667 → g ≠ 668 → jI σ' g 47 = jI σ g 47) ∧ (∀ i, i ≠ r → jA σ' 56 i = jA σ 56 i) ∧ (∀ i, i ≠ k → jA σ' 52 i = jA σ 52 i) ∧
      (match mRegR len b fs p rs with | some z => jI σ' 666 47 = nI z.1 ∧ jI σ' 667 47 = 0 ∧ LRw σ' 71 z.2.2 ∧ jA σ' 56 r = nI z.2.2.length ∧ jA σ' 52 k = nI z.2.1 | none => ¬ jI σ' 667 47 = 0) := by
  obtain ⟨v, σ1, e1, f1, r1⟩ := c140 (d := d) hS hT hp hat h0 112 4
  have hS1 := f1.1.sh hS
  have hc1 : jA σ1 56 r = nI rs.length := by rw [(f1.1.2 56 (by decide)).2]; exact hc
  have L1 : LRw σ1 71 rs := fun i hi => by rw [(f1.1.2 71 (by decide)).2]; exact hL i hi
  have F1 : FR [47, 71, 56, 52] σ σ1 := f1.1.mono (by decide)
  have gr : jin 24 (nI r) := jin_n hr (by decide)
  have gk : jin 576 (nI k) := jin_n hk (by decide)
  have cr : (nI r).toNatClampNeg = r := nI_clamp (by omega)
  have ck : (nI k).toNatClampNeg = k := nI_clamp (by omega)
  have rl : rs.length ≤ 4 := nodup_le 4 rs hn hb
  have e0 : jx (d + 3) 139 0 [some (.ref 47), some (.int (nI r)), some (.int (nI k)), some (.int (if fs = true then 1 else 0)), none, none, none] [] σ = jx (d + 3) 139 13 [some (.ref 47), some (.int (nI r)), some (.int (nI k)), some (.int (if fs = true then 1 else 0)), some (.int (nI p)), none, none] [.int v] σ1 := by
    rw [k139_0 (sT_47 hS), e1, hat]; rfl
  unfold mRegR
  cases hM : mLet len b 112 4 p with
  | none =>
    rw [hM] at r1
    have r1 : ¬ jI σ1 667 47 = 0 := r1
    refine ⟨σ1, ?_, F1, f1.2, fun i _ => (f1.1.2 56 (by decide)).2 i, fun i _ => (f1.1.2 52 (by decide)).2 i, r1⟩
    rw [e0, k139_13 (sT_47 hS1), if_pos r1, k139_88]
  | some z =>
    rw [hM] at r1
    obtain ⟨w, a1, z1⟩ := r1
    obtain ⟨l, hl, el⟩ := mLet_val (X := 112) (Y := 4) (by decide) (by decide) hM
    have cl : z.1.toNatClampNeg = l := by rw [el]; exact nI_clamp (by omega)
    have C := c142 (d := d + 1) hS1 (a := 71) (N := 4) (sT_71 hS1) (sN_71 hS1) (by decide) (l := l) L1 rl (fun h => by
        have := nodup_le 4 (l :: rs) (List.nodup_cons.mpr ⟨h, hn⟩) (fun x hx => by
          rcases List.mem_cons.mp hx with q | q
          · omega
          · exact hb x q)
        rw [List.length_cons] at this; omega) (by omega) (fun i hi => by
        rw [List.getD_eq_getElem?_getD, List.getElem?_eq_getElem hi]
        have := hb _ (List.getElem_mem hi)
        show rs[i] < _
        omega) z1 fs (nI p)
    have e2 : jx (d + 3) 139 0 [some (.ref 47), some (.int (nI r)), some (.int (nI k)), some (.int (if fs = true then 1 else 0)), none, none, none] [] σ = (jx (d + 2) 142 0 [some (.ref 47), some (.ref 71), some (.int (nI l)), some (.int (nI rs.length)), some (.int (if fs = true then 1 else 0)), some (.int (nI p)), none] [] σ1).bind (fun y => jx (d + 3) 139 41 [some (.ref 47), some (.int (nI r)), some (.int (nI k)), some (.int (if fs = true then 1 else 0)), some (.int (nI p)), some (.int (nI l)), none] (y.1.toList ++ []) y.2) := by
      rw [e0, k139_13 (sT_47 hS1), if_neg (fun q => q z1), w, el]
      simp (decide := true) only [k139_22, sT_1, sT_2, sT_3, sT_16, sT_17, sT_18, sT_19, sT_20, sT_21, sT_22, sT_23, sT_24, sT_25, sT_26, sT_27, sT_28, sT_29, sT_30, sT_31, sT_32, sT_33, sT_34, sT_35, sT_36, sT_37, sT_38, sT_39, sT_40, sT_41, sT_42, sT_43, sT_44, sT_45, sT_46, sT_47, sT_48, sT_49, sT_50, sT_51, sT_52, sT_53, sT_54, sT_55, sT_56, sT_57, sT_58, sT_59, sT_60, sT_61, sT_62, sT_63, sT_64, sT_65, sT_66, sT_67, sT_68, sT_69, sT_70, sT_71, sT_72, sT_73, sT_74, sT_75, sT_76, sT_77, sT_78, sT_79, sT_80, sN_1, sN_2, sN_19, sN_21, sN_23, sN_24, sN_26, sN_29, sN_31, sN_33, sN_35, sN_36, sN_37, sN_39, sN_40, sN_42, sN_44, sN_45, sN_46, sN_48, sN_49, sN_50, sN_51, sN_52, sN_53, sN_54, sN_55, sN_56, sN_57, sN_58, sN_59, sN_60, sN_61, sN_62, sN_63, sN_64, sN_65, sN_66, sN_67, sN_68, sN_69, sN_70, sN_71, sN_72, sN_73, sN_74, sN_75, sN_76, sN_77, sN_78, sN_79, sN_80, sR_0_34, sR_0_38, sR_1_34, sR_1_38, sR_64_20, sR_64_22, sR_128_25, sR_128_28, sR_194_17, sR_195_17, sR_196_17, sR_197_17, sR_258_30, sR_258_32, sR_258_41, sR_384_43, sR_448_18, sR_512_27, sR_513_27, sR_514_27, sR_515_27, sR_516_27, sR_576_16, sR_577_16, sR_578_16, sR_579_16, sR_580_16, sR_581_16, sR_582_16, sR_583_16, sR_584_16, sR_641_47, sR_643_47, sR_645_47, sR_646_47, sR_647_47, sR_648_47, sR_649_47, sR_650_47, sR_651_47, sR_652_47, sR_653_47, sR_654_47, sR_655_47, sR_656_47, sR_657_47, sR_658_47, sR_659_47, sR_661_47, sR_662_47, sR_663_47, sR_664_47, sR_665_47, sR_669_47, sR_670_47, sR_671_47, sR_672_47, sR_673_47, sR_674_47, sR_676_47, sR_677_47, sR_679_47, sR_680_47, sR_681_47, SH_I, SH_A, SH_G, SH_C, hS1, gr, cr, hc1, Option.getD_some, ne_eq, reduceCtorEq, not_false_eq_true, not_true_eq_false, Option.bind_some, Option.toList_none, Option.toList_some, List.nil_append, List.cons_append, List.append_nil, ↓reduceIte, and_self, true_and, and_true, false_and, and_false, or_true, true_or, or_false, false_or, Nat.reduceEqDiff, Nat.reduceAdd, Int32.reduceMul, Int32.reduceAdd, Int32.reduceSub, Int32.reduceToNatClampNeg, Int32.reduceOfNat, Int32.reduceLT, Int32.reduceLE, va_rf]
    rw [Option.bind_some, cl]
    cases hK : lk rs l fs with
    | none =>
      rw [hK] at C
      obtain ⟨σ2, e3, f2, f3⟩ := C
      have hS2 := f2.1.sh hS1
      have hc2 : jA σ2 56 r = nI rs.length := by rw [(f2.1.2 56 (by decide)).2]; exact hc1
      refine ⟨jsA (jsA σ2 56 r (nI rs.length)) 52 k 0, ?_, ((F1.trans (f2.1.mono (by decide))).A (by decide)).A (by decide), fun g a b c => by rw [zA_I, zA_I, f2.2 g a b c, f1.2 g a b c], fun i hi => ?_, fun i hi => ?_, ?_⟩
      · rw [e2, e3]
        by_cases q : (0 : Int32) = nI rs.length
        · simp (decide := true) only [k139_41, k139_59, k139_73, sT_1, sT_2, sT_3, sT_16, sT_17, sT_18, sT_19, sT_20, sT_21, sT_22, sT_23, sT_24, sT_25, sT_26, sT_27, sT_28, sT_29, sT_30, sT_31, sT_32, sT_33, sT_34, sT_35, sT_36, sT_37, sT_38, sT_39, sT_40, sT_41, sT_42, sT_43, sT_44, sT_45, sT_46, sT_47, sT_48, sT_49, sT_50, sT_51, sT_52, sT_53, sT_54, sT_55, sT_56, sT_57, sT_58, sT_59, sT_60, sT_61, sT_62, sT_63, sT_64, sT_65, sT_66, sT_67, sT_68, sT_69, sT_70, sT_71, sT_72, sT_73, sT_74, sT_75, sT_76, sT_77, sT_78, sT_79, sT_80, sN_1, sN_2, sN_19, sN_21, sN_23, sN_24, sN_26, sN_29, sN_31, sN_33, sN_35, sN_36, sN_37, sN_39, sN_40, sN_42, sN_44, sN_45, sN_46, sN_48, sN_49, sN_50, sN_51, sN_52, sN_53, sN_54, sN_55, sN_56, sN_57, sN_58, sN_59, sN_60, sN_61, sN_62, sN_63, sN_64, sN_65, sN_66, sN_67, sN_68, sN_69, sN_70, sN_71, sN_72, sN_73, sN_74, sN_75, sN_76, sN_77, sN_78, sN_79, sN_80, sR_0_34, sR_0_38, sR_1_34, sR_1_38, sR_64_20, sR_64_22, sR_128_25, sR_128_28, sR_194_17, sR_195_17, sR_196_17, sR_197_17, sR_258_30, sR_258_32, sR_258_41, sR_384_43, sR_448_18, sR_512_27, sR_513_27, sR_514_27, sR_515_27, sR_516_27, sR_576_16, sR_577_16, sR_578_16, sR_579_16, sR_580_16, sR_581_16, sR_582_16, sR_583_16, sR_584_16, sR_641_47, sR_643_47, sR_645_47, sR_646_47, sR_647_47, sR_648_47, sR_649_47, sR_650_47, sR_651_47, sR_652_47, sR_653_47, sR_654_47, sR_655_47, sR_656_47, sR_657_47, sR_658_47, sR_659_47, sR_661_47, sR_662_47, sR_663_47, sR_664_47, sR_665_47, sR_669_47, sR_670_47, sR_671_47, sR_672_47, sR_673_47, sR_674_47, sR_676_47, sR_677_47, sR_679_47, sR_680_47, sR_681_47, SH_I, SH_A, SH_G, SH_C, hS2, gr, gk, cr, ck, hc2, f3, q.symm, Option.getD_some, ne_eq, reduceCtorEq, not_false_eq_true, not_true_eq_false, Option.bind_some, Option.toList_none, Option.toList_some, List.nil_append, List.cons_append, List.append_nil, ↓reduceIte, and_self, true_and, and_true, false_and, and_false, or_true, true_or, or_false, false_or, Nat.reduceEqDiff, Nat.reduceAdd, Int32.reduceMul, Int32.reduceAdd, Int32.reduceSub, Int32.reduceToNatClampNeg, Int32.reduceOfNat, Int32.reduceLT, Int32.reduceLE, va_rf]
        · simp (decide := true) only [k139_41, k139_59, k139_73, sT_1, sT_2, sT_3, sT_16, sT_17, sT_18, sT_19, sT_20, sT_21, sT_22, sT_23, sT_24, sT_25, sT_26, sT_27, sT_28, sT_29, sT_30, sT_31, sT_32, sT_33, sT_34, sT_35, sT_36, sT_37, sT_38, sT_39, sT_40, sT_41, sT_42, sT_43, sT_44, sT_45, sT_46, sT_47, sT_48, sT_49, sT_50, sT_51, sT_52, sT_53, sT_54, sT_55, sT_56, sT_57, sT_58, sT_59, sT_60, sT_61, sT_62, sT_63, sT_64, sT_65, sT_66, sT_67, sT_68, sT_69, sT_70, sT_71, sT_72, sT_73, sT_74, sT_75, sT_76, sT_77, sT_78, sT_79, sT_80, sN_1, sN_2, sN_19, sN_21, sN_23, sN_24, sN_26, sN_29, sN_31, sN_33, sN_35, sN_36, sN_37, sN_39, sN_40, sN_42, sN_44, sN_45, sN_46, sN_48, sN_49, sN_50, sN_51, sN_52, sN_53, sN_54, sN_55, sN_56, sN_57, sN_58, sN_59, sN_60, sN_61, sN_62, sN_63, sN_64, sN_65, sN_66, sN_67, sN_68, sN_69, sN_70, sN_71, sN_72, sN_73, sN_74, sN_75, sN_76, sN_77, sN_78, sN_79, sN_80, sR_0_34, sR_0_38, sR_1_34, sR_1_38, sR_64_20, sR_64_22, sR_128_25, sR_128_28, sR_194_17, sR_195_17, sR_196_17, sR_197_17, sR_258_30, sR_258_32, sR_258_41, sR_384_43, sR_448_18, sR_512_27, sR_513_27, sR_514_27, sR_515_27, sR_516_27, sR_576_16, sR_577_16, sR_578_16, sR_579_16, sR_580_16, sR_581_16, sR_582_16, sR_583_16, sR_584_16, sR_641_47, sR_643_47, sR_645_47, sR_646_47, sR_647_47, sR_648_47, sR_649_47, sR_650_47, sR_651_47, sR_652_47, sR_653_47, sR_654_47, sR_655_47, sR_656_47, sR_657_47, sR_658_47, sR_659_47, sR_661_47, sR_662_47, sR_663_47, sR_664_47, sR_665_47, sR_669_47, sR_670_47, sR_671_47, sR_672_47, sR_673_47, sR_674_47, sR_676_47, sR_677_47, sR_679_47, sR_680_47, sR_681_47, SH_I, SH_A, SH_G, SH_C, hS2, gr, gk, cr, ck, hc2, f3, q, Option.getD_some, ne_eq, reduceCtorEq, not_false_eq_true, not_true_eq_false, Option.bind_some, Option.toList_none, Option.toList_some, List.nil_append, List.cons_append, List.append_nil, ↓reduceIte, and_self, true_and, and_true, false_and, and_false, or_true, true_or, or_false, false_or, Nat.reduceEqDiff, Nat.reduceAdd, Int32.reduceMul, Int32.reduceAdd, Int32.reduceSub, Int32.reduceToNatClampNeg, Int32.reduceOfNat, Int32.reduceLT, Int32.reduceLE, va_rf]
      · rw [zA_A, if_neg (fun y => absurd y.1 (by decide)), zA_A, if_neg (fun y => hi y.2), (f2.1.2 56 (by decide)).2, (f1.1.2 56 (by decide)).2]
      · rw [zA_A, if_neg (fun y => hi y.2), zA_A, if_neg (fun y => absurd y.1 (by decide)), (f2.1.2 52 (by decide)).2, (f1.1.2 52 (by decide)).2]
      · show ¬ jI (jsA (jsA σ2 56 r (nI rs.length)) 52 k 0) 667 47 = 0
        rw [zA_I, zA_I]; exact f3
    | some y =>
      rw [hK] at C
      obtain ⟨σ2, e3, e4⟩ := C
      unfold lk at hK
      by_cases hm : l ∈ rs
      · rw [if_pos hm] at e4 hK
        subst e4
        cases hK
        have hi : rs.idxOf l < rs.length := List.idxOf_lt_length_iff.mpr hm
        have q : ¬ nI (rs.idxOf l) = nI rs.length := by rw [n31eq (by omega) (by omega)]; omega
        have e3 : jx (d + 2) 142 0 [some (.ref 47), some (.ref 71), some (.int (nI l)), some (.int (nI rs.length)), some (.int (if fs = true then 1 else 0)), some (.int (nI p)), none] [] σ2 = some (some (.int (nI (rs.idxOf l))), σ2) := e3
        refine ⟨jsA (jsA σ2 56 r (nI rs.length)) 52 k (nI (rs.idxOf l)), ?_, (F1.A (by decide)).A (by decide), fun g a b c => by rw [zA_I, zA_I, f1.2 g a b c], fun i hi => ?_, fun i hi => ?_, ?_⟩
        · rw [e2, e3]
          simp (decide := true) only [k139_41, k139_59, k139_73, sT_1, sT_2, sT_3, sT_16, sT_17, sT_18, sT_19, sT_20, sT_21, sT_22, sT_23, sT_24, sT_25, sT_26, sT_27, sT_28, sT_29, sT_30, sT_31, sT_32, sT_33, sT_34, sT_35, sT_36, sT_37, sT_38, sT_39, sT_40, sT_41, sT_42, sT_43, sT_44, sT_45, sT_46, sT_47, sT_48, sT_49, sT_50, sT_51, sT_52, sT_53, sT_54, sT_55, sT_56, sT_57, sT_58, sT_59, sT_60, sT_61, sT_62, sT_63, sT_64, sT_65, sT_66, sT_67, sT_68, sT_69, sT_70, sT_71, sT_72, sT_73, sT_74, sT_75, sT_76, sT_77, sT_78, sT_79, sT_80, sN_1, sN_2, sN_19, sN_21, sN_23, sN_24, sN_26, sN_29, sN_31, sN_33, sN_35, sN_36, sN_37, sN_39, sN_40, sN_42, sN_44, sN_45, sN_46, sN_48, sN_49, sN_50, sN_51, sN_52, sN_53, sN_54, sN_55, sN_56, sN_57, sN_58, sN_59, sN_60, sN_61, sN_62, sN_63, sN_64, sN_65, sN_66, sN_67, sN_68, sN_69, sN_70, sN_71, sN_72, sN_73, sN_74, sN_75, sN_76, sN_77, sN_78, sN_79, sN_80, sR_0_34, sR_0_38, sR_1_34, sR_1_38, sR_64_20, sR_64_22, sR_128_25, sR_128_28, sR_194_17, sR_195_17, sR_196_17, sR_197_17, sR_258_30, sR_258_32, sR_258_41, sR_384_43, sR_448_18, sR_512_27, sR_513_27, sR_514_27, sR_515_27, sR_516_27, sR_576_16, sR_577_16, sR_578_16, sR_579_16, sR_580_16, sR_581_16, sR_582_16, sR_583_16, sR_584_16, sR_641_47, sR_643_47, sR_645_47, sR_646_47, sR_647_47, sR_648_47, sR_649_47, sR_650_47, sR_651_47, sR_652_47, sR_653_47, sR_654_47, sR_655_47, sR_656_47, sR_657_47, sR_658_47, sR_659_47, sR_661_47, sR_662_47, sR_663_47, sR_664_47, sR_665_47, sR_669_47, sR_670_47, sR_671_47, sR_672_47, sR_673_47, sR_674_47, sR_676_47, sR_677_47, sR_679_47, sR_680_47, sR_681_47, SH_I, SH_A, SH_G, SH_C, hS1, gr, gk, cr, ck, hc1, q, Option.getD_some, ne_eq, reduceCtorEq, not_false_eq_true, not_true_eq_false, Option.bind_some, Option.toList_none, Option.toList_some, List.nil_append, List.cons_append, List.append_nil, ↓reduceIte, and_self, true_and, and_true, false_and, and_false, or_true, true_or, or_false, false_or, Nat.reduceEqDiff, Nat.reduceAdd, Int32.reduceMul, Int32.reduceAdd, Int32.reduceSub, Int32.reduceToNatClampNeg, Int32.reduceOfNat, Int32.reduceLT, Int32.reduceLE, va_rf]
        · rw [zA_A, if_neg (fun y => absurd y.1 (by decide)), zA_A, if_neg (fun y => hi y.2), (f1.1.2 56 (by decide)).2]
        · rw [zA_A, if_neg (fun y => hi y.2), zA_A, if_neg (fun y => absurd y.1 (by decide)), (f1.1.2 52 (by decide)).2]
        · refine ⟨by rw [zA_I, zA_I]; exact a1, by rw [zA_I, zA_I]; exact z1, fun i hi => ?_, ?_, ?_⟩
          · rw [zA_A, if_neg (fun y => absurd y.1 (by decide)), zA_A, if_neg (fun y => absurd y.1 (by decide))]; exact L1 i hi
          · rw [zA_A, if_neg (fun y => absurd y.1 (by decide)), zA_A, if_pos ⟨rfl, rfl⟩]
          · rw [zA_A, if_pos ⟨rfl, rfl⟩]
      · rw [if_neg hm] at e4 hK
        cases fs with
        | false => cases hK
        | true =>
          cases hK
          subst e4
          have hS2 : SH (jsA σ1 71 rs.length (nI l)) := by rw [SH_A]; exact hS1
          have hc2 : jA (jsA σ1 71 rs.length (nI l)) 56 r = nI rs.length := by rw [zA_A, if_neg (fun y => absurd y.1 (by decide))]; exact hc1
          have z2 : jI (jsA σ1 71 rs.length (nI l)) 667 47 = 0 := by rw [zA_I]; exact z1
          refine ⟨jsA (jsA (jsA σ1 71 rs.length (nI l)) 56 r (nI rs.length + 1)) 52 k (nI rs.length), ?_, ((F1.A (by decide)).A (by decide)).A (by decide), fun g a b c => by rw [zA_I, zA_I, zA_I, f1.2 g a b c], fun i hi => ?_, fun i hi => ?_, ?_⟩
          · rw [e2, e3]
            simp (decide := true) only [k139_41, k139_59, k139_66, sT_1, sT_2, sT_3, sT_16, sT_17, sT_18, sT_19, sT_20, sT_21, sT_22, sT_23, sT_24, sT_25, sT_26, sT_27, sT_28, sT_29, sT_30, sT_31, sT_32, sT_33, sT_34, sT_35, sT_36, sT_37, sT_38, sT_39, sT_40, sT_41, sT_42, sT_43, sT_44, sT_45, sT_46, sT_47, sT_48, sT_49, sT_50, sT_51, sT_52, sT_53, sT_54, sT_55, sT_56, sT_57, sT_58, sT_59, sT_60, sT_61, sT_62, sT_63, sT_64, sT_65, sT_66, sT_67, sT_68, sT_69, sT_70, sT_71, sT_72, sT_73, sT_74, sT_75, sT_76, sT_77, sT_78, sT_79, sT_80, sN_1, sN_2, sN_19, sN_21, sN_23, sN_24, sN_26, sN_29, sN_31, sN_33, sN_35, sN_36, sN_37, sN_39, sN_40, sN_42, sN_44, sN_45, sN_46, sN_48, sN_49, sN_50, sN_51, sN_52, sN_53, sN_54, sN_55, sN_56, sN_57, sN_58, sN_59, sN_60, sN_61, sN_62, sN_63, sN_64, sN_65, sN_66, sN_67, sN_68, sN_69, sN_70, sN_71, sN_72, sN_73, sN_74, sN_75, sN_76, sN_77, sN_78, sN_79, sN_80, sR_0_34, sR_0_38, sR_1_34, sR_1_38, sR_64_20, sR_64_22, sR_128_25, sR_128_28, sR_194_17, sR_195_17, sR_196_17, sR_197_17, sR_258_30, sR_258_32, sR_258_41, sR_384_43, sR_448_18, sR_512_27, sR_513_27, sR_514_27, sR_515_27, sR_516_27, sR_576_16, sR_577_16, sR_578_16, sR_579_16, sR_580_16, sR_581_16, sR_582_16, sR_583_16, sR_584_16, sR_641_47, sR_643_47, sR_645_47, sR_646_47, sR_647_47, sR_648_47, sR_649_47, sR_650_47, sR_651_47, sR_652_47, sR_653_47, sR_654_47, sR_655_47, sR_656_47, sR_657_47, sR_658_47, sR_659_47, sR_661_47, sR_662_47, sR_663_47, sR_664_47, sR_665_47, sR_669_47, sR_670_47, sR_671_47, sR_672_47, sR_673_47, sR_674_47, sR_676_47, sR_677_47, sR_679_47, sR_680_47, sR_681_47, SH_I, SH_A, SH_G, SH_C, hS2, gr, gk, cr, ck, hc2, z2, Option.getD_some, ne_eq, reduceCtorEq, not_false_eq_true, not_true_eq_false, Option.bind_some, Option.toList_none, Option.toList_some, List.nil_append, List.cons_append, List.append_nil, ↓reduceIte, and_self, true_and, and_true, false_and, and_false, or_true, true_or, or_false, false_or, Nat.reduceEqDiff, Nat.reduceAdd, Int32.reduceMul, Int32.reduceAdd, Int32.reduceSub, Int32.reduceToNatClampNeg, Int32.reduceOfNat, Int32.reduceLT, Int32.reduceLE, va_rf]
          · rw [zA_A, if_neg (fun y => absurd y.1 (by decide)), zA_A, if_neg (fun y => hi y.2), zA_A, if_neg (fun y => absurd y.1 (by decide)), (f1.1.2 56 (by decide)).2]
          · rw [zA_A, if_neg (fun y => hi y.2), zA_A, if_neg (fun y => absurd y.1 (by decide)), zA_A, if_neg (fun y => absurd y.1 (by decide)), (f1.1.2 52 (by decide)).2]
          · refine ⟨by rw [zA_I, zA_I, zA_I]; exact a1, by rw [zA_I, zA_I, zA_I]; exact z1, fun i hi => ?_, ?_, ?_⟩
            · rw [zA_A, if_neg (fun y => absurd y.1 (by decide)), zA_A, if_neg (fun y => absurd y.1 (by decide)), zA_A]
              have hi2 : i < rs.length + 1 := by simpa using hi
              by_cases q : i = rs.length
              · subst q
                rw [if_pos ⟨rfl, rfl⟩]
                simp
              · rw [if_neg (fun y => q y.2), L1 i (by omega)]
                congr 1
                have hi3 : i < rs.length := by omega
                simp [List.getElem?_append_left hi3]
            · rw [zA_A, if_neg (fun y => absurd y.1 (by decide)), zA_A, if_pos ⟨rfl, rfl⟩, ← nI_succ]
              simp
            · rw [zA_A, if_pos ⟨rfl, rfl⟩]
end MR6
end S_38
section S_39
/-! the reference's reader: a rule's number or mark -/
section MR7
variable {d : Nat} {σ : jS} {len : Nat} {b : Nat → Int32} {p : Nat}
theorem c144n (hS : SH σ) (hT : TM σ len b) (hp : p ≤ len) (hat : jI σ 666 47 = nI p) (h0 : jI σ 667 47 = 0) {k : Nat} (hk : k < 384) {x1 x3 : Option Value} {x4 : Int32} (hf : isFg (tv len b p)) :
    ∃ σ', jx (d + 3) 144 0 [some (.ref 47), x1, some (.int (nI k)), x3, some (.int x4), none, none, none] [] σ = some (none, σ') ∧ FR [47, 53, 54] σ σ' ∧ (∀ g, g ≠ 666 → g ≠ 667 → g ≠ 668 → jI σ' g 47 = jI σ g 47) ∧ (∀ i, i ≠ k → jA σ' 53 i = jA σ 53 i) ∧ (∀ i, i ≠ k → jA σ' 54 i = jA σ 54 i) ∧
      (match mNum len b p with | some z => jI σ' 666 47 = nI z.2 ∧ jI σ' 667 47 = 0 ∧ jA σ' 53 k = 0 ∧ jA σ' 54 k = z.1 | none => ¬ jI σ' 667 47 = 0) := by
  have hl : len ≤ 400 := hT.2.1
  have c := c130 (d := d + 2) hS hT (p := p) (by omega) hat
  have i : (if isFg (tv len b p) then (1 : Int32) else 0) = 1 := if_pos hf
  have gk : jin 384 (nI k) := jin_n hk (by decide)
  have ck : (nI k).toNatClampNeg = k := nI_clamp (by omega)
  have an : ((0 : Int32) &&& 1) = 0 := rfl
  have hS1 : SH (jsA σ 53 k 0) := by rw [SH_A]; exact hS
  have hT1 : TM (jsA σ 53 k 0) len b := by rw [TM_A (by decide)]; exact hT
  obtain ⟨v, σ2, e2, f2, r2⟩ := c145 (d := d + 1) hS1 hT1 hp (by rw [zA_I]; exact hat) (by rw [zA_I]; exact h0)
  have hS2 := f2.1.sh hS1
  have F : FR [47, 53, 54] σ σ2 := ((FR.refl _ σ).A (q := 53) (by decide)).trans (f2.1.mono (by decide))
  have q53 : ∀ i, jA σ2 53 i = jA (jsA σ 53 k 0) 53 i := (f2.1.2 53 (by decide)).2
  have q54 : ∀ i, jA σ2 54 i = jA σ 54 i := fun i => by rw [(f2.1.2 54 (by decide)).2, zA_A, if_neg (fun y => absurd y.1 (by decide))]
  refine ⟨jsA σ2 54 k v, ?_, F.A (by decide), fun g a b c => by rw [zA_I, f2.2 g a b c, zA_I], fun i hi => ?_, fun i hi => ?_, ?_⟩
  · rw [k144_0 (sT_47 hS), c]
    simp (decide := true) only [k144_10, k144_13, k144_16N, k144_32, c141, i, an, e2, ck, gk, sT_1, sT_2, sT_3, sT_16, sT_17, sT_18, sT_19, sT_20, sT_21, sT_22, sT_23, sT_24, sT_25, sT_26, sT_27, sT_28, sT_29, sT_30, sT_31, sT_32, sT_33, sT_34, sT_35, sT_36, sT_37, sT_38, sT_39, sT_40, sT_41, sT_42, sT_43, sT_44, sT_45, sT_46, sT_47, sT_48, sT_49, sT_50, sT_51, sT_52, sT_53, sT_54, sT_55, sT_56, sT_57, sT_58, sT_59, sT_60, sT_61, sT_62, sT_63, sT_64, sT_65, sT_66, sT_67, sT_68, sT_69, sT_70, sT_71, sT_72, sT_73, sT_74, sT_75, sT_76, sT_77, sT_78, sT_79, sT_80, sN_1, sN_2, sN_19, sN_21, sN_23, sN_24, sN_26, sN_29, sN_31, sN_33, sN_35, sN_36, sN_37, sN_39, sN_40, sN_42, sN_44, sN_45, sN_46, sN_48, sN_49, sN_50, sN_51, sN_52, sN_53, sN_54, sN_55, sN_56, sN_57, sN_58, sN_59, sN_60, sN_61, sN_62, sN_63, sN_64, sN_65, sN_66, sN_67, sN_68, sN_69, sN_70, sN_71, sN_72, sN_73, sN_74, sN_75, sN_76, sN_77, sN_78, sN_79, sN_80, sR_0_34, sR_0_38, sR_1_34, sR_1_38, sR_64_20, sR_64_22, sR_128_25, sR_128_28, sR_194_17, sR_195_17, sR_196_17, sR_197_17, sR_258_30, sR_258_32, sR_258_41, sR_384_43, sR_448_18, sR_512_27, sR_513_27, sR_514_27, sR_515_27, sR_516_27, sR_576_16, sR_577_16, sR_578_16, sR_579_16, sR_580_16, sR_581_16, sR_582_16, sR_583_16, sR_584_16, sR_641_47, sR_643_47, sR_645_47, sR_646_47, sR_647_47, sR_648_47, sR_649_47, sR_650_47, sR_651_47, sR_652_47, sR_653_47, sR_654_47, sR_655_47, sR_656_47, sR_657_47, sR_658_47, sR_659_47, sR_661_47, sR_662_47, sR_663_47, sR_664_47, sR_665_47, sR_669_47, sR_670_47, sR_671_47, sR_672_47, sR_673_47, sR_674_47, sR_676_47, sR_677_47, sR_679_47, sR_680_47, sR_681_47, SH_I, SH_A, SH_G, SH_C, hS, hS1, hS2, Option.getD_some, ne_eq, reduceCtorEq, not_false_eq_true, not_true_eq_false, Option.bind_some, Option.toList_none, Option.toList_some, List.nil_append, List.cons_append, List.append_nil, ↓reduceIte, and_self, true_and, and_true, false_and, and_false, or_true, true_or, or_false, false_or, Nat.reduceEqDiff, Nat.reduceAdd, Int32.reduceMul, Int32.reduceAdd, Int32.reduceSub, Int32.reduceToNatClampNeg, Int32.reduceOfNat, Int32.reduceLT, Int32.reduceLE, va_rf]
  · rw [zA_A, if_neg (fun y => absurd y.1 (by decide)), q53, zA_A, if_neg (fun y => hi y.2)]
  · rw [zA_A, if_neg (fun y => hi y.2), q54]
  · cases hM : mNum len b p with
    | none =>
      rw [hM] at r2
      show ¬ jI (jsA σ2 54 k v) 667 47 = 0
      rw [zA_I]; exact r2
    | some z =>
      rw [hM] at r2
      refine ⟨by rw [zA_I]; exact r2.2.1, by rw [zA_I]; exact r2.2.2, ?_, ?_⟩
      · rw [zA_A, if_neg (fun y => absurd y.1 (by decide)), q53, zA_A, if_pos ⟨rfl, rfl⟩]
      · rw [zA_A, if_pos ⟨rfl, rfl⟩]; exact r2.1
end MR7
end S_39
section S_40
/-! the reference's reader: a rule's mark -/
section MR8
variable {d : Nat} {σ : jS} {len W : Nat} {b : Nat → Int32} {p : Nat}
def mMark (len : Nat) (b : Nat → Int32) (W op : Nat) (fs : Bool) (p : Nat) (ms : List Nat) (rg : Nat → Int32) : Option (Nat × Nat × List Nat × (Nat → Int32)) :=
  (mLet len b 105 3 p).bind (fun z => (lk ms z.1.toNatClampNeg fs).map (fun y => (z.2, y.1, y.2, up6 rg y.1 (if z.1.toNatClampNeg ∈ ms then (if fs = true ∧ bdM W op < rg y.1 then bdM W op else rg y.1) else bdM W op))))
theorem c144m (hS : SH σ) (hT : TM σ len b) (hp : p ≤ len) (hat : jI σ 666 47 = nI p) (h0 : jI σ 667 47 = 0) (hw : jI σ 640 47 = nI W) {r k op : Nat} (hr : r < 24) (hk : k < 384) (ho : op < 19) {ms : List Nat} {rg : Nat → Int32} (hL : LRw σ 72 ms) (hn : ms.Nodup) (hb : ∀ x, x ∈ ms → x < 3) (hc : jA σ 57 r = nI ms.length) (hg : ∀ j, j < 3 → jA σ 58 (3 * r + j) = rg j) (fs : Bool) (hf : ¬ isFg (tv len b p)) :
    ∃ σ', jx (d + 3) 144 0 [some (.ref 47), some (.int (nI r)), some (.int (nI k)), some (.int (nI op)), some (.int (if fs = true then 1 else 0)), none, none, none] [] σ = some (none, σ') ∧ FR [47, 72, 57, 58, 53, 54] σ σ' ∧ (∀ g, g ≠ 666 → g ≠ 667 → g ≠ 668 → jI σ' g 47 = jI σ g 47) ∧ (∀ i, i ≠ r → jA σ' 57 i = jA σ 57 i) ∧ (∀ i, ¬ (3 * r ≤ i ∧ i < 3 * r + 3) → jA σ' 58 i = jA σ 58 i) ∧ (∀ i, i ≠ k → jA σ' 53 i = jA σ 53 i) ∧ (∀ i, i ≠ k → jA σ' 54 i = jA σ 54 i) ∧
      (match mMark len b W op fs p ms rg with | some z => jI σ' 666 47 = nI z.1 ∧ jI σ' 667 47 = 0 ∧ LRw σ' 72 z.2.2.1 ∧ jA σ' 57 r = nI z.2.2.1.length ∧ (∀ j, j < 3 → jA σ' 58 (3 * r + j) = z.2.2.2 j) ∧ jA σ' 53 k = 1 ∧ jA σ' 54 k = nI z.2.1 | none => ¬ jI σ' 667 47 = 0) := by
  have hl : len ≤ 400 := hT.2.1
  have c := c130 (d := d + 2) hS hT (p := p) (by omega) hat
  have i : (if isFg (tv len b p) then (1 : Int32) else 0) = 0 := if_neg hf
  obtain ⟨v, σ1, e1, f1, r1⟩ := c140 (d := d) hS hT hp hat h0 105 3
  have hS1 := f1.1.sh hS
  have hc1 : jA σ1 57 r = nI ms.length := by rw [(f1.1.2 57 (by decide)).2]; exact hc
  have L1 : LRw σ1 72 ms := fun i hi => by rw [(f1.1.2 72 (by decide)).2]; exact hL i hi
  have hg1 : ∀ j, j < 3 → jA σ1 58 (3 * r + j) = rg j := fun j hj => by rw [(f1.1.2 58 (by decide)).2]; exact hg j hj
  have hw1 : jI σ1 640 47 = nI W := by rw [f1.2 640 (by decide) (by decide) (by decide)]; exact hw
  have F1 : FR [47, 72, 57, 58, 53, 54] σ σ1 := f1.1.mono (by decide)
  have gr : jin 24 (nI r) := jin_n hr (by decide)
  have gk : jin 384 (nI k) := jin_n hk (by decide)
  have cr : (nI r).toNatClampNeg = r := nI_clamp (by omega)
  have ck : (nI k).toNatClampNeg = k := nI_clamp (by omega)
  have an : ((1 : Int32) &&& 1) = 1 := rfl
  have rl : ms.length ≤ 3 := nodup_le 3 ms hn hb
  have e0 : jx (d + 3) 144 0 [some (.ref 47), some (.int (nI r)), some (.int (nI k)), some (.int (nI op)), some (.int (if fs = true then 1 else 0)), none, none, none] [] σ = jx (d + 3) 144 41 [some (.ref 47), some (.int (nI r)), some (.int (nI k)), some (.int (nI op)), some (.int (if fs = true then 1 else 0)), some (.int (nI p)), none, none] [.int v] σ1 := by
    rw [k144_0 (sT_47 hS), c]
    simp (decide := true) only [k144_10, k144_13, k144_34, c141, i, e1, hat, sT_1, sT_2, sT_3, sT_16, sT_17, sT_18, sT_19, sT_20, sT_21, sT_22, sT_23, sT_24, sT_25, sT_26, sT_27, sT_28, sT_29, sT_30, sT_31, sT_32, sT_33, sT_34, sT_35, sT_36, sT_37, sT_38, sT_39, sT_40, sT_41, sT_42, sT_43, sT_44, sT_45, sT_46, sT_47, sT_48, sT_49, sT_50, sT_51, sT_52, sT_53, sT_54, sT_55, sT_56, sT_57, sT_58, sT_59, sT_60, sT_61, sT_62, sT_63, sT_64, sT_65, sT_66, sT_67, sT_68, sT_69, sT_70, sT_71, sT_72, sT_73, sT_74, sT_75, sT_76, sT_77, sT_78, sT_79, sT_80, sN_1, sN_2, sN_19, sN_21, sN_23, sN_24, sN_26, sN_29, sN_31, sN_33, sN_35, sN_36, sN_37, sN_39, sN_40, sN_42, sN_44, sN_45, sN_46, sN_48, sN_49, sN_50, sN_51, sN_52, sN_53, sN_54, sN_55, sN_56, sN_57, sN_58, sN_59, sN_60, sN_61, sN_62, sN_63, sN_64, sN_65, sN_66, sN_67, sN_68, sN_69, sN_70, sN_71, sN_72, sN_73, sN_74, sN_75, sN_76, sN_77, sN_78, sN_79, sN_80, sR_0_34, sR_0_38, sR_1_34, sR_1_38, sR_64_20, sR_64_22, sR_128_25, sR_128_28, sR_194_17, sR_195_17, sR_196_17, sR_197_17, sR_258_30, sR_258_32, sR_258_41, sR_384_43, sR_448_18, sR_512_27, sR_513_27, sR_514_27, sR_515_27, sR_516_27, sR_576_16, sR_577_16, sR_578_16, sR_579_16, sR_580_16, sR_581_16, sR_582_16, sR_583_16, sR_584_16, sR_641_47, sR_643_47, sR_645_47, sR_646_47, sR_647_47, sR_648_47, sR_649_47, sR_650_47, sR_651_47, sR_652_47, sR_653_47, sR_654_47, sR_655_47, sR_656_47, sR_657_47, sR_658_47, sR_659_47, sR_661_47, sR_662_47, sR_663_47, sR_664_47, sR_665_47, sR_669_47, sR_670_47, sR_671_47, sR_672_47, sR_673_47, sR_674_47, sR_676_47, sR_677_47, sR_679_47, sR_680_47, sR_681_47, SH_I, SH_A, SH_G, SH_C, hS, Option.getD_some, ne_eq, reduceCtorEq, not_false_eq_true, not_true_eq_false, Option.bind_some, Option.toList_none, Option.toList_some, List.nil_append, List.cons_append, List.append_nil, ↓reduceIte, and_self, true_and, and_true, false_and, and_false, or_true, true_or, or_false, false_or, Nat.reduceEqDiff, Nat.reduceAdd, Int32.reduceMul, Int32.reduceAdd, Int32.reduceSub, Int32.reduceToNatClampNeg, Int32.reduceOfNat, Int32.reduceLT, Int32.reduceLE, va_rf]
  unfold mMark
  cases hM : mLet len b 105 3 p with
  | none =>
    rw [hM] at r1
    have r1 : ¬ jI σ1 667 47 = 0 := r1
    refine ⟨σ1, ?_, F1, f1.2, fun i _ => (f1.1.2 57 (by decide)).2 i, fun i _ => (f1.1.2 58 (by decide)).2 i, fun i _ => (f1.1.2 53 (by decide)).2 i, fun i _ => (f1.1.2 54 (by decide)).2 i, r1⟩
    rw [e0, k144_41 (sT_47 hS1), if_pos r1, k144_178]
  | some z =>
    rw [hM] at r1
    obtain ⟨w, a1, z1⟩ := r1
    obtain ⟨l, hl3, el⟩ := mLet_val (X := 105) (Y := 3) (by decide) (by decide) hM
    have cl : z.1.toNatClampNeg = l := by rw [el]; exact nI_clamp (by omega)
    have C := c142 (d := d + 1) hS1 (a := 72) (N := 3) (sT_72 hS1) (sN_72 hS1) (by decide) (l := l) L1 rl (fun h => by
        have := nodup_le 3 (l :: ms) (List.nodup_cons.mpr ⟨h, hn⟩) (fun x hx => by
          rcases List.mem_cons.mp hx with q | q
          · omega
          · exact hb x q)
        rw [List.length_cons] at this; omega) (by omega) (fun i hi => by
        rw [List.getD_eq_getElem?_getD, List.getElem?_eq_getElem hi]
        have := hb _ (List.getElem_mem hi)
        show ms[i] < _
        omega) z1 fs (nI p)
    have e2 : jx (d + 3) 144 0 [some (.ref 47), some (.int (nI r)), some (.int (nI k)), some (.int (nI op)), some (.int (if fs = true then 1 else 0)), none, none, none] [] σ = (jx (d + 2) 142 0 [some (.ref 47), some (.ref 72), some (.int (nI l)), some (.int (nI ms.length)), some (.int (if fs = true then 1 else 0)), some (.int (nI p)), none] [] σ1).bind (fun y => jx (d + 3) 144 70 [some (.ref 47), some (.int (nI r)), some (.int (nI k)), some (.int (nI op)), some (.int (if fs = true then 1 else 0)), some (.int (nI p)), some (.int (nI l)), none] (y.1.toList ++ []) y.2) := by
      rw [e0, k144_41 (sT_47 hS1), if_neg (fun q => q z1), w, el]
      simp (decide := true) only [k144_50, sT_1, sT_2, sT_3, sT_16, sT_17, sT_18, sT_19, sT_20, sT_21, sT_22, sT_23, sT_24, sT_25, sT_26, sT_27, sT_28, sT_29, sT_30, sT_31, sT_32, sT_33, sT_34, sT_35, sT_36, sT_37, sT_38, sT_39, sT_40, sT_41, sT_42, sT_43, sT_44, sT_45, sT_46, sT_47, sT_48, sT_49, sT_50, sT_51, sT_52, sT_53, sT_54, sT_55, sT_56, sT_57, sT_58, sT_59, sT_60, sT_61, sT_62, sT_63, sT_64, sT_65, sT_66, sT_67, sT_68, sT_69, sT_70, sT_71, sT_72, sT_73, sT_74, sT_75, sT_76, sT_77, sT_78, sT_79, sT_80, sN_1, sN_2, sN_19, sN_21, sN_23, sN_24, sN_26, sN_29, sN_31, sN_33, sN_35, sN_36, sN_37, sN_39, sN_40, sN_42, sN_44, sN_45, sN_46, sN_48, sN_49, sN_50, sN_51, sN_52, sN_53, sN_54, sN_55, sN_56, sN_57, sN_58, sN_59, sN_60, sN_61, sN_62, sN_63, sN_64, sN_65, sN_66, sN_67, sN_68, sN_69, sN_70, sN_71, sN_72, sN_73, sN_74, sN_75, sN_76, sN_77, sN_78, sN_79, sN_80, sR_0_34, sR_0_38, sR_1_34, sR_1_38, sR_64_20, sR_64_22, sR_128_25, sR_128_28, sR_194_17, sR_195_17, sR_196_17, sR_197_17, sR_258_30, sR_258_32, sR_258_41, sR_384_43, sR_448_18, sR_512_27, sR_513_27, sR_514_27, sR_515_27, sR_516_27, sR_576_16, sR_577_16, sR_578_16, sR_579_16, sR_580_16, sR_581_16, sR_582_16, sR_583_16, sR_584_16, sR_641_47, sR_643_47, sR_645_47, sR_646_47, sR_647_47, sR_648_47, sR_649_47, sR_650_47, sR_651_47, sR_652_47, sR_653_47, sR_654_47, sR_655_47, sR_656_47, sR_657_47, sR_658_47, sR_659_47, sR_661_47, sR_662_47, sR_663_47, sR_664_47, sR_665_47, sR_669_47, sR_670_47, sR_671_47, sR_672_47, sR_673_47, sR_674_47, sR_676_47, sR_677_47, sR_679_47, sR_680_47, sR_681_47, SH_I, SH_A, SH_G, SH_C, hS1, gr, cr, hc1, Option.getD_some, ne_eq, reduceCtorEq, not_false_eq_true, not_true_eq_false, Option.bind_some, Option.toList_none, Option.toList_some, List.nil_append, List.cons_append, List.append_nil, ↓reduceIte, and_self, true_and, and_true, false_and, and_false, or_true, true_or, or_false, false_or, Nat.reduceEqDiff, Nat.reduceAdd, Int32.reduceMul, Int32.reduceAdd, Int32.reduceSub, Int32.reduceToNatClampNeg, Int32.reduceOfNat, Int32.reduceLT, Int32.reduceLE, va_rf]
    rw [Option.bind_some, cl]
    cases hK : lk ms l fs with
    | none =>
      rw [hK] at C
      obtain ⟨σ2, e3, f2, f3⟩ := C
      have hS2 := f2.1.sh hS1
      refine ⟨jsA (jsA σ2 53 k 1) 54 k 0, ?_, ((F1.trans (f2.1.mono (by decide))).A (by decide)).A (by decide), fun g a b c => by rw [zA_I, zA_I, f2.2 g a b c, f1.2 g a b c], fun i _ => ?_, fun i _ => ?_, fun i hi => ?_, fun i hi => ?_, ?_⟩
      · rw [e2, e3]
        simp (decide := true) only [k144_70, k144_116, k144_163N, sT_1, sT_2, sT_3, sT_16, sT_17, sT_18, sT_19, sT_20, sT_21, sT_22, sT_23, sT_24, sT_25, sT_26, sT_27, sT_28, sT_29, sT_30, sT_31, sT_32, sT_33, sT_34, sT_35, sT_36, sT_37, sT_38, sT_39, sT_40, sT_41, sT_42, sT_43, sT_44, sT_45, sT_46, sT_47, sT_48, sT_49, sT_50, sT_51, sT_52, sT_53, sT_54, sT_55, sT_56, sT_57, sT_58, sT_59, sT_60, sT_61, sT_62, sT_63, sT_64, sT_65, sT_66, sT_67, sT_68, sT_69, sT_70, sT_71, sT_72, sT_73, sT_74, sT_75, sT_76, sT_77, sT_78, sT_79, sT_80, sN_1, sN_2, sN_19, sN_21, sN_23, sN_24, sN_26, sN_29, sN_31, sN_33, sN_35, sN_36, sN_37, sN_39, sN_40, sN_42, sN_44, sN_45, sN_46, sN_48, sN_49, sN_50, sN_51, sN_52, sN_53, sN_54, sN_55, sN_56, sN_57, sN_58, sN_59, sN_60, sN_61, sN_62, sN_63, sN_64, sN_65, sN_66, sN_67, sN_68, sN_69, sN_70, sN_71, sN_72, sN_73, sN_74, sN_75, sN_76, sN_77, sN_78, sN_79, sN_80, sR_0_34, sR_0_38, sR_1_34, sR_1_38, sR_64_20, sR_64_22, sR_128_25, sR_128_28, sR_194_17, sR_195_17, sR_196_17, sR_197_17, sR_258_30, sR_258_32, sR_258_41, sR_384_43, sR_448_18, sR_512_27, sR_513_27, sR_514_27, sR_515_27, sR_516_27, sR_576_16, sR_577_16, sR_578_16, sR_579_16, sR_580_16, sR_581_16, sR_582_16, sR_583_16, sR_584_16, sR_641_47, sR_643_47, sR_645_47, sR_646_47, sR_647_47, sR_648_47, sR_649_47, sR_650_47, sR_651_47, sR_652_47, sR_653_47, sR_654_47, sR_655_47, sR_656_47, sR_657_47, sR_658_47, sR_659_47, sR_661_47, sR_662_47, sR_663_47, sR_664_47, sR_665_47, sR_669_47, sR_670_47, sR_671_47, sR_672_47, sR_673_47, sR_674_47, sR_676_47, sR_677_47, sR_679_47, sR_680_47, sR_681_47, SH_I, SH_A, SH_G, SH_C, hS2, gk, ck, f3, an, Option.getD_some, ne_eq, reduceCtorEq, not_false_eq_true, not_true_eq_false, Option.bind_some, Option.toList_none, Option.toList_some, List.nil_append, List.cons_append, List.append_nil, ↓reduceIte, and_self, true_and, and_true, false_and, and_false, or_true, true_or, or_false, false_or, Nat.reduceEqDiff, Nat.reduceAdd, Int32.reduceMul, Int32.reduceAdd, Int32.reduceSub, Int32.reduceToNatClampNeg, Int32.reduceOfNat, Int32.reduceLT, Int32.reduceLE, va_rf]
      · rw [zA_A, if_neg (fun y => absurd y.1 (by decide)), zA_A, if_neg (fun y => absurd y.1 (by decide)), (f2.1.2 57 (by decide)).2, (f1.1.2 57 (by decide)).2]
      · rw [zA_A, if_neg (fun y => absurd y.1 (by decide)), zA_A, if_neg (fun y => absurd y.1 (by decide)), (f2.1.2 58 (by decide)).2, (f1.1.2 58 (by decide)).2]
      · rw [zA_A, if_neg (fun y => absurd y.1 (by decide)), zA_A, if_neg (fun y => hi y.2), (f2.1.2 53 (by decide)).2, (f1.1.2 53 (by decide)).2]
      · rw [zA_A, if_neg (fun y => hi y.2), zA_A, if_neg (fun y => absurd y.1 (by decide)), (f2.1.2 54 (by decide)).2, (f1.1.2 54 (by decide)).2]
      · show ¬ jI (jsA (jsA σ2 53 k 1) 54 k 0) 667 47 = 0
        rw [zA_I, zA_I]; exact f3
    | some y =>
      rw [hK] at C
      obtain ⟨σ2, e3, e4⟩ := C
      unfold lk at hK
      have idx : ∀ i, 3 * nI r + nI i = nI (3 * r + i) := fun i => by rw [show (3 : Int32) = nI 3 from rfl, nmul, nadd]
      have gidx : ∀ i, i < 3 → jin 72 (nI (3 * r + i)) := fun i hi => jin_n (by omega) (by decide)
      have cidx : ∀ i, i < 3 → (nI (3 * r + i)).toNatClampNeg = 3 * r + i := fun i hi => nI_clamp (by omega)
      by_cases hm : l ∈ ms
      · rw [if_pos hm] at e4 hK
        subst e4
        cases hK
        have hx : ms.idxOf l < ms.length := List.idxOf_lt_length_iff.mpr hm
        have q : ¬ nI (ms.idxOf l) = nI ms.length := by rw [n31eq (by omega) (by omega)]; omega
        have e3 : jx (d + 2) 142 0 [some (.ref 47), some (.ref 72), some (.int (nI l)), some (.int (nI ms.length)), some (.int (if fs = true then 1 else 0)), some (.int (nI p)), none] [] σ2 = some (some (.int (nI (ms.idxOf l))), σ2) := e3
        have cb := c146 (d := d + 2) hS1 hw1 ho
        have g1 := gidx (ms.idxOf l) (by omega)
        have g2 := cidx (ms.idxOf l) (by omega)
        have g3 := hg1 (ms.idxOf l) (by omega)
        rw [Option.map_some, if_pos hm]
        generalize ms.idxOf l = x at *
        by_cases hlow : fs = true ∧ bdM W op < rg x
        · have g4 : ¬ rg x ≤ bdM W op := Int32.not_le.mpr hlow.2
          rw [if_pos hlow]
          refine ⟨jsA (jsA (jsA σ2 58 (3 * r + x) (bdM W op)) 53 k 1) 54 k (nI x), ?_, ((F1.A (by decide)).A (by decide)).A (by decide), fun g a b c => by rw [zA_I, zA_I, zA_I, f1.2 g a b c], fun i hi => ?_, fun i hi => ?_, fun i hi => ?_, fun i hi => ?_, ?_⟩
          · rw [e2, e3]
            have hfs := hlow.1
            subst hfs
            simp (decide := true) only [k144_70, k144_79, k144_116, k144_123, k144_128, k144_133, k144_147, k144_162N, cb, idx, g1, g2, g3, g4, q, z1, hc1, gr, cr, gk, ck, an, sT_1, sT_2, sT_3, sT_16, sT_17, sT_18, sT_19, sT_20, sT_21, sT_22, sT_23, sT_24, sT_25, sT_26, sT_27, sT_28, sT_29, sT_30, sT_31, sT_32, sT_33, sT_34, sT_35, sT_36, sT_37, sT_38, sT_39, sT_40, sT_41, sT_42, sT_43, sT_44, sT_45, sT_46, sT_47, sT_48, sT_49, sT_50, sT_51, sT_52, sT_53, sT_54, sT_55, sT_56, sT_57, sT_58, sT_59, sT_60, sT_61, sT_62, sT_63, sT_64, sT_65, sT_66, sT_67, sT_68, sT_69, sT_70, sT_71, sT_72, sT_73, sT_74, sT_75, sT_76, sT_77, sT_78, sT_79, sT_80, sN_1, sN_2, sN_19, sN_21, sN_23, sN_24, sN_26, sN_29, sN_31, sN_33, sN_35, sN_36, sN_37, sN_39, sN_40, sN_42, sN_44, sN_45, sN_46, sN_48, sN_49, sN_50, sN_51, sN_52, sN_53, sN_54, sN_55, sN_56, sN_57, sN_58, sN_59, sN_60, sN_61, sN_62, sN_63, sN_64, sN_65, sN_66, sN_67, sN_68, sN_69, sN_70, sN_71, sN_72, sN_73, sN_74, sN_75, sN_76, sN_77, sN_78, sN_79, sN_80, sR_0_34, sR_0_38, sR_1_34, sR_1_38, sR_64_20, sR_64_22, sR_128_25, sR_128_28, sR_194_17, sR_195_17, sR_196_17, sR_197_17, sR_258_30, sR_258_32, sR_258_41, sR_384_43, sR_448_18, sR_512_27, sR_513_27, sR_514_27, sR_515_27, sR_516_27, sR_576_16, sR_577_16, sR_578_16, sR_579_16, sR_580_16, sR_581_16, sR_582_16, sR_583_16, sR_584_16, sR_641_47, sR_643_47, sR_645_47, sR_646_47, sR_647_47, sR_648_47, sR_649_47, sR_650_47, sR_651_47, sR_652_47, sR_653_47, sR_654_47, sR_655_47, sR_656_47, sR_657_47, sR_658_47, sR_659_47, sR_661_47, sR_662_47, sR_663_47, sR_664_47, sR_665_47, sR_669_47, sR_670_47, sR_671_47, sR_672_47, sR_673_47, sR_674_47, sR_676_47, sR_677_47, sR_679_47, sR_680_47, sR_681_47, SH_I, SH_A, SH_G, SH_C, hS1, Option.getD_some, ne_eq, reduceCtorEq, not_false_eq_true, not_true_eq_false, Option.bind_some, Option.toList_none, Option.toList_some, List.nil_append, List.cons_append, List.append_nil, ↓reduceIte, and_self, true_and, and_true, false_and, and_false, or_true, true_or, or_false, false_or, Nat.reduceEqDiff, Nat.reduceAdd, Int32.reduceMul, Int32.reduceAdd, Int32.reduceSub, Int32.reduceToNatClampNeg, Int32.reduceOfNat, Int32.reduceLT, Int32.reduceLE, va_rf]
          · rw [zA_A, if_neg (fun y => absurd y.1 (by decide)), zA_A, if_neg (fun y => absurd y.1 (by decide)), zA_A, if_neg (fun y => absurd y.1 (by decide)), (f1.1.2 57 (by decide)).2]
          · rw [zA_A, if_neg (fun y => absurd y.1 (by decide)), zA_A, if_neg (fun y => absurd y.1 (by decide)), zA_A, if_neg (fun y => hi (by have := y.2; omega)), (f1.1.2 58 (by decide)).2]
          · rw [zA_A, if_neg (fun y => absurd y.1 (by decide)), zA_A, if_neg (fun y => hi y.2), zA_A, if_neg (fun y => absurd y.1 (by decide)), (f1.1.2 53 (by decide)).2]
          · rw [zA_A, if_neg (fun y => hi y.2), zA_A, if_neg (fun y => absurd y.1 (by decide)), zA_A, if_neg (fun y => absurd y.1 (by decide)), (f1.1.2 54 (by decide)).2]
          · refine ⟨by rw [zA_I, zA_I, zA_I]; exact a1, by rw [zA_I, zA_I, zA_I]; exact z1, fun i hi => ?_, ?_, fun j hj => ?_, ?_, ?_⟩
            · rw [zA_A, if_neg (fun y => absurd y.1 (by decide)), zA_A, if_neg (fun y => absurd y.1 (by decide)), zA_A, if_neg (fun y => absurd y.1 (by decide))]; exact L1 i hi
            · rw [zA_A, if_neg (fun y => absurd y.1 (by decide)), zA_A, if_neg (fun y => absurd y.1 (by decide)), zA_A, if_neg (fun y => absurd y.1 (by decide))]; exact hc1
            · show _ = if j = x then bdM W op else rg j
              rw [zA_A, if_neg (fun y => absurd y.1 (by decide)), zA_A, if_neg (fun y => absurd y.1 (by decide)), zA_A]
              by_cases hjx : j = x
              · rw [if_pos ⟨rfl, by rw [hjx]⟩, if_pos hjx]
              · rw [if_neg (fun y => hjx (by have := y.2; omega)), if_neg hjx]; exact hg1 j hj
            · rw [zA_A, if_neg (fun y => absurd y.1 (by decide)), zA_A, if_pos ⟨rfl, rfl⟩]
            · rw [zA_A, if_pos ⟨rfl, rfl⟩]
        · rw [if_neg hlow]
          refine ⟨jsA (jsA σ2 53 k 1) 54 k (nI x), ?_, (F1.A (by decide)).A (by decide), fun g a b c => by rw [zA_I, zA_I, f1.2 g a b c], fun i hi => ?_, fun i hi => ?_, fun i hi => ?_, fun i hi => ?_, ?_⟩
          · rw [e2, e3]
            cases fs with
            | false => simp (decide := true) only [k144_70, k144_79, k144_116, k144_123, k144_163N, q, z1, hc1, gr, cr, gk, ck, an, sT_1, sT_2, sT_3, sT_16, sT_17, sT_18, sT_19, sT_20, sT_21, sT_22, sT_23, sT_24, sT_25, sT_26, sT_27, sT_28, sT_29, sT_30, sT_31, sT_32, sT_33, sT_34, sT_35, sT_36, sT_37, sT_38, sT_39, sT_40, sT_41, sT_42, sT_43, sT_44, sT_45, sT_46, sT_47, sT_48, sT_49, sT_50, sT_51, sT_52, sT_53, sT_54, sT_55, sT_56, sT_57, sT_58, sT_59, sT_60, sT_61, sT_62, sT_63, sT_64, sT_65, sT_66, sT_67, sT_68, sT_69, sT_70, sT_71, sT_72, sT_73, sT_74, sT_75, sT_76, sT_77, sT_78, sT_79, sT_80, sN_1, sN_2, sN_19, sN_21, sN_23, sN_24, sN_26, sN_29, sN_31, sN_33, sN_35, sN_36, sN_37, sN_39, sN_40, sN_42, sN_44, sN_45, sN_46, sN_48, sN_49, sN_50, sN_51, sN_52, sN_53, sN_54, sN_55, sN_56, sN_57, sN_58, sN_59, sN_60, sN_61, sN_62, sN_63, sN_64, sN_65, sN_66, sN_67, sN_68, sN_69, sN_70, sN_71, sN_72, sN_73, sN_74, sN_75, sN_76, sN_77, sN_78, sN_79, sN_80, sR_0_34, sR_0_38, sR_1_34, sR_1_38, sR_64_20, sR_64_22, sR_128_25, sR_128_28, sR_194_17, sR_195_17, sR_196_17, sR_197_17, sR_258_30, sR_258_32, sR_258_41, sR_384_43, sR_448_18, sR_512_27, sR_513_27, sR_514_27, sR_515_27, sR_516_27, sR_576_16, sR_577_16, sR_578_16, sR_579_16, sR_580_16, sR_581_16, sR_582_16, sR_583_16, sR_584_16, sR_641_47, sR_643_47, sR_645_47, sR_646_47, sR_647_47, sR_648_47, sR_649_47, sR_650_47, sR_651_47, sR_652_47, sR_653_47, sR_654_47, sR_655_47, sR_656_47, sR_657_47, sR_658_47, sR_659_47, sR_661_47, sR_662_47, sR_663_47, sR_664_47, sR_665_47, sR_669_47, sR_670_47, sR_671_47, sR_672_47, sR_673_47, sR_674_47, sR_676_47, sR_677_47, sR_679_47, sR_680_47, sR_681_47, SH_I, SH_A, SH_G, SH_C, hS1, Option.getD_some, ne_eq, reduceCtorEq, not_false_eq_true, not_true_eq_false, Option.bind_some, Option.toList_none, Option.toList_some, List.nil_append, List.cons_append, List.append_nil, ↓reduceIte, and_self, true_and, and_true, false_and, and_false, or_true, true_or, or_false, false_or, Nat.reduceEqDiff, Nat.reduceAdd, Int32.reduceMul, Int32.reduceAdd, Int32.reduceSub, Int32.reduceToNatClampNeg, Int32.reduceOfNat, Int32.reduceLT, Int32.reduceLE, va_rf]
            | true =>
              have g4 : rg x ≤ bdM W op := Int32.not_lt.mp (fun y => hlow ⟨rfl, y⟩)
              simp (decide := true) only [k144_70, k144_79, k144_116, k144_123, k144_128, k144_133, k144_163N, cb, idx, g1, g2, g3, g4, q, z1, hc1, gr, cr, gk, ck, an, sT_1, sT_2, sT_3, sT_16, sT_17, sT_18, sT_19, sT_20, sT_21, sT_22, sT_23, sT_24, sT_25, sT_26, sT_27, sT_28, sT_29, sT_30, sT_31, sT_32, sT_33, sT_34, sT_35, sT_36, sT_37, sT_38, sT_39, sT_40, sT_41, sT_42, sT_43, sT_44, sT_45, sT_46, sT_47, sT_48, sT_49, sT_50, sT_51, sT_52, sT_53, sT_54, sT_55, sT_56, sT_57, sT_58, sT_59, sT_60, sT_61, sT_62, sT_63, sT_64, sT_65, sT_66, sT_67, sT_68, sT_69, sT_70, sT_71, sT_72, sT_73, sT_74, sT_75, sT_76, sT_77, sT_78, sT_79, sT_80, sN_1, sN_2, sN_19, sN_21, sN_23, sN_24, sN_26, sN_29, sN_31, sN_33, sN_35, sN_36, sN_37, sN_39, sN_40, sN_42, sN_44, sN_45, sN_46, sN_48, sN_49, sN_50, sN_51, sN_52, sN_53, sN_54, sN_55, sN_56, sN_57, sN_58, sN_59, sN_60, sN_61, sN_62, sN_63, sN_64, sN_65, sN_66, sN_67, sN_68, sN_69, sN_70, sN_71, sN_72, sN_73, sN_74, sN_75, sN_76, sN_77, sN_78, sN_79, sN_80, sR_0_34, sR_0_38, sR_1_34, sR_1_38, sR_64_20, sR_64_22, sR_128_25, sR_128_28, sR_194_17, sR_195_17, sR_196_17, sR_197_17, sR_258_30, sR_258_32, sR_258_41, sR_384_43, sR_448_18, sR_512_27, sR_513_27, sR_514_27, sR_515_27, sR_516_27, sR_576_16, sR_577_16, sR_578_16, sR_579_16, sR_580_16, sR_581_16, sR_582_16, sR_583_16, sR_584_16, sR_641_47, sR_643_47, sR_645_47, sR_646_47, sR_647_47, sR_648_47, sR_649_47, sR_650_47, sR_651_47, sR_652_47, sR_653_47, sR_654_47, sR_655_47, sR_656_47, sR_657_47, sR_658_47, sR_659_47, sR_661_47, sR_662_47, sR_663_47, sR_664_47, sR_665_47, sR_669_47, sR_670_47, sR_671_47, sR_672_47, sR_673_47, sR_674_47, sR_676_47, sR_677_47, sR_679_47, sR_680_47, sR_681_47, SH_I, SH_A, SH_G, SH_C, hS1, Option.getD_some, ne_eq, reduceCtorEq, not_false_eq_true, not_true_eq_false, Option.bind_some, Option.toList_none, Option.toList_some, List.nil_append, List.cons_append, List.append_nil, ↓reduceIte, and_self, true_and, and_true, false_and, and_false, or_true, true_or, or_false, false_or, Nat.reduceEqDiff, Nat.reduceAdd, Int32.reduceMul, Int32.reduceAdd, Int32.reduceSub, Int32.reduceToNatClampNeg, Int32.reduceOfNat, Int32.reduceLT, Int32.reduceLE, va_rf]
          · rw [zA_A, if_neg (fun y => absurd y.1 (by decide)), zA_A, if_neg (fun y => absurd y.1 (by decide)), (f1.1.2 57 (by decide)).2]
          · rw [zA_A, if_neg (fun y => absurd y.1 (by decide)), zA_A, if_neg (fun y => absurd y.1 (by decide)), (f1.1.2 58 (by decide)).2]
          · rw [zA_A, if_neg (fun y => absurd y.1 (by decide)), zA_A, if_neg (fun y => hi y.2), (f1.1.2 53 (by decide)).2]
          · rw [zA_A, if_neg (fun y => hi y.2), zA_A, if_neg (fun y => absurd y.1 (by decide)), (f1.1.2 54 (by decide)).2]
          · refine ⟨by rw [zA_I, zA_I]; exact a1, by rw [zA_I, zA_I]; exact z1, fun i hi => ?_, ?_, fun j hj => ?_, ?_, ?_⟩
            · rw [zA_A, if_neg (fun y => absurd y.1 (by decide)), zA_A, if_neg (fun y => absurd y.1 (by decide))]; exact L1 i hi
            · rw [zA_A, if_neg (fun y => absurd y.1 (by decide)), zA_A, if_neg (fun y => absurd y.1 (by decide))]; exact hc1
            · show _ = if j = x then rg x else rg j
              rw [zA_A, if_neg (fun y => absurd y.1 (by decide)), zA_A, if_neg (fun y => absurd y.1 (by decide)), hg1 j hj]
              by_cases hjx : j = x
              · rw [if_pos hjx, hjx]
              · rw [if_neg hjx]
            · rw [zA_A, if_neg (fun y => absurd y.1 (by decide)), zA_A, if_pos ⟨rfl, rfl⟩]
            · rw [zA_A, if_pos ⟨rfl, rfl⟩]
      · rw [if_neg hm] at e4 hK
        cases fs with
        | false => cases hK
        | true =>
          cases hK
          rw [Option.map_some, if_neg hm]
          subst e4
          have n3 : ms.length < 3 := by
            have := nodup_le 3 (l :: ms) (List.nodup_cons.mpr ⟨hm, hn⟩) (fun x hx => by
              rcases List.mem_cons.mp hx with q | q
              · omega
              · exact hb x q)
            rw [List.length_cons] at this; omega
          have hS2 : SH (jsA σ1 72 ms.length (nI l)) := by rw [SH_A]; exact hS1
          have hS3 : SH (jsA (jsA σ1 72 ms.length (nI l)) 57 r (nI ms.length + 1)) := by rw [SH_A]; exact hS2
          have hS4 : SH (jsA (jsA (jsA σ1 72 ms.length (nI l)) 57 r (nI ms.length + 1)) 58 (3 * r + ms.length) (bdM W op)) := by rw [SH_A]; exact hS3
          have hc2 : jA (jsA σ1 72 ms.length (nI l)) 57 r = nI ms.length := by rw [zA_A, if_neg (fun y => absurd y.1 (by decide))]; exact hc1
          have hr2 : jA (jsA (jsA (jsA σ1 72 ms.length (nI l)) 57 r (nI ms.length + 1)) 58 (3 * r + ms.length) (bdM W op)) 58 (3 * r + ms.length) = bdM W op := by rw [zA_A, if_pos ⟨rfl, rfl⟩]
          have cb1 := c146 (d := d + 2) hS3 (by rw [zA_I, zA_I]; exact hw1) ho
          have cb2 := c146 (d := d + 2) hS4 (by rw [zA_I, zA_I, zA_I]; exact hw1) ho
          have g1 := gidx ms.length n3
          have g2 := cidx ms.length n3
          have g4 : bdM W op ≤ bdM W op := Int32.le_refl _
          have z2 : jI (jsA σ1 72 ms.length (nI l)) 667 47 = 0 := by rw [zA_I]; exact z1
          have z4 : jI (jsA (jsA σ1 72 ms.length (nI l)) 57 r (nI ms.length + 1)) 667 47 = 0 := by rw [zA_I, zA_I]; exact z1
          refine ⟨jsA (jsA (jsA (jsA (jsA σ1 72 ms.length (nI l)) 57 r (nI ms.length + 1)) 58 (3 * r + ms.length) (bdM W op)) 53 k 1) 54 k (nI ms.length), ?_, ((((F1.A (by decide)).A (by decide)).A (by decide)).A (by decide)).A (by decide), fun g a b c => by rw [zA_I, zA_I, zA_I, zA_I, zA_I, f1.2 g a b c], fun i hi => ?_, fun i hi => ?_, fun i hi => ?_, fun i hi => ?_, ?_⟩
          · rw [e2, e3]
            simp (decide := true) only [k144_70, k144_79, k144_90, k144_115, k144_116, k144_123, k144_128, k144_133, k144_163N, cb1, cb2, idx, g1, g2, g4, z2, z4, hc2, hr2, gr, cr, gk, ck, an, sT_1, sT_2, sT_3, sT_16, sT_17, sT_18, sT_19, sT_20, sT_21, sT_22, sT_23, sT_24, sT_25, sT_26, sT_27, sT_28, sT_29, sT_30, sT_31, sT_32, sT_33, sT_34, sT_35, sT_36, sT_37, sT_38, sT_39, sT_40, sT_41, sT_42, sT_43, sT_44, sT_45, sT_46, sT_47, sT_48, sT_49, sT_50, sT_51, sT_52, sT_53, sT_54, sT_55, sT_56, sT_57, sT_58, sT_59, sT_60, sT_61, sT_62, sT_63, sT_64, sT_65, sT_66, sT_67, sT_68, sT_69, sT_70, sT_71, sT_72, sT_73, sT_74, sT_75, sT_76, sT_77, sT_78, sT_79, sT_80, sN_1, sN_2, sN_19, sN_21, sN_23, sN_24, sN_26, sN_29, sN_31, sN_33, sN_35, sN_36, sN_37, sN_39, sN_40, sN_42, sN_44, sN_45, sN_46, sN_48, sN_49, sN_50, sN_51, sN_52, sN_53, sN_54, sN_55, sN_56, sN_57, sN_58, sN_59, sN_60, sN_61, sN_62, sN_63, sN_64, sN_65, sN_66, sN_67, sN_68, sN_69, sN_70, sN_71, sN_72, sN_73, sN_74, sN_75, sN_76, sN_77, sN_78, sN_79, sN_80, sR_0_34, sR_0_38, sR_1_34, sR_1_38, sR_64_20, sR_64_22, sR_128_25, sR_128_28, sR_194_17, sR_195_17, sR_196_17, sR_197_17, sR_258_30, sR_258_32, sR_258_41, sR_384_43, sR_448_18, sR_512_27, sR_513_27, sR_514_27, sR_515_27, sR_516_27, sR_576_16, sR_577_16, sR_578_16, sR_579_16, sR_580_16, sR_581_16, sR_582_16, sR_583_16, sR_584_16, sR_641_47, sR_643_47, sR_645_47, sR_646_47, sR_647_47, sR_648_47, sR_649_47, sR_650_47, sR_651_47, sR_652_47, sR_653_47, sR_654_47, sR_655_47, sR_656_47, sR_657_47, sR_658_47, sR_659_47, sR_661_47, sR_662_47, sR_663_47, sR_664_47, sR_665_47, sR_669_47, sR_670_47, sR_671_47, sR_672_47, sR_673_47, sR_674_47, sR_676_47, sR_677_47, sR_679_47, sR_680_47, sR_681_47, SH_I, SH_A, SH_G, SH_C, hS2, hS3, hS4, Option.getD_some, ne_eq, reduceCtorEq, not_false_eq_true, not_true_eq_false, Option.bind_some, Option.toList_none, Option.toList_some, List.nil_append, List.cons_append, List.append_nil, ↓reduceIte, and_self, true_and, and_true, false_and, and_false, or_true, true_or, or_false, false_or, Nat.reduceEqDiff, Nat.reduceAdd, Int32.reduceMul, Int32.reduceAdd, Int32.reduceSub, Int32.reduceToNatClampNeg, Int32.reduceOfNat, Int32.reduceLT, Int32.reduceLE, va_rf]
          · rw [zA_A, if_neg (fun y => absurd y.1 (by decide)), zA_A, if_neg (fun y => absurd y.1 (by decide)), zA_A, if_neg (fun y => absurd y.1 (by decide)), zA_A, if_neg (fun y => hi y.2), zA_A, if_neg (fun y => absurd y.1 (by decide)), (f1.1.2 57 (by decide)).2]
          · rw [zA_A, if_neg (fun y => absurd y.1 (by decide)), zA_A, if_neg (fun y => absurd y.1 (by decide)), zA_A, if_neg (fun y => hi (by have := y.2; omega)), zA_A, if_neg (fun y => absurd y.1 (by decide)), zA_A, if_neg (fun y => absurd y.1 (by decide)), (f1.1.2 58 (by decide)).2]
          · rw [zA_A, if_neg (fun y => absurd y.1 (by decide)), zA_A, if_neg (fun y => hi y.2), zA_A, if_neg (fun y => absurd y.1 (by decide)), zA_A, if_neg (fun y => absurd y.1 (by decide)), zA_A, if_neg (fun y => absurd y.1 (by decide)), (f1.1.2 53 (by decide)).2]
          · rw [zA_A, if_neg (fun y => hi y.2), zA_A, if_neg (fun y => absurd y.1 (by decide)), zA_A, if_neg (fun y => absurd y.1 (by decide)), zA_A, if_neg (fun y => absurd y.1 (by decide)), zA_A, if_neg (fun y => absurd y.1 (by decide)), (f1.1.2 54 (by decide)).2]
          · refine ⟨by rw [zA_I, zA_I, zA_I, zA_I, zA_I]; exact a1, by rw [zA_I, zA_I, zA_I, zA_I, zA_I]; exact z1, fun i hi => ?_, ?_, fun j hj => ?_, ?_, ?_⟩
            · rw [zA_A, if_neg (fun y => absurd y.1 (by decide)), zA_A, if_neg (fun y => absurd y.1 (by decide)), zA_A, if_neg (fun y => absurd y.1 (by decide)), zA_A, if_neg (fun y => absurd y.1 (by decide)), zA_A]
              have hi2 : i < ms.length + 1 := by simpa using hi
              by_cases q : i = ms.length
              · subst q
                rw [if_pos ⟨rfl, rfl⟩]
                simp
              · rw [if_neg (fun y => q y.2), L1 i (by omega)]
                congr 1
                have hi3 : i < ms.length := by omega
                simp [List.getElem?_append_left hi3]
            · rw [zA_A, if_neg (fun y => absurd y.1 (by decide)), zA_A, if_neg (fun y => absurd y.1 (by decide)), zA_A, if_neg (fun y => absurd y.1 (by decide)), zA_A, if_pos ⟨rfl, rfl⟩, ← nI_succ]
              simp
            · show _ = if j = ms.length then bdM W op else rg j
              rw [zA_A, if_neg (fun y => absurd y.1 (by decide)), zA_A, if_neg (fun y => absurd y.1 (by decide)), zA_A]
              by_cases hjx : j = ms.length
              · rw [if_pos ⟨rfl, by rw [hjx]⟩, if_pos hjx]
              · rw [if_neg (fun y => hjx (by have := y.2; omega)), if_neg hjx, zA_A, if_neg (fun y => absurd y.1 (by decide)), zA_A, if_neg (fun y => absurd y.1 (by decide))]; exact hg1 j hj
            · rw [zA_A, if_neg (fun y => absurd y.1 (by decide)), zA_A, if_pos ⟨rfl, rfl⟩]
            · rw [zA_A, if_pos ⟨rfl, rfl⟩]
end MR8
end S_40
section S_41
/-! class and reference read numbers alike -/
theorem fwF_step {t : Nat → Int32} {f p : Nat} (h : isFg (t p)) : fwF t (f + 1) p = fwF t f (p + 1) + 1 := if_pos h
theorem fwF_stop {t : Nat → Int32} {f p : Nat} (h : ¬ isFg (t p)) : fwF t f p = 0 := by
  cases f with
  | zero => rfl
  | succ f => exact if_neg h
theorem fg_in {len : Nat} {b : Nat → Int32} {p : Nat} (h : isFg (tv len b p)) : p < len := tv_in (fun z => by rw [z] at h; exact absurd h (by decide))
theorem fw_go {len : Nat} {b : Nat → Int32} {p : Nat} (h : isFg (tv len b p)) : fw len b p = fw len b (p + 1) + 1 := by
  have hl := fg_in h
  unfold fw
  rw [show len - p = (len - (p + 1)) + 1 by omega]
  exact fwF_step h
theorem fw_stop {len : Nat} {b : Nat → Int32} {p : Nat} (h : ¬ isFg (tv len b p)) : fw len b p = 0 := fwF_stop h
/-- the class's reading of a number is the reference's -/
theorem num_same {len m j : Nat} {b : Nat → Int32} {s : jPS} (h : isFg (tv len b s.1)) : sTerm len b m j s = (mNum len b s.1).map (fun z => (z.2, s.2.1, s.2.2.1, up6 s.2.2.2 j z.1)) := by
  unfold sTerm mNum
  rw [if_pos h, fw_go h, if_neg (Nat.succ_ne_zero _)]
  by_cases h2 : isFg (tv len b (s.1 + 1))
  · rw [if_pos h2, fw_go h2]
    by_cases h3 : isFg (tv len b (s.1 + 2))
    · have e : fw len b (s.1 + 1 + 1) = fw len b (s.1 + 1 + 1 + 1) + 1 := fw_go h3
      rw [if_pos (Or.inr h3), e, if_pos (by omega)]; rfl
    · have e : fw len b (s.1 + 1 + 1) = 0 := fw_stop h3
      rw [e, if_neg (show ¬ 2 < 0 + 1 + 1 by omega)]
      have v : nv (tv len b) s.1 (0 + 1 + 1) = (tv len b s.1 - 48) * 10 + tv len b (s.1 + 1) - 48 := by
        show 10 * (10 * 0 + tv len b (s.1 + 0) - 48) + tv len b (s.1 + 1) - 48 = _
        rw [Nat.add_zero, show (10 : Int32) * 0 = 0 from rfl, Int32.zero_add, Int32.mul_comm]
      rw [v]
      by_cases h4 : 15 < (tv len b s.1 - 48) * 10 + tv len b (s.1 + 1) - 48
      · rw [if_pos (Or.inl h4), if_pos h4]; rfl
      · rw [if_neg (fun z => z.elim h4 h3), if_neg h4]; rfl
  · rw [if_neg h2, fw_stop h2, if_neg (show ¬ 2 < 0 + 1 by omega)]
    have v : nv (tv len b) s.1 (0 + 1) = tv len b s.1 - 48 := by
      show 10 * 0 + tv len b (s.1 + 0) - 48 = _
      rw [Nat.add_zero, show (10 : Int32) * 0 = 0 from rfl, Int32.zero_add]
    rw [v]
    by_cases h4 : 15 < tv len b s.1 - 48
    · rw [if_pos h4, if_pos h4]; rfl
    · rw [if_neg h4, if_neg h4]; rfl
theorem lo_in {len : Nat} {b : Nat → Int32} {p : Nat} (h : isLo (tv len b p)) : p < len := tv_in (fun z => by rw [z] at h; exact absurd h (by decide))
theorem lw_stop {len : Nat} {b : Nat → Int32} {p : Nat} (h : ¬ isLo (tv len b p)) : lw len b p = 0 := by
  unfold lw
  cases len - p with
  | zero => rfl
  | succ f => exact if_neg h
theorem lw_go {len : Nat} {b : Nat → Int32} {p : Nat} (h : isLo (tv len b p)) : lw len b p = lw len b (p + 1) + 1 := by
  have hl := lo_in h
  unfold lw
  rw [show len - p = (len - (p + 1)) + 1 by omega]
  exact if_pos h
theorem lw_one {len : Nat} {b : Nat → Int32} {p : Nat} (h : isLo (tv len b p)) : lw len b p = 1 ↔ ¬ isLo (tv len b (p + 1)) := by
  rw [lw_go h]
  constructor
  · intro z q
    rw [lw_go q] at z
    omega
  · intro q
    rw [lw_stop q]
/-- a letter alone, by the letter behind it -/
theorem mLet_eq {len : Nat} {b : Nat → Int32} {x y : Int32} {p : Nat} (hx : 97 ≤ x) (hy : x + y - 1 ≤ 122) : mLet len b x y p = if (x ≤ tv len b p ∧ tv len b p ≤ x + y - 1) ∧ ¬ isLo (tv len b (p + 1)) ∧ ¬ isFg (tv len b (p + 1)) then some (tv len b p - x, p + 1) else none := by
  unfold mLet
  by_cases g : x ≤ tv len b p ∧ tv len b p ≤ x + y - 1
  · have h : isLo (tv len b p) := ⟨Int32.le_trans hx g.1, Int32.le_trans g.2 hy⟩
    by_cases g2 : isLo (tv len b (p + 1))
    · rw [if_neg (fun z => (lw_one h).mp z.2.1 g2), if_neg (fun z => z.2.1 g2)]
    · by_cases g3 : isFg (tv len b (p + 1))
      · rw [if_neg (fun z => z.2.2.2 g3), if_neg (fun z => z.2.2 g3)]
      · rw [if_pos ⟨h, (lw_one h).mpr g2, g, g3⟩, if_pos ⟨g, g2, g3⟩]
  · rw [if_neg (fun z => g z.2.2.1), if_neg (fun z => g z.1)]
end S_41
section S_42
/-! class and reference read names alike: letters and their numbers -/
theorem lo_nat {c : Int32} (h : isLo c) : ∃ n, 97 ≤ n ∧ n ≤ 122 ∧ c = nI n := by
  obtain ⟨h1, h2⟩ := h
  have n1 : ¬ c < 0 := fun z => by
    rw [Int32.lt_iff_toInt_lt] at z
    rw [Int32.le_iff_toInt_le] at h1
    have e1 : (97 : Int32).toInt = 97 := rfl
    have e0 : (0 : Int32).toInt = 0 := rfl
    omega
  have n2 : ¬ nI 123 ≤ c := fun z => by
    rw [Int32.le_iff_toInt_le] at z h2
    have e1 : (122 : Int32).toInt = 122 := rfl
    have e2 : (nI 123).toInt = 123 := rfl
    omega
  obtain ⟨e, hlt⟩ := i32_nat (by decide) n1 n2
  generalize c.toNatClampNeg = n at e hlt
  refine ⟨n, ?_, by omega, e⟩
  rw [e, show (97 : Int32) = nI 97 from rfl, n31le (by decide) (by omega)] at h1
  exact h1
theorem wv1 {t : Nat → Int32} {p a : Nat} (ha : 97 ≤ a) (e : t p = nI a) : wv t p 1 = nI (a - 96) := by
  show 27 * 0 + t (p + 0) - 96 = _
  rw [Nat.add_zero, e, show (27 : Int32) * 0 = 0 from rfl, Int32.zero_add, show (96 : Int32) = nI 96 from rfl, nsub (by omega)]
theorem wv2 {t : Nat → Int32} {p a c : Nat} (ha : 97 ≤ a) (e : t p = nI a) (hc : 97 ≤ c) (e2 : t (p + 1) = nI c) : wv t p 2 = nI (27 * (a - 96) + (c - 96)) := by
  show 27 * wv t p 1 + t (p + 1) - 96 = _
  rw [wv1 ha e, e2, show (27 : Int32) = nI 27 from rfl, show (96 : Int32) = nI 96 from rfl, nmul, nadd, nsub (by omega)]
  congr 1
  omega
theorem wv3 {t : Nat → Int32} {p a c g : Nat} (ha : 97 ≤ a) (e : t p = nI a) (hc : 97 ≤ c) (e2 : t (p + 1) = nI c) (hg : 97 ≤ g) (e3 : t (p + 2) = nI g) : wv t p 3 = nI (27 * (27 * (a - 96) + (c - 96)) + (g - 96)) := by
  show 27 * wv t p 2 + t (p + 2) - 96 = _
  rw [wv2 ha e hc e2, e3, show (27 : Int32) = nI 27 from rfl, show (96 : Int32) = nI 96 from rfl, nmul, nadd, nsub (by omega)]
  congr 1
  omega
end S_42
section S_43
/-! names and their numbers -/
theorem name3 {a c g k : Nat} (ha : 97 ≤ a ∧ a ≤ 122) (hc : 97 ≤ c ∧ c ≤ 122) (hg : 97 ≤ g ∧ g ≤ 122) (hk : k < 19) : nmv k = nI (27 * (27 * (a - 96) + (c - 96)) + (g - 96)) ↔ (nlnN k = 3 ∧ jnmb (3 * k) = nI a ∧ jnmb (3 * k + 1) = nI c ∧ jnmb (3 * k + 2) = nI g) := by
  rcases k19 hk with rfl | rfl | rfl | rfl | rfl | rfl | rfl | rfl | rfl | rfl | rfl | rfl | rfl | rfl | rfl | rfl | rfl | rfl | rfl
  · rw [show nmv 0 = nI 14006 from rfl, show jnmb (3 * 0) = nI 115 from rfl, show jnmb (3 * 0 + 1) = nI 101 from rfl, show jnmb (3 * 0 + 2) = nI 116 from rfl, show nlnN 0 = 3 from rfl, n31eq (by decide) (by omega), n31eq (by decide) (by omega), n31eq (by decide) (by omega), n31eq (by decide) (by omega)]
    omega
  · rw [show nmv 1 = nI 9904 from rfl, show jnmb (3 * 1) = nI 109 from rfl, show jnmb (3 * 1 + 1) = nI 111 from rfl, show jnmb (3 * 1 + 2) = nI 118 from rfl, show nlnN 1 = 3 from rfl, n31eq (by decide) (by omega), n31eq (by decide) (by omega), n31eq (by decide) (by omega), n31eq (by decide) (by omega)]
    omega
  · rw [show nmv 2 = nI 841 from rfl, show jnmb (3 * 2) = nI 97 from rfl, show jnmb (3 * 2 + 1) = nI 100 from rfl, show jnmb (3 * 2 + 2) = nI 100 from rfl, show nlnN 2 = 3 from rfl, n31eq (by decide) (by omega), n31eq (by decide) (by omega), n31eq (by decide) (by omega), n31eq (by decide) (by omega)]
    omega
  · rw [show nmv 3 = nI 14420 from rfl, show jnmb (3 * 3) = nI 115 from rfl, show jnmb (3 * 3 + 1) = nI 117 from rfl, show jnmb (3 * 3 + 2) = nI 98 from rfl, show nlnN 3 = 3 from rfl, n31eq (by decide) (by omega), n31eq (by decide) (by omega), n31eq (by decide) (by omega), n31eq (by decide) (by omega)]
    omega
  · rw [show nmv 4 = nI 1111 from rfl, show jnmb (3 * 4) = nI 97 from rfl, show jnmb (3 * 4 + 1) = nI 110 from rfl, show jnmb (3 * 4 + 2) = nI 100 from rfl, show nlnN 4 = 3 from rfl, n31eq (by decide) (by omega), n31eq (by decide) (by omega), n31eq (by decide) (by omega), n31eq (by decide) (by omega)]
    omega
  · rw [show nmv 5 = nI 423 from rfl, show nlnN 5 = 2 from rfl, n31eq (by decide) (by omega)]
    omega
  · rw [show nmv 6 = nI 17919 from rfl, show jnmb (3 * 6) = nI 120 from rfl, show jnmb (3 * 6 + 1) = nI 111 from rfl, show jnmb (3 * 6 + 2) = nI 114 from rfl, show nlnN 6 = 3 from rfl, n31eq (by decide) (by omega), n31eq (by decide) (by omega), n31eq (by decide) (by omega), n31eq (by decide) (by omega)]
    omega
  · rw [show nmv 7 = nI 10056 from rfl, show jnmb (3 * 7) = nI 109 from rfl, show jnmb (3 * 7 + 1) = nI 117 from rfl, show jnmb (3 * 7 + 2) = nI 108 from rfl, show nlnN 7 = 3 from rfl, n31eq (by decide) (by omega), n31eq (by decide) (by omega), n31eq (by decide) (by omega), n31eq (by decide) (by omega)]
    omega
  · rw [show nmv 8 = nI 6942 from rfl, show jnmb (3 * 8) = nI 105 from rfl, show jnmb (3 * 8 + 1) = nI 110 from rfl, show jnmb (3 * 8 + 2) = nI 99 from rfl, show nlnN 8 = 3 from rfl, n31eq (by decide) (by omega), n31eq (by decide) (by omega), n31eq (by decide) (by omega), n31eq (by decide) (by omega)]
    omega
  · rw [show nmv 9 = nI 3054 from rfl, show jnmb (3 * 9) = nI 100 from rfl, show jnmb (3 * 9 + 1) = nI 101 from rfl, show jnmb (3 * 9 + 2) = nI 99 from rfl, show nlnN 9 = 3 from rfl, n31eq (by decide) (by omega), n31eq (by decide) (by omega), n31eq (by decide) (by omega), n31eq (by decide) (by omega)]
    omega
  · rw [show nmv 10 = nI 10631 from rfl, show jnmb (3 * 10) = nI 110 from rfl, show jnmb (3 * 10 + 1) = nI 111 from rfl, show jnmb (3 * 10 + 2) = nI 116 from rfl, show nlnN 10 = 3 from rfl, n31eq (by decide) (by omega), n31eq (by decide) (by omega), n31eq (by decide) (by omega), n31eq (by decide) (by omega)]
    omega
  · rw [show nmv 11 = nI 10348 from rfl, show jnmb (3 * 11) = nI 110 from rfl, show jnmb (3 * 11 + 1) = nI 101 from rfl, show jnmb (3 * 11 + 2) = nI 103 from rfl, show nlnN 11 = 3 from rfl, n31eq (by decide) (by omega), n31eq (by decide) (by omega), n31eq (by decide) (by omega), n31eq (by decide) (by omega)]
    omega
  · rw [show nmv 12 = nI 14079 from rfl, show jnmb (3 * 12) = nI 115 from rfl, show jnmb (3 * 12 + 1) = nI 104 from rfl, show jnmb (3 * 12 + 2) = nI 108 from rfl, show nlnN 12 = 3 from rfl, n31eq (by decide) (by omega), n31eq (by decide) (by omega), n31eq (by decide) (by omega), n31eq (by decide) (by omega)]
    omega
  · rw [show nmv 13 = nI 14085 from rfl, show jnmb (3 * 13) = nI 115 from rfl, show jnmb (3 * 13 + 1) = nI 104 from rfl, show jnmb (3 * 13 + 2) = nI 114 from rfl, show nlnN 13 = 3 from rfl, n31eq (by decide) (by omega), n31eq (by decide) (by omega), n31eq (by decide) (by omega), n31eq (by decide) (by omega)]
    omega
  · rw [show nmv 14 = nI 13998 from rfl, show jnmb (3 * 14) = nI 115 from rfl, show jnmb (3 * 14 + 1) = nI 101 from rfl, show jnmb (3 * 14 + 2) = nI 108 from rfl, show nlnN 14 = 3 from rfl, n31eq (by decide) (by omega), n31eq (by decide) (by omega), n31eq (by decide) (by omega), n31eq (by decide) (by omega)]
    omega
  · rw [show nmv 15 = nI 5258 from rfl, show jnmb (3 * 15) = nI 103 from rfl, show jnmb (3 * 15 + 1) = nI 101 from rfl, show jnmb (3 * 15 + 2) = nI 116 from rfl, show nlnN 15 = 3 from rfl, n31eq (by decide) (by omega), n31eq (by decide) (by omega), n31eq (by decide) (by omega), n31eq (by decide) (by omega)]
    omega
  · rw [show nmv 16 = nI 12251 from rfl, show jnmb (3 * 16) = nI 112 from rfl, show jnmb (3 * 16 + 1) = nI 117 from rfl, show jnmb (3 * 16 + 2) = nI 116 from rfl, show nlnN 16 = 3 from rfl, n31eq (by decide) (by omega), n31eq (by decide) (by omega), n31eq (by decide) (by omega), n31eq (by decide) (by omega)]
    omega
  · rw [show nmv 17 = nI 10627 from rfl, show jnmb (3 * 17) = nI 110 from rfl, show jnmb (3 * 17 + 1) = nI 111 from rfl, show jnmb (3 * 17 + 2) = nI 112 from rfl, show nlnN 17 = 3 from rfl, n31eq (by decide) (by omega), n31eq (by decide) (by omega), n31eq (by decide) (by omega), n31eq (by decide) (by omega)]
    omega
  · rw [show nmv 18 = nI 14488 from rfl, show jnmb (3 * 18) = nI 115 from rfl, show jnmb (3 * 18 + 1) = nI 119 from rfl, show jnmb (3 * 18 + 2) = nI 112 from rfl, show nlnN 18 = 3 from rfl, n31eq (by decide) (by omega), n31eq (by decide) (by omega), n31eq (by decide) (by omega), n31eq (by decide) (by omega)]
    omega
theorem name2 {a c k : Nat} (ha : 97 ≤ a ∧ a ≤ 122) (hc : 97 ≤ c ∧ c ≤ 122) (hk : k < 19) : nmv k = nI (27 * (a - 96) + (c - 96)) ↔ (nlnN k = 2 ∧ jnmb (3 * k) = nI a ∧ jnmb (3 * k + 1) = nI c) := by
  rcases k19 hk with rfl | rfl | rfl | rfl | rfl | rfl | rfl | rfl | rfl | rfl | rfl | rfl | rfl | rfl | rfl | rfl | rfl | rfl | rfl
  · rw [show nmv 0 = nI 14006 from rfl, show nlnN 0 = 3 from rfl, n31eq (by decide) (by omega)]
    omega
  · rw [show nmv 1 = nI 9904 from rfl, show nlnN 1 = 3 from rfl, n31eq (by decide) (by omega)]
    omega
  · rw [show nmv 2 = nI 841 from rfl, show nlnN 2 = 3 from rfl, n31eq (by decide) (by omega)]
    omega
  · rw [show nmv 3 = nI 14420 from rfl, show nlnN 3 = 3 from rfl, n31eq (by decide) (by omega)]
    omega
  · rw [show nmv 4 = nI 1111 from rfl, show nlnN 4 = 3 from rfl, n31eq (by decide) (by omega)]
    omega
  · rw [show nmv 5 = nI 423 from rfl, show jnmb (3 * 5) = nI 111 from rfl, show jnmb (3 * 5 + 1) = nI 114 from rfl, show nlnN 5 = 2 from rfl, n31eq (by decide) (by omega), n31eq (by decide) (by omega), n31eq (by decide) (by omega)]
    omega
  · rw [show nmv 6 = nI 17919 from rfl, show nlnN 6 = 3 from rfl, n31eq (by decide) (by omega)]
    omega
  · rw [show nmv 7 = nI 10056 from rfl, show nlnN 7 = 3 from rfl, n31eq (by decide) (by omega)]
    omega
  · rw [show nmv 8 = nI 6942 from rfl, show nlnN 8 = 3 from rfl, n31eq (by decide) (by omega)]
    omega
  · rw [show nmv 9 = nI 3054 from rfl, show nlnN 9 = 3 from rfl, n31eq (by decide) (by omega)]
    omega
  · rw [show nmv 10 = nI 10631 from rfl, show nlnN 10 = 3 from rfl, n31eq (by decide) (by omega)]
    omega
  · rw [show nmv 11 = nI 10348 from rfl, show nlnN 11 = 3 from rfl, n31eq (by decide) (by omega)]
    omega
  · rw [show nmv 12 = nI 14079 from rfl, show nlnN 12 = 3 from rfl, n31eq (by decide) (by omega)]
    omega
  · rw [show nmv 13 = nI 14085 from rfl, show nlnN 13 = 3 from rfl, n31eq (by decide) (by omega)]
    omega
  · rw [show nmv 14 = nI 13998 from rfl, show nlnN 14 = 3 from rfl, n31eq (by decide) (by omega)]
    omega
  · rw [show nmv 15 = nI 5258 from rfl, show nlnN 15 = 3 from rfl, n31eq (by decide) (by omega)]
    omega
  · rw [show nmv 16 = nI 12251 from rfl, show nlnN 16 = 3 from rfl, n31eq (by decide) (by omega)]
    omega
  · rw [show nmv 17 = nI 10627 from rfl, show nlnN 17 = 3 from rfl, n31eq (by decide) (by omega)]
    omega
  · rw [show nmv 18 = nI 14488 from rfl, show nlnN 18 = 3 from rfl, n31eq (by decide) (by omega)]
    omega
end S_43
