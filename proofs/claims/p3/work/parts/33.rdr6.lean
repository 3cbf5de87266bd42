/-! the class's reader: a whole program, a whole rule -/
section RD8
variable {d : Nat} {σ : jS} {len W : Nat} {b : Nat → Int32}
theorem c23a (hS : SH σ) : ∃ σ', jx d 23 0 [some (.ref 20), none] [] σ = some (none, σ') ∧ FR [20, 21] σ σ' ∧ LT σ' 20 21 4 [] := by
  refine ⟨jsA (jsA (jsA (jsA (jsI σ 65 20 0) 21 0 (-1)) 21 1 (-1)) 21 2 (-1)) 21 3 (-1), ?_, (((((FR.refl _ _).I (by decide)).A (by decide)).A (by decide)).A (by decide)).A (by decide), ?_, ?_, List.nodup_nil, fun x h => absurd h List.not_mem_nil⟩
  · simp (decide := true) only [k23_0, k23_7, k23_16, k23_29, sT_1, sT_2, sT_3, sT_16, sT_17, sT_18, sT_19, sT_20, sT_21, sT_22, sT_23, sT_24, sT_25, sT_26, sT_27, sT_28, sT_29, sT_30, sT_31, sT_32, sT_33, sT_34, sT_35, sT_36, sT_37, sT_38, sT_39, sT_40, sT_41, sT_42, sT_43, sT_44, sT_45, sT_46, sT_47, sT_48, sT_49, sT_50, sT_51, sT_52, sT_53, sT_54, sT_55, sT_56, sT_57, sT_58, sT_59, sT_60, sT_61, sT_62, sT_63, sT_64, sT_65, sT_66, sT_67, sT_68, sT_69, sT_70, sT_71, sT_72, sT_73, sT_74, sT_75, sT_76, sT_77, sT_78, sT_79, sT_80, sN_1, sN_2, sN_19, sN_21, sN_23, sN_24, sN_26, sN_29, sN_31, sN_33, sN_35, sN_36, sN_37, sN_39, sN_40, sN_42, sN_44, sN_45, sN_46, sN_48, sN_49, sN_50, sN_51, sN_52, sN_53, sN_54, sN_55, sN_56, sN_57, sN_58, sN_59, sN_60, sN_61, sN_62, sN_63, sN_64, sN_65, sN_66, sN_67, sN_68, sN_69, sN_70, sN_71, sN_72, sN_73, sN_74, sN_75, sN_76, sN_77, sN_78, sN_79, sN_80, sR_0_34, sR_0_38, sR_1_34, sR_1_38, sR_64_20, sR_64_22, sR_128_25, sR_128_28, sR_194_17, sR_195_17, sR_196_17, sR_197_17, sR_258_30, sR_258_32, sR_258_41, sR_384_43, sR_448_18, sR_512_27, sR_513_27, sR_514_27, sR_515_27, sR_516_27, sR_576_16, sR_577_16, sR_578_16, sR_579_16, sR_580_16, sR_581_16, sR_582_16, sR_583_16, sR_584_16, sR_641_47, sR_643_47, sR_645_47, sR_646_47, sR_647_47, sR_648_47, sR_649_47, sR_650_47, sR_651_47, sR_652_47, sR_653_47, sR_654_47, sR_655_47, sR_656_47, sR_657_47, sR_658_47, sR_659_47, sR_661_47, sR_662_47, sR_663_47, sR_664_47, sR_665_47, sR_669_47, sR_670_47, sR_671_47, sR_672_47, sR_673_47, sR_674_47, sR_676_47, sR_677_47, sR_679_47, sR_680_47, sR_681_47, SH_I, SH_A, SH_G, SH_C, hS, Option.getD_some, ne_eq, reduceCtorEq, not_false_eq_true, not_true_eq_false, Option.bind_some, Option.toList_none, Option.toList_some, List.nil_append, List.cons_append, List.append_nil, ↓reduceIte, and_self, true_and, and_true, false_and, and_false, or_true, true_or, or_false, false_or, Nat.reduceEqDiff, Nat.reduceAdd, Int32.reduceMul, Int32.reduceAdd, Int32.reduceSub, Int32.reduceToNatClampNeg, Int32.reduceOfNat, Int32.reduceLT, Int32.reduceLE, va_rf, jin_eq]
  · simp (decide := true) only [zI_T, zI_N, zI_R, zI_A, zI_G, zI_nx, zI_sl, zI_I, zR_T, zR_N, zR_I, zR_A, zR_G, zR_nx, zR_sl, zR_R, zA_T, zA_N, zA_I, zA_R, zA_G, zA_nx, zA_sl, zA_A, zG_T, zG_N, zG_I, zG_R, zG_A, zG_nx, zG_sl, zG_G, zO_T, zO_N, zO_I, zO_R, zO_A, zO_G, zO_nx, zO_sl, zB_T, zB_N, zB_I, zB_R, zB_A, zB_G, zB_nx, zB_sl, zH_T, zH_N, zH_I, zH_R, zH_A, zH_G, zH_nx, zH_sl, zC_T, zC_N, zC_I, zC_R, zC_G, zC_nx, zC_sl, zC_A, Option.getD_some, ne_eq, reduceCtorEq, not_false_eq_true, not_true_eq_false, Option.bind_some, Option.toList_none, Option.toList_some, List.nil_append, List.cons_append, List.append_nil, ↓reduceIte, and_self, true_and, and_true, false_and, and_false, or_true, true_or, or_false, false_or, Nat.reduceEqDiff, Nat.reduceAdd, Int32.reduceMul, Int32.reduceAdd, Int32.reduceSub, Int32.reduceToNatClampNeg, Int32.reduceOfNat, Int32.reduceLT, Int32.reduceLE, va_rf]
  · intro l hl
    have : l = 0 ∨ l = 1 ∨ l = 2 ∨ l = 3 := by omega
    rcases this with h | h | h | h <;> subst h <;> simp (decide := true) only [zI_T, zI_N, zI_R, zI_A, zI_G, zI_nx, zI_sl, zI_I, zR_T, zR_N, zR_I, zR_A, zR_G, zR_nx, zR_sl, zR_R, zA_T, zA_N, zA_I, zA_R, zA_G, zA_nx, zA_sl, zA_A, zG_T, zG_N, zG_I, zG_R, zG_A, zG_nx, zG_sl, zG_G, zO_T, zO_N, zO_I, zO_R, zO_A, zO_G, zO_nx, zO_sl, zB_T, zB_N, zB_I, zB_R, zB_A, zB_G, zB_nx, zB_sl, zH_T, zH_N, zH_I, zH_R, zH_A, zH_G, zH_nx, zH_sl, zC_T, zC_N, zC_I, zC_R, zC_G, zC_nx, zC_sl, zC_A, Option.getD_some, ne_eq, reduceCtorEq, not_false_eq_true, not_true_eq_false, Option.bind_some, Option.toList_none, Option.toList_some, List.nil_append, List.cons_append, List.append_nil, ↓reduceIte, and_self, true_and, and_true, false_and, and_false, or_true, true_or, or_false, false_or, Nat.reduceEqDiff, Nat.reduceAdd, Int32.reduceMul, Int32.reduceAdd, Int32.reduceSub, Int32.reduceToNatClampNeg, Int32.reduceOfNat, Int32.reduceLT, Int32.reduceLE, va_rf] <;> rfl
theorem c23b (hS : SH σ) : ∃ σ', jx d 23 0 [some (.ref 22), none] [] σ = some (none, σ') ∧ FR [22, 23] σ σ' ∧ LT σ' 22 23 3 [] := by
  refine ⟨jsA (jsA (jsA (jsI σ 65 22 0) 23 0 (-1)) 23 1 (-1)) 23 2 (-1), ?_, ((((FR.refl _ _).I (by decide)).A (by decide)).A (by decide)).A (by decide), ?_, ?_, List.nodup_nil, fun x h => absurd h List.not_mem_nil⟩
  · simp (decide := true) only [k23_0, k23_7, k23_16, k23_29, sT_1, sT_2, sT_3, sT_16, sT_17, sT_18, sT_19, sT_20, sT_21, sT_22, sT_23, sT_24, sT_25, sT_26, sT_27, sT_28, sT_29, sT_30, sT_31, sT_32, sT_33, sT_34, sT_35, sT_36, sT_37, sT_38, sT_39, sT_40, sT_41, sT_42, sT_43, sT_44, sT_45, sT_46, sT_47, sT_48, sT_49, sT_50, sT_51, sT_52, sT_53, sT_54, sT_55, sT_56, sT_57, sT_58, sT_59, sT_60, sT_61, sT_62, sT_63, sT_64, sT_65, sT_66, sT_67, sT_68, sT_69, sT_70, sT_71, sT_72, sT_73, sT_74, sT_75, sT_76, sT_77, sT_78, sT_79, sT_80, sN_1, sN_2, sN_19, sN_21, sN_23, sN_24, sN_26, sN_29, sN_31, sN_33, sN_35, sN_36, sN_37, sN_39, sN_40, sN_42, sN_44, sN_45, sN_46, sN_48, sN_49, sN_50, sN_51, sN_52, sN_53, sN_54, sN_55, sN_56, sN_57, sN_58, sN_59, sN_60, sN_61, sN_62, sN_63, sN_64, sN_65, sN_66, sN_67, sN_68, sN_69, sN_70, sN_71, sN_72, sN_73, sN_74, sN_75, sN_76, sN_77, sN_78, sN_79, sN_80, sR_0_34, sR_0_38, sR_1_34, sR_1_38, sR_64_20, sR_64_22, sR_128_25, sR_128_28, sR_194_17, sR_195_17, sR_196_17, sR_197_17, sR_258_30, sR_258_32, sR_258_41, sR_384_43, sR_448_18, sR_512_27, sR_513_27, sR_514_27, sR_515_27, sR_516_27, sR_576_16, sR_577_16, sR_578_16, sR_579_16, sR_580_16, sR_581_16, sR_582_16, sR_583_16, sR_584_16, sR_641_47, sR_643_47, sR_645_47, sR_646_47, sR_647_47, sR_648_47, sR_649_47, sR_650_47, sR_651_47, sR_652_47, sR_653_47, sR_654_47, sR_655_47, sR_656_47, sR_657_47, sR_658_47, sR_659_47, sR_661_47, sR_662_47, sR_663_47, sR_664_47, sR_665_47, sR_669_47, sR_670_47, sR_671_47, sR_672_47, sR_673_47, sR_674_47, sR_676_47, sR_677_47, sR_679_47, sR_680_47, sR_681_47, SH_I, SH_A, SH_G, SH_C, hS, Option.getD_some, ne_eq, reduceCtorEq, not_false_eq_true, not_true_eq_false, Option.bind_some, Option.toList_none, Option.toList_some, List.nil_append, List.cons_append, List.append_nil, ↓reduceIte, and_self, true_and, and_true, false_and, and_false, or_true, true_or, or_false, false_or, Nat.reduceEqDiff, Nat.reduceAdd, Int32.reduceMul, Int32.reduceAdd, Int32.reduceSub, Int32.reduceToNatClampNeg, Int32.reduceOfNat, Int32.reduceLT, Int32.reduceLE, va_rf, jin_eq]
  · simp (decide := true) only [zI_T, zI_N, zI_R, zI_A, zI_G, zI_nx, zI_sl, zI_I, zR_T, zR_N, zR_I, zR_A, zR_G, zR_nx, zR_sl, zR_R, zA_T, zA_N, zA_I, zA_R, zA_G, zA_nx, zA_sl, zA_A, zG_T, zG_N, zG_I, zG_R, zG_A, zG_nx, zG_sl, zG_G, zO_T, zO_N, zO_I, zO_R, zO_A, zO_G, zO_nx, zO_sl, zB_T, zB_N, zB_I, zB_R, zB_A, zB_G, zB_nx, zB_sl, zH_T, zH_N, zH_I, zH_R, zH_A, zH_G, zH_nx, zH_sl, zC_T, zC_N, zC_I, zC_R, zC_G, zC_nx, zC_sl, zC_A, Option.getD_some, ne_eq, reduceCtorEq, not_false_eq_true, not_true_eq_false, Option.bind_some, Option.toList_none, Option.toList_some, List.nil_append, List.cons_append, List.append_nil, ↓reduceIte, and_self, true_and, and_true, false_and, and_false, or_true, true_or, or_false, false_or, Nat.reduceEqDiff, Nat.reduceAdd, Int32.reduceMul, Int32.reduceAdd, Int32.reduceSub, Int32.reduceToNatClampNeg, Int32.reduceOfNat, Int32.reduceLT, Int32.reduceLE, va_rf]
  · intro l hl
    have : l = 0 ∨ l = 1 ∨ l = 2 := by omega
    rcases this with h | h | h <;> subst h <;> simp (decide := true) only [zI_T, zI_N, zI_R, zI_A, zI_G, zI_nx, zI_sl, zI_I, zR_T, zR_N, zR_I, zR_A, zR_G, zR_nx, zR_sl, zR_R, zA_T, zA_N, zA_I, zA_R, zA_G, zA_nx, zA_sl, zA_A, zG_T, zG_N, zG_I, zG_R, zG_A, zG_nx, zG_sl, zG_G, zO_T, zO_N, zO_I, zO_R, zO_A, zO_G, zO_nx, zO_sl, zB_T, zB_N, zB_I, zB_R, zB_A, zB_G, zB_nx, zB_sl, zH_T, zH_N, zH_I, zH_R, zH_A, zH_G, zH_nx, zH_sl, zC_T, zC_N, zC_I, zC_R, zC_G, zC_nx, zC_sl, zC_A, Option.getD_some, ne_eq, reduceCtorEq, not_false_eq_true, not_true_eq_false, Option.bind_some, Option.toList_none, Option.toList_some, List.nil_append, List.cons_append, List.append_nil, ↓reduceIte, and_self, true_and, and_true, false_and, and_false, or_true, true_or, or_false, false_or, Nat.reduceEqDiff, Nat.reduceAdd, Int32.reduceMul, Int32.reduceAdd, Int32.reduceSub, Int32.reduceToNatClampNeg, Int32.reduceOfNat, Int32.reduceLT, Int32.reduceLE, va_rf] <;> rfl
theorem c22 (hS : SH σ) (hQ : ST σ) (hT : TX σ len b) (m : Nat) : ∃ σ', jx (d + 2) 22 0 [some (.ref 17), some (.int (nI m)), some (.int (nI W))] [] σ = some (none, σ') ∧ FR rdl σ σ' ∧ RD m W (sk len b 0, [], [], fun j => jA σ 24 j) σ' := by
  have F0 : FR [17] σ (jsI (jsI (jsI (jsI (jsI σ 200 17 (nI W)) 199 17 (nI m)) 192 17 0) 193 17 0) 198 17 0) := (((((FR.refl _ _).I (by decide)).I (by decide)).I (by decide)).I (by decide)).I (by decide)
  have A0 : ∀ j, jA (jsI (jsI (jsI (jsI (jsI σ 200 17 (nI W)) 199 17 (nI m)) 192 17 0) 193 17 0) 198 17 0) 24 j = jA σ 24 j := fun j => by simp only [zI_A]
  have B0 : jI (jsI (jsI (jsI (jsI (jsI σ 200 17 (nI W)) 199 17 (nI m)) 192 17 0) 193 17 0) 198 17 0) 198 17 = nI 0 ∧ jI (jsI (jsI (jsI (jsI (jsI σ 200 17 (nI W)) 199 17 (nI m)) 192 17 0) 193 17 0) 198 17 0) 199 17 = nI m ∧ jI (jsI (jsI (jsI (jsI (jsI σ 200 17 (nI W)) 199 17 (nI m)) 192 17 0) 193 17 0) 198 17 0) 200 17 = nI W ∧ jI (jsI (jsI (jsI (jsI (jsI σ 200 17 (nI W)) 199 17 (nI m)) 192 17 0) 193 17 0) 198 17 0) 192 17 = 0 := by
    refine ⟨?_, ?_, ?_, ?_⟩ <;> simp (decide := true) only [zI_T, zI_N, zI_R, zI_A, zI_G, zI_nx, zI_sl, zI_I, zR_T, zR_N, zR_I, zR_A, zR_G, zR_nx, zR_sl, zR_R, zA_T, zA_N, zA_I, zA_R, zA_G, zA_nx, zA_sl, zA_A, zG_T, zG_N, zG_I, zG_R, zG_A, zG_nx, zG_sl, zG_G, zO_T, zO_N, zO_I, zO_R, zO_A, zO_G, zO_nx, zO_sl, zB_T, zB_N, zB_I, zB_R, zB_A, zB_G, zB_nx, zB_sl, zH_T, zH_N, zH_I, zH_R, zH_A, zH_G, zH_nx, zH_sl, zC_T, zC_N, zC_I, zC_R, zC_G, zC_nx, zC_sl, zC_A, Option.getD_some, ne_eq, reduceCtorEq, not_false_eq_true, not_true_eq_false, Option.bind_some, Option.toList_none, Option.toList_some, List.nil_append, List.cons_append, List.append_nil, ↓reduceIte, and_self, true_and, and_true, false_and, and_false, or_true, true_or, or_false, false_or, Nat.reduceEqDiff, Nat.reduceAdd, Int32.reduceMul, Int32.reduceAdd, Int32.reduceSub, Int32.reduceToNatClampNeg, Int32.reduceOfNat, Int32.reduceLT, Int32.reduceLE, va_rf]
  have hS0 := F0.sh hS
  have hT0 : TX _ len b := F0.tx (by decide) (by decide) hT
  have hQ0 := F0.st (by decide) (by decide) hQ
  have e0 : jx (d + 2) 22 0 [some (.ref 17), some (.int (nI m)), some (.int (nI W))] [] σ = (jx (d + 1) 23 0 [some (.ref 20), none] [] (jsI (jsI (jsI (jsI (jsI σ 200 17 (nI W)) 199 17 (nI m)) 192 17 0) 193 17 0) 198 17 0)).bind (fun z => jx (d + 2) 22 32 [some (.ref 17), some (.int (nI m)), some (.int (nI W))] (z.1.toList ++ []) z.2) := by
    simp (decide := true) only [k22_0, sT_1, sT_2, sT_3, sT_16, sT_17, sT_18, sT_19, sT_20, sT_21, sT_22, sT_23, sT_24, sT_25, sT_26, sT_27, sT_28, sT_29, sT_30, sT_31, sT_32, sT_33, sT_34, sT_35, sT_36, sT_37, sT_38, sT_39, sT_40, sT_41, sT_42, sT_43, sT_44, sT_45, sT_46, sT_47, sT_48, sT_49, sT_50, sT_51, sT_52, sT_53, sT_54, sT_55, sT_56, sT_57, sT_58, sT_59, sT_60, sT_61, sT_62, sT_63, sT_64, sT_65, sT_66, sT_67, sT_68, sT_69, sT_70, sT_71, sT_72, sT_73, sT_74, sT_75, sT_76, sT_77, sT_78, sT_79, sT_80, sN_1, sN_2, sN_19, sN_21, sN_23, sN_24, sN_26, sN_29, sN_31, sN_33, sN_35, sN_36, sN_37, sN_39, sN_40, sN_42, sN_44, sN_45, sN_46, sN_48, sN_49, sN_50, sN_51, sN_52, sN_53, sN_54, sN_55, sN_56, sN_57, sN_58, sN_59, sN_60, sN_61, sN_62, sN_63, sN_64, sN_65, sN_66, sN_67, sN_68, sN_69, sN_70, sN_71, sN_72, sN_73, sN_74, sN_75, sN_76, sN_77, sN_78, sN_79, sN_80, sR_0_34, sR_0_38, sR_1_34, sR_1_38, sR_64_20, sR_64_22, sR_128_25, sR_128_28, sR_194_17, sR_195_17, sR_196_17, sR_197_17, sR_258_30, sR_258_32, sR_258_41, sR_384_43, sR_448_18, sR_512_27, sR_513_27, sR_514_27, sR_515_27, sR_516_27, sR_576_16, sR_577_16, sR_578_16, sR_579_16, sR_580_16, sR_581_16, sR_582_16, sR_583_16, sR_584_16, sR_641_47, sR_643_47, sR_645_47, sR_646_47, sR_647_47, sR_648_47, sR_649_47, sR_650_47, sR_651_47, sR_652_47, sR_653_47, sR_654_47, sR_655_47, sR_656_47, sR_657_47, sR_658_47, sR_659_47, sR_661_47, sR_662_47, sR_663_47, sR_664_47, sR_665_47, sR_669_47, sR_670_47, sR_671_47, sR_672_47, sR_673_47, sR_674_47, sR_676_47, sR_677_47, sR_679_47, sR_680_47, sR_681_47, SH_I, SH_A, SH_G, SH_C, hS, Option.getD_some, ne_eq, reduceCtorEq, not_false_eq_true, not_true_eq_false, Option.bind_some, Option.toList_none, Option.toList_some, List.nil_append, List.cons_append, List.append_nil, ↓reduceIte, and_self, true_and, and_true, false_and, and_false, or_true, true_or, or_false, false_or, Nat.reduceEqDiff, Nat.reduceAdd, Int32.reduceMul, Int32.reduceAdd, Int32.reduceSub, Int32.reduceToNatClampNeg, Int32.reduceOfNat, Int32.reduceLT, Int32.reduceLE, va_rf]
  rw [e0]
  generalize jsI (jsI (jsI (jsI (jsI σ 200 17 (nI W)) 199 17 (nI m)) 192 17 0) 193 17 0) 198 17 0 = σ0 at *
  obtain ⟨σ1, e1, f1, l1⟩ := c23a (d := d + 1) hS0
  have hS1 := f1.sh hS0
  obtain ⟨σ2, e2, f2, l2⟩ := c23b (d := d + 1) hS1
  have hS2 := f2.sh hS1
  have l1' : LT σ2 20 21 4 [] := ⟨by rw [(f2.2 20 (by decide)).1]; exact l1.1, fun l hl => by rw [(f2.2 21 (by decide)).2]; exact l1.2.1 l hl, l1.2.2⟩
  have q17 : ∀ g, jI σ2 g 17 = jI σ0 g 17 := fun g => by rw [(f2.2 17 (by decide)).1, (f1.2 17 (by decide)).1]
  have q24 : ∀ j, jA σ2 24 j = jA σ 24 j := fun j => by rw [(f2.2 24 (by decide)).2, (f1.2 24 (by decide)).2]; exact A0 j
  have hT2 : TX σ2 len b := f2.tx (by decide) (by decide) (f1.tx (by decide) (by decide) hT0)
  have hat : jI σ2 198 17 = nI 0 := by rw [q17]; exact B0.1
  have R2 : RD m W (0, [], [], fun j => jA σ 24 j) σ2 := ⟨hat, by rw [q17]; exact B0.2.1, by rw [q17]; exact B0.2.2.1, l1', l2, fun j _ => q24 j, by rw [q17]; exact B0.2.2.2⟩
  have cs := c24 (d := d) hS2 hT2 (Nat.zero_le len) hat
  refine ⟨jsI σ2 198 17 (nI (sk len b 0)), ?_, ?_, R2.at _⟩
  · simp (decide := true) only [e1, e2, cs, k22_32, k22_39, k22_43, sT_1, sT_2, sT_3, sT_16, sT_17, sT_18, sT_19, sT_20, sT_21, sT_22, sT_23, sT_24, sT_25, sT_26, sT_27, sT_28, sT_29, sT_30, sT_31, sT_32, sT_33, sT_34, sT_35, sT_36, sT_37, sT_38, sT_39, sT_40, sT_41, sT_42, sT_43, sT_44, sT_45, sT_46, sT_47, sT_48, sT_49, sT_50, sT_51, sT_52, sT_53, sT_54, sT_55, sT_56, sT_57, sT_58, sT_59, sT_60, sT_61, sT_62, sT_63, sT_64, sT_65, sT_66, sT_67, sT_68, sT_69, sT_70, sT_71, sT_72, sT_73, sT_74, sT_75, sT_76, sT_77, sT_78, sT_79, sT_80, sN_1, sN_2, sN_19, sN_21, sN_23, sN_24, sN_26, sN_29, sN_31, sN_33, sN_35, sN_36, sN_37, sN_39, sN_40, sN_42, sN_44, sN_45, sN_46, sN_48, sN_49, sN_50, sN_51, sN_52, sN_53, sN_54, sN_55, sN_56, sN_57, sN_58, sN_59, sN_60, sN_61, sN_62, sN_63, sN_64, sN_65, sN_66, sN_67, sN_68, sN_69, sN_70, sN_71, sN_72, sN_73, sN_74, sN_75, sN_76, sN_77, sN_78, sN_79, sN_80, sR_0_34, sR_0_38, sR_1_34, sR_1_38, sR_64_20, sR_64_22, sR_128_25, sR_128_28, sR_194_17, sR_195_17, sR_196_17, sR_197_17, sR_258_30, sR_258_32, sR_258_41, sR_384_43, sR_448_18, sR_512_27, sR_513_27, sR_514_27, sR_515_27, sR_516_27, sR_576_16, sR_577_16, sR_578_16, sR_579_16, sR_580_16, sR_581_16, sR_582_16, sR_583_16, sR_584_16, sR_641_47, sR_643_47, sR_645_47, sR_646_47, sR_647_47, sR_648_47, sR_649_47, sR_650_47, sR_651_47, sR_652_47, sR_653_47, sR_654_47, sR_655_47, sR_656_47, sR_657_47, sR_658_47, sR_659_47, sR_661_47, sR_662_47, sR_663_47, sR_664_47, sR_665_47, sR_669_47, sR_670_47, sR_671_47, sR_672_47, sR_673_47, sR_674_47, sR_676_47, sR_677_47, sR_679_47, sR_680_47, sR_681_47, SH_I, SH_A, SH_G, SH_C, hS1, hS2, Option.getD_some, ne_eq, reduceCtorEq, not_false_eq_true, not_true_eq_false, Option.bind_some, Option.toList_none, Option.toList_some, List.nil_append, List.cons_append, List.append_nil, ↓reduceIte, and_self, true_and, and_true, false_and, and_false, or_true, true_or, or_false, false_or, Nat.reduceEqDiff, Nat.reduceAdd, Int32.reduceMul, Int32.reduceAdd, Int32.reduceSub, Int32.reduceToNatClampNeg, Int32.reduceOfNat, Int32.reduceLT, Int32.reduceLE, va_rf]
  · exact (((F0.mono (by decide)).trans (f1.mono (by decide))).trans (f2.mono (by decide))).I (by decide)
theorem sOrds_f {len m W most : Nat} {b : Nat → Int32} (f n p : Nat) (rs ms : List Nat) (g h : Nat → Int32) : sOrds len b m W most f n (p, rs, ms, g) = sOrds len b m W most f n (p, rs, ms, h) := by
  cases f with
  | zero => rfl
  | succ f => rfl
theorem sOrds_le {len m W most : Nat} {b : Nat → Int32} : ∀ (f n : Nat) (s : jPS) (z : List (Nat → Int32) × jPS), s.1 ≤ len → sOrds len b m W most f n s = some z → z.2.1 ≤ len := by
  intro f
  induction f with
  | zero => intro n s z _ h; cases h
  | succ f ih =>
    intro n s z hp h
    obtain ⟨s1, h1, h⟩ := Option.bind_eq_some_iff.mp h
    obtain ⟨s2, h2, h⟩ := Option.bind_eq_some_iff.mp h
    obtain ⟨s3, h3, h⟩ := Option.bind_eq_some_iff.mp h
    obtain ⟨a1, a2, -⟩ := sName_ok hp h1
    obtain ⟨b1, b2, -⟩ := sRegs_ok _ _ _ _ a2 (Nat.le_refl _) h2
    obtain ⟨c1, c2, -⟩ := sNum_ok b2 h3
    have p := (sk_le (b := b) c2).2
    cases hc : sClose len b m (sk len b s3.1) with
    | some x =>
      rw [hc] at h
      cases h
      unfold sClose at hc
      split at hc
      · split at hc
        · rename_i hx
          cases hc
          have := tv_lit hx.2 (by decide)
          show sk len b s3.1 + 2 ≤ len
          omega
        · cases hc
      · split at hc
        · cases hc; exact p
        · cases hc
    | none =>
      rw [hc] at h
      by_cases h59 : tv len b (sk len b s3.1) = 59
      · simp only [if_pos h59] at h
        obtain ⟨y, hy, h⟩ := Option.map_eq_some_iff.mp h
        have := tv_lit h59 (by decide)
        have q := ih _ _ _ (show sk len b (sk len b s3.1 + 1) ≤ len from (sk_le (by omega)).2) hy
        rw [← h]; exact q
      · simp only [if_neg h59] at h; cases h
def sProg (len : Nat) (b : Nat → Int32) (W : Nat) : Option (List (Nat → Int32)) := if len ≤ sk len b 0 then some [] else (sOrds len b 0 W 24 25 0 (sk len b 0, [], [], fun _ => 0)).map (fun z => z.1)
def sRule (len : Nat) (b : Nat → Int32) (W : Nat) : Option (List (Nat → Int32) × List (Nat → Int32) × List Nat × List Nat) :=
  (sOrds len b 1 W 4 5 0 (sk len b 0, [], [], fun _ => 0)).bind (fun z => if len ≤ sk len b z.2.1 then some (z.1, [], z.2.2.1, z.2.2.2.1) else (sOrds len b 2 W 4 5 0 (sk len b z.2.1, z.2.2.1, z.2.2.2.1, fun _ => 0)).map (fun y => (z.1, y.1, y.2.2.1, y.2.2.2.1)))
/-- a row holds these orders -/
def RC (σ : jS) (q a : Nat) (os : List (Nat → Int32)) : Prop := jI σ 257 q = nI os.length ∧ ∀ i j, i < os.length → j < 6 → jA σ a (6 * i + j) = (os.getD i (fun _ => 0)) j
theorem c78 (hS : SH σ) (hQ : ST σ) (hT : TX σ len b) {q a : Nat} (hqa : q ≠ a) (hq : q ∉ [1, 2, 17, 18, 19, 20, 21, 22, 23, 24]) (ha : a ∉ [1, 2, 17, 18, 19, 20, 21, 22, 23, 24]) (hW : RW σ q a 24 0) :
    ∃ σ', jx (d + 7) 78 0 [some (.ref 17), some (.ref q), some (.int (nI W))] [] σ = some (none, σ') ∧ FR (q :: a :: rdl) σ σ' ∧ (∀ g, g ≠ 257 → jI σ' g q = jI σ g q) ∧ (match sProg len b W with | some os => jI σ' 192 17 = 0 ∧ RC σ' q a os | none => ¬ jI σ' 192 17 = 0) := by
  obtain ⟨σ1, e1, f1, r1⟩ := c22 (d := d + 4) (W := W) hS hQ hT 0
  obtain ⟨hS1, hQ1, hT1⟩ := rdS (l := []) f1 hS hQ hT
  rw [show nI 0 = (0 : Int32) from rfl] at e1
  have nq : q ∉ rdl := fun z => hq (by simp only [rdl, List.mem_cons, List.not_mem_nil, or_false] at z ⊢; omega)
  have hl : len ≤ 400 := hT.2.1
  have p2 := (sk_le (b := b) (Nat.zero_le len)).2
  have ra : jI σ1 198 17 = nI (sk len b 0) := r1.1
  have tl := hT1.1
  unfold sProg
  by_cases h : len ≤ sk len b 0
  · rw [if_pos h]
    have g : nI len ≤ nI (sk len b 0) := nI_le h (by omega)
    refine ⟨σ1, ?_, f1.mono (fun x hx => by simp [hx]), fun g _ => (f1.2 q nq).1 g, r1.2.2.2.2.2.2, ?_, fun i j hi => absurd hi (Nat.not_lt_zero i)⟩
    · simp (decide := true) only [k78_0, k78_6, k78_20, k78_25, k78_26, sT_1, sT_2, sT_3, sT_16, sT_17, sT_18, sT_19, sT_20, sT_21, sT_22, sT_23, sT_24, sT_25, sT_26, sT_27, sT_28, sT_29, sT_30, sT_31, sT_32, sT_33, sT_34, sT_35, sT_36, sT_37, sT_38, sT_39, sT_40, sT_41, sT_42, sT_43, sT_44, sT_45, sT_46, sT_47, sT_48, sT_49, sT_50, sT_51, sT_52, sT_53, sT_54, sT_55, sT_56, sT_57, sT_58, sT_59, sT_60, sT_61, sT_62, sT_63, sT_64, sT_65, sT_66, sT_67, sT_68, sT_69, sT_70, sT_71, sT_72, sT_73, sT_74, sT_75, sT_76, sT_77, sT_78, sT_79, sT_80, sN_1, sN_2, sN_19, sN_21, sN_23, sN_24, sN_26, sN_29, sN_31, sN_33, sN_35, sN_36, sN_37, sN_39, sN_40, sN_42, sN_44, sN_45, sN_46, sN_48, sN_49, sN_50, sN_51, sN_52, sN_53, sN_54, sN_55, sN_56, sN_57, sN_58, sN_59, sN_60, sN_61, sN_62, sN_63, sN_64, sN_65, sN_66, sN_67, sN_68, sN_69, sN_70, sN_71, sN_72, sN_73, sN_74, sN_75, sN_76, sN_77, sN_78, sN_79, sN_80, sR_0_34, sR_0_38, sR_1_34, sR_1_38, sR_64_20, sR_64_22, sR_128_25, sR_128_28, sR_194_17, sR_195_17, sR_196_17, sR_197_17, sR_258_30, sR_258_32, sR_258_41, sR_384_43, sR_448_18, sR_512_27, sR_513_27, sR_514_27, sR_515_27, sR_516_27, sR_576_16, sR_577_16, sR_578_16, sR_579_16, sR_580_16, sR_581_16, sR_582_16, sR_583_16, sR_584_16, sR_641_47, sR_643_47, sR_645_47, sR_646_47, sR_647_47, sR_648_47, sR_649_47, sR_650_47, sR_651_47, sR_652_47, sR_653_47, sR_654_47, sR_655_47, sR_656_47, sR_657_47, sR_658_47, sR_659_47, sR_661_47, sR_662_47, sR_663_47, sR_664_47, sR_665_47, sR_669_47, sR_670_47, sR_671_47, sR_672_47, sR_673_47, sR_674_47, sR_676_47, sR_677_47, sR_679_47, sR_680_47, sR_681_47, SH_I, SH_A, SH_G, SH_C, hS, hS1, e1, ra, tl, g, Option.getD_some, ne_eq, reduceCtorEq, not_false_eq_true, not_true_eq_false, Option.bind_some, Option.toList_none, Option.toList_some, List.nil_append, List.cons_append, List.append_nil, ↓reduceIte, and_self, true_and, and_true, false_and, and_false, or_true, true_or, or_false, false_or, Nat.reduceEqDiff, Nat.reduceAdd, Int32.reduceMul, Int32.reduceAdd, Int32.reduceSub, Int32.reduceToNatClampNeg, Int32.reduceOfNat, Int32.reduceLT, Int32.reduceLE, va_rf]
    · rw [(f1.2 q nq).1]; exact hW.2.2.2.2.2.1
  · rw [if_neg h]
    have g : ¬ nI len ≤ nI (sk len b 0) := nI_ge (by omega) (by omega)
    have co := c26 (d := d) (m := 0) (W := W) (len := len) (b := b) hqa hq ha (Or.inl rfl) (Nat.le_refl 24) 25 0 σ1 _ rfl (by decide) hS1 hQ1 hT1 r1 p2 (fun _ => hW.frame f1 nq) (by decide)
    rw [sOrds_f _ _ _ _ _ _ (fun _ => 0)] at co
    rw [show nI 0 = (0 : Int32) from rfl, ← k26_0] at co
    cases hg : sOrds len b 0 W 24 25 0 (sk len b 0, [], [], fun _ => 0) with
    | none =>
      rw [hg] at co
      obtain ⟨σ2, e2, f2, f3, f4⟩ := co
      refine ⟨σ2, ?_, (f1.mono (fun x hx => by simp [hx])).trans f2, fun g hg => by rw [f4 g hg, (f1.2 q nq).1], f3⟩
      simp (decide := true) only [k78_0, k78_6, k78_20, k78_25, k78_26, sT_1, sT_2, sT_3, sT_16, sT_17, sT_18, sT_19, sT_20, sT_21, sT_22, sT_23, sT_24, sT_25, sT_26, sT_27, sT_28, sT_29, sT_30, sT_31, sT_32, sT_33, sT_34, sT_35, sT_36, sT_37, sT_38, sT_39, sT_40, sT_41, sT_42, sT_43, sT_44, sT_45, sT_46, sT_47, sT_48, sT_49, sT_50, sT_51, sT_52, sT_53, sT_54, sT_55, sT_56, sT_57, sT_58, sT_59, sT_60, sT_61, sT_62, sT_63, sT_64, sT_65, sT_66, sT_67, sT_68, sT_69, sT_70, sT_71, sT_72, sT_73, sT_74, sT_75, sT_76, sT_77, sT_78, sT_79, sT_80, sN_1, sN_2, sN_19, sN_21, sN_23, sN_24, sN_26, sN_29, sN_31, sN_33, sN_35, sN_36, sN_37, sN_39, sN_40, sN_42, sN_44, sN_45, sN_46, sN_48, sN_49, sN_50, sN_51, sN_52, sN_53, sN_54, sN_55, sN_56, sN_57, sN_58, sN_59, sN_60, sN_61, sN_62, sN_63, sN_64, sN_65, sN_66, sN_67, sN_68, sN_69, sN_70, sN_71, sN_72, sN_73, sN_74, sN_75, sN_76, sN_77, sN_78, sN_79, sN_80, sR_0_34, sR_0_38, sR_1_34, sR_1_38, sR_64_20, sR_64_22, sR_128_25, sR_128_28, sR_194_17, sR_195_17, sR_196_17, sR_197_17, sR_258_30, sR_258_32, sR_258_41, sR_384_43, sR_448_18, sR_512_27, sR_513_27, sR_514_27, sR_515_27, sR_516_27, sR_576_16, sR_577_16, sR_578_16, sR_579_16, sR_580_16, sR_581_16, sR_582_16, sR_583_16, sR_584_16, sR_641_47, sR_643_47, sR_645_47, sR_646_47, sR_647_47, sR_648_47, sR_649_47, sR_650_47, sR_651_47, sR_652_47, sR_653_47, sR_654_47, sR_655_47, sR_656_47, sR_657_47, sR_658_47, sR_659_47, sR_661_47, sR_662_47, sR_663_47, sR_664_47, sR_665_47, sR_669_47, sR_670_47, sR_671_47, sR_672_47, sR_673_47, sR_674_47, sR_676_47, sR_677_47, sR_679_47, sR_680_47, sR_681_47, SH_I, SH_A, SH_G, SH_C, hS, hS1, e1, e2, ra, tl, g, Option.getD_some, ne_eq, reduceCtorEq, not_false_eq_true, not_true_eq_false, Option.bind_some, Option.toList_none, Option.toList_some, List.nil_append, List.cons_append, List.append_nil, ↓reduceIte, and_self, true_and, and_true, false_and, and_false, or_true, true_or, or_false, false_or, Nat.reduceEqDiff, Nat.reduceAdd, Int32.reduceMul, Int32.reduceAdd, Int32.reduceSub, Int32.reduceToNatClampNeg, Int32.reduceOfNat, Int32.reduceLT, Int32.reduceLE, va_rf]
    | some z =>
      obtain ⟨os, s2⟩ := z
      rw [hg] at co
      obtain ⟨σ2, e2, f2, f3, f4, f5, f6, f7⟩ := co
      refine ⟨σ2, ?_, (f1.mono (fun x hx => by simp [hx])).trans f2, fun g hg => by rw [f5 g hg, (f1.2 q nq).1], f3.2.2.2.2.2.2, ?_, ?_⟩
      · simp (decide := true) only [k78_0, k78_6, k78_20, k78_25, k78_26, sT_1, sT_2, sT_3, sT_16, sT_17, sT_18, sT_19, sT_20, sT_21, sT_22, sT_23, sT_24, sT_25, sT_26, sT_27, sT_28, sT_29, sT_30, sT_31, sT_32, sT_33, sT_34, sT_35, sT_36, sT_37, sT_38, sT_39, sT_40, sT_41, sT_42, sT_43, sT_44, sT_45, sT_46, sT_47, sT_48, sT_49, sT_50, sT_51, sT_52, sT_53, sT_54, sT_55, sT_56, sT_57, sT_58, sT_59, sT_60, sT_61, sT_62, sT_63, sT_64, sT_65, sT_66, sT_67, sT_68, sT_69, sT_70, sT_71, sT_72, sT_73, sT_74, sT_75, sT_76, sT_77, sT_78, sT_79, sT_80, sN_1, sN_2, sN_19, sN_21, sN_23, sN_24, sN_26, sN_29, sN_31, sN_33, sN_35, sN_36, sN_37, sN_39, sN_40, sN_42, sN_44, sN_45, sN_46, sN_48, sN_49, sN_50, sN_51, sN_52, sN_53, sN_54, sN_55, sN_56, sN_57, sN_58, sN_59, sN_60, sN_61, sN_62, sN_63, sN_64, sN_65, sN_66, sN_67, sN_68, sN_69, sN_70, sN_71, sN_72, sN_73, sN_74, sN_75, sN_76, sN_77, sN_78, sN_79, sN_80, sR_0_34, sR_0_38, sR_1_34, sR_1_38, sR_64_20, sR_64_22, sR_128_25, sR_128_28, sR_194_17, sR_195_17, sR_196_17, sR_197_17, sR_258_30, sR_258_32, sR_258_41, sR_384_43, sR_448_18, sR_512_27, sR_513_27, sR_514_27, sR_515_27, sR_516_27, sR_576_16, sR_577_16, sR_578_16, sR_579_16, sR_580_16, sR_581_16, sR_582_16, sR_583_16, sR_584_16, sR_641_47, sR_643_47, sR_645_47, sR_646_47, sR_647_47, sR_648_47, sR_649_47, sR_650_47, sR_651_47, sR_652_47, sR_653_47, sR_654_47, sR_655_47, sR_656_47, sR_657_47, sR_658_47, sR_659_47, sR_661_47, sR_662_47, sR_663_47, sR_664_47, sR_665_47, sR_669_47, sR_670_47, sR_671_47, sR_672_47, sR_673_47, sR_674_47, sR_676_47, sR_677_47, sR_679_47, sR_680_47, sR_681_47, SH_I, SH_A, SH_G, SH_C, hS, hS1, e1, e2, ra, tl, g, Option.getD_some, ne_eq, reduceCtorEq, not_false_eq_true, not_true_eq_false, Option.bind_some, Option.toList_none, Option.toList_some, List.nil_append, List.cons_append, List.append_nil, ↓reduceIte, and_self, true_and, and_true, false_and, and_false, or_true, true_or, or_false, false_or, Nat.reduceEqDiff, Nat.reduceAdd, Int32.reduceMul, Int32.reduceAdd, Int32.reduceSub, Int32.reduceToNatClampNeg, Int32.reduceOfNat, Int32.reduceLT, Int32.reduceLE, va_rf]
      · rw [f4, Nat.zero_add]
      · intro i j hi hj
        have := f7 i j hi hj
        rw [Nat.zero_add] at this
        exact this
theorem RC.frame {σ σ' : jS} {l : List Nat} {q a : Nat} {os : List (Nat → Int32)} (h : RC σ q a os) (hF : FR l σ σ') (hq : q ∉ l) (ha : a ∉ l) : RC σ' q a os := ⟨by rw [(hF.2 q hq).1]; exact h.1, fun i j hi hj => by rw [(hF.2 a ha).2]; exact h.2 i j hi hj⟩
/-- the cells of a rule: itself, its two rows with their fields -/
def RL (σ : jS) (q q1 a1 q2 a2 : Nat) : Prop := jT σ q = 6 ∧ jR σ 320 q = some q1 ∧ jR σ 321 q = some q2 ∧ [q, q1, a1, q2, a2].Nodup ∧ (∀ x, x ∈ [q, q1, a1, q2, a2] → x ∉ [1, 2, 16, 17, 18, 19, 20, 21, 22, 23, 24])
theorem c21 (hS : SH σ) (hQ : ST σ) (hT : TX σ len b) {q q1 a1 q2 a2 : Nat} (hL : RL σ q q1 a1 q2 a2) (hW1 : RW σ q1 a1 4 0) (hW2 : RW σ q2 a2 4 0) :
    ∃ σ', jx (d + 7) 21 0 [some (.ref 17), some (.ref q), some (.int (nI W))] [] σ = some (none, σ') ∧ FR (q :: q1 :: a1 :: q2 :: a2 :: rdl) σ σ' ∧ (∀ g, g ≠ 257 → jI σ' g q1 = jI σ g q1 ∧ jI σ' g q2 = jI σ g q2) ∧ (∀ g, g ≠ 324 → g ≠ 325 → jI σ' g q = jI σ g q) ∧
      (match sRule len b W with | some (o1, o2, rs, ms) => jI σ' 192 17 = 0 ∧ RC σ' q1 a1 o1 ∧ RC σ' q2 a2 o2 ∧ jI σ' 324 q = nI rs.length ∧ jI σ' 325 q = nI ms.length | none => ¬ jI σ' 192 17 = 0) := by
  obtain ⟨L1, L2, L3, L4, L5⟩ := hL
  simp only [List.nodup_cons, List.mem_cons, List.not_mem_nil, or_false, not_or, List.nodup_nil, not_false_eq_true, and_true] at L4
  obtain ⟨⟨n1, n2, n3, n4⟩, ⟨n5, n6, n7⟩, ⟨n8, n9⟩, n10⟩ := L4
  have Lq := L5 q (by simp)
  have Lq1 := L5 q1 (by simp)
  have La1 := L5 a1 (by simp)
  have Lq2 := L5 q2 (by simp)
  have La2 := L5 a2 (by simp)
  have sb1 : ∀ y, y ∈ rdl → y ∈ [1, 2, 16, 17, 18, 19, 20, 21, 22, 23, 24] := by decide
  have sb2 : ∀ y, y ∈ [1, 2, 17, 18, 19, 20, 21, 22, 23, 24] → y ∈ [1, 2, 16, 17, 18, 19, 20, 21, 22, 23, 24] := by decide
  obtain ⟨σ1, e1, f1, r1⟩ := c22 (d := d + 4) (W := W) hS hQ hT 1
  obtain ⟨hS1, hQ1, hT1⟩ := rdS (l := []) f1 hS hQ hT
  rw [show nI 1 = (1 : Int32) from rfl] at e1
  have hl : len ≤ 400 := hT.2.1
  have p2 := (sk_le (b := b) (Nat.zero_le len)).2
  have rd_q : q ∉ rdl ∧ q1 ∉ rdl ∧ a1 ∉ rdl ∧ q2 ∉ rdl ∧ a2 ∉ rdl := ⟨fun z => Lq (sb1 _ z), fun z => Lq1 (sb1 _ z), fun z => La1 (sb1 _ z), fun z => Lq2 (sb1 _ z), fun z => La2 (sb1 _ z)⟩
  have m17 : 17 ∉ [q] := fun z => Lq (by rw [← List.mem_singleton.mp z]; decide)
  have mq1 : q1 ∉ [q] := fun z => n1 (List.mem_singleton.mp z).symm
  have ma1 : a1 ∉ [q] := fun z => n2 (List.mem_singleton.mp z).symm
  have mq2 : q2 ∉ [q] := fun z => n3 (List.mem_singleton.mp z).symm
  have ma2 : a2 ∉ [q] := fun z => n4 (List.mem_singleton.mp z).symm
  have e_q1 : q1 ∉ [1, 2, 17, 18, 19, 20, 21, 22, 23, 24] := fun z => Lq1 (sb2 _ z)
  have e_a1 : a1 ∉ [1, 2, 17, 18, 19, 20, 21, 22, 23, 24] := fun z => La1 (sb2 _ z)
  have e_q2 : q2 ∉ [1, 2, 17, 18, 19, 20, 21, 22, 23, 24] := fun z => Lq2 (sb2 _ z)
  have e_a2 : a2 ∉ [1, 2, 17, 18, 19, 20, 21, 22, 23, 24] := fun z => La2 (sb2 _ z)
  have k0 : ∀ x, x ∈ [1, 2, 18, 19] → x ∉ q1 :: a1 :: rdl := by
    intro x hx z
    rcases List.mem_cons.mp z with h | h
    · subst h
      exact e_q1 ((by decide : ∀ y, y ∈ [1, 2, 18, 19] → y ∈ [1, 2, 17, 18, 19, 20, 21, 22, 23, 24]) _ hx)
    · rcases List.mem_cons.mp h with h | h
      · subst h
        exact e_a1 ((by decide : ∀ y, y ∈ [1, 2, 18, 19] → y ∈ [1, 2, 17, 18, 19, 20, 21, 22, 23, 24]) _ hx)
      · exact (by decide : ∀ y, y ∈ [1, 2, 18, 19] → y ∉ rdl) _ hx h
  have k18 : 18 ∉ q1 :: a1 :: rdl ∧ 19 ∉ q1 :: a1 :: rdl ∧ 1 ∉ q1 :: a1 :: rdl ∧ 2 ∉ q1 :: a1 :: rdl := ⟨k0 18 (by decide), k0 19 (by decide), k0 1 (by decide), k0 2 (by decide)⟩
  have mem1 : ∀ x, x ∈ q1 :: a1 :: rdl → x ∈ q1 :: a1 :: q2 :: a2 :: rdl := by
    intro x hx
    simp only [List.mem_cons] at hx ⊢
    rcases hx with h | h | h
    · exact Or.inl h
    · exact Or.inr (Or.inl h)
    · exact Or.inr (Or.inr (Or.inr (Or.inr h)))
  have mem0 : ∀ x, x ∈ rdl → x ∈ q1 :: a1 :: q2 :: a2 :: rdl := fun x hx => mem1 x (List.mem_cons_of_mem _ (List.mem_cons_of_mem _ hx))
  have mem2 : ∀ x, x ∈ q2 :: a2 :: rdl → x ∈ q1 :: a1 :: q2 :: a2 :: rdl := fun x hx => List.mem_cons_of_mem _ (List.mem_cons_of_mem _ hx)
  clear Lq Lq1 La1 Lq2 La2 L5
  have co := c26 (d := d) (m := 1) (W := W) (len := len) (b := b) n5 e_q1 e_a1 (Or.inr (Or.inl rfl)) (show 4 ≤ 24 by decide) 5 0 σ1 _ rfl (by decide) hS1 hQ1 hT1 r1 p2 (fun _ => hW1.frame f1 rd_q.2.1) (by decide)
  rw [sOrds_f _ _ _ _ _ _ (fun _ => 0)] at co
  rw [show nI 0 = (0 : Int32) from rfl, ← k26_0] at co
  have T1 : jT σ1 q = 6 := by rw [f1.1.1]; exact L1
  have R1 : jR σ1 320 q = some q1 := by rw [f1.1.2.2.1]; exact L2
  have sub : ∀ {σ σ' : jS}, FR rdl σ σ' → FR (q :: q1 :: a1 :: q2 :: a2 :: rdl) σ σ' := fun h => h.mono (fun x hx => by simp [hx])
  have fin : ∀ (σ5 : jS), FR (q1 :: a1 :: q2 :: a2 :: rdl) σ σ5 → SH σ5 → jx (d + 7) 21 49 [some (.ref 17), some (.ref q), some (.int (nI W))] [] σ5 = some (none, jsI (jsI σ5 324 q (jI σ5 65 20)) 325 q (jI σ5 65 22)) := by
    intro σ5 F5 hS5
    have T5 : jT σ5 q = 6 := by rw [F5.1.1]; exact L1
    simp (decide := true) only [k21_49, sT_1, sT_2, sT_3, sT_16, sT_17, sT_18, sT_19, sT_20, sT_21, sT_22, sT_23, sT_24, sT_25, sT_26, sT_27, sT_28, sT_29, sT_30, sT_31, sT_32, sT_33, sT_34, sT_35, sT_36, sT_37, sT_38, sT_39, sT_40, sT_41, sT_42, sT_43, sT_44, sT_45, sT_46, sT_47, sT_48, sT_49, sT_50, sT_51, sT_52, sT_53, sT_54, sT_55, sT_56, sT_57, sT_58, sT_59, sT_60, sT_61, sT_62, sT_63, sT_64, sT_65, sT_66, sT_67, sT_68, sT_69, sT_70, sT_71, sT_72, sT_73, sT_74, sT_75, sT_76, sT_77, sT_78, sT_79, sT_80, sN_1, sN_2, sN_19, sN_21, sN_23, sN_24, sN_26, sN_29, sN_31, sN_33, sN_35, sN_36, sN_37, sN_39, sN_40, sN_42, sN_44, sN_45, sN_46, sN_48, sN_49, sN_50, sN_51, sN_52, sN_53, sN_54, sN_55, sN_56, sN_57, sN_58, sN_59, sN_60, sN_61, sN_62, sN_63, sN_64, sN_65, sN_66, sN_67, sN_68, sN_69, sN_70, sN_71, sN_72, sN_73, sN_74, sN_75, sN_76, sN_77, sN_78, sN_79, sN_80, sR_0_34, sR_0_38, sR_1_34, sR_1_38, sR_64_20, sR_64_22, sR_128_25, sR_128_28, sR_194_17, sR_195_17, sR_196_17, sR_197_17, sR_258_30, sR_258_32, sR_258_41, sR_384_43, sR_448_18, sR_512_27, sR_513_27, sR_514_27, sR_515_27, sR_516_27, sR_576_16, sR_577_16, sR_578_16, sR_579_16, sR_580_16, sR_581_16, sR_582_16, sR_583_16, sR_584_16, sR_641_47, sR_643_47, sR_645_47, sR_646_47, sR_647_47, sR_648_47, sR_649_47, sR_650_47, sR_651_47, sR_652_47, sR_653_47, sR_654_47, sR_655_47, sR_656_47, sR_657_47, sR_658_47, sR_659_47, sR_661_47, sR_662_47, sR_663_47, sR_664_47, sR_665_47, sR_669_47, sR_670_47, sR_671_47, sR_672_47, sR_673_47, sR_674_47, sR_676_47, sR_677_47, sR_679_47, sR_680_47, sR_681_47, SH_I, SH_A, SH_G, SH_C, hS5, T5, Option.getD_some, ne_eq, reduceCtorEq, not_false_eq_true, not_true_eq_false, Option.bind_some, Option.toList_none, Option.toList_some, List.nil_append, List.cons_append, List.append_nil, ↓reduceIte, and_self, true_and, and_true, false_and, and_false, or_true, true_or, or_false, false_or, Nat.reduceEqDiff, Nat.reduceAdd, Int32.reduceMul, Int32.reduceAdd, Int32.reduceSub, Int32.reduceToNatClampNeg, Int32.reduceOfNat, Int32.reduceLT, Int32.reduceLE, va_rf]
  have nq5 : q ∉ q1 :: a1 :: q2 :: a2 :: rdl := by
    have := rd_q.1
    simp only [List.mem_cons, not_or]
    exact ⟨n1, n2, n3, n4, this⟩
  have out : ∀ (σ5 : jS), FR (q1 :: a1 :: q2 :: a2 :: rdl) σ σ5 → (FR (q :: q1 :: a1 :: q2 :: a2 :: rdl) σ (jsI (jsI σ5 324 q (jI σ5 65 20)) 325 q (jI σ5 65 22)) ∧ (∀ g, g ≠ 324 → g ≠ 325 → jI (jsI (jsI σ5 324 q (jI σ5 65 20)) 325 q (jI σ5 65 22)) g q = jI σ g q)) ∧ (FR [q] σ5 (jsI (jsI σ5 324 q (jI σ5 65 20)) 325 q (jI σ5 65 22)) ∧ jI (jsI (jsI σ5 324 q (jI σ5 65 20)) 325 q (jI σ5 65 22)) 324 q = jI σ5 65 20 ∧ jI (jsI (jsI σ5 324 q (jI σ5 65 20)) 325 q (jI σ5 65 22)) 325 q = jI σ5 65 22) := by
    intro σ5 F5
    refine ⟨⟨((F5.mono (fun x hx => List.mem_cons_of_mem _ hx)).I (by simp)).I (by simp), fun g h1 h2 => ?_⟩, ((FR.refl _ _).I (by simp)).I (by simp), ?_, ?_⟩
    · rw [zI_I, if_neg (fun z => h2 z.1), zI_I, if_neg (fun z => h1 z.1)]; exact (F5.2 q nq5).1 g
    · rw [zI_I, if_neg (fun z => absurd z.1 (by decide)), zI_I, if_pos ⟨rfl, rfl⟩]
    · rw [zI_I, if_pos ⟨rfl, rfl⟩]
  unfold sRule
  cases hg : sOrds len b 1 W 4 5 0 (sk len b 0, [], [], fun _ => 0) with
  | none =>
    rw [hg] at co
    obtain ⟨σ2, e2, f2, f3, f4⟩ := co
    have hS2 := f2.sh hS1
    have F5 : FR (q1 :: a1 :: q2 :: a2 :: rdl) σ σ2 := (f1.mono mem0).trans (f2.mono mem1)
    obtain ⟨⟨o1, o2⟩, o3, o4, o5⟩ := out σ2 F5
    refine ⟨_, ?_, o1, fun g hg => ⟨?_, ?_⟩, o2, ?_⟩
    · have st : jx (d + 7) 21 0 [some (.ref 17), some (.ref q), some (.int (nI W))] [] σ = jx (d + 7) 21 49 [some (.ref 17), some (.ref q), some (.int (nI W))] [] σ2 := by
        simp (decide := true) only [k21_0, k21_6, k21_14, sT_1, sT_2, sT_3, sT_16, sT_17, sT_18, sT_19, sT_20, sT_21, sT_22, sT_23, sT_24, sT_25, sT_26, sT_27, sT_28, sT_29, sT_30, sT_31, sT_32, sT_33, sT_34, sT_35, sT_36, sT_37, sT_38, sT_39, sT_40, sT_41, sT_42, sT_43, sT_44, sT_45, sT_46, sT_47, sT_48, sT_49, sT_50, sT_51, sT_52, sT_53, sT_54, sT_55, sT_56, sT_57, sT_58, sT_59, sT_60, sT_61, sT_62, sT_63, sT_64, sT_65, sT_66, sT_67, sT_68, sT_69, sT_70, sT_71, sT_72, sT_73, sT_74, sT_75, sT_76, sT_77, sT_78, sT_79, sT_80, sN_1, sN_2, sN_19, sN_21, sN_23, sN_24, sN_26, sN_29, sN_31, sN_33, sN_35, sN_36, sN_37, sN_39, sN_40, sN_42, sN_44, sN_45, sN_46, sN_48, sN_49, sN_50, sN_51, sN_52, sN_53, sN_54, sN_55, sN_56, sN_57, sN_58, sN_59, sN_60, sN_61, sN_62, sN_63, sN_64, sN_65, sN_66, sN_67, sN_68, sN_69, sN_70, sN_71, sN_72, sN_73, sN_74, sN_75, sN_76, sN_77, sN_78, sN_79, sN_80, sR_0_34, sR_0_38, sR_1_34, sR_1_38, sR_64_20, sR_64_22, sR_128_25, sR_128_28, sR_194_17, sR_195_17, sR_196_17, sR_197_17, sR_258_30, sR_258_32, sR_258_41, sR_384_43, sR_448_18, sR_512_27, sR_513_27, sR_514_27, sR_515_27, sR_516_27, sR_576_16, sR_577_16, sR_578_16, sR_579_16, sR_580_16, sR_581_16, sR_582_16, sR_583_16, sR_584_16, sR_641_47, sR_643_47, sR_645_47, sR_646_47, sR_647_47, sR_648_47, sR_649_47, sR_650_47, sR_651_47, sR_652_47, sR_653_47, sR_654_47, sR_655_47, sR_656_47, sR_657_47, sR_658_47, sR_659_47, sR_661_47, sR_662_47, sR_663_47, sR_664_47, sR_665_47, sR_669_47, sR_670_47, sR_671_47, sR_672_47, sR_673_47, sR_674_47, sR_676_47, sR_677_47, sR_679_47, sR_680_47, sR_681_47, SH_I, SH_A, SH_G, SH_C, hS, hS1, T1, R1, e1, e2, Option.getD_some, ne_eq, reduceCtorEq, not_false_eq_true, not_true_eq_false, Option.bind_some, Option.toList_none, Option.toList_some, List.nil_append, List.cons_append, List.append_nil, ↓reduceIte, and_self, true_and, and_true, false_and, and_false, or_true, true_or, or_false, false_or, Nat.reduceEqDiff, Nat.reduceAdd, Int32.reduceMul, Int32.reduceAdd, Int32.reduceSub, Int32.reduceToNatClampNeg, Int32.reduceOfNat, Int32.reduceLT, Int32.reduceLE, va_rf]
      rw [st]; exact fin σ2 F5 hS2
    · rw [(o3.2 q1 mq1).1, f4 g hg, (f1.2 q1 rd_q.2.1).1]
    · rw [(o3.2 q2 mq2).1, (f2.2 q2 (by simp only [List.mem_cons, not_or]; exact ⟨fun z => n6 z.symm, fun z => n8 z.symm, rd_q.2.2.2.1⟩)).1, (f1.2 q2 rd_q.2.2.2.1).1]
    · rw [(o3.2 17 m17).1]; exact f3
  | some z =>
    obtain ⟨os1, s2⟩ := z
    rw [hg] at co
    obtain ⟨σ2, e2, f2, f3, f4, f5, f6, f7⟩ := co
    have hS2 := f2.sh hS1
    have sOK : s2.1 ≤ len := sOrds_le _ _ _ _ p2 hg
    have hT2 : TX σ2 len b := f2.tx k18.1 k18.2.1 hT1
    have hQ2 : ST σ2 := f2.st k18.2.2.1 k18.2.2.2 hQ1
    -- the second side is read
    have R3 : RD 2 W s2 (jsI σ2 199 17 2) := by
      obtain ⟨h1, h2, h3, h4, h5, h6, h7⟩ := f3
      refine ⟨by rw [zI_I, if_neg (by decide)]; exact h1, by rw [zI_I, if_pos ⟨rfl, rfl⟩]; rfl, by rw [zI_I, if_neg (by decide)]; exact h3, LT_I (by decide) h4, LT_I (by decide) h5, h6, by rw [zI_I, if_neg (by decide)]; exact h7⟩
    have F3 : FR rdl σ2 (jsI σ2 199 17 2) := (FR.refl _ _).I (by decide)
    obtain ⟨hS3, hQ3, hT3⟩ := rdS (l := []) F3 hS2 hQ2 hT2
    have cs := c24 (d := d + 5) hS3 hT3 sOK R3.1
    have R4 := R3.at (sk len b s2.1)
    have F4 : FR rdl σ2 (jsI (jsI σ2 199 17 2) 198 17 (nI (sk len b s2.1))) := F3.I (by decide)
    obtain ⟨hS4, hQ4, hT4⟩ := rdS (l := []) F4 hS2 hQ2 hT2
    generalize jsI (jsI σ2 199 17 2) 198 17 (nI (sk len b s2.1)) = σ4 at cs R4 F4 hS4 hQ4 hT4
    have ra4 : jI σ4 198 17 = nI (sk len b s2.1) := R4.1
    have tl4 := hT4.1
    have p4 := (sk_le (b := b) sOK).2
    have FB : FR (q1 :: a1 :: q2 :: a2 :: rdl) σ σ4 := ((f1.mono mem0).trans (f2.mono mem1)).trans (F4.mono mem0)
    have pre : jx (d + 7) 21 0 [some (.ref 17), some (.ref q), some (.int (nI W))] [] σ = jx (d + 7) 21 26 [some (.ref 17), some (.ref q), some (.int (nI W))] [] σ4 := by
      simp (decide := true) only [k21_0, k21_6, k21_14, k21_17, sT_1, sT_2, sT_3, sT_16, sT_17, sT_18, sT_19, sT_20, sT_21, sT_22, sT_23, sT_24, sT_25, sT_26, sT_27, sT_28, sT_29, sT_30, sT_31, sT_32, sT_33, sT_34, sT_35, sT_36, sT_37, sT_38, sT_39, sT_40, sT_41, sT_42, sT_43, sT_44, sT_45, sT_46, sT_47, sT_48, sT_49, sT_50, sT_51, sT_52, sT_53, sT_54, sT_55, sT_56, sT_57, sT_58, sT_59, sT_60, sT_61, sT_62, sT_63, sT_64, sT_65, sT_66, sT_67, sT_68, sT_69, sT_70, sT_71, sT_72, sT_73, sT_74, sT_75, sT_76, sT_77, sT_78, sT_79, sT_80, sN_1, sN_2, sN_19, sN_21, sN_23, sN_24, sN_26, sN_29, sN_31, sN_33, sN_35, sN_36, sN_37, sN_39, sN_40, sN_42, sN_44, sN_45, sN_46, sN_48, sN_49, sN_50, sN_51, sN_52, sN_53, sN_54, sN_55, sN_56, sN_57, sN_58, sN_59, sN_60, sN_61, sN_62, sN_63, sN_64, sN_65, sN_66, sN_67, sN_68, sN_69, sN_70, sN_71, sN_72, sN_73, sN_74, sN_75, sN_76, sN_77, sN_78, sN_79, sN_80, sR_0_34, sR_0_38, sR_1_34, sR_1_38, sR_64_20, sR_64_22, sR_128_25, sR_128_28, sR_194_17, sR_195_17, sR_196_17, sR_197_17, sR_258_30, sR_258_32, sR_258_41, sR_384_43, sR_448_18, sR_512_27, sR_513_27, sR_514_27, sR_515_27, sR_516_27, sR_576_16, sR_577_16, sR_578_16, sR_579_16, sR_580_16, sR_581_16, sR_582_16, sR_583_16, sR_584_16, sR_641_47, sR_643_47, sR_645_47, sR_646_47, sR_647_47, sR_648_47, sR_649_47, sR_650_47, sR_651_47, sR_652_47, sR_653_47, sR_654_47, sR_655_47, sR_656_47, sR_657_47, sR_658_47, sR_659_47, sR_661_47, sR_662_47, sR_663_47, sR_664_47, sR_665_47, sR_669_47, sR_670_47, sR_671_47, sR_672_47, sR_673_47, sR_674_47, sR_676_47, sR_677_47, sR_679_47, sR_680_47, sR_681_47, SH_I, SH_A, SH_G, SH_C, hS, hS1, hS2, T1, R1, e1, e2, cs, Option.getD_some, ne_eq, reduceCtorEq, not_false_eq_true, not_true_eq_false, Option.bind_some, Option.toList_none, Option.toList_some, List.nil_append, List.cons_append, List.append_nil, ↓reduceIte, and_self, true_and, and_true, false_and, and_false, or_true, true_or, or_false, false_or, Nat.reduceEqDiff, Nat.reduceAdd, Int32.reduceMul, Int32.reduceAdd, Int32.reduceSub, Int32.reduceToNatClampNeg, Int32.reduceOfNat, Int32.reduceLT, Int32.reduceLE, va_rf]
    have C4 : RC σ4 q1 a1 os1 := by
      refine ⟨by rw [(F4.2 q1 rd_q.2.1).1, f4, Nat.zero_add], fun i j hi hj => ?_⟩
      have := f7 i j hi hj
      rw [Nat.zero_add] at this
      rw [(F4.2 a1 rd_q.2.2.1).2]; exact this
    have I4 : ∀ g, g ≠ 257 → jI σ4 g q1 = jI σ g q1 := fun g hg => by rw [(F4.2 q1 rd_q.2.1).1, f5 g hg, (f1.2 q1 rd_q.2.1).1]
    have q2n : q2 ∉ q1 :: a1 :: rdl := by simp only [List.mem_cons, not_or]; exact ⟨fun z => n6 z.symm, fun z => n8 z.symm, rd_q.2.2.2.1⟩
    have I5 : ∀ g, jI σ4 g q2 = jI σ g q2 := fun g => by rw [(F4.2 q2 rd_q.2.2.2.1).1, (f2.2 q2 q2n).1, (f1.2 q2 rd_q.2.2.2.1).1]
    have W4 : RW σ4 q2 a2 4 0 := by
      obtain ⟨w1, w2, w3, w4, w5, w6, w7⟩ := hW2
      exact ⟨by rw [FB.1.1]; exact w1, by rw [FB.1.2.2.1]; exact w2, by rw [FB.1.1]; exact w3, by rw [FB.1.2.1]; exact w4, by rw [I5]; exact w5, by rw [I5]; exact w6, w7⟩
    rw [Option.bind_some]
    by_cases h : len ≤ sk len b s2.1
    · rw [if_pos h]
      have g : nI len ≤ nI (sk len b s2.1) := nI_le h (by omega)
      obtain ⟨⟨o1, o2⟩, o3, o4, o5⟩ := out σ4 FB
      refine ⟨_, ?_, o1, fun g hg => ⟨?_, ?_⟩, o2, ?_, ?_, ?_, ?_, ?_⟩
      · rw [pre]
        have st : jx (d + 7) 21 26 [some (.ref 17), some (.ref q), some (.int (nI W))] [] σ4 = jx (d + 7) 21 49 [some (.ref 17), some (.ref q), some (.int (nI W))] [] σ4 := by
          simp (decide := true) only [k21_26, sT_1, sT_2, sT_3, sT_16, sT_17, sT_18, sT_19, sT_20, sT_21, sT_22, sT_23, sT_24, sT_25, sT_26, sT_27, sT_28, sT_29, sT_30, sT_31, sT_32, sT_33, sT_34, sT_35, sT_36, sT_37, sT_38, sT_39, sT_40, sT_41, sT_42, sT_43, sT_44, sT_45, sT_46, sT_47, sT_48, sT_49, sT_50, sT_51, sT_52, sT_53, sT_54, sT_55, sT_56, sT_57, sT_58, sT_59, sT_60, sT_61, sT_62, sT_63, sT_64, sT_65, sT_66, sT_67, sT_68, sT_69, sT_70, sT_71, sT_72, sT_73, sT_74, sT_75, sT_76, sT_77, sT_78, sT_79, sT_80, sN_1, sN_2, sN_19, sN_21, sN_23, sN_24, sN_26, sN_29, sN_31, sN_33, sN_35, sN_36, sN_37, sN_39, sN_40, sN_42, sN_44, sN_45, sN_46, sN_48, sN_49, sN_50, sN_51, sN_52, sN_53, sN_54, sN_55, sN_56, sN_57, sN_58, sN_59, sN_60, sN_61, sN_62, sN_63, sN_64, sN_65, sN_66, sN_67, sN_68, sN_69, sN_70, sN_71, sN_72, sN_73, sN_74, sN_75, sN_76, sN_77, sN_78, sN_79, sN_80, sR_0_34, sR_0_38, sR_1_34, sR_1_38, sR_64_20, sR_64_22, sR_128_25, sR_128_28, sR_194_17, sR_195_17, sR_196_17, sR_197_17, sR_258_30, sR_258_32, sR_258_41, sR_384_43, sR_448_18, sR_512_27, sR_513_27, sR_514_27, sR_515_27, sR_516_27, sR_576_16, sR_577_16, sR_578_16, sR_579_16, sR_580_16, sR_581_16, sR_582_16, sR_583_16, sR_584_16, sR_641_47, sR_643_47, sR_645_47, sR_646_47, sR_647_47, sR_648_47, sR_649_47, sR_650_47, sR_651_47, sR_652_47, sR_653_47, sR_654_47, sR_655_47, sR_656_47, sR_657_47, sR_658_47, sR_659_47, sR_661_47, sR_662_47, sR_663_47, sR_664_47, sR_665_47, sR_669_47, sR_670_47, sR_671_47, sR_672_47, sR_673_47, sR_674_47, sR_676_47, sR_677_47, sR_679_47, sR_680_47, sR_681_47, SH_I, SH_A, SH_G, SH_C, hS4, ra4, tl4, g, Option.getD_some, ne_eq, reduceCtorEq, not_false_eq_true, not_true_eq_false, Option.bind_some, Option.toList_none, Option.toList_some, List.nil_append, List.cons_append, List.append_nil, ↓reduceIte, and_self, true_and, and_true, false_and, and_false, or_true, true_or, or_false, false_or, Nat.reduceEqDiff, Nat.reduceAdd, Int32.reduceMul, Int32.reduceAdd, Int32.reduceSub, Int32.reduceToNatClampNeg, Int32.reduceOfNat, Int32.reduceLT, Int32.reduceLE, va_rf]
        rw [st]; exact fin σ4 FB hS4
      · rw [(o3.2 q1 mq1).1]; exact I4 g hg
      · rw [(o3.2 q2 mq2).1]; exact I5 g
      · rw [(o3.2 17 m17).1]; exact R4.2.2.2.2.2.2
      · exact C4.frame o3 mq1 ma1
      · exact ⟨by rw [(o3.2 q2 mq2).1]; exact W4.2.2.2.2.2.1, fun i j hi => absurd hi (Nat.not_lt_zero i)⟩
      · rw [o4]; exact R4.2.2.2.1.1
      · rw [o5]; exact R4.2.2.2.2.1.1
    · rw [if_neg h]
      have g : ¬ nI len ≤ nI (sk len b s2.1) := nI_ge (by omega) (by omega)
      have co2 := c26 (d := d) (m := 2) (W := W) (len := len) (b := b) n10 e_q2 e_a2 (Or.inr (Or.inr rfl)) (show 4 ≤ 24 by decide) 5 0 σ4 _ rfl (by decide) hS4 hQ4 hT4 R4 p4 (fun _ => W4) (by decide)
      rw [show (sk len b s2.1, s2.2) = (sk len b s2.1, s2.2.1, s2.2.2.1, s2.2.2.2) from rfl, sOrds_f _ _ _ _ _ _ (fun _ => 0)] at co2
      rw [show nI 0 = (0 : Int32) from rfl, ← k26_0] at co2
      have T4 : jT σ4 q = 6 := by rw [FB.1.1]; exact L1
      have RR4 : jR σ4 321 q = some q2 := by rw [FB.1.2.2.1]; exact L3
      have q1n : q1 ∉ q2 :: a2 :: rdl := by simp only [List.mem_cons, not_or]; exact ⟨n6, n7, rd_q.2.1⟩
      have a1n : a1 ∉ q2 :: a2 :: rdl := by simp only [List.mem_cons, not_or]; exact ⟨n8, n9, rd_q.2.2.1⟩
      cases hg2 : sOrds len b 2 W 4 5 0 (sk len b s2.1, s2.2.1, s2.2.2.1, fun _ => 0) with
      | none =>
        rw [hg2] at co2
        obtain ⟨σ5, e5, g5, g6, g7⟩ := co2
        have hS5 := g5.sh hS4
        have F5 := FB.trans (g5.mono mem2)
        obtain ⟨⟨o1, o2⟩, o3, o4, o5⟩ := out σ5 F5
        have T5 : jT σ5 q = 6 := by rw [F5.1.1]; exact L1
        refine ⟨_, ?_, o1, fun g hg => ⟨?_, ?_⟩, o2, ?_⟩
        · rw [pre]
          simp (decide := true) only [k21_26, k21_40, k21_48, sT_1, sT_2, sT_3, sT_16, sT_17, sT_18, sT_19, sT_20, sT_21, sT_22, sT_23, sT_24, sT_25, sT_26, sT_27, sT_28, sT_29, sT_30, sT_31, sT_32, sT_33, sT_34, sT_35, sT_36, sT_37, sT_38, sT_39, sT_40, sT_41, sT_42, sT_43, sT_44, sT_45, sT_46, sT_47, sT_48, sT_49, sT_50, sT_51, sT_52, sT_53, sT_54, sT_55, sT_56, sT_57, sT_58, sT_59, sT_60, sT_61, sT_62, sT_63, sT_64, sT_65, sT_66, sT_67, sT_68, sT_69, sT_70, sT_71, sT_72, sT_73, sT_74, sT_75, sT_76, sT_77, sT_78, sT_79, sT_80, sN_1, sN_2, sN_19, sN_21, sN_23, sN_24, sN_26, sN_29, sN_31, sN_33, sN_35, sN_36, sN_37, sN_39, sN_40, sN_42, sN_44, sN_45, sN_46, sN_48, sN_49, sN_50, sN_51, sN_52, sN_53, sN_54, sN_55, sN_56, sN_57, sN_58, sN_59, sN_60, sN_61, sN_62, sN_63, sN_64, sN_65, sN_66, sN_67, sN_68, sN_69, sN_70, sN_71, sN_72, sN_73, sN_74, sN_75, sN_76, sN_77, sN_78, sN_79, sN_80, sR_0_34, sR_0_38, sR_1_34, sR_1_38, sR_64_20, sR_64_22, sR_128_25, sR_128_28, sR_194_17, sR_195_17, sR_196_17, sR_197_17, sR_258_30, sR_258_32, sR_258_41, sR_384_43, sR_448_18, sR_512_27, sR_513_27, sR_514_27, sR_515_27, sR_516_27, sR_576_16, sR_577_16, sR_578_16, sR_579_16, sR_580_16, sR_581_16, sR_582_16, sR_583_16, sR_584_16, sR_641_47, sR_643_47, sR_645_47, sR_646_47, sR_647_47, sR_648_47, sR_649_47, sR_650_47, sR_651_47, sR_652_47, sR_653_47, sR_654_47, sR_655_47, sR_656_47, sR_657_47, sR_658_47, sR_659_47, sR_661_47, sR_662_47, sR_663_47, sR_664_47, sR_665_47, sR_669_47, sR_670_47, sR_671_47, sR_672_47, sR_673_47, sR_674_47, sR_676_47, sR_677_47, sR_679_47, sR_680_47, sR_681_47, SH_I, SH_A, SH_G, SH_C, hS4, hS5, ra4, tl4, g, T4, T5, RR4, e5, Option.getD_some, ne_eq, reduceCtorEq, not_false_eq_true, not_true_eq_false, Option.bind_some, Option.toList_none, Option.toList_some, List.nil_append, List.cons_append, List.append_nil, ↓reduceIte, and_self, true_and, and_true, false_and, and_false, or_true, true_or, or_false, false_or, Nat.reduceEqDiff, Nat.reduceAdd, Int32.reduceMul, Int32.reduceAdd, Int32.reduceSub, Int32.reduceToNatClampNeg, Int32.reduceOfNat, Int32.reduceLT, Int32.reduceLE, va_rf]
        · rw [(o3.2 q1 mq1).1, (g5.2 q1 q1n).1]; exact I4 g hg
        · rw [(o3.2 q2 mq2).1, g7 g hg]; exact I5 g
        · show ¬ _
          rw [(o3.2 17 m17).1]; exact g6
      | some z2 =>
        obtain ⟨os2, s5⟩ := z2
        rw [hg2] at co2
        obtain ⟨σ5, e5, g5, g6, g7, g8, g9, g10⟩ := co2
        have hS5 := g5.sh hS4
        have F5 := FB.trans (g5.mono mem2)
        obtain ⟨⟨o1, o2⟩, o3, o4, o5⟩ := out σ5 F5
        have T5 : jT σ5 q = 6 := by rw [F5.1.1]; exact L1
        refine ⟨_, ?_, o1, fun g hg => ⟨?_, ?_⟩, o2, ?_, ?_, ?_, ?_, ?_⟩
        · rw [pre]
          simp (decide := true) only [k21_26, k21_40, k21_48, sT_1, sT_2, sT_3, sT_16, sT_17, sT_18, sT_19, sT_20, sT_21, sT_22, sT_23, sT_24, sT_25, sT_26, sT_27, sT_28, sT_29, sT_30, sT_31, sT_32, sT_33, sT_34, sT_35, sT_36, sT_37, sT_38, sT_39, sT_40, sT_41, sT_42, sT_43, sT_44, sT_45, sT_46, sT_47, sT_48, sT_49, sT_50, sT_51, sT_52, sT_53, sT_54, sT_55, sT_56, sT_57, sT_58, sT_59, sT_60, sT_61, sT_62, sT_63, sT_64, sT_65, sT_66, sT_67, sT_68, sT_69, sT_70, sT_71, sT_72, sT_73, sT_74, sT_75, sT_76, sT_77, sT_78, sT_79, sT_80, sN_1, sN_2, sN_19, sN_21, sN_23, sN_24, sN_26, sN_29, sN_31, sN_33, sN_35, sN_36, sN_37, sN_39, sN_40, sN_42, sN_44, sN_45, sN_46, sN_48, sN_49, sN_50, sN_51, sN_52, sN_53, sN_54, sN_55, sN_56, sN_57, sN_58, sN_59, sN_60, sN_61, sN_62, sN_63, sN_64, sN_65, sN_66, sN_67, sN_68, sN_69, sN_70, sN_71, sN_72, sN_73, sN_74, sN_75, sN_76, sN_77, sN_78, sN_79, sN_80, sR_0_34, sR_0_38, sR_1_34, sR_1_38, sR_64_20, sR_64_22, sR_128_25, sR_128_28, sR_194_17, sR_195_17, sR_196_17, sR_197_17, sR_258_30, sR_258_32, sR_258_41, sR_384_43, sR_448_18, sR_512_27, sR_513_27, sR_514_27, sR_515_27, sR_516_27, sR_576_16, sR_577_16, sR_578_16, sR_579_16, sR_580_16, sR_581_16, sR_582_16, sR_583_16, sR_584_16, sR_641_47, sR_643_47, sR_645_47, sR_646_47, sR_647_47, sR_648_47, sR_649_47, sR_650_47, sR_651_47, sR_652_47, sR_653_47, sR_654_47, sR_655_47, sR_656_47, sR_657_47, sR_658_47, sR_659_47, sR_661_47, sR_662_47, sR_663_47, sR_664_47, sR_665_47, sR_669_47, sR_670_47, sR_671_47, sR_672_47, sR_673_47, sR_674_47, sR_676_47, sR_677_47, sR_679_47, sR_680_47, sR_681_47, SH_I, SH_A, SH_G, SH_C, hS4, hS5, ra4, tl4, g, T4, T5, RR4, e5, Option.getD_some, ne_eq, reduceCtorEq, not_false_eq_true, not_true_eq_false, Option.bind_some, Option.toList_none, Option.toList_some, List.nil_append, List.cons_append, List.append_nil, ↓reduceIte, and_self, true_and, and_true, false_and, and_false, or_true, true_or, or_false, false_or, Nat.reduceEqDiff, Nat.reduceAdd, Int32.reduceMul, Int32.reduceAdd, Int32.reduceSub, Int32.reduceToNatClampNeg, Int32.reduceOfNat, Int32.reduceLT, Int32.reduceLE, va_rf]
        · rw [(o3.2 q1 mq1).1, (g5.2 q1 q1n).1]; exact I4 g hg
        · rw [(o3.2 q2 mq2).1, g8 g hg]; exact I5 g
        · rw [(o3.2 17 m17).1]; exact g6.2.2.2.2.2.2
        · exact (C4.frame g5 q1n a1n).frame o3 mq1 ma1
        · refine RC.frame ⟨by rw [g7, Nat.zero_add], fun i j hi hj => ?_⟩ o3 mq2 ma2
          have := g10 i j hi hj
          rw [Nat.zero_add] at this
          exact this
        · rw [o4]; exact g6.2.2.2.1.1
        · rw [o5]; exact g6.2.2.2.2.1.1
end RD8
