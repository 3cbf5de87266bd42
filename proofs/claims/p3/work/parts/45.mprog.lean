/-! the reference's reader: the number of a program's order -/
def mNumP (len : Nat) (b : Nat → Int32) (W k p : Nat) (g : Nat → Int32) : Option (Nat × (Nat → Int32)) :=
  if numN k = true then (mGap len b p).bind (fun p1 => (mNum len b p1).map (fun z => (z.2, up6 g 1 (kpM W k z.1)))) else some (p, g)
theorem mNum_le {len : Nat} {b : Nat → Int32} {p : Nat} {z : Int32 × Nat} (hp : p ≤ len) (h : mNum len b p = some z) : z.2 ≤ len := by
  have hw : fw len b p ≤ len - p := fwF_le _ _ _
  unfold mNum at h
  split at h
  · cases h
  · split at h
    · cases h
    · split at h
      · cases h
      · cases h
        show p + fw len b p ≤ len
        omega
section MP1
variable {d : Nat} {σ : jS} {len W : Nat} {b : Nat → Int32} {p : Nat}
theorem c159n {q : Nat} (hq : 80 < q) (hS : SH σ) (hT : TM σ len b) (hp : p ≤ len) (hat : jI σ 666 47 = nI p) (h0 : jI σ 667 47 = 0) (hW : W = 1 ∨ W = 2 ∨ W = 3) (hw : jI σ 640 47 = nI W) {k : Nat} (hk : k < 19) (t1 : jT σ q = 20) (t2 : jN σ q = 3) {g : Nat → Int32} (hg : ∀ i, i < 3 → jA σ q i = g i) {x1 x2 x3 x5 x7 x8 : Option Value} :
    ∃ σ', MQf q σ σ' ∧ (match mNumP len b W k p g with
      | some z => jx (d + 3) 159 141 [some (.ref 47), x1, x2, x3, some (.int (nI k)), x5, some (.ref q), x7, x8] [] σ = jx (d + 3) 159 192 [some (.ref 47), x1, x2, x3, some (.int (nI k)), x5, some (.ref q), x7, x8] [] σ' ∧ jI σ' 666 47 = nI z.1 ∧ jI σ' 667 47 = 0 ∧ z.1 ≤ len ∧ (∀ i, i < 3 → jA σ' q i = z.2 i)
      | none => jx (d + 3) 159 141 [some (.ref 47), x1, x2, x3, some (.int (nI k)), x5, some (.ref q), x7, x8] [] σ = jx (d + 3) 159 274 [some (.ref 47), x1, x2, x3, some (.int (nI k)), x5, some (.ref q), x7, x8] [] σ' ∧ ¬ jI σ' 667 47 = 0) := by
  have c3 := c143 (d := d + 2) (σ := σ) hk
  have j1 : jin 3 1 := jin_n (N := 3) (k := 1) (by decide) (by decide)
  have cl1 : Int32.toNatClampNeg 1 = 1 := rfl
  have q1 : q ∉ [47] := by simp; omega
  unfold mNumP
  by_cases hn : numN k = true
  · have i : (if numN k = true then (1 : Int32) else 0) = 1 := if_pos hn
    rw [if_pos hn]
    obtain ⟨σ1, e1, f1, r1⟩ := c138 (d := d) hS hT hp hat h0
    have hS1 := f1.1.sh hS
    have t11 : jT σ1 q = 20 := by rw [f1.1.1.1]; exact t1
    have t21 : jN σ1 q = 3 := by rw [f1.1.1.2.1]; exact t2
    cases hG : mGap len b p with
    | none =>
      rw [hG] at r1
      have r1 : ¬ jI σ1 667 47 = 0 := r1
      refine ⟨jsA σ1 q 1 0, f1.mq.A, ?_, by rw [zA_I]; exact r1⟩
      simp (decide := true) only [k159_141, k159_148, k159_153, k159_156, k159_160, k159_183, c3, i, e1, h0, r1, t11, t21, j1, cl1, sT_1, sT_2, sT_3, sT_16, sT_17, sT_18, sT_19, sT_20, sT_21, sT_22, sT_23, sT_24, sT_25, sT_26, sT_27, sT_28, sT_29, sT_30, sT_31, sT_32, sT_33, sT_34, sT_35, sT_36, sT_37, sT_38, sT_39, sT_40, sT_41, sT_42, sT_43, sT_44, sT_45, sT_46, sT_47, sT_48, sT_49, sT_50, sT_51, sT_52, sT_53, sT_54, sT_55, sT_56, sT_57, sT_58, sT_59, sT_60, sT_61, sT_62, sT_63, sT_64, sT_65, sT_66, sT_67, sT_68, sT_69, sT_70, sT_71, sT_72, sT_73, sT_74, sT_75, sT_76, sT_77, sT_78, sT_79, sT_80, sN_1, sN_2, sN_19, sN_21, sN_23, sN_24, sN_26, sN_29, sN_31, sN_33, sN_35, sN_36, sN_37, sN_39, sN_40, sN_42, sN_44, sN_45, sN_46, sN_48, sN_49, sN_50, sN_51, sN_52, sN_53, sN_54, sN_55, sN_56, sN_57, sN_58, sN_59, sN_60, sN_61, sN_62, sN_63, sN_64, sN_65, sN_66, sN_67, sN_68, sN_69, sN_70, sN_71, sN_72, sN_73, sN_74, sN_75, sN_76, sN_77, sN_78, sN_79, sN_80, sR_0_34, sR_0_38, sR_1_34, sR_1_38, sR_64_20, sR_64_22, sR_128_25, sR_128_28, sR_194_17, sR_195_17, sR_196_17, sR_197_17, sR_258_30, sR_258_32, sR_258_41, sR_384_43, sR_448_18, sR_512_27, sR_513_27, sR_514_27, sR_515_27, sR_516_27, sR_576_16, sR_577_16, sR_578_16, sR_579_16, sR_580_16, sR_581_16, sR_582_16, sR_583_16, sR_584_16, sR_641_47, sR_643_47, sR_645_47, sR_646_47, sR_647_47, sR_648_47, sR_649_47, sR_650_47, sR_651_47, sR_652_47, sR_653_47, sR_654_47, sR_655_47, sR_656_47, sR_657_47, sR_658_47, sR_659_47, sR_661_47, sR_662_47, sR_663_47, sR_664_47, sR_665_47, sR_669_47, sR_670_47, sR_671_47, sR_672_47, sR_673_47, sR_674_47, sR_676_47, sR_677_47, sR_679_47, sR_680_47, sR_681_47, SH_I, SH_A, SH_G, SH_C, hS, hS1, Option.getD_some, ne_eq, reduceCtorEq, not_false_eq_true, not_true_eq_false, Option.bind_some, Option.toList_none, Option.toList_some, List.nil_append, List.cons_append, List.append_nil, ↓reduceIte, and_self, true_and, and_true, false_and, and_false, or_true, true_or, or_false, false_or, Nat.reduceEqDiff, Nat.reduceAdd, Int32.reduceMul, Int32.reduceAdd, Int32.reduceSub, Int32.reduceToNatClampNeg, Int32.reduceOfNat, Int32.reduceLT, Int32.reduceLE, va_rf]
    | some p1 =>
      rw [hG] at r1
      obtain ⟨a1, z1⟩ := r1
      have hp1 := mGap_le hp hG
      obtain ⟨v, σ2, e2, f2, r2⟩ := c145 (d := d + 1) hS1 (f1.tm hT) hp1 a1 z1
      have hS2 := f2.1.sh hS1
      have t12 : jT σ2 q = 20 := by rw [f2.1.1.1]; exact t11
      have t22 : jN σ2 q = 3 := by rw [f2.1.1.2.1]; exact t21
      have hw2 : jI σ2 640 47 = nI W := by rw [f2.2 640 (by decide) (by decide) (by decide), f1.2 640 (by decide) (by decide) (by decide)]; exact hw
      have ck := c155 (d := d + 1) hS2 hW hw2 hk v
      have F : MQf q σ (jsA σ2 q 1 (kpM W k v)) := ((f1.mq).trans f2.mq).A
      rw [Option.bind_some]
      cases hM : mNum len b p1 with
      | none =>
        rw [hM] at r2
        have r2 : ¬ jI σ2 667 47 = 0 := r2
        refine ⟨jsA σ2 q 1 (kpM W k v), F, ?_, by rw [zA_I]; exact r2⟩
        simp (decide := true) only [k159_141, k159_148, k159_153, k159_156, k159_160, k159_170, k159_177, k159_180, c3, i, e1, e2, ck, h0, z1, r2, t12, t22, j1, cl1, sT_1, sT_2, sT_3, sT_16, sT_17, sT_18, sT_19, sT_20, sT_21, sT_22, sT_23, sT_24, sT_25, sT_26, sT_27, sT_28, sT_29, sT_30, sT_31, sT_32, sT_33, sT_34, sT_35, sT_36, sT_37, sT_38, sT_39, sT_40, sT_41, sT_42, sT_43, sT_44, sT_45, sT_46, sT_47, sT_48, sT_49, sT_50, sT_51, sT_52, sT_53, sT_54, sT_55, sT_56, sT_57, sT_58, sT_59, sT_60, sT_61, sT_62, sT_63, sT_64, sT_65, sT_66, sT_67, sT_68, sT_69, sT_70, sT_71, sT_72, sT_73, sT_74, sT_75, sT_76, sT_77, sT_78, sT_79, sT_80, sN_1, sN_2, sN_19, sN_21, sN_23, sN_24, sN_26, sN_29, sN_31, sN_33, sN_35, sN_36, sN_37, sN_39, sN_40, sN_42, sN_44, sN_45, sN_46, sN_48, sN_49, sN_50, sN_51, sN_52, sN_53, sN_54, sN_55, sN_56, sN_57, sN_58, sN_59, sN_60, sN_61, sN_62, sN_63, sN_64, sN_65, sN_66, sN_67, sN_68, sN_69, sN_70, sN_71, sN_72, sN_73, sN_74, sN_75, sN_76, sN_77, sN_78, sN_79, sN_80, sR_0_34, sR_0_38, sR_1_34, sR_1_38, sR_64_20, sR_64_22, sR_128_25, sR_128_28, sR_194_17, sR_195_17, sR_196_17, sR_197_17, sR_258_30, sR_258_32, sR_258_41, sR_384_43, sR_448_18, sR_512_27, sR_513_27, sR_514_27, sR_515_27, sR_516_27, sR_576_16, sR_577_16, sR_578_16, sR_579_16, sR_580_16, sR_581_16, sR_582_16, sR_583_16, sR_584_16, sR_641_47, sR_643_47, sR_645_47, sR_646_47, sR_647_47, sR_648_47, sR_649_47, sR_650_47, sR_651_47, sR_652_47, sR_653_47, sR_654_47, sR_655_47, sR_656_47, sR_657_47, sR_658_47, sR_659_47, sR_661_47, sR_662_47, sR_663_47, sR_664_47, sR_665_47, sR_669_47, sR_670_47, sR_671_47, sR_672_47, sR_673_47, sR_674_47, sR_676_47, sR_677_47, sR_679_47, sR_680_47, sR_681_47, SH_I, SH_A, SH_G, SH_C, hS, hS1, hS2, Option.getD_some, ne_eq, reduceCtorEq, not_false_eq_true, not_true_eq_false, Option.bind_some, Option.toList_none, Option.toList_some, List.nil_append, List.cons_append, List.append_nil, ↓reduceIte, and_self, true_and, and_true, false_and, and_false, or_true, true_or, or_false, false_or, Nat.reduceEqDiff, Nat.reduceAdd, Int32.reduceMul, Int32.reduceAdd, Int32.reduceSub, Int32.reduceToNatClampNeg, Int32.reduceOfNat, Int32.reduceLT, Int32.reduceLE, va_rf]
      | some z =>
        rw [hM] at r2
        obtain ⟨w, a2, z2⟩ := r2
        refine ⟨jsA σ2 q 1 (kpM W k v), F, ?_, by rw [zA_I]; exact a2, by rw [zA_I]; exact z2, mNum_le hp1 hM, fun j hj => ?_⟩
        · simp (decide := true) only [k159_141, k159_148, k159_153, k159_156, k159_160, k159_170, k159_177, k159_180, c3, i, e1, e2, ck, h0, z1, z2, t12, t22, j1, cl1, sT_1, sT_2, sT_3, sT_16, sT_17, sT_18, sT_19, sT_20, sT_21, sT_22, sT_23, sT_24, sT_25, sT_26, sT_27, sT_28, sT_29, sT_30, sT_31, sT_32, sT_33, sT_34, sT_35, sT_36, sT_37, sT_38, sT_39, sT_40, sT_41, sT_42, sT_43, sT_44, sT_45, sT_46, sT_47, sT_48, sT_49, sT_50, sT_51, sT_52, sT_53, sT_54, sT_55, sT_56, sT_57, sT_58, sT_59, sT_60, sT_61, sT_62, sT_63, sT_64, sT_65, sT_66, sT_67, sT_68, sT_69, sT_70, sT_71, sT_72, sT_73, sT_74, sT_75, sT_76, sT_77, sT_78, sT_79, sT_80, sN_1, sN_2, sN_19, sN_21, sN_23, sN_24, sN_26, sN_29, sN_31, sN_33, sN_35, sN_36, sN_37, sN_39, sN_40, sN_42, sN_44, sN_45, sN_46, sN_48, sN_49, sN_50, sN_51, sN_52, sN_53, sN_54, sN_55, sN_56, sN_57, sN_58, sN_59, sN_60, sN_61, sN_62, sN_63, sN_64, sN_65, sN_66, sN_67, sN_68, sN_69, sN_70, sN_71, sN_72, sN_73, sN_74, sN_75, sN_76, sN_77, sN_78, sN_79, sN_80, sR_0_34, sR_0_38, sR_1_34, sR_1_38, sR_64_20, sR_64_22, sR_128_25, sR_128_28, sR_194_17, sR_195_17, sR_196_17, sR_197_17, sR_258_30, sR_258_32, sR_258_41, sR_384_43, sR_448_18, sR_512_27, sR_513_27, sR_514_27, sR_515_27, sR_516_27, sR_576_16, sR_577_16, sR_578_16, sR_579_16, sR_580_16, sR_581_16, sR_582_16, sR_583_16, sR_584_16, sR_641_47, sR_643_47, sR_645_47, sR_646_47, sR_647_47, sR_648_47, sR_649_47, sR_650_47, sR_651_47, sR_652_47, sR_653_47, sR_654_47, sR_655_47, sR_656_47, sR_657_47, sR_658_47, sR_659_47, sR_661_47, sR_662_47, sR_663_47, sR_664_47, sR_665_47, sR_669_47, sR_670_47, sR_671_47, sR_672_47, sR_673_47, sR_674_47, sR_676_47, sR_677_47, sR_679_47, sR_680_47, sR_681_47, SH_I, SH_A, SH_G, SH_C, hS, hS1, hS2, Option.getD_some, ne_eq, reduceCtorEq, not_false_eq_true, not_true_eq_false, Option.bind_some, Option.toList_none, Option.toList_some, List.nil_append, List.cons_append, List.append_nil, ↓reduceIte, and_self, true_and, and_true, false_and, and_false, or_true, true_or, or_false, false_or, Nat.reduceEqDiff, Nat.reduceAdd, Int32.reduceMul, Int32.reduceAdd, Int32.reduceSub, Int32.reduceToNatClampNeg, Int32.reduceOfNat, Int32.reduceLT, Int32.reduceLE, va_rf]
        · show _ = if j = 1 then kpM W k z.1 else g j
          rw [zA_A]
          by_cases hj1 : j = 1
          · rw [if_pos ⟨rfl, hj1⟩, if_pos hj1, w]
          · rw [if_neg (fun y => hj1 y.2), if_neg hj1, (f2.1.2 q q1).2, (f1.1.2 q q1).2]; exact hg j hj
  · have i : (if numN k = true then (1 : Int32) else 0) = 0 := if_neg hn
    rw [if_neg hn]
    refine ⟨σ, MQf.refl q σ, ?_, hat, h0, hp, hg⟩
    simp (decide := true) only [k159_141, k159_148, k159_153, k159_185, c3, i, h0, sT_1, sT_2, sT_3, sT_16, sT_17, sT_18, sT_19, sT_20, sT_21, sT_22, sT_23, sT_24, sT_25, sT_26, sT_27, sT_28, sT_29, sT_30, sT_31, sT_32, sT_33, sT_34, sT_35, sT_36, sT_37, sT_38, sT_39, sT_40, sT_41, sT_42, sT_43, sT_44, sT_45, sT_46, sT_47, sT_48, sT_49, sT_50, sT_51, sT_52, sT_53, sT_54, sT_55, sT_56, sT_57, sT_58, sT_59, sT_60, sT_61, sT_62, sT_63, sT_64, sT_65, sT_66, sT_67, sT_68, sT_69, sT_70, sT_71, sT_72, sT_73, sT_74, sT_75, sT_76, sT_77, sT_78, sT_79, sT_80, sN_1, sN_2, sN_19, sN_21, sN_23, sN_24, sN_26, sN_29, sN_31, sN_33, sN_35, sN_36, sN_37, sN_39, sN_40, sN_42, sN_44, sN_45, sN_46, sN_48, sN_49, sN_50, sN_51, sN_52, sN_53, sN_54, sN_55, sN_56, sN_57, sN_58, sN_59, sN_60, sN_61, sN_62, sN_63, sN_64, sN_65, sN_66, sN_67, sN_68, sN_69, sN_70, sN_71, sN_72, sN_73, sN_74, sN_75, sN_76, sN_77, sN_78, sN_79, sN_80, sR_0_34, sR_0_38, sR_1_34, sR_1_38, sR_64_20, sR_64_22, sR_128_25, sR_128_28, sR_194_17, sR_195_17, sR_196_17, sR_197_17, sR_258_30, sR_258_32, sR_258_41, sR_384_43, sR_448_18, sR_512_27, sR_513_27, sR_514_27, sR_515_27, sR_516_27, sR_576_16, sR_577_16, sR_578_16, sR_579_16, sR_580_16, sR_581_16, sR_582_16, sR_583_16, sR_584_16, sR_641_47, sR_643_47, sR_645_47, sR_646_47, sR_647_47, sR_648_47, sR_649_47, sR_650_47, sR_651_47, sR_652_47, sR_653_47, sR_654_47, sR_655_47, sR_656_47, sR_657_47, sR_658_47, sR_659_47, sR_661_47, sR_662_47, sR_663_47, sR_664_47, sR_665_47, sR_669_47, sR_670_47, sR_671_47, sR_672_47, sR_673_47, sR_674_47, sR_676_47, sR_677_47, sR_679_47, sR_680_47, sR_681_47, SH_I, SH_A, SH_G, SH_C, hS, Option.getD_some, ne_eq, reduceCtorEq, not_false_eq_true, not_true_eq_false, Option.bind_some, Option.toList_none, Option.toList_some, List.nil_append, List.cons_append, List.append_nil, ↓reduceIte, and_self, true_and, and_true, false_and, and_false, or_true, true_or, or_false, false_or, Nat.reduceEqDiff, Nat.reduceAdd, Int32.reduceMul, Int32.reduceAdd, Int32.reduceSub, Int32.reduceToNatClampNeg, Int32.reduceOfNat, Int32.reduceLT, Int32.reduceLE, va_rf]
end MP1
