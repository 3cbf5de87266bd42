section S_44
/-! class and reference find the same name -/
theorem nmv_big : ∀ k, k < 19 → nmv k = nI (nmv k).toNatClampNeg ∧ 423 ≤ (nmv k).toNatClampNeg ∧ (nmv k).toNatClampNeg < 20000 := by decide
theorem name_iff {t : Nat → Int32} {p L k : Nat} (hk : k < 19) (hL : 1 ≤ L) (hl : ∀ j, j < L → isLo (t (p + j))) : nmv k = wz t p L ↔ (nlnN k = L ∧ nmD t p k L = true) := by
  have n23 : nlnN k = 2 ∨ nlnN k = 3 := by unfold nlnN; split <;> omega
  obtain ⟨b1, b2, b3⟩ := nmv_big k hk
  rw [nmD_iff]
  rcases Nat.lt_or_ge 3 L with h4 | h4
  · have e : wz t p L = nI 0 := if_pos h4
    rw [e, b1, n31eq (by omega) (by decide)]
    omega
  · have e : wz t p L = wv t p L := if_neg (by omega)
    rw [e]
    have : L = 1 ∨ L = 2 ∨ L = 3 := by omega
    obtain ⟨a, a1, a2, ea⟩ := lo_nat (hl 0 (by omega))
    rw [Nat.add_zero] at ea
    rcases this with rfl | rfl | rfl
    · rw [wv1 a1 ea, b1, n31eq (by omega) (by omega)]
      omega
    · obtain ⟨c, c1, c2, ec⟩ := lo_nat (hl 1 (by omega))
      rw [wv2 a1 ea c1 ec, name2 ⟨a1, a2⟩ ⟨c1, c2⟩ hk]
      constructor
      · intro ⟨z1, z2, z3⟩
        refine ⟨z1, fun j hj => ?_⟩
        have : j = 0 ∨ j = 1 := by omega
        rcases this with rfl | rfl
        · exact z2.trans ea.symm
        · exact z3.trans ec.symm
      · intro ⟨z1, z2⟩
        exact ⟨z1, (z2 0 (by omega)).trans ea, (z2 1 (by omega)).trans ec⟩
    · obtain ⟨c, c1, c2, ec⟩ := lo_nat (hl 1 (by omega))
      obtain ⟨g, g1, g2, eg⟩ := lo_nat (hl 2 (by omega))
      rw [wv3 a1 ea c1 ec g1 eg, name3 ⟨a1, a2⟩ ⟨c1, c2⟩ ⟨g1, g2⟩ hk]
      constructor
      · intro ⟨z1, z2, z3, z4⟩
        refine ⟨z1, fun j hj => ?_⟩
        have : j = 0 ∨ j = 1 ∨ j = 2 := by omega
        rcases this with rfl | rfl | rfl
        · exact z2.trans ea.symm
        · exact z3.trans ec.symm
        · exact z4.trans eg.symm
      · intro ⟨z1, z2⟩
        exact ⟨z1, (z2 0 (by omega)).trans ea, (z2 1 (by omega)).trans ec, (z2 2 (by omega)).trans eg⟩
theorem op_kn {t : Nat → Int32} {p L : Nat} (hL : 1 ≤ L) (hl : ∀ j, j < L → isLo (t (p + j))) : ∀ f k, k + f ≤ 19 → (knF t p L f k = -1 ∧ opF (wz t p L) f k = -4) ∨ (¬ knF t p L f k = -1 ∧ opF (wz t p L) f k = knF t p L f k) := by
  intro f
  induction f with
  | zero => intro k _; exact Or.inl ⟨rfl, rfl⟩
  | succ f ih =>
    intro k hk
    unfold knF opF
    by_cases h : nlnN k = L ∧ nmD t p k L = true
    · rw [if_pos h, if_pos ((name_iff (by omega) hL hl).mpr h)]
      refine Or.inr ⟨fun z => ?_, rfl⟩
      have h0 : ¬ nI k < 0 := nI_pos (by omega)
      rw [z] at h0
      exact h0 (by decide)
    · rw [if_neg h, if_neg (fun z => h ((name_iff (by omega) hL hl).mp z))]
      exact ih (k + 1) (by omega)
end S_44
section S_45
/-! the reference's reader: the number of a program's order -/
def mNumP (len : Nat) (b : Nat → Int32) (W k p : Nat) (g : Nat → Int32) : Option (Nat × (Nat → Int32)) :=
  if numN k = true then (mGap len b p).bind (fun p1 => (mNum len b p1).map (fun z => (z.2, up6 g 1 (kpM W k z.1)))) else some (p, g)
theorem mNum_le {len : Nat} {b : Nat → Int32} {p : Nat} {z : Int32 × Nat} (hp : p ≤ len) (h : mNum len b p = some z) : z.2 ≤ len := by
  have hw : fw len b p ≤ len - p := fwF_le _ _ _
  unfold mNum at h
  split at h
  · cases h
  · split at h
    · cases h
    · split at h
      · cases h
      · cases h
        show p + fw len b p ≤ len
        omega
section MP1
variable {d : Nat} {σ : jS} {len W : Nat} {b : Nat → Int32} {p : Nat}
theorem c159n {q : Nat} (hq : 80 < q) (hS : SH σ) (hT : TM σ len b) (hp : p ≤ len) (hat : jI σ 666 47 = nI p) (h0 : jI σ 667 47 = 0) (hW : W = 1 ∨ W = 2 ∨ W = 3) (hw : jI σ 640 47 = nI W) {k : Nat} (hk : k < 19) (t1 : jT σ q = 20) (t2 : jN σ q = 3) {g : Nat → Int32} (hg : ∀ i, i < 3 → jA σ q i = g i) {x1 x2 x3 x5 x7 x8 : Option Value} :
    ∃ σ', MQf q σ σ' ∧ (match mNumP len b W k p g with
      | some z => jx (d + 3) 159 141 [some (.ref 47), x1, x2, x3, some (.int (nI k)), x5, some (.ref q), x7, x8] [] σ = jx (d + 3) 159 192 [some (.ref 47), x1, x2, x3, some (.int (nI k)), x5, some (.ref q), x7, x8] [] σ' ∧ jI σ' 666 47 = nI z.1 ∧ jI σ' 667 47 = 0 ∧ z.1 ≤ len ∧ (∀ i, i < 3 → jA σ' q i = z.2 i)
      | none => jx (d + 3) 159 141 [some (.ref 47), x1, x2, x3, some (.int (nI k)), x5, some (.ref q), x7, x8] [] σ = jx (d + 3) 159 274 [some (.ref 47), x1, x2, x3, some (.int (nI k)), x5, some (.ref q), x7, x8] [] σ' ∧ ¬ jI σ' 667 47 = 0) := by
  have c3 := c143 (d := d + 2) (σ := σ) hk
  have j1 : jin 3 1 := jin_n (N := 3) (k := 1) (by decide) (by decide)
  have cl1 : Int32.toNatClampNeg 1 = 1 := rfl
  have q1 : q ∉ [47] := by simp; omega
  unfold mNumP
  by_cases hn : numN k = true
  · have i : (if numN k = true then (1 : Int32) else 0) = 1 := if_pos hn
    rw [if_pos hn]
    obtain ⟨σ1, e1, f1, r1⟩ := c138 (d := d) hS hT hp hat h0
    have hS1 := f1.1.sh hS
    have t11 : jT σ1 q = 20 := by rw [f1.1.1.1]; exact t1
    have t21 : jN σ1 q = 3 := by rw [f1.1.1.2.1]; exact t2
    cases hG : mGap len b p with
    | none =>
      rw [hG] at r1
      have r1 : ¬ jI σ1 667 47 = 0 := r1
      refine ⟨jsA σ1 q 1 0, f1.mq.A, ?_, by rw [zA_I]; exact r1⟩
      simp (decide := true) only [k159_141, k159_148, k159_153, k159_156, k159_160, k159_183, c3, i, e1, h0, r1, t11, t21, j1, cl1, sT_1, sT_2, sT_3, sT_16, sT_17, sT_18, sT_19, sT_20, sT_21, sT_22, sT_23, sT_24, sT_25, sT_26, sT_27, sT_28, sT_29, sT_30, sT_31, sT_32, sT_33, sT_34, sT_35, sT_36, sT_37, sT_38, sT_39, sT_40, sT_41, sT_42, sT_43, sT_44, sT_45, sT_46, sT_47, sT_48, sT_49, sT_50, sT_51, sT_52, sT_53, sT_54, sT_55, sT_56, sT_57, sT_58, sT_59, sT_60, sT_61, sT_62, sT_63, sT_64, sT_65, sT_66, sT_67, sT_68, sT_69, sT_70, sT_71, sT_72, sT_73, sT_74, sT_75, sT_76, sT_77, sT_78, sT_79, sT_80, sN_1, sN_2, sN_19, sN_21, sN_23, sN_24, sN_26, sN_29, sN_31, sN_33, sN_35, sN_36, sN_37, sN_39, sN_40, sN_42, sN_44, sN_45, sN_46, sN_48, sN_49, sN_50, sN_51, sN_52, sN_53, sN_54, sN_55, sN_56, sN_57, sN_58, sN_59, sN_60, sN_61, sN_62, sN_63, sN_64, sN_65, sN_66, sN_67, sN_68, sN_69, sN_70, sN_71, sN_72, sN_73, sN_74, sN_75, sN_76, sN_77, sN_78, sN_79, sN_80, sR_0_34, sR_0_38, sR_1_34, sR_1_38, sR_64_20, sR_64_22, sR_128_25, sR_128_28, sR_194_17, sR_195_17, sR_196_17, sR_197_17, sR_258_30, sR_258_32, sR_258_41, sR_384_43, sR_448_18, sR_512_27, sR_513_27, sR_514_27, sR_515_27, sR_516_27, sR_576_16, sR_577_16, sR_578_16, sR_579_16, sR_580_16, sR_581_16, sR_582_16, sR_583_16, sR_584_16, sR_641_47, sR_643_47, sR_645_47, sR_646_47, sR_647_47, sR_648_47, sR_649_47, sR_650_47, sR_651_47, sR_652_47, sR_653_47, sR_654_47, sR_655_47, sR_656_47, sR_657_47, sR_658_47, sR_659_47, sR_661_47, sR_662_47, sR_663_47, sR_664_47, sR_665_47, sR_669_47, sR_670_47, sR_671_47, sR_672_47, sR_673_47, sR_674_47, sR_676_47, sR_677_47, sR_679_47, sR_680_47, sR_681_47, SH_I, SH_A, SH_G, SH_C, hS, hS1, Option.getD_some, ne_eq, reduceCtorEq, not_false_eq_true, not_true_eq_false, Option.bind_some, Option.toList_none, Option.toList_some, List.nil_append, List.cons_append, List.append_nil, ↓reduceIte, and_self, true_and, and_true, false_and, and_false, or_true, true_or, or_false, false_or, Nat.reduceEqDiff, Nat.reduceAdd, Int32.reduceMul, Int32.reduceAdd, Int32.reduceSub, Int32.reduceToNatClampNeg, Int32.reduceOfNat, Int32.reduceLT, Int32.reduceLE, va_rf]
    | some p1 =>
      rw [hG] at r1
      obtain ⟨a1, z1⟩ := r1
      have hp1 := mGap_le hp hG
      obtain ⟨v, σ2, e2, f2, r2⟩ := c145 (d := d + 1) hS1 (f1.tm hT) hp1 a1 z1
      have hS2 := f2.1.sh hS1
      have t12 : jT σ2 q = 20 := by rw [f2.1.1.1]; exact t11
      have t22 : jN σ2 q = 3 := by rw [f2.1.1.2.1]; exact t21
      have hw2 : jI σ2 640 47 = nI W := by rw [f2.2 640 (by decide) (by decide) (by decide), f1.2 640 (by decide) (by decide) (by decide)]; exact hw
      have ck := c155 (d := d + 1) hS2 hW hw2 hk v
      have F : MQf q σ (jsA σ2 q 1 (kpM W k v)) := ((f1.mq).trans f2.mq).A
      rw [Option.bind_some]
      cases hM : mNum len b p1 with
      | none =>
        rw [hM] at r2
        have r2 : ¬ jI σ2 667 47 = 0 := r2
        refine ⟨jsA σ2 q 1 (kpM W k v), F, ?_, by rw [zA_I]; exact r2⟩
        simp (decide := true) only [k159_141, k159_148, k159_153, k159_156, k159_160, k159_170, k159_177, k159_180, c3, i, e1, e2, ck, h0, z1, r2, t12, t22, j1, cl1, sT_1, sT_2, sT_3, sT_16, sT_17, sT_18, sT_19, sT_20, sT_21, sT_22, sT_23, sT_24, sT_25, sT_26, sT_27, sT_28, sT_29, sT_30, sT_31, sT_32, sT_33, sT_34, sT_35, sT_36, sT_37, sT_38, sT_39, sT_40, sT_41, sT_42, sT_43, sT_44, sT_45, sT_46, sT_47, sT_48, sT_49, sT_50, sT_51, sT_52, sT_53, sT_54, sT_55, sT_56, sT_57, sT_58, sT_59, sT_60, sT_61, sT_62, sT_63, sT_64, sT_65, sT_66, sT_67, sT_68, sT_69, sT_70, sT_71, sT_72, sT_73, sT_74, sT_75, sT_76, sT_77, sT_78, sT_79, sT_80, sN_1, sN_2, sN_19, sN_21, sN_23, sN_24, sN_26, sN_29, sN_31, sN_33, sN_35, sN_36, sN_37, sN_39, sN_40, sN_42, sN_44, sN_45, sN_46, sN_48, sN_49, sN_50, sN_51, sN_52, sN_53, sN_54, sN_55, sN_56, sN_57, sN_58, sN_59, sN_60, sN_61, sN_62, sN_63, sN_64, sN_65, sN_66, sN_67, sN_68, sN_69, sN_70, sN_71, sN_72, sN_73, sN_74, sN_75, sN_76, sN_77, sN_78, sN_79, sN_80, sR_0_34, sR_0_38, sR_1_34, sR_1_38, sR_64_20, sR_64_22, sR_128_25, sR_128_28, sR_194_17, sR_195_17, sR_196_17, sR_197_17, sR_258_30, sR_258_32, sR_258_41, sR_384_43, sR_448_18, sR_512_27, sR_513_27, sR_514_27, sR_515_27, sR_516_27, sR_576_16, sR_577_16, sR_578_16, sR_579_16, sR_580_16, sR_581_16, sR_582_16, sR_583_16, sR_584_16, sR_641_47, sR_643_47, sR_645_47, sR_646_47, sR_647_47, sR_648_47, sR_649_47, sR_650_47, sR_651_47, sR_652_47, sR_653_47, sR_654_47, sR_655_47, sR_656_47, sR_657_47, sR_658_47, sR_659_47, sR_661_47, sR_662_47, sR_663_47, sR_664_47, sR_665_47, sR_669_47, sR_670_47, sR_671_47, sR_672_47, sR_673_47, sR_674_47, sR_676_47, sR_677_47, sR_679_47, sR_680_47, sR_681_47, SH_I, SH_A, SH_G, SH_C, hS, hS1, hS2, Option.getD_some, ne_eq, reduceCtorEq, not_false_eq_true, not_true_eq_false, Option.bind_some, Option.toList_none, Option.toList_some, List.nil_append, List.cons_append, List.append_nil, ↓reduceIte, and_self, true_and, and_true, false_and, and_false, or_true, true_or, or_false, false_or, Nat.reduceEqDiff, Nat.reduceAdd, Int32.reduceMul, Int32.reduceAdd, Int32.reduceSub, Int32.reduceToNatClampNeg, Int32.reduceOfNat, Int32.reduceLT, Int32.reduceLE, va_rf]
      | some z =>
        rw [hM] at r2
        obtain ⟨w, a2, z2⟩ := r2
        refine ⟨jsA σ2 q 1 (kpM W k v), F, ?_, by rw [zA_I]; exact a2, by rw [zA_I]; exact z2, mNum_le hp1 hM, fun j hj => ?_⟩
        · simp (decide := true) only [k159_141, k159_148, k159_153, k159_156, k159_160, k159_170, k159_177, k159_180, c3, i, e1, e2, ck, h0, z1, z2, t12, t22, j1, cl1, sT_1, sT_2, sT_3, sT_16, sT_17, sT_18, sT_19, sT_20, sT_21, sT_22, sT_23, sT_24, sT_25, sT_26, sT_27, sT_28, sT_29, sT_30, sT_31, sT_32, sT_33, sT_34, sT_35, sT_36, sT_37, sT_38, sT_39, sT_40, sT_41, sT_42, sT_43, sT_44, sT_45, sT_46, sT_47, sT_48, sT_49, sT_50, sT_51, sT_52, sT_53, sT_54, sT_55, sT_56, sT_57, sT_58, sT_59, sT_60, sT_61, sT_62, sT_63, sT_64, sT_65, sT_66, sT_67, sT_68, sT_69, sT_70, sT_71, sT_72, sT_73, sT_74, sT_75, sT_76, sT_77, sT_78, sT_79, sT_80, sN_1, sN_2, sN_19, sN_21, sN_23, sN_24, sN_26, sN_29, sN_31, sN_33, sN_35, sN_36, sN_37, sN_39, sN_40, sN_42, sN_44, sN_45, sN_46, sN_48, sN_49, sN_50, sN_51, sN_52, sN_53, sN_54, sN_55, sN_56, sN_57, sN_58, sN_59, sN_60, sN_61, sN_62, sN_63, sN_64, sN_65, sN_66, sN_67, sN_68, sN_69, sN_70, sN_71, sN_72, sN_73, sN_74, sN_75, sN_76, sN_77, sN_78, sN_79, sN_80, sR_0_34, sR_0_38, sR_1_34, sR_1_38, sR_64_20, sR_64_22, sR_128_25, sR_128_28, sR_194_17, sR_195_17, sR_196_17, sR_197_17, sR_258_30, sR_258_32, sR_258_41, sR_384_43, sR_448_18, sR_512_27, sR_513_27, sR_514_27, sR_515_27, sR_516_27, sR_576_16, sR_577_16, sR_578_16, sR_579_16, sR_580_16, sR_581_16, sR_582_16, sR_583_16, sR_584_16, sR_641_47, sR_643_47, sR_645_47, sR_646_47, sR_647_47, sR_648_47, sR_649_47, sR_650_47, sR_651_47, sR_652_47, sR_653_47, sR_654_47, sR_655_47, sR_656_47, sR_657_47, sR_658_47, sR_659_47, sR_661_47, sR_662_47, sR_663_47, sR_664_47, sR_665_47, sR_669_47, sR_670_47, sR_671_47, sR_672_47, sR_673_47, sR_674_47, sR_676_47, sR_677_47, sR_679_47, sR_680_47, sR_681_47, SH_I, SH_A, SH_G, SH_C, hS, hS1, hS2, Option.getD_some, ne_eq, reduceCtorEq, not_false_eq_true, not_true_eq_false, Option.bind_some, Option.toList_none, Option.toList_some, List.nil_append, List.cons_append, List.append_nil, ↓reduceIte, and_self, true_and, and_true, false_and, and_false, or_true, true_or, or_false, false_or, Nat.reduceEqDiff, Nat.reduceAdd, Int32.reduceMul, Int32.reduceAdd, Int32.reduceSub, Int32.reduceToNatClampNeg, Int32.reduceOfNat, Int32.reduceLT, Int32.reduceLE, va_rf]
        · show _ = if j = 1 then kpM W k z.1 else g j
          rw [zA_A]
          by_cases hj1 : j = 1
          · rw [if_pos ⟨rfl, hj1⟩, if_pos hj1, w]
          · rw [if_neg (fun y => hj1 y.2), if_neg hj1, (f2.1.2 q q1).2, (f1.1.2 q q1).2]; exact hg j hj
  · have i : (if numN k = true then (1 : Int32) else 0) = 0 := if_neg hn
    rw [if_neg hn]
    refine ⟨σ, MQf.refl q σ, ?_, hat, h0, hp, hg⟩
    simp (decide := true) only [k159_141, k159_148, k159_153, k159_185, c3, i, h0, sT_1, sT_2, sT_3, sT_16, sT_17, sT_18, sT_19, sT_20, sT_21, sT_22, sT_23, sT_24, sT_25, sT_26, sT_27, sT_28, sT_29, sT_30, sT_31, sT_32, sT_33, sT_34, sT_35, sT_36, sT_37, sT_38, sT_39, sT_40, sT_41, sT_42, sT_43, sT_44, sT_45, sT_46, sT_47, sT_48, sT_49, sT_50, sT_51, sT_52, sT_53, sT_54, sT_55, sT_56, sT_57, sT_58, sT_59, sT_60, sT_61, sT_62, sT_63, sT_64, sT_65, sT_66, sT_67, sT_68, sT_69, sT_70, sT_71, sT_72, sT_73, sT_74, sT_75, sT_76, sT_77, sT_78, sT_79, sT_80, sN_1, sN_2, sN_19, sN_21, sN_23, sN_24, sN_26, sN_29, sN_31, sN_33, sN_35, sN_36, sN_37, sN_39, sN_40, sN_42, sN_44, sN_45, sN_46, sN_48, sN_49, sN_50, sN_51, sN_52, sN_53, sN_54, sN_55, sN_56, sN_57, sN_58, sN_59, sN_60, sN_61, sN_62, sN_63, sN_64, sN_65, sN_66, sN_67, sN_68, sN_69, sN_70, sN_71, sN_72, sN_73, sN_74, sN_75, sN_76, sN_77, sN_78, sN_79, sN_80, sR_0_34, sR_0_38, sR_1_34, sR_1_38, sR_64_20, sR_64_22, sR_128_25, sR_128_28, sR_194_17, sR_195_17, sR_196_17, sR_197_17, sR_258_30, sR_258_32, sR_258_41, sR_384_43, sR_448_18, sR_512_27, sR_513_27, sR_514_27, sR_515_27, sR_516_27, sR_576_16, sR_577_16, sR_578_16, sR_579_16, sR_580_16, sR_581_16, sR_582_16, sR_583_16, sR_584_16, sR_641_47, sR_643_47, sR_645_47, sR_646_47, sR_647_47, sR_648_47, sR_649_47, sR_650_47, sR_651_47, sR_652_47, sR_653_47, sR_654_47, sR_655_47, sR_656_47, sR_657_47, sR_658_47, sR_659_47, sR_661_47, sR_662_47, sR_663_47, sR_664_47, sR_665_47, sR_669_47, sR_670_47, sR_671_47, sR_672_47, sR_673_47, sR_674_47, sR_676_47, sR_677_47, sR_679_47, sR_680_47, sR_681_47, SH_I, SH_A, SH_G, SH_C, hS, Option.getD_some, ne_eq, reduceCtorEq, not_false_eq_true, not_true_eq_false, Option.bind_some, Option.toList_none, Option.toList_some, List.nil_append, List.cons_append, List.append_nil, ↓reduceIte, and_self, true_and, and_true, false_and, and_false, or_true, true_or, or_false, false_or, Nat.reduceEqDiff, Nat.reduceAdd, Int32.reduceMul, Int32.reduceAdd, Int32.reduceSub, Int32.reduceToNatClampNeg, Int32.reduceOfNat, Int32.reduceLT, Int32.reduceLE, va_rf]
end MP1
end S_45
section S_46
/-! the reference's reader: a program's order, and all of them -/
/-- the reference reads: its reader's fields, the cells of P, and what is new -/
def PF (P : Nat → Nat → Prop) (σ σ' : jS) : Prop := FPs σ σ' ∧ jnx σ ≤ jnx σ' ∧ jsl σ ≤ jsl σ' ∧ ∀ a, a < jnx σ → jT σ' a = jT σ a ∧ jN σ' a = jN σ a ∧ (∀ g, jR σ' g a = jR σ g a) ∧ (∀ i, jG σ' a i = jG σ a i) ∧ (∀ g, (a < 47 ∨ 80 < a ∨ (a = 47 ∧ g ≠ 666 ∧ g ≠ 667 ∧ g ≠ 668)) → jI σ' g a = jI σ g a) ∧ (∀ i, a ≠ 47 → ¬ P a i → jA σ' a i = jA σ a i)
section PFS
variable {P : Nat → Nat → Prop} {σ τ υ : jS}
theorem PF.refl (P : Nat → Nat → Prop) (σ : jS) : PF P σ σ := ⟨Or.inl rfl, Nat.le_refl _, Nat.le_refl _, fun _ _ => ⟨rfl, rfl, fun _ => rfl, fun _ => rfl, fun _ _ => rfl, fun _ _ _ => rfl⟩⟩
theorem PF.trans (h : PF P σ τ) (k : PF P τ υ) : PF P σ υ := ⟨h.1.trans k.1, Nat.le_trans h.2.1 k.2.1, Nat.le_trans h.2.2.1 k.2.2.1, fun a ha =>
  have x := h.2.2.2 a ha
  have y := k.2.2.2 a (Nat.lt_of_lt_of_le ha h.2.1)
  ⟨y.1.trans x.1, y.2.1.trans x.2.1, fun g => (y.2.2.1 g).trans (x.2.2.1 g), fun i => (y.2.2.2.1 i).trans (x.2.2.2.1 i), fun g hg => (y.2.2.2.2.1 g hg).trans (x.2.2.2.2.1 g hg), fun i h4 hi => (y.2.2.2.2.2 i h4 hi).trans (x.2.2.2.2.2 i h4 hi)⟩⟩
theorem PF.mono {Q : Nat → Nat → Prop} (h : PF P σ τ) (hq : ∀ a i, P a i → Q a i) : PF Q σ τ := ⟨h.1, h.2.1, h.2.2.1, fun a ha =>
  have x := h.2.2.2 a ha
  ⟨x.1, x.2.1, x.2.2.1, x.2.2.2.1, x.2.2.2.2.1, fun i h4 hi => x.2.2.2.2.2 i h4 (fun z => hi (hq a i z))⟩⟩
theorem PF.A {a i : Nat} {v : Int32} (h : PF P σ τ) (hp : P a i ∨ jnx σ ≤ a) : PF P σ (jsA τ a i v) := ⟨h.1.trans (Or.inl rfl), h.2.1, h.2.2.1, fun b hb =>
  have x := h.2.2.2 b hb
  ⟨x.1, x.2.1, x.2.2.1, x.2.2.2.1, x.2.2.2.2.1, fun j h4 hj => by
    rw [zA_A, if_neg (fun z => by
      rcases hp with hp | hp
      · rw [z.1, z.2] at hj; exact hj hp
      · rw [z.1] at hb; omega)]
    exact x.2.2.2.2.2 j h4 hj⟩⟩
theorem PF.I {g : Nat} {v : Int32} (h : PF P σ τ) (hg : g = 666 ∨ g = 667 ∨ g = 668) (hv : g = 667 → 0 < v := by first | (intro z; exact absurd z (by decide)) | (intro _; decide)) : PF P σ (jsI τ g 47 v) := ⟨h.1.trans (FPs_I (fun z _ => hv z)), h.2.1, h.2.2.1, fun b hb =>
  have x := h.2.2.2 b hb
  ⟨x.1, x.2.1, x.2.2.1, x.2.2.2.1, fun f hf => by
    rw [zI_I, if_neg (fun z => by rw [z.1, z.2] at hf; omega)]
    exact x.2.2.2.2.1 f hf, x.2.2.2.2.2⟩⟩
theorem PF.B {c n : Nat} (h : PF P σ τ) : PF P σ (jnA τ c n) := ⟨h.1.trans (Or.inl rfl), Nat.le_succ_of_le h.2.1, Nat.le_trans h.2.2.1 (Nat.le_add_right _ _), fun b hb =>
  have x := h.2.2.2 b hb
  have e : ¬ b = jnx τ := Nat.ne_of_lt (Nat.lt_of_lt_of_le hb h.2.1)
  ⟨by rw [zB_T, if_neg e]; exact x.1, by rw [zB_N, if_neg e]; exact x.2.1, x.2.2.1, x.2.2.2.1, x.2.2.2.2.1, fun j h4 hj => by rw [zB_A, if_neg e]; exact x.2.2.2.2.2 j h4 hj⟩⟩
theorem PF.F {l : List Nat} (h : PF P σ τ) (f : FR l τ υ) (hg : ∀ g, g ≠ 666 → g ≠ 667 → g ≠ 668 → jI υ g 47 = jI τ g 47) (hl : ∀ a, a ∈ l → a = 47 ∨ jnx σ ≤ a ∨ ((47 ≤ a ∧ a ≤ 80) ∧ ∀ i, ¬ P a i → jA υ a i = jA τ a i)) : PF P σ υ := ⟨h.1.trans f.1.2.2.2.1.2, by rw [f.1.2.2.2.2.1]; exact h.2.1, by rw [f.1.2.2.2.2.2]; exact h.2.2.1, fun b hb => by
  have x := h.2.2.2 b hb
  refine ⟨by rw [f.1.1]; exact x.1, by rw [f.1.2.1]; exact x.2.1, fun g => by rw [f.1.2.2.1]; exact x.2.2.1 g, fun i => by rw [f.1.2.2.2.1.1]; exact x.2.2.2.1 i, fun g hgg => ?_, fun i h4 hi => ?_⟩
  · by_cases b47 : b = 47
    · have h3 : g ≠ 666 ∧ g ≠ 667 ∧ g ≠ 668 := by omega
      rw [b47, hg g h3.1 h3.2.1 h3.2.2, ← b47]; exact x.2.2.2.2.1 g hgg
    · by_cases bl : b ∈ l
      · rcases hl b bl with z | z | z
        · exact absurd z b47
        · omega
        · omega
      · rw [(f.2 b bl).1]; exact x.2.2.2.2.1 g hgg
  · by_cases bl : b ∈ l
    · rcases hl b bl with z | z | z
      · exact absurd z h4
      · omega
      · rw [z.2 i hi]; exact x.2.2.2.2.2 i h4 hi
    · rw [(f.2 b bl).2]; exact x.2.2.2.2.2 i h4 hi⟩
theorem PF.sh (h : PF P σ τ) (hx : 81 ≤ jnx σ) (hS : SH σ) : SH τ := by
  have e : SH τ = SH σ := SHc_of (fun a ha => (h.2.2.2 a (by omega)).1) (fun a ha => (h.2.2.2 a (by omega)).2.1) (fun g a ha => (h.2.2.2 a (by omega)).2.2.1 g)
  rw [e]; exact hS
theorem PF.f47 (h : PF P σ τ) (hx : 81 ≤ jnx σ) {g : Nat} (hg : g ≠ 666 ∧ g ≠ 667 ∧ g ≠ 668) : jI τ g 47 = jI σ g 47 := (h.2.2.2 47 (by omega)).2.2.2.2.1 g (Or.inr (Or.inr ⟨rfl, hg⟩))
theorem PF.ar (h : PF P σ τ) (hx : 81 ≤ jnx σ) {a : Nat} (ha : a < 81) (i : Nat) (hp : ¬ P a i) (h4 : a ≠ 47 := by decide) : jA τ a i = jA σ a i := (h.2.2.2 a (by omega)).2.2.2.2.2 i h4 hp
theorem PF.tm {len : Nat} {b : Nat → Int32} (h : PF P σ τ) (hx : 81 ≤ jnx σ) (hp : ∀ i, ¬ P 48 i) (hT : TM σ len b) : TM τ len b := ⟨by rw [h.f47 hx (by decide)]; exact hT.1, hT.2.1, fun i hi => by rw [h.ar hx (by decide) i (hp i)]; exact hT.2.2 i hi⟩
theorem PF.nv (h : PF P σ τ) (hx : 81 ≤ jnx σ) (hp : ∀ i, ¬ P 70 i) (hN : NV σ) : NV τ := fun k hk => by rw [h.ar hx (by decide) k (hp k)]; exact hN k hk
end PFS
theorem PF.mf {P : Nat → Nat → Prop} {σ τ υ : jS} (h : PF P σ τ) (f : MF τ υ) : PF P σ υ := h.F f.1 f.2 (fun a ha => by simp at ha; exact Or.inl ha)
theorem PF.mq {P : Nat → Nat → Prop} {σ τ υ : jS} {q : Nat} (h : PF P σ τ) (f : MQf q τ υ) (hq : jnx σ ≤ q) : PF P σ υ := h.F f.1 f.2 (fun a ha => by
  simp at ha
  rcases ha with ha | ha
  · exact Or.inl ha
  · exact Or.inr (Or.inl (by omega)))
/-- one order of a program: its op, the place behind it, what it names -/
def mOrd (len : Nat) (b : Nat → Int32) (W n p : Nat) : Option (Nat × Nat × (Nat → Int32)) :=
  (mName len b (nI n = 24) p).bind (fun z => (mRegsP len b (regN z.1.toNatClampNeg) 0 z.2 (fun _ => 0)).bind (fun y => (mNumP len b W z.1.toNatClampNeg y.1 y.2).map (fun x => (z.1.toNatClampNeg, x.1, x.2))))
theorem mName_ok {len : Nat} {b : Nat → Int32} {tm : Prop} [Decidable tm] {p : Nat} {z : Int32 × Nat} (h : mName len b tm p = some z) : (∃ k, k < 19 ∧ z.1 = nI k) ∧ z.2 = p + lw len b p ∧ isLo (tv len b p) ∧ ¬ tm := by
  unfold mName at h
  split at h
  · cases h
  · rename_i h1
    split at h
    · cases h
    · rename_i h2
      split at h
      · cases h
      · rename_i h3
        cases h
        refine ⟨?_, rfl, Classical.byContradiction h1, h3⟩
        rcases opF_ok (wz (tv len b) p (lw len b p)) 19 0 (by decide) with q | ⟨k, hk, q, _⟩
        · exact absurd q h2
        · exact ⟨k, hk, q⟩
theorem mName_le {len : Nat} {b : Nat → Int32} {tm : Prop} [Decidable tm] {p : Nat} {z : Int32 × Nat} (hp : p ≤ len) (h : mName len b tm p = some z) : z.2 ≤ len := by
  have q := (mName_ok h).2.1
  have : lw len b p ≤ len - p := lwF_le _ _ _
  omega
section MP2
variable {d : Nat} {σ : jS} {len W : Nat} {b : Nat → Int32} {p : Nat}
theorem c159a (hx : 81 ≤ jnx σ) (hS : SH σ) (hN : NV σ) (hT : TM σ len b) (hp : p ≤ len) (hat : jI σ 666 47 = nI p) (h0 : jI σ 667 47 = 0) (hW : W = 1 ∨ W = 2 ∨ W = 3) (hw : jI σ 640 47 = nI W) (P n : Nat) {x4 x5 x6 x7 x8 : Option Value} :
    ∃ σ' v4 v7 v8, PF (fun _ _ => False) σ σ' ∧ jnx σ' = jnx σ + 1 ∧ jsl σ' = jsl σ + 3 ∧ (match mOrd len b W n p with
      | some z => jx (d + 3) 159 28 [some (.ref 47), some (.int (nI P)), some (.int (nI n)), some (.int 1), x4, x5, x6, x7, x8] [] σ = jx (d + 3) 159 192 [some (.ref 47), some (.int (nI P)), some (.int (nI n)), some (.int 1), some (.int (nI z.1)), some (.int (nI (24 * P + n))), some (.ref (jnx σ)), v7, v8] [] σ' ∧ jI σ' 666 47 = nI z.2.1 ∧ jI σ' 667 47 = 0 ∧ z.1 < 19 ∧ z.2.1 ≤ len ∧ jT σ' (jnx σ) = 20 ∧ jN σ' (jnx σ) = 3 ∧ ∀ i, i < 3 → jA σ' (jnx σ) i = z.2.2 i
      | none => jx (d + 3) 159 28 [some (.ref 47), some (.int (nI P)), some (.int (nI n)), some (.int 1), x4, x5, x6, x7, x8] [] σ = jx (d + 3) 159 274 [some (.ref 47), some (.int (nI P)), some (.int (nI n)), some (.int 1), v4, some (.int (nI (24 * P + n))), some (.ref (jnx σ)), v7, v8] [] σ' ∧ ¬ jI σ' 667 47 = 0) := by
  obtain ⟨w, σ1, e1, f1, r1⟩ := c132 (d := d) hS hN hT hp hat h0 (nI n) 24
  have hS1 := f1.1.sh hS
  have nx1 : jnx σ1 = jnx σ := f1.1.1.2.2.2.2.1
  have sl1 : jsl σ1 = jsl σ := f1.1.1.2.2.2.2.2
  have cl3 : Int32.toNatClampNeg 3 = 3 := rfl
  have cl0 : Int32.toNatClampNeg 0 = 0 := rfl
  have cl1 : Int32.toNatClampNeg 1 = 1 := rfl
  have cl2 : Int32.toNatClampNeg 2 = 2 := rfl
  have j0 : jin 3 0 := jin_n (N := 3) (k := 0) (by decide) (by decide)
  have j1 : jin 3 1 := jin_n (N := 3) (k := 1) (by decide) (by decide)
  have j2 : jin 3 2 := jin_n (N := 3) (k := 2) (by decide) (by decide)
  have nq : ¬ 47 = jnx σ := by omega
  have hk24 : (24 : Int32) * nI P + nI n = nI (24 * P + n) := by rw [show (24 : Int32) = nI 24 from rfl, nmul, nadd]
  let τ := jsA (jsA (jsA (jnA σ1 0 3) (jnx σ) 0 0) (jnx σ) 1 0) (jnx σ) 2 0
  have eτ : jsA (jsA (jsA (jnA σ1 0 3) (jnx σ) 0 0) (jnx σ) 1 0) (jnx σ) 2 0 = τ := rfl
  have F : PF (fun _ _ => False) σ τ := (((((PF.refl _ σ).mf f1).B).A (Or.inr (Nat.le_refl _))).A (Or.inr (Nat.le_refl _))).A (Or.inr (Nat.le_refl _))
  have tT : jT τ (jnx σ) = 20 := by show (if jnx σ = jnx σ1 then 20 else _) = _; rw [if_pos nx1.symm]
  have tN : jN τ (jnx σ) = 3 := by show (if jnx σ = jnx σ1 then 3 else _) = _; rw [if_pos nx1.symm]
  have tA : ∀ i, i < 3 → jA τ (jnx σ) i = 0 := fun i hi => by
    show jA (jsA (jsA (jsA (jnA σ1 0 3) (jnx σ) 0 0) (jnx σ) 1 0) (jnx σ) 2 0) (jnx σ) i = 0
    rw [zA_A, zA_A, zA_A, zB_A, if_pos nx1.symm]
    simp only [ite_self]
  have tnx : jnx τ = jnx σ + 1 := by show jnx σ1 + 1 = _; rw [nx1]
  have tsl : jsl τ = jsl σ + 3 := by show jsl σ1 + 3 = _; rw [sl1]
  have tI : jI τ = jI σ1 := rfl
  have hSτ : SH τ := F.sh hx hS
  have start : jx (d + 3) 159 28 [some (.ref 47), some (.int (nI P)), some (.int (nI n)), some (.int 1), x4, x5, x6, x7, x8] [] σ = if ¬ jI σ1 667 47 = 0 then jx (d + 3) 159 88 [some (.ref 47), some (.int (nI P)), some (.int (nI n)), some (.int 1), some (.int w), some (.int (nI (24 * P + n))), some (.ref (jnx σ)), x7, x8] [] τ else jx (d + 3) 159 80 [some (.ref 47), some (.int (nI P)), some (.int (nI n)), some (.int 1), some (.int w), some (.int (nI (24 * P + n))), some (.ref (jnx σ)), x7, x8] [] τ := by
    rw [k159_28, if_neg (by decide), k159_32 (sT_47 hS), if_neg (fun z => z h0), k159_39 (sT_47 hS), e1]
    simp only [Option.bind_some, Option.toList_some, List.cons_append, List.nil_append]
    have tT1 : jT (jnA σ1 0 (Int32.toNatClampNeg 3)) (jnx σ1) = 20 := by rw [zB_T, if_pos rfl]
    have tN1 : jN (jnA σ1 0 (Int32.toNatClampNeg 3)) (jnx σ1) = 3 := by rw [zB_N, if_pos rfl]; rfl
    rw [k159_46 tT1 (by rw [tN1]; exact j0) (by rw [tN1]; exact j1) (by rw [tN1]; exact j2) (by rw [zB_T, if_neg (by rw [nx1]; exact nq)]; exact sT_47 hS1)]
    rw [hk24, nx1, cl3, cl0, cl1, cl2, eτ, zB_I]
  have stop : ∀ (υ : jS), SH υ → ¬ jI υ 667 47 = 0 → ∀ y4 y5 y6 y7 y8 : Option Value, jx (d + 3) 159 141 [some (.ref 47), some (.int (nI P)), some (.int (nI n)), some (.int 1), y4, y5, y6, y7, y8] [] υ = jx (d + 3) 159 274 [some (.ref 47), some (.int (nI P)), some (.int (nI n)), some (.int 1), y4, y5, y6, y7, y8] [] υ := by
    intro υ hSu hf y4 y5 y6 y7 y8
    rw [k159_141 (sT_47 hSu), if_pos hf, k159_185 (sT_47 hSu), if_pos hf]
  unfold mOrd
  cases hM : mName len b (nI n = 24) p with
  | none =>
    rw [hM] at r1
    have r1 : ¬ jI σ1 667 47 = 0 := r1
    refine ⟨τ, some (.int w), some (.int 0), some (.int 0), F, tnx, tsl, ?_, by rw [tI]; exact r1⟩
    rw [start, if_pos r1, k159_88, k159_94, if_pos (by decide)]
    exact stop τ hSτ (by rw [tI]; exact r1) _ _ _ _ _
  | some z =>
    rw [hM] at r1
    obtain ⟨w1, a1, z1⟩ := r1
    obtain ⟨⟨k, hk, zk⟩, -, -, -⟩ := mName_ok hM
    have hp1 := mName_le hp hM
    have wk : w = nI k := w1.trans zk
    have kc : z.1.toNatClampNeg = k := by rw [zk]; exact nI_clamp (by omega)
    have hr3 : regN k ≤ 3 := by
      rcases k19 hk with h | h | h | h | h | h | h | h | h | h | h | h | h | h | h | h | h | h | h <;> (subst h; decide)
    have hTτ : TM τ len b := F.tm hx (fun _ => id) hT
    obtain ⟨σ2, v8, e2, f2, r2⟩ := c159r (d := d) (len := len) (b := b) (q := jnx σ) (by omega) (x1 := some (.int (nI P))) (x2 := some (.int (nI n))) (x3 := some (.int 1)) (x4 := some (.int (nI k))) (x5 := some (.int (nI (24 * P + n)))) hr3 (regN k) 0 z.2 (fun _ => 0) τ (by omega) hSτ hTτ hp1 (by rw [tI]; exact a1) (by rw [tI]; exact z1) tT tN tA
    have F2 := F.mq f2 (Nat.le_refl _)
    have hS2 := F2.sh hx hS
    have to94 : jx (d + 3) 159 28 [some (.ref 47), some (.int (nI P)), some (.int (nI n)), some (.int 1), x4, x5, x6, x7, x8] [] σ = jx (d + 3) 159 141 [some (.ref 47), some (.int (nI P)), some (.int (nI n)), some (.int 1), some (.int (nI k)), some (.int (nI (24 * P + n))), some (.ref (jnx σ)), some (.int (nI (regN k))), v8] [] σ2 := by
      rw [start, if_neg (fun y => y z1), wk, k159_80, c137 hk]
      simp only [Option.bind_some, Option.toList_some, List.cons_append, List.nil_append]
      rw [k159_85]
      exact e2
    rw [Option.bind_some, kc]
    cases hR : mRegsP len b (regN k) 0 z.2 (fun _ => 0) with
    | none =>
      rw [hR] at r2
      have r2 : ¬ jI σ2 667 47 = 0 := r2
      refine ⟨σ2, some (.int (nI k)), some (.int (nI (regN k))), v8, F2, by rw [f2.1.1.2.2.2.2.1]; exact tnx, by rw [f2.1.1.2.2.2.2.2]; exact tsl, ?_, r2⟩
      rw [to94]
      exact stop σ2 hS2 r2 _ _ _ _ _
    | some y =>
      rw [hR] at r2
      obtain ⟨a2, z2, l2, g2⟩ := r2
      have t12 : jT σ2 (jnx σ) = 20 := by rw [f2.1.1.1]; exact tT
      have t22 : jN σ2 (jnx σ) = 3 := by rw [f2.1.1.2.1]; exact tN
      have hw2 : jI σ2 640 47 = nI W := by rw [F2.f47 hx (by decide)]; exact hw
      obtain ⟨σ3, f3, r3⟩ := c159n (d := d) (q := jnx σ) (by omega) hS2 (F2.tm hx (fun _ => id) hT) l2 a2 z2 hW hw2 hk t12 t22 g2 (x1 := some (.int (nI P))) (x2 := some (.int (nI n))) (x3 := some (.int 1)) (x5 := some (.int (nI (24 * P + n)))) (x7 := some (.int (nI (regN k)))) (x8 := v8)
      have F3 := F2.mq f3 (Nat.le_refl _)
      refine ⟨σ3, some (.int (nI k)), some (.int (nI (regN k))), v8, F3, by rw [f3.1.1.2.2.2.2.1, f2.1.1.2.2.2.2.1]; exact tnx, by rw [f3.1.1.2.2.2.2.2, f2.1.1.2.2.2.2.2]; exact tsl, ?_⟩
      rw [Option.bind_some]
      cases hO : mNumP len b W k y.1 y.2 with
      | none =>
        rw [hO] at r3
        exact ⟨to94.trans r3.1, r3.2⟩
      | some x =>
        rw [hO] at r3
        obtain ⟨q1, q2, q3, q4, q5⟩ := r3
        exact ⟨to94.trans q1, q2, q3, hk, q4, by rw [f3.1.1.1]; exact t12, by rw [f3.1.1.2.1]; exact t22, q5⟩
end MP2
end S_46
section S_47
/-! the reference's reader: a program whole -/
def PP (P a i : Nat) : Prop := (a = 65 ∧ i = P) ∨ (66 ≤ a ∧ a ≤ 69 ∧ 24 * P ≤ i ∧ i < 24 * P + 24)
def mFn (k : Nat) (g : Nat → Int32) : Nat → Int32 := fun j => if j = 0 then nI k else if j ≤ 3 then g (j - 1) else 0
def mOrds (len : Nat) (b : Nat → Int32) (W : Nat) : Nat → Nat → Nat → Option (List (Nat → Int32))
  | 0, _, _ => none
  | f + 1, n, p => (mOrd len b W n p).bind (fun z => if tv len b (sk len b z.2.1) = 59 then (mOrds len b W f (n + 1) (sk len b (sk len b z.2.1 + 1))).map (fun os => mFn z.1 z.2.2 :: os) else if len ≤ sk len b z.2.1 then some [mFn z.1 z.2.2] else none)
theorem jnf4 {j : Nat} (h : j < 4) : j = 0 ∨ j = 1 ∨ j = 2 ∨ j = 3 := by omega
section MP3
variable {d : Nat} {len W : Nat} {b : Nat → Int32}
theorem c159b {σ : jS} {p : Nat} (hx : 81 ≤ jnx σ) (hS : SH σ) (hT : TM σ len b) (hp : p ≤ len) (hat : jI σ 666 47 = nI p) (h0 : jI σ 667 47 = 0) {P n k q : Nat} (hP : P < 16) (hn : n < 24) (hq : 81 ≤ q) (t1 : jT σ q = 20) (t2 : jN σ q = 3) {g : Nat → Int32} (hg : ∀ i, i < 3 → jA σ q i = g i) {x7 x8 : Option Value} :
    ∃ σ' x3, jx (d + 3) 159 192 [some (.ref 47), some (.int (nI P)), some (.int (nI n)), some (.int 1), some (.int (nI k)), some (.int (nI (24 * P + n))), some (.ref q), x7, x8] [] σ = jx (d + 3) 159 28 [some (.ref 47), some (.int (nI P)), some (.int (nI (n + 1))), some (.int x3), some (.int (nI k)), some (.int (nI (24 * P + n))), some (.ref q), x7, x8] [] σ' ∧ PF (PP P) σ σ' ∧ jnx σ' = jnx σ ∧ jsl σ' = jsl σ ∧ (∀ j i, j < 4 → i ≠ 24 * P + n → jA σ' (66 + j) i = jA σ (66 + j) i) ∧ (∀ j, j < 4 → jA σ' (66 + j) (24 * P + n) = mFn k g j) ∧ (if tv len b (sk len b p) = 59 then x3 = 1 ∧ jI σ' 667 47 = 0 ∧ jI σ' 666 47 = nI (sk len b (sk len b p + 1)) else if len ≤ sk len b p then x3 = 0 ∧ jI σ' 667 47 = 0 else ¬ jI σ' 667 47 = 0) := by
  have hl : len ≤ 400 := hT.2.1
  have hK : 24 * P + n < 384 := by omega
  have hj : jin 384 (nI (24 * P + n)) := jin_n hK (by decide)
  have hcl : (nI (24 * P + n)).toNatClampNeg = 24 * P + n := nI_clamp (by omega)
  have cl0 : Int32.toNatClampNeg 0 = 0 := rfl
  have cl1 : Int32.toNatClampNeg 1 = 1 := rfl
  have cl2 : Int32.toNatClampNeg 2 = 2 := rfl
  have j0 : jin 3 0 := jin_n (N := 3) (k := 0) (by decide) (by decide)
  have j1 : jin 3 1 := jin_n (N := 3) (k := 1) (by decide) (by decide)
  have j2 : jin 3 2 := jin_n (N := 3) (k := 2) (by decide) (by decide)
  have q66 : ¬ q = 66 := by omega
  have q67 : ¬ q = 67 := by omega
  have q68 : ¬ q = 68 := by omega
  obtain ⟨τ, eτ⟩ : ∃ τ, jsA (jsA (jsA (jsA σ 66 (24 * P + n) (nI k)) 67 (24 * P + n) (jA σ q 0)) 68 (24 * P + n) (jA σ q 1)) 69 (24 * P + n) (jA σ q 2) = τ := ⟨_, rfl⟩
  have b0 : jA (jsA σ 66 (24 * P + n) (nI k)) q 0 = jA σ q 0 := by rw [zA_A, if_neg (fun y => q66 y.1)]
  have b1 : jA (jsA (jsA σ 66 (24 * P + n) (nI k)) 67 (24 * P + n) (jA σ q 0)) q 1 = jA σ q 1 := by rw [zA_A, if_neg (fun y => q67 y.1), zA_A, if_neg (fun y => q66 y.1)]
  have b2 : jA (jsA (jsA (jsA σ 66 (24 * P + n) (nI k)) 67 (24 * P + n) (jA σ q 0)) 68 (24 * P + n) (jA σ q 1)) q 2 = jA σ q 2 := by rw [zA_A, if_neg (fun y => q68 y.1), zA_A, if_neg (fun y => q67 y.1), zA_A, if_neg (fun y => q66 y.1)]
  have pp : ∀ a, 66 ≤ a → a ≤ 69 → PP P a (24 * P + n) := fun a h1 h2 => Or.inr ⟨h1, h2, by omega, by omega⟩
  have F : PF (PP P) σ τ := eτ ▸ ((((PF.refl _ σ).A (Or.inl (pp 66 (by decide) (by decide)))).A (Or.inl (pp 67 (by decide) (by decide)))).A (Or.inl (pp 68 (by decide) (by decide)))).A (Or.inl (pp 69 (by decide) (by decide)))
  have hSτ : SH τ := F.sh hx hS
  have tI : jI τ = jI σ := by rw [← eτ, zA_I, zA_I, zA_I, zA_I]
  have tx : jnx τ = jnx σ := by rw [← eτ, zA_nx, zA_nx, zA_nx, zA_nx]
  have tl : jsl τ = jsl σ := by rw [← eτ, zA_sl, zA_sl, zA_sl, zA_sl]
  have hTτ : TM τ len b := ⟨by rw [tI]; exact hT.1, hT.2.1, fun i hi => by
    rw [← eτ, zA_A, if_neg (fun y => absurd y.1 (by decide)), zA_A, if_neg (fun y => absurd y.1 (by decide)), zA_A, if_neg (fun y => absurd y.1 (by decide)), zA_A, if_neg (fun y => absurd y.1 (by decide))]
    exact hT.2.2 i hi⟩
  have c := c148 (d := d) hSτ hTτ hp (by rw [tI]; exact hat)
  have to : jx (d + 3) 159 192 [some (.ref 47), some (.int (nI P)), some (.int (nI n)), some (.int 1), some (.int (nI k)), some (.int (nI (24 * P + n))), some (.ref q), x7, x8] [] σ = (jx (d + 2) 148 0 [some (.ref 47)] [] τ).bind (fun z => jx (d + 3) 159 241 [some (.ref 47), some (.int (nI P)), some (.int (nI (n + 1))), some (.int 1), some (.int (nI k)), some (.int (nI (24 * P + n))), some (.ref q), x7, x8] (z.1.toList ++ []) z.2) := by
    rw [← eτ]
    simp (decide := true) only [k159_192, sT_1, sT_2, sT_3, sT_16, sT_17, sT_18, sT_19, sT_20, sT_21, sT_22, sT_23, sT_24, sT_25, sT_26, sT_27, sT_28, sT_29, sT_30, sT_31, sT_32, sT_33, sT_34, sT_35, sT_36, sT_37, sT_38, sT_39, sT_40, sT_41, sT_42, sT_43, sT_44, sT_45, sT_46, sT_47, sT_48, sT_49, sT_50, sT_51, sT_52, sT_53, sT_54, sT_55, sT_56, sT_57, sT_58, sT_59, sT_60, sT_61, sT_62, sT_63, sT_64, sT_65, sT_66, sT_67, sT_68, sT_69, sT_70, sT_71, sT_72, sT_73, sT_74, sT_75, sT_76, sT_77, sT_78, sT_79, sT_80, sN_1, sN_2, sN_19, sN_21, sN_23, sN_24, sN_26, sN_29, sN_31, sN_33, sN_35, sN_36, sN_37, sN_39, sN_40, sN_42, sN_44, sN_45, sN_46, sN_48, sN_49, sN_50, sN_51, sN_52, sN_53, sN_54, sN_55, sN_56, sN_57, sN_58, sN_59, sN_60, sN_61, sN_62, sN_63, sN_64, sN_65, sN_66, sN_67, sN_68, sN_69, sN_70, sN_71, sN_72, sN_73, sN_74, sN_75, sN_76, sN_77, sN_78, sN_79, sN_80, sR_0_34, sR_0_38, sR_1_34, sR_1_38, sR_64_20, sR_64_22, sR_128_25, sR_128_28, sR_194_17, sR_195_17, sR_196_17, sR_197_17, sR_258_30, sR_258_32, sR_258_41, sR_384_43, sR_448_18, sR_512_27, sR_513_27, sR_514_27, sR_515_27, sR_516_27, sR_576_16, sR_577_16, sR_578_16, sR_579_16, sR_580_16, sR_581_16, sR_582_16, sR_583_16, sR_584_16, sR_641_47, sR_643_47, sR_645_47, sR_646_47, sR_647_47, sR_648_47, sR_649_47, sR_650_47, sR_651_47, sR_652_47, sR_653_47, sR_654_47, sR_655_47, sR_656_47, sR_657_47, sR_658_47, sR_659_47, sR_661_47, sR_662_47, sR_663_47, sR_664_47, sR_665_47, sR_669_47, sR_670_47, sR_671_47, sR_672_47, sR_673_47, sR_674_47, sR_676_47, sR_677_47, sR_679_47, sR_680_47, sR_681_47, SH_I, SH_A, SH_G, SH_C, hS, t1, t2, hj, hcl, cl0, cl1, cl2, j0, j1, j2, b0, b1, b2, nI_succ, Option.getD_some, ne_eq, reduceCtorEq, not_false_eq_true, not_true_eq_false, Option.bind_some, Option.toList_none, Option.toList_some, List.nil_append, List.cons_append, List.append_nil, ↓reduceIte, and_self, true_and, and_true, false_and, and_false, or_true, true_or, or_false, false_or, Nat.reduceEqDiff, Nat.reduceAdd, Int32.reduceMul, Int32.reduceAdd, Int32.reduceSub, Int32.reduceToNatClampNeg, Int32.reduceOfNat, Int32.reduceLT, Int32.reduceLE, va_rf]
  have k1 := sk_le (b := b) hp
  have u1 : ∀ j i, j < 4 → i ≠ 24 * P + n → jA τ (66 + j) i = jA σ (66 + j) i := by
    intro j i hj4 hi
    rw [← eτ]
    rw [zA_A, if_neg (fun y => hi y.2), zA_A, if_neg (fun y => hi y.2), zA_A, if_neg (fun y => hi y.2), zA_A, if_neg (fun y => hi y.2)]
  have u2 : ∀ j, j < 4 → jA τ (66 + j) (24 * P + n) = mFn k g j := by
    intro j hj4
    rw [← eτ, hg 0 (by decide), hg 1 (by decide), hg 2 (by decide)]
    rcases jnf4 hj4 with h | h | h | h <;> subst h <;> simp (decide := true) only [zA_A, mFn, ↓reduceIte]
  by_cases h59 : tv len b (sk len b p) = 59
  · rw [if_pos h59] at c
    refine ⟨jsI τ 666 47 (nI (sk len b (sk len b p + 1))), 1, ?_, F.I (Or.inl rfl), by rw [zI_nx]; exact tx, by rw [zI_sl]; exact tl, by rw [zI_A]; exact u1, by rw [zI_A]; exact u2, ?_⟩
    · rw [to, c]
      simp (decide := true) only [k159_241, k159_244, k159_274, Option.getD_some, ne_eq, reduceCtorEq, not_false_eq_true, not_true_eq_false, Option.bind_some, Option.toList_none, Option.toList_some, List.nil_append, List.cons_append, List.append_nil, ↓reduceIte, and_self, true_and, and_true, false_and, and_false, or_true, true_or, or_false, false_or, Nat.reduceEqDiff, Nat.reduceAdd, Int32.reduceMul, Int32.reduceAdd, Int32.reduceSub, Int32.reduceToNatClampNeg, Int32.reduceOfNat, Int32.reduceLT, Int32.reduceLE, va_rf]
    · rw [if_pos h59]
      refine ⟨rfl, ?_, ?_⟩
      · rw [zI_I, if_neg (by decide), tI]; exact h0
      · rw [zI_I, if_pos ⟨rfl, rfl⟩]
  · rw [if_neg h59] at c
    have hS5 : SH (jsI τ 666 47 (nI (sk len b p))) := by rw [SH_I]; exact hSτ
    have tp : jI (jsI τ 666 47 (nI (sk len b p))) 642 47 = nI len := by rw [zI_I, if_neg (by decide), tI]; exact hT.1
    have ta : jI (jsI τ 666 47 (nI (sk len b p))) 666 47 = nI (sk len b p) := by rw [zI_I, if_pos ⟨rfl, rfl⟩]
    by_cases he : len ≤ sk len b p
    · have hle : nI len ≤ nI (sk len b p) := nI_le he (by omega)
      refine ⟨jsI τ 666 47 (nI (sk len b p)), 0, ?_, F.I (Or.inl rfl), by rw [zI_nx]; exact tx, by rw [zI_sl]; exact tl, by rw [zI_A]; exact u1, by rw [zI_A]; exact u2, ?_⟩
      · rw [to, c]
        simp (decide := true) only [k159_241, k159_248, k159_254, k159_274, sT_47 hS5, tp, ta, hle, Option.bind_some, Option.toList_some, List.cons_append, List.nil_append, ↓reduceIte]
      · rw [if_neg h59, if_pos he]
        refine ⟨rfl, ?_⟩
        rw [zI_I, if_neg (by decide), tI]; exact h0
    · have hle : ¬ nI len ≤ nI (sk len b p) := nI_ge (by omega) (by omega)
      have h05 : jI (jsI τ 666 47 (nI (sk len b p))) 667 47 = 0 := by rw [zI_I, if_neg (by decide), tI]; exact h0
      obtain ⟨σ6, e6, f6, r6⟩ := c136x (d := d + 2) (σ := jsI τ 666 47 (nI (sk len b p))) hS5 h05 (c := 1) (by decide) (nI (sk len b p))
      have G := (F.I (g := 666) (v := nI (sk len b p)) (Or.inl rfl)).mf f6
      refine ⟨σ6, 0, ?_, G, ?_, ?_, ?_, ?_, by rw [if_neg h59, if_neg he]; exact r6⟩
      · rw [to, c]
        simp (decide := true) only [k159_241, k159_248, k159_254, k159_265, k159_274, sT_47 hS5, tp, ta, hle, e6, Option.bind_some, Option.toList_some, Option.toList_none, List.cons_append, List.nil_append, ↓reduceIte]
      · rw [f6.1.1.2.2.2.2.1, zI_nx]; exact tx
      · rw [f6.1.1.2.2.2.2.2, zI_sl]; exact tl
      · intro j i hj4 hi
        rw [(f6.1.2 (66 + j) (by simp; omega)).2, zI_A]; exact u1 j i hj4 hi
      · intro j hj4
        rw [(f6.1.2 (66 + j) (by simp; omega)).2, zI_A]; exact u2 j hj4
theorem c159o {P : Nat} (hP : P < 16) (hW : W = 1 ∨ W = 2 ∨ W = 3) : ∀ (f n p : Nat) (σ : jS) (x4 x5 x6 x7 x8 : Option Value), n + f = 25 → 81 ≤ jnx σ → SH σ → NV σ → TM σ len b → p ≤ len → jI σ 666 47 = nI p → jI σ 667 47 = 0 → jI σ 640 47 = nI W → 1 ≤ f →
    ∃ σ' n' x3 v4 v5 v6 v7 v8, jx (d + 3) 159 28 [some (.ref 47), some (.int (nI P)), some (.int (nI n)), some (.int 1), x4, x5, x6, x7, x8] [] σ = jx (d + 3) 159 277 [some (.ref 47), some (.int (nI P)), some (.int (nI n')), some (.int x3), v4, v5, v6, v7, v8] [] σ' ∧ PF (PP P) σ σ' ∧ jnx σ' ≤ jnx σ + f ∧ jsl σ' ≤ jsl σ + 3 * f ∧ (∀ j i, j < 4 → i < 24 * P + n → jA σ' (66 + j) i = jA σ (66 + j) i) ∧ (match mOrds len b W f n p with | some os => n' = n + os.length ∧ n' ≤ 24 ∧ jI σ' 667 47 = 0 ∧ (∀ i j, i < os.length → j < 4 → jA σ' (66 + j) (24 * P + n + i) = (os.getD i (fun _ => 0)) j) | none => ¬ jI σ' 667 47 = 0) := by
  intro f
  induction f with
  | zero => intro n p σ x4 x5 x6 x7 x8 h1 h2 h3 h4 h5 h6 h7 h8 h9 h10; exact absurd h10 (by decide)
  | succ f ih =>
    intro n p σ x4 x5 x6 x7 x8 hn hx hS hN hT hp hat h0 hw _
    have out : ∀ (υ : jS), SH υ → ∀ (m : Nat) (x3 : Int32) (y4 y5 y6 y7 y8 : Option Value), (x3 = 0 ∨ ¬ jI υ 667 47 = 0) → jx (d + 3) 159 28 [some (.ref 47), some (.int (nI P)), some (.int (nI m)), some (.int x3), y4, y5, y6, y7, y8] [] υ = jx (d + 3) 159 277 [some (.ref 47), some (.int (nI P)), some (.int (nI m)), some (.int x3), y4, y5, y6, y7, y8] [] υ := by
      intro υ hSu m x3 y4 y5 y6 y7 y8 h
      rw [k159_28]
      by_cases h3 : x3 = 0
      · rw [if_pos h3]
      · rw [if_neg h3, k159_32 (sT_47 hSu), if_pos (h.resolve_left h3)]
    obtain ⟨σ1, w4, w7, w8, F1, nx1, sl1, r1⟩ := c159a (d := d) hx hS hN hT hp hat h0 hW hw P n (x4 := x4) (x5 := x5) (x6 := x6) (x7 := x7) (x8 := x8)
    have hS1 := F1.sh hx hS
    have G1 : PF (PP P) σ σ1 := F1.mono (fun _ _ z => z.elim)
    have keep1 : ∀ j i, j < 4 → jA σ1 (66 + j) i = jA σ (66 + j) i := fun j i hj => F1.ar hx (by omega) i id (by omega)
    unfold mOrds
    cases hO : mOrd len b W n p with
    | none =>
      rw [hO] at r1
      obtain ⟨e1, z1⟩ := r1
      refine ⟨σ1, n, 1, w4, some (.int (nI (24 * P + n))), some (.ref (jnx σ)), w7, w8, ?_, G1, by omega, by omega, fun j i hj _ => keep1 j i hj, z1⟩
      rw [e1, k159_274]
      exact out σ1 hS1 n 1 _ _ _ _ _ (Or.inr z1)
    | some z =>
      rw [hO] at r1
      obtain ⟨e1, a1, z1, hk, hl1, t1, t2, hg⟩ := r1
      have hn24 : n < 24 := by
        have hM : ∃ y, mName len b (nI n = 24) p = some y := by
          unfold mOrd at hO
          obtain ⟨y, hy, _⟩ := Option.bind_eq_some_iff.mp hO
          exact ⟨y, hy⟩
        obtain ⟨y, hy⟩ := hM
        have := (mName_ok hy).2.2.2
        have h24 : n ≠ 24 := fun e => this (by rw [e]; rfl)
        omega
      obtain ⟨σ2, x3, e2, F2, nx2, sl2, k2, g2, r2⟩ := c159b (d := d) (len := len) (b := b) (σ := σ1) (p := z.2.1) (by omega) hS1 (F1.tm hx (fun _ => id) hT) hl1 a1 z1 (P := P) (n := n) (k := z.1) (q := jnx σ) hP hn24 hx t1 t2 hg (x7 := w7) (x8 := w8)
      have hS2 := F2.sh (by omega) hS1
      have G2 := G1.trans F2
      have n48 : ∀ i, ¬ PP P 48 i := fun i z => by rcases z with z | z <;> omega
      have n70 : ∀ i, ¬ PP P 70 i := fun i z => by rcases z with z | z <;> omega
      have hT2 : TM σ2 len b := G2.tm hx n48 hT
      rw [Option.bind_some]
      by_cases h59 : tv len b (sk len b z.2.1) = 59
      · rw [if_pos h59] at r2
        rw [if_pos h59]
        obtain ⟨x31, z2, a2⟩ := r2
        have pk := sk_le (b := b) hl1
        have plt : sk len b z.2.1 < len := tv_lit h59 (by decide)
        have pk2 := sk_le (b := b) (p := sk len b z.2.1 + 1) plt
        obtain ⟨σ3, n', x3', v4, v5, v6, v7, v8, e3, F3, nx3, sl3, k3, r3⟩ := ih (n + 1) (sk len b (sk len b z.2.1 + 1)) σ2 (some (.int (nI z.1))) (some (.int (nI (24 * P + n)))) (some (.ref (jnx σ))) w7 w8 (by omega) (by omega) hS2 (G2.nv hx n70 hN) hT2 pk2.2 a2 z2 (by rw [G2.f47 hx (by decide)]; exact hw) (by omega)
        refine ⟨σ3, n', x3', v4, v5, v6, v7, v8, ?_, G2.trans F3, by omega, by omega, ?_, ?_⟩
        · rw [e1, e2, x31, e3]
        · intro j i hj hi
          rw [k3 j i hj (by omega), k2 j i hj (by omega), keep1 j i hj]
        · cases hR : mOrds len b W f (n + 1) (sk len b (sk len b z.2.1 + 1)) with
          | none => rw [hR] at r3; exact r3
          | some os =>
            rw [hR] at r3
            obtain ⟨q1, q2, q3, q4⟩ := r3
            refine ⟨by rw [q1, List.length_cons]; omega, q2, q3, fun i j hi hj => ?_⟩
            cases i with
            | zero =>
              rw [show 24 * P + n + 0 = 24 * P + n from rfl, k3 j (24 * P + n) hj (by omega), g2 j hj]
              rfl
            | succ i =>
              rw [show 24 * P + n + (i + 1) = 24 * P + (n + 1) + i by omega, q4 i j (by rw [List.length_cons] at hi; omega) hj]
              rfl
      · rw [if_neg h59] at r2
        rw [if_neg h59]
        by_cases he : len ≤ sk len b z.2.1
        · rw [if_pos he] at r2
          rw [if_pos he]
          obtain ⟨x30, z2⟩ := r2
          refine ⟨σ2, n + 1, 0, some (.int (nI z.1)), some (.int (nI (24 * P + n))), some (.ref (jnx σ)), w7, w8, ?_, G2, by omega, by omega, ?_, rfl, by omega, z2, ?_⟩
          · rw [e1, e2, x30]
            exact out σ2 hS2 (n + 1) 0 _ _ _ _ _ (Or.inl rfl)
          · intro j i hj hi
            rw [k2 j i hj (by omega), keep1 j i hj]
          · intro i j hi hj
            have i0 : i = 0 := by rw [List.length_cons, List.length_nil] at hi; omega
            subst i0
            rw [show 24 * P + n + 0 = 24 * P + n from rfl, g2 j hj]
            rfl
        · rw [if_neg he] at r2
          rw [if_neg he]
          refine ⟨σ2, n + 1, x3, some (.int (nI z.1)), some (.int (nI (24 * P + n))), some (.ref (jnx σ)), w7, w8, ?_, G2, by omega, by omega, ?_, r2⟩
          · rw [e1, e2]
            exact out σ2 hS2 (n + 1) x3 _ _ _ _ _ (Or.inr r2)
          · intro j i hj hi
            rw [k2 j i hj (by omega), keep1 j i hj]
def mProg (len : Nat) (b : Nat → Int32) (W : Nat) : Option (List (Nat → Int32)) := if len ≤ sk len b 0 then some [] else mOrds len b W 25 0 (sk len b 0)
theorem c159 {σ : jS} {P : Nat} (hP : P < 16) (hW : W = 1 ∨ W = 2 ∨ W = 3) (hx : 81 ≤ jnx σ) (hS : SH σ) (hN : NV σ) (hT : TM σ len b) (h0 : jI σ 667 47 = 0) (hw : jI σ 640 47 = nI W) :
    ∃ σ', jx (d + 3) 159 0 [some (.ref 47), some (.int (nI P)), none, none, none, none, none, none, none] [] σ = some (none, σ') ∧ PF (PP P) σ σ' ∧ jnx σ' ≤ jnx σ + 25 ∧ jsl σ' ≤ jsl σ + 75 ∧ (match mProg len b W with | some os => jA σ' 65 P = nI os.length ∧ os.length ≤ 24 ∧ jI σ' 667 47 = 0 ∧ (∀ i j, i < os.length → j < 4 → jA σ' (66 + j) (24 * P + i) = (os.getD i (fun _ => 0)) j) | none => ¬ jI σ' 667 47 = 0) := by
  have hl : len ≤ 400 := hT.2.1
  have pk := sk_le (b := b) (Nat.zero_le len)
  have hS1 : SH (jsI σ 666 47 0) := by rw [SH_I]; exact hS
  have hT1 : TM (jsI σ 666 47 0) len b := by rw [TM_I (by decide)]; exact hT
  have c := c129 (d := d + 1) hS1 hT1 (p := 0) (by omega) (by rw [zI_I, if_pos ⟨rfl, rfl⟩]; rfl)
  have hS2 : SH (jsI (jsI σ 666 47 0) 666 47 (nI (sk len b 0))) := by rw [SH_I, SH_I]; exact hS
  have start : jx (d + 3) 159 0 [some (.ref 47), some (.int (nI P)), none, none, none, none, none, none, none] [] σ = jx (d + 3) 159 11 [some (.ref 47), some (.int (nI P)), some (.int (nI 0)), none, none, none, none, none, none] [] (jsI σ 666 47 (nI (sk len b 0))) := by
    rw [k159_0 (sT_47 hS), c, jsI_jsI]
    rfl
  rw [jsI_jsI] at hS2
  have ta : jI (jsI σ 666 47 (nI (sk len b 0))) 666 47 = nI (sk len b 0) := by rw [zI_I, if_pos ⟨rfl, rfl⟩]
  have tp : jI (jsI σ 666 47 (nI (sk len b 0))) 642 47 = nI len := by rw [zI_I, if_neg (by decide)]; exact hT.1
  have F2 : PF (PP P) σ (jsI σ 666 47 (nI (sk len b 0))) := (PF.refl _ σ).I (Or.inl rfl)
  have hjp : jin 16 (nI P) := jin_n hP (by decide)
  have hcp : (nI P).toNatClampNeg = P := nI_clamp (by omega)
  have fin : ∀ (υ : jS), SH υ → ∀ (m : Nat) (y3 y4 y5 y6 y7 y8 : Option Value), jx (d + 3) 159 277 [some (.ref 47), some (.int (nI P)), some (.int (nI m)), y3, y4, y5, y6, y7, y8] [] υ = some (none, jsA υ 65 P (nI m)) := by
    intro υ hSu m y3 y4 y5 y6 y7 y8
    simp (decide := true) only [k159_277, sT_1, sT_2, sT_3, sT_16, sT_17, sT_18, sT_19, sT_20, sT_21, sT_22, sT_23, sT_24, sT_25, sT_26, sT_27, sT_28, sT_29, sT_30, sT_31, sT_32, sT_33, sT_34, sT_35, sT_36, sT_37, sT_38, sT_39, sT_40, sT_41, sT_42, sT_43, sT_44, sT_45, sT_46, sT_47, sT_48, sT_49, sT_50, sT_51, sT_52, sT_53, sT_54, sT_55, sT_56, sT_57, sT_58, sT_59, sT_60, sT_61, sT_62, sT_63, sT_64, sT_65, sT_66, sT_67, sT_68, sT_69, sT_70, sT_71, sT_72, sT_73, sT_74, sT_75, sT_76, sT_77, sT_78, sT_79, sT_80, sN_1, sN_2, sN_19, sN_21, sN_23, sN_24, sN_26, sN_29, sN_31, sN_33, sN_35, sN_36, sN_37, sN_39, sN_40, sN_42, sN_44, sN_45, sN_46, sN_48, sN_49, sN_50, sN_51, sN_52, sN_53, sN_54, sN_55, sN_56, sN_57, sN_58, sN_59, sN_60, sN_61, sN_62, sN_63, sN_64, sN_65, sN_66, sN_67, sN_68, sN_69, sN_70, sN_71, sN_72, sN_73, sN_74, sN_75, sN_76, sN_77, sN_78, sN_79, sN_80, sR_0_34, sR_0_38, sR_1_34, sR_1_38, sR_64_20, sR_64_22, sR_128_25, sR_128_28, sR_194_17, sR_195_17, sR_196_17, sR_197_17, sR_258_30, sR_258_32, sR_258_41, sR_384_43, sR_448_18, sR_512_27, sR_513_27, sR_514_27, sR_515_27, sR_516_27, sR_576_16, sR_577_16, sR_578_16, sR_579_16, sR_580_16, sR_581_16, sR_582_16, sR_583_16, sR_584_16, sR_641_47, sR_643_47, sR_645_47, sR_646_47, sR_647_47, sR_648_47, sR_649_47, sR_650_47, sR_651_47, sR_652_47, sR_653_47, sR_654_47, sR_655_47, sR_656_47, sR_657_47, sR_658_47, sR_659_47, sR_661_47, sR_662_47, sR_663_47, sR_664_47, sR_665_47, sR_669_47, sR_670_47, sR_671_47, sR_672_47, sR_673_47, sR_674_47, sR_676_47, sR_677_47, sR_679_47, sR_680_47, sR_681_47, SH_I, SH_A, SH_G, SH_C, hSu, hjp, hcp, Option.getD_some, ne_eq, reduceCtorEq, not_false_eq_true, not_true_eq_false, Option.bind_some, Option.toList_none, Option.toList_some, List.nil_append, List.cons_append, List.append_nil, ↓reduceIte, and_self, true_and, and_true, false_and, and_false, or_true, true_or, or_false, false_or, Nat.reduceEqDiff, Nat.reduceAdd, Int32.reduceMul, Int32.reduceAdd, Int32.reduceSub, Int32.reduceToNatClampNeg, Int32.reduceOfNat, Int32.reduceLT, Int32.reduceLE, va_rf]
  have n65 : PP P 65 P := Or.inl ⟨rfl, rfl⟩
  unfold mProg
  by_cases he : len ≤ sk len b 0
  · rw [if_pos he]
    have hle : nI len ≤ nI (sk len b 0) := nI_le he (by omega)
    refine ⟨jsA (jsI σ 666 47 (nI (sk len b 0))) 65 P (nI 0), ?_, F2.A (Or.inl n65), by show jnx σ ≤ _; omega, by show jsl σ ≤ _; omega, ?_, by decide, ?_, fun i j hi => absurd hi (Nat.not_lt_zero i)⟩
    · rw [start, k159_11 (sT_47 hS2), ta, tp, if_pos hle, k159_26, k159_28, if_pos rfl]
      exact fin _ hS2 0 _ _ _ _ _ _
    · rw [zA_A, if_pos ⟨rfl, rfl⟩]; rfl
    · rw [zA_I, zI_I, if_neg (by decide)]; exact h0
  · rw [if_neg he]
    have hle : ¬ nI len ≤ nI (sk len b 0) := nI_ge (by omega) (by omega)
    obtain ⟨σ3, n', x3, v4, v5, v6, v7, v8, e3, F3, nx3, sl3, k3, r3⟩ := c159o (d := d) (len := len) (W := W) (b := b) hP hW 25 0 (sk len b 0) (jsI σ 666 47 (nI (sk len b 0))) none none none none none rfl hx hS2 (F2.nv hx (fun i z => by rcases z with z | z <;> omega) hN) (F2.tm hx (fun i z => by rcases z with z | z <;> omega) hT) pk.2 ta (by rw [zI_I, if_neg (by decide)]; exact h0) (by rw [zI_I, if_neg (by decide)]; exact hw) (by decide)
    have hS3 := F3.sh hx hS2
    refine ⟨jsA σ3 65 P (nI n'), ?_, (F2.trans F3).A (Or.inl n65), nx3, sl3, ?_⟩
    · rw [start, k159_11 (sT_47 hS2), ta, tp, if_neg hle, k159_22, e3]
      exact fin _ hS3 n' _ _ _ _ _ _
    · cases hR : mOrds len b W 25 0 (sk len b 0) with
      | none => rw [hR] at r3; exact r3
      | some os =>
        rw [hR] at r3
        obtain ⟨q1, q2, q3, q4⟩ := r3
        refine ⟨by rw [zA_A, if_pos ⟨rfl, rfl⟩, q1, Nat.zero_add], by omega, q3, fun i j hi hj => ?_⟩
        rw [zA_A, if_neg (by omega)]
        exact q4 i j hi hj
end MP3
end S_47
section S_48
/-! the reference's reader: the pieces of a side -/
def rdA (σ : jS) (W len : Nat) (b : Nat → Int32) (p : Nat) : Prop := SH σ ∧ NV σ ∧ TM σ len b ∧ p ≤ len ∧ jI σ 666 47 = nI p ∧ jI σ 667 47 = 0 ∧ jI σ 640 47 = nI W
def rdB (σ : jS) (r : Nat) (rs : List Nat) : Prop := LRw σ 71 rs ∧ rs.Nodup ∧ (∀ x, x ∈ rs → x < 4) ∧ jA σ 56 r = nI rs.length
def rdC (σ : jS) (r : Nat) (ms : List Nat) (rg : Nat → Int32) : Prop := LRw σ 72 ms ∧ ms.Nodup ∧ (∀ x, x ∈ ms → x < 3) ∧ jA σ 57 r = nI ms.length ∧ ∀ j, j < 3 → jA σ 58 (3 * r + j) = rg j
def MT (σ : jS) (k : Nat) (v : Int32) : Prop := (v < 16 → jA σ 53 k = 0 ∧ jA σ 54 k = v) ∧ (16 ≤ v → jA σ 53 k = 1 ∧ jA σ 54 k = v - 16)
theorem rdA.frame {σ σ' : jS} {l : List Nat} {W len p p' : Nat} {b : Nat → Int32} (h : rdA σ W len b p) (f : FR l σ σ') (hg : ∀ g, g ≠ 666 → g ≠ 667 → g ≠ 668 → jI σ' g 47 = jI σ g 47) (h48 : 48 ∉ l) (h70 : 70 ∉ l) (hp : p' ≤ len) (ha : jI σ' 666 47 = nI p') (h0 : jI σ' 667 47 = 0) : rdA σ' W len b p' :=
  ⟨f.sh h.1, fun k hk => by rw [(f.2 70 h70).2]; exact h.2.1 k hk, ⟨by rw [hg 642 (by decide) (by decide) (by decide)]; exact h.2.2.1.1, h.2.2.1.2.1, fun i hi => by rw [(f.2 48 h48).2]; exact h.2.2.1.2.2 i hi⟩, hp, ha, h0, by rw [hg 640 (by decide) (by decide) (by decide)]; exact h.2.2.2.2.2.2⟩
theorem rdB.frame {σ σ' : jS} {l : List Nat} {r : Nat} {rs : List Nat} (h : rdB σ r rs) (f : FR l σ σ') (h71 : 71 ∉ l) (h56 : 56 ∉ l) : rdB σ' r rs := ⟨fun i hi => by rw [(f.2 71 h71).2]; exact h.1 i hi, h.2.1, h.2.2.1, by rw [(f.2 56 h56).2]; exact h.2.2.2⟩
theorem rdC.frame {σ σ' : jS} {l : List Nat} {r : Nat} {ms : List Nat} {rg : Nat → Int32} (h : rdC σ r ms rg) (f : FR l σ σ') (h72 : 72 ∉ l) (h57 : 57 ∉ l) (h58 : 58 ∉ l) : rdC σ' r ms rg := ⟨fun i hi => by rw [(f.2 72 h72).2]; exact h.1 i hi, h.2.1, h.2.2.1, by rw [(f.2 57 h57).2]; exact h.2.2.2.1, fun j hj => by rw [(f.2 58 h58).2]; exact h.2.2.2.2 j hj⟩
theorem lk_ok {rs : List Nat} {l N : Nat} {fs : Bool} {z : Nat × List Nat} (hn : rs.Nodup) (hb : ∀ x, x ∈ rs → x < N) (hl : l < N) (h : lk rs l fs = some z) : z.2.Nodup ∧ (∀ x, x ∈ z.2 → x < N) ∧ z.1 < z.2.length := by
  unfold lk at h
  split at h
  · rename_i hm
    cases h
    exact ⟨hn, hb, List.idxOf_lt_length_of_mem hm⟩
  · rename_i hm
    split at h
    · cases h
      refine ⟨?_, ?_, by rw [List.length_append]; exact Nat.lt_succ_self _⟩
      · rw [List.nodup_append]
        refine ⟨hn, by simp, ?_⟩
        intro x hx y hy
        rw [List.mem_singleton] at hy
        intro e
        exact hm (by rw [← hy, ← e]; exact hx)
      · intro x hx
        rw [List.mem_append, List.mem_singleton] at hx
        rcases hx with hx | hx
        · exact hb x hx
        · rw [hx]; exact hl
    · cases h
def mTermR (len : Nat) (b : Nat → Int32) (W op : Nat) (fs : Bool) (p : Nat) (ms : List Nat) (rg : Nat → Int32) : Option (Nat × List Nat × (Nat → Int32) × Int32) :=
  if isFg (tv len b p) then (mNum len b p).map (fun z => (z.2, ms, rg, z.1)) else (mMark len b W op fs p ms rg).map (fun z => (z.1, z.2.2.1, z.2.2.2, 16 + nI z.2.1))
def mRegsR (len : Nat) (b : Nat → Int32) (fs : Bool) : Nat → Nat → jPS → Option jPS
  | 0, _, s => some s
  | f + 1, j, s => (mGap len b s.1).bind (fun p1 => (mRegR len b fs p1 s.2.1).bind (fun z => mRegsR len b fs f (j + 1) (z.1, z.2.2, s.2.2.1, up6 s.2.2.2 (j + 1) (nI z.2.1))))
theorem mNum_lt {len : Nat} {b : Nat → Int32} {p : Nat} {z : Int32 × Nat} (h : mNum len b p = some z) : z.1 < 16 := by
  unfold mNum at h
  split at h
  · cases h
  · split at h
    · cases h
    · split at h
      · cases h
      · rename_i h3
        cases h
        rw [Int32.lt_iff_toInt_lt] at h3 ⊢
        have e1 : (15 : Int32).toInt = 15 := rfl
        have e2 : (16 : Int32).toInt = 16 := rfl
        show (nv (tv len b) p (fw len b p)).toInt < _
        omega
theorem mMark_ok {len : Nat} {b : Nat → Int32} {W op : Nat} {fs : Bool} {p : Nat} {ms : List Nat} {rg : Nat → Int32} {z : Nat × Nat × List Nat × (Nat → Int32)} (hn : ms.Nodup) (hb : ∀ x, x ∈ ms → x < 3) (h : mMark len b W op fs p ms rg = some z) : z.1 ≤ len ∧ z.2.2.1.Nodup ∧ (∀ x, x ∈ z.2.2.1 → x < 3) ∧ z.2.1 < z.2.2.1.length := by
  unfold mMark at h
  obtain ⟨y, h1, h2⟩ := Option.bind_eq_some_iff.mp h
  obtain ⟨x, h3, h4⟩ := Option.map_eq_some_iff.mp h2
  obtain ⟨l, hl, el⟩ := mLet_val (X := 105) (Y := 3) (by decide) (by decide) h1
  have hc : y.1.toNatClampNeg = l := by rw [el]; exact nI_clamp (by omega)
  rw [hc] at h3
  have q := lk_ok hn hb hl h3
  have hp := mLet_le h1
  subst h4
  exact ⟨hp, q⟩
theorem mRegR_ok {len : Nat} {b : Nat → Int32} {fs : Bool} {p : Nat} {rs : List Nat} {z : Nat × Nat × List Nat} (hn : rs.Nodup) (hb : ∀ x, x ∈ rs → x < 4) (h : mRegR len b fs p rs = some z) : z.1 ≤ len ∧ z.2.2.Nodup ∧ (∀ x, x ∈ z.2.2 → x < 4) ∧ z.2.1 < z.2.2.length := by
  unfold mRegR at h
  obtain ⟨y, h1, h2⟩ := Option.bind_eq_some_iff.mp h
  obtain ⟨x, h3, h4⟩ := Option.map_eq_some_iff.mp h2
  obtain ⟨l, hl, el⟩ := mLet_val (X := 112) (Y := 4) (by decide) (by decide) h1
  have hc : y.1.toNatClampNeg = l := by rw [el]; exact nI_clamp (by omega)
  rw [hc] at h3
  have q := lk_ok hn hb hl h3
  have hp := mLet_le h1
  subst h4
  exact ⟨hp, q⟩
theorem i16n {i : Nat} (h : i < 3) : (16 : Int32) ≤ 16 + nI i ∧ ¬ (16 + nI i : Int32) < 16 ∧ (16 + nI i : Int32) - 16 = nI i := by
  have : i = 0 ∨ i = 1 ∨ i = 2 := by omega
  rcases this with h | h | h <;> subst h <;> decide
theorem mRegsR_keep {len : Nat} {b : Nat → Int32} {fs : Bool} : ∀ (f j : Nat) (s s' : jPS), mRegsR len b fs f j s = some s' → s'.2.2.1 = s.2.2.1 ∧ ∀ t, (t ≤ j ∨ j + f < t) → s'.2.2.2 t = s.2.2.2 t := by
  intro f
  induction f with
  | zero => intro j s s' h; cases h; exact ⟨rfl, fun _ _ => rfl⟩
  | succ f ih =>
    intro j s s' h
    obtain ⟨p1, _, h2⟩ := Option.bind_eq_some_iff.mp h
    obtain ⟨z, _, h4⟩ := Option.bind_eq_some_iff.mp h2
    obtain ⟨q1, q2⟩ := ih _ _ _ h4
    refine ⟨q1, fun t ht => ?_⟩
    rw [q2 t (by omega)]
    show (if t = j + 1 then _ else s.2.2.2 t) = _
    rw [if_neg (by omega)]
section MS1
variable {d : Nat} {len W : Nat} {b : Nat → Int32}
theorem c144 {σ : jS} {p : Nat} (hA : rdA σ W len b p) {r k op : Nat} (hr : r < 24) (hk : k < 384) (ho : op < 19) {ms : List Nat} {rg : Nat → Int32} (hC : rdC σ r ms rg) (fs : Bool) :
    ∃ σ', jx (d + 3) 144 0 [some (.ref 47), some (.int (nI r)), some (.int (nI k)), some (.int (nI op)), some (.int (if fs = true then 1 else 0)), none, none, none] [] σ = some (none, σ') ∧ FR [47, 72, 57, 58, 53, 54] σ σ' ∧ (∀ g, g ≠ 666 → g ≠ 667 → g ≠ 668 → jI σ' g 47 = jI σ g 47) ∧ (∀ i, i ≠ r → jA σ' 57 i = jA σ 57 i) ∧ (∀ i, ¬ (3 * r ≤ i ∧ i < 3 * r + 3) → jA σ' 58 i = jA σ 58 i) ∧ (∀ i, i ≠ k → jA σ' 53 i = jA σ 53 i) ∧ (∀ i, i ≠ k → jA σ' 54 i = jA σ 54 i) ∧
      (match mTermR len b W op fs p ms rg with | some z => rdA σ' W len b z.1 ∧ rdC σ' r z.2.1 z.2.2.1 ∧ MT σ' k z.2.2.2 | none => ¬ jI σ' 667 47 = 0) := by
  have hA0 := hA
  obtain ⟨hS, hN, hT, hp, hat, h0, hw⟩ := hA
  unfold mTermR
  by_cases hf : isFg (tv len b p)
  · rw [if_pos hf]
    obtain ⟨σ', e, f, g, q53, q54, q⟩ := c144n (d := d) hS hT hp hat h0 hk (x1 := some (.int (nI r))) (x3 := some (.int (nI op))) (x4 := if fs = true then 1 else 0) hf
    refine ⟨σ', e, f.mono (by decide), g, fun i _ => (f.2 57 (by decide)).2 i, fun i _ => (f.2 58 (by decide)).2 i, q53, q54, ?_⟩
    cases hM : mNum len b p with
    | none => rw [hM] at q; exact q
    | some z =>
      rw [hM] at q
      obtain ⟨q1, q2, q3, q4⟩ := q
      refine ⟨hA0.frame f g (by decide) (by decide) (mNum_le hp hM) q1 q2, hC.frame f (by decide) (by decide) (by decide), fun _ => ⟨q3, q4⟩, fun h => ?_⟩
      exact absurd (mNum_lt hM) (Int32.not_lt.mpr h)
  · rw [if_neg hf]
    obtain ⟨σ', e, f, g, q57, q58, q53, q54, q⟩ := c144m (d := d) hS hT hp hat h0 hw hr hk ho hC.1 hC.2.1 hC.2.2.1 hC.2.2.2.1 hC.2.2.2.2 fs hf
    refine ⟨σ', e, f, g, q57, q58, q53, q54, ?_⟩
    cases hM : mMark len b W op fs p ms rg with
    | none => rw [hM] at q; exact q
    | some z =>
      rw [hM] at q
      obtain ⟨q1, q2, q3, q4, q5, q6, q7⟩ := q
      obtain ⟨o1, o2, o3, o4⟩ := mMark_ok hC.2.1 hC.2.2.1 hM
      have o5 := nodup_le 3 _ o2 o3
      have v := i16n (i := z.2.1) (by omega)
      refine ⟨hA0.frame f g (by decide) (by decide) o1 q1 q2, ⟨q3, o2, o3, q4, q5⟩, fun h => absurd h v.2.1, fun _ => ⟨q6, ?_⟩⟩
      show jA σ' 54 k = 16 + nI z.2.1 - 16
      rw [v.2.2]; exact q7
theorem c131r {r k m : Nat} (hr : r < 24) (hk : k < 192) (hm : m ≤ 3) {sd : Nat} (hsd : sd = 0 ∨ sd = 1) {x3 x4 x5 : Option Value} : ∀ (f j : Nat) (s : jPS) (σ : jS), j + f = m → rdA σ W len b s.1 → rdB σ r s.2.1 →
    ∃ σ' v, jx (d + 4) 131 77 [some (.ref 47), some (.int (nI r)), some (.int (nI sd)), x3, x4, x5, some (.int (nI k)), some (.int (nI m)), some (.int (nI j))] [] σ = jx (d + 4) 131 129 [some (.ref 47), some (.int (nI r)), some (.int (nI sd)), x3, x4, x5, some (.int (nI k)), some (.int (nI m)), v] [] σ' ∧ FR [47, 71, 56, 52] σ σ' ∧ (∀ g, g ≠ 666 → g ≠ 667 → g ≠ 668 → jI σ' g 47 = jI σ g 47) ∧ (∀ i, i ≠ r → jA σ' 56 i = jA σ 56 i) ∧ (∀ i, ¬ (3 * k + j ≤ i ∧ i < 3 * k + 3) → jA σ' 52 i = jA σ 52 i) ∧
      (match mRegsR len b (sd == 0) f j s with | some s' => rdA σ' W len b s'.1 ∧ rdB σ' r s'.2.1 ∧ (∀ i, j ≤ i → i < m → jA σ' 52 (3 * k + i) = s'.2.2.2 (i + 1)) | none => ¬ jI σ' 667 47 = 0) := by
  intro f
  induction f with
  | zero =>
    intro j s σ hj hA hB
    have e : nI m ≤ nI j := nI_le (by omega) (by omega)
    refine ⟨σ, some (.int (nI j)), ?_, FR.refl _ σ, fun _ _ _ _ => rfl, fun _ _ => rfl, fun _ _ => rfl, hA, hB, fun i h1 h2 => by omega⟩
    rw [k131_77, if_pos e]
  | succ f ih =>
    intro j s σ hj hA hB
    have hA0 := hA
    obtain ⟨hS, hN, hT, hp, hat, h0, hw⟩ := hA
    have e : ¬ nI m ≤ nI j := nI_ge (by omega) (by omega)
    have stop : ∀ (υ : jS), SH υ → ¬ jI υ 667 47 = 0 → jx (d + 4) 131 77 [some (.ref 47), some (.int (nI r)), some (.int (nI sd)), x3, x4, x5, some (.int (nI k)), some (.int (nI m)), some (.int (nI (j + 1)))] [] υ = jx (d + 4) 131 129 [some (.ref 47), some (.int (nI r)), some (.int (nI sd)), x3, x4, x5, some (.int (nI k)), some (.int (nI m)), some (.int (nI (j + 1)))] [] υ := by
      intro υ hSu hf
      rw [k131_77]
      by_cases h : nI m ≤ nI (j + 1)
      · rw [if_pos h]
      · rw [if_neg h, k131_84 (sT_47 hSu), if_pos hf]
    obtain ⟨σ1, e1, f1, r1⟩ := c138 (d := d + 1) hS hT hp hat h0
    have hS1 := f1.1.sh hS
    have F1 : FR [47, 71, 56, 52] σ σ1 := f1.1.mono (by decide)
    have start : jx (d + 4) 131 77 [some (.ref 47), some (.int (nI r)), some (.int (nI sd)), x3, x4, x5, some (.int (nI k)), some (.int (nI m)), some (.int (nI j))] [] σ = jx (d + 4) 131 95 [some (.ref 47), some (.int (nI r)), some (.int (nI sd)), x3, x4, x5, some (.int (nI k)), some (.int (nI m)), some (.int (nI j))] [] σ1 := by
      rw [k131_77, if_neg e, k131_84 (sT_47 hS), if_neg (fun z => z h0), k131_91 (sT_47 hS), e1]
      rfl
    show ∃ σ' v, _ ∧ _ ∧ _ ∧ _ ∧ _ ∧ (match (mGap len b s.1).bind (fun p1 => (mRegR len b (sd == 0) p1 s.2.1).bind (fun z => mRegsR len b (sd == 0) f (j + 1) (z.1, z.2.2, s.2.2.1, up6 s.2.2.2 (j + 1) (nI z.2.1)))) with | some s' => _ | none => _)
    cases hG : mGap len b s.1 with
    | none =>
      rw [hG] at r1
      have r1 : ¬ jI σ1 667 47 = 0 := r1
      refine ⟨σ1, some (.int (nI (j + 1))), ?_, F1, f1.2, fun i _ => (f1.1.2 56 (by decide)).2 i, fun i _ => (f1.1.2 52 (by decide)).2 i, r1⟩
      rw [start, k131_95 (sT_47 hS1), if_pos r1, k131_123, ← nI_succ]
      exact stop σ1 hS1 r1
    | some p1 =>
      rw [hG] at r1
      obtain ⟨a1, z1⟩ := r1
      have hA1 : rdA σ1 W len b p1 := hA0.frame f1.1 f1.2 (by decide) (by decide) (mGap_le hp hG) a1 z1
      have hB1 : rdB σ1 r s.2.1 := hB.frame f1.1 (by decide) (by decide)
      have hk3 : (3 : Int32) * nI k + nI j = nI (3 * k + j) := by rw [show (3 : Int32) = nI 3 from rfl, nmul, nadd]
      obtain ⟨σ2, e2, f2, g2, q56, q52, r2⟩ := c139 (d := d) hS1 hA1.2.2.1 hA1.2.2.2.1 a1 z1 hr (k := 3 * k + j) (by omega) hB1.1 hB1.2.1 hB1.2.2.1 hB1.2.2.2 (sd == 0)
      have hS2 := f2.sh hS1
      have F2 := F1.trans f2
      have G2 : ∀ g, g ≠ 666 → g ≠ 667 → g ≠ 668 → jI σ2 g 47 = jI σ g 47 := fun g x y z => by rw [g2 g x y z, f1.2 g x y z]
      have step : jx (d + 4) 131 77 [some (.ref 47), some (.int (nI r)), some (.int (nI sd)), x3, x4, x5, some (.int (nI k)), some (.int (nI m)), some (.int (nI j))] [] σ = jx (d + 4) 131 77 [some (.ref 47), some (.int (nI r)), some (.int (nI sd)), x3, x4, x5, some (.int (nI k)), some (.int (nI m)), some (.int (nI (j + 1)))] [] σ2 := by
        rw [start, k131_95 (sT_47 hS1), if_neg (fun z => z z1), k131_102, hk3]
        rcases hsd with h | h
        · subst h
          rw [if_neg (fun z => z rfl), k131_115 (sT_47 hS1)]
          have eq : (if ((0 : Nat) == 0) = true then (1 : Int32) else 0) = 1 := rfl
          rw [eq] at e2
          rw [e2]
          simp only [Option.bind_some, Option.toList_none, List.nil_append]
          rw [k131_123, ← nI_succ]
        · subst h
          rw [if_pos (by decide), k131_119 (sT_47 hS1)]
          have eq : (if ((1 : Nat) == 0) = true then (1 : Int32) else 0) = 0 := rfl
          rw [eq] at e2
          rw [e2]
          simp only [Option.bind_some, Option.toList_none, List.nil_append]
          rw [k131_123, ← nI_succ]
      have k56 : ∀ i, i ≠ r → jA σ2 56 i = jA σ 56 i := fun i hi => by rw [q56 i hi, (f1.1.2 56 (by decide)).2]
      have k52 : ∀ i, i ≠ 3 * k + j → jA σ2 52 i = jA σ 52 i := fun i hi => by rw [q52 i hi, (f1.1.2 52 (by decide)).2]
      rw [Option.bind_some]
      cases hR : mRegR len b (sd == 0) p1 s.2.1 with
      | none =>
        rw [hR] at r2
        have r2 : ¬ jI σ2 667 47 = 0 := r2
        exact ⟨σ2, some (.int (nI (j + 1))), by rw [step]; exact stop σ2 hS2 r2, F2, G2, k56, fun i hi => k52 i (by omega), r2⟩
      | some z =>
        rw [hR] at r2
        obtain ⟨a2, z2, l2, c2, n2⟩ := r2
        obtain ⟨o1, o2, o3, o4⟩ := mRegR_ok hB1.2.1 hB1.2.2.1 hR
        have hA2 : rdA σ2 W len b z.1 := hA1.frame f2 g2 (by decide) (by decide) o1 a2 z2
        obtain ⟨σ3, v, e3, f3, g3, q3, w3, r3⟩ := ih (j + 1) (z.1, z.2.2, s.2.2.1, up6 s.2.2.2 (j + 1) (nI z.2.1)) σ2 (by omega) hA2 ⟨l2, o2, o3, c2⟩
        refine ⟨σ3, v, by rw [step]; exact e3, F2.trans f3, fun g x y z => by rw [g3 g x y z, G2 g x y z], fun i hi => by rw [q3 i hi, k56 i hi], fun i hi => by rw [w3 i (by omega), k52 i (by omega)], ?_⟩
        rw [Option.bind_some]
        cases hQ : mRegsR len b (sd == 0) f (j + 1) (z.1, z.2.2, s.2.2.1, up6 s.2.2.2 (j + 1) (nI z.2.1)) with
        | none => rw [hQ] at r3; exact r3
        | some s' =>
          rw [hQ] at r3
          obtain ⟨u1, u2, u3⟩ := r3
          refine ⟨u1, u2, fun i h1 h2 => ?_⟩
          by_cases hij : i = j
          · subst hij
            rw [w3 _ (by omega), n2, (mRegsR_keep _ _ _ _ hQ).2 (i + 1) (Or.inl (Nat.le_refl _))]
            show _ = if i + 1 = i + 1 then nI z.2.1 else _
            rw [if_pos rfl]
          · exact u3 i (by omega) h2
end MS1
end S_48
section S_49
/-! the reference's reader: a side's number -/
def mNumR (len : Nat) (b : Nat → Int32) (W sd op : Nat) (s : jPS) (rg : Nat → Int32) : Option (jPS × (Nat → Int32)) :=
  if numN op = true then (mGap len b s.1).bind (fun p1 => (mTermR len b W op (sd == 0) p1 s.2.2.1 rg).bind (fun y =>
    if sd = 1 ∧ isSg (tv len b y.1) then (mTermR len b W op false (y.1 + 1) y.2.1 y.2.2.1).map (fun x => ((x.1, s.2.1, x.2.1, up6 (up6 (up6 s.2.2.2 2 y.2.2.2) 4 (tv len b y.1)) 5 x.2.2.2), x.2.2.1))
    else some ((y.1, s.2.1, y.2.1, up6 s.2.2.2 2 y.2.2.2), y.2.2.1)))
  else some (s, rg)
theorem mTermR_le {len : Nat} {b : Nat → Int32} {W op : Nat} {fs : Bool} {p : Nat} {ms : List Nat} {rg : Nat → Int32} {z : Nat × List Nat × (Nat → Int32) × Int32} (hp : p ≤ len) (h : mTermR len b W op fs p ms rg = some z) : z.1 ≤ len := by
  unfold mTermR at h
  split at h
  · obtain ⟨x, h1, h2⟩ := Option.map_eq_some_iff.mp h
    subst h2
    exact mNum_le hp h1
  · obtain ⟨x, h1, h2⟩ := Option.map_eq_some_iff.mp h
    subst h2
    unfold mMark at h1
    obtain ⟨y, h3, h4⟩ := Option.bind_eq_some_iff.mp h1
    obtain ⟨u, h5, h6⟩ := Option.map_eq_some_iff.mp h4
    subst h6
    exact mLet_le h3
theorem isSg_in {len : Nat} {b : Nat → Int32} {p : Nat} (h : isSg (tv len b p)) : p < len ∧ ¬ tv len b p = 0 := by
  refine ⟨tv_in (fun z => by rw [z] at h; exact absurd h (by decide)), fun z => by rw [z] at h; exact absurd h (by decide)⟩
theorem MT.frame {σ σ' : jS} {k : Nat} {v : Int32} (h : MT σ k v) (h1 : jA σ' 53 k = jA σ 53 k) (h2 : jA σ' 54 k = jA σ 54 k) : MT σ' k v := by
  unfold MT
  rw [h1, h2]
  exact h
section MS2
variable {d : Nat} {len W : Nat} {b : Nat → Int32}
theorem c131n {σ : jS} {s : jPS} (hA : rdA σ W len b s.1) {r k op : Nat} (hr : r < 24) (hk : k < 192) (ho : op < 19) {rg : Nat → Int32} (hC : rdC σ r s.2.2.1 rg) {sd : Nat} (hsd : sd = 0 ∨ sd = 1) (hf4 : s.2.2.2 4 = 0) {x3 x4 x7 x8 : Option Value} :
    ∃ σ', jx (d + 4) 131 129 [some (.ref 47), some (.int (nI r)), some (.int (nI sd)), x3, x4, some (.int (nI op)), some (.int (nI k)), x7, x8] [] σ = jx (d + 4) 131 256 [some (.ref 47), some (.int (nI r)), some (.int (nI sd)), x3, x4, some (.int (nI op)), some (.int (nI k)), x7, x8] [] σ' ∧ FR [47, 72, 57, 58, 53, 54, 51, 55] σ σ' ∧ (∀ g, g ≠ 666 → g ≠ 667 → g ≠ 668 → jI σ' g 47 = jI σ g 47) ∧ (∀ i, i ≠ r → jA σ' 57 i = jA σ 57 i) ∧ (∀ i, ¬ (3 * r ≤ i ∧ i < 3 * r + 3) → jA σ' 58 i = jA σ 58 i) ∧ (∀ i, ¬ (2 * k ≤ i ∧ i < 2 * k + 2) → jA σ' 53 i = jA σ 53 i ∧ jA σ' 54 i = jA σ 54 i) ∧ (∀ i, i ≠ k → jA σ' 51 i = jA σ 51 i ∧ jA σ' 55 i = jA σ 55 i) ∧
      (match mNumR len b W sd op s rg with | some y => rdA σ' W len b y.1.1 ∧ rdC σ' r y.1.2.2.1 y.2 ∧ jA σ' 51 k = nI op ∧ (numN op = true → MT σ' (2 * k) (y.1.2.2.2 2)) ∧ jA σ' 55 k = y.1.2.2.2 4 ∧ (¬ y.1.2.2.2 4 = 0 → MT σ' (2 * k + 1) (y.1.2.2.2 5)) | none => ¬ jI σ' 667 47 = 0) := by
  have hA0 := hA
  obtain ⟨hS, hN, hT, hp, hat, h0, hw⟩ := hA
  have gk : jin 192 (nI k) := jin_n hk (by decide)
  have ck : (nI k).toNatClampNeg = k := nI_clamp (by omega)
  obtain ⟨τ, eτ⟩ : ∃ τ, jsA (jsA σ 55 k 0) 51 k (nI op) = τ := ⟨_, rfl⟩
  have tI : jI τ = jI σ := by rw [← eτ, zA_I, zA_I]
  have Fτ : FR [51, 55] σ τ := eτ ▸ ((FR.refl _ σ).A (q := 55) (by decide)).A (by decide)
  have hSτ := Fτ.sh hS
  have t51 : ∀ i, jA τ 51 i = if i = k then nI op else jA σ 51 i := fun i => by
    rw [← eτ, zA_A]
    by_cases h : i = k
    · rw [if_pos ⟨rfl, h⟩, if_pos h]
    · rw [if_neg (fun y => h y.2), if_neg h, zA_A, if_neg (fun y => absurd y.1 (by decide))]
  have t55 : ∀ i, jA τ 55 i = if i = k then 0 else jA σ 55 i := fun i => by
    rw [← eτ, zA_A, if_neg (fun y => absurd y.1 (by decide)), zA_A]
    by_cases h : i = k
    · rw [if_pos ⟨rfl, h⟩, if_pos h]
    · rw [if_neg (fun y => h y.2), if_neg h]
  have hAτ : rdA τ W len b s.1 := hA0.frame Fτ (fun g _ _ _ => by rw [tI]) (by decide) (by decide) hp (by rw [tI]; exact hat) (by rw [tI]; exact h0)
  have hCτ : rdC τ r s.2.2.1 rg := hC.frame Fτ (by decide) (by decide) (by decide)
  have z0 : jI τ 667 47 = 0 := hAτ.2.2.2.2.2.1
  have c3 := c143 (d := d + 3) (σ := τ) ho
  have start : jx (d + 4) 131 129 [some (.ref 47), some (.int (nI r)), some (.int (nI sd)), x3, x4, some (.int (nI op)), some (.int (nI k)), x7, x8] [] σ = jx (d + 4) 131 165 [some (.ref 47), some (.int (nI r)), some (.int (nI sd)), x3, x4, some (.int (nI op)), some (.int (nI k)), x7, x8] [.int (if numN op = true then 1 else 0)] τ := by
    have a1 : jx (d + 4) 131 129 [some (.ref 47), some (.int (nI r)), some (.int (nI sd)), x3, x4, some (.int (nI op)), some (.int (nI k)), x7, x8] [] σ = jx (d + 4) 131 160 [some (.ref 47), some (.int (nI r)), some (.int (nI sd)), x3, x4, some (.int (nI op)), some (.int (nI k)), x7, x8] [] τ := by
      rw [← eτ]
      simp (decide := true) only [k131_129, k131_136, sT_1, sT_2, sT_3, sT_16, sT_17, sT_18, sT_19, sT_20, sT_21, sT_22, sT_23, sT_24, sT_25, sT_26, sT_27, sT_28, sT_29, sT_30, sT_31, sT_32, sT_33, sT_34, sT_35, sT_36, sT_37, sT_38, sT_39, sT_40, sT_41, sT_42, sT_43, sT_44, sT_45, sT_46, sT_47, sT_48, sT_49, sT_50, sT_51, sT_52, sT_53, sT_54, sT_55, sT_56, sT_57, sT_58, sT_59, sT_60, sT_61, sT_62, sT_63, sT_64, sT_65, sT_66, sT_67, sT_68, sT_69, sT_70, sT_71, sT_72, sT_73, sT_74, sT_75, sT_76, sT_77, sT_78, sT_79, sT_80, sN_1, sN_2, sN_19, sN_21, sN_23, sN_24, sN_26, sN_29, sN_31, sN_33, sN_35, sN_36, sN_37, sN_39, sN_40, sN_42, sN_44, sN_45, sN_46, sN_48, sN_49, sN_50, sN_51, sN_52, sN_53, sN_54, sN_55, sN_56, sN_57, sN_58, sN_59, sN_60, sN_61, sN_62, sN_63, sN_64, sN_65, sN_66, sN_67, sN_68, sN_69, sN_70, sN_71, sN_72, sN_73, sN_74, sN_75, sN_76, sN_77, sN_78, sN_79, sN_80, sR_0_34, sR_0_38, sR_1_34, sR_1_38, sR_64_20, sR_64_22, sR_128_25, sR_128_28, sR_194_17, sR_195_17, sR_196_17, sR_197_17, sR_258_30, sR_258_32, sR_258_41, sR_384_43, sR_448_18, sR_512_27, sR_513_27, sR_514_27, sR_515_27, sR_516_27, sR_576_16, sR_577_16, sR_578_16, sR_579_16, sR_580_16, sR_581_16, sR_582_16, sR_583_16, sR_584_16, sR_641_47, sR_643_47, sR_645_47, sR_646_47, sR_647_47, sR_648_47, sR_649_47, sR_650_47, sR_651_47, sR_652_47, sR_653_47, sR_654_47, sR_655_47, sR_656_47, sR_657_47, sR_658_47, sR_659_47, sR_661_47, sR_662_47, sR_663_47, sR_664_47, sR_665_47, sR_669_47, sR_670_47, sR_671_47, sR_672_47, sR_673_47, sR_674_47, sR_676_47, sR_677_47, sR_679_47, sR_680_47, sR_681_47, SH_I, SH_A, SH_G, SH_C, hS, h0, gk, ck, Option.getD_some, ne_eq, reduceCtorEq, not_false_eq_true, not_true_eq_false, Option.bind_some, Option.toList_none, Option.toList_some, List.nil_append, List.cons_append, List.append_nil, ↓reduceIte, and_self, true_and, and_true, false_and, and_false, or_true, true_or, or_false, false_or, Nat.reduceEqDiff, Nat.reduceAdd, Int32.reduceMul, Int32.reduceAdd, Int32.reduceSub, Int32.reduceToNatClampNeg, Int32.reduceOfNat, Int32.reduceLT, Int32.reduceLE, va_rf]
    rw [a1, k131_160, c3]
    rfl
  have u53 : ∀ i, jA τ 53 i = jA σ 53 i := (Fτ.2 53 (by decide)).2
  have u54 : ∀ i, jA τ 54 i = jA σ 54 i := (Fτ.2 54 (by decide)).2
  have u57 : ∀ i, jA τ 57 i = jA σ 57 i := (Fτ.2 57 (by decide)).2
  have u58 : ∀ i, jA τ 58 i = jA σ 58 i := (Fτ.2 58 (by decide)).2
  unfold mNumR
  by_cases hn : numN op = true
  · rw [if_pos hn]
    rw [if_pos hn] at start
    obtain ⟨σ1, e1, f1, r1⟩ := c138 (d := d + 1) hSτ hAτ.2.2.1 hp hAτ.2.2.2.2.1 z0
    have hS1 := f1.1.sh hSτ
    have F1 : FR [47, 72, 57, 58, 53, 54, 51, 55] σ σ1 := (Fτ.mono (by decide)).trans (f1.1.mono (by decide))
    have G1 : ∀ g, g ≠ 666 → g ≠ 667 → g ≠ 668 → jI σ1 g 47 = jI σ g 47 := fun g x y z => by rw [f1.2 g x y z, tI]
    have s1 : jx (d + 4) 131 129 [some (.ref 47), some (.int (nI r)), some (.int (nI sd)), x3, x4, some (.int (nI op)), some (.int (nI k)), x7, x8] [] σ = jx (d + 4) 131 172 [some (.ref 47), some (.int (nI r)), some (.int (nI sd)), x3, x4, some (.int (nI op)), some (.int (nI k)), x7, x8] [] σ1 := by
      rw [start, k131_165, if_neg (by decide), k131_168 (sT_47 hSτ), e1]
      rfl
    have m51 : ∀ i, jA σ1 51 i = if i = k then nI op else jA σ 51 i := fun i => by rw [(f1.1.2 51 (by decide)).2]; exact t51 i
    have m55 : ∀ i, jA σ1 55 i = if i = k then 0 else jA σ 55 i := fun i => by rw [(f1.1.2 55 (by decide)).2]; exact t55 i
    have m53 : ∀ i, jA σ1 53 i = jA σ 53 i := fun i => by rw [(f1.1.2 53 (by decide)).2]; exact u53 i
    have m54 : ∀ i, jA σ1 54 i = jA σ 54 i := fun i => by rw [(f1.1.2 54 (by decide)).2]; exact u54 i
    have m57 : ∀ i, jA σ1 57 i = jA σ 57 i := fun i => by rw [(f1.1.2 57 (by decide)).2]; exact u57 i
    have m58 : ∀ i, jA σ1 58 i = jA σ 58 i := fun i => by rw [(f1.1.2 58 (by decide)).2]; exact u58 i
    cases hG : mGap len b s.1 with
    | none =>
      rw [hG] at r1
      have r1 : ¬ jI σ1 667 47 = 0 := r1
      refine ⟨σ1, ?_, F1, G1, fun i _ => m57 i, fun i _ => m58 i, fun i _ => ⟨m53 i, m54 i⟩, fun i hi => ⟨by rw [m51, if_neg hi], by rw [m55, if_neg hi]⟩, r1⟩
      rw [s1, k131_172 (sT_47 hS1), if_pos r1, k131_199 (sT_47 hS1), if_pos r1]
    | some p1 =>
      rw [hG] at r1
      obtain ⟨a1, z1⟩ := r1
      have hp1 := mGap_le hp hG
      have hA1 : rdA σ1 W len b p1 := hAτ.frame f1.1 f1.2 (by decide) (by decide) hp1 a1 z1
      have hC1 : rdC σ1 r s.2.2.1 rg := hCτ.frame f1.1 (by decide) (by decide) (by decide)
      have hk2 : (2 : Int32) * nI k = nI (2 * k) := by rw [show (2 : Int32) = nI 2 from rfl, nmul]
      obtain ⟨σ2, e2, f2, g2, q57, q58, q53, q54, r2⟩ := c144 (d := d) hA1 hr (k := 2 * k) (by omega) ho hC1 (sd == 0)
      have hS2 := f2.sh hS1
      have F2 := F1.trans (f2.mono (l' := [47, 72, 57, 58, 53, 54, 51, 55]) (by decide))
      have G2 : ∀ g, g ≠ 666 → g ≠ 667 → g ≠ 668 → jI σ2 g 47 = jI σ g 47 := fun g x y z => by rw [g2 g x y z, G1 g x y z]
      have s2 : jx (d + 4) 131 129 [some (.ref 47), some (.int (nI r)), some (.int (nI sd)), x3, x4, some (.int (nI op)), some (.int (nI k)), x7, x8] [] σ = jx (d + 4) 131 199 [some (.ref 47), some (.int (nI r)), some (.int (nI sd)), x3, x4, some (.int (nI op)), some (.int (nI k)), x7, x8] [] σ2 := by
        rw [s1, k131_172 (sT_47 hS1), if_neg (fun z => z z1), k131_179, hk2]
        rcases hsd with h | h
        · subst h
          have eq : (if ((0 : Nat) == 0) = true then (1 : Int32) else 0) = 1 := rfl
          rw [eq] at e2
          rw [if_neg (fun z => z rfl), k131_191 (sT_47 hS1), e2]
          rfl
        · subst h
          have eq : (if ((1 : Nat) == 0) = true then (1 : Int32) else 0) = 0 := rfl
          rw [eq] at e2
          rw [if_pos (by decide), k131_195 (sT_47 hS1), e2]
          rfl
      have n51 : ∀ i, jA σ2 51 i = if i = k then nI op else jA σ 51 i := fun i => by rw [(f2.2 51 (by decide)).2]; exact m51 i
      have n55 : ∀ i, jA σ2 55 i = if i = k then 0 else jA σ 55 i := fun i => by rw [(f2.2 55 (by decide)).2]; exact m55 i
      have n53 : ∀ i, i ≠ 2 * k → jA σ2 53 i = jA σ 53 i := fun i hi => by rw [q53 i hi, m53]
      have n54 : ∀ i, i ≠ 2 * k → jA σ2 54 i = jA σ 54 i := fun i hi => by rw [q54 i hi, m54]
      have n57 : ∀ i, i ≠ r → jA σ2 57 i = jA σ 57 i := fun i hi => by rw [q57 i hi, m57]
      have n58 : ∀ i, ¬ (3 * r ≤ i ∧ i < 3 * r + 3) → jA σ2 58 i = jA σ 58 i := fun i hi => by rw [q58 i hi, m58]
      rw [Option.bind_some]
      cases hM : mTermR len b W op (sd == 0) p1 s.2.2.1 rg with
      | none =>
        rw [hM] at r2
        have r2 : ¬ jI σ2 667 47 = 0 := r2
        refine ⟨σ2, ?_, F2, G2, n57, n58, fun i hi => ⟨n53 i (by omega), n54 i (by omega)⟩, fun i hi => ⟨by rw [n51, if_neg hi], by rw [n55, if_neg hi]⟩, r2⟩
        rw [s2, k131_199 (sT_47 hS2), if_pos r2]
      | some y =>
        rw [hM] at r2
        obtain ⟨hA2, hC2, hM2⟩ := r2
        have z2 : jI σ2 667 47 = 0 := hA2.2.2.2.2.2.1
        have hl : len ≤ 400 := hT.2.1
        have s3 : jx (d + 4) 131 129 [some (.ref 47), some (.int (nI r)), some (.int (nI sd)), x3, x4, some (.int (nI op)), some (.int (nI k)), x7, x8] [] σ = jx (d + 4) 131 206 [some (.ref 47), some (.int (nI r)), some (.int (nI sd)), x3, x4, some (.int (nI op)), some (.int (nI k)), x7, x8] [] σ2 := by
          rw [s2, k131_199 (sT_47 hS2), if_neg (fun z => z z2)]
        have cl := c130 (d := d + 3) hS2 hA2.2.2.1 (p := y.1) (by have := hA2.2.2.2.1; omega) hA2.2.2.2.2.1
        rw [Option.bind_some]
        have plain : jx (d + 4) 131 129 [some (.ref 47), some (.int (nI r)), some (.int (nI sd)), x3, x4, some (.int (nI op)), some (.int (nI k)), x7, x8] [] σ = jx (d + 4) 131 256 [some (.ref 47), some (.int (nI r)), some (.int (nI sd)), x3, x4, some (.int (nI op)), some (.int (nI k)), x7, x8] [] σ2 →
            ∃ σ', jx (d + 4) 131 129 [some (.ref 47), some (.int (nI r)), some (.int (nI sd)), x3, x4, some (.int (nI op)), some (.int (nI k)), x7, x8] [] σ = jx (d + 4) 131 256 [some (.ref 47), some (.int (nI r)), some (.int (nI sd)), x3, x4, some (.int (nI op)), some (.int (nI k)), x7, x8] [] σ' ∧ FR [47, 72, 57, 58, 53, 54, 51, 55] σ σ' ∧ (∀ g, g ≠ 666 → g ≠ 667 → g ≠ 668 → jI σ' g 47 = jI σ g 47) ∧ (∀ i, i ≠ r → jA σ' 57 i = jA σ 57 i) ∧ (∀ i, ¬ (3 * r ≤ i ∧ i < 3 * r + 3) → jA σ' 58 i = jA σ 58 i) ∧ (∀ i, ¬ (2 * k ≤ i ∧ i < 2 * k + 2) → jA σ' 53 i = jA σ 53 i ∧ jA σ' 54 i = jA σ 54 i) ∧ (∀ i, i ≠ k → jA σ' 51 i = jA σ 51 i ∧ jA σ' 55 i = jA σ 55 i) ∧
            (rdA σ' W len b y.1 ∧ rdC σ' r y.2.1 y.2.2.1 ∧ jA σ' 51 k = nI op ∧ (numN op = true → MT σ' (2 * k) (up6 s.2.2.2 2 y.2.2.2 2)) ∧ jA σ' 55 k = up6 s.2.2.2 2 y.2.2.2 4 ∧ (¬ up6 s.2.2.2 2 y.2.2.2 4 = 0 → MT σ' (2 * k + 1) (up6 s.2.2.2 2 y.2.2.2 5))) := by
          intro e
          have w4 : up6 s.2.2.2 2 y.2.2.2 4 = 0 := hf4
          refine ⟨σ2, e, F2, G2, n57, n58, fun i hi => ⟨n53 i (by omega), n54 i (by omega)⟩, fun i hi => ⟨by rw [n51, if_neg hi], by rw [n55, if_neg hi]⟩, hA2, hC2, by rw [n51, if_pos rfl], fun _ => hM2, by rw [n55, if_pos rfl, w4], fun h => absurd w4 h⟩
        rcases hsd with h | h
        · subst h
          rw [if_neg (fun z => absurd z.1 (by decide))]
          exact plain (by rw [s3, k131_206, if_pos (by decide)])
        · subst h
          have s4 : jx (d + 4) 131 129 [some (.ref 47), some (.int (nI r)), some (.int (nI 1)), x3, x4, some (.int (nI op)), some (.int (nI k)), x7, x8] [] σ = jx (d + 4) 131 218 [some (.ref 47), some (.int (nI r)), some (.int (nI 1)), x3, x4, some (.int (nI op)), some (.int (nI k)), x7, x8] [.int (if isSg (tv len b y.1) then 1 else 0)] σ2 := by
            rw [s3, k131_206, if_neg (fun z => z rfl), k131_211 (sT_47 hS2), cl]
            simp only [Option.bind_some, Option.toList_some, List.cons_append, List.nil_append]
            rw [k131_215, c147]
            rfl
          by_cases hs : isSg (tv len b y.1)
          · rw [if_pos ⟨rfl, hs⟩]
            have i1 : (if isSg (tv len b y.1) then (1 : Int32) else 0) = 1 := if_pos hs
            rw [i1] at s4
            obtain ⟨hlt, hne⟩ := isSg_in hs
            obtain ⟨υ, eυ⟩ : ∃ υ, jsI (jsA σ2 55 k (tv len b y.1)) 666 47 (nI (y.1 + 1)) = υ := ⟨_, rfl⟩
            have Fυ : FR [47, 55] σ2 υ := eυ ▸ ((FR.refl _ σ2).A (q := 55) (by decide)).I (by decide)
            have Gυ : ∀ g, g ≠ 666 → g ≠ 667 → g ≠ 668 → jI υ g 47 = jI σ2 g 47 := fun g x y z => by rw [← eυ, zI_I, if_neg (fun q => x q.1), zA_I]
            have hAυ : rdA υ W len b (y.1 + 1) := hA2.frame Fυ Gυ (by decide) (by decide) hlt (by rw [← eυ, zI_I, if_pos ⟨rfl, rfl⟩]) (by rw [← eυ, zI_I, if_neg (by decide), zA_I]; exact z2)
            have hCυ : rdC υ r y.2.1 y.2.2.1 := hC2.frame Fυ (by decide) (by decide) (by decide)
            have hSυ := hAυ.1
            obtain ⟨σ3, e3, f3, g3, o57, o58, o53, o54, r3⟩ := c144 (d := d) hAυ hr (k := 2 * k + 1) (by omega) ho hCυ false
            have hk2' : nI (2 * k) + 1 = nI (2 * k + 1) := (nI_succ _).symm
            have eq : (if false = true then (1 : Int32) else 0) = 0 := rfl
            rw [eq] at e3
            have v55 : ∀ i, jA υ 55 i = if i = k then tv len b y.1 else jA σ 55 i := fun i => by
              rw [← eυ, zI_A, zA_A]
              by_cases h : i = k
              · rw [if_pos ⟨rfl, h⟩, if_pos h]
              · rw [if_neg (fun y => h y.2), if_neg h, n55, if_neg h]
            have v51 : ∀ i, jA υ 51 i = if i = k then nI op else jA σ 51 i := fun i => by rw [(Fυ.2 51 (by decide)).2]; exact n51 i
            have s5 : jx (d + 4) 131 129 [some (.ref 47), some (.int (nI r)), some (.int (nI 1)), x3, x4, some (.int (nI op)), some (.int (nI k)), x7, x8] [] σ = jx (d + 4) 131 256 [some (.ref 47), some (.int (nI r)), some (.int (nI 1)), x3, x4, some (.int (nI op)), some (.int (nI k)), x7, x8] [] σ3 := by
              rw [s4, k131_218, if_neg (by decide), k131_221 (sT_47 hS2) (by rw [sR_650_47 hS2]; exact fun z => nomatch z), cl, sR_650_47 hS2]
              simp only [Option.bind_some, Option.toList_some, List.cons_append, List.nil_append, Option.getD_some]
              rw [k131_231 (sT_55 hS2) (by rw [sN_55 hS2]; exact gk) (sT_47 hS2), ck, hA2.2.2.2.2.1, ← nI_succ, eυ, hk2, hk2', e3]
              rfl
            have F3 := (F2.trans (Fυ.mono (l' := [47, 72, 57, 58, 53, 54, 51, 55]) (by decide))).trans (f3.mono (l' := [47, 72, 57, 58, 53, 54, 51, 55]) (by decide))
            have w53 : ∀ i, i ≠ 2 * k + 1 → jA σ3 53 i = jA σ2 53 i := fun i hi => by rw [o53 i hi, (Fυ.2 53 (by decide)).2]
            have w54 : ∀ i, i ≠ 2 * k + 1 → jA σ3 54 i = jA σ2 54 i := fun i hi => by rw [o54 i hi, (Fυ.2 54 (by decide)).2]
            refine ⟨σ3, s5, F3, fun g x y z => by rw [g3 g x y z, Gυ g x y z, G2 g x y z], fun i hi => by rw [o57 i hi, (Fυ.2 57 (by decide)).2]; exact n57 i hi, fun i hi => by rw [o58 i hi, (Fυ.2 58 (by decide)).2]; exact n58 i hi, fun i hi => ⟨by rw [w53 i (by omega), n53 i (by omega)], by rw [w54 i (by omega), n54 i (by omega)]⟩, fun i hi => ⟨by rw [(f3.2 51 (by decide)).2, v51, if_neg hi], by rw [(f3.2 55 (by decide)).2, v55, if_neg hi]⟩, ?_⟩
            cases hX : mTermR len b W op false (y.1 + 1) y.2.1 y.2.2.1 with
            | none => rw [hX] at r3; exact r3
            | some x =>
              rw [hX] at r3
              obtain ⟨hA3, hC3, hM3⟩ := r3
              refine ⟨hA3, hC3, by rw [(f3.2 51 (by decide)).2, v51, if_pos rfl], fun _ => hM2.frame (w53 _ (by omega)) (w54 _ (by omega)), by rw [(f3.2 55 (by decide)).2, v55, if_pos rfl]; rfl, fun _ => hM3⟩
          · rw [if_neg (fun z => hs z.2)]
            have i0 : (if isSg (tv len b y.1) then (1 : Int32) else 0) = 0 := if_neg hs
            rw [i0] at s4
            exact plain (by rw [s4, k131_218, if_pos rfl])
  · rw [if_neg hn]
    rw [if_neg hn] at start
    refine ⟨τ, by rw [start, k131_165, if_pos rfl], Fτ.mono (by decide), fun g _ _ _ => by rw [tI], fun i _ => u57 i, fun i _ => u58 i, fun i _ => ⟨u53 i, u54 i⟩, fun i hi => ⟨by rw [t51, if_neg hi], by rw [t55, if_neg hi]⟩, hAτ, hCτ, by rw [t51, if_pos rfl], fun h => absurd h hn, by rw [t55, if_pos rfl]; exact hf4.symm, fun h => absurd hf4 h⟩
end MS2
end S_49
