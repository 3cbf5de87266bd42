/-! the reference's reader: a rule's number or mark -/
section MR7
variable {d : Nat} {σ : jS} {len : Nat} {b : Nat → Int32} {p : Nat}
theorem c144n (hS : SH σ) (hT : TM σ len b) (hp : p ≤ len) (hat : jI σ 666 47 = nI p) (h0 : jI σ 667 47 = 0) {k : Nat} (hk : k < 384) {x1 x3 : Option Value} {x4 : Int32} (hf : isFg (tv len b p)) :
    ∃ σ', jx (d + 3) 144 0 [some (.ref 47), x1, some (.int (nI k)), x3, some (.int x4), none, none, none] [] σ = some (none, σ') ∧ FR [47, 53, 54] σ σ' ∧ (∀ g, g ≠ 666 → g ≠ 667 → g ≠ 668 → jI σ' g 47 = jI σ g 47) ∧ (∀ i, i ≠ k → jA σ' 53 i = jA σ 53 i) ∧ (∀ i, i ≠ k → jA σ' 54 i = jA σ 54 i) ∧
      (match mNum len b p with | some z => jI σ' 666 47 = nI z.2 ∧ jI σ' 667 47 = 0 ∧ jA σ' 53 k = 0 ∧ jA σ' 54 k = z.1 | none => ¬ jI σ' 667 47 = 0) := by
  have hl : len ≤ 400 := hT.2.1
  have c := c130 (d := d + 2) hS hT (p := p) (by omega) hat
  have i : (if isFg (tv len b p) then (1 : Int32) else 0) = 1 := if_pos hf
  have gk : jin 384 (nI k) := jin_n hk (by decide)
  have ck : (nI k).toNatClampNeg = k := nI_clamp (by omega)
  have an : ((0 : Int32) &&& 1) = 0 := rfl
  have hS1 : SH (jsA σ 53 k 0) := by rw [SH_A]; exact hS
  have hT1 : TM (jsA σ 53 k 0) len b := by rw [TM_A (by decide)]; exact hT
  obtain ⟨v, σ2, e2, f2, r2⟩ := c145 (d := d + 1) hS1 hT1 hp (by rw [zA_I]; exact hat) (by rw [zA_I]; exact h0)
  have hS2 := f2.1.sh hS1
  have F : FR [47, 53, 54] σ σ2 := ((FR.refl _ σ).A (q := 53) (by decide)).trans (f2.1.mono (by decide))
  have q53 : ∀ i, jA σ2 53 i = jA (jsA σ 53 k 0) 53 i := (f2.1.2 53 (by decide)).2
  have q54 : ∀ i, jA σ2 54 i = jA σ 54 i := fun i => by rw [(f2.1.2 54 (by decide)).2, zA_A, if_neg (fun y => absurd y.1 (by decide))]
  refine ⟨jsA σ2 54 k v, ?_, F.A (by decide), fun g a b c => by rw [zA_I, f2.2 g a b c, zA_I], fun i hi => ?_, fun i hi => ?_, ?_⟩
  · rw [k144_0 (sT_47 hS), c]
    simp (decide := true) only [k144_10, k144_13, k144_16N, k144_32, c141, i, an, e2, ck, gk, sT_1, sT_2, sT_3, sT_16, sT_17, sT_18, sT_19, sT_20, sT_21, sT_22, sT_23, sT_24, sT_25, sT_26, sT_27, sT_28, sT_29, sT_30, sT_31, sT_32, sT_33, sT_34, sT_35, sT_36, sT_37, sT_38, sT_39, sT_40, sT_41, sT_42, sT_43, sT_44, sT_45, sT_46, sT_47, sT_48, sT_49, sT_50, sT_51, sT_52, sT_53, sT_54, sT_55, sT_56, sT_57, sT_58, sT_59, sT_60, sT_61, sT_62, sT_63, sT_64, sT_65, sT_66, sT_67, sT_68, sT_69, sT_70, sT_71, sT_72, sT_73, sT_74, sT_75, sT_76, sT_77, sT_78, sT_79, sT_80, sN_1, sN_2, sN_19, sN_21, sN_23, sN_24, sN_26, sN_29, sN_31, sN_33, sN_35, sN_36, sN_37, sN_39, sN_40, sN_42, sN_44, sN_45, sN_46, sN_48, sN_49, sN_50, sN_51, sN_52, sN_53, sN_54, sN_55, sN_56, sN_57, sN_58, sN_59, sN_60, sN_61, sN_62, sN_63, sN_64, sN_65, sN_66, sN_67, sN_68, sN_69, sN_70, sN_71, sN_72, sN_73, sN_74, sN_75, sN_76, sN_77, sN_78, sN_79, sN_80, sR_0_34, sR_0_38, sR_1_34, sR_1_38, sR_64_20, sR_64_22, sR_128_25, sR_128_28, sR_194_17, sR_195_17, sR_196_17, sR_197_17, sR_258_30, sR_258_32, sR_258_41, sR_384_43, sR_448_18, sR_512_27, sR_513_27, sR_514_27, sR_515_27, sR_516_27, sR_576_16, sR_577_16, sR_578_16, sR_579_16, sR_580_16, sR_581_16, sR_582_16, sR_583_16, sR_584_16, sR_641_47, sR_643_47, sR_645_47, sR_646_47, sR_647_47, sR_648_47, sR_649_47, sR_650_47, sR_651_47, sR_652_47, sR_653_47, sR_654_47, sR_655_47, sR_656_47, sR_657_47, sR_658_47, sR_659_47, sR_661_47, sR_662_47, sR_663_47, sR_664_47, sR_665_47, sR_669_47, sR_670_47, sR_671_47, sR_672_47, sR_673_47, sR_674_47, sR_676_47, sR_677_47, sR_679_47, sR_680_47, sR_681_47, SH_I, SH_A, SH_G, SH_C, hS, hS1, hS2, Option.getD_some, ne_eq, reduceCtorEq, not_false_eq_true, not_true_eq_false, Option.bind_some, Option.toList_none, Option.toList_some, List.nil_append, List.cons_append, List.append_nil, ↓reduceIte, and_self, true_and, and_true, false_and, and_false, or_true, true_or, or_false, false_or, Nat.reduceEqDiff, Nat.reduceAdd, Int32.reduceMul, Int32.reduceAdd, Int32.reduceSub, Int32.reduceToNatClampNeg, Int32.reduceOfNat, Int32.reduceLT, Int32.reduceLE, va_rf]
  · rw [zA_A, if_neg (fun y => absurd y.1 (by decide)), q53, zA_A, if_neg (fun y => hi y.2)]
  · rw [zA_A, if_neg (fun y => hi y.2), q54]
  · cases hM : mNum len b p with
    | none =>
      rw [hM] at r2
      show ¬ jI (jsA σ2 54 k v) 667 47 = 0
      rw [zA_I]; exact r2
    | some z =>
      rw [hM] at r2
      refine ⟨by rw [zA_I]; exact r2.2.1, by rw [zA_I]; exact r2.2.2, ?_, ?_⟩
      · rw [zA_A, if_neg (fun y => absurd y.1 (by decide)), q53, zA_A, if_pos ⟨rfl, rfl⟩]
      · rw [zA_A, if_pos ⟨rfl, rfl⟩]; exact r2.1
end MR7
