/-! the reference's reader: a rule's mark -/
section MR8
variable {d : Nat} {σ : jS} {len W : Nat} {b : Nat → Int32} {p : Nat}
def mMark (len : Nat) (b : Nat → Int32) (W op : Nat) (fs : Bool) (p : Nat) (ms : List Nat) (rg : Nat → Int32) : Option (Nat × Nat × List Nat × (Nat → Int32)) :=
  (mLet len b 105 3 p).bind (fun z => (lk ms z.1.toNatClampNeg fs).map (fun y => (z.2, y.1, y.2, up6 rg y.1 (if z.1.toNatClampNeg ∈ ms then (if fs = true ∧ bdM W op < rg y.1 then bdM W op else rg y.1) else bdM W op))))
theorem c144m (hS : SH σ) (hT : TM σ len b) (hp : p ≤ len) (hat : jI σ 666 47 = nI p) (h0 : jI σ 667 47 = 0) (hw : jI σ 640 47 = nI W) {r k op : Nat} (hr : r < 24) (hk : k < 384) (ho : op < 19) {ms : List Nat} {rg : Nat → Int32} (hL : LRw σ 72 ms) (hn : ms.Nodup) (hb : ∀ x, x ∈ ms → x < 3) (hc : jA σ 57 r = nI ms.length) (hg : ∀ j, j < 3 → jA σ 58 (3 * r + j) = rg j) (fs : Bool) (hf : ¬ isFg (tv len b p)) :
    ∃ σ', jx (d + 3) 144 0 [some (.ref 47), some (.int (nI r)), some (.int (nI k)), some (.int (nI op)), some (.int (if fs = true then 1 else 0)), none, none, none] [] σ = some (none, σ') ∧ FR [47, 72, 57, 58, 53, 54] σ σ' ∧ (∀ g, g ≠ 666 → g ≠ 667 → g ≠ 668 → jI σ' g 47 = jI σ g 47) ∧ (∀ i, i ≠ r → jA σ' 57 i = jA σ 57 i) ∧ (∀ i, ¬ (3 * r ≤ i ∧ i < 3 * r + 3) → jA σ' 58 i = jA σ 58 i) ∧ (∀ i, i ≠ k → jA σ' 53 i = jA σ 53 i) ∧ (∀ i, i ≠ k → jA σ' 54 i = jA σ 54 i) ∧
      (match mMark len b W op fs p ms rg with | some z => jI σ' 666 47 = nI z.1 ∧ jI σ' 667 47 = 0 ∧ LRw σ' 72 z.2.2.1 ∧ jA σ' 57 r = nI z.2.2.1.length ∧ (∀ j, j < 3 → jA σ' 58 (3 * r + j) = z.2.2.2 j) ∧ jA σ' 53 k = 1 ∧ jA σ' 54 k = nI z.2.1 | none => ¬ jI σ' 667 47 = 0) := by
  have hl : len ≤ 400 := hT.2.1
  have c := c130 (d := d + 2) hS hT (p := p) (by omega) hat
  have i : (if isFg (tv len b p) then (1 : Int32) else 0) = 0 := if_neg hf
  obtain ⟨v, σ1, e1, f1, r1⟩ := c140 (d := d) hS hT hp hat h0 105 3
  have hS1 := f1.1.sh hS
  have hc1 : jA σ1 57 r = nI ms.length := by rw [(f1.1.2 57 (by decide)).2]; exact hc
  have L1 : LRw σ1 72 ms := fun i hi => by rw [(f1.1.2 72 (by decide)).2]; exact hL i hi
  have hg1 : ∀ j, j < 3 → jA σ1 58 (3 * r + j) = rg j := fun j hj => by rw [(f1.1.2 58 (by decide)).2]; exact hg j hj
  have hw1 : jI σ1 640 47 = nI W := by rw [f1.2 640 (by decide) (by decide) (by decide)]; exact hw
  have F1 : FR [47, 72, 57, 58, 53, 54] σ σ1 := f1.1.mono (by decide)
  have gr : jin 24 (nI r) := jin_n hr (by decide)
  have gk : jin 384 (nI k) := jin_n hk (by decide)
  have cr : (nI r).toNatClampNeg = r := nI_clamp (by omega)
  have ck : (nI k).toNatClampNeg = k := nI_clamp (by omega)
  have an : ((1 : Int32) &&& 1) = 1 := rfl
  have rl : ms.length ≤ 3 := nodup_le 3 ms hn hb
  have e0 : jx (d + 3) 144 0 [some (.ref 47), some (.int (nI r)), some (.int (nI k)), some (.int (nI op)), some (.int (if fs = true then 1 else 0)), none, none, none] [] σ = jx (d + 3) 144 41 [some (.ref 47), some (.int (nI r)), some (.int (nI k)), some (.int (nI op)), some (.int (if fs = true then 1 else 0)), some (.int (nI p)), none, none] [.int v] σ1 := by
    rw [k144_0 (sT_47 hS), c]
    simp (decide := true) only [k144_10, k144_13, k144_34, c141, i, e1, hat, sT_1, sT_2, sT_3, sT_16, sT_17, sT_18, sT_19, sT_20, sT_21, sT_22, sT_23, sT_24, sT_25, sT_26, sT_27, sT_28, sT_29, sT_30, sT_31, sT_32, sT_33, sT_34, sT_35, sT_36, sT_37, sT_38, sT_39, sT_40, sT_41, sT_42, sT_43, sT_44, sT_45, sT_46, sT_47, sT_48, sT_49, sT_50, sT_51, sT_52, sT_53, sT_54, sT_55, sT_56, sT_57, sT_58, sT_59, sT_60, sT_61, sT_62, sT_63, sT_64, sT_65, sT_66, sT_67, sT_68, sT_69, sT_70, sT_71, sT_72, sT_73, sT_74, sT_75, sT_76, sT_77, sT_78, sT_79, sT_80, sN_1, sN_2, sN_19, sN_21, sN_23, sN_24, sN_26, sN_29, sN_31, sN_33, sN_35, sN_36, sN_37, sN_39, sN_40, sN_42, sN_44, sN_45, sN_46, sN_48, sN_49, sN_50, sN_51, sN_52, sN_53, sN_54, sN_55, sN_56, sN_57, sN_58, sN_59, sN_60, sN_61, sN_62, sN_63, sN_64, sN_65, sN_66, sN_67, sN_68, sN_69, sN_70, sN_71, sN_72, sN_73, sN_74, sN_75, sN_76, sN_77, sN_78, sN_79, sN_80, sR_0_34, sR_0_38, sR_1_34, sR_1_38, sR_64_20, sR_64_22, sR_128_25, sR_128_28, sR_194_17, sR_195_17, sR_196_17, sR_197_17, sR_258_30, sR_258_32, sR_258_41, sR_384_43, sR_448_18, sR_512_27, sR_513_27, sR_514_27, sR_515_27, sR_516_27, sR_576_16, sR_577_16, sR_578_16, sR_579_16, sR_580_16, sR_581_16, sR_582_16, sR_583_16, sR_584_16, sR_641_47, sR_643_47, sR_645_47, sR_646_47, sR_647_47, sR_648_47, sR_649_47, sR_650_47, sR_651_47, sR_652_47, sR_653_47, sR_654_47, sR_655_47, sR_656_47, sR_657_47, sR_658_47, sR_659_47, sR_661_47, sR_662_47, sR_663_47, sR_664_47, sR_665_47, sR_669_47, sR_670_47, sR_671_47, sR_672_47, sR_673_47, sR_674_47, sR_676_47, sR_677_47, sR_679_47, sR_680_47, sR_681_47, SH_I, SH_A, SH_G, SH_C, hS, Option.getD_some, ne_eq, reduceCtorEq, not_false_eq_true, not_true_eq_false, Option.bind_some, Option.toList_none, Option.toList_some, List.nil_append, List.cons_append, List.append_nil, ↓reduceIte, and_self, true_and, and_true, false_and, and_false, or_true, true_or, or_false, false_or, Nat.reduceEqDiff, Nat.reduceAdd, Int32.reduceMul, Int32.reduceAdd, Int32.reduceSub, Int32.reduceToNatClampNeg, Int32.reduceOfNat, Int32.reduceLT, Int32.reduceLE, va_rf]
  unfold mMark
  cases hM : mLet len b 105 3 p with
  | none =>
    rw [hM] at r1
    have r1 : ¬ jI σ1 667 47 = 0 := r1
    refine ⟨σ1, ?_, F1, f1.2, fun i _ => (f1.1.2 57 (by decide)).2 i, fun i _ => (f1.1.2 58 (by decide)).2 i, fun i _ => (f1.1.2 53 (by decide)).2 i, fun i _ => (f1.1.2 54 (by decide)).2 i, r1⟩
    rw [e0, k144_41 (sT_47 hS1), if_pos r1, k144_178]
  | some z =>
    rw [hM] at r1
    obtain ⟨w, a1, z1⟩ := r1
    obtain ⟨l, hl3, el⟩ := mLet_val (X := 105) (Y := 3) (by decide) (by decide) hM
    have cl : z.1.toNatClampNeg = l := by rw [el]; exact nI_clamp (by omega)
    have C := c142 (d := d + 1) hS1 (a := 72) (N := 3) (sT_72 hS1) (sN_72 hS1) (by decide) (l := l) L1 rl (fun h => by
        have := nodup_le 3 (l :: ms) (List.nodup_cons.mpr ⟨h, hn⟩) (fun x hx => by
          rcases List.mem_cons.mp hx with q | q
          · omega
          · exact hb x q)
        rw [List.length_cons] at this; omega) (by omega) (fun i hi => by
        rw [List.getD_eq_getElem?_getD, List.getElem?_eq_getElem hi]
        have := hb _ (List.getElem_mem hi)
        show ms[i] < _
        omega) z1 fs (nI p)
    have e2 : jx (d + 3) 144 0 [some (.ref 47), some (.int (nI r)), some (.int (nI k)), some (.int (nI op)), some (.int (if fs = true then 1 else 0)), none, none, none] [] σ = (jx (d + 2) 142 0 [some (.ref 47), some (.ref 72), some (.int (nI l)), some (.int (nI ms.length)), some (.int (if fs = true then 1 else 0)), some (.int (nI p)), none] [] σ1).bind (fun y => jx (d + 3) 144 70 [some (.ref 47), some (.int (nI r)), some (.int (nI k)), some (.int (nI op)), some (.int (if fs = true then 1 else 0)), some (.int (nI p)), some (.int (nI l)), none] (y.1.toList ++ []) y.2) := by
      rw [e0, k144_41 (sT_47 hS1), if_neg (fun q => q z1), w, el]
      simp (decide := true) only [k144_50, sT_1, sT_2, sT_3, sT_16, sT_17, sT_18, sT_19, sT_20, sT_21, sT_22, sT_23, sT_24, sT_25, sT_26, sT_27, sT_28, sT_29, sT_30, sT_31, sT_32, sT_33, sT_34, sT_35, sT_36, sT_37, sT_38, sT_39, sT_40, sT_41, sT_42, sT_43, sT_44, sT_45, sT_46, sT_47, sT_48, sT_49, sT_50, sT_51, sT_52, sT_53, sT_54, sT_55, sT_56, sT_57, sT_58, sT_59, sT_60, sT_61, sT_62, sT_63, sT_64, sT_65, sT_66, sT_67, sT_68, sT_69, sT_70, sT_71, sT_72, sT_73, sT_74, sT_75, sT_76, sT_77, sT_78, sT_79, sT_80, sN_1, sN_2, sN_19, sN_21, sN_23, sN_24, sN_26, sN_29, sN_31, sN_33, sN_35, sN_36, sN_37, sN_39, sN_40, sN_42, sN_44, sN_45, sN_46, sN_48, sN_49, sN_50, sN_51, sN_52, sN_53, sN_54, sN_55, sN_56, sN_57, sN_58, sN_59, sN_60, sN_61, sN_62, sN_63, sN_64, sN_65, sN_66, sN_67, sN_68, sN_69, sN_70, sN_71, sN_72, sN_73, sN_74, sN_75, sN_76, sN_77, sN_78, sN_79, sN_80, sR_0_34, sR_0_38, sR_1_34, sR_1_38, sR_64_20, sR_64_22, sR_128_25, sR_128_28, sR_194_17, sR_195_17, sR_196_17, sR_197_17, sR_258_30, sR_258_32, sR_258_41, sR_384_43, sR_448_18, sR_512_27, sR_513_27, sR_514_27, sR_515_27, sR_516_27, sR_576_16, sR_577_16, sR_578_16, sR_579_16, sR_580_16, sR_581_16, sR_582_16, sR_583_16, sR_584_16, sR_641_47, sR_643_47, sR_645_47, sR_646_47, sR_647_47, sR_648_47, sR_649_47, sR_650_47, sR_651_47, sR_652_47, sR_653_47, sR_654_47, sR_655_47, sR_656_47, sR_657_47, sR_658_47, sR_659_47, sR_661_47, sR_662_47, sR_663_47, sR_664_47, sR_665_47, sR_669_47, sR_670_47, sR_671_47, sR_672_47, sR_673_47, sR_674_47, sR_676_47, sR_677_47, sR_679_47, sR_680_47, sR_681_47, SH_I, SH_A, SH_G, SH_C, hS1, gr, cr, hc1, Option.getD_some, ne_eq, reduceCtorEq, not_false_eq_true, not_true_eq_false, Option.bind_some, Option.toList_none, Option.toList_some, List.nil_append, List.cons_append, List.append_nil, ↓reduceIte, and_self, true_and, and_true, false_and, and_false, or_true, true_or, or_false, false_or, Nat.reduceEqDiff, Nat.reduceAdd, Int32.reduceMul, Int32.reduceAdd, Int32.reduceSub, Int32.reduceToNatClampNeg, Int32.reduceOfNat, Int32.reduceLT, Int32.reduceLE, va_rf]
    rw [Option.bind_some, cl]
    cases hK : lk ms l fs with
    | none =>
      rw [hK] at C
      obtain ⟨σ2, e3, f2, f3⟩ := C
      have hS2 := f2.1.sh hS1
      refine ⟨jsA (jsA σ2 53 k 1) 54 k 0, ?_, ((F1.trans (f2.1.mono (by decide))).A (by decide)).A (by decide), fun g a b c => by rw [zA_I, zA_I, f2.2 g a b c, f1.2 g a b c], fun i _ => ?_, fun i _ => ?_, fun i hi => ?_, fun i hi => ?_, ?_⟩
      · rw [e2, e3]
        simp (decide := true) only [k144_70, k144_116, k144_163N, sT_1, sT_2, sT_3, sT_16, sT_17, sT_18, sT_19, sT_20, sT_21, sT_22, sT_23, sT_24, sT_25, sT_26, sT_27, sT_28, sT_29, sT_30, sT_31, sT_32, sT_33, sT_34, sT_35, sT_36, sT_37, sT_38, sT_39, sT_40, sT_41, sT_42, sT_43, sT_44, sT_45, sT_46, sT_47, sT_48, sT_49, sT_50, sT_51, sT_52, sT_53, sT_54, sT_55, sT_56, sT_57, sT_58, sT_59, sT_60, sT_61, sT_62, sT_63, sT_64, sT_65, sT_66, sT_67, sT_68, sT_69, sT_70, sT_71, sT_72, sT_73, sT_74, sT_75, sT_76, sT_77, sT_78, sT_79, sT_80, sN_1, sN_2, sN_19, sN_21, sN_23, sN_24, sN_26, sN_29, sN_31, sN_33, sN_35, sN_36, sN_37, sN_39, sN_40, sN_42, sN_44, sN_45, sN_46, sN_48, sN_49, sN_50, sN_51, sN_52, sN_53, sN_54, sN_55, sN_56, sN_57, sN_58, sN_59, sN_60, sN_61, sN_62, sN_63, sN_64, sN_65, sN_66, sN_67, sN_68, sN_69, sN_70, sN_71, sN_72, sN_73, sN_74, sN_75, sN_76, sN_77, sN_78, sN_79, sN_80, sR_0_34, sR_0_38, sR_1_34, sR_1_38, sR_64_20, sR_64_22, sR_128_25, sR_128_28, sR_194_17, sR_195_17, sR_196_17, sR_197_17, sR_258_30, sR_258_32, sR_258_41, sR_384_43, sR_448_18, sR_512_27, sR_513_27, sR_514_27, sR_515_27, sR_516_27, sR_576_16, sR_577_16, sR_578_16, sR_579_16, sR_580_16, sR_581_16, sR_582_16, sR_583_16, sR_584_16, sR_641_47, sR_643_47, sR_645_47, sR_646_47, sR_647_47, sR_648_47, sR_649_47, sR_650_47, sR_651_47, sR_652_47, sR_653_47, sR_654_47, sR_655_47, sR_656_47, sR_657_47, sR_658_47, sR_659_47, sR_661_47, sR_662_47, sR_663_47, sR_664_47, sR_665_47, sR_669_47, sR_670_47, sR_671_47, sR_672_47, sR_673_47, sR_674_47, sR_676_47, sR_677_47, sR_679_47, sR_680_47, sR_681_47, SH_I, SH_A, SH_G, SH_C, hS2, gk, ck, f3, an, Option.getD_some, ne_eq, reduceCtorEq, not_false_eq_true, not_true_eq_false, Option.bind_some, Option.toList_none, Option.toList_some, List.nil_append, List.cons_append, List.append_nil, ↓reduceIte, and_self, true_and, and_true, false_and, and_false, or_true, true_or, or_false, false_or, Nat.reduceEqDiff, Nat.reduceAdd, Int32.reduceMul, Int32.reduceAdd, Int32.reduceSub, Int32.reduceToNatClampNeg, Int32.reduceOfNat, Int32.reduceLT, Int32.reduceLE, va_rf]
      · rw [zA_A, if_neg (fun y => absurd y.1 (by decide)), zA_A, if_neg (fun y => absurd y.1 (by decide)), (f2.1.2 57 (by decide)).2, (f1.1.2 57 (by decide)).2]
      · rw [zA_A, if_neg (fun y => absurd y.1 (by decide)), zA_A, if_neg (fun y => absurd y.1 (by decide)), (f2.1.2 58 (by decide)).2, (f1.1.2 58 (by decide)).2]
      · rw [zA_A, if_neg (fun y => absurd y.1 (by decide)), zA_A, if_neg (fun y => hi y.2), (f2.1.2 53 (by decide)).2, (f1.1.2 53 (by decide)).2]
      · rw [zA_A, if_neg (fun y => hi y.2), zA_A, if_neg (fun y => absurd y.1 (by decide)), (f2.1.2 54 (by decide)).2, (f1.1.2 54 (by decide)).2]
      · show ¬ jI (jsA (jsA σ2 53 k 1) 54 k 0) 667 47 = 0
        rw [zA_I, zA_I]; exact f3
    | some y =>
      rw [hK] at C
      obtain ⟨σ2, e3, e4⟩ := C
      unfold lk at hK
      have idx : ∀ i, 3 * nI r + nI i = nI (3 * r + i) := fun i => by rw [show (3 : Int32) = nI 3 from rfl, nmul, nadd]
      have gidx : ∀ i, i < 3 → jin 72 (nI (3 * r + i)) := fun i hi => jin_n (by omega) (by decide)
      have cidx : ∀ i, i < 3 → (nI (3 * r + i)).toNatClampNeg = 3 * r + i := fun i hi => nI_clamp (by omega)
      by_cases hm : l ∈ ms
      · rw [if_pos hm] at e4 hK
        subst e4
        cases hK
        have hx : ms.idxOf l < ms.length := List.idxOf_lt_length_iff.mpr hm
        have q : ¬ nI (ms.idxOf l) = nI ms.length := by rw [n31eq (by omega) (by omega)]; omega
        have e3 : jx (d + 2) 142 0 [some (.ref 47), some (.ref 72), some (.int (nI l)), some (.int (nI ms.length)), some (.int (if fs = true then 1 else 0)), some (.int (nI p)), none] [] σ2 = some (some (.int (nI (ms.idxOf l))), σ2) := e3
        have cb := c146 (d := d + 2) hS1 hw1 ho
        have g1 := gidx (ms.idxOf l) (by omega)
        have g2 := cidx (ms.idxOf l) (by omega)
        have g3 := hg1 (ms.idxOf l) (by omega)
        rw [Option.map_some, if_pos hm]
        generalize ms.idxOf l = x at *
        by_cases hlow : fs = true ∧ bdM W op < rg x
        · have g4 : ¬ rg x ≤ bdM W op := Int32.not_le.mpr hlow.2
          rw [if_pos hlow]
          refine ⟨jsA (jsA (jsA σ2 58 (3 * r + x) (bdM W op)) 53 k 1) 54 k (nI x), ?_, ((F1.A (by decide)).A (by decide)).A (by decide), fun g a b c => by rw [zA_I, zA_I, zA_I, f1.2 g a b c], fun i hi => ?_, fun i hi => ?_, fun i hi => ?_, fun i hi => ?_, ?_⟩
          · rw [e2, e3]
            have hfs := hlow.1
            subst hfs
            simp (decide := true) only [k144_70, k144_79, k144_116, k144_123, k144_128, k144_133, k144_147, k144_162N, cb, idx, g1, g2, g3, g4, q, z1, hc1, gr, cr, gk, ck, an, sT_1, sT_2, sT_3, sT_16, sT_17, sT_18, sT_19, sT_20, sT_21, sT_22, sT_23, sT_24, sT_25, sT_26, sT_27, sT_28, sT_29, sT_30, sT_31, sT_32, sT_33, sT_34, sT_35, sT_36, sT_37, sT_38, sT_39, sT_40, sT_41, sT_42, sT_43, sT_44, sT_45, sT_46, sT_47, sT_48, sT_49, sT_50, sT_51, sT_52, sT_53, sT_54, sT_55, sT_56, sT_57, sT_58, sT_59, sT_60, sT_61, sT_62, sT_63, sT_64, sT_65, sT_66, sT_67, sT_68, sT_69, sT_70, sT_71, sT_72, sT_73, sT_74, sT_75, sT_76, sT_77, sT_78, sT_79, sT_80, sN_1, sN_2, sN_19, sN_21, sN_23, sN_24, sN_26, sN_29, sN_31, sN_33, sN_35, sN_36, sN_37, sN_39, sN_40, sN_42, sN_44, sN_45, sN_46, sN_48, sN_49, sN_50, sN_51, sN_52, sN_53, sN_54, sN_55, sN_56, sN_57, sN_58, sN_59, sN_60, sN_61, sN_62, sN_63, sN_64, sN_65, sN_66, sN_67, sN_68, sN_69, sN_70, sN_71, sN_72, sN_73, sN_74, sN_75, sN_76, sN_77, sN_78, sN_79, sN_80, sR_0_34, sR_0_38, sR_1_34, sR_1_38, sR_64_20, sR_64_22, sR_128_25, sR_128_28, sR_194_17, sR_195_17, sR_196_17, sR_197_17, sR_258_30, sR_258_32, sR_258_41, sR_384_43, sR_448_18, sR_512_27, sR_513_27, sR_514_27, sR_515_27, sR_516_27, sR_576_16, sR_577_16, sR_578_16, sR_579_16, sR_580_16, sR_581_16, sR_582_16, sR_583_16, sR_584_16, sR_641_47, sR_643_47, sR_645_47, sR_646_47, sR_647_47, sR_648_47, sR_649_47, sR_650_47, sR_651_47, sR_652_47, sR_653_47, sR_654_47, sR_655_47, sR_656_47, sR_657_47, sR_658_47, sR_659_47, sR_661_47, sR_662_47, sR_663_47, sR_664_47, sR_665_47, sR_669_47, sR_670_47, sR_671_47, sR_672_47, sR_673_47, sR_674_47, sR_676_47, sR_677_47, sR_679_47, sR_680_47, sR_681_47, SH_I, SH_A, SH_G, SH_C, hS1, Option.getD_some, ne_eq, reduceCtorEq, not_false_eq_true, not_true_eq_false, Option.bind_some, Option.toList_none, Option.toList_some, List.nil_append, List.cons_append, List.append_nil, ↓reduceIte, and_self, true_and, and_true, false_and, and_false, or_true, true_or, or_false, false_or, Nat.reduceEqDiff, Nat.reduceAdd, Int32.reduceMul, Int32.reduceAdd, Int32.reduceSub, Int32.reduceToNatClampNeg, Int32.reduceOfNat, Int32.reduceLT, Int32.reduceLE, va_rf]
          · rw [zA_A, if_neg (fun y => absurd y.1 (by decide)), zA_A, if_neg (fun y => absurd y.1 (by decide)), zA_A, if_neg (fun y => absurd y.1 (by decide)), (f1.1.2 57 (by decide)).2]
          · rw [zA_A, if_neg (fun y => absurd y.1 (by decide)), zA_A, if_neg (fun y => absurd y.1 (by decide)), zA_A, if_neg (fun y => hi (by have := y.2; omega)), (f1.1.2 58 (by decide)).2]
          · rw [zA_A, if_neg (fun y => absurd y.1 (by decide)), zA_A, if_neg (fun y => hi y.2), zA_A, if_neg (fun y => absurd y.1 (by decide)), (f1.1.2 53 (by decide)).2]
          · rw [zA_A, if_neg (fun y => hi y.2), zA_A, if_neg (fun y => absurd y.1 (by decide)), zA_A, if_neg (fun y => absurd y.1 (by decide)), (f1.1.2 54 (by decide)).2]
          · refine ⟨by rw [zA_I, zA_I, zA_I]; exact a1, by rw [zA_I, zA_I, zA_I]; exact z1, fun i hi => ?_, ?_, fun j hj => ?_, ?_, ?_⟩
            · rw [zA_A, if_neg (fun y => absurd y.1 (by decide)), zA_A, if_neg (fun y => absurd y.1 (by decide)), zA_A, if_neg (fun y => absurd y.1 (by decide))]; exact L1 i hi
            · rw [zA_A, if_neg (fun y => absurd y.1 (by decide)), zA_A, if_neg (fun y => absurd y.1 (by decide)), zA_A, if_neg (fun y => absurd y.1 (by decide))]; exact hc1
            · show _ = if j = x then bdM W op else rg j
              rw [zA_A, if_neg (fun y => absurd y.1 (by decide)), zA_A, if_neg (fun y => absurd y.1 (by decide)), zA_A]
              by_cases hjx : j = x
              · rw [if_pos ⟨rfl, by rw [hjx]⟩, if_pos hjx]
              · rw [if_neg (fun y => hjx (by have := y.2; omega)), if_neg hjx]; exact hg1 j hj
            · rw [zA_A, if_neg (fun y => absurd y.1 (by decide)), zA_A, if_pos ⟨rfl, rfl⟩]
            · rw [zA_A, if_pos ⟨rfl, rfl⟩]
        · rw [if_neg hlow]
          refine ⟨jsA (jsA σ2 53 k 1) 54 k (nI x), ?_, (F1.A (by decide)).A (by decide), fun g a b c => by rw [zA_I, zA_I, f1.2 g a b c], fun i hi => ?_, fun i hi => ?_, fun i hi => ?_, fun i hi => ?_, ?_⟩
          · rw [e2, e3]
            cases fs with
            | false => simp (decide := true) only [k144_70, k144_79, k144_116, k144_123, k144_163N, q, z1, hc1, gr, cr, gk, ck, an, sT_1, sT_2, sT_3, sT_16, sT_17, sT_18, sT_19, sT_20, sT_21, sT_22, sT_23, sT_24, sT_25, sT_26, sT_27, sT_28, sT_29, sT_30, sT_31, sT_32, sT_33, sT_34, sT_35, sT_36, sT_37, sT_38, sT_39, sT_40, sT_41, sT_42, sT_43, sT_44, sT_45, sT_46, sT_47, sT_48, sT_49, sT_50, sT_51, sT_52, sT_53, sT_54, sT_55, sT_56, sT_57, sT_58, sT_59, sT_60, sT_61, sT_62, sT_63, sT_64, sT_65, sT_66, sT_67, sT_68, sT_69, sT_70, sT_71, sT_72, sT_73, sT_74, sT_75, sT_76, sT_77, sT_78, sT_79, sT_80, sN_1, sN_2, sN_19, sN_21, sN_23, sN_24, sN_26, sN_29, sN_31, sN_33, sN_35, sN_36, sN_37, sN_39, sN_40, sN_42, sN_44, sN_45, sN_46, sN_48, sN_49, sN_50, sN_51, sN_52, sN_53, sN_54, sN_55, sN_56, sN_57, sN_58, sN_59, sN_60, sN_61, sN_62, sN_63, sN_64, sN_65, sN_66, sN_67, sN_68, sN_69, sN_70, sN_71, sN_72, sN_73, sN_74, sN_75, sN_76, sN_77, sN_78, sN_79, sN_80, sR_0_34, sR_0_38, sR_1_34, sR_1_38, sR_64_20, sR_64_22, sR_128_25, sR_128_28, sR_194_17, sR_195_17, sR_196_17, sR_197_17, sR_258_30, sR_258_32, sR_258_41, sR_384_43, sR_448_18, sR_512_27, sR_513_27, sR_514_27, sR_515_27, sR_516_27, sR_576_16, sR_577_16, sR_578_16, sR_579_16, sR_580_16, sR_581_16, sR_582_16, sR_583_16, sR_584_16, sR_641_47, sR_643_47, sR_645_47, sR_646_47, sR_647_47, sR_648_47, sR_649_47, sR_650_47, sR_651_47, sR_652_47, sR_653_47, sR_654_47, sR_655_47, sR_656_47, sR_657_47, sR_658_47, sR_659_47, sR_661_47, sR_662_47, sR_663_47, sR_664_47, sR_665_47, sR_669_47, sR_670_47, sR_671_47, sR_672_47, sR_673_47, sR_674_47, sR_676_47, sR_677_47, sR_679_47, sR_680_47, sR_681_47, SH_I, SH_A, SH_G, SH_C, hS1, Option.getD_some, ne_eq, reduceCtorEq, not_false_eq_true, not_true_eq_false, Option.bind_some, Option.toList_none, Option.toList_some, List.nil_append, List.cons_append, List.append_nil, ↓reduceIte, and_self, true_and, and_true, false_and, and_false, or_true, true_or, or_false, false_or, Nat.reduceEqDiff, Nat.reduceAdd, Int32.reduceMul, Int32.reduceAdd, Int32.reduceSub, Int32.reduceToNatClampNeg, Int32.reduceOfNat, Int32.reduceLT, Int32.reduceLE, va_rf]
            | true =>
              have g4 : rg x ≤ bdM W op := Int32.not_lt.mp (fun y => hlow ⟨rfl, y⟩)
              simp (decide := true) only [k144_70, k144_79, k144_116, k144_123, k144_128, k144_133, k144_163N, cb, idx, g1, g2, g3, g4, q, z1, hc1, gr, cr, gk, ck, an, sT_1, sT_2, sT_3, sT_16, sT_17, sT_18, sT_19, sT_20, sT_21, sT_22, sT_23, sT_24, sT_25, sT_26, sT_27, sT_28, sT_29, sT_30, sT_31, sT_32, sT_33, sT_34, sT_35, sT_36, sT_37, sT_38, sT_39, sT_40, sT_41, sT_42, sT_43, sT_44, sT_45, sT_46, sT_47, sT_48, sT_49, sT_50, sT_51, sT_52, sT_53, sT_54, sT_55, sT_56, sT_57, sT_58, sT_59, sT_60, sT_61, sT_62, sT_63, sT_64, sT_65, sT_66, sT_67, sT_68, sT_69, sT_70, sT_71, sT_72, sT_73, sT_74, sT_75, sT_76, sT_77, sT_78, sT_79, sT_80, sN_1, sN_2, sN_19, sN_21, sN_23, sN_24, sN_26, sN_29, sN_31, sN_33, sN_35, sN_36, sN_37, sN_39, sN_40, sN_42, sN_44, sN_45, sN_46, sN_48, sN_49, sN_50, sN_51, sN_52, sN_53, sN_54, sN_55, sN_56, sN_57, sN_58, sN_59, sN_60, sN_61, sN_62, sN_63, sN_64, sN_65, sN_66, sN_67, sN_68, sN_69, sN_70, sN_71, sN_72, sN_73, sN_74, sN_75, sN_76, sN_77, sN_78, sN_79, sN_80, sR_0_34, sR_0_38, sR_1_34, sR_1_38, sR_64_20, sR_64_22, sR_128_25, sR_128_28, sR_194_17, sR_195_17, sR_196_17, sR_197_17, sR_258_30, sR_258_32, sR_258_41, sR_384_43, sR_448_18, sR_512_27, sR_513_27, sR_514_27, sR_515_27, sR_516_27, sR_576_16, sR_577_16, sR_578_16, sR_579_16, sR_580_16, sR_581_16, sR_582_16, sR_583_16, sR_584_16, sR_641_47, sR_643_47, sR_645_47, sR_646_47, sR_647_47, sR_648_47, sR_649_47, sR_650_47, sR_651_47, sR_652_47, sR_653_47, sR_654_47, sR_655_47, sR_656_47, sR_657_47, sR_658_47, sR_659_47, sR_661_47, sR_662_47, sR_663_47, sR_664_47, sR_665_47, sR_669_47, sR_670_47, sR_671_47, sR_672_47, sR_673_47, sR_674_47, sR_676_47, sR_677_47, sR_679_47, sR_680_47, sR_681_47, SH_I, SH_A, SH_G, SH_C, hS1, Option.getD_some, ne_eq, reduceCtorEq, not_false_eq_true, not_true_eq_false, Option.bind_some, Option.toList_none, Option.toList_some, List.nil_append, List.cons_append, List.append_nil, ↓reduceIte, and_self, true_and, and_true, false_and, and_false, or_true, true_or, or_false, false_or, Nat.reduceEqDiff, Nat.reduceAdd, Int32.reduceMul, Int32.reduceAdd, Int32.reduceSub, Int32.reduceToNatClampNeg, Int32.reduceOfNat, Int32.reduceLT, Int32.reduceLE, va_rf]
          · rw [zA_A, if_neg (fun y => absurd y.1 (by decide)), zA_A, if_neg (fun y => absurd y.1 (by decide)), (f1.1.2 57 (by decide)).2]
          · rw [zA_A, if_neg (fun y => absurd y.1 (by decide)), zA_A, if_neg (fun y => absurd y.1 (by decide)), (f1.1.2 58 (by decide)).2]
          · rw [zA_A, if_neg (fun y => absurd y.1 (by decide)), zA_A, if_neg (fun y => hi y.2), (f1.1.2 53 (by decide)).2]
          · rw [zA_A, if_neg (fun y => hi y.2), zA_A, if_neg (fun y => absurd y.1 (by decide)), (f1.1.2 54 (by decide)).2]
          · refine ⟨by rw [zA_I, zA_I]; exact a1, by rw [zA_I, zA_I]; exact z1, fun i hi => ?_, ?_, fun j hj => ?_, ?_, ?_⟩
            · rw [zA_A, if_neg (fun y => absurd y.1 (by decide)), zA_A, if_neg (fun y => absurd y.1 (by decide))]; exact L1 i hi
            · rw [zA_A, if_neg (fun y => absurd y.1 (by decide)), zA_A, if_neg (fun y => absurd y.1 (by decide))]; exact hc1
            · show _ = if j = x then rg x else rg j
              rw [zA_A, if_neg (fun y => absurd y.1 (by decide)), zA_A, if_neg (fun y => absurd y.1 (by decide)), hg1 j hj]
              by_cases hjx : j = x
              · rw [if_pos hjx, hjx]
              · rw [if_neg hjx]
            · rw [zA_A, if_neg (fun y => absurd y.1 (by decide)), zA_A, if_pos ⟨rfl, rfl⟩]
            · rw [zA_A, if_pos ⟨rfl, rfl⟩]
      · rw [if_neg hm] at e4 hK
        cases fs with
        | false => cases hK
        | true =>
          cases hK
          rw [Option.map_some, if_neg hm]
          subst e4
          have n3 : ms.length < 3 := by
            have := nodup_le 3 (l :: ms) (List.nodup_cons.mpr ⟨hm, hn⟩) (fun x hx => by
              rcases List.mem_cons.mp hx with q | q
              · omega
              · exact hb x q)
            rw [List.length_cons] at this; omega
          have hS2 : SH (jsA σ1 72 ms.length (nI l)) := by rw [SH_A]; exact hS1
          have hS3 : SH (jsA (jsA σ1 72 ms.length (nI l)) 57 r (nI ms.length + 1)) := by rw [SH_A]; exact hS2
          have hS4 : SH (jsA (jsA (jsA σ1 72 ms.length (nI l)) 57 r (nI ms.length + 1)) 58 (3 * r + ms.length) (bdM W op)) := by rw [SH_A]; exact hS3
          have hc2 : jA (jsA σ1 72 ms.length (nI l)) 57 r = nI ms.length := by rw [zA_A, if_neg (fun y => absurd y.1 (by decide))]; exact hc1
          have hr2 : jA (jsA (jsA (jsA σ1 72 ms.length (nI l)) 57 r (nI ms.length + 1)) 58 (3 * r + ms.length) (bdM W op)) 58 (3 * r + ms.length) = bdM W op := by rw [zA_A, if_pos ⟨rfl, rfl⟩]
          have cb1 := c146 (d := d + 2) hS3 (by rw [zA_I, zA_I]; exact hw1) ho
          have cb2 := c146 (d := d + 2) hS4 (by rw [zA_I, zA_I, zA_I]; exact hw1) ho
          have g1 := gidx ms.length n3
          have g2 := cidx ms.length n3
          have g4 : bdM W op ≤ bdM W op := Int32.le_refl _
          have z2 : jI (jsA σ1 72 ms.length (nI l)) 667 47 = 0 := by rw [zA_I]; exact z1
          have z4 : jI (jsA (jsA σ1 72 ms.length (nI l)) 57 r (nI ms.length + 1)) 667 47 = 0 := by rw [zA_I, zA_I]; exact z1
          refine ⟨jsA (jsA (jsA (jsA (jsA σ1 72 ms.length (nI l)) 57 r (nI ms.length + 1)) 58 (3 * r + ms.length) (bdM W op)) 53 k 1) 54 k (nI ms.length), ?_, ((((F1.A (by decide)).A (by decide)).A (by decide)).A (by decide)).A (by decide), fun g a b c => by rw [zA_I, zA_I, zA_I, zA_I, zA_I, f1.2 g a b c], fun i hi => ?_, fun i hi => ?_, fun i hi => ?_, fun i hi => ?_, ?_⟩
          · rw [e2, e3]
            simp (decide := true) only [k144_70, k144_79, k144_90, k144_115, k144_116, k144_123, k144_128, k144_133, k144_163N, cb1, cb2, idx, g1, g2, g4, z2, z4, hc2, hr2, gr, cr, gk, ck, an, sT_1, sT_2, sT_3, sT_16, sT_17, sT_18, sT_19, sT_20, sT_21, sT_22, sT_23, sT_24, sT_25, sT_26, sT_27, sT_28, sT_29, sT_30, sT_31, sT_32, sT_33, sT_34, sT_35, sT_36, sT_37, sT_38, sT_39, sT_40, sT_41, sT_42, sT_43, sT_44, sT_45, sT_46, sT_47, sT_48, sT_49, sT_50, sT_51, sT_52, sT_53, sT_54, sT_55, sT_56, sT_57, sT_58, sT_59, sT_60, sT_61, sT_62, sT_63, sT_64, sT_65, sT_66, sT_67, sT_68, sT_69, sT_70, sT_71, sT_72, sT_73, sT_74, sT_75, sT_76, sT_77, sT_78, sT_79, sT_80, sN_1, sN_2, sN_19, sN_21, sN_23, sN_24, sN_26, sN_29, sN_31, sN_33, sN_35, sN_36, sN_37, sN_39, sN_40, sN_42, sN_44, sN_45, sN_46, sN_48, sN_49, sN_50, sN_51, sN_52, sN_53, sN_54, sN_55, sN_56, sN_57, sN_58, sN_59, sN_60, sN_61, sN_62, sN_63, sN_64, sN_65, sN_66, sN_67, sN_68, sN_69, sN_70, sN_71, sN_72, sN_73, sN_74, sN_75, sN_76, sN_77, sN_78, sN_79, sN_80, sR_0_34, sR_0_38, sR_1_34, sR_1_38, sR_64_20, sR_64_22, sR_128_25, sR_128_28, sR_194_17, sR_195_17, sR_196_17, sR_197_17, sR_258_30, sR_258_32, sR_258_41, sR_384_43, sR_448_18, sR_512_27, sR_513_27, sR_514_27, sR_515_27, sR_516_27, sR_576_16, sR_577_16, sR_578_16, sR_579_16, sR_580_16, sR_581_16, sR_582_16, sR_583_16, sR_584_16, sR_641_47, sR_643_47, sR_645_47, sR_646_47, sR_647_47, sR_648_47, sR_649_47, sR_650_47, sR_651_47, sR_652_47, sR_653_47, sR_654_47, sR_655_47, sR_656_47, sR_657_47, sR_658_47, sR_659_47, sR_661_47, sR_662_47, sR_663_47, sR_664_47, sR_665_47, sR_669_47, sR_670_47, sR_671_47, sR_672_47, sR_673_47, sR_674_47, sR_676_47, sR_677_47, sR_679_47, sR_680_47, sR_681_47, SH_I, SH_A, SH_G, SH_C, hS2, hS3, hS4, Option.getD_some, ne_eq, reduceCtorEq, not_false_eq_true, not_true_eq_false, Option.bind_some, Option.toList_none, Option.toList_some, List.nil_append, List.cons_append, List.append_nil, ↓reduceIte, and_self, true_and, and_true, false_and, and_false, or_true, true_or, or_false, false_or, Nat.reduceEqDiff, Nat.reduceAdd, Int32.reduceMul, Int32.reduceAdd, Int32.reduceSub, Int32.reduceToNatClampNeg, Int32.reduceOfNat, Int32.reduceLT, Int32.reduceLE, va_rf]
          · rw [zA_A, if_neg (fun y => absurd y.1 (by decide)), zA_A, if_neg (fun y => absurd y.1 (by decide)), zA_A, if_neg (fun y => absurd y.1 (by decide)), zA_A, if_neg (fun y => hi y.2), zA_A, if_neg (fun y => absurd y.1 (by decide)), (f1.1.2 57 (by decide)).2]
          · rw [zA_A, if_neg (fun y => absurd y.1 (by decide)), zA_A, if_neg (fun y => absurd y.1 (by decide)), zA_A, if_neg (fun y => hi (by have := y.2; omega)), zA_A, if_neg (fun y => absurd y.1 (by decide)), zA_A, if_neg (fun y => absurd y.1 (by decide)), (f1.1.2 58 (by decide)).2]
          · rw [zA_A, if_neg (fun y => absurd y.1 (by decide)), zA_A, if_neg (fun y => hi y.2), zA_A, if_neg (fun y => absurd y.1 (by decide)), zA_A, if_neg (fun y => absurd y.1 (by decide)), zA_A, if_neg (fun y => absurd y.1 (by decide)), (f1.1.2 53 (by decide)).2]
          · rw [zA_A, if_neg (fun y => hi y.2), zA_A, if_neg (fun y => absurd y.1 (by decide)), zA_A, if_neg (fun y => absurd y.1 (by decide)), zA_A, if_neg (fun y => absurd y.1 (by decide)), zA_A, if_neg (fun y => absurd y.1 (by decide)), (f1.1.2 54 (by decide)).2]
          · refine ⟨by rw [zA_I, zA_I, zA_I, zA_I, zA_I]; exact a1, by rw [zA_I, zA_I, zA_I, zA_I, zA_I]; exact z1, fun i hi => ?_, ?_, fun j hj => ?_, ?_, ?_⟩
            · rw [zA_A, if_neg (fun y => absurd y.1 (by decide)), zA_A, if_neg (fun y => absurd y.1 (by decide)), zA_A, if_neg (fun y => absurd y.1 (by decide)), zA_A, if_neg (fun y => absurd y.1 (by decide)), zA_A]
              have hi2 : i < ms.length + 1 := by simpa using hi
              by_cases q : i = ms.length
              · subst q
                rw [if_pos ⟨rfl, rfl⟩]
                simp
              · rw [if_neg (fun y => q y.2), L1 i (by omega)]
                congr 1
                have hi3 : i < ms.length := by omega
                simp [List.getElem?_append_left hi3]
            · rw [zA_A, if_neg (fun y => absurd y.1 (by decide)), zA_A, if_neg (fun y => absurd y.1 (by decide)), zA_A, if_neg (fun y => absurd y.1 (by decide)), zA_A, if_pos ⟨rfl, rfl⟩, ← nI_succ]
              simp
            · show _ = if j = ms.length then bdM W op else rg j
              rw [zA_A, if_neg (fun y => absurd y.1 (by decide)), zA_A, if_neg (fun y => absurd y.1 (by decide)), zA_A]
              by_cases hjx : j = ms.length
              · rw [if_pos ⟨rfl, by rw [hjx]⟩, if_pos hjx]
              · rw [if_neg (fun y => hjx (by have := y.2; omega)), if_neg hjx, zA_A, if_neg (fun y => absurd y.1 (by decide)), zA_A, if_neg (fun y => absurd y.1 (by decide))]; exact hg1 j hj
            · rw [zA_A, if_neg (fun y => absurd y.1 (by decide)), zA_A, if_pos ⟨rfl, rfl⟩]
            · rw [zA_A, if_pos ⟨rfl, rfl⟩]
end MR8
