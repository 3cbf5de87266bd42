/-! the reference's reader: a rule's register -/
section MR6
variable {d : Nat} {σ : jS} {len : Nat} {b : Nat → Int32} {p : Nat}
theorem mLet_val {X Y : Nat} {z : Int32 × Nat} (hXY : X + Y < 2 ^ 31) (hY : 1 ≤ Y) (h : mLet len b (nI X) (nI Y) p = some z) : ∃ l, l < Y ∧ z.1 = nI l := by
  unfold mLet at h
  split at h
  · rename_i g
    obtain ⟨-, -, ⟨g1, g2⟩, -⟩ := g
    rw [nadd, show (1 : Int32) = nI 1 from rfl, nsub (by omega)] at g2
    have n1 : ¬ tv len b p < 0 := by
      intro z
      rw [Int32.lt_iff_toInt_lt] at z
      rw [Int32.le_iff_toInt_le, nI_toInt (by omega)] at g1
      have : (0 : Int32).toInt = 0 := rfl
      omega
    have n2 : ¬ nI (X + Y) ≤ tv len b p := by
      intro z
      rw [Int32.le_iff_toInt_le, nI_toInt (by omega)] at z
      rw [Int32.le_iff_toInt_le, nI_toInt (by omega)] at g2
      omega
    obtain ⟨e, hlt⟩ := i32_nat hXY n1 n2
    generalize (tv len b p).toNatClampNeg = t at e hlt
    rw [e, n31le (by omega) (by omega)] at g1
    cases h
    refine ⟨t - X, by omega, ?_⟩
    show tv len b p - nI X = _
    rw [e, nsub g1]
  · cases h
def mRegR (len : Nat) (b : Nat → Int32) (fs : Bool) (p : Nat) (rs : List Nat) : Option (Nat × Nat × List Nat) :=
  (mLet len b 112 4 p).bind (fun z => (lk rs z.1.toNatClampNeg fs).map (fun y => (z.2, y.1, y.2)))
theorem c139 (hS : SH σ) (hT : TM σ len b) (hp : p ≤ len) (hat : jI σ 666 47 = nI p) (h0 : jI σ 667 47 = 0) {r k : Nat} (hr : r < 24) (hk : k < 576) {rs : List Nat} (hL : LRw σ 71 rs) (hn : rs.Nodup) (hb : ∀ x, x ∈ rs → x < 4) (hc : jA σ 56 r = nI rs.length) (fs : Bool) :
    ∃ σ', jx (d + 3) 139 0 [some (.ref 47), some (.int (nI r)), some (.int (nI k)), some (.int (if fs = true then 1 else 0)), none, none, none] [] σ = some (none, σ') ∧ FR [47, 71, 56, 52] σ σ' ∧ (∀ g, g ≠ 666 → g ≠ 667 → g ≠ 668 → jI σ' g 47 = jI σ g 47) ∧ (∀ i, i ≠ r → jA σ' 56 i = jA σ 56 i) ∧ (∀ i, i ≠ k → jA σ' 52 i = jA σ 52 i) ∧
      (match mRegR len b fs p rs with | some z => jI σ' 666 47 = nI z.1 ∧ jI σ' 667 47 = 0 ∧ LRw σ' 71 z.2.2 ∧ jA σ' 56 r = nI z.2.2.length ∧ jA σ' 52 k = nI z.2.1 | none => ¬ jI σ' 667 47 = 0) := by
  obtain ⟨v, σ1, e1, f1, r1⟩ := c140 (d := d) hS hT hp hat h0 112 4
  have hS1 := f1.1.sh hS
  have hc1 : jA σ1 56 r = nI rs.length := by rw [(f1.1.2 56 (by decide)).2]; exact hc
  have L1 : LRw σ1 71 rs := fun i hi => by rw [(f1.1.2 71 (by decide)).2]; exact hL i hi
  have F1 : FR [47, 71, 56, 52] σ σ1 := f1.1.mono (by decide)
  have gr : jin 24 (nI r) := jin_n hr (by decide)
  have gk : jin 576 (nI k) := jin_n hk (by decide)
  have cr : (nI r).toNatClampNeg = r := nI_clamp (by omega)
  have ck : (nI k).toNatClampNeg = k := nI_clamp (by omega)
  have rl : rs.length ≤ 4 := nodup_le 4 rs hn hb
  have e0 : jx (d + 3) 139 0 [some (.ref 47), some (.int (nI r)), some (.int (nI k)), some (.int (if fs = true then 1 else 0)), none, none, none] [] σ = jx (d + 3) 139 13 [some (.ref 47), some (.int (nI r)), some (.int (nI k)), some (.int (if fs = true then 1 else 0)), some (.int (nI p)), none, none] [.int v] σ1 := by
    rw [k139_0 (sT_47 hS), e1, hat]; rfl
  unfold mRegR
  cases hM : mLet len b 112 4 p with
  | none =>
    rw [hM] at r1
    have r1 : ¬ jI σ1 667 47 = 0 := r1
    refine ⟨σ1, ?_, F1, f1.2, fun i _ => (f1.1.2 56 (by decide)).2 i, fun i _ => (f1.1.2 52 (by decide)).2 i, r1⟩
    rw [e0, k139_13 (sT_47 hS1), if_pos r1, k139_88]
  | some z =>
    rw [hM] at r1
    obtain ⟨w, a1, z1⟩ := r1
    obtain ⟨l, hl, el⟩ := mLet_val (X := 112) (Y := 4) (by decide) (by decide) hM
    have cl : z.1.toNatClampNeg = l := by rw [el]; exact nI_clamp (by omega)
    have C := c142 (d := d + 1) hS1 (a := 71) (N := 4) (sT_71 hS1) (sN_71 hS1) (by decide) (l := l) L1 rl (fun h => by
        have := nodup_le 4 (l :: rs) (List.nodup_cons.mpr ⟨h, hn⟩) (fun x hx => by
          rcases List.mem_cons.mp hx with q | q
          · omega
          · exact hb x q)
        rw [List.length_cons] at this; omega) (by omega) (fun i hi => by
        rw [List.getD_eq_getElem?_getD, List.getElem?_eq_getElem hi]
        have := hb _ (List.getElem_mem hi)
        show rs[i] < _
        omega) z1 fs (nI p)
    have e2 : jx (d + 3) 139 0 [some (.ref 47), some (.int (nI r)), some (.int (nI k)), some (.int (if fs = true then 1 else 0)), none, none, none] [] σ = (jx (d + 2) 142 0 [some (.ref 47), some (.ref 71), some (.int (nI l)), some (.int (nI rs.length)), some (.int (if fs = true then 1 else 0)), some (.int (nI p)), none] [] σ1).bind (fun y => jx (d + 3) 139 41 [some (.ref 47), some (.int (nI r)), some (.int (nI k)), some (.int (if fs = true then 1 else 0)), some (.int (nI p)), some (.int (nI l)), none] (y.1.toList ++ []) y.2) := by
      rw [e0, k139_13 (sT_47 hS1), if_neg (fun q => q z1), w, el]
      simp (decide := true) only [k139_22, sT_1, sT_2, sT_3, sT_16, sT_17, sT_18, sT_19, sT_20, sT_21, sT_22, sT_23, sT_24, sT_25, sT_26, sT_27, sT_28, sT_29, sT_30, sT_31, sT_32, sT_33, sT_34, sT_35, sT_36, sT_37, sT_38, sT_39, sT_40, sT_41, sT_42, sT_43, sT_44, sT_45, sT_46, sT_47, sT_48, sT_49, sT_50, sT_51, sT_52, sT_53, sT_54, sT_55, sT_56, sT_57, sT_58, sT_59, sT_60, sT_61, sT_62, sT_63, sT_64, sT_65, sT_66, sT_67, sT_68, sT_69, sT_70, sT_71, sT_72, sT_73, sT_74, sT_75, sT_76, sT_77, sT_78, sT_79, sT_80, sN_1, sN_2, sN_19, sN_21, sN_23, sN_24, sN_26, sN_29, sN_31, sN_33, sN_35, sN_36, sN_37, sN_39, sN_40, sN_42, sN_44, sN_45, sN_46, sN_48, sN_49, sN_50, sN_51, sN_52, sN_53, sN_54, sN_55, sN_56, sN_57, sN_58, sN_59, sN_60, sN_61, sN_62, sN_63, sN_64, sN_65, sN_66, sN_67, sN_68, sN_69, sN_70, sN_71, sN_72, sN_73, sN_74, sN_75, sN_76, sN_77, sN_78, sN_79, sN_80, sR_0_34, sR_0_38, sR_1_34, sR_1_38, sR_64_20, sR_64_22, sR_128_25, sR_128_28, sR_194_17, sR_195_17, sR_196_17, sR_197_17, sR_258_30, sR_258_32, sR_258_41, sR_384_43, sR_448_18, sR_512_27, sR_513_27, sR_514_27, sR_515_27, sR_516_27, sR_576_16, sR_577_16, sR_578_16, sR_579_16, sR_580_16, sR_581_16, sR_582_16, sR_583_16, sR_584_16, sR_641_47, sR_643_47, sR_645_47, sR_646_47, sR_647_47, sR_648_47, sR_649_47, sR_650_47, sR_651_47, sR_652_47, sR_653_47, sR_654_47, sR_655_47, sR_656_47, sR_657_47, sR_658_47, sR_659_47, sR_661_47, sR_662_47, sR_663_47, sR_664_47, sR_665_47, sR_669_47, sR_670_47, sR_671_47, sR_672_47, sR_673_47, sR_674_47, sR_676_47, sR_677_47, sR_679_47, sR_680_47, sR_681_47, SH_I, SH_A, SH_G, SH_C, hS1, gr, cr, hc1, Option.getD_some, ne_eq, reduceCtorEq, not_false_eq_true, not_true_eq_false, Option.bind_some, Option.toList_none, Option.toList_some, List.nil_append, List.cons_append, List.append_nil, ↓reduceIte, and_self, true_and, and_true, false_and, and_false, or_true, true_or, or_false, false_or, Nat.reduceEqDiff, Nat.reduceAdd, Int32.reduceMul, Int32.reduceAdd, Int32.reduceSub, Int32.reduceToNatClampNeg, Int32.reduceOfNat, Int32.reduceLT, Int32.reduceLE, va_rf]
    rw [Option.bind_some, cl]
    cases hK : lk rs l fs with
    | none =>
      rw [hK] at C
      obtain ⟨σ2, e3, f2, f3⟩ := C
      have hS2 := f2.1.sh hS1
      have hc2 : jA σ2 56 r = nI rs.length := by rw [(f2.1.2 56 (by decide)).2]; exact hc1
      refine ⟨jsA (jsA σ2 56 r (nI rs.length)) 52 k 0, ?_, ((F1.trans (f2.1.mono (by decide))).A (by decide)).A (by decide), fun g a b c => by rw [zA_I, zA_I, f2.2 g a b c, f1.2 g a b c], fun i hi => ?_, fun i hi => ?_, ?_⟩
      · rw [e2, e3]
        by_cases q : (0 : Int32) = nI rs.length
        · simp (decide := true) only [k139_41, k139_59, k139_73, sT_1, sT_2, sT_3, sT_16, sT_17, sT_18, sT_19, sT_20, sT_21, sT_22, sT_23, sT_24, sT_25, sT_26, sT_27, sT_28, sT_29, sT_30, sT_31, sT_32, sT_33, sT_34, sT_35, sT_36, sT_37, sT_38, sT_39, sT_40, sT_41, sT_42, sT_43, sT_44, sT_45, sT_46, sT_47, sT_48, sT_49, sT_50, sT_51, sT_52, sT_53, sT_54, sT_55, sT_56, sT_57, sT_58, sT_59, sT_60, sT_61, sT_62, sT_63, sT_64, sT_65, sT_66, sT_67, sT_68, sT_69, sT_70, sT_71, sT_72, sT_73, sT_74, sT_75, sT_76, sT_77, sT_78, sT_79, sT_80, sN_1, sN_2, sN_19, sN_21, sN_23, sN_24, sN_26, sN_29, sN_31, sN_33, sN_35, sN_36, sN_37, sN_39, sN_40, sN_42, sN_44, sN_45, sN_46, sN_48, sN_49, sN_50, sN_51, sN_52, sN_53, sN_54, sN_55, sN_56, sN_57, sN_58, sN_59, sN_60, sN_61, sN_62, sN_63, sN_64, sN_65, sN_66, sN_67, sN_68, sN_69, sN_70, sN_71, sN_72, sN_73, sN_74, sN_75, sN_76, sN_77, sN_78, sN_79, sN_80, sR_0_34, sR_0_38, sR_1_34, sR_1_38, sR_64_20, sR_64_22, sR_128_25, sR_128_28, sR_194_17, sR_195_17, sR_196_17, sR_197_17, sR_258_30, sR_258_32, sR_258_41, sR_384_43, sR_448_18, sR_512_27, sR_513_27, sR_514_27, sR_515_27, sR_516_27, sR_576_16, sR_577_16, sR_578_16, sR_579_16, sR_580_16, sR_581_16, sR_582_16, sR_583_16, sR_584_16, sR_641_47, sR_643_47, sR_645_47, sR_646_47, sR_647_47, sR_648_47, sR_649_47, sR_650_47, sR_651_47, sR_652_47, sR_653_47, sR_654_47, sR_655_47, sR_656_47, sR_657_47, sR_658_47, sR_659_47, sR_661_47, sR_662_47, sR_663_47, sR_664_47, sR_665_47, sR_669_47, sR_670_47, sR_671_47, sR_672_47, sR_673_47, sR_674_47, sR_676_47, sR_677_47, sR_679_47, sR_680_47, sR_681_47, SH_I, SH_A, SH_G, SH_C, hS2, gr, gk, cr, ck, hc2, f3, q.symm, Option.getD_some, ne_eq, reduceCtorEq, not_false_eq_true, not_true_eq_false, Option.bind_some, Option.toList_none, Option.toList_some, List.nil_append, List.cons_append, List.append_nil, ↓reduceIte, and_self, true_and, and_true, false_and, and_false, or_true, true_or, or_false, false_or, Nat.reduceEqDiff, Nat.reduceAdd, Int32.reduceMul, Int32.reduceAdd, Int32.reduceSub, Int32.reduceToNatClampNeg, Int32.reduceOfNat, Int32.reduceLT, Int32.reduceLE, va_rf]
        · simp (decide := true) only [k139_41, k139_59, k139_73, sT_1, sT_2, sT_3, sT_16, sT_17, sT_18, sT_19, sT_20, sT_21, sT_22, sT_23, sT_24, sT_25, sT_26, sT_27, sT_28, sT_29, sT_30, sT_31, sT_32, sT_33, sT_34, sT_35, sT_36, sT_37, sT_38, sT_39, sT_40, sT_41, sT_42, sT_43, sT_44, sT_45, sT_46, sT_47, sT_48, sT_49, sT_50, sT_51, sT_52, sT_53, sT_54, sT_55, sT_56, sT_57, sT_58, sT_59, sT_60, sT_61, sT_62, sT_63, sT_64, sT_65, sT_66, sT_67, sT_68, sT_69, sT_70, sT_71, sT_72, sT_73, sT_74, sT_75, sT_76, sT_77, sT_78, sT_79, sT_80, sN_1, sN_2, sN_19, sN_21, sN_23, sN_24, sN_26, sN_29, sN_31, sN_33, sN_35, sN_36, sN_37, sN_39, sN_40, sN_42, sN_44, sN_45, sN_46, sN_48, sN_49, sN_50, sN_51, sN_52, sN_53, sN_54, sN_55, sN_56, sN_57, sN_58, sN_59, sN_60, sN_61, sN_62, sN_63, sN_64, sN_65, sN_66, sN_67, sN_68, sN_69, sN_70, sN_71, sN_72, sN_73, sN_74, sN_75, sN_76, sN_77, sN_78, sN_79, sN_80, sR_0_34, sR_0_38, sR_1_34, sR_1_38, sR_64_20, sR_64_22, sR_128_25, sR_128_28, sR_194_17, sR_195_17, sR_196_17, sR_197_17, sR_258_30, sR_258_32, sR_258_41, sR_384_43, sR_448_18, sR_512_27, sR_513_27, sR_514_27, sR_515_27, sR_516_27, sR_576_16, sR_577_16, sR_578_16, sR_579_16, sR_580_16, sR_581_16, sR_582_16, sR_583_16, sR_584_16, sR_641_47, sR_643_47, sR_645_47, sR_646_47, sR_647_47, sR_648_47, sR_649_47, sR_650_47, sR_651_47, sR_652_47, sR_653_47, sR_654_47, sR_655_47, sR_656_47, sR_657_47, sR_658_47, sR_659_47, sR_661_47, sR_662_47, sR_663_47, sR_664_47, sR_665_47, sR_669_47, sR_670_47, sR_671_47, sR_672_47, sR_673_47, sR_674_47, sR_676_47, sR_677_47, sR_679_47, sR_680_47, sR_681_47, SH_I, SH_A, SH_G, SH_C, hS2, gr, gk, cr, ck, hc2, f3, q, Option.getD_some, ne_eq, reduceCtorEq, not_false_eq_true, not_true_eq_false, Option.bind_some, Option.toList_none, Option.toList_some, List.nil_append, List.cons_append, List.append_nil, ↓reduceIte, and_self, true_and, and_true, false_and, and_false, or_true, true_or, or_false, false_or, Nat.reduceEqDiff, Nat.reduceAdd, Int32.reduceMul, Int32.reduceAdd, Int32.reduceSub, Int32.reduceToNatClampNeg, Int32.reduceOfNat, Int32.reduceLT, Int32.reduceLE, va_rf]
      · rw [zA_A, if_neg (fun y => absurd y.1 (by decide)), zA_A, if_neg (fun y => hi y.2), (f2.1.2 56 (by decide)).2, (f1.1.2 56 (by decide)).2]
      · rw [zA_A, if_neg (fun y => hi y.2), zA_A, if_neg (fun y => absurd y.1 (by decide)), (f2.1.2 52 (by decide)).2, (f1.1.2 52 (by decide)).2]
      · show ¬ jI (jsA (jsA σ2 56 r (nI rs.length)) 52 k 0) 667 47 = 0
        rw [zA_I, zA_I]; exact f3
    | some y =>
      rw [hK] at C
      obtain ⟨σ2, e3, e4⟩ := C
      unfold lk at hK
      by_cases hm : l ∈ rs
      · rw [if_pos hm] at e4 hK
        subst e4
        cases hK
        have hi : rs.idxOf l < rs.length := List.idxOf_lt_length_iff.mpr hm
        have q : ¬ nI (rs.idxOf l) = nI rs.length := by rw [n31eq (by omega) (by omega)]; omega
        have e3 : jx (d + 2) 142 0 [some (.ref 47), some (.ref 71), some (.int (nI l)), some (.int (nI rs.length)), some (.int (if fs = true then 1 else 0)), some (.int (nI p)), none] [] σ2 = some (some (.int (nI (rs.idxOf l))), σ2) := e3
        refine ⟨jsA (jsA σ2 56 r (nI rs.length)) 52 k (nI (rs.idxOf l)), ?_, (F1.A (by decide)).A (by decide), fun g a b c => by rw [zA_I, zA_I, f1.2 g a b c], fun i hi => ?_, fun i hi => ?_, ?_⟩
        · rw [e2, e3]
          simp (decide := true) only [k139_41, k139_59, k139_73, sT_1, sT_2, sT_3, sT_16, sT_17, sT_18, sT_19, sT_20, sT_21, sT_22, sT_23, sT_24, sT_25, sT_26, sT_27, sT_28, sT_29, sT_30, sT_31, sT_32, sT_33, sT_34, sT_35, sT_36, sT_37, sT_38, sT_39, sT_40, sT_41, sT_42, sT_43, sT_44, sT_45, sT_46, sT_47, sT_48, sT_49, sT_50, sT_51, sT_52, sT_53, sT_54, sT_55, sT_56, sT_57, sT_58, sT_59, sT_60, sT_61, sT_62, sT_63, sT_64, sT_65, sT_66, sT_67, sT_68, sT_69, sT_70, sT_71, sT_72, sT_73, sT_74, sT_75, sT_76, sT_77, sT_78, sT_79, sT_80, sN_1, sN_2, sN_19, sN_21, sN_23, sN_24, sN_26, sN_29, sN_31, sN_33, sN_35, sN_36, sN_37, sN_39, sN_40, sN_42, sN_44, sN_45, sN_46, sN_48, sN_49, sN_50, sN_51, sN_52, sN_53, sN_54, sN_55, sN_56, sN_57, sN_58, sN_59, sN_60, sN_61, sN_62, sN_63, sN_64, sN_65, sN_66, sN_67, sN_68, sN_69, sN_70, sN_71, sN_72, sN_73, sN_74, sN_75, sN_76, sN_77, sN_78, sN_79, sN_80, sR_0_34, sR_0_38, sR_1_34, sR_1_38, sR_64_20, sR_64_22, sR_128_25, sR_128_28, sR_194_17, sR_195_17, sR_196_17, sR_197_17, sR_258_30, sR_258_32, sR_258_41, sR_384_43, sR_448_18, sR_512_27, sR_513_27, sR_514_27, sR_515_27, sR_516_27, sR_576_16, sR_577_16, sR_578_16, sR_579_16, sR_580_16, sR_581_16, sR_582_16, sR_583_16, sR_584_16, sR_641_47, sR_643_47, sR_645_47, sR_646_47, sR_647_47, sR_648_47, sR_649_47, sR_650_47, sR_651_47, sR_652_47, sR_653_47, sR_654_47, sR_655_47, sR_656_47, sR_657_47, sR_658_47, sR_659_47, sR_661_47, sR_662_47, sR_663_47, sR_664_47, sR_665_47, sR_669_47, sR_670_47, sR_671_47, sR_672_47, sR_673_47, sR_674_47, sR_676_47, sR_677_47, sR_679_47, sR_680_47, sR_681_47, SH_I, SH_A, SH_G, SH_C, hS1, gr, gk, cr, ck, hc1, q, Option.getD_some, ne_eq, reduceCtorEq, not_false_eq_true, not_true_eq_false, Option.bind_some, Option.toList_none, Option.toList_some, List.nil_append, List.cons_append, List.append_nil, ↓reduceIte, and_self, true_and, and_true, false_and, and_false, or_true, true_or, or_false, false_or, Nat.reduceEqDiff, Nat.reduceAdd, Int32.reduceMul, Int32.reduceAdd, Int32.reduceSub, Int32.reduceToNatClampNeg, Int32.reduceOfNat, Int32.reduceLT, Int32.reduceLE, va_rf]
        · rw [zA_A, if_neg (fun y => absurd y.1 (by decide)), zA_A, if_neg (fun y => hi y.2), (f1.1.2 56 (by decide)).2]
        · rw [zA_A, if_neg (fun y => hi y.2), zA_A, if_neg (fun y => absurd y.1 (by decide)), (f1.1.2 52 (by decide)).2]
        · refine ⟨by rw [zA_I, zA_I]; exact a1, by rw [zA_I, zA_I]; exact z1, fun i hi => ?_, ?_, ?_⟩
          · rw [zA_A, if_neg (fun y => absurd y.1 (by decide)), zA_A, if_neg (fun y => absurd y.1 (by decide))]; exact L1 i hi
          · rw [zA_A, if_neg (fun y => absurd y.1 (by decide)), zA_A, if_pos ⟨rfl, rfl⟩]
          · rw [zA_A, if_pos ⟨rfl, rfl⟩]
      · rw [if_neg hm] at e4 hK
        cases fs with
        | false => cases hK
        | true =>
          cases hK
          subst e4
          have hS2 : SH (jsA σ1 71 rs.length (nI l)) := by rw [SH_A]; exact hS1
          have hc2 : jA (jsA σ1 71 rs.length (nI l)) 56 r = nI rs.length := by rw [zA_A, if_neg (fun y => absurd y.1 (by decide))]; exact hc1
          have z2 : jI (jsA σ1 71 rs.length (nI l)) 667 47 = 0 := by rw [zA_I]; exact z1
          refine ⟨jsA (jsA (jsA σ1 71 rs.length (nI l)) 56 r (nI rs.length + 1)) 52 k (nI rs.length), ?_, ((F1.A (by decide)).A (by decide)).A (by decide), fun g a b c => by rw [zA_I, zA_I, zA_I, f1.2 g a b c], fun i hi => ?_, fun i hi => ?_, ?_⟩
          · rw [e2, e3]
            simp (decide := true) only [k139_41, k139_59, k139_66, sT_1, sT_2, sT_3, sT_16, sT_17, sT_18, sT_19, sT_20, sT_21, sT_22, sT_23, sT_24, sT_25, sT_26, sT_27, sT_28, sT_29, sT_30, sT_31, sT_32, sT_33, sT_34, sT_35, sT_36, sT_37, sT_38, sT_39, sT_40, sT_41, sT_42, sT_43, sT_44, sT_45, sT_46, sT_47, sT_48, sT_49, sT_50, sT_51, sT_52, sT_53, sT_54, sT_55, sT_56, sT_57, sT_58, sT_59, sT_60, sT_61, sT_62, sT_63, sT_64, sT_65, sT_66, sT_67, sT_68, sT_69, sT_70, sT_71, sT_72, sT_73, sT_74, sT_75, sT_76, sT_77, sT_78, sT_79, sT_80, sN_1, sN_2, sN_19, sN_21, sN_23, sN_24, sN_26, sN_29, sN_31, sN_33, sN_35, sN_36, sN_37, sN_39, sN_40, sN_42, sN_44, sN_45, sN_46, sN_48, sN_49, sN_50, sN_51, sN_52, sN_53, sN_54, sN_55, sN_56, sN_57, sN_58, sN_59, sN_60, sN_61, sN_62, sN_63, sN_64, sN_65, sN_66, sN_67, sN_68, sN_69, sN_70, sN_71, sN_72, sN_73, sN_74, sN_75, sN_76, sN_77, sN_78, sN_79, sN_80, sR_0_34, sR_0_38, sR_1_34, sR_1_38, sR_64_20, sR_64_22, sR_128_25, sR_128_28, sR_194_17, sR_195_17, sR_196_17, sR_197_17, sR_258_30, sR_258_32, sR_258_41, sR_384_43, sR_448_18, sR_512_27, sR_513_27, sR_514_27, sR_515_27, sR_516_27, sR_576_16, sR_577_16, sR_578_16, sR_579_16, sR_580_16, sR_581_16, sR_582_16, sR_583_16, sR_584_16, sR_641_47, sR_643_47, sR_645_47, sR_646_47, sR_647_47, sR_648_47, sR_649_47, sR_650_47, sR_651_47, sR_652_47, sR_653_47, sR_654_47, sR_655_47, sR_656_47, sR_657_47, sR_658_47, sR_659_47, sR_661_47, sR_662_47, sR_663_47, sR_664_47, sR_665_47, sR_669_47, sR_670_47, sR_671_47, sR_672_47, sR_673_47, sR_674_47, sR_676_47, sR_677_47, sR_679_47, sR_680_47, sR_681_47, SH_I, SH_A, SH_G, SH_C, hS2, gr, gk, cr, ck, hc2, z2, Option.getD_some, ne_eq, reduceCtorEq, not_false_eq_true, not_true_eq_false, Option.bind_some, Option.toList_none, Option.toList_some, List.nil_append, List.cons_append, List.append_nil, ↓reduceIte, and_self, true_and, and_true, false_and, and_false, or_true, true_or, or_false, false_or, Nat.reduceEqDiff, Nat.reduceAdd, Int32.reduceMul, Int32.reduceAdd, Int32.reduceSub, Int32.reduceToNatClampNeg, Int32.reduceOfNat, Int32.reduceLT, Int32.reduceLE, va_rf]
          · rw [zA_A, if_neg (fun y => absurd y.1 (by decide)), zA_A, if_neg (fun y => hi y.2), zA_A, if_neg (fun y => absurd y.1 (by decide)), (f1.1.2 56 (by decide)).2]
          · rw [zA_A, if_neg (fun y => hi y.2), zA_A, if_neg (fun y => absurd y.1 (by decide)), zA_A, if_neg (fun y => absurd y.1 (by decide)), (f1.1.2 52 (by decide)).2]
          · refine ⟨by rw [zA_I, zA_I, zA_I]; exact a1, by rw [zA_I, zA_I, zA_I]; exact z1, fun i hi => ?_, ?_, ?_⟩
            · rw [zA_A, if_neg (fun y => absurd y.1 (by decide)), zA_A, if_neg (fun y => absurd y.1 (by decide)), zA_A]
              have hi2 : i < rs.length + 1 := by simpa using hi
              by_cases q : i = rs.length
              · subst q
                rw [if_pos ⟨rfl, rfl⟩]
                simp
              · rw [if_neg (fun y => q y.2), L1 i (by omega)]
                congr 1
                have hi3 : i < rs.length := by omega
                simp [List.getElem?_append_left hi3]
            · rw [zA_A, if_neg (fun y => absurd y.1 (by decide)), zA_A, if_pos ⟨rfl, rfl⟩, ← nI_succ]
              simp
            · rw [zA_A, if_pos ⟨rfl, rfl⟩]
end MR6
