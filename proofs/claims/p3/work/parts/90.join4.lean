/-! joined, part: both -/
section SMB
variable {d : Nat} {σ : jS} {s : AS} {cr cp : Nat} {qr qp : Nat → Nat}
theorem cls_joined {p q : Nat} (hS : SH σ) (hx : 81 ≤ jnx σ) (hs : WFs s) (hC : CX s cr cp qr qp σ) (hp : p < s.ps.length) (hq : q < s.ps.length) (hn : s.ps.length < 16) (h24 : (s.ps.getD p []).length + (s.ps.getD q []).length ≤ 24) : ∃ σ' cp' qp', jx (d + 4) 92 0 [some (.ref 16), some (.int (nI p)), some (.int (nI q)), none, none, none] [] σ = some (some (.int (nI s.ps.length)), σ') ∧ CX (sApp s (s.ps.getD p [] ++ s.ps.getD q [])) cr cp' qr qp' σ' ∧ SH σ' ∧ sameM σ σ' ∧ low σ σ' ∧ jnx σ ≤ jnx σ' ∧ jnx σ' ≤ jnx σ + 2 ∧ jsl σ' ≤ jsl σ + 147 := by
  obtain ⟨A, eA⟩ : ∃ A, s.ps.getD p [] = A := ⟨_, rfl⟩
  obtain ⟨B, eB⟩ : ∃ B, s.ps.getD q [] = B := ⟨_, rfl⟩
  have c1 := c86y (d := d + 3) hS hC hs hp
  have c2 := c86y (d := d + 3) hS hC hs hq
  have rA := hC.ps p hp
  have rB := hC.ps q hq
  rw [eA] at rA h24
  rw [eB] at rB h24
  rw [eA, eB]
  have lA : jI σ 257 (qp p) = nI A.length := rA.1.2.2.2.2.2.1
  have lB : jI σ 257 (qp q) = nI B.length := rB.1.2.2.2.2.2.1
  obtain ⟨σ1, cp', qp', e1, hC1, hc, r1, hS1, sm1, lo1, nx1, nx1', sl1, qs⟩ := cls_new (d := d + 1) hS hx hC hn
  have rA1 := hC1.ps p hp
  rw [eA] at rA1
  have rB1 := hC1.ps q hq
  rw [eB] at rB1
  obtain ⟨σ2, e2, hC2, r2, hS2, sm2, lo2, nx2, sl2⟩ := cls_put (d := d) hS1 hC1 hc r1 hp (Nat.zero_le _) (Nat.le_refl _) (by rw [eA]; show 0 + _ ≤ 24; omega)
  rw [eA, sub_all, List.nil_append] at r2
  rw [eA] at e2
  obtain ⟨σ3, e3, hC3, r3, hS3, sm3, lo3, nx3, sl3⟩ := cls_put (d := d) hS2 hC2 hc r2 hq (Nat.zero_le _) (Nat.le_refl _) (by rw [eB]; omega)
  rw [eB, sub_all] at r3
  rw [eB] at e3
  have rB2 := hC2.ps q hq
  rw [eB] at rB2
  have F := i16FR (σ := σ3) 586 (nI (s.ps.length + 1))
  refine ⟨jsI σ3 586 16 (nI (s.ps.length + 1)), cp', qp', ?_, cls_app hS3 hC3 hc r3, by rw [SH_I]; exact hS3, ((sm1.trans sm2).trans sm3).trans (F.sm (fun a h1 h2 => by simp; omega)), ((lo1.trans lo2).trans lo3).trans (F.low (by simp)), by show _ ≤ jnx σ3; omega, by show jnx σ3 ≤ _; omega, by show jsl σ3 ≤ _; omega⟩
  have n16 : ¬ (16 : Int32) ≤ nI s.ps.length := nI_ge (b := 16) (by omega) (by decide)
  have l24 : nI (A.length + B.length) ≤ 24 := nI_le (b := 24) h24 (by decide)
  have e2' : jx (d + 3) 93 0 [some (.ref (qp' s.ps.length)), some (.ref (qp p)), some (.int 0), some (.int (nI A.length)), none] [] σ1 = some (none, σ2) := by rw [← qs p hp]; exact e2
  have e3' : jx (d + 3) 93 0 [some (.ref (qp' s.ps.length)), some (.ref (qp q)), some (.int 0), some (.int (nI B.length)), none] [] σ2 = some (none, σ3) := by rw [← qs q hq]; exact e3
  have lA1 : jI σ1 257 (qp p) = nI A.length := by rw [← qs p hp]; exact rA1.1.2.2.2.2.2.1
  have lB2 : jI σ2 257 (qp q) = nI B.length := by rw [← qs q hq]; exact rB2.1.2.2.2.2.2.1
  have tA1 : jT σ1 (qp p) = 5 := by rw [← qs p hp]; exact rA1.1.1
  have tB1 : jT σ1 (qp q) = 5 := by rw [← qs q hq]; exact rB1.1.1
  have tB2 : jT σ2 (qp q) = 5 := by rw [← qs q hq]; exact rB2.1.1
  have np3 : jI σ3 586 16 = nI s.ps.length := hC3.np
  rw [k92_0 (sT_16 hS), c1]
  simp only [Option.bind_some, Option.toList_some, List.cons_append, List.nil_append]
  rw [k92_5R (sT_16 hS), c2]
  simp only [Option.bind_some, Option.toList_some, List.cons_append, List.nil_append]
  rw [k92_11RR (sT_16 hS), hC.np, if_neg n16, k92_33RR rA.1.1 rB.1.1, lA, lB, nadd, if_pos l24, k92_51 (sT_16 hS), e1]
  simp only [Option.bind_some, Option.toList_some, List.cons_append, List.nil_append]
  rw [k92_55RR tA1 r1.1.1, lA1, e2']
  simp only [Option.bind_some, Option.toList_none, List.nil_append]
  rw [k92_68R tB2 r2.1.1, lB2, e3']
  simp only [Option.bind_some, Option.toList_none, List.nil_append]
  rw [k92_81 (sT_16 hS3), np3, zI_I, if_pos ⟨rfl, rfl⟩, ← nI_succ, show (1 : Int32) = nI 1 from rfl, nsub (by omega), Nat.add_sub_cancel]
theorem sim_joined (hR : REL s cr cp qr qp σ) (x y : Int32) : SimR (d + 4) 92 177 [some (.int x), some (.int y), none, none, none] [some (.int x), some (.int y), none] true σ := by
  have hR0 := hR
  obtain ⟨hS, hx, hs, hC, hM⟩ := hR
  have hl := hs.p16
  have rd : ∀ v : Int32, jx (d + 4) 92 0 [some (.ref 16), some (.int x), some (.int y), none, none, none] [] σ = some (some (.int v), σ) → jx (d + 4) 177 0 [some (.ref 47), some (.int x), some (.int y), none] [] σ = some (some (.int v), σ) → SimR (d + 4) 92 177 [some (.int x), some (.int y), none, none, none] [some (.int x), some (.int y), none] true σ := fun v h1 h2 => SimR.read hR0 h1 h2 (fun _ => rfl)
  by_cases h : inR x s.ps.length
  · have a2 := c170y (d := d + 2) hS hM hs h
    obtain ⟨p, hp, ep⟩ := inR_nat (by omega) h
    have a1 := c86y (d := d + 3) hS hC hs hp
    rw [← ep] at a1
    by_cases h' : inR y s.ps.length
    · have b2 := c170y (d := d + 2) hS hM hs h'
      obtain ⟨q, hq, eq⟩ := inR_nat (by omega) h'
      have b1 := c86y (d := d + 3) hS hC hs hq
      rw [← eq] at b1
      have pA := hM.ps p hp
      have pB := hM.ps q hq
      have rA := hC.ps p hp
      have rB := hC.ps q hq
      obtain ⟨A, eA⟩ : ∃ A, s.ps.getD p [] = A := ⟨_, rfl⟩
      obtain ⟨B, eB⟩ : ∃ B, s.ps.getD q [] = B := ⟨_, rfl⟩
      have fA := hs.fp _ (mem_ps hp)
      have fB := hs.fp _ (mem_ps hq)
      rw [eA] at pA rA fA
      rw [eB] at pB rB fB
      by_cases hn : s.ps.length < 16
      · by_cases h24 : A.length + B.length ≤ 24
        · obtain ⟨σ1, cp', qp', e1, hC1, hS1, sm1, lo1, nx1, nx1', sl1⟩ := cls_joined (d := d) hS hx hs hC hp hq hn (by rw [eA, eB]; exact h24)
          obtain ⟨σ2, e2, hM2, hS2, sc2, nx2, sl2⟩ := ref_joined (d := d + 2) hS1 hs (hM.sm sm1) hp hq hn (by rw [eA, eB]; exact h24)
          rw [ep, eq]
          refine ⟨_, _, σ1, σ2, _, cr, cp', qr, qp', e1, e2, ⟨hS2, by omega, sApp_wf hs hn ⟨by rw [eA, eB, List.length_append]; exact h24, fun o ho => ?_⟩, CX.sc (by omega) hC1 sc2, hM2⟩, by omega, by omega, lo1.trans (sc2.low (by omega)), fun _ => rfl⟩
          rw [eA, eB] at ho
          rcases List.mem_append.mp ho with z | z
          · exact fA.2 o z
          · exact fB.2 o z
        · have g1 : ¬ nI (A.length + B.length) ≤ 24 := by rw [show (24 : Int32) = nI 24 from rfl, n31le (by omega) (by decide)]; omega
          have g2 : ¬ (16 : Int32) ≤ nI s.ps.length := nI_ge (b := 16) (by omega) (by decide)
          have g3 : ¬ nI s.ps.length = 16 := by rw [show (16 : Int32) = nI 16 from rfl, n31eq (by omega) (by decide)]; omega
          have lA : jI σ 257 (qp p) = nI A.length := rA.1.2.2.2.2.2.1
          have lB : jI σ 257 (qp q) = nI B.length := rB.1.2.2.2.2.2.1
          have rg : (jR σ 661 47).getD 0 = 65 := by rw [sR_661_47 hS]; rfl
          have rn : jR σ 661 47 ≠ none := by rw [sR_661_47 hS]; exact fun z => nomatch z
          refine rd (-3) ?_ ?_
          · rw [k92_0 (sT_16 hS), a1]
            simp only [Option.bind_some, Option.toList_some, List.cons_append, List.nil_append]
            rw [k92_5R (sT_16 hS), b1]
            simp only [Option.bind_some, Option.toList_some, List.cons_append, List.nil_append]
            rw [k92_11RR (sT_16 hS), hC.np, if_neg g2, k92_33RR rA.1.1 rB.1.1, lA, lB, nadd, if_neg g1, k92_48]
          · rw [k177_0 (sT_47 hS), a2]
            simp only [Option.bind_some, Option.toList_some, List.cons_append, List.nil_append]
            rw [k177_5, if_neg (by decide), k177_8 (sT_47 hS), b2]
            simp only [Option.bind_some, Option.toList_some, List.cons_append, List.nil_append]
            rw [k177_13, if_pos (by decide), k177_18 (sT_47 hS), hM.np, if_neg g3, ep, eq, k177_27 (sT_47 hS) rn (by rw [rg]; exact Or.inl (sT_65 hS)) (by rw [rg, sN_65 hS]; exact jin_n (by omega) (by decide)) (by rw [rg, sN_65 hS]; exact jin_n (by omega) (by decide)), rg, nI_clamp (by omega), nI_clamp (by omega), pA.1, pB.1, nadd, if_neg g1, k177_45]
      · have e16 : nI s.ps.length = 16 := by rw [show s.ps.length = 16 by omega]; rfl
        refine rd (-3) ?_ ?_
        · rw [k92_0 (sT_16 hS), a1]
          simp only [Option.bind_some, Option.toList_some, List.cons_append, List.nil_append]
          rw [k92_5R (sT_16 hS), b1]
          simp only [Option.bind_some, Option.toList_some, List.cons_append, List.nil_append]
          rw [k92_11RR (sT_16 hS), hC.np, e16, if_pos (by decide), k92_48]
        · rw [k177_0 (sT_47 hS), a2]
          simp only [Option.bind_some, Option.toList_some, List.cons_append, List.nil_append]
          rw [k177_5, if_neg (by decide), k177_8 (sT_47 hS), b2]
          simp only [Option.bind_some, Option.toList_some, List.cons_append, List.nil_append]
          rw [k177_13, if_pos (by decide), k177_18 (sT_47 hS), hM.np, if_pos e16, k177_45]
    · have b1 := c86n (d := d + 3) hS hC h'
      have b2 := c170n (d := d + 2) hS hM hs h'
      refine rd (-1) ?_ ?_
      · simp (decide := true) only [k92_0, k92_5R, k92_5N, k92_11RR, k92_11RN, k92_11NR, k92_11NN, k92_17R, k92_17N, k92_22, k92_24, k92_33RR, k92_48, k92_51, k92_55RR, k92_55NR, k92_68R, k92_81, a1, b1, sT_1, sT_2, sT_3, sT_16, sT_17, sT_18, sT_19, sT_20, sT_21, sT_22, sT_23, sT_24, sT_25, sT_26, sT_27, sT_28, sT_29, sT_30, sT_31, sT_32, sT_33, sT_34, sT_35, sT_36, sT_37, sT_38, sT_39, sT_40, sT_41, sT_42, sT_43, sT_44, sT_45, sT_46, sT_47, sT_48, sT_49, sT_50, sT_51, sT_52, sT_53, sT_54, sT_55, sT_56, sT_57, sT_58, sT_59, sT_60, sT_61, sT_62, sT_63, sT_64, sT_65, sT_66, sT_67, sT_68, sT_69, sT_70, sT_71, sT_72, sT_73, sT_74, sT_75, sT_76, sT_77, sT_78, sT_79, sT_80, sN_1, sN_2, sN_19, sN_21, sN_23, sN_24, sN_26, sN_29, sN_31, sN_33, sN_35, sN_36, sN_37, sN_39, sN_40, sN_42, sN_44, sN_45, sN_46, sN_48, sN_49, sN_50, sN_51, sN_52, sN_53, sN_54, sN_55, sN_56, sN_57, sN_58, sN_59, sN_60, sN_61, sN_62, sN_63, sN_64, sN_65, sN_66, sN_67, sN_68, sN_69, sN_70, sN_71, sN_72, sN_73, sN_74, sN_75, sN_76, sN_77, sN_78, sN_79, sN_80, sR_0_34, sR_0_38, sR_1_34, sR_1_38, sR_64_20, sR_64_22, sR_128_25, sR_128_28, sR_194_17, sR_195_17, sR_196_17, sR_197_17, sR_258_30, sR_258_32, sR_258_41, sR_384_43, sR_448_18, sR_512_27, sR_513_27, sR_514_27, sR_515_27, sR_516_27, sR_576_16, sR_577_16, sR_578_16, sR_579_16, sR_580_16, sR_581_16, sR_582_16, sR_583_16, sR_584_16, sR_641_47, sR_643_47, sR_645_47, sR_646_47, sR_647_47, sR_648_47, sR_649_47, sR_650_47, sR_651_47, sR_652_47, sR_653_47, sR_654_47, sR_655_47, sR_656_47, sR_657_47, sR_658_47, sR_659_47, sR_661_47, sR_662_47, sR_663_47, sR_664_47, sR_665_47, sR_669_47, sR_670_47, sR_671_47, sR_672_47, sR_673_47, sR_674_47, sR_676_47, sR_677_47, sR_679_47, sR_680_47, sR_681_47, SH_I, SH_A, SH_G, SH_C, hS, Option.getD_some, ne_eq, reduceCtorEq, not_false_eq_true, not_true_eq_false, Option.bind_some, Option.toList_none, Option.toList_some, List.nil_append, List.cons_append, List.append_nil, ↓reduceIte, and_self, true_and, and_true, false_and, and_false, or_true, true_or, or_false, false_or, Nat.reduceEqDiff, Nat.reduceAdd, Int32.reduceMul, Int32.reduceAdd, Int32.reduceSub, Int32.reduceToNatClampNeg, Int32.reduceOfNat, Int32.reduceLT, Int32.reduceLE, va_rf]
      · simp (decide := true) only [k177_0, k177_5, k177_8, k177_13, k177_16, a2, b2, sT_1, sT_2, sT_3, sT_16, sT_17, sT_18, sT_19, sT_20, sT_21, sT_22, sT_23, sT_24, sT_25, sT_26, sT_27, sT_28, sT_29, sT_30, sT_31, sT_32, sT_33, sT_34, sT_35, sT_36, sT_37, sT_38, sT_39, sT_40, sT_41, sT_42, sT_43, sT_44, sT_45, sT_46, sT_47, sT_48, sT_49, sT_50, sT_51, sT_52, sT_53, sT_54, sT_55, sT_56, sT_57, sT_58, sT_59, sT_60, sT_61, sT_62, sT_63, sT_64, sT_65, sT_66, sT_67, sT_68, sT_69, sT_70, sT_71, sT_72, sT_73, sT_74, sT_75, sT_76, sT_77, sT_78, sT_79, sT_80, sN_1, sN_2, sN_19, sN_21, sN_23, sN_24, sN_26, sN_29, sN_31, sN_33, sN_35, sN_36, sN_37, sN_39, sN_40, sN_42, sN_44, sN_45, sN_46, sN_48, sN_49, sN_50, sN_51, sN_52, sN_53, sN_54, sN_55, sN_56, sN_57, sN_58, sN_59, sN_60, sN_61, sN_62, sN_63, sN_64, sN_65, sN_66, sN_67, sN_68, sN_69, sN_70, sN_71, sN_72, sN_73, sN_74, sN_75, sN_76, sN_77, sN_78, sN_79, sN_80, sR_0_34, sR_0_38, sR_1_34, sR_1_38, sR_64_20, sR_64_22, sR_128_25, sR_128_28, sR_194_17, sR_195_17, sR_196_17, sR_197_17, sR_258_30, sR_258_32, sR_258_41, sR_384_43, sR_448_18, sR_512_27, sR_513_27, sR_514_27, sR_515_27, sR_516_27, sR_576_16, sR_577_16, sR_578_16, sR_579_16, sR_580_16, sR_581_16, sR_582_16, sR_583_16, sR_584_16, sR_641_47, sR_643_47, sR_645_47, sR_646_47, sR_647_47, sR_648_47, sR_649_47, sR_650_47, sR_651_47, sR_652_47, sR_653_47, sR_654_47, sR_655_47, sR_656_47, sR_657_47, sR_658_47, sR_659_47, sR_661_47, sR_662_47, sR_663_47, sR_664_47, sR_665_47, sR_669_47, sR_670_47, sR_671_47, sR_672_47, sR_673_47, sR_674_47, sR_676_47, sR_677_47, sR_679_47, sR_680_47, sR_681_47, SH_I, SH_A, SH_G, SH_C, hS, Option.getD_some, ne_eq, reduceCtorEq, not_false_eq_true, not_true_eq_false, Option.bind_some, Option.toList_none, Option.toList_some, List.nil_append, List.cons_append, List.append_nil, ↓reduceIte, and_self, true_and, and_true, false_and, and_false, or_true, true_or, or_false, false_or, Nat.reduceEqDiff, Nat.reduceAdd, Int32.reduceMul, Int32.reduceAdd, Int32.reduceSub, Int32.reduceToNatClampNeg, Int32.reduceOfNat, Int32.reduceLT, Int32.reduceLE, va_rf]
  · have a1 := c86n (d := d + 3) hS hC h
    have a2 := c170n (d := d + 2) hS hM hs h
    refine rd (-1) ?_ ?_
    · by_cases h' : inR y s.ps.length
      · obtain ⟨q, hq, eq⟩ := inR_nat (by omega) h'
        have b1 := c86y (d := d + 3) hS hC hs hq
        rw [← eq] at b1
        simp (decide := true) only [k92_0, k92_5R, k92_5N, k92_11RR, k92_11RN, k92_11NR, k92_11NN, k92_17R, k92_17N, k92_22, k92_24, k92_33RR, k92_48, k92_51, k92_55RR, k92_55NR, k92_68R, k92_81, a1, b1, sT_1, sT_2, sT_3, sT_16, sT_17, sT_18, sT_19, sT_20, sT_21, sT_22, sT_23, sT_24, sT_25, sT_26, sT_27, sT_28, sT_29, sT_30, sT_31, sT_32, sT_33, sT_34, sT_35, sT_36, sT_37, sT_38, sT_39, sT_40, sT_41, sT_42, sT_43, sT_44, sT_45, sT_46, sT_47, sT_48, sT_49, sT_50, sT_51, sT_52, sT_53, sT_54, sT_55, sT_56, sT_57, sT_58, sT_59, sT_60, sT_61, sT_62, sT_63, sT_64, sT_65, sT_66, sT_67, sT_68, sT_69, sT_70, sT_71, sT_72, sT_73, sT_74, sT_75, sT_76, sT_77, sT_78, sT_79, sT_80, sN_1, sN_2, sN_19, sN_21, sN_23, sN_24, sN_26, sN_29, sN_31, sN_33, sN_35, sN_36, sN_37, sN_39, sN_40, sN_42, sN_44, sN_45, sN_46, sN_48, sN_49, sN_50, sN_51, sN_52, sN_53, sN_54, sN_55, sN_56, sN_57, sN_58, sN_59, sN_60, sN_61, sN_62, sN_63, sN_64, sN_65, sN_66, sN_67, sN_68, sN_69, sN_70, sN_71, sN_72, sN_73, sN_74, sN_75, sN_76, sN_77, sN_78, sN_79, sN_80, sR_0_34, sR_0_38, sR_1_34, sR_1_38, sR_64_20, sR_64_22, sR_128_25, sR_128_28, sR_194_17, sR_195_17, sR_196_17, sR_197_17, sR_258_30, sR_258_32, sR_258_41, sR_384_43, sR_448_18, sR_512_27, sR_513_27, sR_514_27, sR_515_27, sR_516_27, sR_576_16, sR_577_16, sR_578_16, sR_579_16, sR_580_16, sR_581_16, sR_582_16, sR_583_16, sR_584_16, sR_641_47, sR_643_47, sR_645_47, sR_646_47, sR_647_47, sR_648_47, sR_649_47, sR_650_47, sR_651_47, sR_652_47, sR_653_47, sR_654_47, sR_655_47, sR_656_47, sR_657_47, sR_658_47, sR_659_47, sR_661_47, sR_662_47, sR_663_47, sR_664_47, sR_665_47, sR_669_47, sR_670_47, sR_671_47, sR_672_47, sR_673_47, sR_674_47, sR_676_47, sR_677_47, sR_679_47, sR_680_47, sR_681_47, SH_I, SH_A, SH_G, SH_C, hS, Option.getD_some, ne_eq, reduceCtorEq, not_false_eq_true, not_true_eq_false, Option.bind_some, Option.toList_none, Option.toList_some, List.nil_append, List.cons_append, List.append_nil, ↓reduceIte, and_self, true_and, and_true, false_and, and_false, or_true, true_or, or_false, false_or, Nat.reduceEqDiff, Nat.reduceAdd, Int32.reduceMul, Int32.reduceAdd, Int32.reduceSub, Int32.reduceToNatClampNeg, Int32.reduceOfNat, Int32.reduceLT, Int32.reduceLE, va_rf]
      · have b1 := c86n (d := d + 3) hS hC h'
        simp (decide := true) only [k92_0, k92_5R, k92_5N, k92_11RR, k92_11RN, k92_11NR, k92_11NN, k92_17R, k92_17N, k92_22, k92_24, k92_33RR, k92_48, k92_51, k92_55RR, k92_55NR, k92_68R, k92_81, a1, b1, sT_1, sT_2, sT_3, sT_16, sT_17, sT_18, sT_19, sT_20, sT_21, sT_22, sT_23, sT_24, sT_25, sT_26, sT_27, sT_28, sT_29, sT_30, sT_31, sT_32, sT_33, sT_34, sT_35, sT_36, sT_37, sT_38, sT_39, sT_40, sT_41, sT_42, sT_43, sT_44, sT_45, sT_46, sT_47, sT_48, sT_49, sT_50, sT_51, sT_52, sT_53, sT_54, sT_55, sT_56, sT_57, sT_58, sT_59, sT_60, sT_61, sT_62, sT_63, sT_64, sT_65, sT_66, sT_67, sT_68, sT_69, sT_70, sT_71, sT_72, sT_73, sT_74, sT_75, sT_76, sT_77, sT_78, sT_79, sT_80, sN_1, sN_2, sN_19, sN_21, sN_23, sN_24, sN_26, sN_29, sN_31, sN_33, sN_35, sN_36, sN_37, sN_39, sN_40, sN_42, sN_44, sN_45, sN_46, sN_48, sN_49, sN_50, sN_51, sN_52, sN_53, sN_54, sN_55, sN_56, sN_57, sN_58, sN_59, sN_60, sN_61, sN_62, sN_63, sN_64, sN_65, sN_66, sN_67, sN_68, sN_69, sN_70, sN_71, sN_72, sN_73, sN_74, sN_75, sN_76, sN_77, sN_78, sN_79, sN_80, sR_0_34, sR_0_38, sR_1_34, sR_1_38, sR_64_20, sR_64_22, sR_128_25, sR_128_28, sR_194_17, sR_195_17, sR_196_17, sR_197_17, sR_258_30, sR_258_32, sR_258_41, sR_384_43, sR_448_18, sR_512_27, sR_513_27, sR_514_27, sR_515_27, sR_516_27, sR_576_16, sR_577_16, sR_578_16, sR_579_16, sR_580_16, sR_581_16, sR_582_16, sR_583_16, sR_584_16, sR_641_47, sR_643_47, sR_645_47, sR_646_47, sR_647_47, sR_648_47, sR_649_47, sR_650_47, sR_651_47, sR_652_47, sR_653_47, sR_654_47, sR_655_47, sR_656_47, sR_657_47, sR_658_47, sR_659_47, sR_661_47, sR_662_47, sR_663_47, sR_664_47, sR_665_47, sR_669_47, sR_670_47, sR_671_47, sR_672_47, sR_673_47, sR_674_47, sR_676_47, sR_677_47, sR_679_47, sR_680_47, sR_681_47, SH_I, SH_A, SH_G, SH_C, hS, Option.getD_some, ne_eq, reduceCtorEq, not_false_eq_true, not_true_eq_false, Option.bind_some, Option.toList_none, Option.toList_some, List.nil_append, List.cons_append, List.append_nil, ↓reduceIte, and_self, true_and, and_true, false_and, and_false, or_true, true_or, or_false, false_or, Nat.reduceEqDiff, Nat.reduceAdd, Int32.reduceMul, Int32.reduceAdd, Int32.reduceSub, Int32.reduceToNatClampNeg, Int32.reduceOfNat, Int32.reduceLT, Int32.reduceLE, va_rf]
    · simp (decide := true) only [k177_0, k177_5, k177_16, a2, sT_1, sT_2, sT_3, sT_16, sT_17, sT_18, sT_19, sT_20, sT_21, sT_22, sT_23, sT_24, sT_25, sT_26, sT_27, sT_28, sT_29, sT_30, sT_31, sT_32, sT_33, sT_34, sT_35, sT_36, sT_37, sT_38, sT_39, sT_40, sT_41, sT_42, sT_43, sT_44, sT_45, sT_46, sT_47, sT_48, sT_49, sT_50, sT_51, sT_52, sT_53, sT_54, sT_55, sT_56, sT_57, sT_58, sT_59, sT_60, sT_61, sT_62, sT_63, sT_64, sT_65, sT_66, sT_67, sT_68, sT_69, sT_70, sT_71, sT_72, sT_73, sT_74, sT_75, sT_76, sT_77, sT_78, sT_79, sT_80, sN_1, sN_2, sN_19, sN_21, sN_23, sN_24, sN_26, sN_29, sN_31, sN_33, sN_35, sN_36, sN_37, sN_39, sN_40, sN_42, sN_44, sN_45, sN_46, sN_48, sN_49, sN_50, sN_51, sN_52, sN_53, sN_54, sN_55, sN_56, sN_57, sN_58, sN_59, sN_60, sN_61, sN_62, sN_63, sN_64, sN_65, sN_66, sN_67, sN_68, sN_69, sN_70, sN_71, sN_72, sN_73, sN_74, sN_75, sN_76, sN_77, sN_78, sN_79, sN_80, sR_0_34, sR_0_38, sR_1_34, sR_1_38, sR_64_20, sR_64_22, sR_128_25, sR_128_28, sR_194_17, sR_195_17, sR_196_17, sR_197_17, sR_258_30, sR_258_32, sR_258_41, sR_384_43, sR_448_18, sR_512_27, sR_513_27, sR_514_27, sR_515_27, sR_516_27, sR_576_16, sR_577_16, sR_578_16, sR_579_16, sR_580_16, sR_581_16, sR_582_16, sR_583_16, sR_584_16, sR_641_47, sR_643_47, sR_645_47, sR_646_47, sR_647_47, sR_648_47, sR_649_47, sR_650_47, sR_651_47, sR_652_47, sR_653_47, sR_654_47, sR_655_47, sR_656_47, sR_657_47, sR_658_47, sR_659_47, sR_661_47, sR_662_47, sR_663_47, sR_664_47, sR_665_47, sR_669_47, sR_670_47, sR_671_47, sR_672_47, sR_673_47, sR_674_47, sR_676_47, sR_677_47, sR_679_47, sR_680_47, sR_681_47, SH_I, SH_A, SH_G, SH_C, hS, Option.getD_some, ne_eq, reduceCtorEq, not_false_eq_true, not_true_eq_false, Option.bind_some, Option.toList_none, Option.toList_some, List.nil_append, List.cons_append, List.append_nil, ↓reduceIte, and_self, true_and, and_true, false_and, and_false, or_true, true_or, or_false, false_or, Nat.reduceEqDiff, Nat.reduceAdd, Int32.reduceMul, Int32.reduceAdd, Int32.reduceSub, Int32.reduceToNatClampNeg, Int32.reduceOfNat, Int32.reduceLT, Int32.reduceLE, va_rf]
theorem cls_part {p fr t : Nat} (hS : SH σ) (hx : 81 ≤ jnx σ) (hs : WFs s) (hC : CX s cr cp qr qp σ) (hp : p < s.ps.length) (hn : s.ps.length < 16) (hft : fr ≤ t) (ht : t ≤ (s.ps.getD p []).length) : ∃ σ' cp' qp', jx (d + 4) 95 0 [some (.ref 16), some (.int (nI p)), some (.int (nI fr)), some (.int (nI t)), none] [] σ = some (some (.int (nI s.ps.length)), σ') ∧ CX (sApp s (sub (s.ps.getD p []) fr t)) cr cp' qr qp' σ' ∧ SH σ' ∧ sameM σ σ' ∧ low σ σ' ∧ jnx σ ≤ jnx σ' ∧ jnx σ' ≤ jnx σ + 2 ∧ jsl σ' ≤ jsl σ + 147 := by
  have c1 := c86y (d := d + 3) hS hC hs hp
  have rA := hC.ps p hp
  have f24 := (hs.fp _ (mem_ps hp)).1
  have lA : jI σ 257 (qp p) = nI (s.ps.getD p []).length := rA.1.2.2.2.2.2.1
  obtain ⟨σ1, cp', qp', e1, hC1, hc, r1, hS1, sm1, lo1, nx1, nx1', sl1, qs⟩ := cls_new (d := d + 1) hS hx hC hn
  have rA1 := hC1.ps p hp
  obtain ⟨σ3, e3, hC3, r3, hS3, sm3, lo3, nx3, sl3⟩ := cls_put (d := d) hS1 hC1 hc r1 hp hft ht (by show 0 + _ ≤ 24; omega)
  rw [List.nil_append] at r3
  have F := i16FR (σ := σ3) 586 (nI (s.ps.length + 1))
  refine ⟨jsI σ3 586 16 (nI (s.ps.length + 1)), cp', qp', ?_, cls_app hS3 hC3 hc r3, by rw [SH_I]; exact hS3, (sm1.trans sm3).trans (F.sm (fun a h1 h2 => by simp; omega)), (lo1.trans lo3).trans (F.low (by simp)), by show _ ≤ jnx σ3; omega, by show jnx σ3 ≤ _; omega, by show jsl σ3 ≤ _; omega⟩
  have n16 : nI s.ps.length < (16 : Int32) := by rw [show (16 : Int32) = nI 16 from rfl, n31 (by omega) (by decide)]; exact hn
  have e3' : jx (d + 3) 93 0 [some (.ref (qp' s.ps.length)), some (.ref (qp p)), some (.int (nI fr)), some (.int (nI t)), none] [] σ1 = some (none, σ3) := by rw [← qs p hp]; exact e3
  have tA1 : jT σ1 (qp p) = 5 := by rw [← qs p hp]; exact rA1.1.1
  have np3 : jI σ3 586 16 = nI s.ps.length := hC3.np
  have nlt : ¬ nI t < nI fr := by rw [n31 (by omega) (by omega)]; omega
  rw [k95_0 (sT_16 hS), c1]
  simp only [Option.bind_some, Option.toList_some, List.cons_append, List.nil_append]
  rw [k95_5R, if_neg (nn0 (by omega)), k95_16, if_neg nlt, k95_21R rA.1.1, lA, if_pos (nI_le ht (by omega)), k95_32 (sT_16 hS), hC.np, if_pos n16, k95_44 (sT_16 hS), e1]
  simp only [Option.bind_some, Option.toList_some, List.cons_append, List.nil_append]
  rw [k95_48R r1.1.1, e3']
  simp only [Option.bind_some, Option.toList_none, List.nil_append]
  rw [k95_55 (sT_16 hS3), np3, zI_I, if_pos ⟨rfl, rfl⟩, ← nI_succ, show (1 : Int32) = nI 1 from rfl, nsub (by omega), Nat.add_sub_cancel]
theorem sim_part (hR : REL s cr cp qr qp σ) (x y z : Int32) : SimR (d + 4) 95 179 [some (.int x), some (.int y), some (.int z), none] [some (.int x), some (.int y), some (.int z), none] true σ := by
  have hR0 := hR
  obtain ⟨hS, hx, hs, hC, hM⟩ := hR
  have hl := hs.p16
  have rd : ∀ v : Int32, jx (d + 4) 95 0 [some (.ref 16), some (.int x), some (.int y), some (.int z), none] [] σ = some (some (.int v), σ) → jx (d + 4) 179 0 [some (.ref 47), some (.int x), some (.int y), some (.int z), none] [] σ = some (some (.int v), σ) → SimR (d + 4) 95 179 [some (.int x), some (.int y), some (.int z), none] [some (.int x), some (.int y), some (.int z), none] true σ := fun v h1 h2 => SimR.read hR0 h1 h2 (fun _ => rfl)
  by_cases h : inR x s.ps.length
  · have a2 := c170y (d := d + 2) hS hM hs h
    obtain ⟨p, hp, ep⟩ := inR_nat (by omega) h
    have a1 := c86y (d := d + 3) hS hC hs hp
    rw [← ep] at a1
    have pA := hM.ps p hp
    have rA := hC.ps p hp
    have lA : jI σ 257 (qp p) = nI (s.ps.getD p []).length := rA.1.2.2.2.2.2.1
    have fA := hs.fp _ (mem_ps hp)
    have tA := rA.1.1
    have rg : (jR σ 661 47).getD 0 = 65 := by rw [sR_661_47 hS]; rfl
    have rn : jR σ 661 47 ≠ none := by rw [sR_661_47 hS]; exact fun z => nomatch z
    have g17 : jx (d + 4) 179 17 [some (.ref 47), some (.int x), some (.int y), some (.int z), none] [] σ = if z ≤ nI (s.ps.getD p []).length then jx (d + 4) 179 29 [some (.ref 47), some (.int x), some (.int y), some (.int z), none] [] σ else jx (d + 4) 179 27 [some (.ref 47), some (.int x), some (.int y), some (.int z), none] [] σ := by
      rw [ep, k179_17 (sT_47 hS) rn (by rw [rg]; exact Or.inl (sT_65 hS)) (by rw [rg, sN_65 hS]; exact jin_n (by omega) (by decide)), rg, nI_clamp (by omega), pA.1]
    have g5 : ∀ w, jx (d + 4) 179 5 w [.int 1] σ = jx (d + 4) 179 5 w [.int 1] σ := fun _ => rfl
    have s1 : jx (d + 4) 95 0 [some (.ref 16), some (.int x), some (.int y), some (.int z), none] [] σ = if y < 0 then jx (d + 4) 95 30 [some (.ref 16), some (.int x), some (.int y), some (.int z), some (.ref (qp p))] [] σ else jx (d + 4) 95 16 [some (.ref 16), some (.int x), some (.int y), some (.int z), some (.ref (qp p))] [] σ := by
      rw [k95_0 (sT_16 hS), a1]
      simp only [Option.bind_some, Option.toList_some, List.cons_append, List.nil_append]
      rw [k95_5R]
    have s2 : jx (d + 4) 179 0 [some (.ref 47), some (.int x), some (.int y), some (.int z), none] [] σ = jx (d + 4) 179 8 [some (.ref 47), some (.int x), some (.int y), some (.int z), none] [] σ := by
      rw [k179_0 (sT_47 hS), a2]
      simp only [Option.bind_some, Option.toList_some, List.cons_append, List.nil_append]
      rw [k179_5, if_neg (by decide)]
    by_cases h0 : y < 0
    · exact rd (-1) (by rw [s1, if_pos h0, k95_30]) (by rw [s2, k179_8, if_pos h0, k179_27])
    by_cases h1 : z < y
    · exact rd (-1) (by rw [s1, if_neg h0, k95_16, if_pos h1, k95_30]) (by rw [s2, k179_8, if_neg h0, k179_12, if_pos h1, k179_27])
    by_cases h2 : z ≤ nI (s.ps.getD p []).length
    · have z0 : ¬ z < 0 := fun w => h1 (Int32.lt_of_lt_of_le w (Int32.not_lt.mp h0))
      have qz := i32_nat (c := z) (n := 25) (by decide) z0 (by rw [Int32.not_le]; exact Int32.lt_of_le_of_lt h2 (by rw [n31 (by omega) (by decide)]; omega))
      have qy := i32_nat (c := y) (n := 25) (by decide) h0 (by rw [Int32.not_le]; exact Int32.lt_of_le_of_lt (Int32.not_lt.mp h1) (Int32.lt_of_le_of_lt h2 (by rw [n31 (by omega) (by decide)]; omega)))
      obtain ⟨t, et⟩ : ∃ t, z.toNatClampNeg = t := ⟨_, rfl⟩
      obtain ⟨fr, efr⟩ : ∃ t, y.toNatClampNeg = t := ⟨_, rfl⟩
      rw [et] at qz
      rw [efr] at qy
      have hft : fr ≤ t := by
        have := h1
        rw [qz.1, qy.1, n31 (by omega) (by omega)] at this
        omega
      have ht : t ≤ (s.ps.getD p []).length := by
        have := h2
        rw [qz.1, n31le (by omega) (by omega)] at this
        exact this
      by_cases hn : s.ps.length < 16
      · obtain ⟨σ1, cp', qp', e1, hC1, hS1, sm1, lo1, nx1, nx1', sl1⟩ := cls_part (d := d) hS hx hs hC hp hn hft ht
        obtain ⟨σ2, e2, hM2, hS2, sc2, nx2, sl2⟩ := ref_part (d := d + 2) hS1 hs (hM.sm sm1) hp hn hft ht
        rw [ep, qz.1, qy.1]
        exact ⟨_, _, σ1, σ2, _, cr, cp', qr, qp', e1, e2, ⟨hS2, by omega, sApp_wf hs hn ⟨by rw [sub_len ht]; omega, fun o ho => fA.2 o (sub_mem ho)⟩, CX.sc (by omega) hC1 sc2, hM2⟩, by omega, by omega, lo1.trans (sc2.low (by omega)), fun _ => rfl⟩
      · have e16 : nI s.ps.length = 16 := by rw [show s.ps.length = 16 by omega]; rfl
        exact rd (-3) (by rw [s1, if_neg h0, k95_16, if_neg h1, k95_21R tA, lA, if_pos h2, k95_32 (sT_16 hS), hC.np, e16, if_neg (by decide), k95_41]) (by rw [s2, k179_8, if_neg h0, k179_12, if_neg h1, g17, if_pos h2, k179_29 (sT_47 hS), hM.np, if_neg (fun w => w e16), k179_38])
    · exact rd (-1) (by rw [s1, if_neg h0, k95_16, if_neg h1, k95_21R tA, lA, if_neg h2, k95_30]) (by rw [s2, k179_8, if_neg h0, k179_12, if_neg h1, g17, if_neg h2, k179_27])
  · have a1 := c86n (d := d + 3) hS hC h
    have a2 := c170n (d := d + 2) hS hM hs h
    refine rd (-1) ?_ ?_
    · rw [k95_0 (sT_16 hS), a1]
      simp only [Option.bind_some, Option.toList_some, List.cons_append, List.nil_append]
      rw [k95_5N]
    · rw [k179_0 (sT_47 hS), a2]
      simp only [Option.bind_some, Option.toList_some, List.cons_append, List.nil_append]
      rw [k179_5, if_pos rfl, k179_27]
end SMB
