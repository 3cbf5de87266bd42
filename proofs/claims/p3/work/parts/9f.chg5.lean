/-! change: both -/
section CH5
variable {d : Nat} {σ : jS} {s : AS} {cr cp : Nat} {qr qp : Nat → Nat}
theorem sim_change (hR : REL s cr cp qr qp σ) (x y z : Int32) : SimR (d + 5) 103 185 [some (.int x), some (.int y), some (.int z), none, none] [some (.int x), some (.int y), some (.int z)] true σ := by
  have hR0 := hR
  obtain ⟨hS, hx, hs, hC, hM⟩ := hR
  have r8 : (jR σ 580 16).getD 0 = 38 := by rw [sR_580_16 hS]; rfl
  have n8 : jR σ 580 16 ≠ none := by rw [sR_580_16 hS]; exact fun z => nomatch z
  obtain ⟨P1, P2⟩ := cls_pl (d := d + 2) hS hs hC x y z
  by_cases h : PLc s x y z
  · obtain ⟨p, i, r, hp, hi, hr, ep, ei, er, a1, a2, a3⟩ := P1 h
    have l24 := (hs.fp _ (mem_ps hp)).1
    have hp16 := hs.p16
    have hr24 := hs.r24
    have crr := hC.rs r hr
    have u1 : jT σ (qr r) = 6 := by obtain ⟨⟨tp, hU, -⟩, -⟩ := crr; exact hU.1
    have f11 := crr.2.2.2.2.1
    have fr := hs.fr _ (mem_rs hr)
    have to28 : jx (d + 5) 103 0 [some (.ref 16), some (.int x), some (.int y), some (.int z), none, none] [] σ = if (if sndA (s.rs.getD r ar0) then (1 : Int32) else 0) = 0 then jx (d + 5) 103 58 [some (.ref 16), some (.int x), some (.int y), some (.int z), some (.ref (qp p)), some (.ref (qr r))] [] σ else jx (d + 5) 103 43 [some (.ref 16), some (.int x), some (.int y), some (.int z), some (.ref (qp p)), some (.ref (qr r))] [] σ := by
      rw [k103_0 (sT_16 hS), a1]
      simp only [Option.bind_some, Option.toList_some, List.cons_append, List.nil_append]
      rw [k103_5R (sT_16 hS), a2]
      simp only [Option.bind_some, Option.toList_some, List.cons_append, List.nil_append]
      rw [k103_12RR (hC.ps p hp).1.1, a3]
      simp only [Option.bind_some, Option.toList_some, List.cons_append, List.nil_append]
      rw [k103_25, if_neg (by decide), k103_28R u1, f11]
    have ref : ∀ {υ : jS} (_ : SH υ) (_ : CM s υ), ∃ υ' , FR [76, 77] υ υ' ∧ CM s υ' ∧ SH υ' ∧ (match winF s.W (s.rs.getD r ar0).o1 (s.rs.getD r ar0).o2.length (s.ps.getD p []) i with | some w => (RB (-4) υ' 76 77 w ∧ IB w.1 ∧ IC w.2) ∧ jx (d + 5) 185 0 [some (.ref 47), some (.int x), some (.int y), some (.int z)] [] υ = if ¬ ((if sndA (s.rs.getD r ar0) then (1 : Int32) else 0) = 0) then jx (d + 5) 185 33 [some (.ref 47), some (.int x), some (.int y), some (.int z)] [] υ' else some (some (.int (-2)), υ') | none => jx (d + 5) 185 0 [some (.ref 47), some (.int x), some (.int y), some (.int z)] [] υ = some (some (.int (-2)), υ')) := fun {υ} hSu hMu => by
      obtain ⟨υ', e2, F2, w2⟩ := c182 (d := d + 2) hSu hs hMu hp hr (pl := i) (by omega)
      have hS2 := F2.sh hSu
      have hM2 := hMu.w7 hs F2
      have b1 := c181y (d := d + 2) hSu hs hMu h
      rw [← ei, ← ep, ← er] at e2
      refine ⟨υ', F2, hM2, hS2, ?_⟩
      cases hw : winF s.W (s.rs.getD r ar0).o1 (s.rs.getD r ar0).o2.length (s.ps.getD p []) i with
      | none =>
        rw [hw] at e2
        show jx _ _ _ _ _ _ = _
        rw [k185_0 (sT_47 hSu), b1]
        simp only [Option.bind_some, Option.toList_some, List.cons_append, List.nil_append]
        rw [k185_7, if_pos (by decide), k185_12 (sT_47 hSu), e2]
        simp only [Option.bind_some, Option.toList_some, List.cons_append, List.nil_append]
        rw [k185_19, if_pos (by decide), k185_30]
      | some w =>
        rw [hw] at e2
        have e2 : jx (d + 4) 182 0 [some (.ref 47), some (.int x), some (.int y), some (.int z), none, none, none, none, none, none, none, none] [] υ = some (some (.int 1), υ') := e2
        have c4 := c164 (d := d + 1) hS2 (r := r) (by omega) fr (hM2.rs r hr)
        rw [← er] at c4
        refine ⟨w2 w hw, ?_⟩
        rw [k185_0 (sT_47 hSu), b1]
        simp only [Option.bind_some, Option.toList_some, List.cons_append, List.nil_append]
        rw [k185_7, if_pos (by decide), k185_12 (sT_47 hSu), e2]
        simp only [Option.bind_some, Option.toList_some, List.cons_append, List.nil_append]
        rw [k185_19, if_neg (by decide), k185_22 (sT_47 hS2), c4]
        simp only [Option.bind_some, Option.toList_some, List.cons_append, List.nil_append]
        rw [k185_27, k185_30]
    by_cases hsnd : sndA (s.rs.getD r ar0)
    · rw [if_pos hsnd] at to28 ref
      obtain ⟨σ1, e1, F1, w1⟩ := c97 (d := d) hS hs hC hp hr (pl := i) (by omega)
      have hS1 := F1.sh hS
      have hC1 : CX s cr cp qr qp σ1 := hC.scr F1 (by decide)
      have hM1 := hM.sm (F1.sm (fun a h1 h2 => by simp; omega))
      have nx1 : jnx σ1 = jnx σ := F1.1.2.2.2.2.1
      have sl1 : jsl σ1 = jsl σ := F1.1.2.2.2.2.2
      rw [← ei] at e1
      have to55 : ∀ v : Int32, (if (winF s.W (s.rs.getD r ar0).o1 (s.rs.getD r ar0).o2.length (s.ps.getD p []) i).isSome = true then (1 : Int32) else 0) = v → jx (d + 5) 103 0 [some (.ref 16), some (.int x), some (.int y), some (.int z), none, none] [] σ = if ¬ (v = 0) then jx (d + 5) 103 61 [some (.ref 16), some (.int x), some (.int y), some (.int z), some (.ref (qp p)), some (.ref (qr r))] [] σ1 else jx (d + 5) 103 58 [some (.ref 16), some (.int x), some (.int y), some (.int z), some (.ref (qp p)), some (.ref (qr r))] [] σ1 := fun v ev => by
        rw [to28, if_neg (by decide), k103_43RR (sT_16 hS) n8 (by rw [r8]; exact sT_38 hS), r8, e1, ev]
        simp only [Option.bind_some, Option.toList_some, List.cons_append, List.nil_append]
        rw [k103_55]
      cases hw : winF s.W (s.rs.getD r ar0).o1 (s.rs.getD r ar0).o2.length (s.ps.getD p []) i with
      | none =>
        rw [hw] at to55 ref
        obtain ⟨σ2, F2, hM2, hS2, e2⟩ := ref hS1 hM1
        have sc2 := F2.sc (fun a ha => by simp at ha; omega)
        have nx2 : jnx σ2 = jnx σ1 := F2.1.2.2.2.2.1
        have sl2 : jsl σ2 = jsl σ1 := F2.1.2.2.2.2.2
        exact ⟨-2, -2, σ1, σ2, s, cr, cp, qr, qp, by show jx (d + 5) 103 0 [some (.ref 16), some (.int x), some (.int y), some (.int z), none, none] [] σ = _; rw [to55 0 rfl, if_neg (fun q => q rfl), k103_58], e2, ⟨hS2, by omega, hs, CX.sc (by omega) hC1 sc2, hM2⟩, by omega, by omega, (F1.low (by simp)).trans (sc2.low (by omega)), fun _ => rfl⟩
      | some w =>
        obtain ⟨rb1, ib, ic⟩ := w1 w hw
        obtain ⟨σ2, e2, F2, hC2⟩ := c104 (d := d + 1) hS1 hs hC1 hp hr hw rb1
        have bp := hC.dj.p p (by have := hC.lp.1; omega)
        have br := hC.dj.r r (by have := hC.lr.1; omega)
        have hS2 := F2.sh hS1
        have hM2 := hM1.sm (F2.sm (fun a h1 h2 => by simp; omega))
        have nx2 : jnx σ2 = jnx σ1 := F2.1.2.2.2.2.1
        have sl2 : jsl σ2 = jsl σ1 := F2.1.2.2.2.2.2
        rw [hw] at to55 ref
        obtain ⟨σ3, F3, hM3, hS3, ⟨rb3, _, _⟩, e3⟩ := ref hS2 hM2
        have nx3 : jnx σ3 = jnx σ2 := F3.1.2.2.2.2.1
        have sl3 : jsl σ3 = jsl σ2 := F3.1.2.2.2.2.2
        obtain ⟨σ4, e4, F4, hM4⟩ := c186 (d := d + 1) hS3 hs hM3 hp hr hw rb3 ib ic
        have hS4 := F4.sh hS3
        have nx4 : jnx σ4 = jnx σ3 := F4.1.2.2.2.2.1
        have sl4 : jsl σ4 = jsl σ3 := F4.1.2.2.2.2.2
        have sc3 := F3.sc (fun a ha => by simp at ha; omega)
        have sc4 := F4.sc (fun a ha => by simp at ha; omega)
        have sc := sc3.trans sc4
        rw [← ei, ← ep, ← er] at e4
        rw [← ei] at e2
        have fr' := fr
        have hF := win_ful fr hw ib ic
        have wc : i + (s.rs.getD r ar0).o1.length ≤ (s.ps.getD p []).length ∧ (s.ps.getD p []).length - (s.rs.getD r ar0).o1.length + (s.rs.getD r ar0).o2.length ≤ 24 := by
          have q := hw
          unfold winF at q
          split at q
          · assumption
          · cases q
        obtain ⟨Bn, eBn⟩ : ∃ Bn, newP s.W (s.rs.getD r ar0) w (s.ps.getD p []) i = Bn := ⟨_, rfl⟩
        have lenB : Bn.length ≤ 24 := by rw [← eBn, newP_len wc.1]; exact wc.2
        have pwf : ∀ o, o ∈ Bn → PWF o := by rw [← eBn]; exact newP_pwf hs.w fr hF (hs.fp _ (mem_ps hp)).2
        rw [eBn] at hC2 hM4
        have epl : (chS s p r Bn).ps.length = s.ps.length := List.length_set
        have gB : (chS s p r Bn).ps.getD p [] = Bn := by
          show (s.ps.set p Bn).getD p [] = Bn
          rw [set_ps hp, if_pos rfl]
        have L2 : jI σ2 257 (qp p) = nI Bn.length := by
          have := (hC2.ps p (by rw [epl]; exact hp)).1.2.2.2.2.2.1
          rw [gB] at this
          exact this
        have L4 : jA σ4 65 p = nI Bn.length := by
          have := (hM4.ps p (by rw [epl]; exact hp)).1
          rw [gB] at this
          exact this
        refine ⟨nI Bn.length, nI Bn.length, σ2, σ4, chS s p r Bn, cr, cp, qr, qp, ?_, ?_, ⟨hS4, by omega, chS_wf hs hr ⟨lenB, pwf⟩, CX.sc (by omega) hC2 sc, hM4⟩, by omega, by omega, ((F1.low (by simp)).trans (F2.low (fun b hb => by simp at hb; omega))).trans (sc.low (by omega)), fun _ => rfl⟩
        · show jx (d + 5) 103 0 [some (.ref 16), some (.int x), some (.int y), some (.int z), none, none] [] σ = _
          have tp : jT σ2 (qp p) = 5 := by rw [F2.1.1, F1.1.1]; exact (hC.ps p hp).1.1
          rw [to55 1 rfl, if_pos (by decide), k103_61RR (sT_16 hS1), e2]
          simp only [Option.bind_some, Option.toList_none, List.nil_append]
          rw [k103_70R tp, L2]
        · have q1 : (jR σ4 661 47).getD 0 = 65 := by rw [sR_661_47 hS4]; rfl
          have q2 : jR σ4 661 47 ≠ none := by rw [sR_661_47 hS4]; exact fun z => nomatch z
          show jx (d + 5) 185 0 [some (.ref 47), some (.int x), some (.int y), some (.int z)] [] σ2 = _
          rw [e3, if_pos (by decide), k185_33 (sT_47 hS3), e4]
          simp only [Option.bind_some, Option.toList_none, List.nil_append]
          rw [ep, k185_40 (sT_47 hS4) q2 (by rw [q1]; exact Or.inl (sT_65 hS4)) (by rw [q1, sN_65 hS4]; exact jin_n (by omega) (by decide)), q1, nI_clamp (by omega), L4]
    · rw [if_neg hsnd] at to28 ref
      obtain ⟨σ2, F2, hM2, hS2, e2⟩ := ref hS hM
      have e2' : jx (d + 5) 185 0 [some (.ref 47), some (.int x), some (.int y), some (.int z)] [] σ = some (some (.int (-2)), σ2) := by
        cases hw : winF s.W (s.rs.getD r ar0).o1 (s.rs.getD r ar0).o2.length (s.ps.getD p []) i with
        | none => rw [hw] at e2; exact e2
        | some w =>
          rw [hw] at e2
          have q := e2.2
          rw [if_neg (fun z => z rfl)] at q
          exact q
      have sc2 := F2.sc (fun a ha => by simp at ha; omega)
      have nx2 : jnx σ2 = jnx σ := F2.1.2.2.2.2.1
      have sl2 : jsl σ2 = jsl σ := F2.1.2.2.2.2.2
      exact ⟨-2, -2, σ, σ2, s, cr, cp, qr, qp, by show jx (d + 5) 103 0 [some (.ref 16), some (.int x), some (.int y), some (.int z), none, none] [] σ = _; rw [to28, if_pos rfl, k103_58], e2', ⟨hS2, by omega, hs, CX.sc (by omega) hC sc2, hM2⟩, by omega, by omega, sc2.low (by omega), fun _ => rfl⟩
  · have b1 := c181n (d := d + 2) hS hs hM h
    refine SimR.read hR0 (a := -1) (a' := -1) ?_ ?_ (fun _ => rfl)
    · rcases P2 h with ⟨a1, ⟨r, a2⟩ | a2⟩ | ⟨p, hp, a1, ⟨⟨r, a2⟩, a3⟩ | ⟨a2, a3 | a3⟩⟩
      · simp (decide := true) only [k103_0, k103_5R, k103_5N, k103_12RR, k103_12RN, k103_12NR, k103_12NN, k103_19R, k103_25, k103_28R, k103_28N, k103_33, k103_35R, k103_43RR, k103_43RN, k103_43NR, k103_43NN, k103_55, k103_58, k103_61RR, k103_61RN, k103_61NR, k103_61NN, k103_70R, a1, a2, sT_1, sT_2, sT_3, sT_16, sT_17, sT_18, sT_19, sT_20, sT_21, sT_22, sT_23, sT_24, sT_25, sT_26, sT_27, sT_28, sT_29, sT_30, sT_31, sT_32, sT_33, sT_34, sT_35, sT_36, sT_37, sT_38, sT_39, sT_40, sT_41, sT_42, sT_43, sT_44, sT_45, sT_46, sT_47, sT_48, sT_49, sT_50, sT_51, sT_52, sT_53, sT_54, sT_55, sT_56, sT_57, sT_58, sT_59, sT_60, sT_61, sT_62, sT_63, sT_64, sT_65, sT_66, sT_67, sT_68, sT_69, sT_70, sT_71, sT_72, sT_73, sT_74, sT_75, sT_76, sT_77, sT_78, sT_79, sT_80, sN_1, sN_2, sN_19, sN_21, sN_23, sN_24, sN_26, sN_29, sN_31, sN_33, sN_35, sN_36, sN_37, sN_39, sN_40, sN_42, sN_44, sN_45, sN_46, sN_48, sN_49, sN_50, sN_51, sN_52, sN_53, sN_54, sN_55, sN_56, sN_57, sN_58, sN_59, sN_60, sN_61, sN_62, sN_63, sN_64, sN_65, sN_66, sN_67, sN_68, sN_69, sN_70, sN_71, sN_72, sN_73, sN_74, sN_75, sN_76, sN_77, sN_78, sN_79, sN_80, sR_0_34, sR_0_38, sR_1_34, sR_1_38, sR_64_20, sR_64_22, sR_128_25, sR_128_28, sR_194_17, sR_195_17, sR_196_17, sR_197_17, sR_258_30, sR_258_32, sR_258_41, sR_384_43, sR_448_18, sR_512_27, sR_513_27, sR_514_27, sR_515_27, sR_516_27, sR_576_16, sR_577_16, sR_578_16, sR_579_16, sR_580_16, sR_581_16, sR_582_16, sR_583_16, sR_584_16, sR_641_47, sR_643_47, sR_645_47, sR_646_47, sR_647_47, sR_648_47, sR_649_47, sR_650_47, sR_651_47, sR_652_47, sR_653_47, sR_654_47, sR_655_47, sR_656_47, sR_657_47, sR_658_47, sR_659_47, sR_661_47, sR_662_47, sR_663_47, sR_664_47, sR_665_47, sR_669_47, sR_670_47, sR_671_47, sR_672_47, sR_673_47, sR_674_47, sR_676_47, sR_677_47, sR_679_47, sR_680_47, sR_681_47, SH_I, SH_A, SH_G, SH_C, hS, Option.getD_some, ne_eq, reduceCtorEq, not_false_eq_true, not_true_eq_false, Option.bind_some, Option.toList_none, Option.toList_some, List.nil_append, List.cons_append, List.append_nil, ↓reduceIte, and_self, true_and, and_true, false_and, and_false, or_true, true_or, or_false, false_or, Nat.reduceEqDiff, Nat.reduceAdd, Int32.reduceMul, Int32.reduceAdd, Int32.reduceSub, Int32.reduceToNatClampNeg, Int32.reduceOfNat, Int32.reduceLT, Int32.reduceLE, va_rf]
      · simp (decide := true) only [k103_0, k103_5R, k103_5N, k103_12RR, k103_12RN, k103_12NR, k103_12NN, k103_19R, k103_25, k103_28R, k103_28N, k103_33, k103_35R, k103_43RR, k103_43RN, k103_43NR, k103_43NN, k103_55, k103_58, k103_61RR, k103_61RN, k103_61NR, k103_61NN, k103_70R, a1, a2, sT_1, sT_2, sT_3, sT_16, sT_17, sT_18, sT_19, sT_20, sT_21, sT_22, sT_23, sT_24, sT_25, sT_26, sT_27, sT_28, sT_29, sT_30, sT_31, sT_32, sT_33, sT_34, sT_35, sT_36, sT_37, sT_38, sT_39, sT_40, sT_41, sT_42, sT_43, sT_44, sT_45, sT_46, sT_47, sT_48, sT_49, sT_50, sT_51, sT_52, sT_53, sT_54, sT_55, sT_56, sT_57, sT_58, sT_59, sT_60, sT_61, sT_62, sT_63, sT_64, sT_65, sT_66, sT_67, sT_68, sT_69, sT_70, sT_71, sT_72, sT_73, sT_74, sT_75, sT_76, sT_77, sT_78, sT_79, sT_80, sN_1, sN_2, sN_19, sN_21, sN_23, sN_24, sN_26, sN_29, sN_31, sN_33, sN_35, sN_36, sN_37, sN_39, sN_40, sN_42, sN_44, sN_45, sN_46, sN_48, sN_49, sN_50, sN_51, sN_52, sN_53, sN_54, sN_55, sN_56, sN_57, sN_58, sN_59, sN_60, sN_61, sN_62, sN_63, sN_64, sN_65, sN_66, sN_67, sN_68, sN_69, sN_70, sN_71, sN_72, sN_73, sN_74, sN_75, sN_76, sN_77, sN_78, sN_79, sN_80, sR_0_34, sR_0_38, sR_1_34, sR_1_38, sR_64_20, sR_64_22, sR_128_25, sR_128_28, sR_194_17, sR_195_17, sR_196_17, sR_197_17, sR_258_30, sR_258_32, sR_258_41, sR_384_43, sR_448_18, sR_512_27, sR_513_27, sR_514_27, sR_515_27, sR_516_27, sR_576_16, sR_577_16, sR_578_16, sR_579_16, sR_580_16, sR_581_16, sR_582_16, sR_583_16, sR_584_16, sR_641_47, sR_643_47, sR_645_47, sR_646_47, sR_647_47, sR_648_47, sR_649_47, sR_650_47, sR_651_47, sR_652_47, sR_653_47, sR_654_47, sR_655_47, sR_656_47, sR_657_47, sR_658_47, sR_659_47, sR_661_47, sR_662_47, sR_663_47, sR_664_47, sR_665_47, sR_669_47, sR_670_47, sR_671_47, sR_672_47, sR_673_47, sR_674_47, sR_676_47, sR_677_47, sR_679_47, sR_680_47, sR_681_47, SH_I, SH_A, SH_G, SH_C, hS, Option.getD_some, ne_eq, reduceCtorEq, not_false_eq_true, not_true_eq_false, Option.bind_some, Option.toList_none, Option.toList_some, List.nil_append, List.cons_append, List.append_nil, ↓reduceIte, and_self, true_and, and_true, false_and, and_false, or_true, true_or, or_false, false_or, Nat.reduceEqDiff, Nat.reduceAdd, Int32.reduceMul, Int32.reduceAdd, Int32.reduceSub, Int32.reduceToNatClampNeg, Int32.reduceOfNat, Int32.reduceLT, Int32.reduceLE, va_rf]
      · have t := (hC.ps p hp).1.1
        simp (decide := true) only [k103_0, k103_5R, k103_5N, k103_12RR, k103_12RN, k103_12NR, k103_12NN, k103_19R, k103_25, k103_28R, k103_28N, k103_33, k103_35R, k103_43RR, k103_43RN, k103_43NR, k103_43NN, k103_55, k103_58, k103_61RR, k103_61RN, k103_61NR, k103_61NN, k103_70R, a1, a2, a3, t, sT_1, sT_2, sT_3, sT_16, sT_17, sT_18, sT_19, sT_20, sT_21, sT_22, sT_23, sT_24, sT_25, sT_26, sT_27, sT_28, sT_29, sT_30, sT_31, sT_32, sT_33, sT_34, sT_35, sT_36, sT_37, sT_38, sT_39, sT_40, sT_41, sT_42, sT_43, sT_44, sT_45, sT_46, sT_47, sT_48, sT_49, sT_50, sT_51, sT_52, sT_53, sT_54, sT_55, sT_56, sT_57, sT_58, sT_59, sT_60, sT_61, sT_62, sT_63, sT_64, sT_65, sT_66, sT_67, sT_68, sT_69, sT_70, sT_71, sT_72, sT_73, sT_74, sT_75, sT_76, sT_77, sT_78, sT_79, sT_80, sN_1, sN_2, sN_19, sN_21, sN_23, sN_24, sN_26, sN_29, sN_31, sN_33, sN_35, sN_36, sN_37, sN_39, sN_40, sN_42, sN_44, sN_45, sN_46, sN_48, sN_49, sN_50, sN_51, sN_52, sN_53, sN_54, sN_55, sN_56, sN_57, sN_58, sN_59, sN_60, sN_61, sN_62, sN_63, sN_64, sN_65, sN_66, sN_67, sN_68, sN_69, sN_70, sN_71, sN_72, sN_73, sN_74, sN_75, sN_76, sN_77, sN_78, sN_79, sN_80, sR_0_34, sR_0_38, sR_1_34, sR_1_38, sR_64_20, sR_64_22, sR_128_25, sR_128_28, sR_194_17, sR_195_17, sR_196_17, sR_197_17, sR_258_30, sR_258_32, sR_258_41, sR_384_43, sR_448_18, sR_512_27, sR_513_27, sR_514_27, sR_515_27, sR_516_27, sR_576_16, sR_577_16, sR_578_16, sR_579_16, sR_580_16, sR_581_16, sR_582_16, sR_583_16, sR_584_16, sR_641_47, sR_643_47, sR_645_47, sR_646_47, sR_647_47, sR_648_47, sR_649_47, sR_650_47, sR_651_47, sR_652_47, sR_653_47, sR_654_47, sR_655_47, sR_656_47, sR_657_47, sR_658_47, sR_659_47, sR_661_47, sR_662_47, sR_663_47, sR_664_47, sR_665_47, sR_669_47, sR_670_47, sR_671_47, sR_672_47, sR_673_47, sR_674_47, sR_676_47, sR_677_47, sR_679_47, sR_680_47, sR_681_47, SH_I, SH_A, SH_G, SH_C, hS, Option.getD_some, ne_eq, reduceCtorEq, not_false_eq_true, not_true_eq_false, Option.bind_some, Option.toList_none, Option.toList_some, List.nil_append, List.cons_append, List.append_nil, ↓reduceIte, and_self, true_and, and_true, false_and, and_false, or_true, true_or, or_false, false_or, Nat.reduceEqDiff, Nat.reduceAdd, Int32.reduceMul, Int32.reduceAdd, Int32.reduceSub, Int32.reduceToNatClampNeg, Int32.reduceOfNat, Int32.reduceLT, Int32.reduceLE, va_rf]
      · have t := (hC.ps p hp).1.1
        simp (decide := true) only [k103_0, k103_5R, k103_5N, k103_12RR, k103_12RN, k103_12NR, k103_12NN, k103_19R, k103_25, k103_28R, k103_28N, k103_33, k103_35R, k103_43RR, k103_43RN, k103_43NR, k103_43NN, k103_55, k103_58, k103_61RR, k103_61RN, k103_61NR, k103_61NN, k103_70R, a1, a2, a3, t, sT_1, sT_2, sT_3, sT_16, sT_17, sT_18, sT_19, sT_20, sT_21, sT_22, sT_23, sT_24, sT_25, sT_26, sT_27, sT_28, sT_29, sT_30, sT_31, sT_32, sT_33, sT_34, sT_35, sT_36, sT_37, sT_38, sT_39, sT_40, sT_41, sT_42, sT_43, sT_44, sT_45, sT_46, sT_47, sT_48, sT_49, sT_50, sT_51, sT_52, sT_53, sT_54, sT_55, sT_56, sT_57, sT_58, sT_59, sT_60, sT_61, sT_62, sT_63, sT_64, sT_65, sT_66, sT_67, sT_68, sT_69, sT_70, sT_71, sT_72, sT_73, sT_74, sT_75, sT_76, sT_77, sT_78, sT_79, sT_80, sN_1, sN_2, sN_19, sN_21, sN_23, sN_24, sN_26, sN_29, sN_31, sN_33, sN_35, sN_36, sN_37, sN_39, sN_40, sN_42, sN_44, sN_45, sN_46, sN_48, sN_49, sN_50, sN_51, sN_52, sN_53, sN_54, sN_55, sN_56, sN_57, sN_58, sN_59, sN_60, sN_61, sN_62, sN_63, sN_64, sN_65, sN_66, sN_67, sN_68, sN_69, sN_70, sN_71, sN_72, sN_73, sN_74, sN_75, sN_76, sN_77, sN_78, sN_79, sN_80, sR_0_34, sR_0_38, sR_1_34, sR_1_38, sR_64_20, sR_64_22, sR_128_25, sR_128_28, sR_194_17, sR_195_17, sR_196_17, sR_197_17, sR_258_30, sR_258_32, sR_258_41, sR_384_43, sR_448_18, sR_512_27, sR_513_27, sR_514_27, sR_515_27, sR_516_27, sR_576_16, sR_577_16, sR_578_16, sR_579_16, sR_580_16, sR_581_16, sR_582_16, sR_583_16, sR_584_16, sR_641_47, sR_643_47, sR_645_47, sR_646_47, sR_647_47, sR_648_47, sR_649_47, sR_650_47, sR_651_47, sR_652_47, sR_653_47, sR_654_47, sR_655_47, sR_656_47, sR_657_47, sR_658_47, sR_659_47, sR_661_47, sR_662_47, sR_663_47, sR_664_47, sR_665_47, sR_669_47, sR_670_47, sR_671_47, sR_672_47, sR_673_47, sR_674_47, sR_676_47, sR_677_47, sR_679_47, sR_680_47, sR_681_47, SH_I, SH_A, SH_G, SH_C, hS, Option.getD_some, ne_eq, reduceCtorEq, not_false_eq_true, not_true_eq_false, Option.bind_some, Option.toList_none, Option.toList_some, List.nil_append, List.cons_append, List.append_nil, ↓reduceIte, and_self, true_and, and_true, false_and, and_false, or_true, true_or, or_false, false_or, Nat.reduceEqDiff, Nat.reduceAdd, Int32.reduceMul, Int32.reduceAdd, Int32.reduceSub, Int32.reduceToNatClampNeg, Int32.reduceOfNat, Int32.reduceLT, Int32.reduceLE, va_rf]
      · have t := (hC.ps p hp).1.1
        simp (decide := true) only [k103_0, k103_5R, k103_5N, k103_12RR, k103_12RN, k103_12NR, k103_12NN, k103_19R, k103_25, k103_28R, k103_28N, k103_33, k103_35R, k103_43RR, k103_43RN, k103_43NR, k103_43NN, k103_55, k103_58, k103_61RR, k103_61RN, k103_61NR, k103_61NN, k103_70R, a1, a2, a3, t, sT_1, sT_2, sT_3, sT_16, sT_17, sT_18, sT_19, sT_20, sT_21, sT_22, sT_23, sT_24, sT_25, sT_26, sT_27, sT_28, sT_29, sT_30, sT_31, sT_32, sT_33, sT_34, sT_35, sT_36, sT_37, sT_38, sT_39, sT_40, sT_41, sT_42, sT_43, sT_44, sT_45, sT_46, sT_47, sT_48, sT_49, sT_50, sT_51, sT_52, sT_53, sT_54, sT_55, sT_56, sT_57, sT_58, sT_59, sT_60, sT_61, sT_62, sT_63, sT_64, sT_65, sT_66, sT_67, sT_68, sT_69, sT_70, sT_71, sT_72, sT_73, sT_74, sT_75, sT_76, sT_77, sT_78, sT_79, sT_80, sN_1, sN_2, sN_19, sN_21, sN_23, sN_24, sN_26, sN_29, sN_31, sN_33, sN_35, sN_36, sN_37, sN_39, sN_40, sN_42, sN_44, sN_45, sN_46, sN_48, sN_49, sN_50, sN_51, sN_52, sN_53, sN_54, sN_55, sN_56, sN_57, sN_58, sN_59, sN_60, sN_61, sN_62, sN_63, sN_64, sN_65, sN_66, sN_67, sN_68, sN_69, sN_70, sN_71, sN_72, sN_73, sN_74, sN_75, sN_76, sN_77, sN_78, sN_79, sN_80, sR_0_34, sR_0_38, sR_1_34, sR_1_38, sR_64_20, sR_64_22, sR_128_25, sR_128_28, sR_194_17, sR_195_17, sR_196_17, sR_197_17, sR_258_30, sR_258_32, sR_258_41, sR_384_43, sR_448_18, sR_512_27, sR_513_27, sR_514_27, sR_515_27, sR_516_27, sR_576_16, sR_577_16, sR_578_16, sR_579_16, sR_580_16, sR_581_16, sR_582_16, sR_583_16, sR_584_16, sR_641_47, sR_643_47, sR_645_47, sR_646_47, sR_647_47, sR_648_47, sR_649_47, sR_650_47, sR_651_47, sR_652_47, sR_653_47, sR_654_47, sR_655_47, sR_656_47, sR_657_47, sR_658_47, sR_659_47, sR_661_47, sR_662_47, sR_663_47, sR_664_47, sR_665_47, sR_669_47, sR_670_47, sR_671_47, sR_672_47, sR_673_47, sR_674_47, sR_676_47, sR_677_47, sR_679_47, sR_680_47, sR_681_47, SH_I, SH_A, SH_G, SH_C, hS, Option.getD_some, ne_eq, reduceCtorEq, not_false_eq_true, not_true_eq_false, Option.bind_some, Option.toList_none, Option.toList_some, List.nil_append, List.cons_append, List.append_nil, ↓reduceIte, and_self, true_and, and_true, false_and, and_false, or_true, true_or, or_false, false_or, Nat.reduceEqDiff, Nat.reduceAdd, Int32.reduceMul, Int32.reduceAdd, Int32.reduceSub, Int32.reduceToNatClampNeg, Int32.reduceOfNat, Int32.reduceLT, Int32.reduceLE, va_rf]
    · show jx (d + 5) 185 0 [some (.ref 47), some (.int x), some (.int y), some (.int z)] [] σ = _
      rw [k185_0 (sT_47 hS), b1]
      simp only [Option.bind_some, Option.toList_some, List.cons_append, List.nil_append]
      rw [k185_7, if_neg (fun q => q rfl), k185_10]
end CH5
