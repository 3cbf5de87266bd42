/-! window, meant -/
def PLc (s : AS) (x y z : Int32) : Prop := inR x s.ps.length ∧ inR z s.rs.length ∧ inR y (s.ps.getD x.toNatClampNeg []).length
section WI5
variable {d : Nat} {σ : jS} {s : AS} {cr cp : Nat} {qr qp : Nat → Nat}
theorem PLc.nat (hs : WFs s) {x y z : Int32} (h : PLc s x y z) : ∃ p i r, p < s.ps.length ∧ i < (s.ps.getD p []).length ∧ r < s.rs.length ∧ x = nI p ∧ y = nI i ∧ z = nI r := by
  have hl := hs.p16
  have hr := hs.r24
  obtain ⟨h1, h2, h3⟩ := h
  obtain ⟨p, hp, ep⟩ := inR_nat (by omega) h1
  obtain ⟨r, hr', er⟩ := inR_nat (by omega) h2
  have cpn : x.toNatClampNeg = p := by rw [ep]; exact nI_clamp (by omega)
  rw [cpn] at h3
  have := (hs.fp _ (mem_ps hp)).1
  obtain ⟨i, hi, ei⟩ := inR_nat (by omega) h3
  exact ⟨p, i, r, hp, hi, hr', ep, ei, er⟩
theorem c181 (hS : SH σ) (hs : WFs s) (hM : CM s σ) (x y z : Int32) : ∃ v : Int32, jx (d + 2) 181 0 [some (.ref 47), some (.int x), some (.int y), some (.int z)] [] σ = some (some (.int v), σ) ∧ (PLc s x y z → v = 1) ∧ (¬ PLc s x y z → v = 0) := by
  have hl := hs.p16
  by_cases h1 : inR x s.ps.length
  · have a := c170y (d := d) hS hM hs h1
    obtain ⟨p, hp, ep⟩ := inR_nat (by omega) h1
    have cpn : x.toNatClampNeg = p := by rw [ep]; exact nI_clamp (by omega)
    by_cases h2 : inR z s.rs.length
    · have b := c162y (d := d) hS hM hs h2
      have pa := hM.ps p hp
      have l24 := (hs.fp _ (mem_ps hp)).1
      have rg : (jR σ 661 47).getD 0 = 65 := by rw [sR_661_47 hS]; rfl
      have rn : jR σ 661 47 ≠ none := by rw [sR_661_47 hS]; exact fun z => nomatch z
      have st : jx (d + 2) 181 0 [some (.ref 47), some (.int x), some (.int y), some (.int z)] [] σ = (some (some (.int (if 0 ≤ y ∧ y ≤ nI (s.ps.getD p []).length - 1 then 1 else 0)), σ) : jr).bind (fun z' => jx (d + 2) 181 31 [some (.ref 47), some (.int x), some (.int y), some (.int z)] (z'.1.toList ++ []) z'.2) := by
        rw [k181_0 (sT_47 hS), a]
        simp only [Option.bind_some, Option.toList_some, List.cons_append, List.nil_append]
        rw [k181_5, if_neg (by decide), k181_8 (sT_47 hS), b]
        simp only [Option.bind_some, Option.toList_some, List.cons_append, List.nil_append]
        rw [k181_13, if_neg (by decide), ep, k181_16 (sT_47 hS) rn (by rw [rg]; exact Or.inl (sT_65 hS)) (by rw [rg, sN_65 hS]; exact jin_n (by omega) (by decide)), rg, nI_clamp (by omega), pa.1, cin0]
        simp only [Option.bind_some, Option.toList_some, List.cons_append, List.nil_append]
      rw [st]
      by_cases h3 : inR y (s.ps.getD p []).length
      · have e : (if 0 ≤ y ∧ y ≤ nI (s.ps.getD p []).length - 1 then (1 : Int32) else 0) = 1 := if_pos ((rng_iff (by omega)).mpr h3)
        refine ⟨1, ?_, fun _ => rfl, fun q => absurd ⟨h1, h2, by rw [cpn]; exact h3⟩ q⟩
        rw [e]
        simp only [Option.bind_some, Option.toList_some, List.cons_append, List.nil_append]
        rw [k181_31, if_neg (by decide), k181_34]
      · have e : (if 0 ≤ y ∧ y ≤ nI (s.ps.getD p []).length - 1 then (1 : Int32) else 0) = 0 := if_neg (fun q => h3 ((rng_iff (by omega)).mp q))
        refine ⟨0, ?_, fun q => absurd (by have := q.2.2; rw [cpn] at this; exact this) h3, fun _ => rfl⟩
        rw [e]
        simp only [Option.bind_some, Option.toList_some, List.cons_append, List.nil_append]
        rw [k181_31, if_pos rfl, k181_38]
    · have b := c162n (d := d) hS hM hs h2
      refine ⟨0, ?_, fun q => absurd q.2.1 h2, fun _ => rfl⟩
      rw [k181_0 (sT_47 hS), a]
      simp only [Option.bind_some, Option.toList_some, List.cons_append, List.nil_append]
      rw [k181_5, if_neg (by decide), k181_8 (sT_47 hS), b]
      simp only [Option.bind_some, Option.toList_some, List.cons_append, List.nil_append]
      rw [k181_13, if_pos rfl, k181_38]
  · have a := c170n (d := d) hS hM hs h1
    refine ⟨0, ?_, fun q => absurd q.1 h1, fun _ => rfl⟩
    rw [k181_0 (sT_47 hS), a]
    simp only [Option.bind_some, Option.toList_some, List.cons_append, List.nil_append]
    rw [k181_5, if_pos rfl, k181_38]
theorem c181y (hS : SH σ) (hs : WFs s) (hM : CM s σ) {x y z : Int32} (h : PLc s x y z) : jx (d + 2) 181 0 [some (.ref 47), some (.int x), some (.int y), some (.int z)] [] σ = some (some (.int 1), σ) := by
  obtain ⟨v, e, q, _⟩ := c181 (d := d) hS hs hM x y z
  rw [q h] at e; exact e
theorem c181n (hS : SH σ) (hs : WFs s) (hM : CM s σ) {x y z : Int32} (h : ¬ PLc s x y z) : jx (d + 2) 181 0 [some (.ref 47), some (.int x), some (.int y), some (.int z)] [] σ = some (some (.int 0), σ) := by
  obtain ⟨v, e, _, q⟩ := c181 (d := d) hS hs hM x y z
  rw [q h] at e; exact e
/-- what the class asks first: programAt, ruleAt, has -/
theorem cls_pl (hS : SH σ) (hs : WFs s) (hC : CX s cr cp qr qp σ) (x y z : Int32) : (PLc s x y z → ∃ p i r, p < s.ps.length ∧ i < (s.ps.getD p []).length ∧ r < s.rs.length ∧ x = nI p ∧ y = nI i ∧ z = nI r ∧ jx (d + 2) 86 0 [some (.ref 16), some (.int x)] [] σ = some (some (.ref (qp p)), σ) ∧ jx (d + 2) 81 0 [some (.ref 16), some (.int z)] [] σ = some (some (.ref (qr r)), σ) ∧ jx (d + 2) 52 0 [some (.ref (qp p)), some (.int y)] [] σ = some (some (.int 1), σ)) ∧ (¬ PLc s x y z → (jx (d + 2) 86 0 [some (.ref 16), some (.int x)] [] σ = some (some .null, σ) ∧ ((∃ r, jx (d + 2) 81 0 [some (.ref 16), some (.int z)] [] σ = some (some (.ref r), σ)) ∨ jx (d + 2) 81 0 [some (.ref 16), some (.int z)] [] σ = some (some .null, σ))) ∨ (∃ p, p < s.ps.length ∧ jx (d + 2) 86 0 [some (.ref 16), some (.int x)] [] σ = some (some (.ref (qp p)), σ) ∧ (((∃ r, jx (d + 2) 81 0 [some (.ref 16), some (.int z)] [] σ = some (some (.ref r), σ)) ∧ jx (d + 2) 52 0 [some (.ref (qp p)), some (.int y)] [] σ = some (some (.int 0), σ)) ∨ (jx (d + 2) 81 0 [some (.ref 16), some (.int z)] [] σ = some (some .null, σ) ∧ (jx (d + 2) 52 0 [some (.ref (qp p)), some (.int y)] [] σ = some (some (.int 0), σ) ∨ jx (d + 2) 52 0 [some (.ref (qp p)), some (.int y)] [] σ = some (some (.int 1), σ)))))) := by
  have hl := hs.p16
  have hr24 := hs.r24
  refine ⟨fun h => ?_, fun h => ?_⟩
  · obtain ⟨p, i, r, hp, hi, hr, ep, ei, er⟩ := h.nat hs
    refine ⟨p, i, r, hp, hi, hr, ep, ei, er, by rw [ep]; exact c86y hS hC hs hp, by rw [er]; exact c81y hS hC hs hr, ?_⟩
    have := (hs.fp _ (mem_ps hp)).1
    have q : ¬ nI i < 0 ∧ nI i < nI (s.ps.getD p []).length := inR_k (by omega) hi
    rw [c52 (hC.ps p hp).1, ei, if_pos q]
  · have C81 : (∃ r, jx (d + 2) 81 0 [some (.ref 16), some (.int z)] [] σ = some (some (.ref r), σ)) ∨ jx (d + 2) 81 0 [some (.ref 16), some (.int z)] [] σ = some (some .null, σ) := by
      by_cases h2 : inR z s.rs.length
      · obtain ⟨r, hr, er⟩ := inR_nat (by omega) h2
        exact Or.inl ⟨_, by rw [er]; exact c81y hS hC hs hr⟩
      · exact Or.inr (c81n hS hC h2)
    by_cases h1 : inR x s.ps.length
    · obtain ⟨p, hp, ep⟩ := inR_nat (by omega) h1
      have cpn : x.toNatClampNeg = p := by rw [ep]; exact nI_clamp (by omega)
      refine Or.inr ⟨p, hp, by rw [ep]; exact c86y hS hC hs hp, ?_⟩
      have c5 := c52 (d := d + 2) (hC.ps p hp).1 y
      by_cases h3 : inR y (s.ps.getD p []).length
      · have h3' : ¬ y < 0 ∧ y < nI (s.ps.getD p []).length := h3
        rw [if_pos h3'] at c5
        have h2 : ¬ inR z s.rs.length := fun q => h ⟨h1, q, by rw [cpn]; exact h3⟩
        exact Or.inr ⟨c81n hS hC h2, Or.inr c5⟩
      · have h3' : ¬ (¬ y < 0 ∧ y < nI (s.ps.getD p []).length) := h3
        rw [if_neg h3'] at c5
        rcases C81 with q | q
        · exact Or.inl ⟨q, c5⟩
        · exact Or.inr ⟨q, Or.inl c5⟩
    · exact Or.inl ⟨c86n hS hC h1, C81⟩
/-- the reference's scratch of windows alone has changed -/
theorem CM.w7 {σ' : jS} (hs : WFs s) (hM : CM s σ) (F : FR [76, 77] σ σ') : CM s σ' := hM.ar hs (P := fun a _ => a = 76 ∨ a = 77) (fun g _ _ _ => (F.2 47 (by decide)).1 g) (fun a i h1 h2 hn => (F.2 a (by simpa using hn)).2 i) (fun a i hp => by unfold PSF; omega)
theorem sim_window (hR : REL s cr cp qr qp σ) (x y z : Int32) : SimR (d + 5) 96 180 [some (.int x), some (.int y), some (.int z), none, none] [some (.int x), some (.int y), some (.int z)] true σ := by
  have hR0 := hR
  obtain ⟨hS, hx, hs, hC, hM⟩ := hR
  have r8 : (jR σ 580 16).getD 0 = 38 := by rw [sR_580_16 hS]; rfl
  have n8 : jR σ 580 16 ≠ none := by rw [sR_580_16 hS]; exact fun z => nomatch z
  obtain ⟨P1, P2⟩ := cls_pl (d := d + 2) hS hs hC x y z
  by_cases h : PLc s x y z
  · obtain ⟨p, i, r, hp, hi, hr, ep, ei, er, a1, a2, a3⟩ := P1 h
    have l24 := (hs.fp _ (mem_ps hp)).1
    obtain ⟨σ1, e1, F1, _⟩ := c97 (d := d) hS hs hC hp hr (pl := i) (by omega)
    have hS1 := F1.sh hS
    have hC1 : CX s cr cp qr qp σ1 := hC.scr F1 (by decide)
    have hM1 := hM.sm (F1.sm (fun a h1 h2 => by simp; omega))
    obtain ⟨σ2, e2, F2, _⟩ := c182 (d := d + 2) hS1 hs hM1 hp hr (pl := i) (by omega)
    have hM2 := hM1.w7 hs F2
    have sc2 := F2.sc (fun a ha => by simp at ha; omega)
    have nx1 : jnx σ1 = jnx σ := F1.1.2.2.2.2.1
    have nx2 : jnx σ2 = jnx σ1 := F2.1.2.2.2.2.1
    have sl1 : jsl σ1 = jsl σ := F1.1.2.2.2.2.2
    have sl2 : jsl σ2 = jsl σ1 := F2.1.2.2.2.2.2
    have b1 := c181y (d := d + 2) hS1 hs hM1 h
    obtain ⟨B, eB⟩ : ∃ B : Bool, (winF s.W (s.rs.getD r ar0).o1 (s.rs.getD r ar0).o2.length (s.ps.getD p []) i).isSome = B := ⟨_, rfl⟩
    rw [eB] at e1 e2
    refine ⟨if B = true then 1 else 0, if B = true then 1 else 0, σ1, σ2, s, cr, cp, qr, qp, ?_, ?_, ⟨F2.sh hS1, by omega, hs, CX.sc (by omega) hC1 sc2, hM2⟩, by omega, by omega, (F1.low (by simp)).trans (sc2.low (by omega)), fun _ => rfl⟩
    · rw [← ei] at e1
      rw [k96_0 (sT_16 hS), a1]
      simp only [Option.bind_some, Option.toList_some, List.cons_append, List.nil_append]
      rw [k96_5R (sT_16 hS), a2]
      simp only [Option.bind_some, Option.toList_some, List.cons_append, List.nil_append]
      rw [k96_12RR (hC.ps p hp).1.1, a3]
      simp only [Option.bind_some, Option.toList_some, List.cons_append, List.nil_append]
      rw [k96_25, if_neg (by decide), k96_28RR (sT_16 hS) n8 (by rw [r8]; exact sT_38 hS), r8, e1]
      simp only [Option.bind_some, Option.toList_some, List.cons_append, List.nil_append]
      rw [k96_47, c82 (d := d + 4) (if B = true then 1 else 0) (by cases B; exact Or.inl rfl; exact Or.inr rfl)]
      simp only [Option.bind_some, Option.toList_some, List.cons_append, List.nil_append]
      rw [k96_50]
    · rw [← ei, ← ep, ← er] at e2
      rw [k180_0 (sT_47 hS1), b1]
      simp only [Option.bind_some, Option.toList_some, List.cons_append, List.nil_append]
      rw [k180_7, if_pos (by decide), k180_12 (sT_47 hS1), e2]
      simp only [Option.bind_some, Option.toList_some, List.cons_append, List.nil_append]
      rw [k180_19]
      cases B
      · rw [if_pos (by decide), k180_26]; rfl
      · rw [if_neg (by decide), k180_22]; rfl
  · have b1 := c181n (d := d + 2) hS hs hM h
    refine SimR.read hR0 (a := -1) (a' := -1) ?_ ?_ (fun _ => rfl)
    · rcases P2 h with ⟨a1, ⟨r, a2⟩ | a2⟩ | ⟨p, hp, a1, ⟨⟨r, a2⟩, a3⟩ | ⟨a2, a3 | a3⟩⟩
      · simp (decide := true) only [k96_0, k96_5R, k96_5N, k96_12RR, k96_12RN, k96_12NR, k96_12NN, k96_19R, k96_25, k96_28N, k96_28RR, k96_28RN, k96_33, k96_35RR, k96_35RN, k96_35NR, k96_35NN, k96_47, k96_50, a1, a2, sT_1, sT_2, sT_3, sT_16, sT_17, sT_18, sT_19, sT_20, sT_21, sT_22, sT_23, sT_24, sT_25, sT_26, sT_27, sT_28, sT_29, sT_30, sT_31, sT_32, sT_33, sT_34, sT_35, sT_36, sT_37, sT_38, sT_39, sT_40, sT_41, sT_42, sT_43, sT_44, sT_45, sT_46, sT_47, sT_48, sT_49, sT_50, sT_51, sT_52, sT_53, sT_54, sT_55, sT_56, sT_57, sT_58, sT_59, sT_60, sT_61, sT_62, sT_63, sT_64, sT_65, sT_66, sT_67, sT_68, sT_69, sT_70, sT_71, sT_72, sT_73, sT_74, sT_75, sT_76, sT_77, sT_78, sT_79, sT_80, sN_1, sN_2, sN_19, sN_21, sN_23, sN_24, sN_26, sN_29, sN_31, sN_33, sN_35, sN_36, sN_37, sN_39, sN_40, sN_42, sN_44, sN_45, sN_46, sN_48, sN_49, sN_50, sN_51, sN_52, sN_53, sN_54, sN_55, sN_56, sN_57, sN_58, sN_59, sN_60, sN_61, sN_62, sN_63, sN_64, sN_65, sN_66, sN_67, sN_68, sN_69, sN_70, sN_71, sN_72, sN_73, sN_74, sN_75, sN_76, sN_77, sN_78, sN_79, sN_80, sR_0_34, sR_0_38, sR_1_34, sR_1_38, sR_64_20, sR_64_22, sR_128_25, sR_128_28, sR_194_17, sR_195_17, sR_196_17, sR_197_17, sR_258_30, sR_258_32, sR_258_41, sR_384_43, sR_448_18, sR_512_27, sR_513_27, sR_514_27, sR_515_27, sR_516_27, sR_576_16, sR_577_16, sR_578_16, sR_579_16, sR_580_16, sR_581_16, sR_582_16, sR_583_16, sR_584_16, sR_641_47, sR_643_47, sR_645_47, sR_646_47, sR_647_47, sR_648_47, sR_649_47, sR_650_47, sR_651_47, sR_652_47, sR_653_47, sR_654_47, sR_655_47, sR_656_47, sR_657_47, sR_658_47, sR_659_47, sR_661_47, sR_662_47, sR_663_47, sR_664_47, sR_665_47, sR_669_47, sR_670_47, sR_671_47, sR_672_47, sR_673_47, sR_674_47, sR_676_47, sR_677_47, sR_679_47, sR_680_47, sR_681_47, SH_I, SH_A, SH_G, SH_C, hS, Option.getD_some, ne_eq, reduceCtorEq, not_false_eq_true, not_true_eq_false, Option.bind_some, Option.toList_none, Option.toList_some, List.nil_append, List.cons_append, List.append_nil, ↓reduceIte, and_self, true_and, and_true, false_and, and_false, or_true, true_or, or_false, false_or, Nat.reduceEqDiff, Nat.reduceAdd, Int32.reduceMul, Int32.reduceAdd, Int32.reduceSub, Int32.reduceToNatClampNeg, Int32.reduceOfNat, Int32.reduceLT, Int32.reduceLE, va_rf]
      · simp (decide := true) only [k96_0, k96_5R, k96_5N, k96_12RR, k96_12RN, k96_12NR, k96_12NN, k96_19R, k96_25, k96_28N, k96_28RR, k96_28RN, k96_33, k96_35RR, k96_35RN, k96_35NR, k96_35NN, k96_47, k96_50, a1, a2, sT_1, sT_2, sT_3, sT_16, sT_17, sT_18, sT_19, sT_20, sT_21, sT_22, sT_23, sT_24, sT_25, sT_26, sT_27, sT_28, sT_29, sT_30, sT_31, sT_32, sT_33, sT_34, sT_35, sT_36, sT_37, sT_38, sT_39, sT_40, sT_41, sT_42, sT_43, sT_44, sT_45, sT_46, sT_47, sT_48, sT_49, sT_50, sT_51, sT_52, sT_53, sT_54, sT_55, sT_56, sT_57, sT_58, sT_59, sT_60, sT_61, sT_62, sT_63, sT_64, sT_65, sT_66, sT_67, sT_68, sT_69, sT_70, sT_71, sT_72, sT_73, sT_74, sT_75, sT_76, sT_77, sT_78, sT_79, sT_80, sN_1, sN_2, sN_19, sN_21, sN_23, sN_24, sN_26, sN_29, sN_31, sN_33, sN_35, sN_36, sN_37, sN_39, sN_40, sN_42, sN_44, sN_45, sN_46, sN_48, sN_49, sN_50, sN_51, sN_52, sN_53, sN_54, sN_55, sN_56, sN_57, sN_58, sN_59, sN_60, sN_61, sN_62, sN_63, sN_64, sN_65, sN_66, sN_67, sN_68, sN_69, sN_70, sN_71, sN_72, sN_73, sN_74, sN_75, sN_76, sN_77, sN_78, sN_79, sN_80, sR_0_34, sR_0_38, sR_1_34, sR_1_38, sR_64_20, sR_64_22, sR_128_25, sR_128_28, sR_194_17, sR_195_17, sR_196_17, sR_197_17, sR_258_30, sR_258_32, sR_258_41, sR_384_43, sR_448_18, sR_512_27, sR_513_27, sR_514_27, sR_515_27, sR_516_27, sR_576_16, sR_577_16, sR_578_16, sR_579_16, sR_580_16, sR_581_16, sR_582_16, sR_583_16, sR_584_16, sR_641_47, sR_643_47, sR_645_47, sR_646_47, sR_647_47, sR_648_47, sR_649_47, sR_650_47, sR_651_47, sR_652_47, sR_653_47, sR_654_47, sR_655_47, sR_656_47, sR_657_47, sR_658_47, sR_659_47, sR_661_47, sR_662_47, sR_663_47, sR_664_47, sR_665_47, sR_669_47, sR_670_47, sR_671_47, sR_672_47, sR_673_47, sR_674_47, sR_676_47, sR_677_47, sR_679_47, sR_680_47, sR_681_47, SH_I, SH_A, SH_G, SH_C, hS, Option.getD_some, ne_eq, reduceCtorEq, not_false_eq_true, not_true_eq_false, Option.bind_some, Option.toList_none, Option.toList_some, List.nil_append, List.cons_append, List.append_nil, ↓reduceIte, and_self, true_and, and_true, false_and, and_false, or_true, true_or, or_false, false_or, Nat.reduceEqDiff, Nat.reduceAdd, Int32.reduceMul, Int32.reduceAdd, Int32.reduceSub, Int32.reduceToNatClampNeg, Int32.reduceOfNat, Int32.reduceLT, Int32.reduceLE, va_rf]
      · have t := (hC.ps p hp).1.1
        simp (decide := true) only [k96_0, k96_5R, k96_5N, k96_12RR, k96_12RN, k96_12NR, k96_12NN, k96_19R, k96_25, k96_28N, k96_28RR, k96_28RN, k96_33, k96_35RR, k96_35RN, k96_35NR, k96_35NN, k96_47, k96_50, a1, a2, a3, t, sT_1, sT_2, sT_3, sT_16, sT_17, sT_18, sT_19, sT_20, sT_21, sT_22, sT_23, sT_24, sT_25, sT_26, sT_27, sT_28, sT_29, sT_30, sT_31, sT_32, sT_33, sT_34, sT_35, sT_36, sT_37, sT_38, sT_39, sT_40, sT_41, sT_42, sT_43, sT_44, sT_45, sT_46, sT_47, sT_48, sT_49, sT_50, sT_51, sT_52, sT_53, sT_54, sT_55, sT_56, sT_57, sT_58, sT_59, sT_60, sT_61, sT_62, sT_63, sT_64, sT_65, sT_66, sT_67, sT_68, sT_69, sT_70, sT_71, sT_72, sT_73, sT_74, sT_75, sT_76, sT_77, sT_78, sT_79, sT_80, sN_1, sN_2, sN_19, sN_21, sN_23, sN_24, sN_26, sN_29, sN_31, sN_33, sN_35, sN_36, sN_37, sN_39, sN_40, sN_42, sN_44, sN_45, sN_46, sN_48, sN_49, sN_50, sN_51, sN_52, sN_53, sN_54, sN_55, sN_56, sN_57, sN_58, sN_59, sN_60, sN_61, sN_62, sN_63, sN_64, sN_65, sN_66, sN_67, sN_68, sN_69, sN_70, sN_71, sN_72, sN_73, sN_74, sN_75, sN_76, sN_77, sN_78, sN_79, sN_80, sR_0_34, sR_0_38, sR_1_34, sR_1_38, sR_64_20, sR_64_22, sR_128_25, sR_128_28, sR_194_17, sR_195_17, sR_196_17, sR_197_17, sR_258_30, sR_258_32, sR_258_41, sR_384_43, sR_448_18, sR_512_27, sR_513_27, sR_514_27, sR_515_27, sR_516_27, sR_576_16, sR_577_16, sR_578_16, sR_579_16, sR_580_16, sR_581_16, sR_582_16, sR_583_16, sR_584_16, sR_641_47, sR_643_47, sR_645_47, sR_646_47, sR_647_47, sR_648_47, sR_649_47, sR_650_47, sR_651_47, sR_652_47, sR_653_47, sR_654_47, sR_655_47, sR_656_47, sR_657_47, sR_658_47, sR_659_47, sR_661_47, sR_662_47, sR_663_47, sR_664_47, sR_665_47, sR_669_47, sR_670_47, sR_671_47, sR_672_47, sR_673_47, sR_674_47, sR_676_47, sR_677_47, sR_679_47, sR_680_47, sR_681_47, SH_I, SH_A, SH_G, SH_C, hS, Option.getD_some, ne_eq, reduceCtorEq, not_false_eq_true, not_true_eq_false, Option.bind_some, Option.toList_none, Option.toList_some, List.nil_append, List.cons_append, List.append_nil, ↓reduceIte, and_self, true_and, and_true, false_and, and_false, or_true, true_or, or_false, false_or, Nat.reduceEqDiff, Nat.reduceAdd, Int32.reduceMul, Int32.reduceAdd, Int32.reduceSub, Int32.reduceToNatClampNeg, Int32.reduceOfNat, Int32.reduceLT, Int32.reduceLE, va_rf]
      · have t := (hC.ps p hp).1.1
        simp (decide := true) only [k96_0, k96_5R, k96_5N, k96_12RR, k96_12RN, k96_12NR, k96_12NN, k96_19R, k96_25, k96_28N, k96_28RR, k96_28RN, k96_33, k96_35RR, k96_35RN, k96_35NR, k96_35NN, k96_47, k96_50, a1, a2, a3, t, sT_1, sT_2, sT_3, sT_16, sT_17, sT_18, sT_19, sT_20, sT_21, sT_22, sT_23, sT_24, sT_25, sT_26, sT_27, sT_28, sT_29, sT_30, sT_31, sT_32, sT_33, sT_34, sT_35, sT_36, sT_37, sT_38, sT_39, sT_40, sT_41, sT_42, sT_43, sT_44, sT_45, sT_46, sT_47, sT_48, sT_49, sT_50, sT_51, sT_52, sT_53, sT_54, sT_55, sT_56, sT_57, sT_58, sT_59, sT_60, sT_61, sT_62, sT_63, sT_64, sT_65, sT_66, sT_67, sT_68, sT_69, sT_70, sT_71, sT_72, sT_73, sT_74, sT_75, sT_76, sT_77, sT_78, sT_79, sT_80, sN_1, sN_2, sN_19, sN_21, sN_23, sN_24, sN_26, sN_29, sN_31, sN_33, sN_35, sN_36, sN_37, sN_39, sN_40, sN_42, sN_44, sN_45, sN_46, sN_48, sN_49, sN_50, sN_51, sN_52, sN_53, sN_54, sN_55, sN_56, sN_57, sN_58, sN_59, sN_60, sN_61, sN_62, sN_63, sN_64, sN_65, sN_66, sN_67, sN_68, sN_69, sN_70, sN_71, sN_72, sN_73, sN_74, sN_75, sN_76, sN_77, sN_78, sN_79, sN_80, sR_0_34, sR_0_38, sR_1_34, sR_1_38, sR_64_20, sR_64_22, sR_128_25, sR_128_28, sR_194_17, sR_195_17, sR_196_17, sR_197_17, sR_258_30, sR_258_32, sR_258_41, sR_384_43, sR_448_18, sR_512_27, sR_513_27, sR_514_27, sR_515_27, sR_516_27, sR_576_16, sR_577_16, sR_578_16, sR_579_16, sR_580_16, sR_581_16, sR_582_16, sR_583_16, sR_584_16, sR_641_47, sR_643_47, sR_645_47, sR_646_47, sR_647_47, sR_648_47, sR_649_47, sR_650_47, sR_651_47, sR_652_47, sR_653_47, sR_654_47, sR_655_47, sR_656_47, sR_657_47, sR_658_47, sR_659_47, sR_661_47, sR_662_47, sR_663_47, sR_664_47, sR_665_47, sR_669_47, sR_670_47, sR_671_47, sR_672_47, sR_673_47, sR_674_47, sR_676_47, sR_677_47, sR_679_47, sR_680_47, sR_681_47, SH_I, SH_A, SH_G, SH_C, hS, Option.getD_some, ne_eq, reduceCtorEq, not_false_eq_true, not_true_eq_false, Option.bind_some, Option.toList_none, Option.toList_some, List.nil_append, List.cons_append, List.append_nil, ↓reduceIte, and_self, true_and, and_true, false_and, and_false, or_true, true_or, or_false, false_or, Nat.reduceEqDiff, Nat.reduceAdd, Int32.reduceMul, Int32.reduceAdd, Int32.reduceSub, Int32.reduceToNatClampNeg, Int32.reduceOfNat, Int32.reduceLT, Int32.reduceLE, va_rf]
      · have t := (hC.ps p hp).1.1
        simp (decide := true) only [k96_0, k96_5R, k96_5N, k96_12RR, k96_12RN, k96_12NR, k96_12NN, k96_19R, k96_25, k96_28N, k96_28RR, k96_28RN, k96_33, k96_35RR, k96_35RN, k96_35NR, k96_35NN, k96_47, k96_50, a1, a2, a3, t, sT_1, sT_2, sT_3, sT_16, sT_17, sT_18, sT_19, sT_20, sT_21, sT_22, sT_23, sT_24, sT_25, sT_26, sT_27, sT_28, sT_29, sT_30, sT_31, sT_32, sT_33, sT_34, sT_35, sT_36, sT_37, sT_38, sT_39, sT_40, sT_41, sT_42, sT_43, sT_44, sT_45, sT_46, sT_47, sT_48, sT_49, sT_50, sT_51, sT_52, sT_53, sT_54, sT_55, sT_56, sT_57, sT_58, sT_59, sT_60, sT_61, sT_62, sT_63, sT_64, sT_65, sT_66, sT_67, sT_68, sT_69, sT_70, sT_71, sT_72, sT_73, sT_74, sT_75, sT_76, sT_77, sT_78, sT_79, sT_80, sN_1, sN_2, sN_19, sN_21, sN_23, sN_24, sN_26, sN_29, sN_31, sN_33, sN_35, sN_36, sN_37, sN_39, sN_40, sN_42, sN_44, sN_45, sN_46, sN_48, sN_49, sN_50, sN_51, sN_52, sN_53, sN_54, sN_55, sN_56, sN_57, sN_58, sN_59, sN_60, sN_61, sN_62, sN_63, sN_64, sN_65, sN_66, sN_67, sN_68, sN_69, sN_70, sN_71, sN_72, sN_73, sN_74, sN_75, sN_76, sN_77, sN_78, sN_79, sN_80, sR_0_34, sR_0_38, sR_1_34, sR_1_38, sR_64_20, sR_64_22, sR_128_25, sR_128_28, sR_194_17, sR_195_17, sR_196_17, sR_197_17, sR_258_30, sR_258_32, sR_258_41, sR_384_43, sR_448_18, sR_512_27, sR_513_27, sR_514_27, sR_515_27, sR_516_27, sR_576_16, sR_577_16, sR_578_16, sR_579_16, sR_580_16, sR_581_16, sR_582_16, sR_583_16, sR_584_16, sR_641_47, sR_643_47, sR_645_47, sR_646_47, sR_647_47, sR_648_47, sR_649_47, sR_650_47, sR_651_47, sR_652_47, sR_653_47, sR_654_47, sR_655_47, sR_656_47, sR_657_47, sR_658_47, sR_659_47, sR_661_47, sR_662_47, sR_663_47, sR_664_47, sR_665_47, sR_669_47, sR_670_47, sR_671_47, sR_672_47, sR_673_47, sR_674_47, sR_676_47, sR_677_47, sR_679_47, sR_680_47, sR_681_47, SH_I, SH_A, SH_G, SH_C, hS, Option.getD_some, ne_eq, reduceCtorEq, not_false_eq_true, not_true_eq_false, Option.bind_some, Option.toList_none, Option.toList_some, List.nil_append, List.cons_append, List.append_nil, ↓reduceIte, and_self, true_and, and_true, false_and, and_false, or_true, true_or, or_false, false_or, Nat.reduceEqDiff, Nat.reduceAdd, Int32.reduceMul, Int32.reduceAdd, Int32.reduceSub, Int32.reduceToNatClampNeg, Int32.reduceOfNat, Int32.reduceLT, Int32.reduceLE, va_rf]
    · rw [k180_0 (sT_47 hS), b1]
      simp only [Option.bind_some, Option.toList_some, List.cons_append, List.nil_append]
      rw [k180_7, if_neg (fun q => q rfl), k180_10]
end WI5
