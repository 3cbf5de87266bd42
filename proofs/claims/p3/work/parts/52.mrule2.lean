/-! the reference's reader: a rule -/
def RRg (r a i : Nat) : Prop := RG r (8 * r) (8 * r + 9) a i ∨ (a = 50 ∧ (i = 2 * r ∨ i = 2 * r + 1))
def mRule (len : Nat) (b : Nat → Int32) (W : Nat) (rg : Nat → Int32) : Option (List (Nat → Int32) × List (Nat → Int32) × List Nat × List Nat × (Nat → Int32)) :=
  (mSideR len b W 0 (sk len b 0, [], [], fun _ => 0) rg).bind (fun z => if tv len b z.2.1.1 = 61 ∧ tv len b (z.2.1.1 + 1) = 62 then (mSideR len b W 1 (sk len b (z.2.1.1 + 2), z.2.1.2) z.2.2).bind (fun y => if len ≤ y.2.1.1 then some (z.1, y.1, y.2.1.2.1, y.2.1.2.2.1, y.2.2) else none) else none)
section MU2
variable {d : Nat} {len W : Nat} {b : Nat → Int32}
theorem c128 {r : Nat} (hr : r < 24) (σ : jS) (hx : 81 ≤ jnx σ) (hS : SH σ) (hN : NV σ) (hT : TM σ len b) (h0 : jI σ 667 47 = 0) (hw : jI σ 640 47 = nI W) :
    ∃ σ', jx (d + 5) 128 0 [some (.ref 47), some (.int (nI r))] [] σ = some (none, σ') ∧ PF (RRg r) σ σ' ∧ jnx σ' = jnx σ ∧ jsl σ' = jsl σ ∧ (match mRule len b W (fun j => jA σ 58 (3 * r + j)) with
      | some (o1, o2, rs, ms, rg) => jI σ' 667 47 = 0 ∧ jA σ' 50 (2 * r) = nI o1.length ∧ jA σ' 50 (2 * r + 1) = nI o2.length ∧ o1.length ≤ 4 ∧ o2.length ≤ 4 ∧ rdB σ' r rs ∧ rdC σ' r ms rg ∧ (jA σ' 59 r = if (o1.any celO || o2.any celO) = true then 1 else 0) ∧ (∀ i, i < o1.length → MO σ' (8 * r + i) (o1.getD i (fun _ => 0))) ∧ (∀ i, i < o2.length → MO σ' (8 * r + 4 + i) (o2.getD i (fun _ => 0)))
      | none => ¬ jI σ' 667 47 = 0) := by
  have hl : len ≤ 400 := hT.2.1
  have gr : jin 24 (nI r) := jin_n hr (by decide)
  have cr : (nI r).toNatClampNeg = r := nI_clamp (by omega)
  have a0 : ((0 : Int32) &&& 1) = 0 := rfl
  have pk := sk_le (b := b) (Nat.zero_le len)
  obtain ⟨τ, eτ⟩ : ∃ τ, jsA (jsA (jsA (jsI σ 666 47 0) 56 r 0) 57 r 0) 59 r 0 = τ := ⟨_, rfl⟩
  have Fτ : FR [47, 56, 57, 59] σ τ := eτ ▸ ((((FR.refl [47, 56, 57, 59] σ).I (q := 47) (by decide)).A (q := 56) (by decide)).A (q := 57) (by decide)).A (by decide)
  have Gτ : ∀ g, g ≠ 666 → jI τ g 47 = jI σ g 47 := fun g hg => by rw [← eτ, zA_I, zA_I, zA_I, zI_I, if_neg (fun z => hg z.1)]
  have Pτ : PF (RRg r) σ τ := by
    rw [← eτ]
    exact ((((PF.refl _ σ).I (Or.inl rfl)).A (Or.inl (Or.inl (Or.inl ⟨Or.inl rfl, rfl⟩)))).A (Or.inl (Or.inl (Or.inl ⟨Or.inr (Or.inl rfl), rfl⟩)))).A (Or.inl (Or.inl (Or.inl ⟨Or.inr (Or.inr rfl), rfl⟩)))
  have hSτ := Fτ.sh hS
  have hTτ : TM τ len b := Pτ.tm hx (fun i z => by unfold RRg RG at z; omega) hT
  have at0 : jI τ 666 47 = nI 0 := by rw [← eτ, zA_I, zA_I, zA_I, zI_I, if_pos ⟨rfl, rfl⟩]; rfl
  have c := c129 (d := d + 3) hSτ hTτ (p := 0) (Nat.zero_le _) at0
  obtain ⟨σ1, eσ1⟩ : ∃ σ1, jsI τ 666 47 (nI (sk len b 0)) = σ1 := ⟨_, rfl⟩
  have P1 : PF (RRg r) σ σ1 := eσ1 ▸ Pτ.I (Or.inl rfl)
  have nx1 : jnx σ1 = jnx σ := by rw [← eσ1, zI_nx]; exact Fτ.1.2.2.2.2.1
  have sl1 : jsl σ1 = jsl σ := by rw [← eσ1, zI_sl]; exact Fτ.1.2.2.2.2.2
  have hS1 := P1.sh hx hS
  have hA1 : rdA σ1 W len b (sk len b 0) := by
    refine ⟨hS1, P1.nv hx (fun i z => by unfold RRg RG at z; omega) hN, P1.tm hx (fun i z => by unfold RRg RG at z; omega) hT, pk.2, ?_, ?_, by rw [P1.f47 hx (by decide)]; exact hw⟩
    · rw [← eσ1, zI_I, if_pos ⟨rfl, rfl⟩]
    · rw [← eσ1, zI_I, if_neg (by decide), Gτ 667 (by decide)]; exact h0
  have ar1 : ∀ a i, jA σ1 a i = jA τ a i := fun a i => by rw [← eσ1, zI_A]
  have hB1 : rdB σ1 r [] := ⟨fun i hi => absurd hi (Nat.not_lt_zero i), List.nodup_nil, fun x hx => absurd hx (List.not_mem_nil), by rw [ar1, ← eτ, zA_A, if_neg (fun y => absurd y.1 (by decide)), zA_A, if_neg (fun y => absurd y.1 (by decide)), zA_A, if_pos ⟨rfl, rfl⟩]; rfl⟩
  have hC1 : rdC σ1 r [] (fun j => jA σ 58 (3 * r + j)) := ⟨fun i hi => absurd hi (Nat.not_lt_zero i), List.nodup_nil, fun x hx => absurd hx (List.not_mem_nil), by rw [ar1, ← eτ, zA_A, if_neg (fun y => absurd y.1 (by decide)), zA_A, if_pos ⟨rfl, rfl⟩]; rfl, fun j _ => by rw [ar1, (Fτ.2 58 (by decide)).2]⟩
  have h591 : jA σ1 59 r = if false = true then 1 else 0 := by rw [ar1, ← eτ, zA_A, if_pos ⟨rfl, rfl⟩]; rfl
  obtain ⟨σ2, n1, e2, F2, nx2, sl2, r2⟩ := c131 (d := d) hr (sd := 0) (Or.inl rfl) (sk len b 0, [], [], fun _ => 0) (fun j => jA σ 58 (3 * r + j)) false σ1 (by omega) hA1 hB1 hC1 h591
  have P2 : PF (RRg r) σ σ2 := P1.trans (F2.mono (fun a i z => Or.inl (z.wide (by omega) (by omega))))
  have hS2 := P2.sh hx hS
  have hr2 : (2 : Int32) * nI r = nI (2 * r) := by rw [show (2 : Int32) = nI 2 from rfl, nmul]
  have hr21 : nI (2 * r) + 1 = nI (2 * r + 1) := (nI_succ _).symm
  have g2 : jin 48 (nI (2 * r)) := jin_n (by omega) (by decide)
  have g21 : jin 48 (nI (2 * r + 1)) := jin_n (by omega) (by decide)
  have c2 : (nI (2 * r)).toNatClampNeg = 2 * r := nI_clamp (by omega)
  have c21 : (nI (2 * r + 1)).toNatClampNeg = 2 * r + 1 := nI_clamp (by omega)
  obtain ⟨υ, eυ⟩ : ∃ υ, jsA σ2 50 (2 * r) (nI n1) = υ := ⟨_, rfl⟩
  have Fυ : FR [50] σ2 υ := eυ ▸ (FR.refl _ σ2).A (by decide)
  have Pυ : PF (RRg r) σ υ := eυ ▸ P2.A (Or.inl (Or.inr ⟨rfl, Or.inl rfl⟩))
  have hSυ := Pυ.sh hx hS
  have Iυ : jI υ = jI σ2 := by rw [← eυ, zA_I]
  have nxυ : jnx υ = jnx σ := by rw [Fυ.1.2.2.2.2.1, nx2]; exact nx1
  have slυ : jsl υ = jsl σ := by rw [Fυ.1.2.2.2.2.2, sl2]; exact sl1
  have to43 : jx (d + 5) 128 0 [some (.ref 47), some (.int (nI r))] [] σ = if ¬ jI υ 667 47 = 0 then jx (d + 5) 128 158 [some (.ref 47), some (.int (nI r))] [] υ else jx (d + 5) 128 51 [some (.ref 47), some (.int (nI r))] [] υ := by
    have b1 : jx (d + 5) 128 0 [some (.ref 47), some (.int (nI r))] [] σ = (jx (d + 4) 129 0 [some (.ref 47)] [] τ).bind (fun z => jx (d + 5) 128 30 [some (.ref 47), some (.int (nI r))] (z.1.toList ++ []) z.2) := by
      rw [← eτ]
      simp (decide := true) only [k128_0N, sT_1, sT_2, sT_3, sT_16, sT_17, sT_18, sT_19, sT_20, sT_21, sT_22, sT_23, sT_24, sT_25, sT_26, sT_27, sT_28, sT_29, sT_30, sT_31, sT_32, sT_33, sT_34, sT_35, sT_36, sT_37, sT_38, sT_39, sT_40, sT_41, sT_42, sT_43, sT_44, sT_45, sT_46, sT_47, sT_48, sT_49, sT_50, sT_51, sT_52, sT_53, sT_54, sT_55, sT_56, sT_57, sT_58, sT_59, sT_60, sT_61, sT_62, sT_63, sT_64, sT_65, sT_66, sT_67, sT_68, sT_69, sT_70, sT_71, sT_72, sT_73, sT_74, sT_75, sT_76, sT_77, sT_78, sT_79, sT_80, sN_1, sN_2, sN_19, sN_21, sN_23, sN_24, sN_26, sN_29, sN_31, sN_33, sN_35, sN_36, sN_37, sN_39, sN_40, sN_42, sN_44, sN_45, sN_46, sN_48, sN_49, sN_50, sN_51, sN_52, sN_53, sN_54, sN_55, sN_56, sN_57, sN_58, sN_59, sN_60, sN_61, sN_62, sN_63, sN_64, sN_65, sN_66, sN_67, sN_68, sN_69, sN_70, sN_71, sN_72, sN_73, sN_74, sN_75, sN_76, sN_77, sN_78, sN_79, sN_80, sR_0_34, sR_0_38, sR_1_34, sR_1_38, sR_64_20, sR_64_22, sR_128_25, sR_128_28, sR_194_17, sR_195_17, sR_196_17, sR_197_17, sR_258_30, sR_258_32, sR_258_41, sR_384_43, sR_448_18, sR_512_27, sR_513_27, sR_514_27, sR_515_27, sR_516_27, sR_576_16, sR_577_16, sR_578_16, sR_579_16, sR_580_16, sR_581_16, sR_582_16, sR_583_16, sR_584_16, sR_641_47, sR_643_47, sR_645_47, sR_646_47, sR_647_47, sR_648_47, sR_649_47, sR_650_47, sR_651_47, sR_652_47, sR_653_47, sR_654_47, sR_655_47, sR_656_47, sR_657_47, sR_658_47, sR_659_47, sR_661_47, sR_662_47, sR_663_47, sR_664_47, sR_665_47, sR_669_47, sR_670_47, sR_671_47, sR_672_47, sR_673_47, sR_674_47, sR_676_47, sR_677_47, sR_679_47, sR_680_47, sR_681_47, SH_I, SH_A, SH_G, SH_C, hS, gr, cr, a0, Option.getD_some, ne_eq, reduceCtorEq, not_false_eq_true, not_true_eq_false, Option.bind_some, Option.toList_none, Option.toList_some, List.nil_append, List.cons_append, List.append_nil, ↓reduceIte, and_self, true_and, and_true, false_and, and_false, or_true, true_or, or_false, false_or, Nat.reduceEqDiff, Nat.reduceAdd, Int32.reduceMul, Int32.reduceAdd, Int32.reduceSub, Int32.reduceToNatClampNeg, Int32.reduceOfNat, Int32.reduceLT, Int32.reduceLE, va_rf]
    rw [b1, c, eσ1]
    simp only [Option.bind_some, Option.toList_none, List.nil_append]
    rw [k128_30 (sT_47 hS1) (by rw [sR_645_47 hS1]; exact fun z => nomatch z), sR_645_47 hS1, hr2]
    have e2' : jx (d + 4) 131 0 [some (.ref 47), some (.int (nI r)), some (.int 0), none, none, none, none, none, none] [] σ1 = some (some (.int (nI n1)), σ2) := e2
    rw [e2']
    simp only [Option.bind_some, Option.toList_some, List.cons_append, List.nil_append, Option.getD_some]
    rw [k128_43 (sT_50 hS2) (by rw [sN_50 hS2]; exact g2) (sT_47 hS2), c2, eυ, Iυ]
  have failU : ∀ (ω : jS), SH ω → jI ω 667 47 = 0 → ∃ ω', jx (d + 5) 128 149 [some (.ref 47), some (.int (nI r))] [] ω = some (none, ω') ∧ MF ω ω' ∧ ¬ jI ω' 667 47 = 0 := by
    intro ω hSw hzw
    obtain ⟨ω', e, f, q⟩ := c136x (d := d + 4) (σ := ω) hSw hzw (c := 1) (by decide) (jI ω 666 47)
    refine ⟨ω', ?_, f, q⟩
    rw [k128_149 (sT_47 hSw), e]
    simp only [Option.bind_some, Option.toList_none, List.nil_append]
    rw [k128_158]
  unfold mRule
  cases hZ : mSideR len b W 0 (sk len b 0, [], [], fun _ => 0) (fun j => jA σ 58 (3 * r + j)) with
  | none =>
    rw [hZ] at r2
    have r2 : ¬ jI σ2 667 47 = 0 := r2
    refine ⟨υ, ?_, Pυ, nxυ, slυ, by rw [Iυ]; exact r2⟩
    rw [to43, Iυ, if_pos r2, k128_158]
  | some z =>
    rw [hZ] at r2
    obtain ⟨q1, q2, hA2, hB2, hC2, q59, qM⟩ := r2
    have hAυ : rdA υ W len b z.2.1.1 := hA2.frame Fυ (fun g _ _ _ => by rw [Iυ]) (by decide) (by decide) hA2.2.2.2.1 (by rw [Iυ]; exact hA2.2.2.2.2.1) (by rw [Iυ]; exact hA2.2.2.2.2.2.1)
    have hBυ : rdB υ r z.2.1.2.1 := hB2.frame Fυ (by decide) (by decide)
    have hCυ : rdC υ r z.2.1.2.2.1 z.2.2 := hC2.frame Fυ (by decide) (by decide) (by decide)
    have zυ := hAυ.2.2.2.2.2.1
    have hpz := hAυ.2.2.2.1
    have cl := c130 (d := d + 4) hSυ hAυ.2.2.1 (p := z.2.1.1) (by omega) hAυ.2.2.2.2.1
    have to55 : jx (d + 5) 128 0 [some (.ref 47), some (.int (nI r))] [] σ = jx (d + 5) 128 55 [some (.ref 47), some (.int (nI r))] [.int (tv len b z.2.1.1)] υ := by
      rw [to43, if_neg (fun y => y zυ), k128_51 (sT_47 hSυ), cl]
      rfl
    have bad : jx (d + 5) 128 0 [some (.ref 47), some (.int (nI r))] [] σ = jx (d + 5) 128 149 [some (.ref 47), some (.int (nI r))] [] υ → ∃ σ', jx (d + 5) 128 0 [some (.ref 47), some (.int (nI r))] [] σ = some (none, σ') ∧ PF (RRg r) σ σ' ∧ jnx σ' = jnx σ ∧ jsl σ' = jsl σ ∧ ¬ jI σ' 667 47 = 0 := by
      intro e
      obtain ⟨ω, e1, f1, q⟩ := failU υ hSυ zυ
      exact ⟨ω, e.trans e1, Pυ.mf f1, by rw [f1.1.1.2.2.2.2.1]; exact nxυ, by rw [f1.1.1.2.2.2.2.2]; exact slυ, q⟩
    rw [Option.bind_some]
    have p1 : nI z.2.1.1 + 1 = nI (z.2.1.1 + 1) := (nI_succ _).symm
    by_cases h61 : tv len b z.2.1.1 = 61
    · have hlt : z.2.1.1 < len := tv_lit h61 (by decide)
      by_cases h62 : tv len b (z.2.1.1 + 1) = 62
      · rw [if_pos ⟨h61, h62⟩]
        have hlt2 : z.2.1.1 + 1 < len := tv_lit h62 (by decide)
        have g1 : ¬ nI len ≤ nI (z.2.1.1 + 1) := nI_ge (by omega) (by omega)
        have gj : jin 400 (nI (z.2.1.1 + 1)) := jin_n (by omega) (by decide)
        have cj : (nI (z.2.1.1 + 1)).toNatClampNeg = z.2.1.1 + 1 := nI_clamp (by omega)
        have bv : jA υ 48 (z.2.1.1 + 1) = 62 := by
          rw [hAυ.2.2.1.2.2 _ hlt2, ← h62]; unfold tv; rw [if_pos hlt2]
        have p2 : nI z.2.1.1 + 2 = nI (z.2.1.1 + 2) := by rw [show (2 : Int32) = nI 2 from rfl, nadd]
        have hA3' : rdA (jsI υ 666 47 (nI (z.2.1.1 + 2))) W len b (z.2.1.1 + 2) := hAυ.frame ((FR.refl [47] υ).I (by decide)) (fun g x _ _ => by rw [zI_I, if_neg (fun q => x q.1)]) (by decide) (by decide) hlt2 (by rw [zI_I, if_pos ⟨rfl, rfl⟩]) (by rw [zI_I, if_neg (by decide)]; exact zυ)
        have cb := c129 (d := d + 3) hA3'.1 hA3'.2.2.1 hA3'.2.2.2.1 hA3'.2.2.2.2.1
        rw [jsI_jsI] at cb
        have pk2 := sk_le (b := b) (p := z.2.1.1 + 2) hlt2
        obtain ⟨σ3, eσ3⟩ : ∃ σ3, jsI υ 666 47 (nI (sk len b (z.2.1.1 + 2))) = σ3 := ⟨_, rfl⟩
        rw [eσ3] at cb
        have F3 : FR [47] υ σ3 := eσ3 ▸ (FR.refl [47] υ).I (by decide)
        have hA3 : rdA σ3 W len b (sk len b (z.2.1.1 + 2)) := by
          rw [← eσ3]
          exact hAυ.frame ((FR.refl [47] υ).I (by decide)) (fun g x _ _ => by rw [zI_I, if_neg (fun q => x q.1)]) (by decide) (by decide) pk2.2 (by rw [zI_I, if_pos ⟨rfl, rfl⟩]) (by rw [zI_I, if_neg (by decide)]; exact zυ)
        have P3 : PF (RRg r) σ σ3 := eσ3 ▸ Pυ.I (Or.inl rfl)
        have hS3 := hA3.1
        have hB3 : rdB σ3 r z.2.1.2.1 := hBυ.frame F3 (by decide) (by decide)
        have hC3 : rdC σ3 r z.2.1.2.2.1 z.2.2 := hCυ.frame F3 (by decide) (by decide) (by decide)
        have h593 : jA σ3 59 r = if z.1.any celO = true then 1 else 0 := by
          rw [(F3.2 59 (by decide)).2, (Fυ.2 59 (by decide)).2, q59, Bool.false_or]
        have nx3 : jnx σ3 = jnx σ := by rw [F3.1.2.2.2.2.1]; exact nxυ
        have sl3 : jsl σ3 = jsl σ := by rw [F3.1.2.2.2.2.2]; exact slυ
        obtain ⟨σ4, n2, e4, F4, nx4, sl4, r4⟩ := c131 (d := d) hr (sd := 1) (Or.inr rfl) (sk len b (z.2.1.1 + 2), z.2.1.2) z.2.2 (z.1.any celO) σ3 (by omega) hA3 hB3 hC3 h593
        have P4 : PF (RRg r) σ σ4 := P3.trans (F4.mono (fun a i z => Or.inl (z.wide (by omega) (by omega))))
        have hS4 := P4.sh hx hS
        obtain ⟨ω, eω⟩ : ∃ ω, jsA σ4 50 (2 * r + 1) (nI n2) = ω := ⟨_, rfl⟩
        have Fω : FR [50] σ4 ω := eω ▸ (FR.refl _ σ4).A (by decide)
        have Pω : PF (RRg r) σ ω := eω ▸ P4.A (Or.inl (Or.inr ⟨rfl, Or.inr rfl⟩))
        have hSω := Pω.sh hx hS
        have Iω : jI ω = jI σ4 := by rw [← eω, zA_I]
        have nxω : jnx ω = jnx σ := by rw [Fω.1.2.2.2.2.1, nx4]; exact nx3
        have slω : jsl ω = jsl σ := by rw [Fω.1.2.2.2.2.2, sl4]; exact sl3
        have to118 : jx (d + 5) 128 0 [some (.ref 47), some (.int (nI r))] [] σ = if ¬ jI ω 667 47 = 0 then jx (d + 5) 128 158 [some (.ref 47), some (.int (nI r))] [] ω else jx (d + 5) 128 126 [some (.ref 47), some (.int (nI r))] [] ω := by
          rw [to55, k128_55, if_neg (fun y => y h61), k128_60 (sT_47 hSυ), hAυ.2.2.1.1, hAυ.2.2.2.2.1, p1, if_neg g1]
          rw [k128_73 (sT_47 hSυ) (by rw [sR_641_47 hSυ]; exact fun z => nomatch z) (by rw [sR_641_47 hSυ]; exact Or.inl (sT_48 hSυ)) (by rw [sR_641_47 hSυ]; show jin (jN υ 48) _; rw [sN_48 hSυ, hAυ.2.2.2.2.1, p1]; exact gj)]
          rw [sR_641_47 hSυ, hAυ.2.2.2.2.1, p1, cj]
          show (if ¬ jA υ 48 (z.2.1.1 + 1) = 62 then _ else _) = _
          rw [bv, if_neg (fun y => y rfl), k128_89 (sT_47 hSυ), hAυ.2.2.2.2.1, p2, cb]
          simp only [Option.bind_some, Option.toList_none, List.nil_append]
          rw [k128_103 (sT_47 hS3) (by rw [sR_645_47 hS3]; exact fun z => nomatch z), sR_645_47 hS3, hr2, hr21]
          have e4' : jx (d + 4) 131 0 [some (.ref 47), some (.int (nI r)), some (.int 1), none, none, none, none, none, none] [] σ3 = some (some (.int (nI n2)), σ4) := e4
          rw [e4']
          simp only [Option.bind_some, Option.toList_some, List.cons_append, List.nil_append, Option.getD_some]
          rw [k128_118 (sT_50 hS4) (by rw [sN_50 hS4]; exact g21) (sT_47 hS4), c21, eω, Iω]
        cases hY : mSideR len b W 1 (sk len b (z.2.1.1 + 2), z.2.1.2) z.2.2 with
        | none =>
          rw [hY] at r4
          have r4 : ¬ jI σ4 667 47 = 0 := r4
          refine ⟨ω, ?_, Pω, nxω, slω, by rw [Iω]; exact r4⟩
          rw [to118, Iω, if_pos r4, k128_158]
        | some y =>
          rw [hY] at r4
          obtain ⟨u1, u2, hA4, hB4, hC4, u59, uM⟩ := r4
          have zω : jI ω 667 47 = 0 := by rw [Iω]; exact hA4.2.2.2.2.2.1
          have aω : jI ω 666 47 = nI y.2.1.1 := by rw [Iω]; exact hA4.2.2.2.2.1
          have lω : jI ω 642 47 = nI len := by rw [Iω]; exact hA4.2.2.1.1
          have hpy := hA4.2.2.2.1
          rw [Option.bind_some]
          by_cases he : len ≤ y.2.1.1
          · rw [if_pos he]
            have hle : nI len ≤ nI y.2.1.1 := nI_le he (by omega)
            have v50 : jA ω 50 (2 * r) = nI z.1.length := by
              rw [← eω, zA_A, if_neg (fun y => absurd y.2 (by omega)), F4.ar (by omega) (by decide) _ (fun z => by unfold RG at z; omega), (F3.2 50 (by decide)).2, ← eυ, zA_A, if_pos ⟨rfl, rfl⟩, q1]
            refine ⟨ω, ?_, Pω, nxω, slω, zω, v50, ?_, by omega, by omega, hB4.frame Fω (by decide) (by decide), hC4.frame Fω (by decide) (by decide) (by decide), ?_, fun i hi => ?_, fun i hi => ?_⟩
            · rw [to118, if_neg (fun y => y zω), k128_126 (sT_47 hSω), lω, aω, if_pos hle, k128_158]
            · rw [← eω, zA_A, if_pos ⟨rfl, rfl⟩, u1]
            · rw [(Fω.2 59 (by decide)).2]; exact u59
            · have m1 := (qM i hi).fr Fυ (fun a h1 h2 => by simp; omega)
              have m2 := m1.fr F3 (fun a h1 h2 => by simp; omega)
              have m3 := m2.frame F4 (by omega) (by omega)
              exact m3.fr Fω (fun a h1 h2 => by simp; omega)
            · exact (uM i hi).fr Fω (fun a h1 h2 => by simp; omega)
          · rw [if_neg he]
            have hle : ¬ nI len ≤ nI y.2.1.1 := nI_ge (by omega) (by omega)
            obtain ⟨ω', e5, f5, q5⟩ := c136x (d := d + 4) (σ := ω) hSω zω (c := 1) (by decide) (jI ω 666 47)
            refine ⟨ω', ?_, Pω.mf f5, by rw [f5.1.1.2.2.2.2.1]; exact nxω, by rw [f5.1.1.2.2.2.2.2]; exact slω, q5⟩
            have hle' : ¬ jI ω 642 47 ≤ jI ω 666 47 := by rw [lω, aω]; exact hle
            rw [to118, if_neg (fun y => y zω), k128_126 (sT_47 hSω), if_neg hle', k128_137 (sT_47 hSω), e5]
            simp only [Option.bind_some, Option.toList_none, List.nil_append]
            rw [k128_146]
      · rw [if_neg (fun y => h62 y.2)]
        refine bad ?_
        rw [to55, k128_55, if_neg (fun y => y h61), k128_60 (sT_47 hSυ), hAυ.2.2.1.1, hAυ.2.2.2.2.1, p1]
        by_cases hlt2 : z.2.1.1 + 1 < len
        · have g1 : ¬ nI len ≤ nI (z.2.1.1 + 1) := nI_ge (by omega) (by omega)
          have gj : jin 400 (nI (z.2.1.1 + 1)) := jin_n (by omega) (by decide)
          have cj : (nI (z.2.1.1 + 1)).toNatClampNeg = z.2.1.1 + 1 := nI_clamp (by omega)
          have bv : ¬ jA υ 48 (z.2.1.1 + 1) = 62 := by
            rw [hAυ.2.2.1.2.2 _ hlt2]
            intro e
            refine h62 ?_
            unfold tv; rw [if_pos hlt2]; exact e
          rw [if_neg g1, k128_73 (sT_47 hSυ) (by rw [sR_641_47 hSυ]; exact fun z => nomatch z) (by rw [sR_641_47 hSυ]; exact Or.inl (sT_48 hSυ)) (by rw [sR_641_47 hSυ]; show jin (jN υ 48) _; rw [sN_48 hSυ, hAυ.2.2.2.2.1, p1]; exact gj)]
          rw [sR_641_47 hSυ, hAυ.2.2.2.2.1, p1, cj]
          show (if ¬ jA υ 48 (z.2.1.1 + 1) = 62 then _ else _) = _
          rw [if_pos bv]
        · have g1 : nI len ≤ nI (z.2.1.1 + 1) := nI_le (by omega) (by omega)
          rw [if_pos g1]
    · rw [if_neg (fun y => h61 y.1)]
      refine bad ?_
      rw [to55, k128_55, if_pos h61]
end MU2
