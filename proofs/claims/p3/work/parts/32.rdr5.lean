/-! the class's reader: orders in a row; a text's beginning -/
def sClose (len : Nat) (b : Nat → Int32) (m p : Nat) : Option Nat := if m = 1 then (if tv len b p = 61 ∧ tv len b (p + 1) = 62 then some (p + 2) else none) else (if len ≤ p then some p else none)
def sOrds (len : Nat) (b : Nat → Int32) (m W most : Nat) : Nat → Nat → jPS → Option (List (Nat → Int32) × jPS)
  | 0, _, _ => none
  | f + 1, n, s => (sName len b (n == most) s).bind (fun s1 => (sRegs len b m (regN (s1.2.2.2 0).toNatClampNeg) 1 s1).bind (fun s2 => (sNum len b m W (s1.2.2.2 0).toNatClampNeg s2).bind (fun s3 =>
      match sClose len b m (sk len b s3.1) with
      | some p => some ([s3.2.2.2], (p, s3.2))
      | none => if tv len b (sk len b s3.1) = 59 then (sOrds len b m W most f (n + 1) (sk len b (sk len b s3.1 + 1), s3.2)).map (fun z => (s3.2.2.2 :: z.1, z.2)) else none)))
theorem sNum_ok {len m W k : Nat} {b : Nat → Int32} {s s' : jPS} (hp : s.1 ≤ len) (h : sNum len b m W k s = some s') : s.1 ≤ s'.1 ∧ s'.1 ≤ len ∧ s'.2.2.2 0 = s.2.2.2 0 := by
  unfold sNum at h
  by_cases hn : numN k = true
  · rw [if_pos hn] at h
    obtain ⟨s1, h1, h⟩ := Option.bind_eq_some_iff.mp h
    obtain ⟨s2, h2, h⟩ := Option.bind_eq_some_iff.mp h
    obtain ⟨a1, a2, a3⟩ := sGap_ok h1
    obtain ⟨b1, b2, b3⟩ := sTerm_ok h2
    have e0 : s2.2.2.2 0 = s.2.2.2 0 := by rw [b3 0 (by decide), a3]
    by_cases hs : m = 2 ∧ isSg (tv len b s2.1)
    · rw [if_pos hs] at h
      obtain ⟨q1, q2, q3⟩ := sTerm_ok h
      have q1 : s2.1 + 1 < s'.1 := q1
      refine ⟨by omega, q2, ?_⟩
      rw [q3 0 (by decide)]
      exact e0
    · rw [if_neg hs] at h
      by_cases hg : 16 ≤ s2.2.2.2 2
      · rw [if_pos hg] at h; cases h; exact ⟨by omega, b2, e0⟩
      · rw [if_neg hg] at h
        cases h
        refine ⟨by show s.1 ≤ s2.1; omega, b2, ?_⟩
        exact e0
  · rw [if_neg hn] at h
    cases h
    exact ⟨Nat.le_refl _, hp, rfl⟩
def RESO (m W : Nat) (q a n : Nat) (σ : jS) (r : jr) (o : Option (List (Nat → Int32) × jPS)) : Prop := match o with
  | some (os, s) => ∃ σ', r = some (some (.int 1), σ') ∧ FR (q :: a :: rdl) σ σ' ∧ RD m W s σ' ∧ jI σ' 257 q = nI (n + os.length) ∧ (∀ g, g ≠ 257 → jI σ' g q = jI σ g q) ∧ (∀ i, i < 6 * n → jA σ' a i = jA σ a i) ∧ (∀ i j, i < os.length → j < 6 → jA σ' a (6 * (n + i) + j) = (os.getD i (fun _ => 0)) j)
  | none => ∃ σ', r = some (some (.int 0), σ') ∧ FR (q :: a :: rdl) σ σ' ∧ ¬ jI σ' 192 17 = 0 ∧ (∀ g, g ≠ 257 → jI σ' g q = jI σ g q)
section RD7
variable {d : Nat} {len m W : Nat} {b : Nat → Int32}
theorem RD.frame {m W : Nat} {s : jPS} {l : List Nat} {σ σ' : jS} (h : RD m W s σ) (hF : FR l σ σ') (hl : ∀ x, x ∈ rdl → x ∉ l) : RD m W s σ' := by
  obtain ⟨h1, h2, h3, h4, h5, h6, h7⟩ := h
  have k := fun x (hx : x ∈ rdl) => hF.2 x (hl x hx)
  exact ⟨by rw [(k 17 (by decide)).1]; exact h1, by rw [(k 17 (by decide)).1]; exact h2, by rw [(k 17 (by decide)).1]; exact h3, ⟨by rw [(k 20 (by decide)).1]; exact h4.1, fun l hl => by rw [(k 21 (by decide)).2]; exact h4.2.1 l hl, h4.2.2⟩, ⟨by rw [(k 22 (by decide)).1]; exact h5.1, fun l hl => by rw [(k 23 (by decide)).2]; exact h5.2.1 l hl, h5.2.2⟩, fun j hj => by rw [(k 24 (by decide)).2]; exact h6 j hj, by rw [(k 17 (by decide)).1]; exact h7⟩
theorem RW.frame {σ σ' : jS} {l : List Nat} {q a m n : Nat} (h : RW σ q a m n) (hF : FR l σ σ') (hq : q ∉ l) : RW σ' q a m n := by
  obtain ⟨h1, h2, h3, h4, h5, h6, h7⟩ := h
  exact ⟨by rw [hF.1.1]; exact h1, by rw [hF.1.2.2.1]; exact h2, by rw [hF.1.1]; exact h3, by rw [hF.1.2.1]; exact h4, by rw [(hF.2 q hq).1]; exact h5, by rw [(hF.2 q hq).1]; exact h6, h7⟩
theorem c26 {q a most : Nat} (hqa : q ≠ a) (hq : q ∉ [1, 2, 17, 18, 19, 20, 21, 22, 23, 24]) (ha : a ∉ [1, 2, 17, 18, 19, 20, 21, 22, 23, 24]) (hm : m = 0 ∨ m = 1 ∨ m = 2) (hmost : most ≤ 24) : ∀ (f n : Nat) (σ : jS) (s : jPS), most + 1 - n = f → n ≤ most + 1 → SH σ → ST σ → TX σ len b → RD m W s σ → s.1 ≤ len → (n ≤ most → RW σ q a most n) →
    (n ≤ most → RESO m W q a n σ (jx (d + 6) 26 2 [some (.ref 17), some (.ref q), some (.int (nI n))] [] σ) (sOrds len b m W most f n s)) := by
  intro f
  induction f with
  | zero => intro n σ s hf hn hS hQ hT hR hp hW hn2; omega
  | succ f ih =>
    intro n σ s hf hn hS hQ hT hR hp hW hn2
    have hl : len ≤ 400 := hT.2.1
    have W0 := hW hn2
    have hq5 := W0.1
    have hmo := W0.2.2.2.2.1
    have r17 : (17 : Nat) ∉ q :: a :: [] := by simp at hq ha ⊢; omega
    have dq : ∀ x, x ∈ rdl → x ∉ [q, a] := by
      intro x hx hc
      simp only [List.mem_cons, List.not_mem_nil, or_false] at hc
      rcases hc with rfl | rfl
      · exact hq (by simp only [rdl, List.mem_cons, List.not_mem_nil, or_false] at hx ⊢; omega)
      · exact ha (by simp only [rdl, List.mem_cons, List.not_mem_nil, or_false] at hx ⊢; omega)
    have nq : q ∉ rdl := fun z => dq q z (by simp)
    have na : a ∉ rdl := fun z => dq a z (by simp)
    have nq1 : 1 ∉ q :: a :: rdl ∧ 2 ∉ q :: a :: rdl ∧ 18 ∉ q :: a :: rdl ∧ 19 ∉ q :: a :: rdl := by
      simp only [rdl, List.mem_cons, List.not_mem_nil, or_false, not_or] at hq ha ⊢
      omega
    have up : ∀ {σ σ' : jS}, FR rdl σ σ' → FR (q :: a :: rdl) σ σ' := fun h => h.mono (fun x hx => by simp [hx])
    have g0 : ¬ nI most < nI n := nI_nlt hn2 (by omega)
    have st : jx (d + 6) 26 2 [some (.ref 17), some (.ref q), some (.int (nI n))] [] σ = (jx (d + 5) 27 0 [some (.ref 17), some (.int (if (n == most) = true then 1 else 0)), none, none, none] [] σ).bind (fun z => jx (d + 6) 26 27 [some (.ref 17), some (.ref q), some (.int (nI n))] (z.1.toList ++ []) z.2) := by
      rw [k26_2 hq5]
      by_cases he : n = most
      · subst he
        simp (decide := true) only [k26_10, k26_19, k26_23, sT_1, sT_2, sT_3, sT_16, sT_17, sT_18, sT_19, sT_20, sT_21, sT_22, sT_23, sT_24, sT_25, sT_26, sT_27, sT_28, sT_29, sT_30, sT_31, sT_32, sT_33, sT_34, sT_35, sT_36, sT_37, sT_38, sT_39, sT_40, sT_41, sT_42, sT_43, sT_44, sT_45, sT_46, sT_47, sT_48, sT_49, sT_50, sT_51, sT_52, sT_53, sT_54, sT_55, sT_56, sT_57, sT_58, sT_59, sT_60, sT_61, sT_62, sT_63, sT_64, sT_65, sT_66, sT_67, sT_68, sT_69, sT_70, sT_71, sT_72, sT_73, sT_74, sT_75, sT_76, sT_77, sT_78, sT_79, sT_80, sN_1, sN_2, sN_19, sN_21, sN_23, sN_24, sN_26, sN_29, sN_31, sN_33, sN_35, sN_36, sN_37, sN_39, sN_40, sN_42, sN_44, sN_45, sN_46, sN_48, sN_49, sN_50, sN_51, sN_52, sN_53, sN_54, sN_55, sN_56, sN_57, sN_58, sN_59, sN_60, sN_61, sN_62, sN_63, sN_64, sN_65, sN_66, sN_67, sN_68, sN_69, sN_70, sN_71, sN_72, sN_73, sN_74, sN_75, sN_76, sN_77, sN_78, sN_79, sN_80, sR_0_34, sR_0_38, sR_1_34, sR_1_38, sR_64_20, sR_64_22, sR_128_25, sR_128_28, sR_194_17, sR_195_17, sR_196_17, sR_197_17, sR_258_30, sR_258_32, sR_258_41, sR_384_43, sR_448_18, sR_512_27, sR_513_27, sR_514_27, sR_515_27, sR_516_27, sR_576_16, sR_577_16, sR_578_16, sR_579_16, sR_580_16, sR_581_16, sR_582_16, sR_583_16, sR_584_16, sR_641_47, sR_643_47, sR_645_47, sR_646_47, sR_647_47, sR_648_47, sR_649_47, sR_650_47, sR_651_47, sR_652_47, sR_653_47, sR_654_47, sR_655_47, sR_656_47, sR_657_47, sR_658_47, sR_659_47, sR_661_47, sR_662_47, sR_663_47, sR_664_47, sR_665_47, sR_669_47, sR_670_47, sR_671_47, sR_672_47, sR_673_47, sR_674_47, sR_676_47, sR_677_47, sR_679_47, sR_680_47, sR_681_47, SH_I, SH_A, SH_G, SH_C, hS, hq5, hmo, g0, beq_self_eq_true, Option.getD_some, ne_eq, reduceCtorEq, not_false_eq_true, not_true_eq_false, Option.bind_some, Option.toList_none, Option.toList_some, List.nil_append, List.cons_append, List.append_nil, ↓reduceIte, and_self, true_and, and_true, false_and, and_false, or_true, true_or, or_false, false_or, Nat.reduceEqDiff, Nat.reduceAdd, Int32.reduceMul, Int32.reduceAdd, Int32.reduceSub, Int32.reduceToNatClampNeg, Int32.reduceOfNat, Int32.reduceLT, Int32.reduceLE, va_rf]
      · have g1 : ¬ nI n = nI most := by rw [n31eq (by omega) (by omega)]; exact he
        have g2 : (n == most) = false := by simpa using he
        simp (decide := true) only [k26_10, k26_19, k26_23, sT_1, sT_2, sT_3, sT_16, sT_17, sT_18, sT_19, sT_20, sT_21, sT_22, sT_23, sT_24, sT_25, sT_26, sT_27, sT_28, sT_29, sT_30, sT_31, sT_32, sT_33, sT_34, sT_35, sT_36, sT_37, sT_38, sT_39, sT_40, sT_41, sT_42, sT_43, sT_44, sT_45, sT_46, sT_47, sT_48, sT_49, sT_50, sT_51, sT_52, sT_53, sT_54, sT_55, sT_56, sT_57, sT_58, sT_59, sT_60, sT_61, sT_62, sT_63, sT_64, sT_65, sT_66, sT_67, sT_68, sT_69, sT_70, sT_71, sT_72, sT_73, sT_74, sT_75, sT_76, sT_77, sT_78, sT_79, sT_80, sN_1, sN_2, sN_19, sN_21, sN_23, sN_24, sN_26, sN_29, sN_31, sN_33, sN_35, sN_36, sN_37, sN_39, sN_40, sN_42, sN_44, sN_45, sN_46, sN_48, sN_49, sN_50, sN_51, sN_52, sN_53, sN_54, sN_55, sN_56, sN_57, sN_58, sN_59, sN_60, sN_61, sN_62, sN_63, sN_64, sN_65, sN_66, sN_67, sN_68, sN_69, sN_70, sN_71, sN_72, sN_73, sN_74, sN_75, sN_76, sN_77, sN_78, sN_79, sN_80, sR_0_34, sR_0_38, sR_1_34, sR_1_38, sR_64_20, sR_64_22, sR_128_25, sR_128_28, sR_194_17, sR_195_17, sR_196_17, sR_197_17, sR_258_30, sR_258_32, sR_258_41, sR_384_43, sR_448_18, sR_512_27, sR_513_27, sR_514_27, sR_515_27, sR_516_27, sR_576_16, sR_577_16, sR_578_16, sR_579_16, sR_580_16, sR_581_16, sR_582_16, sR_583_16, sR_584_16, sR_641_47, sR_643_47, sR_645_47, sR_646_47, sR_647_47, sR_648_47, sR_649_47, sR_650_47, sR_651_47, sR_652_47, sR_653_47, sR_654_47, sR_655_47, sR_656_47, sR_657_47, sR_658_47, sR_659_47, sR_661_47, sR_662_47, sR_663_47, sR_664_47, sR_665_47, sR_669_47, sR_670_47, sR_671_47, sR_672_47, sR_673_47, sR_674_47, sR_676_47, sR_677_47, sR_679_47, sR_680_47, sR_681_47, SH_I, SH_A, SH_G, SH_C, hS, hq5, hmo, g0, g1, g2, Option.getD_some, ne_eq, reduceCtorEq, not_false_eq_true, not_true_eq_false, Option.bind_some, Option.toList_none, Option.toList_some, List.nil_append, List.cons_append, List.append_nil, ↓reduceIte, and_self, true_and, and_true, false_and, and_false, or_true, true_or, or_false, false_or, Nat.reduceEqDiff, Nat.reduceAdd, Int32.reduceMul, Int32.reduceAdd, Int32.reduceSub, Int32.reduceToNatClampNeg, Int32.reduceOfNat, Int32.reduceLT, Int32.reduceLE, va_rf]
    rw [st]
    have cn := c27 (d := d) hS hT hR hp (tm := n == most) rfl
    show RESO m W q a n σ _ ((sName len b (n == most) s).bind _)
    cases hg1 : sName len b (n == most) s with
    | none =>
      rw [hg1] at cn
      obtain ⟨σ1, e1, f1, f2⟩ := cn
      refine ⟨σ1, ?_, up f1, f2, fun g _ => (f1.2 q nq).1 g⟩
      simp (decide := true) only [e1, k26_27, k26_44, Option.getD_some, ne_eq, reduceCtorEq, not_false_eq_true, not_true_eq_false, Option.bind_some, Option.toList_none, Option.toList_some, List.nil_append, List.cons_append, List.append_nil, ↓reduceIte, and_self, true_and, and_true, false_and, and_false, or_true, true_or, or_false, false_or, Nat.reduceEqDiff, Nat.reduceAdd, Int32.reduceMul, Int32.reduceAdd, Int32.reduceSub, Int32.reduceToNatClampNeg, Int32.reduceOfNat, Int32.reduceLT, Int32.reduceLE, va_rf]
    | some s1 =>
      rw [hg1] at cn
      obtain ⟨σ1, e1, f1, f2⟩ := cn
      obtain ⟨a1, a2, a3, k, hk, a4, -, -, -, -, -⟩ := sName_ok hp hg1
      have hnm : n < most := by
        have : ¬ n = most := by simpa using a3
        omega
      obtain ⟨hS1, hQ1, hT1⟩ := rdS (l := []) f1 hS hQ hT
      have hk0 : s1.2.2.2 0 = nI k := by rw [a4]; rfl
      have hkk : (s1.2.2.2 0).toNatClampNeg = k := by rw [hk0]; exact nI_clamp (by omega)
      rw [Option.bind_some, hkk]
      have cr := c33 (d := d + 2) hS1 hQ1 hT1 f2 a2 hm hk hk0
      cases hg2 : sRegs len b m (regN k) 1 s1 with
      | none =>
        rw [hg2] at cr
        obtain ⟨σ2, e2, f3, f4⟩ := cr
        refine ⟨σ2, ?_, up (f1.trans f3), f4, fun g _ => ((f1.trans f3).2 q nq).1 g⟩
        simp (decide := true) only [e1, e2, k26_27, k26_30, k26_34, k26_44, sT_1, sT_2, sT_3, sT_16, sT_17, sT_18, sT_19, sT_20, sT_21, sT_22, sT_23, sT_24, sT_25, sT_26, sT_27, sT_28, sT_29, sT_30, sT_31, sT_32, sT_33, sT_34, sT_35, sT_36, sT_37, sT_38, sT_39, sT_40, sT_41, sT_42, sT_43, sT_44, sT_45, sT_46, sT_47, sT_48, sT_49, sT_50, sT_51, sT_52, sT_53, sT_54, sT_55, sT_56, sT_57, sT_58, sT_59, sT_60, sT_61, sT_62, sT_63, sT_64, sT_65, sT_66, sT_67, sT_68, sT_69, sT_70, sT_71, sT_72, sT_73, sT_74, sT_75, sT_76, sT_77, sT_78, sT_79, sT_80, sN_1, sN_2, sN_19, sN_21, sN_23, sN_24, sN_26, sN_29, sN_31, sN_33, sN_35, sN_36, sN_37, sN_39, sN_40, sN_42, sN_44, sN_45, sN_46, sN_48, sN_49, sN_50, sN_51, sN_52, sN_53, sN_54, sN_55, sN_56, sN_57, sN_58, sN_59, sN_60, sN_61, sN_62, sN_63, sN_64, sN_65, sN_66, sN_67, sN_68, sN_69, sN_70, sN_71, sN_72, sN_73, sN_74, sN_75, sN_76, sN_77, sN_78, sN_79, sN_80, sR_0_34, sR_0_38, sR_1_34, sR_1_38, sR_64_20, sR_64_22, sR_128_25, sR_128_28, sR_194_17, sR_195_17, sR_196_17, sR_197_17, sR_258_30, sR_258_32, sR_258_41, sR_384_43, sR_448_18, sR_512_27, sR_513_27, sR_514_27, sR_515_27, sR_516_27, sR_576_16, sR_577_16, sR_578_16, sR_579_16, sR_580_16, sR_581_16, sR_582_16, sR_583_16, sR_584_16, sR_641_47, sR_643_47, sR_645_47, sR_646_47, sR_647_47, sR_648_47, sR_649_47, sR_650_47, sR_651_47, sR_652_47, sR_653_47, sR_654_47, sR_655_47, sR_656_47, sR_657_47, sR_658_47, sR_659_47, sR_661_47, sR_662_47, sR_663_47, sR_664_47, sR_665_47, sR_669_47, sR_670_47, sR_671_47, sR_672_47, sR_673_47, sR_674_47, sR_676_47, sR_677_47, sR_679_47, sR_680_47, sR_681_47, SH_I, SH_A, SH_G, SH_C, hS1, Option.getD_some, ne_eq, reduceCtorEq, not_false_eq_true, not_true_eq_false, Option.bind_some, Option.toList_none, Option.toList_some, List.nil_append, List.cons_append, List.append_nil, ↓reduceIte, and_self, true_and, and_true, false_and, and_false, or_true, true_or, or_false, false_or, Nat.reduceEqDiff, Nat.reduceAdd, Int32.reduceMul, Int32.reduceAdd, Int32.reduceSub, Int32.reduceToNatClampNeg, Int32.reduceOfNat, Int32.reduceLT, Int32.reduceLE, va_rf]
      | some s2 =>
        rw [hg2] at cr
        obtain ⟨σ2, e2, f3, f4⟩ := cr
        obtain ⟨b1, b2, b3⟩ := sRegs_ok _ _ _ _ a2 (Nat.le_refl _) hg2
        obtain ⟨hS2, hQ2, hT2⟩ := rdS (l := []) f3 hS1 hQ1 hT1
        have cu := c39 (d := d + 2) hS2 hQ2 hT2 f4 b2 hm hk (b3.trans hk0)
        rw [Option.bind_some]
        cases hg3 : sNum len b m W k s2 with
        | none =>
          rw [hg3] at cu
          obtain ⟨σ3, e3, f5, f6⟩ := cu
          refine ⟨σ3, ?_, up ((f1.trans f3).trans f5), f6, fun g _ => (((f1.trans f3).trans f5).2 q nq).1 g⟩
          simp (decide := true) only [e1, e2, e3, k26_27, k26_30, k26_34, k26_37, k26_41, k26_44, sT_1, sT_2, sT_3, sT_16, sT_17, sT_18, sT_19, sT_20, sT_21, sT_22, sT_23, sT_24, sT_25, sT_26, sT_27, sT_28, sT_29, sT_30, sT_31, sT_32, sT_33, sT_34, sT_35, sT_36, sT_37, sT_38, sT_39, sT_40, sT_41, sT_42, sT_43, sT_44, sT_45, sT_46, sT_47, sT_48, sT_49, sT_50, sT_51, sT_52, sT_53, sT_54, sT_55, sT_56, sT_57, sT_58, sT_59, sT_60, sT_61, sT_62, sT_63, sT_64, sT_65, sT_66, sT_67, sT_68, sT_69, sT_70, sT_71, sT_72, sT_73, sT_74, sT_75, sT_76, sT_77, sT_78, sT_79, sT_80, sN_1, sN_2, sN_19, sN_21, sN_23, sN_24, sN_26, sN_29, sN_31, sN_33, sN_35, sN_36, sN_37, sN_39, sN_40, sN_42, sN_44, sN_45, sN_46, sN_48, sN_49, sN_50, sN_51, sN_52, sN_53, sN_54, sN_55, sN_56, sN_57, sN_58, sN_59, sN_60, sN_61, sN_62, sN_63, sN_64, sN_65, sN_66, sN_67, sN_68, sN_69, sN_70, sN_71, sN_72, sN_73, sN_74, sN_75, sN_76, sN_77, sN_78, sN_79, sN_80, sR_0_34, sR_0_38, sR_1_34, sR_1_38, sR_64_20, sR_64_22, sR_128_25, sR_128_28, sR_194_17, sR_195_17, sR_196_17, sR_197_17, sR_258_30, sR_258_32, sR_258_41, sR_384_43, sR_448_18, sR_512_27, sR_513_27, sR_514_27, sR_515_27, sR_516_27, sR_576_16, sR_577_16, sR_578_16, sR_579_16, sR_580_16, sR_581_16, sR_582_16, sR_583_16, sR_584_16, sR_641_47, sR_643_47, sR_645_47, sR_646_47, sR_647_47, sR_648_47, sR_649_47, sR_650_47, sR_651_47, sR_652_47, sR_653_47, sR_654_47, sR_655_47, sR_656_47, sR_657_47, sR_658_47, sR_659_47, sR_661_47, sR_662_47, sR_663_47, sR_664_47, sR_665_47, sR_669_47, sR_670_47, sR_671_47, sR_672_47, sR_673_47, sR_674_47, sR_676_47, sR_677_47, sR_679_47, sR_680_47, sR_681_47, SH_I, SH_A, SH_G, SH_C, hS1, hS2, Option.getD_some, ne_eq, reduceCtorEq, not_false_eq_true, not_true_eq_false, Option.bind_some, Option.toList_none, Option.toList_some, List.nil_append, List.cons_append, List.append_nil, ↓reduceIte, and_self, true_and, and_true, false_and, and_false, or_true, true_or, or_false, false_or, Nat.reduceEqDiff, Nat.reduceAdd, Int32.reduceMul, Int32.reduceAdd, Int32.reduceSub, Int32.reduceToNatClampNeg, Int32.reduceOfNat, Int32.reduceLT, Int32.reduceLE, va_rf]
        | some s3 =>
          rw [hg3] at cu
          obtain ⟨σ3, e3, f5, f6⟩ := cu
          obtain ⟨d1, d2, d3⟩ := sNum_ok b2 hg3
          obtain ⟨hS3, hQ3, hT3⟩ := rdS (l := []) f5 hS2 hQ2 hT2
          have F3 := (f1.trans f3).trans f5
          have W3 := W0.frame F3 nq
          have ca := c47 (d := d + 4) hS3 W3 hnm
          -- behind the order
          have F4 : FR [q, a] σ3 (jsI (jcp σ3 24 0 a (6 * n) 6) 257 q (nI (n + 1))) := ((FR.refl _ _).C (by simp)).I (by simp)
          have hS4 := F4.sh hS3
          have hT4 : TX (jsI (jcp σ3 24 0 a (6 * n) 6) 257 q (nI (n + 1))) len b := F4.tx (by simp only [List.mem_cons, List.not_mem_nil, or_false, not_or] at hq ha ⊢; omega) (by simp only [List.mem_cons, List.not_mem_nil, or_false, not_or] at hq ha ⊢; omega) hT3
          have hQ4 : ST (jsI (jcp σ3 24 0 a (6 * n) 6) 257 q (nI (n + 1))) := F4.st (by simp only [List.mem_cons, List.not_mem_nil, or_false, not_or] at hq ha ⊢; omega) (by simp only [List.mem_cons, List.not_mem_nil, or_false, not_or] at hq ha ⊢; omega) hQ3
          have R4 := f6.frame F4 dq
          have A4 : ∀ j, j < 6 → jA (jsI (jcp σ3 24 0 a (6 * n) 6) 257 q (nI (n + 1))) a (6 * n + j) = s3.2.2.2 j := by
            intro j hj
            rw [zI_A, zC_A, if_pos rfl]
            unfold va_cpy
            rw [if_pos (by omega), show 0 + (6 * n + j - 6 * n) = j by omega]
            exact f6.2.2.2.2.2.1 j hj
          have B4 : ∀ i, i < 6 * n → jA (jsI (jcp σ3 24 0 a (6 * n) 6) 257 q (nI (n + 1))) a i = jA σ3 a i := by
            intro i hi
            rw [zI_A, zC_A, if_pos rfl]
            unfold va_cpy
            rw [if_neg (by omega)]
          have I4 : jI (jsI (jcp σ3 24 0 a (6 * n) 6) 257 q (nI (n + 1))) 257 q = nI (n + 1) := by rw [zI_I, if_pos ⟨rfl, rfl⟩]
          have J4 : ∀ g, g ≠ 257 → jI (jsI (jcp σ3 24 0 a (6 * n) 6) 257 q (nI (n + 1))) g q = jI σ3 g q := by
            intro g hg
            rw [zI_I, if_neg (fun z => hg z.1), zC_I]
          generalize jsI (jcp σ3 24 0 a (6 * n) 6) 257 q (nI (n + 1)) = σ4 at ca F4 hS4 hT4 hQ4 R4 A4 B4 I4 J4
          have cs := c24 (d := d + 4) hS4 hT4 d2 R4.1
          have R5 := R4.at (sk len b s3.1)
          have F5 : FR rdl σ4 (jsI σ4 198 17 (nI (sk len b s3.1))) := (FR.refl _ _).I (by decide)
          obtain ⟨hS5, hQ5, hT5⟩ := rdS (l := []) F5 hS4 hQ4 hT4
          generalize jsI σ4 198 17 (nI (sk len b s3.1)) = σ5 at cs R5 F5 hS5 hQ5 hT5
          obtain ⟨p1, p2⟩ := sk_le (b := b) d2
          have cc := c48 (d := d + 4) hS5 hT5 R5 p2 hm
          have pre : ((jx (d + 5) 27 0 [some (.ref 17), some (.int (if (n == most) = true then 1 else 0)), none, none, none] [] σ).bind (fun z => jx (d + 6) 26 27 [some (.ref 17), some (.ref q), some (.int (nI n))] (z.1.toList ++ []) z.2)) = (jx (d + 5) 48 0 [some (.ref 17), none] [] σ5).bind (fun z => jx (d + 6) 26 62 [some (.ref 17), some (.ref q), some (.int (nI n))] (z.1.toList ++ []) z.2) := by
            simp (decide := true) only [e1, e2, e3, k26_27, k26_30, k26_34, k26_37, k26_41, k26_46, k26_54, k26_58, sT_1, sT_2, sT_3, sT_16, sT_17, sT_18, sT_19, sT_20, sT_21, sT_22, sT_23, sT_24, sT_25, sT_26, sT_27, sT_28, sT_29, sT_30, sT_31, sT_32, sT_33, sT_34, sT_35, sT_36, sT_37, sT_38, sT_39, sT_40, sT_41, sT_42, sT_43, sT_44, sT_45, sT_46, sT_47, sT_48, sT_49, sT_50, sT_51, sT_52, sT_53, sT_54, sT_55, sT_56, sT_57, sT_58, sT_59, sT_60, sT_61, sT_62, sT_63, sT_64, sT_65, sT_66, sT_67, sT_68, sT_69, sT_70, sT_71, sT_72, sT_73, sT_74, sT_75, sT_76, sT_77, sT_78, sT_79, sT_80, sN_1, sN_2, sN_19, sN_21, sN_23, sN_24, sN_26, sN_29, sN_31, sN_33, sN_35, sN_36, sN_37, sN_39, sN_40, sN_42, sN_44, sN_45, sN_46, sN_48, sN_49, sN_50, sN_51, sN_52, sN_53, sN_54, sN_55, sN_56, sN_57, sN_58, sN_59, sN_60, sN_61, sN_62, sN_63, sN_64, sN_65, sN_66, sN_67, sN_68, sN_69, sN_70, sN_71, sN_72, sN_73, sN_74, sN_75, sN_76, sN_77, sN_78, sN_79, sN_80, sR_0_34, sR_0_38, sR_1_34, sR_1_38, sR_64_20, sR_64_22, sR_128_25, sR_128_28, sR_194_17, sR_195_17, sR_196_17, sR_197_17, sR_258_30, sR_258_32, sR_258_41, sR_384_43, sR_448_18, sR_512_27, sR_513_27, sR_514_27, sR_515_27, sR_516_27, sR_576_16, sR_577_16, sR_578_16, sR_579_16, sR_580_16, sR_581_16, sR_582_16, sR_583_16, sR_584_16, sR_641_47, sR_643_47, sR_645_47, sR_646_47, sR_647_47, sR_648_47, sR_649_47, sR_650_47, sR_651_47, sR_652_47, sR_653_47, sR_654_47, sR_655_47, sR_656_47, sR_657_47, sR_658_47, sR_659_47, sR_661_47, sR_662_47, sR_663_47, sR_664_47, sR_665_47, sR_669_47, sR_670_47, sR_671_47, sR_672_47, sR_673_47, sR_674_47, sR_676_47, sR_677_47, sR_679_47, sR_680_47, sR_681_47, SH_I, SH_A, SH_G, SH_C, hS1, hS2, hS3, hS4, hS5, W3.1, ca, cs, Option.getD_some, ne_eq, reduceCtorEq, not_false_eq_true, not_true_eq_false, Option.bind_some, Option.toList_none, Option.toList_some, List.nil_append, List.cons_append, List.append_nil, ↓reduceIte, and_self, true_and, and_true, false_and, and_false, or_true, true_or, or_false, false_or, Nat.reduceEqDiff, Nat.reduceAdd, Int32.reduceMul, Int32.reduceAdd, Int32.reduceSub, Int32.reduceToNatClampNeg, Int32.reduceOfNat, Int32.reduceLT, Int32.reduceLE, va_rf]
          rw [pre, cc]
          have FA : FR (q :: a :: rdl) σ σ5 := ((up F3).trans (F4.mono (fun x hx => by simp only [List.mem_cons, List.not_mem_nil, or_false] at hx ⊢; omega))).trans (up F5)
          have LA : ∀ g, g ≠ 257 → jI σ5 g q = jI σ g q := fun g hg => by rw [(F5.2 q nq).1, J4 g hg, (F3.2 q nq).1]
          have BA : ∀ i, i < 6 * n → jA σ5 a i = jA σ a i := fun i hi => by rw [(F5.2 a na).2, B4 i hi, (F3.2 a na).2]
          have CA : ∀ j, j < 6 → jA σ5 a (6 * n + j) = s3.2.2.2 j := fun j hj => by rw [(F5.2 a na).2]; exact A4 j hj
          have NA : jI σ5 257 q = nI (n + 1) := by rw [(F5.2 q nq).1]; exact I4
          rw [Option.bind_some]
          have fin : ∀ (σ6 : jS) (p : Nat), FR rdl σ5 σ6 → RD m W (p, s3.2) σ6 → RESO m W q a n σ (some (some (.int 1), σ6)) (some ([s3.2.2.2], (p, s3.2))) := by
            intro σ6 p F6 R6
            refine ⟨σ6, rfl, FA.trans (up F6), R6, by rw [(F6.2 q nq).1]; exact NA, fun g hg => by rw [(F6.2 q nq).1]; exact LA g hg, fun i hi => by rw [(F6.2 a na).2]; exact BA i hi, fun i j hi hj => ?_⟩
            have hi0 : i = 0 := by simp at hi; omega
            subst hi0
            rw [(F6.2 a na).2]
            exact CA j hj
          have stop : sClose len b m (sk len b s3.1) = none → RESO m W q a n σ (jx (d + 6) 26 67 [some (.ref 17), some (.ref q), some (.int (nI n))] [] σ5) (if tv len b (sk len b s3.1) = 59 then (sOrds len b m W most f (n + 1) (sk len b (sk len b s3.1 + 1), s3.2)).map (fun z => (s3.2.2.2 :: z.1, z.2)) else none) := by
            intro hcl
            have c9 := c25 (d := d + 5) hS5 hT5 (p := sk len b s3.1) (by omega)
            have ra5 := R5.1
            have ra5 : jI σ5 198 17 = nI (sk len b s3.1) := ra5
            by_cases h59 : tv len b (sk len b s3.1) = 59
            · rw [if_pos h59]
              have hlt := tv_lit h59 (by decide)
              have R6 := R5.at (sk len b s3.1 + 1)
              have F6 : FR rdl σ5 (jsI σ5 198 17 (nI (sk len b s3.1 + 1))) := (FR.refl _ _).I (by decide)
              obtain ⟨hS6, hQ6, hT6⟩ := rdS (l := []) F6 hS5 hQ5 hT5
              have cs6 := c24 (d := d + 4) hS6 hT6 (p := sk len b s3.1 + 1) (by omega) R6.1
              rw [jsI_jsI] at cs6
              have R7 := R5.at (sk len b (sk len b s3.1 + 1))
              have F7 : FR rdl σ5 (jsI σ5 198 17 (nI (sk len b (sk len b s3.1 + 1)))) := (FR.refl _ _).I (by decide)
              obtain ⟨hS7, hQ7, hT7⟩ := rdS (l := []) F7 hS5 hQ5 hT5
              obtain ⟨p3, p4⟩ := sk_le (len := len) (b := b) (p := sk len b s3.1 + 1) (by omega)
              have W7 : RW (jsI σ5 198 17 (nI (sk len b (sk len b s3.1 + 1)))) q a most (n + 1) := by
                obtain ⟨w1, w2, w3, w4, w5, w6, w7, w8⟩ := W0
                have K := FA.1
                refine ⟨by rw [zI_T, K.1]; exact w1, by rw [zI_R, K.2.2.1]; exact w2, by rw [zI_T, K.1]; exact w3, by rw [zI_N, K.2.1]; exact w4, by rw [(F7.2 q nq).1, LA 256 (by decide)]; exact w5, by rw [(F7.2 q nq).1]; exact NA, by omega, w8⟩
              have e9 := ih (n + 1) _ (sk len b (sk len b s3.1 + 1), s3.2) (by omega) (by omega) hS7 hQ7 hT7 R7 p4 (fun _ => W7) (by omega)
              have go : jx (d + 6) 26 67 [some (.ref 17), some (.ref q), some (.int (nI n))] [] σ5 = jx (d + 6) 26 2 [some (.ref 17), some (.ref q), some (.int (nI (n + 1)))] [] (jsI σ5 198 17 (nI (sk len b (sk len b s3.1 + 1)))) := by
                rw [nI_succ (sk len b s3.1)] at cs6
                simp (decide := true) only [k26_67, k26_78, k26_89, k26_103, sT_1, sT_2, sT_3, sT_16, sT_17, sT_18, sT_19, sT_20, sT_21, sT_22, sT_23, sT_24, sT_25, sT_26, sT_27, sT_28, sT_29, sT_30, sT_31, sT_32, sT_33, sT_34, sT_35, sT_36, sT_37, sT_38, sT_39, sT_40, sT_41, sT_42, sT_43, sT_44, sT_45, sT_46, sT_47, sT_48, sT_49, sT_50, sT_51, sT_52, sT_53, sT_54, sT_55, sT_56, sT_57, sT_58, sT_59, sT_60, sT_61, sT_62, sT_63, sT_64, sT_65, sT_66, sT_67, sT_68, sT_69, sT_70, sT_71, sT_72, sT_73, sT_74, sT_75, sT_76, sT_77, sT_78, sT_79, sT_80, sN_1, sN_2, sN_19, sN_21, sN_23, sN_24, sN_26, sN_29, sN_31, sN_33, sN_35, sN_36, sN_37, sN_39, sN_40, sN_42, sN_44, sN_45, sN_46, sN_48, sN_49, sN_50, sN_51, sN_52, sN_53, sN_54, sN_55, sN_56, sN_57, sN_58, sN_59, sN_60, sN_61, sN_62, sN_63, sN_64, sN_65, sN_66, sN_67, sN_68, sN_69, sN_70, sN_71, sN_72, sN_73, sN_74, sN_75, sN_76, sN_77, sN_78, sN_79, sN_80, sR_0_34, sR_0_38, sR_1_34, sR_1_38, sR_64_20, sR_64_22, sR_128_25, sR_128_28, sR_194_17, sR_195_17, sR_196_17, sR_197_17, sR_258_30, sR_258_32, sR_258_41, sR_384_43, sR_448_18, sR_512_27, sR_513_27, sR_514_27, sR_515_27, sR_516_27, sR_576_16, sR_577_16, sR_578_16, sR_579_16, sR_580_16, sR_581_16, sR_582_16, sR_583_16, sR_584_16, sR_641_47, sR_643_47, sR_645_47, sR_646_47, sR_647_47, sR_648_47, sR_649_47, sR_650_47, sR_651_47, sR_652_47, sR_653_47, sR_654_47, sR_655_47, sR_656_47, sR_657_47, sR_658_47, sR_659_47, sR_661_47, sR_662_47, sR_663_47, sR_664_47, sR_665_47, sR_669_47, sR_670_47, sR_671_47, sR_672_47, sR_673_47, sR_674_47, sR_676_47, sR_677_47, sR_679_47, sR_680_47, sR_681_47, SH_I, SH_A, SH_G, SH_C, hS5, ra5, c9, h59, cs6, nI_succ, Option.getD_some, ne_eq, reduceCtorEq, not_false_eq_true, not_true_eq_false, Option.bind_some, Option.toList_none, Option.toList_some, List.nil_append, List.cons_append, List.append_nil, ↓reduceIte, and_self, true_and, and_true, false_and, and_false, or_true, true_or, or_false, false_or, Nat.reduceEqDiff, Nat.reduceAdd, Int32.reduceMul, Int32.reduceAdd, Int32.reduceSub, Int32.reduceToNatClampNeg, Int32.reduceOfNat, Int32.reduceLT, Int32.reduceLE, va_rf]
              rw [go]
              generalize jsI σ5 198 17 (nI (sk len b (sk len b s3.1 + 1))) = σ7 at e9 F7
              cases hg9 : sOrds len b m W most f (n + 1) (sk len b (sk len b s3.1 + 1), s3.2) with
              | none =>
                rw [hg9] at e9
                obtain ⟨σ8, e8, f8, f9, f10⟩ := e9
                exact ⟨σ8, e8, (FA.trans (up F7)).trans f8, f9, fun g hg => by rw [f10 g hg, (F7.2 q nq).1]; exact LA g hg⟩
              | some z =>
                obtain ⟨os, s9⟩ := z
                rw [hg9] at e9
                obtain ⟨σ8, e8, f8, f9, f10, f11, f12, f13⟩ := e9
                refine ⟨σ8, e8, (FA.trans (up F7)).trans f8, f9, ?_, fun g hg => by rw [f11 g hg, (F7.2 q nq).1]; exact LA g hg, fun i hi => by rw [f12 i (by omega), (F7.2 a na).2]; exact BA i hi, fun i j hi hj => ?_⟩
                · rw [f10]; congr 1; show n + 1 + os.length = n + (os.length + 1); omega
                · cases i with
                  | zero =>
                    show jA σ8 a (6 * (n + 0) + j) = s3.2.2.2 j
                    rw [Nat.add_zero, f12 _ (by omega), (F7.2 a na).2]
                    exact CA j hj
                  | succ i =>
                    have hi2 : i < os.length := by simp at hi; exact hi
                    have q9 := f13 i j hi2 hj
                    rw [show n + (i + 1) = n + 1 + i by omega, q9]
                    rfl
            · rw [if_neg h59]
              obtain ⟨σ8, e8, f8, f9⟩ := c32 (d := d + 5) hS5 (k := 1) (by decide)
              refine ⟨σ8, ?_, FA.trans (up f8), f9, fun g hg => by rw [(f8.2 q nq).1]; exact LA g hg⟩
              simp (decide := true) only [k26_67, k26_78, k26_83, k26_88, sT_1, sT_2, sT_3, sT_16, sT_17, sT_18, sT_19, sT_20, sT_21, sT_22, sT_23, sT_24, sT_25, sT_26, sT_27, sT_28, sT_29, sT_30, sT_31, sT_32, sT_33, sT_34, sT_35, sT_36, sT_37, sT_38, sT_39, sT_40, sT_41, sT_42, sT_43, sT_44, sT_45, sT_46, sT_47, sT_48, sT_49, sT_50, sT_51, sT_52, sT_53, sT_54, sT_55, sT_56, sT_57, sT_58, sT_59, sT_60, sT_61, sT_62, sT_63, sT_64, sT_65, sT_66, sT_67, sT_68, sT_69, sT_70, sT_71, sT_72, sT_73, sT_74, sT_75, sT_76, sT_77, sT_78, sT_79, sT_80, sN_1, sN_2, sN_19, sN_21, sN_23, sN_24, sN_26, sN_29, sN_31, sN_33, sN_35, sN_36, sN_37, sN_39, sN_40, sN_42, sN_44, sN_45, sN_46, sN_48, sN_49, sN_50, sN_51, sN_52, sN_53, sN_54, sN_55, sN_56, sN_57, sN_58, sN_59, sN_60, sN_61, sN_62, sN_63, sN_64, sN_65, sN_66, sN_67, sN_68, sN_69, sN_70, sN_71, sN_72, sN_73, sN_74, sN_75, sN_76, sN_77, sN_78, sN_79, sN_80, sR_0_34, sR_0_38, sR_1_34, sR_1_38, sR_64_20, sR_64_22, sR_128_25, sR_128_28, sR_194_17, sR_195_17, sR_196_17, sR_197_17, sR_258_30, sR_258_32, sR_258_41, sR_384_43, sR_448_18, sR_512_27, sR_513_27, sR_514_27, sR_515_27, sR_516_27, sR_576_16, sR_577_16, sR_578_16, sR_579_16, sR_580_16, sR_581_16, sR_582_16, sR_583_16, sR_584_16, sR_641_47, sR_643_47, sR_645_47, sR_646_47, sR_647_47, sR_648_47, sR_649_47, sR_650_47, sR_651_47, sR_652_47, sR_653_47, sR_654_47, sR_655_47, sR_656_47, sR_657_47, sR_658_47, sR_659_47, sR_661_47, sR_662_47, sR_663_47, sR_664_47, sR_665_47, sR_669_47, sR_670_47, sR_671_47, sR_672_47, sR_673_47, sR_674_47, sR_676_47, sR_677_47, sR_679_47, sR_680_47, sR_681_47, SH_I, SH_A, SH_G, SH_C, hS5, ra5, c9, h59, e8, Option.getD_some, ne_eq, reduceCtorEq, not_false_eq_true, not_true_eq_false, Option.bind_some, Option.toList_none, Option.toList_some, List.nil_append, List.cons_append, List.append_nil, ↓reduceIte, and_self, true_and, and_true, false_and, and_false, or_true, true_or, or_false, false_or, Nat.reduceEqDiff, Nat.reduceAdd, Int32.reduceMul, Int32.reduceAdd, Int32.reduceSub, Int32.reduceToNatClampNeg, Int32.reduceOfNat, Int32.reduceLT, Int32.reduceLE, va_rf]
          by_cases hm1 : m = 1
          · by_cases hcl : tv len b (sk len b s3.1) = 61 ∧ tv len b (sk len b s3.1 + 1) = 62
            · have hcs : sClose len b m (sk len b s3.1) = some (sk len b s3.1 + 2) := by unfold sClose; rw [if_pos hm1, if_pos hcl]
              rw [hcs, if_pos hm1, if_pos hcl]
              simp (decide := true) only [Option.bind_some, Option.toList_some, List.cons_append, List.nil_append, k26_62, k26_65, ↓reduceIte]
              exact fin _ _ ((FR.refl _ _).I (by decide)) (R5.at _)
            · have hcs : sClose len b m (sk len b s3.1) = none := by unfold sClose; rw [if_pos hm1, if_neg hcl]
              rw [hcs, if_pos hm1, if_neg hcl]
              simp (decide := true) only [Option.bind_some, Option.toList_some, List.cons_append, List.nil_append, k26_62, ↓reduceIte]
              exact stop hcs
          · by_cases hcl : len ≤ sk len b s3.1
            · have hcs : sClose len b m (sk len b s3.1) = some (sk len b s3.1) := by unfold sClose; rw [if_neg hm1, if_pos hcl]
              rw [hcs, if_neg hm1, if_pos hcl]
              simp (decide := true) only [Option.bind_some, Option.toList_some, List.cons_append, List.nil_append, k26_62, k26_65, ↓reduceIte]
              exact fin _ _ (FR.refl _ _) R5
            · have hcs : sClose len b m (sk len b s3.1) = none := by unfold sClose; rw [if_neg hm1, if_neg hcl]
              rw [hcs, if_neg hm1, if_neg hcl]
              simp (decide := true) only [Option.bind_some, Option.toList_some, List.cons_append, List.nil_append, k26_62, ↓reduceIte]
              exact stop hcs
end RD7
