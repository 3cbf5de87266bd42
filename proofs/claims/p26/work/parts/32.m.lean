section S_32
/-! the class's reader: orders in a row; a text's beginning -/
def sClose (len : Nat) (b : Nat → Int32) (m p : Nat) : Option Nat := if m = 1 then (if tv len b p = 61 ∧ tv len b (p + 1) = 62 then some (p + 2) else none) else (if len ≤ p then some p else none)
def sOrds (len : Nat) (b : Nat → Int32) (m W most : Nat) : Nat → Nat → jPS → Option (List (Nat → Int32) × jPS)
  | 0, _, _ => none
  | f + 1, n, s => (sName len b (n == most) s).bind (fun s1 => (sRegs len b m (regN (s1.2.2.2 0).toNatClampNeg) 1 s1).bind (fun s2 => (sNum len b m W (s1.2.2.2 0).toNatClampNeg s2).bind (fun s3 =>
      match sClose len b m (sk len b s3.1) with
      | some p => some ([s3.2.2.2], (p, s3.2))
      | none => if tv len b (sk len b s3.1) = 59 then (sOrds len b m W most f (n + 1) (sk len b (sk len b s3.1 + 1), s3.2)).map (fun z => (s3.2.2.2 :: z.1, z.2)) else none)))
theorem sNum_ok {len m W k : Nat} {b : Nat → Int32} {s s' : jPS} (hp : s.1 ≤ len) (h : sNum len b m W k s = some s') : s.1 ≤ s'.1 ∧ s'.1 ≤ len ∧ s'.2.2.2 0 = s.2.2.2 0 := by
  unfold sNum at h
  by_cases hn : numN k = true
  · rw [if_pos hn] at h
    obtain ⟨s1, h1, h⟩ := Option.bind_eq_some_iff.mp h
    obtain ⟨s2, h2, h⟩ := Option.bind_eq_some_iff.mp h
    obtain ⟨a1, a2, a3⟩ := sGap_ok h1
    obtain ⟨b1, b2, b3⟩ := sTerm_ok h2
    have e0 : s2.2.2.2 0 = s.2.2.2 0 := by rw [b3 0 (by decide), a3]
    by_cases hs : m = 2 ∧ isSg (tv len b s2.1)
    · rw [if_pos hs] at h
      obtain ⟨q1, q2, q3⟩ := sTerm_ok h
      have q1 : s2.1 + 1 < s'.1 := q1
      refine ⟨by omega, q2, ?_⟩
      rw [q3 0 (by decide)]
      exact e0
    · rw [if_neg hs] at h
      by_cases hg : 16 ≤ s2.2.2.2 2
      · rw [if_pos hg] at h; cases h; exact ⟨by omega, b2, e0⟩
      · rw [if_neg hg] at h
        cases h
        refine ⟨by show s.1 ≤ s2.1; omega, b2, ?_⟩
        exact e0
  · rw [if_neg hn] at h
    cases h
    exact ⟨Nat.le_refl _, hp, rfl⟩
def RESO (m W : Nat) (q a n : Nat) (σ : jS) (r : jr) (o : Option (List (Nat → Int32) × jPS)) : Prop := match o with
  | some (os, s) => ∃ σ', r = some (some (.int 1), σ') ∧ FR (q :: a :: rdl) σ σ' ∧ RD m W s σ' ∧ jI σ' 257 q = nI (n + os.length) ∧ (∀ g, g ≠ 257 → jI σ' g q = jI σ g q) ∧ (∀ i, i < 6 * n → jA σ' a i = jA σ a i) ∧ (∀ i j, i < os.length → j < 6 → jA σ' a (6 * (n + i) + j) = (os.getD i (fun _ => 0)) j)
  | none => ∃ σ', r = some (some (.int 0), σ') ∧ FR (q :: a :: rdl) σ σ' ∧ ¬ jI σ' 192 17 = 0 ∧ (∀ g, g ≠ 257 → jI σ' g q = jI σ g q)
section RD7
variable {d : Nat} {len m W : Nat} {b : Nat → Int32}
theorem RD.frame {m W : Nat} {s : jPS} {l : List Nat} {σ σ' : jS} (h : RD m W s σ) (hF : FR l σ σ') (hl : ∀ x, x ∈ rdl → x ∉ l) : RD m W s σ' := by
  obtain ⟨h1, h2, h3, h4, h5, h6, h7⟩ := h
  have k := fun x (hx : x ∈ rdl) => hF.2 x (hl x hx)
  exact ⟨by rw [(k 17 (by decide)).1]; exact h1, by rw [(k 17 (by decide)).1]; exact h2, by rw [(k 17 (by decide)).1]; exact h3, ⟨by rw [(k 20 (by decide)).1]; exact h4.1, fun l hl => by rw [(k 21 (by decide)).2]; exact h4.2.1 l hl, h4.2.2⟩, ⟨by rw [(k 22 (by decide)).1]; exact h5.1, fun l hl => by rw [(k 23 (by decide)).2]; exact h5.2.1 l hl, h5.2.2⟩, fun j hj => by rw [(k 24 (by decide)).2]; exact h6 j hj, by rw [(k 17 (by decide)).1]; exact h7⟩
theorem RW.frame {σ σ' : jS} {l : List Nat} {q a m n : Nat} (h : RW σ q a m n) (hF : FR l σ σ') (hq : q ∉ l) : RW σ' q a m n := by
  obtain ⟨h1, h2, h3, h4, h5, h6, h7⟩ := h
  exact ⟨by rw [hF.1.1]; exact h1, by rw [hF.1.2.2.1]; exact h2, by rw [hF.1.1]; exact h3, by rw [hF.1.2.1]; exact h4, by rw [(hF.2 q hq).1]; exact h5, by rw [(hF.2 q hq).1]; exact h6, h7⟩
theorem c26 {q a most : Nat} (hqa : q ≠ a) (hq : q ∉ [1, 2, 17, 18, 19, 20, 21, 22, 23, 24]) (ha : a ∉ [1, 2, 17, 18, 19, 20, 21, 22, 23, 24]) (hm : m = 0 ∨ m = 1 ∨ m = 2) (hmost : most ≤ 24) : ∀ (f n : Nat) (σ : jS) (s : jPS), most + 1 - n = f → n ≤ most + 1 → SH σ → ST σ → TX σ len b → RD m W s σ → s.1 ≤ len → (n ≤ most → RW σ q a most n) →
    (n ≤ most → RESO m W q a n σ (jx (d + 6) 26 2 [some (.ref 17), some (.ref q), some (.int (nI n))] [] σ) (sOrds len b m W most f n s)) := by
  intro f
  induction f with
  | zero => intro n σ s hf hn hS hQ hT hR hp hW hn2; omega
  | succ f ih =>
    intro n σ s hf hn hS hQ hT hR hp hW hn2
    have hl : len ≤ 400 := hT.2.1
    have W0 := hW hn2
    have hq5 := W0.1
    have hmo := W0.2.2.2.2.1
    have r17 : (17 : Nat) ∉ q :: a :: [] := by simp at hq ha ⊢; omega
    have dq : ∀ x, x ∈ rdl → x ∉ [q, a] := by
      intro x hx hc
      simp only [List.mem_cons, List.not_mem_nil, or_false] at hc
      rcases hc with rfl | rfl
      · exact hq (by simp only [rdl, List.mem_cons, List.not_mem_nil, or_false] at hx ⊢; omega)
      · exact ha (by simp only [rdl, List.mem_cons, List.not_mem_nil, or_false] at hx ⊢; omega)
    have nq : q ∉ rdl := fun z => dq q z (by simp)
    have na : a ∉ rdl := fun z => dq a z (by simp)
    have nq1 : 1 ∉ q :: a :: rdl ∧ 2 ∉ q :: a :: rdl ∧ 18 ∉ q :: a :: rdl ∧ 19 ∉ q :: a :: rdl := by
      simp only [rdl, List.mem_cons, List.not_mem_nil, or_false, not_or] at hq ha ⊢
      omega
    have up : ∀ {σ σ' : jS}, FR rdl σ σ' → FR (q :: a :: rdl) σ σ' := fun h => h.mono (fun x hx => by simp [hx])
    have g0 : ¬ nI most < nI n := nI_nlt hn2 (by omega)
    have st : jx (d + 6) 26 2 [some (.ref 17), some (.ref q), some (.int (nI n))] [] σ = (jx (d + 5) 27 0 [some (.ref 17), some (.int (if (n == most) = true then 1 else 0)), none, none, none] [] σ).bind (fun z => jx (d + 6) 26 27 [some (.ref 17), some (.ref q), some (.int (nI n))] (z.1.toList ++ []) z.2) := by
      rw [k26_2 hq5]
      by_cases he : n = most
      · subst he
        simp (decide := true) only [k26_10, k26_19, k26_23, sT_1, sT_2, sT_3, sT_16, sT_17, sT_18, sT_19, sT_20, sT_21, sT_22, sT_23, sT_24, sT_25, sT_26, sT_27, sT_28, sT_29, sT_30, sT_31, sT_32, sT_33, sT_34, sT_35, sT_36, sT_37, sT_38, sT_39, sT_40, sT_41, sT_42, sT_43, sT_44, sT_45, sT_46, sT_47, sT_48, sT_49, sT_50, sT_51, sT_52, sT_53, sT_54, sT_55, sT_56, sT_57, sT_58, sT_59, sT_60, sT_61, sT_62, sT_63, sT_64, sT_65, sT_66, sT_67, sT_68, sT_69, sT_70, sT_71, sT_72, sT_73, sT_74, sT_75, sT_76, sT_77, sT_78, sT_79, sT_80, sN_1, sN_2, sN_19, sN_21, sN_23, sN_24, sN_26, sN_29, sN_31, sN_33, sN_35, sN_36, sN_37, sN_39, sN_40, sN_42, sN_44, sN_45, sN_46, sN_48, sN_49, sN_50, sN_51, sN_52, sN_53, sN_54, sN_55, sN_56, sN_57, sN_58, sN_59, sN_60, sN_61, sN_62, sN_63, sN_64, sN_65, sN_66, sN_67, sN_68, sN_69, sN_70, sN_71, sN_72, sN_73, sN_74, sN_75, sN_76, sN_77, sN_78, sN_79, sN_80, sR_0_34, sR_0_38, sR_1_34, sR_1_38, sR_64_20, sR_64_22, sR_128_25, sR_128_28, sR_194_17, sR_195_17, sR_196_17, sR_197_17, sR_258_30, sR_258_32, sR_258_41, sR_384_43, sR_448_18, sR_512_27, sR_513_27, sR_514_27, sR_515_27, sR_516_27, sR_576_16, sR_577_16, sR_578_16, sR_579_16, sR_580_16, sR_581_16, sR_582_16, sR_583_16, sR_584_16, sR_641_47, sR_643_47, sR_645_47, sR_646_47, sR_647_47, sR_648_47, sR_649_47, sR_650_47, sR_651_47, sR_652_47, sR_653_47, sR_654_47, sR_655_47, sR_656_47, sR_657_47, sR_658_47, sR_659_47, sR_661_47, sR_662_47, sR_663_47, sR_664_47, sR_665_47, sR_669_47, sR_670_47, sR_671_47, sR_672_47, sR_673_47, sR_674_47, sR_676_47, sR_677_47, sR_679_47, sR_680_47, sR_681_47, SH_I, SH_A, SH_G, SH_C, hS, hq5, hmo, g0, beq_self_eq_true, Option.getD_some, ne_eq, reduceCtorEq, not_false_eq_true, not_true_eq_false, Option.bind_some, Option.toList_none, Option.toList_some, List.nil_append, List.cons_append, List.append_nil, ↓reduceIte, and_self, true_and, and_true, false_and, and_false, or_true, true_or, or_false, false_or, Nat.reduceEqDiff, Nat.reduceAdd, Int32.reduceMul, Int32.reduceAdd, Int32.reduceSub, Int32.reduceToNatClampNeg, Int32.reduceOfNat, Int32.reduceLT, Int32.reduceLE, va_rf]
      · have g1 : ¬ nI n = nI most := by rw [n31eq (by omega) (by omega)]; exact he
        have g2 : (n == most) = false := by simpa using he
        simp (decide := true) only [k26_10, k26_19, k26_23, sT_1, sT_2, sT_3, sT_16, sT_17, sT_18, sT_19, sT_20, sT_21, sT_22, sT_23, sT_24, sT_25, sT_26, sT_27, sT_28, sT_29, sT_30, sT_31, sT_32, sT_33, sT_34, sT_35, sT_36, sT_37, sT_38, sT_39, sT_40, sT_41, sT_42, sT_43, sT_44, sT_45, sT_46, sT_47, sT_48, sT_49, sT_50, sT_51, sT_52, sT_53, sT_54, sT_55, sT_56, sT_57, sT_58, sT_59, sT_60, sT_61, sT_62, sT_63, sT_64, sT_65, sT_66, sT_67, sT_68, sT_69, sT_70, sT_71, sT_72, sT_73, sT_74, sT_75, sT_76, sT_77, sT_78, sT_79, sT_80, sN_1, sN_2, sN_19, sN_21, sN_23, sN_24, sN_26, sN_29, sN_31, sN_33, sN_35, sN_36, sN_37, sN_39, sN_40, sN_42, sN_44, sN_45, sN_46, sN_48, sN_49, sN_50, sN_51, sN_52, sN_53, sN_54, sN_55, sN_56, sN_57, sN_58, sN_59, sN_60, sN_61, sN_62, sN_63, sN_64, sN_65, sN_66, sN_67, sN_68, sN_69, sN_70, sN_71, sN_72, sN_73, sN_74, sN_75, sN_76, sN_77, sN_78, sN_79, sN_80, sR_0_34, sR_0_38, sR_1_34, sR_1_38, sR_64_20, sR_64_22, sR_128_25, sR_128_28, sR_194_17, sR_195_17, sR_196_17, sR_197_17, sR_258_30, sR_258_32, sR_258_41, sR_384_43, sR_448_18, sR_512_27, sR_513_27, sR_514_27, sR_515_27, sR_516_27, sR_576_16, sR_577_16, sR_578_16, sR_579_16, sR_580_16, sR_581_16, sR_582_16, sR_583_16, sR_584_16, sR_641_47, sR_643_47, sR_645_47, sR_646_47, sR_647_47, sR_648_47, sR_649_47, sR_650_47, sR_651_47, sR_652_47, sR_653_47, sR_654_47, sR_655_47, sR_656_47, sR_657_47, sR_658_47, sR_659_47, sR_661_47, sR_662_47, sR_663_47, sR_664_47, sR_665_47, sR_669_47, sR_670_47, sR_671_47, sR_672_47, sR_673_47, sR_674_47, sR_676_47, sR_677_47, sR_679_47, sR_680_47, sR_681_47, SH_I, SH_A, SH_G, SH_C, hS, hq5, hmo, g0, g1, g2, Option.getD_some, ne_eq, reduceCtorEq, not_false_eq_true, not_true_eq_false, Option.bind_some, Option.toList_none, Option.toList_some, List.nil_append, List.cons_append, List.append_nil, ↓reduceIte, and_self, true_and, and_true, false_and, and_false, or_true, true_or, or_false, false_or, Nat.reduceEqDiff, Nat.reduceAdd, Int32.reduceMul, Int32.reduceAdd, Int32.reduceSub, Int32.reduceToNatClampNeg, Int32.reduceOfNat, Int32.reduceLT, Int32.reduceLE, va_rf]
    rw [st]
    have cn := c27 (d := d) hS hT hR hp (tm := n == most) rfl
    show RESO m W q a n σ _ ((sName len b (n == most) s).bind _)
    cases hg1 : sName len b (n == most) s with
    | none =>
      rw [hg1] at cn
      obtain ⟨σ1, e1, f1, f2⟩ := cn
      refine ⟨σ1, ?_, up f1, f2, fun g _ => (f1.2 q nq).1 g⟩
      simp (decide := true) only [e1, k26_27, k26_44, Option.getD_some, ne_eq, reduceCtorEq, not_false_eq_true, not_true_eq_false, Option.bind_some, Option.toList_none, Option.toList_some, List.nil_append, List.cons_append, List.append_nil, ↓reduceIte, and_self, true_and, and_true, false_and, and_false, or_true, true_or, or_false, false_or, Nat.reduceEqDiff, Nat.reduceAdd, Int32.reduceMul, Int32.reduceAdd, Int32.reduceSub, Int32.reduceToNatClampNeg, Int32.reduceOfNat, Int32.reduceLT, Int32.reduceLE, va_rf]
    | some s1 =>
      rw [hg1] at cn
      obtain ⟨σ1, e1, f1, f2⟩ := cn
      obtain ⟨a1, a2, a3, k, hk, a4, -, -, -, -, -⟩ := sName_ok hp hg1
      have hnm : n < most := by
        have : ¬ n = most := by simpa using a3
        omega
      obtain ⟨hS1, hQ1, hT1⟩ := rdS (l := []) f1 hS hQ hT
      have hk0 : s1.2.2.2 0 = nI k := by rw [a4]; rfl
      have hkk : (s1.2.2.2 0).toNatClampNeg = k := by rw [hk0]; exact nI_clamp (by omega)
      rw [Option.bind_some, hkk]
      have cr := c33 (d := d + 2) hS1 hQ1 hT1 f2 a2 hm hk hk0
      cases hg2 : sRegs len b m (regN k) 1 s1 with
      | none =>
        rw [hg2] at cr
        obtain ⟨σ2, e2, f3, f4⟩ := cr
        refine ⟨σ2, ?_, up (f1.trans f3), f4, fun g _ => ((f1.trans f3).2 q nq).1 g⟩
        simp (decide := true) only [e1, e2, k26_27, k26_30, k26_34, k26_44, sT_1, sT_2, sT_3, sT_16, sT_17, sT_18, sT_19, sT_20, sT_21, sT_22, sT_23, sT_24, sT_25, sT_26, sT_27, sT_28, sT_29, sT_30, sT_31, sT_32, sT_33, sT_34, sT_35, sT_36, sT_37, sT_38, sT_39, sT_40, sT_41, sT_42, sT_43, sT_44, sT_45, sT_46, sT_47, sT_48, sT_49, sT_50, sT_51, sT_52, sT_53, sT_54, sT_55, sT_56, sT_57, sT_58, sT_59, sT_60, sT_61, sT_62, sT_63, sT_64, sT_65, sT_66, sT_67, sT_68, sT_69, sT_70, sT_71, sT_72, sT_73, sT_74, sT_75, sT_76, sT_77, sT_78, sT_79, sT_80, sN_1, sN_2, sN_19, sN_21, sN_23, sN_24, sN_26, sN_29, sN_31, sN_33, sN_35, sN_36, sN_37, sN_39, sN_40, sN_42, sN_44, sN_45, sN_46, sN_48, sN_49, sN_50, sN_51, sN_52, sN_53, sN_54, sN_55, sN_56, sN_57, sN_58, sN_59, sN_60, sN_61, sN_62, sN_63, sN_64, sN_65, sN_66, sN_67, sN_68, sN_69, sN_70, sN_71, sN_72, sN_73, sN_74, sN_75, sN_76, sN_77, sN_78, sN_79, sN_80, sR_0_34, sR_0_38, sR_1_34, sR_1_38, sR_64_20, sR_64_22, sR_128_25, sR_128_28, sR_194_17, sR_195_17, sR_196_17, sR_197_17, sR_258_30, sR_258_32, sR_258_41, sR_384_43, sR_448_18, sR_512_27, sR_513_27, sR_514_27, sR_515_27, sR_516_27, sR_576_16, sR_577_16, sR_578_16, sR_579_16, sR_580_16, sR_581_16, sR_582_16, sR_583_16, sR_584_16, sR_641_47, sR_643_47, sR_645_47, sR_646_47, sR_647_47, sR_648_47, sR_649_47, sR_650_47, sR_651_47, sR_652_47, sR_653_47, sR_654_47, sR_655_47, sR_656_47, sR_657_47, sR_658_47, sR_659_47, sR_661_47, sR_662_47, sR_663_47, sR_664_47, sR_665_47, sR_669_47, sR_670_47, sR_671_47, sR_672_47, sR_673_47, sR_674_47, sR_676_47, sR_677_47, sR_679_47, sR_680_47, sR_681_47, SH_I, SH_A, SH_G, SH_C, hS1, Option.getD_some, ne_eq, reduceCtorEq, not_false_eq_true, not_true_eq_false, Option.bind_some, Option.toList_none, Option.toList_some, List.nil_append, List.cons_append, List.append_nil, ↓reduceIte, and_self, true_and, and_true, false_and, and_false, or_true, true_or, or_false, false_or, Nat.reduceEqDiff, Nat.reduceAdd, Int32.reduceMul, Int32.reduceAdd, Int32.reduceSub, Int32.reduceToNatClampNeg, Int32.reduceOfNat, Int32.reduceLT, Int32.reduceLE, va_rf]
      | some s2 =>
        rw [hg2] at cr
        obtain ⟨σ2, e2, f3, f4⟩ := cr
        obtain ⟨b1, b2, b3⟩ := sRegs_ok _ _ _ _ a2 (Nat.le_refl _) hg2
        obtain ⟨hS2, hQ2, hT2⟩ := rdS (l := []) f3 hS1 hQ1 hT1
        have cu := c39 (d := d + 2) hS2 hQ2 hT2 f4 b2 hm hk (b3.trans hk0)
        rw [Option.bind_some]
        cases hg3 : sNum len b m W k s2 with
        | none =>
          rw [hg3] at cu
          obtain ⟨σ3, e3, f5, f6⟩ := cu
          refine ⟨σ3, ?_, up ((f1.trans f3).trans f5), f6, fun g _ => (((f1.trans f3).trans f5).2 q nq).1 g⟩
          simp (decide := true) only [e1, e2, e3, k26_27, k26_30, k26_34, k26_37, k26_41, k26_44, sT_1, sT_2, sT_3, sT_16, sT_17, sT_18, sT_19, sT_20, sT_21, sT_22, sT_23, sT_24, sT_25, sT_26, sT_27, sT_28, sT_29, sT_30, sT_31, sT_32, sT_33, sT_34, sT_35, sT_36, sT_37, sT_38, sT_39, sT_40, sT_41, sT_42, sT_43, sT_44, sT_45, sT_46, sT_47, sT_48, sT_49, sT_50, sT_51, sT_52, sT_53, sT_54, sT_55, sT_56, sT_57, sT_58, sT_59, sT_60, sT_61, sT_62, sT_63, sT_64, sT_65, sT_66, sT_67, sT_68, sT_69, sT_70, sT_71, sT_72, sT_73, sT_74, sT_75, sT_76, sT_77, sT_78, sT_79, sT_80, sN_1, sN_2, sN_19, sN_21, sN_23, sN_24, sN_26, sN_29, sN_31, sN_33, sN_35, sN_36, sN_37, sN_39, sN_40, sN_42, sN_44, sN_45, sN_46, sN_48, sN_49, sN_50, sN_51, sN_52, sN_53, sN_54, sN_55, sN_56, sN_57, sN_58, sN_59, sN_60, sN_61, sN_62, sN_63, sN_64, sN_65, sN_66, sN_67, sN_68, sN_69, sN_70, sN_71, sN_72, sN_73, sN_74, sN_75, sN_76, sN_77, sN_78, sN_79, sN_80, sR_0_34, sR_0_38, sR_1_34, sR_1_38, sR_64_20, sR_64_22, sR_128_25, sR_128_28, sR_194_17, sR_195_17, sR_196_17, sR_197_17, sR_258_30, sR_258_32, sR_258_41, sR_384_43, sR_448_18, sR_512_27, sR_513_27, sR_514_27, sR_515_27, sR_516_27, sR_576_16, sR_577_16, sR_578_16, sR_579_16, sR_580_16, sR_581_16, sR_582_16, sR_583_16, sR_584_16, sR_641_47, sR_643_47, sR_645_47, sR_646_47, sR_647_47, sR_648_47, sR_649_47, sR_650_47, sR_651_47, sR_652_47, sR_653_47, sR_654_47, sR_655_47, sR_656_47, sR_657_47, sR_658_47, sR_659_47, sR_661_47, sR_662_47, sR_663_47, sR_664_47, sR_665_47, sR_669_47, sR_670_47, sR_671_47, sR_672_47, sR_673_47, sR_674_47, sR_676_47, sR_677_47, sR_679_47, sR_680_47, sR_681_47, SH_I, SH_A, SH_G, SH_C, hS1, hS2, Option.getD_some, ne_eq, reduceCtorEq, not_false_eq_true, not_true_eq_false, Option.bind_some, Option.toList_none, Option.toList_some, List.nil_append, List.cons_append, List.append_nil, ↓reduceIte, and_self, true_and, and_true, false_and, and_false, or_true, true_or, or_false, false_or, Nat.reduceEqDiff, Nat.reduceAdd, Int32.reduceMul, Int32.reduceAdd, Int32.reduceSub, Int32.reduceToNatClampNeg, Int32.reduceOfNat, Int32.reduceLT, Int32.reduceLE, va_rf]
        | some s3 =>
          rw [hg3] at cu
          obtain ⟨σ3, e3, f5, f6⟩ := cu
          obtain ⟨d1, d2, d3⟩ := sNum_ok b2 hg3
          obtain ⟨hS3, hQ3, hT3⟩ := rdS (l := []) f5 hS2 hQ2 hT2
          have F3 := (f1.trans f3).trans f5
          have W3 := W0.frame F3 nq
          have ca := c47 (d := d + 4) hS3 W3 hnm
          -- behind the order
          have F4 : FR [q, a] σ3 (jsI (jcp σ3 24 0 a (6 * n) 6) 257 q (nI (n + 1))) := ((FR.refl _ _).C (by simp)).I (by simp)
          have hS4 := F4.sh hS3
          have hT4 : TX (jsI (jcp σ3 24 0 a (6 * n) 6) 257 q (nI (n + 1))) len b := F4.tx (by simp only [List.mem_cons, List.not_mem_nil, or_false, not_or] at hq ha ⊢; omega) (by simp only [List.mem_cons, List.not_mem_nil, or_false, not_or] at hq ha ⊢; omega) hT3
          have hQ4 : ST (jsI (jcp σ3 24 0 a (6 * n) 6) 257 q (nI (n + 1))) := F4.st (by simp only [List.mem_cons, List.not_mem_nil, or_false, not_or] at hq ha ⊢; omega) (by simp only [List.mem_cons, List.not_mem_nil, or_false, not_or] at hq ha ⊢; omega) hQ3
          have R4 := f6.frame F4 dq
          have A4 : ∀ j, j < 6 → jA (jsI (jcp σ3 24 0 a (6 * n) 6) 257 q (nI (n + 1))) a (6 * n + j) = s3.2.2.2 j := by
            intro j hj
            rw [zI_A, zC_A, if_pos rfl]
            unfold va_cpy
            rw [if_pos (by omega), show 0 + (6 * n + j - 6 * n) = j by omega]
            exact f6.2.2.2.2.2.1 j hj
          have B4 : ∀ i, i < 6 * n → jA (jsI (jcp σ3 24 0 a (6 * n) 6) 257 q (nI (n + 1))) a i = jA σ3 a i := by
            intro i hi
            rw [zI_A, zC_A, if_pos rfl]
            unfold va_cpy
            rw [if_neg (by omega)]
          have I4 : jI (jsI (jcp σ3 24 0 a (6 * n) 6) 257 q (nI (n + 1))) 257 q = nI (n + 1) := by rw [zI_I, if_pos ⟨rfl, rfl⟩]
          have J4 : ∀ g, g ≠ 257 → jI (jsI (jcp σ3 24 0 a (6 * n) 6) 257 q (nI (n + 1))) g q = jI σ3 g q := by
            intro g hg
            rw [zI_I, if_neg (fun z => hg z.1), zC_I]
          generalize jsI (jcp σ3 24 0 a (6 * n) 6) 257 q (nI (n + 1)) = σ4 at ca F4 hS4 hT4 hQ4 R4 A4 B4 I4 J4
          have cs := c24 (d := d + 4) hS4 hT4 d2 R4.1
          have R5 := R4.at (sk len b s3.1)
          have F5 : FR rdl σ4 (jsI σ4 198 17 (nI (sk len b s3.1))) := (FR.refl _ _).I (by decide)
          obtain ⟨hS5, hQ5, hT5⟩ := rdS (l := []) F5 hS4 hQ4 hT4
          generalize jsI σ4 198 17 (nI (sk len b s3.1)) = σ5 at cs R5 F5 hS5 hQ5 hT5
          obtain ⟨p1, p2⟩ := sk_le (b := b) d2
          have cc := c48 (d := d + 4) hS5 hT5 R5 p2 hm
          have pre : ((jx (d + 5) 27 0 [some (.ref 17), some (.int (if (n == most) = true then 1 else 0)), none, none, none] [] σ).bind (fun z => jx (d + 6) 26 27 [some (.ref 17), some (.ref q), some (.int (nI n))] (z.1.toList ++ []) z.2)) = (jx (d + 5) 48 0 [some (.ref 17), none] [] σ5).bind (fun z => jx (d + 6) 26 62 [some (.ref 17), some (.ref q), some (.int (nI n))] (z.1.toList ++ []) z.2) := by
            simp (decide := true) only [e1, e2, e3, k26_27, k26_30, k26_34, k26_37, k26_41, k26_46, k26_54, k26_58, sT_1, sT_2, sT_3, sT_16, sT_17, sT_18, sT_19, sT_20, sT_21, sT_22, sT_23, sT_24, sT_25, sT_26, sT_27, sT_28, sT_29, sT_30, sT_31, sT_32, sT_33, sT_34, sT_35, sT_36, sT_37, sT_38, sT_39, sT_40, sT_41, sT_42, sT_43, sT_44, sT_45, sT_46, sT_47, sT_48, sT_49, sT_50, sT_51, sT_52, sT_53, sT_54, sT_55, sT_56, sT_57, sT_58, sT_59, sT_60, sT_61, sT_62, sT_63, sT_64, sT_65, sT_66, sT_67, sT_68, sT_69, sT_70, sT_71, sT_72, sT_73, sT_74, sT_75, sT_76, sT_77, sT_78, sT_79, sT_80, sN_1, sN_2, sN_19, sN_21, sN_23, sN_24, sN_26, sN_29, sN_31, sN_33, sN_35, sN_36, sN_37, sN_39, sN_40, sN_42, sN_44, sN_45, sN_46, sN_48, sN_49, sN_50, sN_51, sN_52, sN_53, sN_54, sN_55, sN_56, sN_57, sN_58, sN_59, sN_60, sN_61, sN_62, sN_63, sN_64, sN_65, sN_66, sN_67, sN_68, sN_69, sN_70, sN_71, sN_72, sN_73, sN_74, sN_75, sN_76, sN_77, sN_78, sN_79, sN_80, sR_0_34, sR_0_38, sR_1_34, sR_1_38, sR_64_20, sR_64_22, sR_128_25, sR_128_28, sR_194_17, sR_195_17, sR_196_17, sR_197_17, sR_258_30, sR_258_32, sR_258_41, sR_384_43, sR_448_18, sR_512_27, sR_513_27, sR_514_27, sR_515_27, sR_516_27, sR_576_16, sR_577_16, sR_578_16, sR_579_16, sR_580_16, sR_581_16, sR_582_16, sR_583_16, sR_584_16, sR_641_47, sR_643_47, sR_645_47, sR_646_47, sR_647_47, sR_648_47, sR_649_47, sR_650_47, sR_651_47, sR_652_47, sR_653_47, sR_654_47, sR_655_47, sR_656_47, sR_657_47, sR_658_47, sR_659_47, sR_661_47, sR_662_47, sR_663_47, sR_664_47, sR_665_47, sR_669_47, sR_670_47, sR_671_47, sR_672_47, sR_673_47, sR_674_47, sR_676_47, sR_677_47, sR_679_47, sR_680_47, sR_681_47, SH_I, SH_A, SH_G, SH_C, hS1, hS2, hS3, hS4, hS5, W3.1, ca, cs, Option.getD_some, ne_eq, reduceCtorEq, not_false_eq_true, not_true_eq_false, Option.bind_some, Option.toList_none, Option.toList_some, List.nil_append, List.cons_append, List.append_nil, ↓reduceIte, and_self, true_and, and_true, false_and, and_false, or_true, true_or, or_false, false_or, Nat.reduceEqDiff, Nat.reduceAdd, Int32.reduceMul, Int32.reduceAdd, Int32.reduceSub, Int32.reduceToNatClampNeg, Int32.reduceOfNat, Int32.reduceLT, Int32.reduceLE, va_rf]
          rw [pre, cc]
          have FA : FR (q :: a :: rdl) σ σ5 := ((up F3).trans (F4.mono (fun x hx => by simp only [List.mem_cons, List.not_mem_nil, or_false] at hx ⊢; omega))).trans (up F5)
          have LA : ∀ g, g ≠ 257 → jI σ5 g q = jI σ g q := fun g hg => by rw [(F5.2 q nq).1, J4 g hg, (F3.2 q nq).1]
          have BA : ∀ i, i < 6 * n → jA σ5 a i = jA σ a i := fun i hi => by rw [(F5.2 a na).2, B4 i hi, (F3.2 a na).2]
          have CA : ∀ j, j < 6 → jA σ5 a (6 * n + j) = s3.2.2.2 j := fun j hj => by rw [(F5.2 a na).2]; exact A4 j hj
          have NA : jI σ5 257 q = nI (n + 1) := by rw [(F5.2 q nq).1]; exact I4
          rw [Option.bind_some]
          have fin : ∀ (σ6 : jS) (p : Nat), FR rdl σ5 σ6 → RD m W (p, s3.2) σ6 → RESO m W q a n σ (some (some (.int 1), σ6)) (some ([s3.2.2.2], (p, s3.2))) := by
            intro σ6 p F6 R6
            refine ⟨σ6, rfl, FA.trans (up F6), R6, by rw [(F6.2 q nq).1]; exact NA, fun g hg => by rw [(F6.2 q nq).1]; exact LA g hg, fun i hi => by rw [(F6.2 a na).2]; exact BA i hi, fun i j hi hj => ?_⟩
            have hi0 : i = 0 := by simp at hi; omega
            subst hi0
            rw [(F6.2 a na).2]
            exact CA j hj
          have stop : sClose len b m (sk len b s3.1) = none → RESO m W q a n σ (jx (d + 6) 26 67 [some (.ref 17), some (.ref q), some (.int (nI n))] [] σ5) (if tv len b (sk len b s3.1) = 59 then (sOrds len b m W most f (n + 1) (sk len b (sk len b s3.1 + 1), s3.2)).map (fun z => (s3.2.2.2 :: z.1, z.2)) else none) := by
            intro hcl
            have c9 := c25 (d := d + 5) hS5 hT5 (p := sk len b s3.1) (by omega)
            have ra5 := R5.1
            have ra5 : jI σ5 198 17 = nI (sk len b s3.1) := ra5
            by_cases h59 : tv len b (sk len b s3.1) = 59
            · rw [if_pos h59]
              have hlt := tv_lit h59 (by decide)
              have R6 := R5.at (sk len b s3.1 + 1)
              have F6 : FR rdl σ5 (jsI σ5 198 17 (nI (sk len b s3.1 + 1))) := (FR.refl _ _).I (by decide)
              obtain ⟨hS6, hQ6, hT6⟩ := rdS (l := []) F6 hS5 hQ5 hT5
              have cs6 := c24 (d := d + 4) hS6 hT6 (p := sk len b s3.1 + 1) (by omega) R6.1
              rw [jsI_jsI] at cs6
              have R7 := R5.at (sk len b (sk len b s3.1 + 1))
              have F7 : FR rdl σ5 (jsI σ5 198 17 (nI (sk len b (sk len b s3.1 + 1)))) := (FR.refl _ _).I (by decide)
              obtain ⟨hS7, hQ7, hT7⟩ := rdS (l := []) F7 hS5 hQ5 hT5
              obtain ⟨p3, p4⟩ := sk_le (len := len) (b := b) (p := sk len b s3.1 + 1) (by omega)
              have W7 : RW (jsI σ5 198 17 (nI (sk len b (sk len b s3.1 + 1)))) q a most (n + 1) := by
                obtain ⟨w1, w2, w3, w4, w5, w6, w7, w8⟩ := W0
                have K := FA.1
                refine ⟨by rw [zI_T, K.1]; exact w1, by rw [zI_R, K.2.2.1]; exact w2, by rw [zI_T, K.1]; exact w3, by rw [zI_N, K.2.1]; exact w4, by rw [(F7.2 q nq).1, LA 256 (by decide)]; exact w5, by rw [(F7.2 q nq).1]; exact NA, by omega, w8⟩
              have e9 := ih (n + 1) _ (sk len b (sk len b s3.1 + 1), s3.2) (by omega) (by omega) hS7 hQ7 hT7 R7 p4 (fun _ => W7) (by omega)
              have go : jx (d + 6) 26 67 [some (.ref 17), some (.ref q), some (.int (nI n))] [] σ5 = jx (d + 6) 26 2 [some (.ref 17), some (.ref q), some (.int (nI (n + 1)))] [] (jsI σ5 198 17 (nI (sk len b (sk len b s3.1 + 1)))) := by
                rw [nI_succ (sk len b s3.1)] at cs6
                simp (decide := true) only [k26_67, k26_78, k26_89, k26_103, sT_1, sT_2, sT_3, sT_16, sT_17, sT_18, sT_19, sT_20, sT_21, sT_22, sT_23, sT_24, sT_25, sT_26, sT_27, sT_28, sT_29, sT_30, sT_31, sT_32, sT_33, sT_34, sT_35, sT_36, sT_37, sT_38, sT_39, sT_40, sT_41, sT_42, sT_43, sT_44, sT_45, sT_46, sT_47, sT_48, sT_49, sT_50, sT_51, sT_52, sT_53, sT_54, sT_55, sT_56, sT_57, sT_58, sT_59, sT_60, sT_61, sT_62, sT_63, sT_64, sT_65, sT_66, sT_67, sT_68, sT_69, sT_70, sT_71, sT_72, sT_73, sT_74, sT_75, sT_76, sT_77, sT_78, sT_79, sT_80, sN_1, sN_2, sN_19, sN_21, sN_23, sN_24, sN_26, sN_29, sN_31, sN_33, sN_35, sN_36, sN_37, sN_39, sN_40, sN_42, sN_44, sN_45, sN_46, sN_48, sN_49, sN_50, sN_51, sN_52, sN_53, sN_54, sN_55, sN_56, sN_57, sN_58, sN_59, sN_60, sN_61, sN_62, sN_63, sN_64, sN_65, sN_66, sN_67, sN_68, sN_69, sN_70, sN_71, sN_72, sN_73, sN_74, sN_75, sN_76, sN_77, sN_78, sN_79, sN_80, sR_0_34, sR_0_38, sR_1_34, sR_1_38, sR_64_20, sR_64_22, sR_128_25, sR_128_28, sR_194_17, sR_195_17, sR_196_17, sR_197_17, sR_258_30, sR_258_32, sR_258_41, sR_384_43, sR_448_18, sR_512_27, sR_513_27, sR_514_27, sR_515_27, sR_516_27, sR_576_16, sR_577_16, sR_578_16, sR_579_16, sR_580_16, sR_581_16, sR_582_16, sR_583_16, sR_584_16, sR_641_47, sR_643_47, sR_645_47, sR_646_47, sR_647_47, sR_648_47, sR_649_47, sR_650_47, sR_651_47, sR_652_47, sR_653_47, sR_654_47, sR_655_47, sR_656_47, sR_657_47, sR_658_47, sR_659_47, sR_661_47, sR_662_47, sR_663_47, sR_664_47, sR_665_47, sR_669_47, sR_670_47, sR_671_47, sR_672_47, sR_673_47, sR_674_47, sR_676_47, sR_677_47, sR_679_47, sR_680_47, sR_681_47, SH_I, SH_A, SH_G, SH_C, hS5, ra5, c9, h59, cs6, nI_succ, Option.getD_some, ne_eq, reduceCtorEq, not_false_eq_true, not_true_eq_false, Option.bind_some, Option.toList_none, Option.toList_some, List.nil_append, List.cons_append, List.append_nil, ↓reduceIte, and_self, true_and, and_true, false_and, and_false, or_true, true_or, or_false, false_or, Nat.reduceEqDiff, Nat.reduceAdd, Int32.reduceMul, Int32.reduceAdd, Int32.reduceSub, Int32.reduceToNatClampNeg, Int32.reduceOfNat, Int32.reduceLT, Int32.reduceLE, va_rf]
              rw [go]
              generalize jsI σ5 198 17 (nI (sk len b (sk len b s3.1 + 1))) = σ7 at e9 F7
              cases hg9 : sOrds len b m W most f (n + 1) (sk len b (sk len b s3.1 + 1), s3.2) with
              | none =>
                rw [hg9] at e9
                obtain ⟨σ8, e8, f8, f9, f10⟩ := e9
                exact ⟨σ8, e8, (FA.trans (up F7)).trans f8, f9, fun g hg => by rw [f10 g hg, (F7.2 q nq).1]; exact LA g hg⟩
              | some z =>
                obtain ⟨os, s9⟩ := z
                rw [hg9] at e9
                obtain ⟨σ8, e8, f8, f9, f10, f11, f12, f13⟩ := e9
                refine ⟨σ8, e8, (FA.trans (up F7)).trans f8, f9, ?_, fun g hg => by rw [f11 g hg, (F7.2 q nq).1]; exact LA g hg, fun i hi => by rw [f12 i (by omega), (F7.2 a na).2]; exact BA i hi, fun i j hi hj => ?_⟩
                · rw [f10]; congr 1; show n + 1 + os.length = n + (os.length + 1); omega
                · cases i with
                  | zero =>
                    show jA σ8 a (6 * (n + 0) + j) = s3.2.2.2 j
                    rw [Nat.add_zero, f12 _ (by omega), (F7.2 a na).2]
                    exact CA j hj
                  | succ i =>
                    have hi2 : i < os.length := by simp at hi; exact hi
                    have q9 := f13 i j hi2 hj
                    rw [show n + (i + 1) = n + 1 + i by omega, q9]
                    rfl
            · rw [if_neg h59]
              obtain ⟨σ8, e8, f8, f9⟩ := c32 (d := d + 5) hS5 (k := 1) (by decide)
              refine ⟨σ8, ?_, FA.trans (up f8), f9, fun g hg => by rw [(f8.2 q nq).1]; exact LA g hg⟩
              simp (decide := true) only [k26_67, k26_78, k26_83, k26_88, sT_1, sT_2, sT_3, sT_16, sT_17, sT_18, sT_19, sT_20, sT_21, sT_22, sT_23, sT_24, sT_25, sT_26, sT_27, sT_28, sT_29, sT_30, sT_31, sT_32, sT_33, sT_34, sT_35, sT_36, sT_37, sT_38, sT_39, sT_40, sT_41, sT_42, sT_43, sT_44, sT_45, sT_46, sT_47, sT_48, sT_49, sT_50, sT_51, sT_52, sT_53, sT_54, sT_55, sT_56, sT_57, sT_58, sT_59, sT_60, sT_61, sT_62, sT_63, sT_64, sT_65, sT_66, sT_67, sT_68, sT_69, sT_70, sT_71, sT_72, sT_73, sT_74, sT_75, sT_76, sT_77, sT_78, sT_79, sT_80, sN_1, sN_2, sN_19, sN_21, sN_23, sN_24, sN_26, sN_29, sN_31, sN_33, sN_35, sN_36, sN_37, sN_39, sN_40, sN_42, sN_44, sN_45, sN_46, sN_48, sN_49, sN_50, sN_51, sN_52, sN_53, sN_54, sN_55, sN_56, sN_57, sN_58, sN_59, sN_60, sN_61, sN_62, sN_63, sN_64, sN_65, sN_66, sN_67, sN_68, sN_69, sN_70, sN_71, sN_72, sN_73, sN_74, sN_75, sN_76, sN_77, sN_78, sN_79, sN_80, sR_0_34, sR_0_38, sR_1_34, sR_1_38, sR_64_20, sR_64_22, sR_128_25, sR_128_28, sR_194_17, sR_195_17, sR_196_17, sR_197_17, sR_258_30, sR_258_32, sR_258_41, sR_384_43, sR_448_18, sR_512_27, sR_513_27, sR_514_27, sR_515_27, sR_516_27, sR_576_16, sR_577_16, sR_578_16, sR_579_16, sR_580_16, sR_581_16, sR_582_16, sR_583_16, sR_584_16, sR_641_47, sR_643_47, sR_645_47, sR_646_47, sR_647_47, sR_648_47, sR_649_47, sR_650_47, sR_651_47, sR_652_47, sR_653_47, sR_654_47, sR_655_47, sR_656_47, sR_657_47, sR_658_47, sR_659_47, sR_661_47, sR_662_47, sR_663_47, sR_664_47, sR_665_47, sR_669_47, sR_670_47, sR_671_47, sR_672_47, sR_673_47, sR_674_47, sR_676_47, sR_677_47, sR_679_47, sR_680_47, sR_681_47, SH_I, SH_A, SH_G, SH_C, hS5, ra5, c9, h59, e8, Option.getD_some, ne_eq, reduceCtorEq, not_false_eq_true, not_true_eq_false, Option.bind_some, Option.toList_none, Option.toList_some, List.nil_append, List.cons_append, List.append_nil, ↓reduceIte, and_self, true_and, and_true, false_and, and_false, or_true, true_or, or_false, false_or, Nat.reduceEqDiff, Nat.reduceAdd, Int32.reduceMul, Int32.reduceAdd, Int32.reduceSub, Int32.reduceToNatClampNeg, Int32.reduceOfNat, Int32.reduceLT, Int32.reduceLE, va_rf]
          by_cases hm1 : m = 1
          · by_cases hcl : tv len b (sk len b s3.1) = 61 ∧ tv len b (sk len b s3.1 + 1) = 62
            · have hcs : sClose len b m (sk len b s3.1) = some (sk len b s3.1 + 2) := by unfold sClose; rw [if_pos hm1, if_pos hcl]
              rw [hcs, if_pos hm1, if_pos hcl]
              simp (decide := true) only [Option.bind_some, Option.toList_some, List.cons_append, List.nil_append, k26_62, k26_65, ↓reduceIte]
              exact fin _ _ ((FR.refl _ _).I (by decide)) (R5.at _)
            · have hcs : sClose len b m (sk len b s3.1) = none := by unfold sClose; rw [if_pos hm1, if_neg hcl]
              rw [hcs, if_pos hm1, if_neg hcl]
              simp (decide := true) only [Option.bind_some, Option.toList_some, List.cons_append, List.nil_append, k26_62, ↓reduceIte]
              exact stop hcs
          · by_cases hcl : len ≤ sk len b s3.1
            · have hcs : sClose len b m (sk len b s3.1) = some (sk len b s3.1) := by unfold sClose; rw [if_neg hm1, if_pos hcl]
              rw [hcs, if_neg hm1, if_pos hcl]
              simp (decide := true) only [Option.bind_some, Option.toList_some, List.cons_append, List.nil_append, k26_62, k26_65, ↓reduceIte]
              exact fin _ _ (FR.refl _ _) R5
            · have hcs : sClose len b m (sk len b s3.1) = none := by unfold sClose; rw [if_neg hm1, if_neg hcl]
              rw [hcs, if_neg hm1, if_neg hcl]
              simp (decide := true) only [Option.bind_some, Option.toList_some, List.cons_append, List.nil_append, k26_62, ↓reduceIte]
              exact stop hcs
end RD7
end S_32
section S_33
/-! the class's reader: a whole program, a whole rule -/
section RD8
variable {d : Nat} {σ : jS} {len W : Nat} {b : Nat → Int32}
theorem c23a (hS : SH σ) : ∃ σ', jx d 23 0 [some (.ref 20), none] [] σ = some (none, σ') ∧ FR [20, 21] σ σ' ∧ LT σ' 20 21 4 [] := by
  refine ⟨jsA (jsA (jsA (jsA (jsI σ 65 20 0) 21 0 (-1)) 21 1 (-1)) 21 2 (-1)) 21 3 (-1), ?_, (((((FR.refl _ _).I (by decide)).A (by decide)).A (by decide)).A (by decide)).A (by decide), ?_, ?_, List.nodup_nil, fun x h => absurd h List.not_mem_nil⟩
  · simp (decide := true) only [k23_0, k23_7, k23_16, k23_29, sT_1, sT_2, sT_3, sT_16, sT_17, sT_18, sT_19, sT_20, sT_21, sT_22, sT_23, sT_24, sT_25, sT_26, sT_27, sT_28, sT_29, sT_30, sT_31, sT_32, sT_33, sT_34, sT_35, sT_36, sT_37, sT_38, sT_39, sT_40, sT_41, sT_42, sT_43, sT_44, sT_45, sT_46, sT_47, sT_48, sT_49, sT_50, sT_51, sT_52, sT_53, sT_54, sT_55, sT_56, sT_57, sT_58, sT_59, sT_60, sT_61, sT_62, sT_63, sT_64, sT_65, sT_66, sT_67, sT_68, sT_69, sT_70, sT_71, sT_72, sT_73, sT_74, sT_75, sT_76, sT_77, sT_78, sT_79, sT_80, sN_1, sN_2, sN_19, sN_21, sN_23, sN_24, sN_26, sN_29, sN_31, sN_33, sN_35, sN_36, sN_37, sN_39, sN_40, sN_42, sN_44, sN_45, sN_46, sN_48, sN_49, sN_50, sN_51, sN_52, sN_53, sN_54, sN_55, sN_56, sN_57, sN_58, sN_59, sN_60, sN_61, sN_62, sN_63, sN_64, sN_65, sN_66, sN_67, sN_68, sN_69, sN_70, sN_71, sN_72, sN_73, sN_74, sN_75, sN_76, sN_77, sN_78, sN_79, sN_80, sR_0_34, sR_0_38, sR_1_34, sR_1_38, sR_64_20, sR_64_22, sR_128_25, sR_128_28, sR_194_17, sR_195_17, sR_196_17, sR_197_17, sR_258_30, sR_258_32, sR_258_41, sR_384_43, sR_448_18, sR_512_27, sR_513_27, sR_514_27, sR_515_27, sR_516_27, sR_576_16, sR_577_16, sR_578_16, sR_579_16, sR_580_16, sR_581_16, sR_582_16, sR_583_16, sR_584_16, sR_641_47, sR_643_47, sR_645_47, sR_646_47, sR_647_47, sR_648_47, sR_649_47, sR_650_47, sR_651_47, sR_652_47, sR_653_47, sR_654_47, sR_655_47, sR_656_47, sR_657_47, sR_658_47, sR_659_47, sR_661_47, sR_662_47, sR_663_47, sR_664_47, sR_665_47, sR_669_47, sR_670_47, sR_671_47, sR_672_47, sR_673_47, sR_674_47, sR_676_47, sR_677_47, sR_679_47, sR_680_47, sR_681_47, SH_I, SH_A, SH_G, SH_C, hS, Option.getD_some, ne_eq, reduceCtorEq, not_false_eq_true, not_true_eq_false, Option.bind_some, Option.toList_none, Option.toList_some, List.nil_append, List.cons_append, List.append_nil, ↓reduceIte, and_self, true_and, and_true, false_and, and_false, or_true, true_or, or_false, false_or, Nat.reduceEqDiff, Nat.reduceAdd, Int32.reduceMul, Int32.reduceAdd, Int32.reduceSub, Int32.reduceToNatClampNeg, Int32.reduceOfNat, Int32.reduceLT, Int32.reduceLE, va_rf, jin_eq]
  · simp (decide := true) only [zI_T, zI_N, zI_R, zI_A, zI_G, zI_nx, zI_sl, zI_I, zR_T, zR_N, zR_I, zR_A, zR_G, zR_nx, zR_sl, zR_R, zA_T, zA_N, zA_I, zA_R, zA_G, zA_nx, zA_sl, zA_A, zG_T, zG_N, zG_I, zG_R, zG_A, zG_nx, zG_sl, zG_G, zO_T, zO_N, zO_I, zO_R, zO_A, zO_G, zO_nx, zO_sl, zB_T, zB_N, zB_I, zB_R, zB_A, zB_G, zB_nx, zB_sl, zH_T, zH_N, zH_I, zH_R, zH_A, zH_G, zH_nx, zH_sl, zC_T, zC_N, zC_I, zC_R, zC_G, zC_nx, zC_sl, zC_A, Option.getD_some, ne_eq, reduceCtorEq, not_false_eq_true, not_true_eq_false, Option.bind_some, Option.toList_none, Option.toList_some, List.nil_append, List.cons_append, List.append_nil, ↓reduceIte, and_self, true_and, and_true, false_and, and_false, or_true, true_or, or_false, false_or, Nat.reduceEqDiff, Nat.reduceAdd, Int32.reduceMul, Int32.reduceAdd, Int32.reduceSub, Int32.reduceToNatClampNeg, Int32.reduceOfNat, Int32.reduceLT, Int32.reduceLE, va_rf]
  · intro l hl
    have : l = 0 ∨ l = 1 ∨ l = 2 ∨ l = 3 := by omega
    rcases this with h | h | h | h <;> subst h <;> simp (decide := true) only [zI_T, zI_N, zI_R, zI_A, zI_G, zI_nx, zI_sl, zI_I, zR_T, zR_N, zR_I, zR_A, zR_G, zR_nx, zR_sl, zR_R, zA_T, zA_N, zA_I, zA_R, zA_G, zA_nx, zA_sl, zA_A, zG_T, zG_N, zG_I, zG_R, zG_A, zG_nx, zG_sl, zG_G, zO_T, zO_N, zO_I, zO_R, zO_A, zO_G, zO_nx, zO_sl, zB_T, zB_N, zB_I, zB_R, zB_A, zB_G, zB_nx, zB_sl, zH_T, zH_N, zH_I, zH_R, zH_A, zH_G, zH_nx, zH_sl, zC_T, zC_N, zC_I, zC_R, zC_G, zC_nx, zC_sl, zC_A, Option.getD_some, ne_eq, reduceCtorEq, not_false_eq_true, not_true_eq_false, Option.bind_some, Option.toList_none, Option.toList_some, List.nil_append, List.cons_append, List.append_nil, ↓reduceIte, and_self, true_and, and_true, false_and, and_false, or_true, true_or, or_false, false_or, Nat.reduceEqDiff, Nat.reduceAdd, Int32.reduceMul, Int32.reduceAdd, Int32.reduceSub, Int32.reduceToNatClampNeg, Int32.reduceOfNat, Int32.reduceLT, Int32.reduceLE, va_rf] <;> rfl
theorem c23b (hS : SH σ) : ∃ σ', jx d 23 0 [some (.ref 22), none] [] σ = some (none, σ') ∧ FR [22, 23] σ σ' ∧ LT σ' 22 23 3 [] := by
  refine ⟨jsA (jsA (jsA (jsI σ 65 22 0) 23 0 (-1)) 23 1 (-1)) 23 2 (-1), ?_, ((((FR.refl _ _).I (by decide)).A (by decide)).A (by decide)).A (by decide), ?_, ?_, List.nodup_nil, fun x h => absurd h List.not_mem_nil⟩
  · simp (decide := true) only [k23_0, k23_7, k23_16, k23_29, sT_1, sT_2, sT_3, sT_16, sT_17, sT_18, sT_19, sT_20, sT_21, sT_22, sT_23, sT_24, sT_25, sT_26, sT_27, sT_28, sT_29, sT_30, sT_31, sT_32, sT_33, sT_34, sT_35, sT_36, sT_37, sT_38, sT_39, sT_40, sT_41, sT_42, sT_43, sT_44, sT_45, sT_46, sT_47, sT_48, sT_49, sT_50, sT_51, sT_52, sT_53, sT_54, sT_55, sT_56, sT_57, sT_58, sT_59, sT_60, sT_61, sT_62, sT_63, sT_64, sT_65, sT_66, sT_67, sT_68, sT_69, sT_70, sT_71, sT_72, sT_73, sT_74, sT_75, sT_76, sT_77, sT_78, sT_79, sT_80, sN_1, sN_2, sN_19, sN_21, sN_23, sN_24, sN_26, sN_29, sN_31, sN_33, sN_35, sN_36, sN_37, sN_39, sN_40, sN_42, sN_44, sN_45, sN_46, sN_48, sN_49, sN_50, sN_51, sN_52, sN_53, sN_54, sN_55, sN_56, sN_57, sN_58, sN_59, sN_60, sN_61, sN_62, sN_63, sN_64, sN_65, sN_66, sN_67, sN_68, sN_69, sN_70, sN_71, sN_72, sN_73, sN_74, sN_75, sN_76, sN_77, sN_78, sN_79, sN_80, sR_0_34, sR_0_38, sR_1_34, sR_1_38, sR_64_20, sR_64_22, sR_128_25, sR_128_28, sR_194_17, sR_195_17, sR_196_17, sR_197_17, sR_258_30, sR_258_32, sR_258_41, sR_384_43, sR_448_18, sR_512_27, sR_513_27, sR_514_27, sR_515_27, sR_516_27, sR_576_16, sR_577_16, sR_578_16, sR_579_16, sR_580_16, sR_581_16, sR_582_16, sR_583_16, sR_584_16, sR_641_47, sR_643_47, sR_645_47, sR_646_47, sR_647_47, sR_648_47, sR_649_47, sR_650_47, sR_651_47, sR_652_47, sR_653_47, sR_654_47, sR_655_47, sR_656_47, sR_657_47, sR_658_47, sR_659_47, sR_661_47, sR_662_47, sR_663_47, sR_664_47, sR_665_47, sR_669_47, sR_670_47, sR_671_47, sR_672_47, sR_673_47, sR_674_47, sR_676_47, sR_677_47, sR_679_47, sR_680_47, sR_681_47, SH_I, SH_A, SH_G, SH_C, hS, Option.getD_some, ne_eq, reduceCtorEq, not_false_eq_true, not_true_eq_false, Option.bind_some, Option.toList_none, Option.toList_some, List.nil_append, List.cons_append, List.append_nil, ↓reduceIte, and_self, true_and, and_true, false_and, and_false, or_true, true_or, or_false, false_or, Nat.reduceEqDiff, Nat.reduceAdd, Int32.reduceMul, Int32.reduceAdd, Int32.reduceSub, Int32.reduceToNatClampNeg, Int32.reduceOfNat, Int32.reduceLT, Int32.reduceLE, va_rf, jin_eq]
  · simp (decide := true) only [zI_T, zI_N, zI_R, zI_A, zI_G, zI_nx, zI_sl, zI_I, zR_T, zR_N, zR_I, zR_A, zR_G, zR_nx, zR_sl, zR_R, zA_T, zA_N, zA_I, zA_R, zA_G, zA_nx, zA_sl, zA_A, zG_T, zG_N, zG_I, zG_R, zG_A, zG_nx, zG_sl, zG_G, zO_T, zO_N, zO_I, zO_R, zO_A, zO_G, zO_nx, zO_sl, zB_T, zB_N, zB_I, zB_R, zB_A, zB_G, zB_nx, zB_sl, zH_T, zH_N, zH_I, zH_R, zH_A, zH_G, zH_nx, zH_sl, zC_T, zC_N, zC_I, zC_R, zC_G, zC_nx, zC_sl, zC_A, Option.getD_some, ne_eq, reduceCtorEq, not_false_eq_true, not_true_eq_false, Option.bind_some, Option.toList_none, Option.toList_some, List.nil_append, List.cons_append, List.append_nil, ↓reduceIte, and_self, true_and, and_true, false_and, and_false, or_true, true_or, or_false, false_or, Nat.reduceEqDiff, Nat.reduceAdd, Int32.reduceMul, Int32.reduceAdd, Int32.reduceSub, Int32.reduceToNatClampNeg, Int32.reduceOfNat, Int32.reduceLT, Int32.reduceLE, va_rf]
  · intro l hl
    have : l = 0 ∨ l = 1 ∨ l = 2 := by omega
    rcases this with h | h | h <;> subst h <;> simp (decide := true) only [zI_T, zI_N, zI_R, zI_A, zI_G, zI_nx, zI_sl, zI_I, zR_T, zR_N, zR_I, zR_A, zR_G, zR_nx, zR_sl, zR_R, zA_T, zA_N, zA_I, zA_R, zA_G, zA_nx, zA_sl, zA_A, zG_T, zG_N, zG_I, zG_R, zG_A, zG_nx, zG_sl, zG_G, zO_T, zO_N, zO_I, zO_R, zO_A, zO_G, zO_nx, zO_sl, zB_T, zB_N, zB_I, zB_R, zB_A, zB_G, zB_nx, zB_sl, zH_T, zH_N, zH_I, zH_R, zH_A, zH_G, zH_nx, zH_sl, zC_T, zC_N, zC_I, zC_R, zC_G, zC_nx, zC_sl, zC_A, Option.getD_some, ne_eq, reduceCtorEq, not_false_eq_true, not_true_eq_false, Option.bind_some, Option.toList_none, Option.toList_some, List.nil_append, List.cons_append, List.append_nil, ↓reduceIte, and_self, true_and, and_true, false_and, and_false, or_true, true_or, or_false, false_or, Nat.reduceEqDiff, Nat.reduceAdd, Int32.reduceMul, Int32.reduceAdd, Int32.reduceSub, Int32.reduceToNatClampNeg, Int32.reduceOfNat, Int32.reduceLT, Int32.reduceLE, va_rf] <;> rfl
theorem c22 (hS : SH σ) (hQ : ST σ) (hT : TX σ len b) (m : Nat) : ∃ σ', jx (d + 2) 22 0 [some (.ref 17), some (.int (nI m)), some (.int (nI W))] [] σ = some (none, σ') ∧ FR rdl σ σ' ∧ RD m W (sk len b 0, [], [], fun j => jA σ 24 j) σ' := by
  have F0 : FR [17] σ (jsI (jsI (jsI (jsI (jsI σ 200 17 (nI W)) 199 17 (nI m)) 192 17 0) 193 17 0) 198 17 0) := (((((FR.refl _ _).I (by decide)).I (by decide)).I (by decide)).I (by decide)).I (by decide)
  have A0 : ∀ j, jA (jsI (jsI (jsI (jsI (jsI σ 200 17 (nI W)) 199 17 (nI m)) 192 17 0) 193 17 0) 198 17 0) 24 j = jA σ 24 j := fun j => by simp only [zI_A]
  have B0 : jI (jsI (jsI (jsI (jsI (jsI σ 200 17 (nI W)) 199 17 (nI m)) 192 17 0) 193 17 0) 198 17 0) 198 17 = nI 0 ∧ jI (jsI (jsI (jsI (jsI (jsI σ 200 17 (nI W)) 199 17 (nI m)) 192 17 0) 193 17 0) 198 17 0) 199 17 = nI m ∧ jI (jsI (jsI (jsI (jsI (jsI σ 200 17 (nI W)) 199 17 (nI m)) 192 17 0) 193 17 0) 198 17 0) 200 17 = nI W ∧ jI (jsI (jsI (jsI (jsI (jsI σ 200 17 (nI W)) 199 17 (nI m)) 192 17 0) 193 17 0) 198 17 0) 192 17 = 0 := by
    refine ⟨?_, ?_, ?_, ?_⟩ <;> simp (decide := true) only [zI_T, zI_N, zI_R, zI_A, zI_G, zI_nx, zI_sl, zI_I, zR_T, zR_N, zR_I, zR_A, zR_G, zR_nx, zR_sl, zR_R, zA_T, zA_N, zA_I, zA_R, zA_G, zA_nx, zA_sl, zA_A, zG_T, zG_N, zG_I, zG_R, zG_A, zG_nx, zG_sl, zG_G, zO_T, zO_N, zO_I, zO_R, zO_A, zO_G, zO_nx, zO_sl, zB_T, zB_N, zB_I, zB_R, zB_A, zB_G, zB_nx, zB_sl, zH_T, zH_N, zH_I, zH_R, zH_A, zH_G, zH_nx, zH_sl, zC_T, zC_N, zC_I, zC_R, zC_G, zC_nx, zC_sl, zC_A, Option.getD_some, ne_eq, reduceCtorEq, not_false_eq_true, not_true_eq_false, Option.bind_some, Option.toList_none, Option.toList_some, List.nil_append, List.cons_append, List.append_nil, ↓reduceIte, and_self, true_and, and_true, false_and, and_false, or_true, true_or, or_false, false_or, Nat.reduceEqDiff, Nat.reduceAdd, Int32.reduceMul, Int32.reduceAdd, Int32.reduceSub, Int32.reduceToNatClampNeg, Int32.reduceOfNat, Int32.reduceLT, Int32.reduceLE, va_rf]
  have hS0 := F0.sh hS
  have hT0 : TX _ len b := F0.tx (by decide) (by decide) hT
  have hQ0 := F0.st (by decide) (by decide) hQ
  have e0 : jx (d + 2) 22 0 [some (.ref 17), some (.int (nI m)), some (.int (nI W))] [] σ = (jx (d + 1) 23 0 [some (.ref 20), none] [] (jsI (jsI (jsI (jsI (jsI σ 200 17 (nI W)) 199 17 (nI m)) 192 17 0) 193 17 0) 198 17 0)).bind (fun z => jx (d + 2) 22 32 [some (.ref 17), some (.int (nI m)), some (.int (nI W))] (z.1.toList ++ []) z.2) := by
    simp (decide := true) only [k22_0, sT_1, sT_2, sT_3, sT_16, sT_17, sT_18, sT_19, sT_20, sT_21, sT_22, sT_23, sT_24, sT_25, sT_26, sT_27, sT_28, sT_29, sT_30, sT_31, sT_32, sT_33, sT_34, sT_35, sT_36, sT_37, sT_38, sT_39, sT_40, sT_41, sT_42, sT_43, sT_44, sT_45, sT_46, sT_47, sT_48, sT_49, sT_50, sT_51, sT_52, sT_53, sT_54, sT_55, sT_56, sT_57, sT_58, sT_59, sT_60, sT_61, sT_62, sT_63, sT_64, sT_65, sT_66, sT_67, sT_68, sT_69, sT_70, sT_71, sT_72, sT_73, sT_74, sT_75, sT_76, sT_77, sT_78, sT_79, sT_80, sN_1, sN_2, sN_19, sN_21, sN_23, sN_24, sN_26, sN_29, sN_31, sN_33, sN_35, sN_36, sN_37, sN_39, sN_40, sN_42, sN_44, sN_45, sN_46, sN_48, sN_49, sN_50, sN_51, sN_52, sN_53, sN_54, sN_55, sN_56, sN_57, sN_58, sN_59, sN_60, sN_61, sN_62, sN_63, sN_64, sN_65, sN_66, sN_67, sN_68, sN_69, sN_70, sN_71, sN_72, sN_73, sN_74, sN_75, sN_76, sN_77, sN_78, sN_79, sN_80, sR_0_34, sR_0_38, sR_1_34, sR_1_38, sR_64_20, sR_64_22, sR_128_25, sR_128_28, sR_194_17, sR_195_17, sR_196_17, sR_197_17, sR_258_30, sR_258_32, sR_258_41, sR_384_43, sR_448_18, sR_512_27, sR_513_27, sR_514_27, sR_515_27, sR_516_27, sR_576_16, sR_577_16, sR_578_16, sR_579_16, sR_580_16, sR_581_16, sR_582_16, sR_583_16, sR_584_16, sR_641_47, sR_643_47, sR_645_47, sR_646_47, sR_647_47, sR_648_47, sR_649_47, sR_650_47, sR_651_47, sR_652_47, sR_653_47, sR_654_47, sR_655_47, sR_656_47, sR_657_47, sR_658_47, sR_659_47, sR_661_47, sR_662_47, sR_663_47, sR_664_47, sR_665_47, sR_669_47, sR_670_47, sR_671_47, sR_672_47, sR_673_47, sR_674_47, sR_676_47, sR_677_47, sR_679_47, sR_680_47, sR_681_47, SH_I, SH_A, SH_G, SH_C, hS, Option.getD_some, ne_eq, reduceCtorEq, not_false_eq_true, not_true_eq_false, Option.bind_some, Option.toList_none, Option.toList_some, List.nil_append, List.cons_append, List.append_nil, ↓reduceIte, and_self, true_and, and_true, false_and, and_false, or_true, true_or, or_false, false_or, Nat.reduceEqDiff, Nat.reduceAdd, Int32.reduceMul, Int32.reduceAdd, Int32.reduceSub, Int32.reduceToNatClampNeg, Int32.reduceOfNat, Int32.reduceLT, Int32.reduceLE, va_rf]
  rw [e0]
  generalize jsI (jsI (jsI (jsI (jsI σ 200 17 (nI W)) 199 17 (nI m)) 192 17 0) 193 17 0) 198 17 0 = σ0 at *
  obtain ⟨σ1, e1, f1, l1⟩ := c23a (d := d + 1) hS0
  have hS1 := f1.sh hS0
  obtain ⟨σ2, e2, f2, l2⟩ := c23b (d := d + 1) hS1
  have hS2 := f2.sh hS1
  have l1' : LT σ2 20 21 4 [] := ⟨by rw [(f2.2 20 (by decide)).1]; exact l1.1, fun l hl => by rw [(f2.2 21 (by decide)).2]; exact l1.2.1 l hl, l1.2.2⟩
  have q17 : ∀ g, jI σ2 g 17 = jI σ0 g 17 := fun g => by rw [(f2.2 17 (by decide)).1, (f1.2 17 (by decide)).1]
  have q24 : ∀ j, jA σ2 24 j = jA σ 24 j := fun j => by rw [(f2.2 24 (by decide)).2, (f1.2 24 (by decide)).2]; exact A0 j
  have hT2 : TX σ2 len b := f2.tx (by decide) (by decide) (f1.tx (by decide) (by decide) hT0)
  have hat : jI σ2 198 17 = nI 0 := by rw [q17]; exact B0.1
  have R2 : RD m W (0, [], [], fun j => jA σ 24 j) σ2 := ⟨hat, by rw [q17]; exact B0.2.1, by rw [q17]; exact B0.2.2.1, l1', l2, fun j _ => q24 j, by rw [q17]; exact B0.2.2.2⟩
  have cs := c24 (d := d) hS2 hT2 (Nat.zero_le len) hat
  refine ⟨jsI σ2 198 17 (nI (sk len b 0)), ?_, ?_, R2.at _⟩
  · simp (decide := true) only [e1, e2, cs, k22_32, k22_39, k22_43, sT_1, sT_2, sT_3, sT_16, sT_17, sT_18, sT_19, sT_20, sT_21, sT_22, sT_23, sT_24, sT_25, sT_26, sT_27, sT_28, sT_29, sT_30, sT_31, sT_32, sT_33, sT_34, sT_35, sT_36, sT_37, sT_38, sT_39, sT_40, sT_41, sT_42, sT_43, sT_44, sT_45, sT_46, sT_47, sT_48, sT_49, sT_50, sT_51, sT_52, sT_53, sT_54, sT_55, sT_56, sT_57, sT_58, sT_59, sT_60, sT_61, sT_62, sT_63, sT_64, sT_65, sT_66, sT_67, sT_68, sT_69, sT_70, sT_71, sT_72, sT_73, sT_74, sT_75, sT_76, sT_77, sT_78, sT_79, sT_80, sN_1, sN_2, sN_19, sN_21, sN_23, sN_24, sN_26, sN_29, sN_31, sN_33, sN_35, sN_36, sN_37, sN_39, sN_40, sN_42, sN_44, sN_45, sN_46, sN_48, sN_49, sN_50, sN_51, sN_52, sN_53, sN_54, sN_55, sN_56, sN_57, sN_58, sN_59, sN_60, sN_61, sN_62, sN_63, sN_64, sN_65, sN_66, sN_67, sN_68, sN_69, sN_70, sN_71, sN_72, sN_73, sN_74, sN_75, sN_76, sN_77, sN_78, sN_79, sN_80, sR_0_34, sR_0_38, sR_1_34, sR_1_38, sR_64_20, sR_64_22, sR_128_25, sR_128_28, sR_194_17, sR_195_17, sR_196_17, sR_197_17, sR_258_30, sR_258_32, sR_258_41, sR_384_43, sR_448_18, sR_512_27, sR_513_27, sR_514_27, sR_515_27, sR_516_27, sR_576_16, sR_577_16, sR_578_16, sR_579_16, sR_580_16, sR_581_16, sR_582_16, sR_583_16, sR_584_16, sR_641_47, sR_643_47, sR_645_47, sR_646_47, sR_647_47, sR_648_47, sR_649_47, sR_650_47, sR_651_47, sR_652_47, sR_653_47, sR_654_47, sR_655_47, sR_656_47, sR_657_47, sR_658_47, sR_659_47, sR_661_47, sR_662_47, sR_663_47, sR_664_47, sR_665_47, sR_669_47, sR_670_47, sR_671_47, sR_672_47, sR_673_47, sR_674_47, sR_676_47, sR_677_47, sR_679_47, sR_680_47, sR_681_47, SH_I, SH_A, SH_G, SH_C, hS1, hS2, Option.getD_some, ne_eq, reduceCtorEq, not_false_eq_true, not_true_eq_false, Option.bind_some, Option.toList_none, Option.toList_some, List.nil_append, List.cons_append, List.append_nil, ↓reduceIte, and_self, true_and, and_true, false_and, and_false, or_true, true_or, or_false, false_or, Nat.reduceEqDiff, Nat.reduceAdd, Int32.reduceMul, Int32.reduceAdd, Int32.reduceSub, Int32.reduceToNatClampNeg, Int32.reduceOfNat, Int32.reduceLT, Int32.reduceLE, va_rf]
  · exact (((F0.mono (by decide)).trans (f1.mono (by decide))).trans (f2.mono (by decide))).I (by decide)
theorem sOrds_f {len m W most : Nat} {b : Nat → Int32} (f n p : Nat) (rs ms : List Nat) (g h : Nat → Int32) : sOrds len b m W most f n (p, rs, ms, g) = sOrds len b m W most f n (p, rs, ms, h) := by
  cases f with
  | zero => rfl
  | succ f => rfl
theorem sOrds_le {len m W most : Nat} {b : Nat → Int32} : ∀ (f n : Nat) (s : jPS) (z : List (Nat → Int32) × jPS), s.1 ≤ len → sOrds len b m W most f n s = some z → z.2.1 ≤ len := by
  intro f
  induction f with
  | zero => intro n s z _ h; cases h
  | succ f ih =>
    intro n s z hp h
    obtain ⟨s1, h1, h⟩ := Option.bind_eq_some_iff.mp h
    obtain ⟨s2, h2, h⟩ := Option.bind_eq_some_iff.mp h
    obtain ⟨s3, h3, h⟩ := Option.bind_eq_some_iff.mp h
    obtain ⟨a1, a2, -⟩ := sName_ok hp h1
    obtain ⟨b1, b2, -⟩ := sRegs_ok _ _ _ _ a2 (Nat.le_refl _) h2
    obtain ⟨c1, c2, -⟩ := sNum_ok b2 h3
    have p := (sk_le (b := b) c2).2
    cases hc : sClose len b m (sk len b s3.1) with
    | some x =>
      rw [hc] at h
      cases h
      unfold sClose at hc
      split at hc
      · split at hc
        · rename_i hx
          cases hc
          have := tv_lit hx.2 (by decide)
          show sk len b s3.1 + 2 ≤ len
          omega
        · cases hc
      · split at hc
        · cases hc; exact p
        · cases hc
    | none =>
      rw [hc] at h
      by_cases h59 : tv len b (sk len b s3.1) = 59
      · simp only [if_pos h59] at h
        obtain ⟨y, hy, h⟩ := Option.map_eq_some_iff.mp h
        have := tv_lit h59 (by decide)
        have q := ih _ _ _ (show sk len b (sk len b s3.1 + 1) ≤ len from (sk_le (by omega)).2) hy
        rw [← h]; exact q
      · simp only [if_neg h59] at h; cases h
def sProg (len : Nat) (b : Nat → Int32) (W : Nat) : Option (List (Nat → Int32)) := if len ≤ sk len b 0 then some [] else (sOrds len b 0 W 24 25 0 (sk len b 0, [], [], fun _ => 0)).map (fun z => z.1)
def sRule (len : Nat) (b : Nat → Int32) (W : Nat) : Option (List (Nat → Int32) × List (Nat → Int32) × List Nat × List Nat) :=
  (sOrds len b 1 W 4 5 0 (sk len b 0, [], [], fun _ => 0)).bind (fun z => if len ≤ sk len b z.2.1 then some (z.1, [], z.2.2.1, z.2.2.2.1) else (sOrds len b 2 W 4 5 0 (sk len b z.2.1, z.2.2.1, z.2.2.2.1, fun _ => 0)).map (fun y => (z.1, y.1, y.2.2.1, y.2.2.2.1)))
/-- a row holds these orders -/
def RC (σ : jS) (q a : Nat) (os : List (Nat → Int32)) : Prop := jI σ 257 q = nI os.length ∧ ∀ i j, i < os.length → j < 6 → jA σ a (6 * i + j) = (os.getD i (fun _ => 0)) j
theorem c78 (hS : SH σ) (hQ : ST σ) (hT : TX σ len b) {q a : Nat} (hqa : q ≠ a) (hq : q ∉ [1, 2, 17, 18, 19, 20, 21, 22, 23, 24]) (ha : a ∉ [1, 2, 17, 18, 19, 20, 21, 22, 23, 24]) (hW : RW σ q a 24 0) :
    ∃ σ', jx (d + 7) 78 0 [some (.ref 17), some (.ref q), some (.int (nI W))] [] σ = some (none, σ') ∧ FR (q :: a :: rdl) σ σ' ∧ (∀ g, g ≠ 257 → jI σ' g q = jI σ g q) ∧ (match sProg len b W with | some os => jI σ' 192 17 = 0 ∧ RC σ' q a os | none => ¬ jI σ' 192 17 = 0) := by
  obtain ⟨σ1, e1, f1, r1⟩ := c22 (d := d + 4) (W := W) hS hQ hT 0
  obtain ⟨hS1, hQ1, hT1⟩ := rdS (l := []) f1 hS hQ hT
  rw [show nI 0 = (0 : Int32) from rfl] at e1
  have nq : q ∉ rdl := fun z => hq (by simp only [rdl, List.mem_cons, List.not_mem_nil, or_false] at z ⊢; omega)
  have hl : len ≤ 400 := hT.2.1
  have p2 := (sk_le (b := b) (Nat.zero_le len)).2
  have ra : jI σ1 198 17 = nI (sk len b 0) := r1.1
  have tl := hT1.1
  unfold sProg
  by_cases h : len ≤ sk len b 0
  · rw [if_pos h]
    have g : nI len ≤ nI (sk len b 0) := nI_le h (by omega)
    refine ⟨σ1, ?_, f1.mono (fun x hx => by simp [hx]), fun g _ => (f1.2 q nq).1 g, r1.2.2.2.2.2.2, ?_, fun i j hi => absurd hi (Nat.not_lt_zero i)⟩
    · simp (decide := true) only [k78_0, k78_6, k78_20, k78_25, k78_26, sT_1, sT_2, sT_3, sT_16, sT_17, sT_18, sT_19, sT_20, sT_21, sT_22, sT_23, sT_24, sT_25, sT_26, sT_27, sT_28, sT_29, sT_30, sT_31, sT_32, sT_33, sT_34, sT_35, sT_36, sT_37, sT_38, sT_39, sT_40, sT_41, sT_42, sT_43, sT_44, sT_45, sT_46, sT_47, sT_48, sT_49, sT_50, sT_51, sT_52, sT_53, sT_54, sT_55, sT_56, sT_57, sT_58, sT_59, sT_60, sT_61, sT_62, sT_63, sT_64, sT_65, sT_66, sT_67, sT_68, sT_69, sT_70, sT_71, sT_72, sT_73, sT_74, sT_75, sT_76, sT_77, sT_78, sT_79, sT_80, sN_1, sN_2, sN_19, sN_21, sN_23, sN_24, sN_26, sN_29, sN_31, sN_33, sN_35, sN_36, sN_37, sN_39, sN_40, sN_42, sN_44, sN_45, sN_46, sN_48, sN_49, sN_50, sN_51, sN_52, sN_53, sN_54, sN_55, sN_56, sN_57, sN_58, sN_59, sN_60, sN_61, sN_62, sN_63, sN_64, sN_65, sN_66, sN_67, sN_68, sN_69, sN_70, sN_71, sN_72, sN_73, sN_74, sN_75, sN_76, sN_77, sN_78, sN_79, sN_80, sR_0_34, sR_0_38, sR_1_34, sR_1_38, sR_64_20, sR_64_22, sR_128_25, sR_128_28, sR_194_17, sR_195_17, sR_196_17, sR_197_17, sR_258_30, sR_258_32, sR_258_41, sR_384_43, sR_448_18, sR_512_27, sR_513_27, sR_514_27, sR_515_27, sR_516_27, sR_576_16, sR_577_16, sR_578_16, sR_579_16, sR_580_16, sR_581_16, sR_582_16, sR_583_16, sR_584_16, sR_641_47, sR_643_47, sR_645_47, sR_646_47, sR_647_47, sR_648_47, sR_649_47, sR_650_47, sR_651_47, sR_652_47, sR_653_47, sR_654_47, sR_655_47, sR_656_47, sR_657_47, sR_658_47, sR_659_47, sR_661_47, sR_662_47, sR_663_47, sR_664_47, sR_665_47, sR_669_47, sR_670_47, sR_671_47, sR_672_47, sR_673_47, sR_674_47, sR_676_47, sR_677_47, sR_679_47, sR_680_47, sR_681_47, SH_I, SH_A, SH_G, SH_C, hS, hS1, e1, ra, tl, g, Option.getD_some, ne_eq, reduceCtorEq, not_false_eq_true, not_true_eq_false, Option.bind_some, Option.toList_none, Option.toList_some, List.nil_append, List.cons_append, List.append_nil, ↓reduceIte, and_self, true_and, and_true, false_and, and_false, or_true, true_or, or_false, false_or, Nat.reduceEqDiff, Nat.reduceAdd, Int32.reduceMul, Int32.reduceAdd, Int32.reduceSub, Int32.reduceToNatClampNeg, Int32.reduceOfNat, Int32.reduceLT, Int32.reduceLE, va_rf]
    · rw [(f1.2 q nq).1]; exact hW.2.2.2.2.2.1
  · rw [if_neg h]
    have g : ¬ nI len ≤ nI (sk len b 0) := nI_ge (by omega) (by omega)
    have co := c26 (d := d) (m := 0) (W := W) (len := len) (b := b) hqa hq ha (Or.inl rfl) (Nat.le_refl 24) 25 0 σ1 _ rfl (by decide) hS1 hQ1 hT1 r1 p2 (fun _ => hW.frame f1 nq) (by decide)
    rw [sOrds_f _ _ _ _ _ _ (fun _ => 0)] at co
    rw [show nI 0 = (0 : Int32) from rfl, ← k26_0] at co
    cases hg : sOrds len b 0 W 24 25 0 (sk len b 0, [], [], fun _ => 0) with
    | none =>
      rw [hg] at co
      obtain ⟨σ2, e2, f2, f3, f4⟩ := co
      refine ⟨σ2, ?_, (f1.mono (fun x hx => by simp [hx])).trans f2, fun g hg => by rw [f4 g hg, (f1.2 q nq).1], f3⟩
      simp (decide := true) only [k78_0, k78_6, k78_20, k78_25, k78_26, sT_1, sT_2, sT_3, sT_16, sT_17, sT_18, sT_19, sT_20, sT_21, sT_22, sT_23, sT_24, sT_25, sT_26, sT_27, sT_28, sT_29, sT_30, sT_31, sT_32, sT_33, sT_34, sT_35, sT_36, sT_37, sT_38, sT_39, sT_40, sT_41, sT_42, sT_43, sT_44, sT_45, sT_46, sT_47, sT_48, sT_49, sT_50, sT_51, sT_52, sT_53, sT_54, sT_55, sT_56, sT_57, sT_58, sT_59, sT_60, sT_61, sT_62, sT_63, sT_64, sT_65, sT_66, sT_67, sT_68, sT_69, sT_70, sT_71, sT_72, sT_73, sT_74, sT_75, sT_76, sT_77, sT_78, sT_79, sT_80, sN_1, sN_2, sN_19, sN_21, sN_23, sN_24, sN_26, sN_29, sN_31, sN_33, sN_35, sN_36, sN_37, sN_39, sN_40, sN_42, sN_44, sN_45, sN_46, sN_48, sN_49, sN_50, sN_51, sN_52, sN_53, sN_54, sN_55, sN_56, sN_57, sN_58, sN_59, sN_60, sN_61, sN_62, sN_63, sN_64, sN_65, sN_66, sN_67, sN_68, sN_69, sN_70, sN_71, sN_72, sN_73, sN_74, sN_75, sN_76, sN_77, sN_78, sN_79, sN_80, sR_0_34, sR_0_38, sR_1_34, sR_1_38, sR_64_20, sR_64_22, sR_128_25, sR_128_28, sR_194_17, sR_195_17, sR_196_17, sR_197_17, sR_258_30, sR_258_32, sR_258_41, sR_384_43, sR_448_18, sR_512_27, sR_513_27, sR_514_27, sR_515_27, sR_516_27, sR_576_16, sR_577_16, sR_578_16, sR_579_16, sR_580_16, sR_581_16, sR_582_16, sR_583_16, sR_584_16, sR_641_47, sR_643_47, sR_645_47, sR_646_47, sR_647_47, sR_648_47, sR_649_47, sR_650_47, sR_651_47, sR_652_47, sR_653_47, sR_654_47, sR_655_47, sR_656_47, sR_657_47, sR_658_47, sR_659_47, sR_661_47, sR_662_47, sR_663_47, sR_664_47, sR_665_47, sR_669_47, sR_670_47, sR_671_47, sR_672_47, sR_673_47, sR_674_47, sR_676_47, sR_677_47, sR_679_47, sR_680_47, sR_681_47, SH_I, SH_A, SH_G, SH_C, hS, hS1, e1, e2, ra, tl, g, Option.getD_some, ne_eq, reduceCtorEq, not_false_eq_true, not_true_eq_false, Option.bind_some, Option.toList_none, Option.toList_some, List.nil_append, List.cons_append, List.append_nil, ↓reduceIte, and_self, true_and, and_true, false_and, and_false, or_true, true_or, or_false, false_or, Nat.reduceEqDiff, Nat.reduceAdd, Int32.reduceMul, Int32.reduceAdd, Int32.reduceSub, Int32.reduceToNatClampNeg, Int32.reduceOfNat, Int32.reduceLT, Int32.reduceLE, va_rf]
    | some z =>
      obtain ⟨os, s2⟩ := z
      rw [hg] at co
      obtain ⟨σ2, e2, f2, f3, f4, f5, f6, f7⟩ := co
      refine ⟨σ2, ?_, (f1.mono (fun x hx => by simp [hx])).trans f2, fun g hg => by rw [f5 g hg, (f1.2 q nq).1], f3.2.2.2.2.2.2, ?_, ?_⟩
      · simp (decide := true) only [k78_0, k78_6, k78_20, k78_25, k78_26, sT_1, sT_2, sT_3, sT_16, sT_17, sT_18, sT_19, sT_20, sT_21, sT_22, sT_23, sT_24, sT_25, sT_26, sT_27, sT_28, sT_29, sT_30, sT_31, sT_32, sT_33, sT_34, sT_35, sT_36, sT_37, sT_38, sT_39, sT_40, sT_41, sT_42, sT_43, sT_44, sT_45, sT_46, sT_47, sT_48, sT_49, sT_50, sT_51, sT_52, sT_53, sT_54, sT_55, sT_56, sT_57, sT_58, sT_59, sT_60, sT_61, sT_62, sT_63, sT_64, sT_65, sT_66, sT_67, sT_68, sT_69, sT_70, sT_71, sT_72, sT_73, sT_74, sT_75, sT_76, sT_77, sT_78, sT_79, sT_80, sN_1, sN_2, sN_19, sN_21, sN_23, sN_24, sN_26, sN_29, sN_31, sN_33, sN_35, sN_36, sN_37, sN_39, sN_40, sN_42, sN_44, sN_45, sN_46, sN_48, sN_49, sN_50, sN_51, sN_52, sN_53, sN_54, sN_55, sN_56, sN_57, sN_58, sN_59, sN_60, sN_61, sN_62, sN_63, sN_64, sN_65, sN_66, sN_67, sN_68, sN_69, sN_70, sN_71, sN_72, sN_73, sN_74, sN_75, sN_76, sN_77, sN_78, sN_79, sN_80, sR_0_34, sR_0_38, sR_1_34, sR_1_38, sR_64_20, sR_64_22, sR_128_25, sR_128_28, sR_194_17, sR_195_17, sR_196_17, sR_197_17, sR_258_30, sR_258_32, sR_258_41, sR_384_43, sR_448_18, sR_512_27, sR_513_27, sR_514_27, sR_515_27, sR_516_27, sR_576_16, sR_577_16, sR_578_16, sR_579_16, sR_580_16, sR_581_16, sR_582_16, sR_583_16, sR_584_16, sR_641_47, sR_643_47, sR_645_47, sR_646_47, sR_647_47, sR_648_47, sR_649_47, sR_650_47, sR_651_47, sR_652_47, sR_653_47, sR_654_47, sR_655_47, sR_656_47, sR_657_47, sR_658_47, sR_659_47, sR_661_47, sR_662_47, sR_663_47, sR_664_47, sR_665_47, sR_669_47, sR_670_47, sR_671_47, sR_672_47, sR_673_47, sR_674_47, sR_676_47, sR_677_47, sR_679_47, sR_680_47, sR_681_47, SH_I, SH_A, SH_G, SH_C, hS, hS1, e1, e2, ra, tl, g, Option.getD_some, ne_eq, reduceCtorEq, not_false_eq_true, not_true_eq_false, Option.bind_some, Option.toList_none, Option.toList_some, List.nil_append, List.cons_append, List.append_nil, ↓reduceIte, and_self, true_and, and_true, false_and, and_false, or_true, true_or, or_false, false_or, Nat.reduceEqDiff, Nat.reduceAdd, Int32.reduceMul, Int32.reduceAdd, Int32.reduceSub, Int32.reduceToNatClampNeg, Int32.reduceOfNat, Int32.reduceLT, Int32.reduceLE, va_rf]
      · rw [f4, Nat.zero_add]
      · intro i j hi hj
        have := f7 i j hi hj
        rw [Nat.zero_add] at this
        exact this
theorem RC.frame {σ σ' : jS} {l : List Nat} {q a : Nat} {os : List (Nat → Int32)} (h : RC σ q a os) (hF : FR l σ σ') (hq : q ∉ l) (ha : a ∉ l) : RC σ' q a os := ⟨by rw [(hF.2 q hq).1]; exact h.1, fun i j hi hj => by rw [(hF.2 a ha).2]; exact h.2 i j hi hj⟩
/-- the cells of a rule: itself, its two rows with their fields -/
def RL (σ : jS) (q q1 a1 q2 a2 : Nat) : Prop := jT σ q = 6 ∧ jR σ 320 q = some q1 ∧ jR σ 321 q = some q2 ∧ [q, q1, a1, q2, a2].Nodup ∧ (∀ x, x ∈ [q, q1, a1, q2, a2] → x ∉ [1, 2, 16, 17, 18, 19, 20, 21, 22, 23, 24])
theorem c21 (hS : SH σ) (hQ : ST σ) (hT : TX σ len b) {q q1 a1 q2 a2 : Nat} (hL : RL σ q q1 a1 q2 a2) (hW1 : RW σ q1 a1 4 0) (hW2 : RW σ q2 a2 4 0) :
    ∃ σ', jx (d + 7) 21 0 [some (.ref 17), some (.ref q), some (.int (nI W))] [] σ = some (none, σ') ∧ FR (q :: q1 :: a1 :: q2 :: a2 :: rdl) σ σ' ∧ (∀ g, g ≠ 257 → jI σ' g q1 = jI σ g q1 ∧ jI σ' g q2 = jI σ g q2) ∧ (∀ g, g ≠ 324 → g ≠ 325 → jI σ' g q = jI σ g q) ∧
      (match sRule len b W with | some (o1, o2, rs, ms) => jI σ' 192 17 = 0 ∧ RC σ' q1 a1 o1 ∧ RC σ' q2 a2 o2 ∧ jI σ' 324 q = nI rs.length ∧ jI σ' 325 q = nI ms.length | none => ¬ jI σ' 192 17 = 0) := by
  obtain ⟨L1, L2, L3, L4, L5⟩ := hL
  simp only [List.nodup_cons, List.mem_cons, List.not_mem_nil, or_false, not_or, List.nodup_nil, not_false_eq_true, and_true] at L4
  obtain ⟨⟨n1, n2, n3, n4⟩, ⟨n5, n6, n7⟩, ⟨n8, n9⟩, n10⟩ := L4
  have Lq := L5 q (by simp)
  have Lq1 := L5 q1 (by simp)
  have La1 := L5 a1 (by simp)
  have Lq2 := L5 q2 (by simp)
  have La2 := L5 a2 (by simp)
  have sb1 : ∀ y, y ∈ rdl → y ∈ [1, 2, 16, 17, 18, 19, 20, 21, 22, 23, 24] := by decide
  have sb2 : ∀ y, y ∈ [1, 2, 17, 18, 19, 20, 21, 22, 23, 24] → y ∈ [1, 2, 16, 17, 18, 19, 20, 21, 22, 23, 24] := by decide
  obtain ⟨σ1, e1, f1, r1⟩ := c22 (d := d + 4) (W := W) hS hQ hT 1
  obtain ⟨hS1, hQ1, hT1⟩ := rdS (l := []) f1 hS hQ hT
  rw [show nI 1 = (1 : Int32) from rfl] at e1
  have hl : len ≤ 400 := hT.2.1
  have p2 := (sk_le (b := b) (Nat.zero_le len)).2
  have rd_q : q ∉ rdl ∧ q1 ∉ rdl ∧ a1 ∉ rdl ∧ q2 ∉ rdl ∧ a2 ∉ rdl := ⟨fun z => Lq (sb1 _ z), fun z => Lq1 (sb1 _ z), fun z => La1 (sb1 _ z), fun z => Lq2 (sb1 _ z), fun z => La2 (sb1 _ z)⟩
  have m17 : 17 ∉ [q] := fun z => Lq (by rw [← List.mem_singleton.mp z]; decide)
  have mq1 : q1 ∉ [q] := fun z => n1 (List.mem_singleton.mp z).symm
  have ma1 : a1 ∉ [q] := fun z => n2 (List.mem_singleton.mp z).symm
  have mq2 : q2 ∉ [q] := fun z => n3 (List.mem_singleton.mp z).symm
  have ma2 : a2 ∉ [q] := fun z => n4 (List.mem_singleton.mp z).symm
  have e_q1 : q1 ∉ [1, 2, 17, 18, 19, 20, 21, 22, 23, 24] := fun z => Lq1 (sb2 _ z)
  have e_a1 : a1 ∉ [1, 2, 17, 18, 19, 20, 21, 22, 23, 24] := fun z => La1 (sb2 _ z)
  have e_q2 : q2 ∉ [1, 2, 17, 18, 19, 20, 21, 22, 23, 24] := fun z => Lq2 (sb2 _ z)
  have e_a2 : a2 ∉ [1, 2, 17, 18, 19, 20, 21, 22, 23, 24] := fun z => La2 (sb2 _ z)
  have k0 : ∀ x, x ∈ [1, 2, 18, 19] → x ∉ q1 :: a1 :: rdl := by
    intro x hx z
    rcases List.mem_cons.mp z with h | h
    · subst h
      exact e_q1 ((by decide : ∀ y, y ∈ [1, 2, 18, 19] → y ∈ [1, 2, 17, 18, 19, 20, 21, 22, 23, 24]) _ hx)
    · rcases List.mem_cons.mp h with h | h
      · subst h
        exact e_a1 ((by decide : ∀ y, y ∈ [1, 2, 18, 19] → y ∈ [1, 2, 17, 18, 19, 20, 21, 22, 23, 24]) _ hx)
      · exact (by decide : ∀ y, y ∈ [1, 2, 18, 19] → y ∉ rdl) _ hx h
  have k18 : 18 ∉ q1 :: a1 :: rdl ∧ 19 ∉ q1 :: a1 :: rdl ∧ 1 ∉ q1 :: a1 :: rdl ∧ 2 ∉ q1 :: a1 :: rdl := ⟨k0 18 (by decide), k0 19 (by decide), k0 1 (by decide), k0 2 (by decide)⟩
  have mem1 : ∀ x, x ∈ q1 :: a1 :: rdl → x ∈ q1 :: a1 :: q2 :: a2 :: rdl := by
    intro x hx
    simp only [List.mem_cons] at hx ⊢
    rcases hx with h | h | h
    · exact Or.inl h
    · exact Or.inr (Or.inl h)
    · exact Or.inr (Or.inr (Or.inr (Or.inr h)))
  have mem0 : ∀ x, x ∈ rdl → x ∈ q1 :: a1 :: q2 :: a2 :: rdl := fun x hx => mem1 x (List.mem_cons_of_mem _ (List.mem_cons_of_mem _ hx))
  have mem2 : ∀ x, x ∈ q2 :: a2 :: rdl → x ∈ q1 :: a1 :: q2 :: a2 :: rdl := fun x hx => List.mem_cons_of_mem _ (List.mem_cons_of_mem _ hx)
  clear Lq Lq1 La1 Lq2 La2 L5
  have co := c26 (d := d) (m := 1) (W := W) (len := len) (b := b) n5 e_q1 e_a1 (Or.inr (Or.inl rfl)) (show 4 ≤ 24 by decide) 5 0 σ1 _ rfl (by decide) hS1 hQ1 hT1 r1 p2 (fun _ => hW1.frame f1 rd_q.2.1) (by decide)
  rw [sOrds_f _ _ _ _ _ _ (fun _ => 0)] at co
  rw [show nI 0 = (0 : Int32) from rfl, ← k26_0] at co
  have T1 : jT σ1 q = 6 := by rw [f1.1.1]; exact L1
  have R1 : jR σ1 320 q = some q1 := by rw [f1.1.2.2.1]; exact L2
  have sub : ∀ {σ σ' : jS}, FR rdl σ σ' → FR (q :: q1 :: a1 :: q2 :: a2 :: rdl) σ σ' := fun h => h.mono (fun x hx => by simp [hx])
  have fin : ∀ (σ5 : jS), FR (q1 :: a1 :: q2 :: a2 :: rdl) σ σ5 → SH σ5 → jx (d + 7) 21 49 [some (.ref 17), some (.ref q), some (.int (nI W))] [] σ5 = some (none, jsI (jsI σ5 324 q (jI σ5 65 20)) 325 q (jI σ5 65 22)) := by
    intro σ5 F5 hS5
    have T5 : jT σ5 q = 6 := by rw [F5.1.1]; exact L1
    simp (decide := true) only [k21_49, sT_1, sT_2, sT_3, sT_16, sT_17, sT_18, sT_19, sT_20, sT_21, sT_22, sT_23, sT_24, sT_25, sT_26, sT_27, sT_28, sT_29, sT_30, sT_31, sT_32, sT_33, sT_34, sT_35, sT_36, sT_37, sT_38, sT_39, sT_40, sT_41, sT_42, sT_43, sT_44, sT_45, sT_46, sT_47, sT_48, sT_49, sT_50, sT_51, sT_52, sT_53, sT_54, sT_55, sT_56, sT_57, sT_58, sT_59, sT_60, sT_61, sT_62, sT_63, sT_64, sT_65, sT_66, sT_67, sT_68, sT_69, sT_70, sT_71, sT_72, sT_73, sT_74, sT_75, sT_76, sT_77, sT_78, sT_79, sT_80, sN_1, sN_2, sN_19, sN_21, sN_23, sN_24, sN_26, sN_29, sN_31, sN_33, sN_35, sN_36, sN_37, sN_39, sN_40, sN_42, sN_44, sN_45, sN_46, sN_48, sN_49, sN_50, sN_51, sN_52, sN_53, sN_54, sN_55, sN_56, sN_57, sN_58, sN_59, sN_60, sN_61, sN_62, sN_63, sN_64, sN_65, sN_66, sN_67, sN_68, sN_69, sN_70, sN_71, sN_72, sN_73, sN_74, sN_75, sN_76, sN_77, sN_78, sN_79, sN_80, sR_0_34, sR_0_38, sR_1_34, sR_1_38, sR_64_20, sR_64_22, sR_128_25, sR_128_28, sR_194_17, sR_195_17, sR_196_17, sR_197_17, sR_258_30, sR_258_32, sR_258_41, sR_384_43, sR_448_18, sR_512_27, sR_513_27, sR_514_27, sR_515_27, sR_516_27, sR_576_16, sR_577_16, sR_578_16, sR_579_16, sR_580_16, sR_581_16, sR_582_16, sR_583_16, sR_584_16, sR_641_47, sR_643_47, sR_645_47, sR_646_47, sR_647_47, sR_648_47, sR_649_47, sR_650_47, sR_651_47, sR_652_47, sR_653_47, sR_654_47, sR_655_47, sR_656_47, sR_657_47, sR_658_47, sR_659_47, sR_661_47, sR_662_47, sR_663_47, sR_664_47, sR_665_47, sR_669_47, sR_670_47, sR_671_47, sR_672_47, sR_673_47, sR_674_47, sR_676_47, sR_677_47, sR_679_47, sR_680_47, sR_681_47, SH_I, SH_A, SH_G, SH_C, hS5, T5, Option.getD_some, ne_eq, reduceCtorEq, not_false_eq_true, not_true_eq_false, Option.bind_some, Option.toList_none, Option.toList_some, List.nil_append, List.cons_append, List.append_nil, ↓reduceIte, and_self, true_and, and_true, false_and, and_false, or_true, true_or, or_false, false_or, Nat.reduceEqDiff, Nat.reduceAdd, Int32.reduceMul, Int32.reduceAdd, Int32.reduceSub, Int32.reduceToNatClampNeg, Int32.reduceOfNat, Int32.reduceLT, Int32.reduceLE, va_rf]
  have nq5 : q ∉ q1 :: a1 :: q2 :: a2 :: rdl := by
    have := rd_q.1
    simp only [List.mem_cons, not_or]
    exact ⟨n1, n2, n3, n4, this⟩
  have out : ∀ (σ5 : jS), FR (q1 :: a1 :: q2 :: a2 :: rdl) σ σ5 → (FR (q :: q1 :: a1 :: q2 :: a2 :: rdl) σ (jsI (jsI σ5 324 q (jI σ5 65 20)) 325 q (jI σ5 65 22)) ∧ (∀ g, g ≠ 324 → g ≠ 325 → jI (jsI (jsI σ5 324 q (jI σ5 65 20)) 325 q (jI σ5 65 22)) g q = jI σ g q)) ∧ (FR [q] σ5 (jsI (jsI σ5 324 q (jI σ5 65 20)) 325 q (jI σ5 65 22)) ∧ jI (jsI (jsI σ5 324 q (jI σ5 65 20)) 325 q (jI σ5 65 22)) 324 q = jI σ5 65 20 ∧ jI (jsI (jsI σ5 324 q (jI σ5 65 20)) 325 q (jI σ5 65 22)) 325 q = jI σ5 65 22) := by
    intro σ5 F5
    refine ⟨⟨((F5.mono (fun x hx => List.mem_cons_of_mem _ hx)).I (by simp)).I (by simp), fun g h1 h2 => ?_⟩, ((FR.refl _ _).I (by simp)).I (by simp), ?_, ?_⟩
    · rw [zI_I, if_neg (fun z => h2 z.1), zI_I, if_neg (fun z => h1 z.1)]; exact (F5.2 q nq5).1 g
    · rw [zI_I, if_neg (fun z => absurd z.1 (by decide)), zI_I, if_pos ⟨rfl, rfl⟩]
    · rw [zI_I, if_pos ⟨rfl, rfl⟩]
  unfold sRule
  cases hg : sOrds len b 1 W 4 5 0 (sk len b 0, [], [], fun _ => 0) with
  | none =>
    rw [hg] at co
    obtain ⟨σ2, e2, f2, f3, f4⟩ := co
    have hS2 := f2.sh hS1
    have F5 : FR (q1 :: a1 :: q2 :: a2 :: rdl) σ σ2 := (f1.mono mem0).trans (f2.mono mem1)
    obtain ⟨⟨o1, o2⟩, o3, o4, o5⟩ := out σ2 F5
    refine ⟨_, ?_, o1, fun g hg => ⟨?_, ?_⟩, o2, ?_⟩
    · have st : jx (d + 7) 21 0 [some (.ref 17), some (.ref q), some (.int (nI W))] [] σ = jx (d + 7) 21 49 [some (.ref 17), some (.ref q), some (.int (nI W))] [] σ2 := by
        simp (decide := true) only [k21_0, k21_6, k21_14, sT_1, sT_2, sT_3, sT_16, sT_17, sT_18, sT_19, sT_20, sT_21, sT_22, sT_23, sT_24, sT_25, sT_26, sT_27, sT_28, sT_29, sT_30, sT_31, sT_32, sT_33, sT_34, sT_35, sT_36, sT_37, sT_38, sT_39, sT_40, sT_41, sT_42, sT_43, sT_44, sT_45, sT_46, sT_47, sT_48, sT_49, sT_50, sT_51, sT_52, sT_53, sT_54, sT_55, sT_56, sT_57, sT_58, sT_59, sT_60, sT_61, sT_62, sT_63, sT_64, sT_65, sT_66, sT_67, sT_68, sT_69, sT_70, sT_71, sT_72, sT_73, sT_74, sT_75, sT_76, sT_77, sT_78, sT_79, sT_80, sN_1, sN_2, sN_19, sN_21, sN_23, sN_24, sN_26, sN_29, sN_31, sN_33, sN_35, sN_36, sN_37, sN_39, sN_40, sN_42, sN_44, sN_45, sN_46, sN_48, sN_49, sN_50, sN_51, sN_52, sN_53, sN_54, sN_55, sN_56, sN_57, sN_58, sN_59, sN_60, sN_61, sN_62, sN_63, sN_64, sN_65, sN_66, sN_67, sN_68, sN_69, sN_70, sN_71, sN_72, sN_73, sN_74, sN_75, sN_76, sN_77, sN_78, sN_79, sN_80, sR_0_34, sR_0_38, sR_1_34, sR_1_38, sR_64_20, sR_64_22, sR_128_25, sR_128_28, sR_194_17, sR_195_17, sR_196_17, sR_197_17, sR_258_30, sR_258_32, sR_258_41, sR_384_43, sR_448_18, sR_512_27, sR_513_27, sR_514_27, sR_515_27, sR_516_27, sR_576_16, sR_577_16, sR_578_16, sR_579_16, sR_580_16, sR_581_16, sR_582_16, sR_583_16, sR_584_16, sR_641_47, sR_643_47, sR_645_47, sR_646_47, sR_647_47, sR_648_47, sR_649_47, sR_650_47, sR_651_47, sR_652_47, sR_653_47, sR_654_47, sR_655_47, sR_656_47, sR_657_47, sR_658_47, sR_659_47, sR_661_47, sR_662_47, sR_663_47, sR_664_47, sR_665_47, sR_669_47, sR_670_47, sR_671_47, sR_672_47, sR_673_47, sR_674_47, sR_676_47, sR_677_47, sR_679_47, sR_680_47, sR_681_47, SH_I, SH_A, SH_G, SH_C, hS, hS1, T1, R1, e1, e2, Option.getD_some, ne_eq, reduceCtorEq, not_false_eq_true, not_true_eq_false, Option.bind_some, Option.toList_none, Option.toList_some, List.nil_append, List.cons_append, List.append_nil, ↓reduceIte, and_self, true_and, and_true, false_and, and_false, or_true, true_or, or_false, false_or, Nat.reduceEqDiff, Nat.reduceAdd, Int32.reduceMul, Int32.reduceAdd, Int32.reduceSub, Int32.reduceToNatClampNeg, Int32.reduceOfNat, Int32.reduceLT, Int32.reduceLE, va_rf]
      rw [st]; exact fin σ2 F5 hS2
    · rw [(o3.2 q1 mq1).1, f4 g hg, (f1.2 q1 rd_q.2.1).1]
    · rw [(o3.2 q2 mq2).1, (f2.2 q2 (by simp only [List.mem_cons, not_or]; exact ⟨fun z => n6 z.symm, fun z => n8 z.symm, rd_q.2.2.2.1⟩)).1, (f1.2 q2 rd_q.2.2.2.1).1]
    · rw [(o3.2 17 m17).1]; exact f3
  | some z =>
    obtain ⟨os1, s2⟩ := z
    rw [hg] at co
    obtain ⟨σ2, e2, f2, f3, f4, f5, f6, f7⟩ := co
    have hS2 := f2.sh hS1
    have sOK : s2.1 ≤ len := sOrds_le _ _ _ _ p2 hg
    have hT2 : TX σ2 len b := f2.tx k18.1 k18.2.1 hT1
    have hQ2 : ST σ2 := f2.st k18.2.2.1 k18.2.2.2 hQ1
    -- the second side is read
    have R3 : RD 2 W s2 (jsI σ2 199 17 2) := by
      obtain ⟨h1, h2, h3, h4, h5, h6, h7⟩ := f3
      refine ⟨by rw [zI_I, if_neg (by decide)]; exact h1, by rw [zI_I, if_pos ⟨rfl, rfl⟩]; rfl, by rw [zI_I, if_neg (by decide)]; exact h3, LT_I (by decide) h4, LT_I (by decide) h5, h6, by rw [zI_I, if_neg (by decide)]; exact h7⟩
    have F3 : FR rdl σ2 (jsI σ2 199 17 2) := (FR.refl _ _).I (by decide)
    obtain ⟨hS3, hQ3, hT3⟩ := rdS (l := []) F3 hS2 hQ2 hT2
    have cs := c24 (d := d + 5) hS3 hT3 sOK R3.1
    have R4 := R3.at (sk len b s2.1)
    have F4 : FR rdl σ2 (jsI (jsI σ2 199 17 2) 198 17 (nI (sk len b s2.1))) := F3.I (by decide)
    obtain ⟨hS4, hQ4, hT4⟩ := rdS (l := []) F4 hS2 hQ2 hT2
    generalize jsI (jsI σ2 199 17 2) 198 17 (nI (sk len b s2.1)) = σ4 at cs R4 F4 hS4 hQ4 hT4
    have ra4 : jI σ4 198 17 = nI (sk len b s2.1) := R4.1
    have tl4 := hT4.1
    have p4 := (sk_le (b := b) sOK).2
    have FB : FR (q1 :: a1 :: q2 :: a2 :: rdl) σ σ4 := ((f1.mono mem0).trans (f2.mono mem1)).trans (F4.mono mem0)
    have pre : jx (d + 7) 21 0 [some (.ref 17), some (.ref q), some (.int (nI W))] [] σ = jx (d + 7) 21 26 [some (.ref 17), some (.ref q), some (.int (nI W))] [] σ4 := by
      simp (decide := true) only [k21_0, k21_6, k21_14, k21_17, sT_1, sT_2, sT_3, sT_16, sT_17, sT_18, sT_19, sT_20, sT_21, sT_22, sT_23, sT_24, sT_25, sT_26, sT_27, sT_28, sT_29, sT_30, sT_31, sT_32, sT_33, sT_34, sT_35, sT_36, sT_37, sT_38, sT_39, sT_40, sT_41, sT_42, sT_43, sT_44, sT_45, sT_46, sT_47, sT_48, sT_49, sT_50, sT_51, sT_52, sT_53, sT_54, sT_55, sT_56, sT_57, sT_58, sT_59, sT_60, sT_61, sT_62, sT_63, sT_64, sT_65, sT_66, sT_67, sT_68, sT_69, sT_70, sT_71, sT_72, sT_73, sT_74, sT_75, sT_76, sT_77, sT_78, sT_79, sT_80, sN_1, sN_2, sN_19, sN_21, sN_23, sN_24, sN_26, sN_29, sN_31, sN_33, sN_35, sN_36, sN_37, sN_39, sN_40, sN_42, sN_44, sN_45, sN_46, sN_48, sN_49, sN_50, sN_51, sN_52, sN_53, sN_54, sN_55, sN_56, sN_57, sN_58, sN_59, sN_60, sN_61, sN_62, sN_63, sN_64, sN_65, sN_66, sN_67, sN_68, sN_69, sN_70, sN_71, sN_72, sN_73, sN_74, sN_75, sN_76, sN_77, sN_78, sN_79, sN_80, sR_0_34, sR_0_38, sR_1_34, sR_1_38, sR_64_20, sR_64_22, sR_128_25, sR_128_28, sR_194_17, sR_195_17, sR_196_17, sR_197_17, sR_258_30, sR_258_32, sR_258_41, sR_384_43, sR_448_18, sR_512_27, sR_513_27, sR_514_27, sR_515_27, sR_516_27, sR_576_16, sR_577_16, sR_578_16, sR_579_16, sR_580_16, sR_581_16, sR_582_16, sR_583_16, sR_584_16, sR_641_47, sR_643_47, sR_645_47, sR_646_47, sR_647_47, sR_648_47, sR_649_47, sR_650_47, sR_651_47, sR_652_47, sR_653_47, sR_654_47, sR_655_47, sR_656_47, sR_657_47, sR_658_47, sR_659_47, sR_661_47, sR_662_47, sR_663_47, sR_664_47, sR_665_47, sR_669_47, sR_670_47, sR_671_47, sR_672_47, sR_673_47, sR_674_47, sR_676_47, sR_677_47, sR_679_47, sR_680_47, sR_681_47, SH_I, SH_A, SH_G, SH_C, hS, hS1, hS2, T1, R1, e1, e2, cs, Option.getD_some, ne_eq, reduceCtorEq, not_false_eq_true, not_true_eq_false, Option.bind_some, Option.toList_none, Option.toList_some, List.nil_append, List.cons_append, List.append_nil, ↓reduceIte, and_self, true_and, and_true, false_and, and_false, or_true, true_or, or_false, false_or, Nat.reduceEqDiff, Nat.reduceAdd, Int32.reduceMul, Int32.reduceAdd, Int32.reduceSub, Int32.reduceToNatClampNeg, Int32.reduceOfNat, Int32.reduceLT, Int32.reduceLE, va_rf]
    have C4 : RC σ4 q1 a1 os1 := by
      refine ⟨by rw [(F4.2 q1 rd_q.2.1).1, f4, Nat.zero_add], fun i j hi hj => ?_⟩
      have := f7 i j hi hj
      rw [Nat.zero_add] at this
      rw [(F4.2 a1 rd_q.2.2.1).2]; exact this
    have I4 : ∀ g, g ≠ 257 → jI σ4 g q1 = jI σ g q1 := fun g hg => by rw [(F4.2 q1 rd_q.2.1).1, f5 g hg, (f1.2 q1 rd_q.2.1).1]
    have q2n : q2 ∉ q1 :: a1 :: rdl := by simp only [List.mem_cons, not_or]; exact ⟨fun z => n6 z.symm, fun z => n8 z.symm, rd_q.2.2.2.1⟩
    have I5 : ∀ g, jI σ4 g q2 = jI σ g q2 := fun g => by rw [(F4.2 q2 rd_q.2.2.2.1).1, (f2.2 q2 q2n).1, (f1.2 q2 rd_q.2.2.2.1).1]
    have W4 : RW σ4 q2 a2 4 0 := by
      obtain ⟨w1, w2, w3, w4, w5, w6, w7⟩ := hW2
      exact ⟨by rw [FB.1.1]; exact w1, by rw [FB.1.2.2.1]; exact w2, by rw [FB.1.1]; exact w3, by rw [FB.1.2.1]; exact w4, by rw [I5]; exact w5, by rw [I5]; exact w6, w7⟩
    rw [Option.bind_some]
    by_cases h : len ≤ sk len b s2.1
    · rw [if_pos h]
      have g : nI len ≤ nI (sk len b s2.1) := nI_le h (by omega)
      obtain ⟨⟨o1, o2⟩, o3, o4, o5⟩ := out σ4 FB
      refine ⟨_, ?_, o1, fun g hg => ⟨?_, ?_⟩, o2, ?_, ?_, ?_, ?_, ?_⟩
      · rw [pre]
        have st : jx (d + 7) 21 26 [some (.ref 17), some (.ref q), some (.int (nI W))] [] σ4 = jx (d + 7) 21 49 [some (.ref 17), some (.ref q), some (.int (nI W))] [] σ4 := by
          simp (decide := true) only [k21_26, sT_1, sT_2, sT_3, sT_16, sT_17, sT_18, sT_19, sT_20, sT_21, sT_22, sT_23, sT_24, sT_25, sT_26, sT_27, sT_28, sT_29, sT_30, sT_31, sT_32, sT_33, sT_34, sT_35, sT_36, sT_37, sT_38, sT_39, sT_40, sT_41, sT_42, sT_43, sT_44, sT_45, sT_46, sT_47, sT_48, sT_49, sT_50, sT_51, sT_52, sT_53, sT_54, sT_55, sT_56, sT_57, sT_58, sT_59, sT_60, sT_61, sT_62, sT_63, sT_64, sT_65, sT_66, sT_67, sT_68, sT_69, sT_70, sT_71, sT_72, sT_73, sT_74, sT_75, sT_76, sT_77, sT_78, sT_79, sT_80, sN_1, sN_2, sN_19, sN_21, sN_23, sN_24, sN_26, sN_29, sN_31, sN_33, sN_35, sN_36, sN_37, sN_39, sN_40, sN_42, sN_44, sN_45, sN_46, sN_48, sN_49, sN_50, sN_51, sN_52, sN_53, sN_54, sN_55, sN_56, sN_57, sN_58, sN_59, sN_60, sN_61, sN_62, sN_63, sN_64, sN_65, sN_66, sN_67, sN_68, sN_69, sN_70, sN_71, sN_72, sN_73, sN_74, sN_75, sN_76, sN_77, sN_78, sN_79, sN_80, sR_0_34, sR_0_38, sR_1_34, sR_1_38, sR_64_20, sR_64_22, sR_128_25, sR_128_28, sR_194_17, sR_195_17, sR_196_17, sR_197_17, sR_258_30, sR_258_32, sR_258_41, sR_384_43, sR_448_18, sR_512_27, sR_513_27, sR_514_27, sR_515_27, sR_516_27, sR_576_16, sR_577_16, sR_578_16, sR_579_16, sR_580_16, sR_581_16, sR_582_16, sR_583_16, sR_584_16, sR_641_47, sR_643_47, sR_645_47, sR_646_47, sR_647_47, sR_648_47, sR_649_47, sR_650_47, sR_651_47, sR_652_47, sR_653_47, sR_654_47, sR_655_47, sR_656_47, sR_657_47, sR_658_47, sR_659_47, sR_661_47, sR_662_47, sR_663_47, sR_664_47, sR_665_47, sR_669_47, sR_670_47, sR_671_47, sR_672_47, sR_673_47, sR_674_47, sR_676_47, sR_677_47, sR_679_47, sR_680_47, sR_681_47, SH_I, SH_A, SH_G, SH_C, hS4, ra4, tl4, g, Option.getD_some, ne_eq, reduceCtorEq, not_false_eq_true, not_true_eq_false, Option.bind_some, Option.toList_none, Option.toList_some, List.nil_append, List.cons_append, List.append_nil, ↓reduceIte, and_self, true_and, and_true, false_and, and_false, or_true, true_or, or_false, false_or, Nat.reduceEqDiff, Nat.reduceAdd, Int32.reduceMul, Int32.reduceAdd, Int32.reduceSub, Int32.reduceToNatClampNeg, Int32.reduceOfNat, Int32.reduceLT, Int32.reduceLE, va_rf]
        rw [st]; exact fin σ4 FB hS4
      · rw [(o3.2 q1 mq1).1]; exact I4 g hg
      · rw [(o3.2 q2 mq2).1]; exact I5 g
      · rw [(o3.2 17 m17).1]; exact R4.2.2.2.2.2.2
      · exact C4.frame o3 mq1 ma1
      · exact ⟨by rw [(o3.2 q2 mq2).1]; exact W4.2.2.2.2.2.1, fun i j hi => absurd hi (Nat.not_lt_zero i)⟩
      · rw [o4]; exact R4.2.2.2.1.1
      · rw [o5]; exact R4.2.2.2.2.1.1
    · rw [if_neg h]
      have g : ¬ nI len ≤ nI (sk len b s2.1) := nI_ge (by omega) (by omega)
      have co2 := c26 (d := d) (m := 2) (W := W) (len := len) (b := b) n10 e_q2 e_a2 (Or.inr (Or.inr rfl)) (show 4 ≤ 24 by decide) 5 0 σ4 _ rfl (by decide) hS4 hQ4 hT4 R4 p4 (fun _ => W4) (by decide)
      rw [show (sk len b s2.1, s2.2) = (sk len b s2.1, s2.2.1, s2.2.2.1, s2.2.2.2) from rfl, sOrds_f _ _ _ _ _ _ (fun _ => 0)] at co2
      rw [show nI 0 = (0 : Int32) from rfl, ← k26_0] at co2
      have T4 : jT σ4 q = 6 := by rw [FB.1.1]; exact L1
      have RR4 : jR σ4 321 q = some q2 := by rw [FB.1.2.2.1]; exact L3
      have q1n : q1 ∉ q2 :: a2 :: rdl := by simp only [List.mem_cons, not_or]; exact ⟨n6, n7, rd_q.2.1⟩
      have a1n : a1 ∉ q2 :: a2 :: rdl := by simp only [List.mem_cons, not_or]; exact ⟨n8, n9, rd_q.2.2.1⟩
      cases hg2 : sOrds len b 2 W 4 5 0 (sk len b s2.1, s2.2.1, s2.2.2.1, fun _ => 0) with
      | none =>
        rw [hg2] at co2
        obtain ⟨σ5, e5, g5, g6, g7⟩ := co2
        have hS5 := g5.sh hS4
        have F5 := FB.trans (g5.mono mem2)
        obtain ⟨⟨o1, o2⟩, o3, o4, o5⟩ := out σ5 F5
        have T5 : jT σ5 q = 6 := by rw [F5.1.1]; exact L1
        refine ⟨_, ?_, o1, fun g hg => ⟨?_, ?_⟩, o2, ?_⟩
        · rw [pre]
          simp (decide := true) only [k21_26, k21_40, k21_48, sT_1, sT_2, sT_3, sT_16, sT_17, sT_18, sT_19, sT_20, sT_21, sT_22, sT_23, sT_24, sT_25, sT_26, sT_27, sT_28, sT_29, sT_30, sT_31, sT_32, sT_33, sT_34, sT_35, sT_36, sT_37, sT_38, sT_39, sT_40, sT_41, sT_42, sT_43, sT_44, sT_45, sT_46, sT_47, sT_48, sT_49, sT_50, sT_51, sT_52, sT_53, sT_54, sT_55, sT_56, sT_57, sT_58, sT_59, sT_60, sT_61, sT_62, sT_63, sT_64, sT_65, sT_66, sT_67, sT_68, sT_69, sT_70, sT_71, sT_72, sT_73, sT_74, sT_75, sT_76, sT_77, sT_78, sT_79, sT_80, sN_1, sN_2, sN_19, sN_21, sN_23, sN_24, sN_26, sN_29, sN_31, sN_33, sN_35, sN_36, sN_37, sN_39, sN_40, sN_42, sN_44, sN_45, sN_46, sN_48, sN_49, sN_50, sN_51, sN_52, sN_53, sN_54, sN_55, sN_56, sN_57, sN_58, sN_59, sN_60, sN_61, sN_62, sN_63, sN_64, sN_65, sN_66, sN_67, sN_68, sN_69, sN_70, sN_71, sN_72, sN_73, sN_74, sN_75, sN_76, sN_77, sN_78, sN_79, sN_80, sR_0_34, sR_0_38, sR_1_34, sR_1_38, sR_64_20, sR_64_22, sR_128_25, sR_128_28, sR_194_17, sR_195_17, sR_196_17, sR_197_17, sR_258_30, sR_258_32, sR_258_41, sR_384_43, sR_448_18, sR_512_27, sR_513_27, sR_514_27, sR_515_27, sR_516_27, sR_576_16, sR_577_16, sR_578_16, sR_579_16, sR_580_16, sR_581_16, sR_582_16, sR_583_16, sR_584_16, sR_641_47, sR_643_47, sR_645_47, sR_646_47, sR_647_47, sR_648_47, sR_649_47, sR_650_47, sR_651_47, sR_652_47, sR_653_47, sR_654_47, sR_655_47, sR_656_47, sR_657_47, sR_658_47, sR_659_47, sR_661_47, sR_662_47, sR_663_47, sR_664_47, sR_665_47, sR_669_47, sR_670_47, sR_671_47, sR_672_47, sR_673_47, sR_674_47, sR_676_47, sR_677_47, sR_679_47, sR_680_47, sR_681_47, SH_I, SH_A, SH_G, SH_C, hS4, hS5, ra4, tl4, g, T4, T5, RR4, e5, Option.getD_some, ne_eq, reduceCtorEq, not_false_eq_true, not_true_eq_false, Option.bind_some, Option.toList_none, Option.toList_some, List.nil_append, List.cons_append, List.append_nil, ↓reduceIte, and_self, true_and, and_true, false_and, and_false, or_true, true_or, or_false, false_or, Nat.reduceEqDiff, Nat.reduceAdd, Int32.reduceMul, Int32.reduceAdd, Int32.reduceSub, Int32.reduceToNatClampNeg, Int32.reduceOfNat, Int32.reduceLT, Int32.reduceLE, va_rf]
        · rw [(o3.2 q1 mq1).1, (g5.2 q1 q1n).1]; exact I4 g hg
        · rw [(o3.2 q2 mq2).1, g7 g hg]; exact I5 g
        · show ¬ _
          rw [(o3.2 17 m17).1]; exact g6
      | some z2 =>
        obtain ⟨os2, s5⟩ := z2
        rw [hg2] at co2
        obtain ⟨σ5, e5, g5, g6, g7, g8, g9, g10⟩ := co2
        have hS5 := g5.sh hS4
        have F5 := FB.trans (g5.mono mem2)
        obtain ⟨⟨o1, o2⟩, o3, o4, o5⟩ := out σ5 F5
        have T5 : jT σ5 q = 6 := by rw [F5.1.1]; exact L1
        refine ⟨_, ?_, o1, fun g hg => ⟨?_, ?_⟩, o2, ?_, ?_, ?_, ?_, ?_⟩
        · rw [pre]
          simp (decide := true) only [k21_26, k21_40, k21_48, sT_1, sT_2, sT_3, sT_16, sT_17, sT_18, sT_19, sT_20, sT_21, sT_22, sT_23, sT_24, sT_25, sT_26, sT_27, sT_28, sT_29, sT_30, sT_31, sT_32, sT_33, sT_34, sT_35, sT_36, sT_37, sT_38, sT_39, sT_40, sT_41, sT_42, sT_43, sT_44, sT_45, sT_46, sT_47, sT_48, sT_49, sT_50, sT_51, sT_52, sT_53, sT_54, sT_55, sT_56, sT_57, sT_58, sT_59, sT_60, sT_61, sT_62, sT_63, sT_64, sT_65, sT_66, sT_67, sT_68, sT_69, sT_70, sT_71, sT_72, sT_73, sT_74, sT_75, sT_76, sT_77, sT_78, sT_79, sT_80, sN_1, sN_2, sN_19, sN_21, sN_23, sN_24, sN_26, sN_29, sN_31, sN_33, sN_35, sN_36, sN_37, sN_39, sN_40, sN_42, sN_44, sN_45, sN_46, sN_48, sN_49, sN_50, sN_51, sN_52, sN_53, sN_54, sN_55, sN_56, sN_57, sN_58, sN_59, sN_60, sN_61, sN_62, sN_63, sN_64, sN_65, sN_66, sN_67, sN_68, sN_69, sN_70, sN_71, sN_72, sN_73, sN_74, sN_75, sN_76, sN_77, sN_78, sN_79, sN_80, sR_0_34, sR_0_38, sR_1_34, sR_1_38, sR_64_20, sR_64_22, sR_128_25, sR_128_28, sR_194_17, sR_195_17, sR_196_17, sR_197_17, sR_258_30, sR_258_32, sR_258_41, sR_384_43, sR_448_18, sR_512_27, sR_513_27, sR_514_27, sR_515_27, sR_516_27, sR_576_16, sR_577_16, sR_578_16, sR_579_16, sR_580_16, sR_581_16, sR_582_16, sR_583_16, sR_584_16, sR_641_47, sR_643_47, sR_645_47, sR_646_47, sR_647_47, sR_648_47, sR_649_47, sR_650_47, sR_651_47, sR_652_47, sR_653_47, sR_654_47, sR_655_47, sR_656_47, sR_657_47, sR_658_47, sR_659_47, sR_661_47, sR_662_47, sR_663_47, sR_664_47, sR_665_47, sR_669_47, sR_670_47, sR_671_47, sR_672_47, sR_673_47, sR_674_47, sR_676_47, sR_677_47, sR_679_47, sR_680_47, sR_681_47, SH_I, SH_A, SH_G, SH_C, hS4, hS5, ra4, tl4, g, T4, T5, RR4, e5, Option.getD_some, ne_eq, reduceCtorEq, not_false_eq_true, not_true_eq_false, Option.bind_some, Option.toList_none, Option.toList_some, List.nil_append, List.cons_append, List.append_nil, ↓reduceIte, and_self, true_and, and_true, false_and, and_false, or_true, true_or, or_false, false_or, Nat.reduceEqDiff, Nat.reduceAdd, Int32.reduceMul, Int32.reduceAdd, Int32.reduceSub, Int32.reduceToNatClampNeg, Int32.reduceOfNat, Int32.reduceLT, Int32.reduceLE, va_rf]
        · rw [(o3.2 q1 mq1).1, (g5.2 q1 q1n).1]; exact I4 g hg
        · rw [(o3.2 q2 mq2).1, g8 g hg]; exact I5 g
        · rw [(o3.2 17 m17).1]; exact g6.2.2.2.2.2.2
        · exact (C4.frame g5 q1n a1n).frame o3 mq1 ma1
        · refine RC.frame ⟨by rw [g7, Nat.zero_add], fun i j hi hj => ?_⟩ o3 mq2 ma2
          have := g10 i j hi hj
          rw [Nat.zero_add] at this
          exact this
        · rw [o4]; exact g6.2.2.2.1.1
        · rw [o5]; exact g6.2.2.2.2.1.1
end RD8
end S_33
