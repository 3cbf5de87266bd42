/-! the reference's reader: known letters -/
/-- the row a holds these letters in their order -/
def LRw (σ : jS) (a : Nat) (rs : List Nat) : Prop := ∀ i, i < rs.length → jA σ a i = nI (rs.getD i 0)
theorem lr_idx : ∀ (rs : List Nat) (k l : Nat), k < rs.length → rs.getD k 0 = l → (∀ i, i < k → ¬ rs.getD i 0 = l) → l ∈ rs ∧ rs.idxOf l = k := by
  intro rs
  induction rs with
  | nil => intro k l h; exact absurd h (Nat.not_lt_zero k)
  | cons x t ih =>
    intro k l hk hg hn
    cases k with
    | zero =>
      have e : x = l := hg
      subst e
      exact ⟨List.mem_cons_self, List.idxOf_cons_self⟩
    | succ k =>
      have hx : ¬ x = l := hn 0 (Nat.succ_pos k)
      obtain ⟨h1, h2⟩ := ih k l (Nat.lt_of_succ_lt_succ hk) hg (fun i hi => hn (i + 1) (Nat.succ_lt_succ hi))
      refine ⟨List.mem_cons_of_mem x h1, ?_⟩
      rw [List.idxOf_cons, h2]
      have e : (x == l) = false := by simpa using hx
      rw [e]; rfl
theorem lr_none {rs : List Nat} {l : Nat} (hn : ∀ i, i < rs.length → ¬ rs.getD i 0 = l) : ¬ l ∈ rs := by
  intro h
  obtain ⟨i, hi, e⟩ := List.mem_iff_getElem.mp h
  refine hn i hi ?_
  rw [List.getD_eq_getElem?_getD, List.getElem?_eq_getElem hi]
  exact e
section MR5
variable {d : Nat} {σ : jS}
theorem c142 (hS : SH σ) {a N : Nat} (ha : jT σ a = 20) (hN : jN σ a = N) (hN4 : N ≤ 4) {rs : List Nat} {l : Nat} (hL : LRw σ a rs) (hlen : rs.length ≤ N) (hnew : ¬ l ∈ rs → rs.length < N) (hl : l < 2 ^ 31) (hrs : ∀ i, i < rs.length → rs.getD i 0 < 2 ^ 31) (h0 : jI σ 667 47 = 0) (fs : Bool) (pl : Int32) :
    match lk rs l fs with
    | some z => ∃ σ', jx (d + 1) 142 0 [some (.ref 47), some (.ref a), some (.int (nI l)), some (.int (nI rs.length)), some (.int (if fs = true then 1 else 0)), some (.int pl), none] [] σ = some (some (.int (nI z.1)), σ') ∧ σ' = (if l ∈ rs then σ else jsA σ a rs.length (nI l))
    | none => ∃ σ', jx (d + 1) 142 0 [some (.ref 47), some (.ref a), some (.int (nI l)), some (.int (nI rs.length)), some (.int (if fs = true then 1 else 0)), some (.int pl), none] [] σ = some (some (.int 0), σ') ∧ MF σ σ' ∧ ¬ jI σ' 667 47 = 0 := by
  have H : ∀ f k, rs.length - k = f → k ≤ rs.length → (∀ i, i < k → ¬ rs.getD i 0 = l) → jx (d + 1) 142 3 [some (.ref 47), some (.ref a), some (.int (nI l)), some (.int (nI rs.length)), some (.int (if fs = true then 1 else 0)), some (.int pl), some (.int (nI k))] [] σ = if l ∈ rs then some (some (.int (nI (rs.idxOf l))), σ) else jx (d + 1) 142 26 [some (.ref 47), some (.ref a), some (.int (nI l)), some (.int (nI rs.length)), some (.int (if fs = true then 1 else 0)), some (.int pl), some (.int (nI rs.length))] [] σ := by
    intro f
    induction f with
    | zero =>
      intro k hf hk hn
      have e : k = rs.length := by omega
      subst e
      rw [if_neg (lr_none hn), k142_3, if_pos (nI_le (Nat.le_refl _) (by omega))]
    | succ f ih =>
      intro k hf hk hn
      have hk2 : k < rs.length := by omega
      have g1 : ¬ nI rs.length ≤ nI k := nI_ge hk2 (by omega)
      have g2 : jin (jN σ a) (nI k) := by rw [hN]; exact jin_n (by omega) (by omega)
      have g3 : (nI k).toNatClampNeg = k := nI_clamp (by omega)
      rw [k142_3, if_neg g1, k142_9 (Or.inl ha) g2, g3, hL k hk2]
      by_cases h : rs.getD k 0 = l
      · obtain ⟨q1, q2⟩ := lr_idx rs k l hk2 h hn
        rw [if_neg (fun z => z (by rw [h])), if_pos q1, q2, k142_17]
      · have h2 : ¬ nI (rs.getD k 0) = nI l := by rw [n31eq (hrs k hk2) hl]; exact h
        rw [if_pos h2, k142_20, ← nI_succ]
        refine ih (k + 1) (by omega) (by omega) (fun i hi => ?_)
        rcases Nat.lt_or_ge i k with q | q
        · exact hn i q
        · rw [show i = k by omega]; exact h
  have E := H rs.length 0 rfl (Nat.zero_le _) (fun i hi => absurd hi (Nat.not_lt_zero i))
  rw [show nI 0 = (0 : Int32) from rfl, ← k142_0] at E
  rw [E]
  unfold lk
  by_cases hm : l ∈ rs
  · rw [if_pos hm, if_pos hm]
    exact ⟨σ, rfl, by rw [if_pos hm]⟩
  · rw [if_neg hm, if_neg hm]
    cases fs with
    | true =>
      have g2 : jin (jN σ a) (nI rs.length) := by rw [hN]; exact jin_n (hnew hm) (by omega)
      have g3 : (nI rs.length).toNatClampNeg = rs.length := nI_clamp (by omega)
      refine ⟨jsA σ a rs.length (nI l), ?_, by rw [if_neg hm]⟩
      simp (decide := true) only [k142_26, k142_40 ha g2, g3, Option.getD_some, ne_eq, reduceCtorEq, not_false_eq_true, not_true_eq_false, Option.bind_some, Option.toList_none, Option.toList_some, List.nil_append, List.cons_append, List.append_nil, ↓reduceIte, and_self, true_and, and_true, false_and, and_false, or_true, true_or, or_false, false_or, Nat.reduceEqDiff, Nat.reduceAdd, Int32.reduceMul, Int32.reduceAdd, Int32.reduceSub, Int32.reduceToNatClampNeg, Int32.reduceOfNat, Int32.reduceLT, Int32.reduceLE, va_rf]
    | false =>
      obtain ⟨σ2, e2, f2, f3⟩ := c136x (d := d) hS h0 (c := 3) (by decide) pl
      refine ⟨σ2, ?_, f2, f3⟩
      simp (decide := true) only [k142_26, k142_31, k142_38, sT_1, sT_2, sT_3, sT_16, sT_17, sT_18, sT_19, sT_20, sT_21, sT_22, sT_23, sT_24, sT_25, sT_26, sT_27, sT_28, sT_29, sT_30, sT_31, sT_32, sT_33, sT_34, sT_35, sT_36, sT_37, sT_38, sT_39, sT_40, sT_41, sT_42, sT_43, sT_44, sT_45, sT_46, sT_47, sT_48, sT_49, sT_50, sT_51, sT_52, sT_53, sT_54, sT_55, sT_56, sT_57, sT_58, sT_59, sT_60, sT_61, sT_62, sT_63, sT_64, sT_65, sT_66, sT_67, sT_68, sT_69, sT_70, sT_71, sT_72, sT_73, sT_74, sT_75, sT_76, sT_77, sT_78, sT_79, sT_80, sN_1, sN_2, sN_19, sN_21, sN_23, sN_24, sN_26, sN_29, sN_31, sN_33, sN_35, sN_36, sN_37, sN_39, sN_40, sN_42, sN_44, sN_45, sN_46, sN_48, sN_49, sN_50, sN_51, sN_52, sN_53, sN_54, sN_55, sN_56, sN_57, sN_58, sN_59, sN_60, sN_61, sN_62, sN_63, sN_64, sN_65, sN_66, sN_67, sN_68, sN_69, sN_70, sN_71, sN_72, sN_73, sN_74, sN_75, sN_76, sN_77, sN_78, sN_79, sN_80, sR_0_34, sR_0_38, sR_1_34, sR_1_38, sR_64_20, sR_64_22, sR_128_25, sR_128_28, sR_194_17, sR_195_17, sR_196_17, sR_197_17, sR_258_30, sR_258_32, sR_258_41, sR_384_43, sR_448_18, sR_512_27, sR_513_27, sR_514_27, sR_515_27, sR_516_27, sR_576_16, sR_577_16, sR_578_16, sR_579_16, sR_580_16, sR_581_16, sR_582_16, sR_583_16, sR_584_16, sR_641_47, sR_643_47, sR_645_47, sR_646_47, sR_647_47, sR_648_47, sR_649_47, sR_650_47, sR_651_47, sR_652_47, sR_653_47, sR_654_47, sR_655_47, sR_656_47, sR_657_47, sR_658_47, sR_659_47, sR_661_47, sR_662_47, sR_663_47, sR_664_47, sR_665_47, sR_669_47, sR_670_47, sR_671_47, sR_672_47, sR_673_47, sR_674_47, sR_676_47, sR_677_47, sR_679_47, sR_680_47, sR_681_47, SH_I, SH_A, SH_G, SH_C, hS, e2, Option.getD_some, ne_eq, reduceCtorEq, not_false_eq_true, not_true_eq_false, Option.bind_some, Option.toList_none, Option.toList_some, List.nil_append, List.cons_append, List.append_nil, ↓reduceIte, and_self, true_and, and_true, false_and, and_false, or_true, true_or, or_false, false_or, Nat.reduceEqDiff, Nat.reduceAdd, Int32.reduceMul, Int32.reduceAdd, Int32.reduceSub, Int32.reduceToNatClampNeg, Int32.reduceOfNat, Int32.reduceLT, Int32.reduceLE, va_rf]
end MR5
