/-! the reference's reader: the leaves -/
theorem lgl (a b : Int64) : (lg_cmp a b < 0) = (a < b) := by
  unfold lg_cmp
  apply propext
  by_cases h : b < a
  · rw [if_pos h]
    constructor
    · intro q; exact absurd q (by decide)
    · intro q; rw [Int64.lt_iff_toInt_lt] at h q; omega
  · rw [if_neg h]
    by_cases h2 : a = b
    · rw [if_pos h2]
      constructor
      · intro q; exact absurd q (by decide)
      · intro q; subst h2; exact absurd q h
    · rw [if_neg h2]
      constructor
      · intro _
        rw [Int64.lt_iff_toInt_lt] at h ⊢
        have h3 : a.toInt ≠ b.toInt := fun z => h2 (Int64.toInt_inj.mp z)
        omega
      · intro _; decide
theorem lgg (a b : Int64) : (0 < lg_cmp a b) = (b < a) := by
  unfold lg_cmp
  apply propext
  by_cases h : b < a
  · rw [if_pos h]; exact ⟨fun _ => h, fun _ => by decide⟩
  · rw [if_neg h]
    refine ⟨fun q => ?_, fun q => absurd q h⟩
    by_cases h2 : a = b
    · rw [if_pos h2] at q; exact absurd q (by decide)
    · rw [if_neg h2] at q; exact absurd q (by decide)
theorem i64lt (a b : Int32) : (a.toInt64 < b.toInt64) = (a < b) := by
  rw [Int64.lt_iff_toInt_lt, Int32.lt_iff_toInt_lt, Int32.toInt_toInt64, Int32.toInt_toInt64]
theorem c123 {d : Nat} {σ : jS} {a b c : Int32} : jx d 123 0 [some (.long a.toInt64), none, some (.long b.toInt64), none, some (.long c.toInt64), none] [] σ = some (some (.int (if b ≤ a ∧ a ≤ c then 1 else 0)), σ) := by
  by_cases h1 : a < b
  · have e : ¬ (b ≤ a ∧ a ≤ c) := fun z => absurd z.1 (Int32.not_le.mpr h1)
    simp (decide := true) only [k123_0, k123_6, k123_13, k123_17, lgl, lgg, i64lt, h1, e, Option.getD_some, ne_eq, reduceCtorEq, not_false_eq_true, not_true_eq_false, Option.bind_some, Option.toList_none, Option.toList_some, List.nil_append, List.cons_append, List.append_nil, ↓reduceIte, and_self, true_and, and_true, false_and, and_false, or_true, true_or, or_false, false_or, Nat.reduceEqDiff, Nat.reduceAdd, Int32.reduceMul, Int32.reduceAdd, Int32.reduceSub, Int32.reduceToNatClampNeg, Int32.reduceOfNat, Int32.reduceLT, Int32.reduceLE, va_rf, jin_eq]
  · by_cases h2 : c < a
    · have e : ¬ (b ≤ a ∧ a ≤ c) := fun z => absurd z.2 (Int32.not_le.mpr h2)
      simp (decide := true) only [k123_0, k123_6, k123_13, k123_17, lgl, lgg, i64lt, h1, h2, e, Option.getD_some, ne_eq, reduceCtorEq, not_false_eq_true, not_true_eq_false, Option.bind_some, Option.toList_none, Option.toList_some, List.nil_append, List.cons_append, List.append_nil, ↓reduceIte, and_self, true_and, and_true, false_and, and_false, or_true, true_or, or_false, false_or, Nat.reduceEqDiff, Nat.reduceAdd, Int32.reduceMul, Int32.reduceAdd, Int32.reduceSub, Int32.reduceToNatClampNeg, Int32.reduceOfNat, Int32.reduceLT, Int32.reduceLE, va_rf, jin_eq]
    · have e : b ≤ a ∧ a ≤ c := ⟨Int32.not_lt.mp h1, Int32.not_lt.mp h2⟩
      simp (decide := true) only [k123_0, k123_6, k123_13, k123_17, lgl, lgg, i64lt, h1, h2, e, Option.getD_some, ne_eq, reduceCtorEq, not_false_eq_true, not_true_eq_false, Option.bind_some, Option.toList_none, Option.toList_some, List.nil_append, List.cons_append, List.append_nil, ↓reduceIte, and_self, true_and, and_true, false_and, and_false, or_true, true_or, or_false, false_or, Nat.reduceEqDiff, Nat.reduceAdd, Int32.reduceMul, Int32.reduceAdd, Int32.reduceSub, Int32.reduceToNatClampNeg, Int32.reduceOfNat, Int32.reduceLT, Int32.reduceLE, va_rf, jin_eq]
/-- the reference's reader has moved or refused, nothing else -/
def MF (σ σ' : jS) : Prop := FR [47] σ σ' ∧ ∀ g, g ≠ 666 → g ≠ 667 → g ≠ 668 → jI σ' g 47 = jI σ g 47
theorem MF.refl (σ : jS) : MF σ σ := ⟨FR.refl _ _, fun _ _ _ _ => rfl⟩
theorem MF.trans {σ τ υ : jS} (h : MF σ τ) (k : MF τ υ) : MF σ υ := ⟨h.1.trans k.1, fun g a b c => (k.2 g a b c).trans (h.2 g a b c)⟩
theorem MF.I {σ τ : jS} {g : Nat} {v : Int32} (h : MF σ τ) (hg : g = 666 ∨ g = 667 ∨ g = 668) (hv : g = 667 → 0 < v := by first | (intro z; exact absurd z (by decide)) | (intro _; decide)) : MF σ (jsI τ g 47 v) := ⟨h.1.Ip (by decide) (fun z _ => hv z), fun g' a b c => by rw [zI_I, if_neg (by omega)]; exact h.2 g' a b c⟩
theorem MF.tm {σ τ : jS} {len : Nat} {b : Nat → Int32} (h : MF σ τ) (hT : TM σ len b) : TM τ len b := ⟨by rw [h.2 642 (by decide) (by decide) (by decide)]; exact hT.1, hT.2.1, fun i hi => by rw [(h.1.2 48 (by decide)).2]; exact hT.2.2 i hi⟩
def nmv (k : Nat) : Int32 := ([14006, 9904, 841, 14420, 1111, 423, 17919, 10056, 6942, 3054, 10631, 10348, 14079, 14085, 13998, 5258, 12251, 10627, 14488] : List Int32).getD k 0
def NV (σ : jS) : Prop := ∀ k, k < 19 → jA σ 70 k = nmv k
theorem MF.nv {σ τ : jS} (h : MF σ τ) (hN : NV σ) : NV τ := fun k hk => by rw [(h.1.2 70 (by decide)).2]; exact hN k hk
def MRES (σ : jS) (r : jr) (o : Option (Int32 × Nat)) : Prop := ∃ v σ', r = some (some (.int v), σ') ∧ MF σ σ' ∧ (match o with | some x => v = x.1 ∧ jI σ' 666 47 = nI x.2 ∧ jI σ' 667 47 = 0 | none => ¬ jI σ' 667 47 = 0)
def lwF (t : Nat → Int32) : Nat → Nat → Nat
  | 0, _ => 0
  | f + 1, p => if isLo (t p) then lwF t f (p + 1) + 1 else 0
def lw (len : Nat) (b : Nat → Int32) (p : Nat) : Nat := lwF (tv len b) (len - p) p
theorem lwF_le (t : Nat → Int32) : ∀ f p, lwF t f p ≤ f := by
  intro f
  induction f with
  | zero => intro p; exact Nat.le_refl _
  | succ f ih =>
    intro p
    unfold lwF
    split
    · have := ih (p + 1); omega
    · omega
def wv (t : Nat → Int32) (p : Nat) : Nat → Int32
  | 0 => 0
  | n + 1 => 27 * wv t p n + t (p + n) - 96
def wz (t : Nat → Int32) (p n : Nat) : Int32 := if 3 < n then 0 else wv t p n
def opF (v : Int32) : Nat → Nat → Int32
  | 0, _ => -4
  | f + 1, k => if nmv k = v then nI k else opF v f (k + 1)
section MR1
variable {d : Nat} {σ : jS} {len : Nat} {b : Nat → Int32}
theorem c136 (hS : SH σ) (h0 : jI σ 667 47 = 0) (c p : Int32) : jx d 136 0 [some (.ref 47), some (.int c), some (.int p)] [] σ = some (none, jsI (jsI σ 667 47 c) 668 47 p) := by
  simp (decide := true) only [k136_0, k136_7, k136_17, sT_1, sT_2, sT_3, sT_16, sT_17, sT_18, sT_19, sT_20, sT_21, sT_22, sT_23, sT_24, sT_25, sT_26, sT_27, sT_28, sT_29, sT_30, sT_31, sT_32, sT_33, sT_34, sT_35, sT_36, sT_37, sT_38, sT_39, sT_40, sT_41, sT_42, sT_43, sT_44, sT_45, sT_46, sT_47, sT_48, sT_49, sT_50, sT_51, sT_52, sT_53, sT_54, sT_55, sT_56, sT_57, sT_58, sT_59, sT_60, sT_61, sT_62, sT_63, sT_64, sT_65, sT_66, sT_67, sT_68, sT_69, sT_70, sT_71, sT_72, sT_73, sT_74, sT_75, sT_76, sT_77, sT_78, sT_79, sT_80, sN_1, sN_2, sN_19, sN_21, sN_23, sN_24, sN_26, sN_29, sN_31, sN_33, sN_35, sN_36, sN_37, sN_39, sN_40, sN_42, sN_44, sN_45, sN_46, sN_48, sN_49, sN_50, sN_51, sN_52, sN_53, sN_54, sN_55, sN_56, sN_57, sN_58, sN_59, sN_60, sN_61, sN_62, sN_63, sN_64, sN_65, sN_66, sN_67, sN_68, sN_69, sN_70, sN_71, sN_72, sN_73, sN_74, sN_75, sN_76, sN_77, sN_78, sN_79, sN_80, sR_0_34, sR_0_38, sR_1_34, sR_1_38, sR_64_20, sR_64_22, sR_128_25, sR_128_28, sR_194_17, sR_195_17, sR_196_17, sR_197_17, sR_258_30, sR_258_32, sR_258_41, sR_384_43, sR_448_18, sR_512_27, sR_513_27, sR_514_27, sR_515_27, sR_516_27, sR_576_16, sR_577_16, sR_578_16, sR_579_16, sR_580_16, sR_581_16, sR_582_16, sR_583_16, sR_584_16, sR_641_47, sR_643_47, sR_645_47, sR_646_47, sR_647_47, sR_648_47, sR_649_47, sR_650_47, sR_651_47, sR_652_47, sR_653_47, sR_654_47, sR_655_47, sR_656_47, sR_657_47, sR_658_47, sR_659_47, sR_661_47, sR_662_47, sR_663_47, sR_664_47, sR_665_47, sR_669_47, sR_670_47, sR_671_47, sR_672_47, sR_673_47, sR_674_47, sR_676_47, sR_677_47, sR_679_47, sR_680_47, sR_681_47, SH_I, SH_A, SH_G, SH_C, hS, h0, Option.getD_some, ne_eq, reduceCtorEq, not_false_eq_true, not_true_eq_false, Option.bind_some, Option.toList_none, Option.toList_some, List.nil_append, List.cons_append, List.append_nil, ↓reduceIte, and_self, true_and, and_true, false_and, and_false, or_true, true_or, or_false, false_or, Nat.reduceEqDiff, Nat.reduceAdd, Int32.reduceMul, Int32.reduceAdd, Int32.reduceSub, Int32.reduceToNatClampNeg, Int32.reduceOfNat, Int32.reduceLT, Int32.reduceLE, va_rf]
theorem c136x (hS : SH σ) (h0 : jI σ 667 47 = 0) {c : Int32} (hc : 0 < c) (p : Int32) : ∃ σ', jx d 136 0 [some (.ref 47), some (.int c), some (.int p)] [] σ = some (none, σ') ∧ MF σ σ' ∧ ¬ jI σ' 667 47 = 0 := by
  refine ⟨_, c136 hS h0 c p, ((MF.refl σ).I (g := 667) (by decide) (fun _ => hc)).I (g := 668) (by decide), ?_⟩
  rw [zI_I, if_neg (by decide), zI_I, if_pos ⟨rfl, rfl⟩]; intro z; rw [z] at hc; exact absurd hc (by decide)
theorem c134 (hS : SH σ) (hT : TM σ len b) {p : Nat} (hp : p ≤ len) (hat : jI σ 666 47 = nI p) : jx (d + 1) 134 0 [some (.ref 47), none, none] [] σ = some (some (.int (wz (tv len b) p (lw len b p))), jsI σ 666 47 (nI (p + lw len b p))) := by
  have hl : len ≤ 400 := hT.2.1
  suffices H : ∀ f n (σ : jS), SH σ → TM σ len b → len - (p + n) = f → p + n ≤ len → jI σ 666 47 = nI (p + n) → jx (d + 1) 134 4 [some (.ref 47), some (.int (wz (tv len b) p n)), some (.int (nI n))] [] σ = some (some (.int (wz (tv len b) p (n + lwF (tv len b) f (p + n)))), jsI σ 666 47 (nI (p + n + lwF (tv len b) f (p + n)))) by
    have e := H (len - p) 0 σ hS hT rfl hp hat
    rw [k134_0]
    rw [Nat.zero_add] at e
    exact e
  intro f
  induction f with
  | zero =>
    intro n σ hS hT hf hn hat
    have c := c130 (d := d) hS hT (p := p + n) (by omega) hat
    rw [tv_out (by omega)] at c
    rw [k134_4 (by simp (decide := true) only [sT_1, sT_2, sT_3, sT_16, sT_17, sT_18, sT_19, sT_20, sT_21, sT_22, sT_23, sT_24, sT_25, sT_26, sT_27, sT_28, sT_29, sT_30, sT_31, sT_32, sT_33, sT_34, sT_35, sT_36, sT_37, sT_38, sT_39, sT_40, sT_41, sT_42, sT_43, sT_44, sT_45, sT_46, sT_47, sT_48, sT_49, sT_50, sT_51, sT_52, sT_53, sT_54, sT_55, sT_56, sT_57, sT_58, sT_59, sT_60, sT_61, sT_62, sT_63, sT_64, sT_65, sT_66, sT_67, sT_68, sT_69, sT_70, sT_71, sT_72, sT_73, sT_74, sT_75, sT_76, sT_77, sT_78, sT_79, sT_80, sN_1, sN_2, sN_19, sN_21, sN_23, sN_24, sN_26, sN_29, sN_31, sN_33, sN_35, sN_36, sN_37, sN_39, sN_40, sN_42, sN_44, sN_45, sN_46, sN_48, sN_49, sN_50, sN_51, sN_52, sN_53, sN_54, sN_55, sN_56, sN_57, sN_58, sN_59, sN_60, sN_61, sN_62, sN_63, sN_64, sN_65, sN_66, sN_67, sN_68, sN_69, sN_70, sN_71, sN_72, sN_73, sN_74, sN_75, sN_76, sN_77, sN_78, sN_79, sN_80, sR_0_34, sR_0_38, sR_1_34, sR_1_38, sR_64_20, sR_64_22, sR_128_25, sR_128_28, sR_194_17, sR_195_17, sR_196_17, sR_197_17, sR_258_30, sR_258_32, sR_258_41, sR_384_43, sR_448_18, sR_512_27, sR_513_27, sR_514_27, sR_515_27, sR_516_27, sR_576_16, sR_577_16, sR_578_16, sR_579_16, sR_580_16, sR_581_16, sR_582_16, sR_583_16, sR_584_16, sR_641_47, sR_643_47, sR_645_47, sR_646_47, sR_647_47, sR_648_47, sR_649_47, sR_650_47, sR_651_47, sR_652_47, sR_653_47, sR_654_47, sR_655_47, sR_656_47, sR_657_47, sR_658_47, sR_659_47, sR_661_47, sR_662_47, sR_663_47, sR_664_47, sR_665_47, sR_669_47, sR_670_47, sR_671_47, sR_672_47, sR_673_47, sR_674_47, sR_676_47, sR_677_47, sR_679_47, sR_680_47, sR_681_47, SH_I, SH_A, SH_G, SH_C, hS, Option.getD_some, ne_eq, reduceCtorEq, not_false_eq_true, not_true_eq_false, Option.bind_some, Option.toList_none, Option.toList_some, List.nil_append, List.cons_append, List.append_nil, ↓reduceIte, and_self, true_and, and_true, false_and, and_false, or_true, true_or, or_false, false_or, Nat.reduceEqDiff, Nat.reduceAdd, Int32.reduceMul, Int32.reduceAdd, Int32.reduceSub, Int32.reduceToNatClampNeg, Int32.reduceOfNat, Int32.reduceLT, Int32.reduceLE, va_rf]), c]
    have e : lwF (tv len b) 0 (p + n) = 0 := rfl
    rw [e, show n + 0 = n from rfl, show p + n + 0 = p + n from rfl, jsI_self σ 666 47 hat]
    have i : (if isLo (-1) then (1 : Int32) else 0) = 0 := by decide
    by_cases h3 : 3 < n
    · have g : ¬ nI n ≤ 3 := nI_ge (b := n) (a := 3) h3 (by omega)
      have w : wz (tv len b) p n = 0 := if_pos h3
      simp (decide := true) only [k134_8, k134_11, k134_54, k134_59, k134_63, c133, i, g, w, Option.getD_some, ne_eq, reduceCtorEq, not_false_eq_true, not_true_eq_false, Option.bind_some, Option.toList_none, Option.toList_some, List.nil_append, List.cons_append, List.append_nil, ↓reduceIte, and_self, true_and, and_true, false_and, and_false, or_true, true_or, or_false, false_or, Nat.reduceEqDiff, Nat.reduceAdd, Int32.reduceMul, Int32.reduceAdd, Int32.reduceSub, Int32.reduceToNatClampNeg, Int32.reduceOfNat, Int32.reduceLT, Int32.reduceLE, va_rf]
    · have g : nI n ≤ 3 := nI_le (b := 3) (by omega) (by decide)
      simp (decide := true) only [k134_8, k134_11, k134_54, k134_59, k134_63, c133, i, g, Option.getD_some, ne_eq, reduceCtorEq, not_false_eq_true, not_true_eq_false, Option.bind_some, Option.toList_none, Option.toList_some, List.nil_append, List.cons_append, List.append_nil, ↓reduceIte, and_self, true_and, and_true, false_and, and_false, or_true, true_or, or_false, false_or, Nat.reduceEqDiff, Nat.reduceAdd, Int32.reduceMul, Int32.reduceAdd, Int32.reduceSub, Int32.reduceToNatClampNeg, Int32.reduceOfNat, Int32.reduceLT, Int32.reduceLE, va_rf]
  | succ f ih =>
    intro n σ hS hT hf hn hat
    have c := c130 (d := d) hS hT (p := p + n) (by omega) hat
    rw [k134_4 (by simp (decide := true) only [sT_1, sT_2, sT_3, sT_16, sT_17, sT_18, sT_19, sT_20, sT_21, sT_22, sT_23, sT_24, sT_25, sT_26, sT_27, sT_28, sT_29, sT_30, sT_31, sT_32, sT_33, sT_34, sT_35, sT_36, sT_37, sT_38, sT_39, sT_40, sT_41, sT_42, sT_43, sT_44, sT_45, sT_46, sT_47, sT_48, sT_49, sT_50, sT_51, sT_52, sT_53, sT_54, sT_55, sT_56, sT_57, sT_58, sT_59, sT_60, sT_61, sT_62, sT_63, sT_64, sT_65, sT_66, sT_67, sT_68, sT_69, sT_70, sT_71, sT_72, sT_73, sT_74, sT_75, sT_76, sT_77, sT_78, sT_79, sT_80, sN_1, sN_2, sN_19, sN_21, sN_23, sN_24, sN_26, sN_29, sN_31, sN_33, sN_35, sN_36, sN_37, sN_39, sN_40, sN_42, sN_44, sN_45, sN_46, sN_48, sN_49, sN_50, sN_51, sN_52, sN_53, sN_54, sN_55, sN_56, sN_57, sN_58, sN_59, sN_60, sN_61, sN_62, sN_63, sN_64, sN_65, sN_66, sN_67, sN_68, sN_69, sN_70, sN_71, sN_72, sN_73, sN_74, sN_75, sN_76, sN_77, sN_78, sN_79, sN_80, sR_0_34, sR_0_38, sR_1_34, sR_1_38, sR_64_20, sR_64_22, sR_128_25, sR_128_28, sR_194_17, sR_195_17, sR_196_17, sR_197_17, sR_258_30, sR_258_32, sR_258_41, sR_384_43, sR_448_18, sR_512_27, sR_513_27, sR_514_27, sR_515_27, sR_516_27, sR_576_16, sR_577_16, sR_578_16, sR_579_16, sR_580_16, sR_581_16, sR_582_16, sR_583_16, sR_584_16, sR_641_47, sR_643_47, sR_645_47, sR_646_47, sR_647_47, sR_648_47, sR_649_47, sR_650_47, sR_651_47, sR_652_47, sR_653_47, sR_654_47, sR_655_47, sR_656_47, sR_657_47, sR_658_47, sR_659_47, sR_661_47, sR_662_47, sR_663_47, sR_664_47, sR_665_47, sR_669_47, sR_670_47, sR_671_47, sR_672_47, sR_673_47, sR_674_47, sR_676_47, sR_677_47, sR_679_47, sR_680_47, sR_681_47, SH_I, SH_A, SH_G, SH_C, hS, Option.getD_some, ne_eq, reduceCtorEq, not_false_eq_true, not_true_eq_false, Option.bind_some, Option.toList_none, Option.toList_some, List.nil_append, List.cons_append, List.append_nil, ↓reduceIte, and_self, true_and, and_true, false_and, and_false, or_true, true_or, or_false, false_or, Nat.reduceEqDiff, Nat.reduceAdd, Int32.reduceMul, Int32.reduceAdd, Int32.reduceSub, Int32.reduceToNatClampNeg, Int32.reduceOfNat, Int32.reduceLT, Int32.reduceLE, va_rf]), c]
    by_cases h : isLo (tv len b (p + n))
    · have i : (if isLo (tv len b (p + n)) then (1 : Int32) else 0) = 1 := if_pos h
      have e : lwF (tv len b) (f + 1) (p + n) = lwF (tv len b) f (p + (n + 1)) + 1 := if_pos h
      have q := ih (n + 1) (jsI σ 666 47 (nI (p + (n + 1)))) (by rw [SH_I]; exact hS) (by rw [TM_I (by decide)]; exact hT) (by omega) (by omega) (by simp (decide := true) only [zI_I, Option.getD_some, ne_eq, reduceCtorEq, not_false_eq_true, not_true_eq_false, Option.bind_some, Option.toList_none, Option.toList_some, List.nil_append, List.cons_append, List.append_nil, ↓reduceIte, and_self, true_and, and_true, false_and, and_false, or_true, true_or, or_false, false_or, Nat.reduceEqDiff, Nat.reduceAdd, Int32.reduceMul, Int32.reduceAdd, Int32.reduceSub, Int32.reduceToNatClampNeg, Int32.reduceOfNat, Int32.reduceLT, Int32.reduceLE, va_rf])
      rw [jsI_jsI] at q
      rw [e, show n + (lwF (tv len b) f (p + (n + 1)) + 1) = n + 1 + lwF (tv len b) f (p + (n + 1)) by omega, show p + n + (lwF (tv len b) f (p + (n + 1)) + 1) = p + (n + 1) + lwF (tv len b) f (p + (n + 1)) by omega, ← q]
      have a1 : nI (p + n) + 1 = nI (p + (n + 1)) := (nI_succ (p + n)).symm
      by_cases h3 : n + 1 ≤ 3
      · have g : nI n + 1 ≤ 3 := by rw [← nI_succ]; exact nI_le (b := 3) h3 (by decide)
        have w : wz (tv len b) p (n + 1) = 27 * wz (tv len b) p n + tv len b (p + n) - 96 := by
          unfold wz
          rw [if_neg (by omega), if_neg (by omega)]
          rfl
        rw [w]
        simp (decide := true) only [k134_8, k134_11, k134_14, k134_22, k134_45, k134_49, c133, c, i, g, sT_1, sT_2, sT_3, sT_16, sT_17, sT_18, sT_19, sT_20, sT_21, sT_22, sT_23, sT_24, sT_25, sT_26, sT_27, sT_28, sT_29, sT_30, sT_31, sT_32, sT_33, sT_34, sT_35, sT_36, sT_37, sT_38, sT_39, sT_40, sT_41, sT_42, sT_43, sT_44, sT_45, sT_46, sT_47, sT_48, sT_49, sT_50, sT_51, sT_52, sT_53, sT_54, sT_55, sT_56, sT_57, sT_58, sT_59, sT_60, sT_61, sT_62, sT_63, sT_64, sT_65, sT_66, sT_67, sT_68, sT_69, sT_70, sT_71, sT_72, sT_73, sT_74, sT_75, sT_76, sT_77, sT_78, sT_79, sT_80, sN_1, sN_2, sN_19, sN_21, sN_23, sN_24, sN_26, sN_29, sN_31, sN_33, sN_35, sN_36, sN_37, sN_39, sN_40, sN_42, sN_44, sN_45, sN_46, sN_48, sN_49, sN_50, sN_51, sN_52, sN_53, sN_54, sN_55, sN_56, sN_57, sN_58, sN_59, sN_60, sN_61, sN_62, sN_63, sN_64, sN_65, sN_66, sN_67, sN_68, sN_69, sN_70, sN_71, sN_72, sN_73, sN_74, sN_75, sN_76, sN_77, sN_78, sN_79, sN_80, sR_0_34, sR_0_38, sR_1_34, sR_1_38, sR_64_20, sR_64_22, sR_128_25, sR_128_28, sR_194_17, sR_195_17, sR_196_17, sR_197_17, sR_258_30, sR_258_32, sR_258_41, sR_384_43, sR_448_18, sR_512_27, sR_513_27, sR_514_27, sR_515_27, sR_516_27, sR_576_16, sR_577_16, sR_578_16, sR_579_16, sR_580_16, sR_581_16, sR_582_16, sR_583_16, sR_584_16, sR_641_47, sR_643_47, sR_645_47, sR_646_47, sR_647_47, sR_648_47, sR_649_47, sR_650_47, sR_651_47, sR_652_47, sR_653_47, sR_654_47, sR_655_47, sR_656_47, sR_657_47, sR_658_47, sR_659_47, sR_661_47, sR_662_47, sR_663_47, sR_664_47, sR_665_47, sR_669_47, sR_670_47, sR_671_47, sR_672_47, sR_673_47, sR_674_47, sR_676_47, sR_677_47, sR_679_47, sR_680_47, sR_681_47, SH_I, SH_A, SH_G, SH_C, hS, hat, a1, nI_succ, Option.getD_some, ne_eq, reduceCtorEq, not_false_eq_true, not_true_eq_false, Option.bind_some, Option.toList_none, Option.toList_some, List.nil_append, List.cons_append, List.append_nil, ↓reduceIte, and_self, true_and, and_true, false_and, and_false, or_true, true_or, or_false, false_or, Nat.reduceEqDiff, Nat.reduceAdd, Int32.reduceMul, Int32.reduceAdd, Int32.reduceSub, Int32.reduceToNatClampNeg, Int32.reduceOfNat, Int32.reduceLT, Int32.reduceLE, va_rf]
      · have g : ¬ nI n + 1 ≤ 3 := by rw [← nI_succ]; exact nI_ge (a := 3) (by omega) (by omega)
        have w : wz (tv len b) p (n + 1) = 0 := if_pos (by omega)
        rw [w]
        simp (decide := true) only [k134_8, k134_11, k134_14, k134_22, k134_45, k134_49, c133, c, i, g, sT_1, sT_2, sT_3, sT_16, sT_17, sT_18, sT_19, sT_20, sT_21, sT_22, sT_23, sT_24, sT_25, sT_26, sT_27, sT_28, sT_29, sT_30, sT_31, sT_32, sT_33, sT_34, sT_35, sT_36, sT_37, sT_38, sT_39, sT_40, sT_41, sT_42, sT_43, sT_44, sT_45, sT_46, sT_47, sT_48, sT_49, sT_50, sT_51, sT_52, sT_53, sT_54, sT_55, sT_56, sT_57, sT_58, sT_59, sT_60, sT_61, sT_62, sT_63, sT_64, sT_65, sT_66, sT_67, sT_68, sT_69, sT_70, sT_71, sT_72, sT_73, sT_74, sT_75, sT_76, sT_77, sT_78, sT_79, sT_80, sN_1, sN_2, sN_19, sN_21, sN_23, sN_24, sN_26, sN_29, sN_31, sN_33, sN_35, sN_36, sN_37, sN_39, sN_40, sN_42, sN_44, sN_45, sN_46, sN_48, sN_49, sN_50, sN_51, sN_52, sN_53, sN_54, sN_55, sN_56, sN_57, sN_58, sN_59, sN_60, sN_61, sN_62, sN_63, sN_64, sN_65, sN_66, sN_67, sN_68, sN_69, sN_70, sN_71, sN_72, sN_73, sN_74, sN_75, sN_76, sN_77, sN_78, sN_79, sN_80, sR_0_34, sR_0_38, sR_1_34, sR_1_38, sR_64_20, sR_64_22, sR_128_25, sR_128_28, sR_194_17, sR_195_17, sR_196_17, sR_197_17, sR_258_30, sR_258_32, sR_258_41, sR_384_43, sR_448_18, sR_512_27, sR_513_27, sR_514_27, sR_515_27, sR_516_27, sR_576_16, sR_577_16, sR_578_16, sR_579_16, sR_580_16, sR_581_16, sR_582_16, sR_583_16, sR_584_16, sR_641_47, sR_643_47, sR_645_47, sR_646_47, sR_647_47, sR_648_47, sR_649_47, sR_650_47, sR_651_47, sR_652_47, sR_653_47, sR_654_47, sR_655_47, sR_656_47, sR_657_47, sR_658_47, sR_659_47, sR_661_47, sR_662_47, sR_663_47, sR_664_47, sR_665_47, sR_669_47, sR_670_47, sR_671_47, sR_672_47, sR_673_47, sR_674_47, sR_676_47, sR_677_47, sR_679_47, sR_680_47, sR_681_47, SH_I, SH_A, SH_G, SH_C, hS, hat, a1, nI_succ, Option.getD_some, ne_eq, reduceCtorEq, not_false_eq_true, not_true_eq_false, Option.bind_some, Option.toList_none, Option.toList_some, List.nil_append, List.cons_append, List.append_nil, ↓reduceIte, and_self, true_and, and_true, false_and, and_false, or_true, true_or, or_false, false_or, Nat.reduceEqDiff, Nat.reduceAdd, Int32.reduceMul, Int32.reduceAdd, Int32.reduceSub, Int32.reduceToNatClampNeg, Int32.reduceOfNat, Int32.reduceLT, Int32.reduceLE, va_rf]
    · have i : (if isLo (tv len b (p + n)) then (1 : Int32) else 0) = 0 := if_neg h
      have e : lwF (tv len b) (f + 1) (p + n) = 0 := if_neg h
      rw [e, show n + 0 = n from rfl, show p + n + 0 = p + n from rfl, jsI_self σ 666 47 hat]
      by_cases h3 : 3 < n
      · have g : ¬ nI n ≤ 3 := nI_ge (b := n) (a := 3) h3 (by omega)
        have w : wz (tv len b) p n = 0 := if_pos h3
        simp (decide := true) only [k134_8, k134_11, k134_54, k134_59, k134_63, c133, i, g, w, Option.getD_some, ne_eq, reduceCtorEq, not_false_eq_true, not_true_eq_false, Option.bind_some, Option.toList_none, Option.toList_some, List.nil_append, List.cons_append, List.append_nil, ↓reduceIte, and_self, true_and, and_true, false_and, and_false, or_true, true_or, or_false, false_or, Nat.reduceEqDiff, Nat.reduceAdd, Int32.reduceMul, Int32.reduceAdd, Int32.reduceSub, Int32.reduceToNatClampNeg, Int32.reduceOfNat, Int32.reduceLT, Int32.reduceLE, va_rf]
      · have g : nI n ≤ 3 := nI_le (b := 3) (by omega) (by decide)
        simp (decide := true) only [k134_8, k134_11, k134_54, k134_59, k134_63, c133, i, g, Option.getD_some, ne_eq, reduceCtorEq, not_false_eq_true, not_true_eq_false, Option.bind_some, Option.toList_none, Option.toList_some, List.nil_append, List.cons_append, List.append_nil, ↓reduceIte, and_self, true_and, and_true, false_and, and_false, or_true, true_or, or_false, false_or, Nat.reduceEqDiff, Nat.reduceAdd, Int32.reduceMul, Int32.reduceAdd, Int32.reduceSub, Int32.reduceToNatClampNeg, Int32.reduceOfNat, Int32.reduceLT, Int32.reduceLE, va_rf]
theorem c135 (hS : SH σ) (hN : NV σ) (v : Int32) : jx d 135 0 [some (.ref 47), some (.int v), none] [] σ = some (some (.int (opF v 19 0)), σ) := by
  suffices H : ∀ f k, 19 - k = f → k ≤ 19 → jx d 135 2 [some (.ref 47), some (.int v), some (.int (nI k))] [] σ = some (some (.int (opF v f k)), σ) by
    rw [k135_0]
    exact H 19 0 rfl (by decide)
  intro f
  induction f with
  | zero =>
    intro k hf hk
    have e : k = 19 := by omega
    subst e
    have h2 : (19 : Int32) ≤ nI 19 := by decide
    simp (decide := true) only [k135_2, k135_26, h2, opF, Option.getD_some, ne_eq, reduceCtorEq, not_false_eq_true, not_true_eq_false, Option.bind_some, Option.toList_none, Option.toList_some, List.nil_append, List.cons_append, List.append_nil, ↓reduceIte, and_self, true_and, and_true, false_and, and_false, or_true, true_or, or_false, false_or, Nat.reduceEqDiff, Nat.reduceAdd, Int32.reduceMul, Int32.reduceAdd, Int32.reduceSub, Int32.reduceToNatClampNeg, Int32.reduceOfNat, Int32.reduceLT, Int32.reduceLE, va_rf]
  | succ f ih =>
    intro k hf hk
    have hk19 : k < 19 := by omega
    have h2 : ¬ (19 : Int32) ≤ nI k := nI_ge (b := 19) hk19 (by decide)
    have h3 : jin 19 (nI k) := jin_n hk19 (by decide)
    have h4 : (nI k).toNatClampNeg = k := nI_clamp (by omega)
    have h5 := hN k hk19
    rw [k135_2, if_neg h2]
    by_cases h : nmv k = v
    · have e : opF v (f + 1) k = nI k := if_pos h
      simp (decide := true) only [k135_8, k135_18, k135_20, sT_1, sT_2, sT_3, sT_16, sT_17, sT_18, sT_19, sT_20, sT_21, sT_22, sT_23, sT_24, sT_25, sT_26, sT_27, sT_28, sT_29, sT_30, sT_31, sT_32, sT_33, sT_34, sT_35, sT_36, sT_37, sT_38, sT_39, sT_40, sT_41, sT_42, sT_43, sT_44, sT_45, sT_46, sT_47, sT_48, sT_49, sT_50, sT_51, sT_52, sT_53, sT_54, sT_55, sT_56, sT_57, sT_58, sT_59, sT_60, sT_61, sT_62, sT_63, sT_64, sT_65, sT_66, sT_67, sT_68, sT_69, sT_70, sT_71, sT_72, sT_73, sT_74, sT_75, sT_76, sT_77, sT_78, sT_79, sT_80, sN_1, sN_2, sN_19, sN_21, sN_23, sN_24, sN_26, sN_29, sN_31, sN_33, sN_35, sN_36, sN_37, sN_39, sN_40, sN_42, sN_44, sN_45, sN_46, sN_48, sN_49, sN_50, sN_51, sN_52, sN_53, sN_54, sN_55, sN_56, sN_57, sN_58, sN_59, sN_60, sN_61, sN_62, sN_63, sN_64, sN_65, sN_66, sN_67, sN_68, sN_69, sN_70, sN_71, sN_72, sN_73, sN_74, sN_75, sN_76, sN_77, sN_78, sN_79, sN_80, sR_0_34, sR_0_38, sR_1_34, sR_1_38, sR_64_20, sR_64_22, sR_128_25, sR_128_28, sR_194_17, sR_195_17, sR_196_17, sR_197_17, sR_258_30, sR_258_32, sR_258_41, sR_384_43, sR_448_18, sR_512_27, sR_513_27, sR_514_27, sR_515_27, sR_516_27, sR_576_16, sR_577_16, sR_578_16, sR_579_16, sR_580_16, sR_581_16, sR_582_16, sR_583_16, sR_584_16, sR_641_47, sR_643_47, sR_645_47, sR_646_47, sR_647_47, sR_648_47, sR_649_47, sR_650_47, sR_651_47, sR_652_47, sR_653_47, sR_654_47, sR_655_47, sR_656_47, sR_657_47, sR_658_47, sR_659_47, sR_661_47, sR_662_47, sR_663_47, sR_664_47, sR_665_47, sR_669_47, sR_670_47, sR_671_47, sR_672_47, sR_673_47, sR_674_47, sR_676_47, sR_677_47, sR_679_47, sR_680_47, sR_681_47, SH_I, SH_A, SH_G, SH_C, hS, h3, h4, h5, h, e, Option.getD_some, ne_eq, reduceCtorEq, not_false_eq_true, not_true_eq_false, Option.bind_some, Option.toList_none, Option.toList_some, List.nil_append, List.cons_append, List.append_nil, ↓reduceIte, and_self, true_and, and_true, false_and, and_false, or_true, true_or, or_false, false_or, Nat.reduceEqDiff, Nat.reduceAdd, Int32.reduceMul, Int32.reduceAdd, Int32.reduceSub, Int32.reduceToNatClampNeg, Int32.reduceOfNat, Int32.reduceLT, Int32.reduceLE, va_rf]
    · have e : opF v (f + 1) k = opF v f (k + 1) := if_neg h
      rw [e, ← ih (k + 1) (by omega) (by omega)]
      simp (decide := true) only [k135_8, k135_18, k135_20, sT_1, sT_2, sT_3, sT_16, sT_17, sT_18, sT_19, sT_20, sT_21, sT_22, sT_23, sT_24, sT_25, sT_26, sT_27, sT_28, sT_29, sT_30, sT_31, sT_32, sT_33, sT_34, sT_35, sT_36, sT_37, sT_38, sT_39, sT_40, sT_41, sT_42, sT_43, sT_44, sT_45, sT_46, sT_47, sT_48, sT_49, sT_50, sT_51, sT_52, sT_53, sT_54, sT_55, sT_56, sT_57, sT_58, sT_59, sT_60, sT_61, sT_62, sT_63, sT_64, sT_65, sT_66, sT_67, sT_68, sT_69, sT_70, sT_71, sT_72, sT_73, sT_74, sT_75, sT_76, sT_77, sT_78, sT_79, sT_80, sN_1, sN_2, sN_19, sN_21, sN_23, sN_24, sN_26, sN_29, sN_31, sN_33, sN_35, sN_36, sN_37, sN_39, sN_40, sN_42, sN_44, sN_45, sN_46, sN_48, sN_49, sN_50, sN_51, sN_52, sN_53, sN_54, sN_55, sN_56, sN_57, sN_58, sN_59, sN_60, sN_61, sN_62, sN_63, sN_64, sN_65, sN_66, sN_67, sN_68, sN_69, sN_70, sN_71, sN_72, sN_73, sN_74, sN_75, sN_76, sN_77, sN_78, sN_79, sN_80, sR_0_34, sR_0_38, sR_1_34, sR_1_38, sR_64_20, sR_64_22, sR_128_25, sR_128_28, sR_194_17, sR_195_17, sR_196_17, sR_197_17, sR_258_30, sR_258_32, sR_258_41, sR_384_43, sR_448_18, sR_512_27, sR_513_27, sR_514_27, sR_515_27, sR_516_27, sR_576_16, sR_577_16, sR_578_16, sR_579_16, sR_580_16, sR_581_16, sR_582_16, sR_583_16, sR_584_16, sR_641_47, sR_643_47, sR_645_47, sR_646_47, sR_647_47, sR_648_47, sR_649_47, sR_650_47, sR_651_47, sR_652_47, sR_653_47, sR_654_47, sR_655_47, sR_656_47, sR_657_47, sR_658_47, sR_659_47, sR_661_47, sR_662_47, sR_663_47, sR_664_47, sR_665_47, sR_669_47, sR_670_47, sR_671_47, sR_672_47, sR_673_47, sR_674_47, sR_676_47, sR_677_47, sR_679_47, sR_680_47, sR_681_47, SH_I, SH_A, SH_G, SH_C, hS, h3, h4, h5, h, nI_succ, Option.getD_some, ne_eq, reduceCtorEq, not_false_eq_true, not_true_eq_false, Option.bind_some, Option.toList_none, Option.toList_some, List.nil_append, List.cons_append, List.append_nil, ↓reduceIte, and_self, true_and, and_true, false_and, and_false, or_true, true_or, or_false, false_or, Nat.reduceEqDiff, Nat.reduceAdd, Int32.reduceMul, Int32.reduceAdd, Int32.reduceSub, Int32.reduceToNatClampNeg, Int32.reduceOfNat, Int32.reduceLT, Int32.reduceLE, va_rf]
end MR1
