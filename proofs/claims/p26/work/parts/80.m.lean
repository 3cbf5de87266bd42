section S_80
/-! calls with small writes: width, end, drop, on; wrong, count -/
def scr : List Nat := [16, 17, 20, 21, 22, 23, 24, 26, 29, 31, 33, 35, 36, 37, 39, 40, 42]
theorem CRr.fr {σ σ' : jS} {l : List Nat} {W q : Nat} {a : AR} (h : CRr σ W q a) (f : FR l σ σ') (hl : ∀ x, q ≤ x → x < q + 7 → x ∉ l) : CRr σ' W q a := by
  obtain ⟨⟨tp, c⟩, e1, e2, e3, e4, e5⟩ := h
  have x := (f.2 q (hl q (by omega) (by omega))).1
  exact ⟨⟨tp, c.frame f (fun y hy => hl y (by simp at hy; omega) (by simp at hy; omega)) (fun g _ _ => x g)⟩, by rw [x]; exact e1, by rw [x]; exact e2, by rw [x]; exact e3, by rw [x]; exact e4, by rw [x]; exact e5⟩
theorem CX.fr {s s' : AS} {cr cp : Nat} {qr qp : Nat → Nat} {σ σ' : jS} {l : List Nat} (h : CX s cr cp qr qp σ) (f : FR l σ σ') (hl : ∀ x, x ∈ l → x ∈ scr) (hnr : jI σ' 585 16 = nI s'.rs.length) (hnp : jI σ' 586 16 = nI s'.ps.length) (hw : jI σ' 587 16 = nI s'.W) (hap : jI σ' 589 16 = s'.ap) (e1 : s'.len = s.len) (e2 : s'.b = s.b) (e3 : s'.ns = s.ns) (e4 : s'.tl = s.tl) (l1 : s'.rs.length ≤ cr) (l2 : s'.ps.length ≤ cp) (hrs : ∀ i, i < s'.rs.length → CRr σ s'.W (qr i) (s'.rs.getD i ar0)) (hps : ∀ i, i < s'.ps.length → RO σ (qp i) (qp i + 1) 24 (s'.ps.getD i [])) : CX s' cr cp qr qp σ' := by
  have nl : ∀ x, x ∉ scr → x ∉ l := fun x hx z => hx (hl x z)
  have big : ∀ x, 81 ≤ x → x ∉ l := fun x hx => nl x (by simp [scr]; omega)
  have dj := h.dj
  refine ⟨f.st (nl 1 (by decide)) (nl 2 (by decide)) h.st, hnr, hnp, hw, hap, ?_, ?_, ?_, ?_, ?_, ?_, ⟨l1, h.lr.2⟩, ⟨l2, h.lp.2⟩, fun i hi => ?_, fun i h1 h2 => by rw [f.1.2.2.2.1.1]; exact h.gr0 i h1 h2, fun i hi => ?_, fun i h1 h2 => by rw [f.1.2.2.2.1.1]; exact h.gp0 i h1 h2, by rw [f.1.2.2.2.2.1]; exact dj, fun i hi => ?_, fun i hi => ?_⟩
  · rw [e1, e2]; exact f.tx (nl 18 (by decide)) (nl 19 (by decide)) h.tx
  · rw [e3, (f.2 43 (nl 43 (by decide))).1]; exact h.ns
  · intro k w hk hw'; rw [e3] at hk; rw [e4, (f.2 44 (nl 44 (by decide))).2]; exact h.tl k w hk hw'
  · obtain ⟨n, q⟩ := h.w1; exact ⟨n, q.frame f (nl 30 (by decide))⟩
  · obtain ⟨n, q⟩ := h.w2; exact ⟨n, q.frame f (nl 32 (by decide))⟩
  · obtain ⟨n, q⟩ := h.w3; exact ⟨n, q.frame f (nl 41 (by decide))⟩
  · obtain ⟨g1, g2, g3, g4⟩ := h.gr i hi
    have b := dj.r i hi
    exact ⟨by rw [f.1.2.2.2.1.1]; exact g1, g2.frame f, g3.frame f (big _ (by omega)), g4.frame f (big _ (by omega))⟩
  · obtain ⟨g1, g2⟩ := h.gp i hi
    have b := dj.p i hi
    exact ⟨by rw [f.1.2.2.2.1.1]; exact g1, RS.frame g2 f (big _ (by omega))⟩
  · have b := dj.r i (by omega)
    exact (hrs i hi).fr f (fun x h1 h2 => big x (by omega))
  · have b := dj.p i (by omega)
    exact (hps i hi).frame f (big _ (by omega)) (big _ (by omega))
/-- the class's scratch alone has changed -/
theorem CX.scr {s : AS} {cr cp : Nat} {qr qp : Nat → Nat} {σ σ' : jS} {l : List Nat} (h : CX s cr cp qr qp σ) (f : FR l σ σ') (hl : ∀ x, x ∈ l → x ∈ scr ∧ x ≠ 16) : CX s cr cp qr qp σ' := by
  have n16 : 16 ∉ l := fun z => (hl 16 z).2 rfl
  have i := (f.2 16 n16).1
  exact h.fr f (fun x hx => (hl x hx).1) (by rw [i]; exact h.nr) (by rw [i]; exact h.np) (by rw [i]; exact h.w) (by rw [i]; exact h.ap) rfl rfl rfl rfl h.lr.1 h.lp.1 h.rs h.ps
/-- what the reference's own fields are -/
theorem CM.I47 {s s' : AS} {σ : jS} {g : Nat} {v : Int32} (h : CM s σ) (hnr : jI (jsI σ g 47 v) 644 47 = nI s'.rs.length) (hnp : jI (jsI σ g 47 v) 660 47 = nI s'.ps.length) (hw : jI (jsI σ g 47 v) 640 47 = nI s'.W) (hap : jI (jsI σ g 47 v) 682 47 = s'.ap) (ht : TM (jsI σ g 47 v) s'.len s'.b) (hns : jI (jsI σ g 47 v) 678 47 = nI s'.ns) (htl : ∀ k w, k < s'.ns → w < 3 → jA σ (78 + w) k = s'.tl k w) (hrs : ∀ i, i < s'.rs.length → MRr σ i (s'.rs.getD i ar0)) (hps : ∀ i, i < s'.ps.length → PM σ i (s'.ps.getD i [])) : CM s' (jsI σ g 47 v) :=
  ⟨h.nv, hnr, hnp, hw, hap, ht, hns, htl, hrs, hps⟩
section SM4
variable {d : Nat} {σ : jS} {s : AS} {cr cp : Nat} {qr qp : Nat → Nat}
theorem i16FR (g : Nat) (v : Int32) : FR [16] σ (jsI σ g 16 v) := (FR.refl _ σ).I (by decide) (by omega)
theorem i47sc (g : Nat) (v : Int32) : sameC σ (jsI σ g 47 v) := ⟨Nat.le_refl _, fun a _ h => ⟨rfl, rfl, fun f => by rw [zI_I, if_neg (fun z => by omega)], fun _ => rfl, fun _ => rfl, fun _ => rfl⟩⟩
theorem sim_width (hR : REL s cr cp qr qp σ) (x : Int32) : SimR (d + 2) 12 122 [some (.int x), none] [some (.int x), none] true σ := by
  have hR0 := hR
  obtain ⟨hS, hx, hs, hC, hM⟩ := hR
  have hl1 := hs.r24
  have hl2 := hs.p16
  have c1 : jx (d + 1) 123 0 [some (.long x.toInt64), none, some (.long 1), none, some (.long 3), none] [] σ = some (some (.int (if 1 ≤ x ∧ x ≤ 3 then 1 else 0)), σ) := c123 (b := 1) (c := 3)
  by_cases h : 1 ≤ x ∧ x ≤ 3
  · have i : (if 1 ≤ x ∧ x ≤ 3 then (1 : Int32) else 0) = 1 := if_pos h
    rw [i] at c1
    have n1 : ¬ x < 1 := Int32.not_lt.mpr h.1
    have e1 := hC.nr
    have e2 := hC.np
    have e3 := hC.w
    have f1 := hM.nr
    have f2 := hM.np
    have f3 := hM.w
    by_cases z1 : s.rs.length = 0
    · by_cases z2 : s.ps.length = 0
      · have a1 : ¬ (0 : Int32) < nI s.rs.length := by rw [z1]; decide
        have a2 : nI s.ps.length ≤ 0 := by rw [z2]; decide
        obtain ⟨w, hw, ew⟩ : ∃ w, (w = 1 ∨ w = 2 ∨ w = 3) ∧ x = nI w := by
          have q := i32_nat (c := x) (n := 4) (by decide) (Int32.not_lt.mpr (Int32.le_trans (by decide) h.1)) (by rw [Int32.not_le]; exact Int32.lt_of_le_of_lt h.2 (by decide))
          refine ⟨x.toNatClampNeg, ?_, q.1⟩
          have : x.toNatClampNeg ≠ 0 := fun e => by rw [e] at q; rw [q.1] at h; exact absurd h.1 (by decide)
          omega
        let s' : AS := (w, s.2)
        have hS1 : SH (jsI σ 587 16 x) := by rw [SH_I]; exact hS
        have hS2 : SH (jsI (jsI σ 587 16 x) 640 47 x) := by rw [SH_I, SH_I]; exact hS
        have sm : sameM σ (jsI σ 587 16 x) := (i16FR 587 x).sm (fun a h1 h2 => by simp; omega)
        have hM1 := hM.sm sm
        have hC1 : CX s' cr cp qr qp (jsI σ 587 16 x) := hC.fr (i16FR 587 x) (by decide) (by rw [zI_I, if_neg (by decide)]; exact e1) (by rw [zI_I, if_neg (by decide)]; exact e2) (by rw [zI_I, if_pos ⟨rfl, rfl⟩]; exact ew) (by rw [zI_I, if_neg (by decide)]; exact hC.ap) rfl rfl rfl rfl hC.lr.1 hC.lp.1 (fun i hi => absurd hi (by rw [show s'.rs.length = s.rs.length from rfl, z1]; exact Nat.not_lt_zero i)) hC.ps
        have hM2 : CM s' (jsI (jsI σ 587 16 x) 640 47 x) := hM1.I47 (by rw [zI_I, if_neg (by decide)]; exact hM1.nr) (by rw [zI_I, if_neg (by decide)]; exact hM1.np) (by rw [zI_I, if_pos ⟨rfl, rfl⟩]; exact ew) (by rw [zI_I, if_neg (by decide)]; exact hM1.ap) (by rw [TM_I (by decide)]; exact hM1.tm) (by rw [zI_I, if_neg (by decide)]; exact hM1.ns) hM1.tl hM1.rs hM1.ps
        refine ⟨nI s.W, nI s.W, jsI σ 587 16 x, jsI (jsI σ 587 16 x) 640 47 x, s', cr, cp, qr, qp, ?_, ?_, ⟨hS2, hx, ⟨hw, hs.l, hs.byy, hs.r24, hs.p16, hs.fr, hs.fp, hs.n144⟩, CX.sc (by exact hx) hC1 (i47sc 640 x), hM2⟩, by show jnx σ ≤ _; omega, by show jsl σ ≤ _; omega, ?_, fun _ => rfl⟩
        · have l3 := h.2
          simp (decide := true) only [k12_0, k12_5, k12_10, k12_12, k12_19, k12_26, k12_29, sT_1, sT_2, sT_3, sT_16, sT_17, sT_18, sT_19, sT_20, sT_21, sT_22, sT_23, sT_24, sT_25, sT_26, sT_27, sT_28, sT_29, sT_30, sT_31, sT_32, sT_33, sT_34, sT_35, sT_36, sT_37, sT_38, sT_39, sT_40, sT_41, sT_42, sT_43, sT_44, sT_45, sT_46, sT_47, sT_48, sT_49, sT_50, sT_51, sT_52, sT_53, sT_54, sT_55, sT_56, sT_57, sT_58, sT_59, sT_60, sT_61, sT_62, sT_63, sT_64, sT_65, sT_66, sT_67, sT_68, sT_69, sT_70, sT_71, sT_72, sT_73, sT_74, sT_75, sT_76, sT_77, sT_78, sT_79, sT_80, sN_1, sN_2, sN_19, sN_21, sN_23, sN_24, sN_26, sN_29, sN_31, sN_33, sN_35, sN_36, sN_37, sN_39, sN_40, sN_42, sN_44, sN_45, sN_46, sN_48, sN_49, sN_50, sN_51, sN_52, sN_53, sN_54, sN_55, sN_56, sN_57, sN_58, sN_59, sN_60, sN_61, sN_62, sN_63, sN_64, sN_65, sN_66, sN_67, sN_68, sN_69, sN_70, sN_71, sN_72, sN_73, sN_74, sN_75, sN_76, sN_77, sN_78, sN_79, sN_80, sR_0_34, sR_0_38, sR_1_34, sR_1_38, sR_64_20, sR_64_22, sR_128_25, sR_128_28, sR_194_17, sR_195_17, sR_196_17, sR_197_17, sR_258_30, sR_258_32, sR_258_41, sR_384_43, sR_448_18, sR_512_27, sR_513_27, sR_514_27, sR_515_27, sR_516_27, sR_576_16, sR_577_16, sR_578_16, sR_579_16, sR_580_16, sR_581_16, sR_582_16, sR_583_16, sR_584_16, sR_641_47, sR_643_47, sR_645_47, sR_646_47, sR_647_47, sR_648_47, sR_649_47, sR_650_47, sR_651_47, sR_652_47, sR_653_47, sR_654_47, sR_655_47, sR_656_47, sR_657_47, sR_658_47, sR_659_47, sR_661_47, sR_662_47, sR_663_47, sR_664_47, sR_665_47, sR_669_47, sR_670_47, sR_671_47, sR_672_47, sR_673_47, sR_674_47, sR_676_47, sR_677_47, sR_679_47, sR_680_47, sR_681_47, SH_I, SH_A, SH_G, SH_C, hS, e1, e2, e3, n1, l3, a1, a2, Option.getD_some, ne_eq, reduceCtorEq, not_false_eq_true, not_true_eq_false, Option.bind_some, Option.toList_none, Option.toList_some, List.nil_append, List.cons_append, List.append_nil, ↓reduceIte, and_self, true_and, and_true, false_and, and_false, or_true, true_or, or_false, false_or, Nat.reduceEqDiff, Nat.reduceAdd, Int32.reduceMul, Int32.reduceAdd, Int32.reduceSub, Int32.reduceToNatClampNeg, Int32.reduceOfNat, Int32.reduceLT, Int32.reduceLE, va_rf]
        · have f1' := hM1.nr
          have f2' := hM1.np
          have f3' := hM1.w
          have c1' : jx (d + 1) 123 0 [some (.long x.toInt64), none, some (.long 1), none, some (.long 3), none] [] (jsI σ 587 16 x) = some (some (.int (if 1 ≤ x ∧ x ≤ 3 then 1 else 0)), jsI σ 587 16 x) := c123 (b := 1) (c := 3)
          rw [i] at c1'
          rw [k122_0, c1']
          simp only [Option.bind_some, Option.toList_some, List.cons_append, List.nil_append]
          rw [k122_9, if_pos (by decide), k122_14 (sT_47 hS1), f1', if_neg a1, k122_21 (sT_47 hS1), f2', if_pos a2, k122_31 (sT_47 hS1), f3']
        · exact low.trans ((i16FR 587 x).low (by simp)) ((i47sc 640 x).low hx)
      · have a1 : ¬ (0 : Int32) < nI s.rs.length := by rw [z1]; decide
        have a2 : ¬ nI s.ps.length ≤ 0 := by rw [show (0 : Int32) = nI 0 from rfl, n31le (by omega) (by decide)]; omega
        have l3 := h.2
        refine SimR.read hR0 (a := -2) (a' := -2) ?_ ?_ (fun _ => rfl)
        · simp (decide := true) only [k12_0, k12_5, k12_10, k12_12, k12_19, k12_26, k12_29, sT_1, sT_2, sT_3, sT_16, sT_17, sT_18, sT_19, sT_20, sT_21, sT_22, sT_23, sT_24, sT_25, sT_26, sT_27, sT_28, sT_29, sT_30, sT_31, sT_32, sT_33, sT_34, sT_35, sT_36, sT_37, sT_38, sT_39, sT_40, sT_41, sT_42, sT_43, sT_44, sT_45, sT_46, sT_47, sT_48, sT_49, sT_50, sT_51, sT_52, sT_53, sT_54, sT_55, sT_56, sT_57, sT_58, sT_59, sT_60, sT_61, sT_62, sT_63, sT_64, sT_65, sT_66, sT_67, sT_68, sT_69, sT_70, sT_71, sT_72, sT_73, sT_74, sT_75, sT_76, sT_77, sT_78, sT_79, sT_80, sN_1, sN_2, sN_19, sN_21, sN_23, sN_24, sN_26, sN_29, sN_31, sN_33, sN_35, sN_36, sN_37, sN_39, sN_40, sN_42, sN_44, sN_45, sN_46, sN_48, sN_49, sN_50, sN_51, sN_52, sN_53, sN_54, sN_55, sN_56, sN_57, sN_58, sN_59, sN_60, sN_61, sN_62, sN_63, sN_64, sN_65, sN_66, sN_67, sN_68, sN_69, sN_70, sN_71, sN_72, sN_73, sN_74, sN_75, sN_76, sN_77, sN_78, sN_79, sN_80, sR_0_34, sR_0_38, sR_1_34, sR_1_38, sR_64_20, sR_64_22, sR_128_25, sR_128_28, sR_194_17, sR_195_17, sR_196_17, sR_197_17, sR_258_30, sR_258_32, sR_258_41, sR_384_43, sR_448_18, sR_512_27, sR_513_27, sR_514_27, sR_515_27, sR_516_27, sR_576_16, sR_577_16, sR_578_16, sR_579_16, sR_580_16, sR_581_16, sR_582_16, sR_583_16, sR_584_16, sR_641_47, sR_643_47, sR_645_47, sR_646_47, sR_647_47, sR_648_47, sR_649_47, sR_650_47, sR_651_47, sR_652_47, sR_653_47, sR_654_47, sR_655_47, sR_656_47, sR_657_47, sR_658_47, sR_659_47, sR_661_47, sR_662_47, sR_663_47, sR_664_47, sR_665_47, sR_669_47, sR_670_47, sR_671_47, sR_672_47, sR_673_47, sR_674_47, sR_676_47, sR_677_47, sR_679_47, sR_680_47, sR_681_47, SH_I, SH_A, SH_G, SH_C, hS, e1, e2, n1, l3, a1, a2, Option.getD_some, ne_eq, reduceCtorEq, not_false_eq_true, not_true_eq_false, Option.bind_some, Option.toList_none, Option.toList_some, List.nil_append, List.cons_append, List.append_nil, ↓reduceIte, and_self, true_and, and_true, false_and, and_false, or_true, true_or, or_false, false_or, Nat.reduceEqDiff, Nat.reduceAdd, Int32.reduceMul, Int32.reduceAdd, Int32.reduceSub, Int32.reduceToNatClampNeg, Int32.reduceOfNat, Int32.reduceLT, Int32.reduceLE, va_rf]
        · simp (decide := true) only [k122_0, k122_9, k122_12, k122_14, k122_21, k122_28, k122_31, sT_1, sT_2, sT_3, sT_16, sT_17, sT_18, sT_19, sT_20, sT_21, sT_22, sT_23, sT_24, sT_25, sT_26, sT_27, sT_28, sT_29, sT_30, sT_31, sT_32, sT_33, sT_34, sT_35, sT_36, sT_37, sT_38, sT_39, sT_40, sT_41, sT_42, sT_43, sT_44, sT_45, sT_46, sT_47, sT_48, sT_49, sT_50, sT_51, sT_52, sT_53, sT_54, sT_55, sT_56, sT_57, sT_58, sT_59, sT_60, sT_61, sT_62, sT_63, sT_64, sT_65, sT_66, sT_67, sT_68, sT_69, sT_70, sT_71, sT_72, sT_73, sT_74, sT_75, sT_76, sT_77, sT_78, sT_79, sT_80, sN_1, sN_2, sN_19, sN_21, sN_23, sN_24, sN_26, sN_29, sN_31, sN_33, sN_35, sN_36, sN_37, sN_39, sN_40, sN_42, sN_44, sN_45, sN_46, sN_48, sN_49, sN_50, sN_51, sN_52, sN_53, sN_54, sN_55, sN_56, sN_57, sN_58, sN_59, sN_60, sN_61, sN_62, sN_63, sN_64, sN_65, sN_66, sN_67, sN_68, sN_69, sN_70, sN_71, sN_72, sN_73, sN_74, sN_75, sN_76, sN_77, sN_78, sN_79, sN_80, sR_0_34, sR_0_38, sR_1_34, sR_1_38, sR_64_20, sR_64_22, sR_128_25, sR_128_28, sR_194_17, sR_195_17, sR_196_17, sR_197_17, sR_258_30, sR_258_32, sR_258_41, sR_384_43, sR_448_18, sR_512_27, sR_513_27, sR_514_27, sR_515_27, sR_516_27, sR_576_16, sR_577_16, sR_578_16, sR_579_16, sR_580_16, sR_581_16, sR_582_16, sR_583_16, sR_584_16, sR_641_47, sR_643_47, sR_645_47, sR_646_47, sR_647_47, sR_648_47, sR_649_47, sR_650_47, sR_651_47, sR_652_47, sR_653_47, sR_654_47, sR_655_47, sR_656_47, sR_657_47, sR_658_47, sR_659_47, sR_661_47, sR_662_47, sR_663_47, sR_664_47, sR_665_47, sR_669_47, sR_670_47, sR_671_47, sR_672_47, sR_673_47, sR_674_47, sR_676_47, sR_677_47, sR_679_47, sR_680_47, sR_681_47, SH_I, SH_A, SH_G, SH_C, hS, c1, f1, f2, a1, a2, Option.getD_some, ne_eq, reduceCtorEq, not_false_eq_true, not_true_eq_false, Option.bind_some, Option.toList_none, Option.toList_some, List.nil_append, List.cons_append, List.append_nil, ↓reduceIte, and_self, true_and, and_true, false_and, and_false, or_true, true_or, or_false, false_or, Nat.reduceEqDiff, Nat.reduceAdd, Int32.reduceMul, Int32.reduceAdd, Int32.reduceSub, Int32.reduceToNatClampNeg, Int32.reduceOfNat, Int32.reduceLT, Int32.reduceLE, va_rf]
    · have a1 : (0 : Int32) < nI s.rs.length := by rw [show (0 : Int32) = nI 0 from rfl, n31 (by decide) (by omega)]; omega
      have l3 := h.2
      refine SimR.read hR0 (a := -2) (a' := -2) ?_ ?_ (fun _ => rfl)
      · simp (decide := true) only [k12_0, k12_5, k12_10, k12_12, k12_19, k12_26, k12_29, sT_1, sT_2, sT_3, sT_16, sT_17, sT_18, sT_19, sT_20, sT_21, sT_22, sT_23, sT_24, sT_25, sT_26, sT_27, sT_28, sT_29, sT_30, sT_31, sT_32, sT_33, sT_34, sT_35, sT_36, sT_37, sT_38, sT_39, sT_40, sT_41, sT_42, sT_43, sT_44, sT_45, sT_46, sT_47, sT_48, sT_49, sT_50, sT_51, sT_52, sT_53, sT_54, sT_55, sT_56, sT_57, sT_58, sT_59, sT_60, sT_61, sT_62, sT_63, sT_64, sT_65, sT_66, sT_67, sT_68, sT_69, sT_70, sT_71, sT_72, sT_73, sT_74, sT_75, sT_76, sT_77, sT_78, sT_79, sT_80, sN_1, sN_2, sN_19, sN_21, sN_23, sN_24, sN_26, sN_29, sN_31, sN_33, sN_35, sN_36, sN_37, sN_39, sN_40, sN_42, sN_44, sN_45, sN_46, sN_48, sN_49, sN_50, sN_51, sN_52, sN_53, sN_54, sN_55, sN_56, sN_57, sN_58, sN_59, sN_60, sN_61, sN_62, sN_63, sN_64, sN_65, sN_66, sN_67, sN_68, sN_69, sN_70, sN_71, sN_72, sN_73, sN_74, sN_75, sN_76, sN_77, sN_78, sN_79, sN_80, sR_0_34, sR_0_38, sR_1_34, sR_1_38, sR_64_20, sR_64_22, sR_128_25, sR_128_28, sR_194_17, sR_195_17, sR_196_17, sR_197_17, sR_258_30, sR_258_32, sR_258_41, sR_384_43, sR_448_18, sR_512_27, sR_513_27, sR_514_27, sR_515_27, sR_516_27, sR_576_16, sR_577_16, sR_578_16, sR_579_16, sR_580_16, sR_581_16, sR_582_16, sR_583_16, sR_584_16, sR_641_47, sR_643_47, sR_645_47, sR_646_47, sR_647_47, sR_648_47, sR_649_47, sR_650_47, sR_651_47, sR_652_47, sR_653_47, sR_654_47, sR_655_47, sR_656_47, sR_657_47, sR_658_47, sR_659_47, sR_661_47, sR_662_47, sR_663_47, sR_664_47, sR_665_47, sR_669_47, sR_670_47, sR_671_47, sR_672_47, sR_673_47, sR_674_47, sR_676_47, sR_677_47, sR_679_47, sR_680_47, sR_681_47, SH_I, SH_A, SH_G, SH_C, hS, e1, n1, l3, a1, Option.getD_some, ne_eq, reduceCtorEq, not_false_eq_true, not_true_eq_false, Option.bind_some, Option.toList_none, Option.toList_some, List.nil_append, List.cons_append, List.append_nil, ↓reduceIte, and_self, true_and, and_true, false_and, and_false, or_true, true_or, or_false, false_or, Nat.reduceEqDiff, Nat.reduceAdd, Int32.reduceMul, Int32.reduceAdd, Int32.reduceSub, Int32.reduceToNatClampNeg, Int32.reduceOfNat, Int32.reduceLT, Int32.reduceLE, va_rf]
      · simp (decide := true) only [k122_0, k122_9, k122_12, k122_14, k122_21, k122_28, k122_31, sT_1, sT_2, sT_3, sT_16, sT_17, sT_18, sT_19, sT_20, sT_21, sT_22, sT_23, sT_24, sT_25, sT_26, sT_27, sT_28, sT_29, sT_30, sT_31, sT_32, sT_33, sT_34, sT_35, sT_36, sT_37, sT_38, sT_39, sT_40, sT_41, sT_42, sT_43, sT_44, sT_45, sT_46, sT_47, sT_48, sT_49, sT_50, sT_51, sT_52, sT_53, sT_54, sT_55, sT_56, sT_57, sT_58, sT_59, sT_60, sT_61, sT_62, sT_63, sT_64, sT_65, sT_66, sT_67, sT_68, sT_69, sT_70, sT_71, sT_72, sT_73, sT_74, sT_75, sT_76, sT_77, sT_78, sT_79, sT_80, sN_1, sN_2, sN_19, sN_21, sN_23, sN_24, sN_26, sN_29, sN_31, sN_33, sN_35, sN_36, sN_37, sN_39, sN_40, sN_42, sN_44, sN_45, sN_46, sN_48, sN_49, sN_50, sN_51, sN_52, sN_53, sN_54, sN_55, sN_56, sN_57, sN_58, sN_59, sN_60, sN_61, sN_62, sN_63, sN_64, sN_65, sN_66, sN_67, sN_68, sN_69, sN_70, sN_71, sN_72, sN_73, sN_74, sN_75, sN_76, sN_77, sN_78, sN_79, sN_80, sR_0_34, sR_0_38, sR_1_34, sR_1_38, sR_64_20, sR_64_22, sR_128_25, sR_128_28, sR_194_17, sR_195_17, sR_196_17, sR_197_17, sR_258_30, sR_258_32, sR_258_41, sR_384_43, sR_448_18, sR_512_27, sR_513_27, sR_514_27, sR_515_27, sR_516_27, sR_576_16, sR_577_16, sR_578_16, sR_579_16, sR_580_16, sR_581_16, sR_582_16, sR_583_16, sR_584_16, sR_641_47, sR_643_47, sR_645_47, sR_646_47, sR_647_47, sR_648_47, sR_649_47, sR_650_47, sR_651_47, sR_652_47, sR_653_47, sR_654_47, sR_655_47, sR_656_47, sR_657_47, sR_658_47, sR_659_47, sR_661_47, sR_662_47, sR_663_47, sR_664_47, sR_665_47, sR_669_47, sR_670_47, sR_671_47, sR_672_47, sR_673_47, sR_674_47, sR_676_47, sR_677_47, sR_679_47, sR_680_47, sR_681_47, SH_I, SH_A, SH_G, SH_C, hS, c1, f1, a1, Option.getD_some, ne_eq, reduceCtorEq, not_false_eq_true, not_true_eq_false, Option.bind_some, Option.toList_none, Option.toList_some, List.nil_append, List.cons_append, List.append_nil, ↓reduceIte, and_self, true_and, and_true, false_and, and_false, or_true, true_or, or_false, false_or, Nat.reduceEqDiff, Nat.reduceAdd, Int32.reduceMul, Int32.reduceAdd, Int32.reduceSub, Int32.reduceToNatClampNeg, Int32.reduceOfNat, Int32.reduceLT, Int32.reduceLE, va_rf]
  · have i : (if 1 ≤ x ∧ x ≤ 3 then (1 : Int32) else 0) = 0 := if_neg h
    rw [i] at c1
    refine SimR.read hR0 (a := -1) (a' := -1) ?_ ?_ (fun _ => rfl)
    · by_cases n1 : x < 1
      · simp (decide := true) only [k12_0, k12_5, k12_10, k12_12, k12_19, k12_26, k12_29, n1, Option.getD_some, ne_eq, reduceCtorEq, not_false_eq_true, not_true_eq_false, Option.bind_some, Option.toList_none, Option.toList_some, List.nil_append, List.cons_append, List.append_nil, ↓reduceIte, and_self, true_and, and_true, false_and, and_false, or_true, true_or, or_false, false_or, Nat.reduceEqDiff, Nat.reduceAdd, Int32.reduceMul, Int32.reduceAdd, Int32.reduceSub, Int32.reduceToNatClampNeg, Int32.reduceOfNat, Int32.reduceLT, Int32.reduceLE, va_rf]
      · have n3 : ¬ x ≤ 3 := fun z => h ⟨Int32.not_lt.mp n1, z⟩
        simp (decide := true) only [k12_0, k12_5, k12_10, k12_12, k12_19, k12_26, k12_29, n1, n3, Option.getD_some, ne_eq, reduceCtorEq, not_false_eq_true, not_true_eq_false, Option.bind_some, Option.toList_none, Option.toList_some, List.nil_append, List.cons_append, List.append_nil, ↓reduceIte, and_self, true_and, and_true, false_and, and_false, or_true, true_or, or_false, false_or, Nat.reduceEqDiff, Nat.reduceAdd, Int32.reduceMul, Int32.reduceAdd, Int32.reduceSub, Int32.reduceToNatClampNeg, Int32.reduceOfNat, Int32.reduceLT, Int32.reduceLE, va_rf]
    · simp (decide := true) only [k122_0, k122_9, k122_12, k122_14, k122_21, k122_28, k122_31, c1, Option.getD_some, ne_eq, reduceCtorEq, not_false_eq_true, not_true_eq_false, Option.bind_some, Option.toList_none, Option.toList_some, List.nil_append, List.cons_append, List.append_nil, ↓reduceIte, and_self, true_and, and_true, false_and, and_false, or_true, true_or, or_false, false_or, Nat.reduceEqDiff, Nat.reduceAdd, Int32.reduceMul, Int32.reduceAdd, Int32.reduceSub, Int32.reduceToNatClampNeg, Int32.reduceOfNat, Int32.reduceLT, Int32.reduceLE, va_rf]
theorem sim_drop (hR : REL s cr cp qr qp σ) : SimR d 119 197 [] [] true σ := by
  have hR0 := hR
  obtain ⟨hS, hx, hs, hC, hM⟩ := hR
  have hl2 := hs.p16
  by_cases z : s.ps.length = 0
  · have e1 : nI s.ps.length = 0 := by rw [z]; rfl
    have e2 := hC.np
    have e3 := hM.np
    refine SimR.read hR0 (a := -4) (a' := -4) ?_ ?_ (fun _ => rfl)
    · rw [k119_0 (sT_16 hS), e2, if_neg (fun w => w e1), k119_7]
    · rw [k197_0 (sT_47 hS), e3, if_neg (fun w => w e1), k197_7]
  · have e1 : ¬ nI s.ps.length = 0 := by rw [show (0 : Int32) = nI 0 from rfl, n31eq (by omega) (by decide)]; exact z
    have en : nI s.ps.length - 1 = nI (s.ps.length - 1) := by rw [show (1 : Int32) = nI 1 from rfl, nsub (by omega)]
    let s' : AS := (s.W, s.len, s.b, s.rs, s.ps.take (s.ps.length - 1), s.ns, s.tl, s.ap)
    have el : s'.ps.length = s.ps.length - 1 := by show (s.ps.take (s.ps.length - 1)).length = _; rw [List.length_take]; omega
    have gd : ∀ i, i < s'.ps.length → s'.ps.getD i [] = s.ps.getD i [] := by
      intro i hi
      show (s.ps.take (s.ps.length - 1)).getD i [] = _
      rw [List.getD_eq_getElem?_getD, List.getD_eq_getElem?_getD, List.getElem?_take_of_lt (by omega)]
    have hS1 : SH (jsI σ 586 16 (nI (s.ps.length - 1))) := by rw [SH_I]; exact hS
    have sm : sameM σ (jsI σ 586 16 (nI (s.ps.length - 1))) := (i16FR 586 _).sm (fun a h1 h2 => by simp; omega)
    have hM1 := hM.sm sm
    have hC1 : CX s' cr cp qr qp (jsI σ 586 16 (nI (s.ps.length - 1))) := hC.fr (i16FR 586 _) (by decide) (by rw [zI_I, if_neg (by decide)]; exact hC.nr) (by rw [zI_I, if_pos ⟨rfl, rfl⟩, el]) (by rw [zI_I, if_neg (by decide)]; exact hC.w) (by rw [zI_I, if_neg (by decide)]; exact hC.ap) rfl rfl rfl rfl hC.lr.1 (by have := hC.lp.1; omega) hC.rs (fun i hi => by rw [gd i hi]; exact hC.ps i (by omega))
    have hM2 : CM s' (jsI (jsI σ 586 16 (nI (s.ps.length - 1))) 660 47 (nI (s.ps.length - 1))) := hM1.I47 (by rw [zI_I, if_neg (by decide)]; exact hM1.nr) (by rw [zI_I, if_pos ⟨rfl, rfl⟩, el]) (by rw [zI_I, if_neg (by decide)]; exact hM1.w) (by rw [zI_I, if_neg (by decide)]; exact hM1.ap) (by rw [TM_I (by decide)]; exact hM1.tm) (by rw [zI_I, if_neg (by decide)]; exact hM1.ns) hM1.tl hM1.rs (fun i hi => by rw [gd i hi]; exact hM1.ps i (by omega))
    refine ⟨nI (s.ps.length - 1), nI (s.ps.length - 1), jsI σ 586 16 (nI (s.ps.length - 1)), jsI (jsI σ 586 16 (nI (s.ps.length - 1))) 660 47 (nI (s.ps.length - 1)), s', cr, cp, qr, qp, ?_, ?_, ⟨by rw [SH_I]; exact hS1, hx, ⟨hs.w, hs.l, hs.byy, hs.r24, by omega, hs.fr, fun p hp => hs.fp p (List.mem_of_mem_take hp), hs.n144⟩, CX.sc (by exact hx) hC1 (i47sc 660 _), hM2⟩, by show jnx σ ≤ _; omega, by show jsl σ ≤ _; omega, low.trans ((i16FR 586 _).low (by simp)) ((i47sc 660 _).low hx), fun _ => rfl⟩
    · rw [k119_0 (sT_16 hS), hC.np, if_pos e1, k119_10 (sT_16 hS), hC.np, en, zI_I, if_pos ⟨rfl, rfl⟩]
    · rw [k197_0 (sT_47 hS1), hM1.np, if_pos e1, k197_10 (sT_47 hS1), hM1.np, en, zI_I, if_pos ⟨rfl, rfl⟩]
end SM4
end S_80
section S_81
/-! calls on the tape: end, feed -/
theorem CX.tape {s s' : AS} {cr cp : Nat} {qr qp : Nat → Nat} {σ σ' : jS} {l : List Nat} (h : CX s cr cp qr qp σ) (f : FR l σ σ') (hl : ∀ x, x ∈ l → x = 18 ∨ x = 19) (e0 : s'.W = s.W) (e1 : s'.rs = s.rs) (e2 : s'.ps = s.ps) (e3 : s'.ns = s.ns) (e4 : s'.tl = s.tl) (e5 : s'.ap = s.ap) (htx : TX σ' s'.len s'.b) : CX s' cr cp qr qp σ' := by
  have nl : ∀ x, x ≠ 18 → x ≠ 19 → x ∉ l := fun x h1 h2 z => (hl x z).elim h1 h2
  have big : ∀ x, 81 ≤ x → x ∉ l := fun x hx => nl x (by omega) (by omega)
  have dj := h.dj
  have i16 := (f.2 16 (nl 16 (by decide) (by decide))).1
  refine ⟨f.st (nl 1 (by decide) (by decide)) (nl 2 (by decide) (by decide)) h.st, by rw [i16, e1]; exact h.nr, by rw [i16, e2]; exact h.np, by rw [i16, e0]; exact h.w, by rw [i16, e5]; exact h.ap, htx, ?_, ?_, ?_, ?_, ?_, by rw [e1]; exact h.lr, by rw [e2]; exact h.lp, fun i hi => ?_, fun i h1 h2 => by rw [f.1.2.2.2.1.1]; exact h.gr0 i h1 h2, fun i hi => ?_, fun i h1 h2 => by rw [f.1.2.2.2.1.1]; exact h.gp0 i h1 h2, by rw [f.1.2.2.2.2.1]; exact dj, fun i hi => ?_, fun i hi => ?_⟩
  · rw [e3, (f.2 43 (nl 43 (by decide) (by decide))).1]; exact h.ns
  · intro k w hk hw'; rw [e3] at hk; rw [e4, (f.2 44 (nl 44 (by decide) (by decide))).2]; exact h.tl k w hk hw'
  · obtain ⟨n, q⟩ := h.w1; exact ⟨n, q.frame f (nl 30 (by decide) (by decide))⟩
  · obtain ⟨n, q⟩ := h.w2; exact ⟨n, q.frame f (nl 32 (by decide) (by decide))⟩
  · obtain ⟨n, q⟩ := h.w3; exact ⟨n, q.frame f (nl 41 (by decide) (by decide))⟩
  · obtain ⟨g1, g2, g3, g4⟩ := h.gr i hi
    have b := dj.r i hi
    exact ⟨by rw [f.1.2.2.2.1.1]; exact g1, g2.frame f, g3.frame f (big _ (by omega)), g4.frame f (big _ (by omega))⟩
  · obtain ⟨g1, g2⟩ := h.gp i hi
    have b := dj.p i hi
    exact ⟨by rw [f.1.2.2.2.1.1]; exact g1, RS.frame g2 f (big _ (by omega))⟩
  · rw [e1] at hi
    have b := dj.r i (by have := h.lr.1; omega)
    rw [e0, e1]
    exact (h.rs i hi).fr f (fun x h1 h2 => big x (by omega))
  · rw [e2] at hi
    have b := dj.p i (by have := h.lp.1; omega)
    rw [e2]
    exact (h.ps i hi).frame f (big _ (by omega)) (big _ (by omega))
/-- a byte that the class keeps, as its tape tells it -/
theorem byte_and (w : Int32) : ((Int32.toInt8 ((Int32.toInt8 w).toInt32)).toInt32) &&& 255 = w &&& 255 := by
  rw [Int8.toInt8_toInt32]
  apply Int32.toBitVec_inj.mp
  rw [Int32.toBitVec_and, Int32.toBitVec_and]
  apply BitVec.eq_of_getLsbD_eq
  intro i hi
  rw [BitVec.getLsbD_and, BitVec.getLsbD_and]
  by_cases h : i < 8
  · have e : (w.toInt8.toInt32).toBitVec.getLsbD i = w.toBitVec.getLsbD i := by
      rw [Int8.toBitVec_toInt32, Int32.toBitVec_toInt8, BitVec.getLsbD_signExtend, if_pos h, BitVec.getLsbD_signExtend, if_pos hi]
      simp [h, hi]
    rw [e]
  · have e : ∀ i, i < 32 → ¬ i < 8 → (255 : Int32).toBitVec.getLsbD i = false := by decide
    rw [e i hi h, Bool.and_false, Bool.and_false]
theorem byte_rng (w : Int32) : 0 ≤ (w &&& 255).toInt ∧ (w &&& 255).toInt ≤ 255 := by
  have q : (w &&& 255).toBitVec.toNat ≤ 255 := by
    rw [Int32.toBitVec_and, BitVec.toNat_and]
    exact Nat.and_le_right
  have e := tn_nI (v := w &&& 255) rfl
  rw [e, nI_toInt (by omega)]
  omega
section SM5
variable {d : Nat} {σ : jS} {s : AS} {cr cp : Nat} {qr qp : Nat → Nat}
theorem sim_end (hR : REL s cr cp qr qp σ) (x : Int32) : SimR (d + 1) 16 126 [some (.int x), none] [some (.int x), none] true σ := by
  have hR0 := hR
  obtain ⟨hS, hx, hs, hC, hM⟩ := hR
  have hl := hs.l
  have e1 := hC.tx.1
  have f1 := hM.tm.1
  have c1 := cin0 (d := d) (σ := σ) (x := x) (y := nI s.len)
  by_cases h : 0 ≤ x ∧ x ≤ nI s.len
  · have i : (if 0 ≤ x ∧ x ≤ nI s.len then (1 : Int32) else 0) = 1 := if_pos h
    have n0 : ¬ x < 0 := Int32.not_lt.mpr h.1
    obtain ⟨n, hn, en⟩ : ∃ n, n ≤ s.len ∧ x = nI n := by
      have q := i32_nat (c := x) (n := s.len + 1) (by omega) n0 (by
        rw [Int32.not_le]
        refine Int32.lt_of_le_of_lt h.2 ?_
        rw [n31 (by omega) (by omega)]; omega)
      exact ⟨x.toNatClampNeg, by omega, q.1⟩
    let s' : AS := (s.W, n, s.b, s.rs, s.ps, s.ns, s.tl, s.ap)
    have F : FR [18] σ (jsI σ 449 18 x) := (FR.refl _ σ).I (by decide)
    have hM1 := hM.sm (F.sm (fun a h1 h2 => by simp; omega))
    have hC1 : CX s' cr cp qr qp (jsI σ 449 18 x) := hC.tape F (by simp) rfl rfl rfl rfl rfl rfl ⟨by rw [zI_I, if_pos ⟨rfl, rfl⟩]; exact en, by show n ≤ 400; omega, fun i hi => by rw [zI_A]; exact hC.tx.2.2 i (by have : i < n := hi; omega)⟩
    have hM2 : CM s' (jsI (jsI σ 449 18 x) 642 47 x) := hM1.I47 (by rw [zI_I, if_neg (by decide)]; exact hM1.nr) (by rw [zI_I, if_neg (by decide)]; exact hM1.np) (by rw [zI_I, if_neg (by decide)]; exact hM1.w) (by rw [zI_I, if_neg (by decide)]; exact hM1.ap) ⟨by rw [zI_I, if_pos ⟨rfl, rfl⟩]; exact en, by show n ≤ 400; omega, fun i hi => by rw [zI_A]; exact hM1.tm.2.2 i (by have : i < n := hi; omega)⟩ (by rw [zI_I, if_neg (by decide)]; exact hM1.ns) hM1.tl hM1.rs hM1.ps
    have hS1 : SH (jsI σ 449 18 x) := by rw [SH_I]; exact hS
    refine ⟨nI s.len, nI s.len, jsI σ 449 18 x, jsI (jsI σ 449 18 x) 642 47 x, s', cr, cp, qr, qp, ?_, ?_, ⟨by rw [SH_I]; exact hS1, hx, ⟨hs.w, by show n ≤ 400; omega, fun i hi => hs.byy i (by have : i < n := hi; omega), hs.r24, hs.p16, hs.fr, hs.fp, hs.n144⟩, CX.sc (by exact hx) hC1 (i47sc 642 x), hM2⟩, by show jnx σ ≤ _; omega, by show jsl σ ≤ _; omega, low.trans (F.low (by simp)) ((i47sc 642 x).low hx), fun _ => rfl⟩
    · have l1 := h.2
      simp (decide := true) only [k16_0, k16_4, k16_15, k16_17, sT_1, sT_2, sT_3, sT_16, sT_17, sT_18, sT_19, sT_20, sT_21, sT_22, sT_23, sT_24, sT_25, sT_26, sT_27, sT_28, sT_29, sT_30, sT_31, sT_32, sT_33, sT_34, sT_35, sT_36, sT_37, sT_38, sT_39, sT_40, sT_41, sT_42, sT_43, sT_44, sT_45, sT_46, sT_47, sT_48, sT_49, sT_50, sT_51, sT_52, sT_53, sT_54, sT_55, sT_56, sT_57, sT_58, sT_59, sT_60, sT_61, sT_62, sT_63, sT_64, sT_65, sT_66, sT_67, sT_68, sT_69, sT_70, sT_71, sT_72, sT_73, sT_74, sT_75, sT_76, sT_77, sT_78, sT_79, sT_80, sN_1, sN_2, sN_19, sN_21, sN_23, sN_24, sN_26, sN_29, sN_31, sN_33, sN_35, sN_36, sN_37, sN_39, sN_40, sN_42, sN_44, sN_45, sN_46, sN_48, sN_49, sN_50, sN_51, sN_52, sN_53, sN_54, sN_55, sN_56, sN_57, sN_58, sN_59, sN_60, sN_61, sN_62, sN_63, sN_64, sN_65, sN_66, sN_67, sN_68, sN_69, sN_70, sN_71, sN_72, sN_73, sN_74, sN_75, sN_76, sN_77, sN_78, sN_79, sN_80, sR_0_34, sR_0_38, sR_1_34, sR_1_38, sR_64_20, sR_64_22, sR_128_25, sR_128_28, sR_194_17, sR_195_17, sR_196_17, sR_197_17, sR_258_30, sR_258_32, sR_258_41, sR_384_43, sR_448_18, sR_512_27, sR_513_27, sR_514_27, sR_515_27, sR_516_27, sR_576_16, sR_577_16, sR_578_16, sR_579_16, sR_580_16, sR_581_16, sR_582_16, sR_583_16, sR_584_16, sR_641_47, sR_643_47, sR_645_47, sR_646_47, sR_647_47, sR_648_47, sR_649_47, sR_650_47, sR_651_47, sR_652_47, sR_653_47, sR_654_47, sR_655_47, sR_656_47, sR_657_47, sR_658_47, sR_659_47, sR_661_47, sR_662_47, sR_663_47, sR_664_47, sR_665_47, sR_669_47, sR_670_47, sR_671_47, sR_672_47, sR_673_47, sR_674_47, sR_676_47, sR_677_47, sR_679_47, sR_680_47, sR_681_47, SH_I, SH_A, SH_G, SH_C, hS, e1, n0, l1, Option.getD_some, ne_eq, reduceCtorEq, not_false_eq_true, not_true_eq_false, Option.bind_some, Option.toList_none, Option.toList_some, List.nil_append, List.cons_append, List.append_nil, ↓reduceIte, and_self, true_and, and_true, false_and, and_false, or_true, true_or, or_false, false_or, Nat.reduceEqDiff, Nat.reduceAdd, Int32.reduceMul, Int32.reduceAdd, Int32.reduceSub, Int32.reduceToNatClampNeg, Int32.reduceOfNat, Int32.reduceLT, Int32.reduceLE, va_rf]
    · have f1' := hM1.tm.1
      have c1' := cin0 (d := d) (σ := jsI σ 449 18 x) (x := x) (y := nI s.len)
      rw [i] at c1'
      rw [k126_0 (sT_47 hS1), f1', c1']
      simp only [Option.bind_some, Option.toList_some, List.cons_append, List.nil_append]
      rw [k126_11, if_pos (by decide), k126_16 (sT_47 hS1), f1']
  · have i : (if 0 ≤ x ∧ x ≤ nI s.len then (1 : Int32) else 0) = 0 := if_neg h
    rw [i] at c1
    refine SimR.read hR0 (a := -1) (a' := -1) ?_ ?_ (fun _ => rfl)
    · by_cases n0 : x < 0
      · simp (decide := true) only [k16_0, k16_4, k16_15, k16_17, n0, Option.getD_some, ne_eq, reduceCtorEq, not_false_eq_true, not_true_eq_false, Option.bind_some, Option.toList_none, Option.toList_some, List.nil_append, List.cons_append, List.append_nil, ↓reduceIte, and_self, true_and, and_true, false_and, and_false, or_true, true_or, or_false, false_or, Nat.reduceEqDiff, Nat.reduceAdd, Int32.reduceMul, Int32.reduceAdd, Int32.reduceSub, Int32.reduceToNatClampNeg, Int32.reduceOfNat, Int32.reduceLT, Int32.reduceLE, va_rf]
      · have n1 : ¬ x ≤ nI s.len := fun z => h ⟨Int32.not_lt.mp n0, z⟩
        simp (decide := true) only [k16_0, k16_4, k16_15, k16_17, sT_1, sT_2, sT_3, sT_16, sT_17, sT_18, sT_19, sT_20, sT_21, sT_22, sT_23, sT_24, sT_25, sT_26, sT_27, sT_28, sT_29, sT_30, sT_31, sT_32, sT_33, sT_34, sT_35, sT_36, sT_37, sT_38, sT_39, sT_40, sT_41, sT_42, sT_43, sT_44, sT_45, sT_46, sT_47, sT_48, sT_49, sT_50, sT_51, sT_52, sT_53, sT_54, sT_55, sT_56, sT_57, sT_58, sT_59, sT_60, sT_61, sT_62, sT_63, sT_64, sT_65, sT_66, sT_67, sT_68, sT_69, sT_70, sT_71, sT_72, sT_73, sT_74, sT_75, sT_76, sT_77, sT_78, sT_79, sT_80, sN_1, sN_2, sN_19, sN_21, sN_23, sN_24, sN_26, sN_29, sN_31, sN_33, sN_35, sN_36, sN_37, sN_39, sN_40, sN_42, sN_44, sN_45, sN_46, sN_48, sN_49, sN_50, sN_51, sN_52, sN_53, sN_54, sN_55, sN_56, sN_57, sN_58, sN_59, sN_60, sN_61, sN_62, sN_63, sN_64, sN_65, sN_66, sN_67, sN_68, sN_69, sN_70, sN_71, sN_72, sN_73, sN_74, sN_75, sN_76, sN_77, sN_78, sN_79, sN_80, sR_0_34, sR_0_38, sR_1_34, sR_1_38, sR_64_20, sR_64_22, sR_128_25, sR_128_28, sR_194_17, sR_195_17, sR_196_17, sR_197_17, sR_258_30, sR_258_32, sR_258_41, sR_384_43, sR_448_18, sR_512_27, sR_513_27, sR_514_27, sR_515_27, sR_516_27, sR_576_16, sR_577_16, sR_578_16, sR_579_16, sR_580_16, sR_581_16, sR_582_16, sR_583_16, sR_584_16, sR_641_47, sR_643_47, sR_645_47, sR_646_47, sR_647_47, sR_648_47, sR_649_47, sR_650_47, sR_651_47, sR_652_47, sR_653_47, sR_654_47, sR_655_47, sR_656_47, sR_657_47, sR_658_47, sR_659_47, sR_661_47, sR_662_47, sR_663_47, sR_664_47, sR_665_47, sR_669_47, sR_670_47, sR_671_47, sR_672_47, sR_673_47, sR_674_47, sR_676_47, sR_677_47, sR_679_47, sR_680_47, sR_681_47, SH_I, SH_A, SH_G, SH_C, hS, e1, n0, n1, Option.getD_some, ne_eq, reduceCtorEq, not_false_eq_true, not_true_eq_false, Option.bind_some, Option.toList_none, Option.toList_some, List.nil_append, List.cons_append, List.append_nil, ↓reduceIte, and_self, true_and, and_true, false_and, and_false, or_true, true_or, or_false, false_or, Nat.reduceEqDiff, Nat.reduceAdd, Int32.reduceMul, Int32.reduceAdd, Int32.reduceSub, Int32.reduceToNatClampNeg, Int32.reduceOfNat, Int32.reduceLT, Int32.reduceLE, va_rf]
    · simp (decide := true) only [k126_0, k126_11, k126_14, k126_16, sT_1, sT_2, sT_3, sT_16, sT_17, sT_18, sT_19, sT_20, sT_21, sT_22, sT_23, sT_24, sT_25, sT_26, sT_27, sT_28, sT_29, sT_30, sT_31, sT_32, sT_33, sT_34, sT_35, sT_36, sT_37, sT_38, sT_39, sT_40, sT_41, sT_42, sT_43, sT_44, sT_45, sT_46, sT_47, sT_48, sT_49, sT_50, sT_51, sT_52, sT_53, sT_54, sT_55, sT_56, sT_57, sT_58, sT_59, sT_60, sT_61, sT_62, sT_63, sT_64, sT_65, sT_66, sT_67, sT_68, sT_69, sT_70, sT_71, sT_72, sT_73, sT_74, sT_75, sT_76, sT_77, sT_78, sT_79, sT_80, sN_1, sN_2, sN_19, sN_21, sN_23, sN_24, sN_26, sN_29, sN_31, sN_33, sN_35, sN_36, sN_37, sN_39, sN_40, sN_42, sN_44, sN_45, sN_46, sN_48, sN_49, sN_50, sN_51, sN_52, sN_53, sN_54, sN_55, sN_56, sN_57, sN_58, sN_59, sN_60, sN_61, sN_62, sN_63, sN_64, sN_65, sN_66, sN_67, sN_68, sN_69, sN_70, sN_71, sN_72, sN_73, sN_74, sN_75, sN_76, sN_77, sN_78, sN_79, sN_80, sR_0_34, sR_0_38, sR_1_34, sR_1_38, sR_64_20, sR_64_22, sR_128_25, sR_128_28, sR_194_17, sR_195_17, sR_196_17, sR_197_17, sR_258_30, sR_258_32, sR_258_41, sR_384_43, sR_448_18, sR_512_27, sR_513_27, sR_514_27, sR_515_27, sR_516_27, sR_576_16, sR_577_16, sR_578_16, sR_579_16, sR_580_16, sR_581_16, sR_582_16, sR_583_16, sR_584_16, sR_641_47, sR_643_47, sR_645_47, sR_646_47, sR_647_47, sR_648_47, sR_649_47, sR_650_47, sR_651_47, sR_652_47, sR_653_47, sR_654_47, sR_655_47, sR_656_47, sR_657_47, sR_658_47, sR_659_47, sR_661_47, sR_662_47, sR_663_47, sR_664_47, sR_665_47, sR_669_47, sR_670_47, sR_671_47, sR_672_47, sR_673_47, sR_674_47, sR_676_47, sR_677_47, sR_679_47, sR_680_47, sR_681_47, SH_I, SH_A, SH_G, SH_C, hS, f1, c1, Option.getD_some, ne_eq, reduceCtorEq, not_false_eq_true, not_true_eq_false, Option.bind_some, Option.toList_none, Option.toList_some, List.nil_append, List.cons_append, List.append_nil, ↓reduceIte, and_self, true_and, and_true, false_and, and_false, or_true, true_or, or_false, false_or, Nat.reduceEqDiff, Nat.reduceAdd, Int32.reduceMul, Int32.reduceAdd, Int32.reduceSub, Int32.reduceToNatClampNeg, Int32.reduceOfNat, Int32.reduceLT, Int32.reduceLE, va_rf]
/-- four bytes more -/
def by4 (b : Nat → Int32) (n : Nat) (v : Int32) : Nat → Int32 := up6 (up6 (up6 (up6 b n ((v >>> (24 &&& 31)) &&& 255)) (n + 1) ((v >>> (16 &&& 31)) &&& 255)) (n + 2) ((v >>> (8 &&& 31)) &&& 255)) (n + 3) ((v >>> (0 &&& 31)) &&& 255)
theorem TX.put {len : Nat} {b : Nat → Int32} (h : TX σ len b) (hl : len + 1 ≤ 400) (w : Int32) : TX (jsI (jsA σ 19 len ((Int32.toInt8 ((Int32.toInt8 w).toInt32)).toInt32)) 449 18 (nI (len + 1))) (len + 1) (up6 b len (w &&& 255)) := by
  refine ⟨by rw [zI_I, if_pos ⟨rfl, rfl⟩], hl, fun i hi => ?_⟩
  rw [zI_A, zA_A]
  unfold up6
  by_cases e : i = len
  · rw [if_pos ⟨rfl, e⟩, if_pos e]; exact byte_and w
  · rw [if_neg (fun z => e z.2), if_neg e]; exact h.2.2 i (by omega)
theorem TM.put {len : Nat} {b : Nat → Int32} (h : TM σ len b) (hl : len + 1 ≤ 400) (w : Int32) : TM (jsI (jsA σ 48 len (w &&& 255)) 642 47 (nI (len + 1))) (len + 1) (up6 b len (w &&& 255)) := by
  refine ⟨by rw [zI_I, if_pos ⟨rfl, rfl⟩], hl, fun i hi => ?_⟩
  rw [zI_A, zA_A]
  unfold up6
  by_cases e : i = len
  · rw [if_pos ⟨rfl, e⟩, if_pos e]
  · rw [if_neg (fun z => e z.2), if_neg e]; exact h.2.2 i (by omega)
theorem c15 {len : Nat} {b : Nat → Int32} (hS : SH σ) (hT : TX σ len b) (hl : len + 4 ≤ 400) (v : Int32) : ∃ σ', jx d 15 0 [some (.ref 18), some (.int v), none] [] σ = some (none, σ') ∧ FR [18, 19] σ σ' ∧ TX σ' (len + 4) (by4 b len v) := by
  have rg : ∀ {υ : jS}, SH υ → (jR υ 448 18).getD 0 = 19 := fun h => by rw [sR_448_18 h]; rfl
  have rn : ∀ {υ : jS}, SH υ → jR υ 448 18 ≠ none := fun h => by rw [sR_448_18 h]; exact fun z => nomatch z
  have step : ∀ {υ : jS} {n : Nat} {c : Nat → Int32} (x2 : Int32), SH υ → TX υ n c → n + 1 ≤ 400 → ¬ x2 < 0 → jx d 15 3 [some (.ref 18), some (.int v), some (.int x2)] [] υ = jx d 15 3 [some (.ref 18), some (.int v), some (.int (x2 + (-8)))] [] (jsI (jsA υ 19 n ((Int32.toInt8 ((Int32.toInt8 (v >>> (x2 &&& 31))).toInt32)).toInt32)) 449 18 (nI (n + 1))) := by
    intro υ n c x2 h hT hn hx
    have g : ¬ Int32.ofNat 400 ≤ nI n := nI_ge (by omega) (by omega)
    rw [k15_3, if_neg hx, k15_7 (sT_18 h) (rn h) (by rw [rg h, sT_19 h]; decide), rg h, sN_19 h, hT.1, if_neg g, k15_19R (sT_18 h) (rn h) (by rw [rg h]; exact sT_19 h) (by rw [rg h, sN_19 h, hT.1]; exact jin_n (by omega) (by decide)), rg h, hT.1, nI_clamp (by omega), ← nI_succ]
  have S : ∀ {υ : jS} {n : Nat} {w x : Int32}, SH υ → SH (jsI (jsA υ 19 n w) 449 18 x) := fun h => by rw [SH_I, SH_A]; exact h
  have T1 := hT.put (by omega) (v >>> (24 &&& 31))
  have T2 := T1.put (by omega) (v >>> (16 &&& 31))
  have T3 := T2.put (by omega) (v >>> (8 &&& 31))
  have T4 := T3.put (by omega) (v >>> (0 &&& 31))
  refine ⟨_, ?_, ?_, T4⟩
  · have e16 : (24 : Int32) + -8 = 16 := by decide
    have e8 : (16 : Int32) + -8 = 8 := by decide
    have e0 : (8 : Int32) + -8 = 0 := by decide
    have em : (0 : Int32) + -8 < 0 := by decide
    rw [k15_0, step 24 hS hT (by omega) (by decide), e16, step 16 (S hS) T1 (by omega) (by decide), e8, step 8 (S (S hS)) T2 (by omega) (by decide), e0, step 0 (S (S (S hS))) T3 (by omega) (by decide), k15_3, if_pos em, k15_48]
  · exact ((((((((FR.refl _ σ).A (q := 19) (by decide)).I (q := 18) (by decide)).A (q := 19) (by decide)).I (q := 18) (by decide)).A (q := 19) (by decide)).I (q := 18) (by decide)).A (q := 19) (by decide)).I (q := 18) (by decide)
theorem c125 {len : Nat} {b : Nat → Int32} (hS : SH σ) (hT : TM σ len b) (hl : len + 4 ≤ 400) (v : Int32) : ∃ σ', jx d 125 0 [some (.ref 47), some (.int v), none] [] σ = some (none, σ') ∧ FR [47, 48] σ σ' ∧ (∀ g, g ≠ 642 → jI σ' g 47 = jI σ g 47) ∧ TM σ' (len + 4) (by4 b len v) := by
  have rg : ∀ {υ : jS}, SH υ → (jR υ 641 47).getD 0 = 48 := fun h => by rw [sR_641_47 h]; rfl
  have rn : ∀ {υ : jS}, SH υ → jR υ 641 47 ≠ none := fun h => by rw [sR_641_47 h]; exact fun z => nomatch z
  have step : ∀ {υ : jS} {n : Nat} {c : Nat → Int32} (x2 : Int32), SH υ → TM υ n c → n + 1 ≤ 400 → ¬ x2 < 0 → jx d 125 3 [some (.ref 47), some (.int v), some (.int x2)] [] υ = jx d 125 3 [some (.ref 47), some (.int v), some (.int (x2 + (-8)))] [] (jsI (jsA υ 48 n ((v >>> (x2 &&& 31)) &&& 255)) 642 47 (nI (n + 1))) := by
    intro υ n c x2 h hT hn hx
    rw [k125_3, if_neg hx, k125_7 (sT_47 h) (rn h) (by rw [rg h]; exact sT_48 h) (by rw [rg h, sN_48 h, hT.1]; exact jin_n (by omega) (by decide)), rg h, hT.1, nI_clamp (by omega), ← nI_succ]
  have S : ∀ {υ : jS} {n : Nat} {w x : Int32}, SH υ → SH (jsI (jsA υ 48 n w) 642 47 x) := fun h => by rw [SH_I, SH_A]; exact h
  have T1 := hT.put (by omega) (v >>> (24 &&& 31))
  have T2 := T1.put (by omega) (v >>> (16 &&& 31))
  have T3 := T2.put (by omega) (v >>> (8 &&& 31))
  have T4 := T3.put (by omega) (v >>> (0 &&& 31))
  refine ⟨_, ?_, ?_, ?_, T4⟩
  · have e16 : (24 : Int32) + -8 = 16 := by decide
    have e8 : (16 : Int32) + -8 = 8 := by decide
    have e0 : (8 : Int32) + -8 = 0 := by decide
    have em : (0 : Int32) + -8 < 0 := by decide
    rw [k125_0, step 24 hS hT (by omega) (by decide), e16, step 16 (S hS) T1 (by omega) (by decide), e8, step 8 (S (S hS)) T2 (by omega) (by decide), e0, step 0 (S (S (S hS))) T3 (by omega) (by decide), k125_3, if_pos em, k125_39]
  · exact ((((((((FR.refl _ σ).A (q := 48) (by decide)).I (q := 47) (by decide)).A (q := 48) (by decide)).I (q := 47) (by decide)).A (q := 48) (by decide)).I (q := 47) (by decide)).A (q := 48) (by decide)).I (q := 47) (by decide)
  · intro g hg
    rw [zI_I, if_neg (fun w => hg w.1), zA_I, zI_I, if_neg (fun w => hg w.1), zA_I, zI_I, if_neg (fun w => hg w.1), zA_I, zI_I, if_neg (fun w => hg w.1), zA_I]
end SM5
end S_81
section S_82
/-! feed, on, wrong, count -/
theorem MR.frT {σ σ' : jS} {l : List Nat} {r nr nm : Nat} {hc : Bool} {o1 o2 : List (Nat → Int32)} {rg : Nat → Int32} (h : MR σ r nr nm hc o1 o2 rg) (f : FR l σ σ') (hl : ∀ a, 50 ≤ a → a ≤ 59 → a ∉ l) : MR σ' r nr nm hc o1 o2 rg := h.frame f hl
theorem CM.tape {s s' : AS} {σ σ' : jS} {l : List Nat} (h : CM s σ) (f : FR l σ σ') (hl : ∀ a, a ∈ l → a = 47 ∨ a = 48) (hg : ∀ g, g ≠ 642 → jI σ' g 47 = jI σ g 47) (e0 : s'.W = s.W) (e1 : s'.rs = s.rs) (e2 : s'.ps = s.ps) (e3 : s'.ns = s.ns) (e4 : s'.tl = s.tl) (e5 : s'.ap = s.ap) (ht : TM σ' s'.len s'.b) : CM s' σ' := by
  have nl : ∀ a, 49 ≤ a → a ∉ l := fun a ha z => by have := hl a z; omega
  refine ⟨fun k hk => by rw [(f.2 70 (nl 70 (by decide))).2]; exact h.nv k hk, by rw [hg 644 (by decide), e1]; exact h.nr, by rw [hg 660 (by decide), e2]; exact h.np, by rw [hg 640 (by decide), e0]; exact h.w, by rw [hg 682 (by decide), e5]; exact h.ap, ht, by rw [hg 678 (by decide), e3]; exact h.ns, fun k w hk hw => ?_, fun i hi => ?_, fun i hi => ?_⟩
  · rw [e3] at hk; rw [e4, (f.2 (78 + w) (nl _ (by omega))).2]; exact h.tl k w hk hw
  · rw [e1] at hi ⊢
    obtain ⟨⟨rg, m⟩, m1, m2, m3, m4⟩ := h.rs i hi
    exact ⟨⟨rg, m.frame f (fun a x y => nl a (by omega))⟩, by rw [(f.2 60 (nl 60 (by decide))).2]; exact m1, by rw [(f.2 61 (nl 61 (by decide))).2]; exact m2, by rw [(f.2 63 (nl 63 (by decide))).2]; exact m3, by rw [(f.2 64 (nl 64 (by decide))).2]; exact m4⟩
  · rw [e2] at hi ⊢
    obtain ⟨p1, p2, p3⟩ := h.ps i hi
    exact ⟨by rw [(f.2 65 (nl 65 (by decide))).2]; exact p1, p2, fun k j hk hj => by rw [(f.2 (66 + j) (nl _ (by omega))).2]; exact p3 k j hk hj⟩
theorem BY.up {n : Nat} {b : Nat → Int32} (h : BY n b) (w : Int32) : BY (n + 1) (up6 b n (w &&& 255)) := fun i hi => by
  unfold up6
  by_cases e : i = n
  · rw [if_pos e]; exact byte_rng w
  · rw [if_neg e]; exact h i (by omega)
theorem BY.by4 {n : Nat} {b : Nat → Int32} (h : BY n b) (v : Int32) : BY (n + 4) (by4 b n v) := (((h.up _).up _).up _).up _
def by20 (b : Nat → Int32) (n : Nat) (v1 v2 v3 v4 v5 : Int32) : Nat → Int32 := by4 (by4 (by4 (by4 (by4 b n v1) (n + 4) v2) (n + 8) v3) (n + 12) v4) (n + 16) v5
section SM6
variable {d : Nat} {σ : jS} {s : AS} {cr cp : Nat} {qr qp : Nat → Nat}
theorem sim_feed (hR : REL s cr cp qr qp σ) (v1 v2 v3 v4 v5 : Int32) : SimR (d + 1) 13 124 [some (.int v1), some (.int v2), some (.int v3), some (.int v4), some (.int v5)] [some (.int v1), some (.int v2), some (.int v3), some (.int v4), some (.int v5)] true σ := by
  have hR0 := hR
  obtain ⟨hS, hx, hs, hC, hM⟩ := hR
  have hl := hs.l
  have e1 := hC.tx.1
  have f1 := hM.tm.1
  have p20 : nI s.len + 20 = nI (s.len + 20) := by rw [show (20 : Int32) = nI 20 from rfl, nadd]
  have tp : ∀ {υ : jS}, SH υ → (jR υ 577 16).getD 0 = 18 := fun h => by rw [sR_577_16 h]; rfl
  have tn : ∀ {υ : jS}, SH υ → jR υ 577 16 ≠ none := fun h => by rw [sR_577_16 h]; exact fun z => nomatch z
  have tt : ∀ {υ : jS}, SH υ → jT υ ((jR υ 577 16).getD 0) = 8 := fun h => by rw [tp h]; exact sT_18 h
  have rb : (jR σ 448 18).getD 0 = 19 := by rw [sR_448_18 hS]; rfl
  by_cases h : s.len + 20 ≤ 400
  · have a1 : ¬ Int32.ofNat 400 < nI (s.len + 20) := by rw [show Int32.ofNat 400 = nI 400 from rfl, n31 (by decide) (by omega)]; omega
    have a2 : nI (s.len + 20) ≤ 400 := nI_le (b := 400) h (by decide)
    obtain ⟨x1, g1, F1, T1⟩ := c15 (d := d) hS hC.tx (by omega) v1
    have S1 := F1.sh hS
    obtain ⟨x2, g2, F2, T2⟩ := c15 (d := d) S1 T1 (by omega) v2
    have S2 := F2.sh S1
    obtain ⟨x3, g3, F3, T3⟩ := c15 (d := d) S2 T2 (by omega) v3
    have S3 := F3.sh S2
    obtain ⟨x4, g4, F4, T4⟩ := c15 (d := d) S3 T3 (by omega) v4
    have S4 := F4.sh S3
    obtain ⟨x5, g5, F5, T5⟩ := c15 (d := d) S4 T4 (by omega) v5
    have S5 := F5.sh S4
    have FF : FR [18, 19] σ x5 := (((F1.trans F2).trans F3).trans F4).trans F5
    have hM1 := hM.sm (FF.sm (fun a h1 h2 => by simp; omega))
    obtain ⟨y1, w1, G1, i1, U1⟩ := c125 (d := d) S5 hM1.tm (by omega) v1
    have Y1 := G1.sh S5
    obtain ⟨y2, w2, G2, i2, U2⟩ := c125 (d := d) Y1 U1 (by omega) v2
    have Y2 := G2.sh Y1
    obtain ⟨y3, w3, G3, i3, U3⟩ := c125 (d := d) Y2 U2 (by omega) v3
    have Y3 := G3.sh Y2
    obtain ⟨y4, w4, G4, i4, U4⟩ := c125 (d := d) Y3 U3 (by omega) v4
    have Y4 := G4.sh Y3
    obtain ⟨y5, w5, G5, i5, U5⟩ := c125 (d := d) Y4 U4 (by omega) v5
    have Y5 := G5.sh Y4
    have GG : FR [47, 48] x5 y5 := (((G1.trans G2).trans G3).trans G4).trans G5
    have gg : ∀ g, g ≠ 642 → jI y5 g 47 = jI x5 g 47 := fun g q => by rw [i5 g q, i4 g q, i3 g q, i2 g q, i1 g q]
    let s' : AS := (s.W, s.len + 20, by20 s.b s.len v1 v2 v3 v4 v5, s.rs, s.ps, s.ns, s.tl, s.ap)
    have hC1 : CX s' cr cp qr qp x5 := hC.tape FF (by simp) rfl rfl rfl rfl rfl rfl T5
    have nx5 : jnx x5 = jnx σ := FF.1.2.2.2.2.1
    have hM2 : CM s' y5 := hM1.tape GG (by simp) gg rfl rfl rfl rfl rfl rfl U5
    have sc : sameC x5 y5 := GG.sc (fun a ha => by simp at ha; omega)
    refine ⟨nI (s.len + 20), nI (s.len + 20), x5, y5, s', cr, cp, qr, qp, ?_, ?_, ⟨Y5, by rw [GG.1.2.2.2.2.1, nx5]; exact hx, ⟨hs.w, h, ((((hs.byy.by4 v1).by4 v2).by4 v3).by4 v4).by4 v5, hs.r24, hs.p16, hs.fr, hs.fp, hs.n144⟩, CX.sc (by rw [nx5]; exact hx) hC1 sc, hM2⟩, by rw [GG.1.2.2.2.2.1, nx5]; omega, by rw [GG.1.2.2.2.2.2, FF.1.2.2.2.2.2]; omega, low.trans (FF.low (by simp)) (sc.low (by rw [nx5]; exact hx)), fun _ => rfl⟩
    · have c14 : jx d 14 0 [some (.ref 18)] [] σ = some (some (.int 1), σ) := by
        rw [k14_0 (sT_18 hS) (by rw [sR_448_18 hS]; exact fun z => nomatch z) (by rw [rb, sT_19 hS]; decide), rb, sN_19 hS, e1, p20, if_neg a1, k14_15]
      have e5 : jI x5 449 18 = nI (s.len + 20) := T5.1
      rw [k13_0 (sT_16 hS) (tn hS) (tt hS), tp hS, c14]
      simp only [Option.bind_some, Option.toList_some, List.cons_append, List.nil_append]
      rw [k13_7, if_pos (by decide), k13_13 (sT_16 hS) (tn hS) (tt hS), tp hS, g1]
      simp only [Option.bind_some, Option.toList_none, List.nil_append]
      rw [k13_21 (sT_16 S1) (tn S1) (tt S1), tp S1, g2]
      simp only [Option.bind_some, Option.toList_none, List.nil_append]
      rw [k13_29 (sT_16 S2) (tn S2) (tt S2), tp S2, g3]
      simp only [Option.bind_some, Option.toList_none, List.nil_append]
      rw [k13_37 (sT_16 S3) (tn S3) (tt S3), tp S3, g4]
      simp only [Option.bind_some, Option.toList_none, List.nil_append]
      rw [k13_46 (sT_16 S4) (tn S4) (tt S4), tp S4, g5]
      simp only [Option.bind_some, Option.toList_none, List.nil_append]
      rw [k13_55 (sT_16 S5) (tn S5) (tt S5), tp S5, e5]
    · have f1' := hM1.tm.1
      have e5 : jI y5 642 47 = nI (s.len + 20) := U5.1
      rw [k124_0 (sT_47 S5), f1', p20, if_pos a2, k124_16 (sT_47 S5), w1]
      simp only [Option.bind_some, Option.toList_none, List.nil_append]
      rw [k124_21 (sT_47 Y1), w2]
      simp only [Option.bind_some, Option.toList_none, List.nil_append]
      rw [k124_26 (sT_47 Y2), w3]
      simp only [Option.bind_some, Option.toList_none, List.nil_append]
      rw [k124_31 (sT_47 Y3), w4]
      simp only [Option.bind_some, Option.toList_none, List.nil_append]
      rw [k124_37 (sT_47 Y4), w5]
      simp only [Option.bind_some, Option.toList_none, List.nil_append]
      rw [k124_43 (sT_47 Y5), e5]
  · have a1 : Int32.ofNat 400 < nI (s.len + 20) := by rw [show Int32.ofNat 400 = nI 400 from rfl, n31 (by decide) (by omega)]; omega
    have a2 : ¬ nI (s.len + 20) ≤ 400 := nI_ge (a := 400) (by omega) (by omega)
    refine SimR.read hR0 (a := -3) (a' := -3) ?_ ?_ (fun _ => rfl)
    · have c14 : jx d 14 0 [some (.ref 18)] [] σ = some (some (.int 0), σ) := by
        rw [k14_0 (sT_18 hS) (by rw [sR_448_18 hS]; exact fun z => nomatch z) (by rw [rb, sT_19 hS]; decide), rb, sN_19 hS, e1, p20, if_pos a1, k14_19]
      rw [k13_0 (sT_16 hS) (tn hS) (tt hS), tp hS, c14]
      simp only [Option.bind_some, Option.toList_some, List.cons_append, List.nil_append]
      rw [k13_7, if_neg (fun z => z rfl), k13_10]
    · rw [k124_0 (sT_47 hS), f1, p20, if_neg a2, k124_13]
theorem sim_wrong (hR : REL s cr cp qr qp σ) (x y : Int32) : SimR (d + 2) 84 168 [some (.int x), some (.int y), none] [some (.int x), some (.int y)] false σ := by
  have hR0 := hR
  obtain ⟨hS, hx, hs, hC, hM⟩ := hR
  have hl := hs.r24
  by_cases h : inR x s.rs.length
  · obtain ⟨k, hk, ek⟩ := inR_nat (by omega) h
    have c1 := c81y (d := d + 1) hS hC hs hk
    have c2 := c162y (d := d) hS hM hs h
    have cr' := hC.rs k hk
    have mr := hM.rs k hk
    obtain ⟨a, ea⟩ : ∃ a, s.rs.getD k ar0 = a := ⟨_, rfl⟩
    have fr := hs.fr _ (mem_rs hk)
    rw [ea] at cr' mr fr
    obtain ⟨⟨tp, hU, hbig, g1, g2, e4, e5, e6, e0, _⟩, f7, f8, f9, f11, f12⟩ := cr'
    obtain ⟨⟨rg, m1, m2, m3, m4, m5, m6, m7, m8, m9, m10⟩, m60, m61, m63, m64⟩ := mr
    have tq := hU.1
    have u5 := hU.2.2.2.2.1
    have tu := hU.2.2.2.2.2.2.2.1
    have nu := hU.2.2.2.2.2.2.2.2.1
    have gk : jin 24 (nI k) := jin_n (by omega) (by decide)
    have qk : (nI k).toNatClampNeg = k := nI_clamp (by omega)
    have n11 : wdN a.nr a.hc + a.nm ≤ 11 := by have := fr.nr4; have := fr.nm3; unfold wdN; cases a.hc <;> simp <;> omega
    have c49' := c149 (d := d + 1) hS (r := k) (by omega) m5 m6 m7
    rw [ek] at c2
    rw [ek]
    have A : ∃ v, jx (d + 2) 84 0 [some (.ref 16), some (.int (nI k)), some (.int y), none] [] σ = some (some (.int v), σ) := by
      have k0 : jx (d + 2) 84 0 [some (.ref 16), some (.int (nI k)), some (.int y), none] [] σ = if y < 0 then jx (d + 2) 84 31 [some (.ref 16), some (.int (nI k)), some (.int y), some (.ref (qr k))] [] σ else jx (d + 2) 84 14 [some (.ref 16), some (.int (nI k)), some (.int y), some (.ref (qr k))] [] σ := by
        rw [k84_0 (sT_16 hS), c1]
        simp only [Option.bind_some, Option.toList_some, List.cons_append, List.nil_append]
        rw [k84_5R]
      by_cases n0 : y < 0
      · exact ⟨-1, by rw [k0, if_pos n0, k84_31]⟩
      · by_cases b : nI (wdN a.nr a.hc + a.nm) ≤ y
        · exact ⟨-1, by rw [k0, if_neg n0, k84_14R tq, e6, if_pos b, k84_31]⟩
        · obtain ⟨j, hj, ej⟩ := inR_nat (by omega) (show inR y (wdN a.nr a.hc + a.nm) from ⟨n0, Int32.not_le.mp b⟩)
          have r5 : (jR σ 323 (qr k)).getD 0 = qr k + 6 := by rw [u5]; rfl
          have n5 : jR σ 323 (qr k) ≠ none := by rw [u5]; exact fun z => nomatch z
          have l11 : y < Int32.ofNat 11 := by rw [ej, show Int32.ofNat 11 = nI 11 from rfl, n31 (by omega) (by decide)]; omega
          have k1 : jx (d + 2) 84 0 [some (.ref 16), some (.int (nI k)), some (.int y), none] [] σ = jx (d + 2) 84 33 [some (.ref 16), some (.int (nI k)), some (.int y), some (.ref (qr k))] [] σ := by
            rw [k0, if_neg n0, k84_14R tq, e6, if_neg b, k84_22R tq n5 (by rw [r5, tu]; decide), r5, nu, if_pos l11]
          by_cases z : jI σ 328 (qr k) = jI σ 327 (qr k)
          · exact ⟨-4, by rw [k1, k84_33R tq, if_neg (fun w => w z), k84_44]⟩
          · refine ⟨jA σ (qr k + 6) y.toNatClampNeg, ?_⟩
            rw [k1, k84_33R tq, if_pos z, k84_49R tq n5 (by rw [r5]; exact Or.inl tu) (by rw [r5, nu, ej]; exact jin_n (by omega) (by decide)), r5]
    have B : ∃ v, jx (d + 2) 168 0 [some (.ref 47), some (.int (nI k)), some (.int y)] [] σ = some (some (.int v), σ) := by
      have r6 : (jR σ 656 47).getD 0 = 61 := by rw [sR_656_47 hS]; rfl
      have r5 : (jR σ 655 47).getD 0 = 60 := by rw [sR_655_47 hS]; rfl
      have r7 : (jR σ 657 47).getD 0 = 62 := by rw [sR_657_47 hS]; rfl
      have k0 : jx (d + 2) 168 0 [some (.ref 47), some (.int (nI k)), some (.int y)] [] σ = if nI a.C = nI a.P then jx (d + 2) 168 42 [some (.ref 47), some (.int (nI k)), some (.int y)] [] σ else jx (d + 2) 168 25 [some (.ref 47), some (.int (nI k)), some (.int y)] [] σ := by
        rw [k168_0 (sT_47 hS), c2]
        simp only [Option.bind_some, Option.toList_some, List.cons_append, List.nil_append]
        rw [k168_5, if_pos (by decide), k168_10 (sT_47 hS) (by rw [sR_656_47 hS]; exact fun z => nomatch z) (by rw [r6]; exact Or.inl (sT_61 hS)) (by rw [r6, sN_61 hS]; exact gk) (by rw [sR_655_47 hS]; exact fun z => nomatch z) (by rw [r5]; exact Or.inl (sT_60 hS)) (by rw [r5, sN_60 hS]; exact gk), r6, r5, qk, m60, m61]
      by_cases z : nI a.C = nI a.P
      · exact ⟨-4, by rw [k0, if_pos z, k168_42]⟩
      · have k1 : jx (d + 2) 168 0 [some (.ref 47), some (.int (nI k)), some (.int y)] [] σ = jx (d + 2) 168 39 [some (.ref 47), some (.int (nI k)), some (.int y)] [.int (if 0 ≤ y ∧ y ≤ nI (wdN a.nr a.hc + a.nm) - 1 then 1 else 0)] σ := by
          rw [k0, if_neg z, k168_25 (sT_47 hS), c49']
          simp only [Option.bind_some, Option.toList_some, List.cons_append, List.nil_append]
          rw [k168_33, cin0]
          simp only [Option.bind_some, Option.toList_some, List.cons_append, List.nil_append]
        by_cases w : 0 ≤ y ∧ y ≤ nI (wdN a.nr a.hc + a.nm) - 1
        · obtain ⟨j, hj, ej⟩ := inR_nat (by omega) ((rng_iff (by omega)).mp w)
          have e11 : (11 : Int32) * nI k + y = nI (11 * k + j) := by rw [ej, show (11 : Int32) = nI 11 from rfl, nmul, nadd]
          refine ⟨jA σ 62 (11 * k + j), ?_⟩
          rw [k1, if_pos w, k168_39, if_pos (by decide), k168_47 (sT_47 hS) (by rw [sR_657_47 hS]; exact fun z => nomatch z) (by rw [r7]; exact Or.inl (sT_62 hS)) (by rw [r7, sN_62 hS, e11]; exact jin_n (by omega) (by decide)), r7, e11, nI_clamp (by omega)]
        · exact ⟨-4, by rw [k1, if_neg w, k168_39, if_neg (fun z => z rfl), k168_42]⟩
    obtain ⟨v, hv⟩ := A
    obtain ⟨v', hv'⟩ := B
    exact SimR.read hR0 hv hv' (fun z => absurd z (by decide))
  · have c1 := c81n (d := d + 1) hS hC h
    have c2 := c162n (d := d) hS hM hs h
    refine SimR.read hR0 (a := -1) (a' := -1) ?_ ?_ (fun _ => rfl)
    · simp (decide := true) only [k84_0, k84_5R, k84_5N, k84_10, k84_14R, k84_22R, k84_31, k84_33R, k84_44, k84_49R, c1, sT_1, sT_2, sT_3, sT_16, sT_17, sT_18, sT_19, sT_20, sT_21, sT_22, sT_23, sT_24, sT_25, sT_26, sT_27, sT_28, sT_29, sT_30, sT_31, sT_32, sT_33, sT_34, sT_35, sT_36, sT_37, sT_38, sT_39, sT_40, sT_41, sT_42, sT_43, sT_44, sT_45, sT_46, sT_47, sT_48, sT_49, sT_50, sT_51, sT_52, sT_53, sT_54, sT_55, sT_56, sT_57, sT_58, sT_59, sT_60, sT_61, sT_62, sT_63, sT_64, sT_65, sT_66, sT_67, sT_68, sT_69, sT_70, sT_71, sT_72, sT_73, sT_74, sT_75, sT_76, sT_77, sT_78, sT_79, sT_80, sN_1, sN_2, sN_19, sN_21, sN_23, sN_24, sN_26, sN_29, sN_31, sN_33, sN_35, sN_36, sN_37, sN_39, sN_40, sN_42, sN_44, sN_45, sN_46, sN_48, sN_49, sN_50, sN_51, sN_52, sN_53, sN_54, sN_55, sN_56, sN_57, sN_58, sN_59, sN_60, sN_61, sN_62, sN_63, sN_64, sN_65, sN_66, sN_67, sN_68, sN_69, sN_70, sN_71, sN_72, sN_73, sN_74, sN_75, sN_76, sN_77, sN_78, sN_79, sN_80, sR_0_34, sR_0_38, sR_1_34, sR_1_38, sR_64_20, sR_64_22, sR_128_25, sR_128_28, sR_194_17, sR_195_17, sR_196_17, sR_197_17, sR_258_30, sR_258_32, sR_258_41, sR_384_43, sR_448_18, sR_512_27, sR_513_27, sR_514_27, sR_515_27, sR_516_27, sR_576_16, sR_577_16, sR_578_16, sR_579_16, sR_580_16, sR_581_16, sR_582_16, sR_583_16, sR_584_16, sR_641_47, sR_643_47, sR_645_47, sR_646_47, sR_647_47, sR_648_47, sR_649_47, sR_650_47, sR_651_47, sR_652_47, sR_653_47, sR_654_47, sR_655_47, sR_656_47, sR_657_47, sR_658_47, sR_659_47, sR_661_47, sR_662_47, sR_663_47, sR_664_47, sR_665_47, sR_669_47, sR_670_47, sR_671_47, sR_672_47, sR_673_47, sR_674_47, sR_676_47, sR_677_47, sR_679_47, sR_680_47, sR_681_47, SH_I, SH_A, SH_G, SH_C, hS, Option.getD_some, ne_eq, reduceCtorEq, not_false_eq_true, not_true_eq_false, Option.bind_some, Option.toList_none, Option.toList_some, List.nil_append, List.cons_append, List.append_nil, ↓reduceIte, and_self, true_and, and_true, false_and, and_false, or_true, true_or, or_false, false_or, Nat.reduceEqDiff, Nat.reduceAdd, Int32.reduceMul, Int32.reduceAdd, Int32.reduceSub, Int32.reduceToNatClampNeg, Int32.reduceOfNat, Int32.reduceLT, Int32.reduceLE, va_rf]
    · simp (decide := true) only [k168_0, k168_5, k168_8, k168_10, k168_25, k168_33, k168_39, k168_42, k168_47, c2, sT_1, sT_2, sT_3, sT_16, sT_17, sT_18, sT_19, sT_20, sT_21, sT_22, sT_23, sT_24, sT_25, sT_26, sT_27, sT_28, sT_29, sT_30, sT_31, sT_32, sT_33, sT_34, sT_35, sT_36, sT_37, sT_38, sT_39, sT_40, sT_41, sT_42, sT_43, sT_44, sT_45, sT_46, sT_47, sT_48, sT_49, sT_50, sT_51, sT_52, sT_53, sT_54, sT_55, sT_56, sT_57, sT_58, sT_59, sT_60, sT_61, sT_62, sT_63, sT_64, sT_65, sT_66, sT_67, sT_68, sT_69, sT_70, sT_71, sT_72, sT_73, sT_74, sT_75, sT_76, sT_77, sT_78, sT_79, sT_80, sN_1, sN_2, sN_19, sN_21, sN_23, sN_24, sN_26, sN_29, sN_31, sN_33, sN_35, sN_36, sN_37, sN_39, sN_40, sN_42, sN_44, sN_45, sN_46, sN_48, sN_49, sN_50, sN_51, sN_52, sN_53, sN_54, sN_55, sN_56, sN_57, sN_58, sN_59, sN_60, sN_61, sN_62, sN_63, sN_64, sN_65, sN_66, sN_67, sN_68, sN_69, sN_70, sN_71, sN_72, sN_73, sN_74, sN_75, sN_76, sN_77, sN_78, sN_79, sN_80, sR_0_34, sR_0_38, sR_1_34, sR_1_38, sR_64_20, sR_64_22, sR_128_25, sR_128_28, sR_194_17, sR_195_17, sR_196_17, sR_197_17, sR_258_30, sR_258_32, sR_258_41, sR_384_43, sR_448_18, sR_512_27, sR_513_27, sR_514_27, sR_515_27, sR_516_27, sR_576_16, sR_577_16, sR_578_16, sR_579_16, sR_580_16, sR_581_16, sR_582_16, sR_583_16, sR_584_16, sR_641_47, sR_643_47, sR_645_47, sR_646_47, sR_647_47, sR_648_47, sR_649_47, sR_650_47, sR_651_47, sR_652_47, sR_653_47, sR_654_47, sR_655_47, sR_656_47, sR_657_47, sR_658_47, sR_659_47, sR_661_47, sR_662_47, sR_663_47, sR_664_47, sR_665_47, sR_669_47, sR_670_47, sR_671_47, sR_672_47, sR_673_47, sR_674_47, sR_676_47, sR_677_47, sR_679_47, sR_680_47, sR_681_47, SH_I, SH_A, SH_G, SH_C, hS, Option.getD_some, ne_eq, reduceCtorEq, not_false_eq_true, not_true_eq_false, Option.bind_some, Option.toList_none, Option.toList_some, List.nil_append, List.cons_append, List.append_nil, ↓reduceIte, and_self, true_and, and_true, false_and, and_false, or_true, true_or, or_false, false_or, Nat.reduceEqDiff, Nat.reduceAdd, Int32.reduceMul, Int32.reduceAdd, Int32.reduceSub, Int32.reduceToNatClampNeg, Int32.reduceOfNat, Int32.reduceLT, Int32.reduceLE, va_rf]
end SM6
end S_82
section S_83
/-! on, count -/
def scr2 : List Nat := [16, 17, 20, 21, 22, 23, 24, 26, 29, 30, 31, 32, 33, 35, 36, 37, 39, 40, 41, 42, 43, 44]
theorem CX.gen {s s' : AS} {cr cp : Nat} {qr qp : Nat → Nat} {σ σ' : jS} {l : List Nat} (h : CX s cr cp qr qp σ) (f : FR l σ σ') (hl : ∀ x, x ∈ l → x ∈ scr2 ∨ 81 ≤ x) (hnr : jI σ' 585 16 = nI s'.rs.length) (hnp : jI σ' 586 16 = nI s'.ps.length) (hw : jI σ' 587 16 = nI s'.W) (hap : jI σ' 589 16 = s'.ap) (e1 : s'.len = s.len) (e2 : s'.b = s.b) (hns : jI σ' 385 43 = nI s'.ns) (htl : ∀ k w, k < s'.ns → w < 3 → jA σ' 44 (3 * k + w) = s'.tl k w) (w1 : ∃ n, RW σ' 30 31 4 n) (w2 : ∃ n, RW σ' 32 33 4 n) (w3 : ∃ n, RW σ' 41 42 4 n) (l1 : s'.rs.length ≤ cr) (l2 : s'.ps.length ≤ cp) (hr : ∀ i, i < cr → SLr σ' (qr i)) (hp : ∀ i, i < cp → SLp σ' (qp i)) (hrs : ∀ i, i < s'.rs.length → CRr σ' s'.W (qr i) (s'.rs.getD i ar0)) (hps : ∀ i, i < s'.ps.length → RO σ' (qp i) (qp i + 1) 24 (s'.ps.getD i [])) : CX s' cr cp qr qp σ' := by
  have nl : ∀ x, x ∉ scr2 → x < 81 → x ∉ l := fun x hx h8 z => (hl x z).elim hx (by omega)
  refine ⟨f.st (nl 1 (by decide) (by decide)) (nl 2 (by decide) (by decide)) h.st, hnr, hnp, hw, hap, by rw [e1, e2]; exact f.tx (nl 18 (by decide) (by decide)) (nl 19 (by decide) (by decide)) h.tx, hns, htl, w1, w2, w3, ⟨l1, h.lr.2⟩, ⟨l2, h.lp.2⟩, fun i hi => ⟨by rw [f.1.2.2.2.1.1]; exact (h.gr i hi).1, hr i hi⟩, fun i h1 h2 => by rw [f.1.2.2.2.1.1]; exact h.gr0 i h1 h2, fun i hi => ⟨by rw [f.1.2.2.2.1.1]; exact (h.gp i hi).1, hp i hi⟩, fun i h1 h2 => by rw [f.1.2.2.2.1.1]; exact h.gp0 i h1 h2, by rw [f.1.2.2.2.2.1]; exact h.dj, hrs, hps⟩
theorem RO.slp {σ : jS} {q : Nat} {os : List (Nat → Int32)} (h : RO σ q (q + 1) 24 os) : SLp σ q := h.1.rs
theorem SLp.fr {σ σ' : jS} {l : List Nat} {q : Nat} (h : SLp σ q) (f : FR l σ σ') (hq : q ∉ l) : SLp σ' q := RS.frame h f hq
theorem SLr.fr {σ σ' : jS} {l : List Nat} {q : Nat} (h : SLr σ q) (f : FR l σ σ') (h1 : q + 1 ∉ l) (h3 : q + 3 ∉ l) : SLr σ' q := by
  obtain ⟨a, b, c⟩ := h
  exact ⟨a.frame f, b.frame f h1, c.frame f h3⟩
theorem set_rs {s : AS} {k : Nat} (h : k < s.rs.length) (a : AR) {i : Nat} : (s.rs.set k a).getD i ar0 = if i = k then a else s.rs.getD i ar0 := by
  rw [List.getD_eq_getElem?_getD, List.getD_eq_getElem?_getD, List.getElem?_set]
  by_cases e : i = k
  · subst e
    rw [if_pos rfl, if_pos rfl, if_pos h]
    rfl
  · rw [if_neg (fun z => e z.symm), if_neg e]
def cntS (rs : List AR) (v : Int32) : Int32 := rs.foldl (fun c a => if sndA a then c + 1 else c) v
theorem drop_rs {rs : List AR} {n : Nat} (h : n < rs.length) : rs.drop n = rs.getD n ar0 :: rs.drop (n + 1) := by
  rw [List.drop_eq_getElem_cons h, List.getD_eq_getElem?_getD, List.getElem?_eq_getElem h]
  rfl
section SM7
variable {d : Nat} {σ : jS} {s : AS} {cr cp : Nat} {qr qp : Nat → Nat}
theorem sim_on (hR : REL s cr cp qr qp σ) (x y : Int32) (hy : y = 0 ∨ y = 1) : SimR (d + 2) 80 161 [some (.int x), some (.int y), none, none] [some (.int x), some (.int y), none] true σ := by
  have hR0 := hR
  obtain ⟨hS, hx, hs, hC, hM⟩ := hR
  have hl := hs.r24
  by_cases h : inR x s.rs.length
  · obtain ⟨k, hk, ek⟩ := inR_nat (by omega) h
    have c1 := c81y (d := d + 1) hS hC hs hk
    have cr' := hC.rs k hk
    have mr := hM.rs k hk
    obtain ⟨a, ea⟩ : ∃ a, s.rs.getD k ar0 = a := ⟨_, rfl⟩
    have fr := hs.fr _ (mem_rs hk)
    rw [ea] at cr' mr fr
    have cr0 := cr'
    obtain ⟨⟨tp, hU, hbig, g1, g2, e4, e5, e6, e0, htp⟩, f7, f8, f9, f11, f12⟩ := cr'
    have bk := hC.dj.r k (by have := hC.lr.1; omega)
    have lrr := hC.lr.1
    have tq := hU.1
    let a' : AR := (a.nr, a.nm, a.hc, a.o1, a.o2, a.P, a.C, a.ch, decide (y = 1))
    let s' : AS := (s.W, s.len, s.b, s.rs.set k a', s.ps, s.ns, s.tl, s.ap)
    have yv : y = if a'.on = true then 1 else 0 := by
      show y = if decide (y = 1) = true then 1 else 0
      rcases hy with e | e <;> rw [e] <;> rfl
    have ya : y &&& 1 = y := by rcases hy with e | e <;> rw [e] <;> rfl
    have elen : s'.rs.length = s.rs.length := List.length_set
    have gd : ∀ i, s'.rs.getD i ar0 = if i = k then a' else s.rs.getD i ar0 := fun i => set_rs hk a'
    have F : FR [qr k] σ (jsI σ 332 (qr k) y) := (FR.refl _ σ).I (by simp) (by omega)
    have hS1 : SH (jsI σ 332 (qr k) y) := by rw [SH_I]; exact hS
    have hM1 := hM.sm (F.sm (fun b h1 h2 => by simp; omega))
    have o16 : 16 ∉ [qr k] := by simp; omega
    have sj : sndA a' ↔ sndA a := Iff.rfl
    have I : ∀ g, g ≠ 332 → jI (jsI σ 332 (qr k) y) g (qr k) = jI σ g (qr k) := fun g hg => by rw [zI_I, if_neg (fun w => hg w.1)]
    have hCk : CRr (jsI σ 332 (qr k) y) s.W (qr k) a' := by
      refine ⟨⟨tp, hU.frame F, hbig, g1.frame F (by simp) (by simp), g2.frame F (by simp) (by simp), by rw [I 324 (by decide)]; exact e4, by rw [I 325 (by decide)]; exact e5, by rw [I 326 (by decide)]; exact e6, by rw [I 330 (by decide)]; exact e0, fun j hj => by rw [zI_A]; exact htp j hj⟩, by rw [I 327 (by decide)]; exact f7, by rw [I 328 (by decide)]; exact f8, by rw [I 329 (by decide)]; exact f9, by rw [I 331 (by decide)]; exact f11, by rw [zI_I, if_pos ⟨rfl, rfl⟩]; exact yv⟩
    have out : ∀ i, i < cr → i ≠ k → ∀ z, qr i ≤ z → z < qr i + 7 → z ∉ [qr k] := fun i hi hik z h1 h2 => by
      have := hC.dj.rr i k hi (by omega) hik
      simp; omega
    have outp : ∀ i, i < cp → ∀ z, qp i ≤ z → z < qp i + 2 → z ∉ [qr k] := fun i hi z h1 h2 => by
      have := hC.dj.rp k i (by omega) hi
      simp; omega
    have hC1 : CX s' cr cp qr qp (jsI σ 332 (qr k) y) := by
      refine hC.gen F (fun z hz => by simp at hz; exact Or.inr (by omega)) (by rw [(F.2 16 o16).1, elen]; exact hC.nr) (by rw [(F.2 16 o16).1]; exact hC.np) (by rw [(F.2 16 o16).1]; exact hC.w) (by rw [(F.2 16 o16).1]; exact hC.ap) rfl rfl (by rw [(F.2 43 (by simp; omega)).1]; exact hC.ns) (fun j w hj hw => by rw [(F.2 44 (by simp; omega)).2]; exact hC.tl j w hj hw) ?_ ?_ ?_ (by rw [elen]; exact lrr) hC.lp.1 (fun i hi => ?_) (fun i hi => ?_) (fun i hi => ?_) (fun i hi => ?_)
      · obtain ⟨n, w⟩ := hC.w1; exact ⟨n, w.frame F (by simp; omega)⟩
      · obtain ⟨n, w⟩ := hC.w2; exact ⟨n, w.frame F (by simp; omega)⟩
      · obtain ⟨n, w⟩ := hC.w3; exact ⟨n, w.frame F (by simp; omega)⟩
      · by_cases e : i = k
        · subst e; exact (hC.gr i hi).2.fr F (by simp) (by simp)
        · exact (hC.gr i hi).2.fr F (out i hi e _ (by omega) (by omega)) (out i hi e _ (by omega) (by omega))
      · exact (hC.gp i hi).2.fr F (outp i hi _ (by omega) (by omega))
      · rw [elen] at hi
        rw [gd i]
        by_cases e : i = k
        · rw [if_pos e, e]; exact hCk
        · rw [if_neg e]; exact (hC.rs i hi).fr F (out i (by omega) e)
      · have hi' : i < s.ps.length := hi
        have := hC.lp.1
        exact (hC.ps i hi').frame F (outp i (by omega) _ (by omega) (by omega)) (outp i (by omega) _ (by omega) (by omega))
    have F2 : FR [63] (jsI σ 332 (qr k) y) (jsA (jsI σ 332 (qr k) y) 63 k y) := (FR.refl _ _).A (by simp)
    have hM2 : CM s' (jsA (jsI σ 332 (qr k) y) 63 k y) := by
      have z := fun a (ha : a ≠ 63) => (F2.2 a (by simpa using ha)).2
      refine ⟨fun j hj => by rw [z 70 (by decide)]; exact hM1.nv j hj, by rw [zA_I, elen]; exact hM1.nr, by rw [zA_I]; exact hM1.np, by rw [zA_I]; exact hM1.w, by rw [zA_I]; exact hM1.ap, ⟨by rw [zA_I]; exact hM1.tm.1, hM1.tm.2.1, fun j hj => by rw [z 48 (by decide)]; exact hM1.tm.2.2 j hj⟩, by rw [zA_I]; exact hM1.ns, fun j w hj hw => by rw [z (78 + w) (by omega)]; exact hM1.tl j w hj hw, fun i hi => ?_, fun i hi => ?_⟩
      · rw [elen] at hi
        rw [gd i]
        obtain ⟨⟨rg, m⟩, m1, m2, m3, m4⟩ := hM1.rs i hi
        have m' := m.frame F2 (fun a x y => by simp; omega)
        by_cases e : i = k
        · subst e
          rw [if_pos rfl]
          rw [ea] at m' m1 m2 m4
          exact ⟨⟨rg, m'⟩, by rw [z 60 (by decide)]; exact m1, by rw [z 61 (by decide)]; exact m2, by rw [zA_A, if_pos ⟨rfl, rfl⟩]; exact yv, by rw [z 64 (by decide)]; exact m4⟩
        · rw [if_neg e]
          exact ⟨⟨rg, m'⟩, by rw [z 60 (by decide)]; exact m1, by rw [z 61 (by decide)]; exact m2, by rw [zA_A, if_neg (fun w => e w.2)]; exact m3, by rw [z 64 (by decide)]; exact m4⟩
      · obtain ⟨p1, p2, p3⟩ := hM1.ps i hi
        exact ⟨by rw [z 65 (by decide)]; exact p1, p2, fun j w hj hw => by rw [z (66 + w) (by omega)]; exact p3 j w hj hw⟩
    have wf : WFs s' := ⟨hs.w, hs.l, hs.byy, by rw [elen]; exact hs.r24, hs.p16, fun b hb => by
      rcases List.mem_or_eq_of_mem_set hb with q | q
      · exact hs.fr b q
      · rw [q]; exact ⟨fr.nr4, fr.nm3, fr.f1, fr.f2, fr.z4, fr.l1, fr.l4, fr.m4, fr.p1, fr.pm, fr.cp, fr.oc⟩, hs.fp, hs.n144⟩
    have sc := F2.sc (fun a ha => by simp at ha; omega)
    rw [ek]
    refine ⟨if a.on = true then 1 else 0, if a.on = true then 1 else 0, jsI σ 332 (qr k) y, jsA (jsI σ 332 (qr k) y) 63 k y, s', cr, cp, qr, qp, ?_, ?_, ⟨by rw [SH_A]; exact hS1, hx, wf, CX.sc (by exact hx) hC1 sc, hM2⟩, by show jnx σ ≤ _; omega, by show jsl σ ≤ _; omega, low.trans (F.low (fun b hb => by simp at hb; omega)) (sc.low hx), fun _ => rfl⟩
    · have cb := c82 (d := d + 1) (σ := σ) (if a.on = true then 1 else 0) (by by_cases z : a.on = true; exact Or.inr (if_pos z); exact Or.inl (if_neg z))
      rw [k80_0 (sT_16 hS), c1]
      simp only [Option.bind_some, Option.toList_some, List.cons_append, List.nil_append]
      rw [k80_5R tq, f12, cb]
      simp only [Option.bind_some, Option.toList_some, List.cons_append, List.nil_append]
      rw [k80_19R tq hy]
    · have wfs : WFs s := hs
      have c2 := c162y (d := d) hS1 hM1 hs (x := nI k) (inR_k (by omega) hk)
      have m63 : jA (jsI σ 332 (qr k) y) 63 k = if a.on = true then 1 else 0 := by rw [zI_A]; exact mr.2.2.2.1
      have gk : jin 24 (nI k) := jin_n (by omega) (by decide)
      have qk : (nI k).toNatClampNeg = k := nI_clamp (by omega)
      have r8 : (jR (jsI σ 332 (qr k) y) 658 47).getD 0 = 63 := by rw [sR_658_47 hS1]; rfl
      have n8 : jR (jsI σ 332 (qr k) y) 658 47 ≠ none := by rw [sR_658_47 hS1]; exact fun z => nomatch z
      rw [k161_0 (sT_47 hS1), c2]
      simp only [Option.bind_some, Option.toList_some, List.cons_append, List.nil_append]
      rw [k161_5, if_pos (by decide), k161_10 (sT_47 hS1) n8 (by rw [r8]; exact Or.inr (sT_63 hS1)) (by rw [r8, sN_63 hS1]; exact gk), r8, qk, m63]
      by_cases z : a.on = true
      · rw [if_pos z, if_neg (by decide), k161_19N (sT_47 hS1) n8 (by rw [r8]; exact sT_63 hS1) (by rw [r8, sN_63 hS1]; exact gk), r8, qk, ya]
      · rw [if_neg z, if_pos rfl, k161_23N (sT_47 hS1) n8 (by rw [r8]; exact sT_63 hS1) (by rw [r8, sN_63 hS1]; exact gk), r8, qk, ya]
  · have c1 := c81n (d := d + 1) hS hC h
    have c2 := c162n (d := d) hS hM hs h
    refine SimR.read hR0 (a := -1) (a' := -1) ?_ ?_ (fun _ => rfl)
    · simp (decide := true) only [k80_0, k80_5R, k80_5N, k80_10, k80_12R, k80_19R, c1, sT_1, sT_2, sT_3, sT_16, sT_17, sT_18, sT_19, sT_20, sT_21, sT_22, sT_23, sT_24, sT_25, sT_26, sT_27, sT_28, sT_29, sT_30, sT_31, sT_32, sT_33, sT_34, sT_35, sT_36, sT_37, sT_38, sT_39, sT_40, sT_41, sT_42, sT_43, sT_44, sT_45, sT_46, sT_47, sT_48, sT_49, sT_50, sT_51, sT_52, sT_53, sT_54, sT_55, sT_56, sT_57, sT_58, sT_59, sT_60, sT_61, sT_62, sT_63, sT_64, sT_65, sT_66, sT_67, sT_68, sT_69, sT_70, sT_71, sT_72, sT_73, sT_74, sT_75, sT_76, sT_77, sT_78, sT_79, sT_80, sN_1, sN_2, sN_19, sN_21, sN_23, sN_24, sN_26, sN_29, sN_31, sN_33, sN_35, sN_36, sN_37, sN_39, sN_40, sN_42, sN_44, sN_45, sN_46, sN_48, sN_49, sN_50, sN_51, sN_52, sN_53, sN_54, sN_55, sN_56, sN_57, sN_58, sN_59, sN_60, sN_61, sN_62, sN_63, sN_64, sN_65, sN_66, sN_67, sN_68, sN_69, sN_70, sN_71, sN_72, sN_73, sN_74, sN_75, sN_76, sN_77, sN_78, sN_79, sN_80, sR_0_34, sR_0_38, sR_1_34, sR_1_38, sR_64_20, sR_64_22, sR_128_25, sR_128_28, sR_194_17, sR_195_17, sR_196_17, sR_197_17, sR_258_30, sR_258_32, sR_258_41, sR_384_43, sR_448_18, sR_512_27, sR_513_27, sR_514_27, sR_515_27, sR_516_27, sR_576_16, sR_577_16, sR_578_16, sR_579_16, sR_580_16, sR_581_16, sR_582_16, sR_583_16, sR_584_16, sR_641_47, sR_643_47, sR_645_47, sR_646_47, sR_647_47, sR_648_47, sR_649_47, sR_650_47, sR_651_47, sR_652_47, sR_653_47, sR_654_47, sR_655_47, sR_656_47, sR_657_47, sR_658_47, sR_659_47, sR_661_47, sR_662_47, sR_663_47, sR_664_47, sR_665_47, sR_669_47, sR_670_47, sR_671_47, sR_672_47, sR_673_47, sR_674_47, sR_676_47, sR_677_47, sR_679_47, sR_680_47, sR_681_47, SH_I, SH_A, SH_G, SH_C, hS, Option.getD_some, ne_eq, reduceCtorEq, not_false_eq_true, not_true_eq_false, Option.bind_some, Option.toList_none, Option.toList_some, List.nil_append, List.cons_append, List.append_nil, ↓reduceIte, and_self, true_and, and_true, false_and, and_false, or_true, true_or, or_false, false_or, Nat.reduceEqDiff, Nat.reduceAdd, Int32.reduceMul, Int32.reduceAdd, Int32.reduceSub, Int32.reduceToNatClampNeg, Int32.reduceOfNat, Int32.reduceLT, Int32.reduceLE, va_rf]
    · simp (decide := true) only [k161_0, k161_5, k161_8, k161_10, k161_19R, k161_19N, k161_23R, k161_23N, c2, sT_1, sT_2, sT_3, sT_16, sT_17, sT_18, sT_19, sT_20, sT_21, sT_22, sT_23, sT_24, sT_25, sT_26, sT_27, sT_28, sT_29, sT_30, sT_31, sT_32, sT_33, sT_34, sT_35, sT_36, sT_37, sT_38, sT_39, sT_40, sT_41, sT_42, sT_43, sT_44, sT_45, sT_46, sT_47, sT_48, sT_49, sT_50, sT_51, sT_52, sT_53, sT_54, sT_55, sT_56, sT_57, sT_58, sT_59, sT_60, sT_61, sT_62, sT_63, sT_64, sT_65, sT_66, sT_67, sT_68, sT_69, sT_70, sT_71, sT_72, sT_73, sT_74, sT_75, sT_76, sT_77, sT_78, sT_79, sT_80, sN_1, sN_2, sN_19, sN_21, sN_23, sN_24, sN_26, sN_29, sN_31, sN_33, sN_35, sN_36, sN_37, sN_39, sN_40, sN_42, sN_44, sN_45, sN_46, sN_48, sN_49, sN_50, sN_51, sN_52, sN_53, sN_54, sN_55, sN_56, sN_57, sN_58, sN_59, sN_60, sN_61, sN_62, sN_63, sN_64, sN_65, sN_66, sN_67, sN_68, sN_69, sN_70, sN_71, sN_72, sN_73, sN_74, sN_75, sN_76, sN_77, sN_78, sN_79, sN_80, sR_0_34, sR_0_38, sR_1_34, sR_1_38, sR_64_20, sR_64_22, sR_128_25, sR_128_28, sR_194_17, sR_195_17, sR_196_17, sR_197_17, sR_258_30, sR_258_32, sR_258_41, sR_384_43, sR_448_18, sR_512_27, sR_513_27, sR_514_27, sR_515_27, sR_516_27, sR_576_16, sR_577_16, sR_578_16, sR_579_16, sR_580_16, sR_581_16, sR_582_16, sR_583_16, sR_584_16, sR_641_47, sR_643_47, sR_645_47, sR_646_47, sR_647_47, sR_648_47, sR_649_47, sR_650_47, sR_651_47, sR_652_47, sR_653_47, sR_654_47, sR_655_47, sR_656_47, sR_657_47, sR_658_47, sR_659_47, sR_661_47, sR_662_47, sR_663_47, sR_664_47, sR_665_47, sR_669_47, sR_670_47, sR_671_47, sR_672_47, sR_673_47, sR_674_47, sR_676_47, sR_677_47, sR_679_47, sR_680_47, sR_681_47, SH_I, SH_A, SH_G, SH_C, hS, Option.getD_some, ne_eq, reduceCtorEq, not_false_eq_true, not_true_eq_false, Option.bind_some, Option.toList_none, Option.toList_some, List.nil_append, List.cons_append, List.append_nil, ↓reduceIte, and_self, true_and, and_true, false_and, and_false, or_true, true_or, or_false, false_or, Nat.reduceEqDiff, Nat.reduceAdd, Int32.reduceMul, Int32.reduceAdd, Int32.reduceSub, Int32.reduceToNatClampNeg, Int32.reduceOfNat, Int32.reduceLT, Int32.reduceLE, va_rf]
theorem c118 (hS : SH σ) (hs : WFs s) (hC : CX s cr cp qr qp σ) : jx (d + 1) 118 0 [some (.ref 16), none, none, none] [] σ = some (some (.int (cntS s.rs 0)), σ) := by
  have hl := hs.r24
  have L : ∀ f n v l3, n + f = s.rs.length → jx (d + 1) 118 4 [some (.ref 16), some (.int v), some (.int (nI n)), l3] [] σ = some (some (.int (cntS (s.rs.drop n) v)), σ) := by
    intro f
    induction f with
    | zero =>
      intro n v l3 hn
      have e : n = s.rs.length := by omega
      subst e
      rw [k118_4 (sT_16 hS), hC.nr, if_pos (nI_le (Nat.le_refl _) (by omega)), k118_38, List.drop_length]
      rfl
    | succ f ih =>
      intro n v l3 hn
      have hlt : n < s.rs.length := by omega
      obtain ⟨⟨tp, hU, _⟩, _, _, _, f11, _⟩ := hC.rs n hlt
      rw [k118_4 (sT_16 hS), hC.nr, if_neg (nI_ge (by omega) (by omega)), k118_12 (sT_16 hS), c81y hS hC hs hlt]
      simp only [Option.bind_some, Option.toList_some, List.cons_append, List.nil_append]
      rw [k118_17R hU.1, f11, drop_rs hlt]
      by_cases z : sndA (s.rs.getD n ar0)
      · have e : cntS (s.rs.getD n ar0 :: s.rs.drop (n + 1)) v = cntS (s.rs.drop (n + 1)) (v + 1) := by
          show cntS (s.rs.drop (n + 1)) (if sndA (s.rs.getD n ar0) then v + 1 else v) = _
          rw [if_pos z]
        rw [if_pos z, if_neg (by decide), k118_29, ← nI_succ, ih (n + 1) _ _ (by omega), e]
      · have e : cntS (s.rs.getD n ar0 :: s.rs.drop (n + 1)) v = cntS (s.rs.drop (n + 1)) v := by
          show cntS (s.rs.drop (n + 1)) (if sndA (s.rs.getD n ar0) then v + 1 else v) = _
          rw [if_neg z]
        rw [if_neg z, if_pos rfl, k118_32, ← nI_succ, ih (n + 1) _ _ (by omega), e]
  have := L s.rs.length 0 0 none (by omega)
  rw [List.drop_zero] at this
  rw [k118_0]
  exact this
theorem sim_count (hR : REL s cr cp qr qp σ) (x : Int32) : SimR (d + 4) 117 196 [some (.int x)] [some (.int x), none, none] true σ := by
  have hR0 := hR
  obtain ⟨hS, hx, hs, hC, hM⟩ := hR
  have hl := hs.r24
  have rd : ∀ v : Int32, jx (d + 4) 117 0 [some (.ref 16), some (.int x)] [] σ = some (some (.int v), σ) → jx (d + 4) 196 0 [some (.ref 47), some (.int x), none, none] [] σ = some (some (.int v), σ) → SimR (d + 4) 117 196 [some (.int x)] [some (.int x), none, none] true σ := fun v h1 h2 => SimR.read hR0 h1 h2 (fun _ => rfl)
  have a1 := hC.nr
  have a2 := hC.np
  have a3 := hC.tx.1
  have a4 := hC.w
  have a5 := hC.ns
  have b1 := hM.nr
  have b2 := hM.np
  have b3 := hM.tm.1
  have b4 := hM.w
  have b5 := hM.ns
  by_cases y0 : x = 0
  · subst y0
    refine rd (nI s.rs.length) ?_ ?_
    · simp (decide := true) only [k117_0, k117_40, k117_45, k117_49, k117_50, k117_55, k117_63, k117_68, k117_76, jsw_4, a1, sT_1, sT_2, sT_3, sT_16, sT_17, sT_18, sT_19, sT_20, sT_21, sT_22, sT_23, sT_24, sT_25, sT_26, sT_27, sT_28, sT_29, sT_30, sT_31, sT_32, sT_33, sT_34, sT_35, sT_36, sT_37, sT_38, sT_39, sT_40, sT_41, sT_42, sT_43, sT_44, sT_45, sT_46, sT_47, sT_48, sT_49, sT_50, sT_51, sT_52, sT_53, sT_54, sT_55, sT_56, sT_57, sT_58, sT_59, sT_60, sT_61, sT_62, sT_63, sT_64, sT_65, sT_66, sT_67, sT_68, sT_69, sT_70, sT_71, sT_72, sT_73, sT_74, sT_75, sT_76, sT_77, sT_78, sT_79, sT_80, sN_1, sN_2, sN_19, sN_21, sN_23, sN_24, sN_26, sN_29, sN_31, sN_33, sN_35, sN_36, sN_37, sN_39, sN_40, sN_42, sN_44, sN_45, sN_46, sN_48, sN_49, sN_50, sN_51, sN_52, sN_53, sN_54, sN_55, sN_56, sN_57, sN_58, sN_59, sN_60, sN_61, sN_62, sN_63, sN_64, sN_65, sN_66, sN_67, sN_68, sN_69, sN_70, sN_71, sN_72, sN_73, sN_74, sN_75, sN_76, sN_77, sN_78, sN_79, sN_80, sR_0_34, sR_0_38, sR_1_34, sR_1_38, sR_64_20, sR_64_22, sR_128_25, sR_128_28, sR_194_17, sR_195_17, sR_196_17, sR_197_17, sR_258_30, sR_258_32, sR_258_41, sR_384_43, sR_448_18, sR_512_27, sR_513_27, sR_514_27, sR_515_27, sR_516_27, sR_576_16, sR_577_16, sR_578_16, sR_579_16, sR_580_16, sR_581_16, sR_582_16, sR_583_16, sR_584_16, sR_641_47, sR_643_47, sR_645_47, sR_646_47, sR_647_47, sR_648_47, sR_649_47, sR_650_47, sR_651_47, sR_652_47, sR_653_47, sR_654_47, sR_655_47, sR_656_47, sR_657_47, sR_658_47, sR_659_47, sR_661_47, sR_662_47, sR_663_47, sR_664_47, sR_665_47, sR_669_47, sR_670_47, sR_671_47, sR_672_47, sR_673_47, sR_674_47, sR_676_47, sR_677_47, sR_679_47, sR_680_47, sR_681_47, SH_I, SH_A, SH_G, SH_C, hS, Option.getD_some, ne_eq, reduceCtorEq, not_false_eq_true, not_true_eq_false, Option.bind_some, Option.toList_none, Option.toList_some, List.nil_append, List.cons_append, List.append_nil, ↓reduceIte, and_self, true_and, and_true, false_and, and_false, or_true, true_or, or_false, false_or, Nat.reduceEqDiff, Nat.reduceAdd, Int32.reduceMul, Int32.reduceAdd, Int32.reduceSub, Int32.reduceToNatClampNeg, Int32.reduceOfNat, Int32.reduceLT, Int32.reduceLE, va_rf]
    · simp (decide := true) only [k196_0, k196_40, jsw_8, b1, sT_1, sT_2, sT_3, sT_16, sT_17, sT_18, sT_19, sT_20, sT_21, sT_22, sT_23, sT_24, sT_25, sT_26, sT_27, sT_28, sT_29, sT_30, sT_31, sT_32, sT_33, sT_34, sT_35, sT_36, sT_37, sT_38, sT_39, sT_40, sT_41, sT_42, sT_43, sT_44, sT_45, sT_46, sT_47, sT_48, sT_49, sT_50, sT_51, sT_52, sT_53, sT_54, sT_55, sT_56, sT_57, sT_58, sT_59, sT_60, sT_61, sT_62, sT_63, sT_64, sT_65, sT_66, sT_67, sT_68, sT_69, sT_70, sT_71, sT_72, sT_73, sT_74, sT_75, sT_76, sT_77, sT_78, sT_79, sT_80, sN_1, sN_2, sN_19, sN_21, sN_23, sN_24, sN_26, sN_29, sN_31, sN_33, sN_35, sN_36, sN_37, sN_39, sN_40, sN_42, sN_44, sN_45, sN_46, sN_48, sN_49, sN_50, sN_51, sN_52, sN_53, sN_54, sN_55, sN_56, sN_57, sN_58, sN_59, sN_60, sN_61, sN_62, sN_63, sN_64, sN_65, sN_66, sN_67, sN_68, sN_69, sN_70, sN_71, sN_72, sN_73, sN_74, sN_75, sN_76, sN_77, sN_78, sN_79, sN_80, sR_0_34, sR_0_38, sR_1_34, sR_1_38, sR_64_20, sR_64_22, sR_128_25, sR_128_28, sR_194_17, sR_195_17, sR_196_17, sR_197_17, sR_258_30, sR_258_32, sR_258_41, sR_384_43, sR_448_18, sR_512_27, sR_513_27, sR_514_27, sR_515_27, sR_516_27, sR_576_16, sR_577_16, sR_578_16, sR_579_16, sR_580_16, sR_581_16, sR_582_16, sR_583_16, sR_584_16, sR_641_47, sR_643_47, sR_645_47, sR_646_47, sR_647_47, sR_648_47, sR_649_47, sR_650_47, sR_651_47, sR_652_47, sR_653_47, sR_654_47, sR_655_47, sR_656_47, sR_657_47, sR_658_47, sR_659_47, sR_661_47, sR_662_47, sR_663_47, sR_664_47, sR_665_47, sR_669_47, sR_670_47, sR_671_47, sR_672_47, sR_673_47, sR_674_47, sR_676_47, sR_677_47, sR_679_47, sR_680_47, sR_681_47, SH_I, SH_A, SH_G, SH_C, hS, Option.getD_some, ne_eq, reduceCtorEq, not_false_eq_true, not_true_eq_false, Option.bind_some, Option.toList_none, Option.toList_some, List.nil_append, List.cons_append, List.append_nil, ↓reduceIte, and_self, true_and, and_true, false_and, and_false, or_true, true_or, or_false, false_or, Nat.reduceEqDiff, Nat.reduceAdd, Int32.reduceMul, Int32.reduceAdd, Int32.reduceSub, Int32.reduceToNatClampNeg, Int32.reduceOfNat, Int32.reduceLT, Int32.reduceLE, va_rf]
  by_cases y1 : x = 1
  · subst y1
    have c1 := c118 (d := d + 2) hS hs hC
    refine rd (cntS s.rs 0) ?_ ?_
    · simp (decide := true) only [k117_0, k117_40, k117_45, k117_49, k117_50, k117_55, k117_63, k117_68, k117_76, jsw_4, c1, sT_1, sT_2, sT_3, sT_16, sT_17, sT_18, sT_19, sT_20, sT_21, sT_22, sT_23, sT_24, sT_25, sT_26, sT_27, sT_28, sT_29, sT_30, sT_31, sT_32, sT_33, sT_34, sT_35, sT_36, sT_37, sT_38, sT_39, sT_40, sT_41, sT_42, sT_43, sT_44, sT_45, sT_46, sT_47, sT_48, sT_49, sT_50, sT_51, sT_52, sT_53, sT_54, sT_55, sT_56, sT_57, sT_58, sT_59, sT_60, sT_61, sT_62, sT_63, sT_64, sT_65, sT_66, sT_67, sT_68, sT_69, sT_70, sT_71, sT_72, sT_73, sT_74, sT_75, sT_76, sT_77, sT_78, sT_79, sT_80, sN_1, sN_2, sN_19, sN_21, sN_23, sN_24, sN_26, sN_29, sN_31, sN_33, sN_35, sN_36, sN_37, sN_39, sN_40, sN_42, sN_44, sN_45, sN_46, sN_48, sN_49, sN_50, sN_51, sN_52, sN_53, sN_54, sN_55, sN_56, sN_57, sN_58, sN_59, sN_60, sN_61, sN_62, sN_63, sN_64, sN_65, sN_66, sN_67, sN_68, sN_69, sN_70, sN_71, sN_72, sN_73, sN_74, sN_75, sN_76, sN_77, sN_78, sN_79, sN_80, sR_0_34, sR_0_38, sR_1_34, sR_1_38, sR_64_20, sR_64_22, sR_128_25, sR_128_28, sR_194_17, sR_195_17, sR_196_17, sR_197_17, sR_258_30, sR_258_32, sR_258_41, sR_384_43, sR_448_18, sR_512_27, sR_513_27, sR_514_27, sR_515_27, sR_516_27, sR_576_16, sR_577_16, sR_578_16, sR_579_16, sR_580_16, sR_581_16, sR_582_16, sR_583_16, sR_584_16, sR_641_47, sR_643_47, sR_645_47, sR_646_47, sR_647_47, sR_648_47, sR_649_47, sR_650_47, sR_651_47, sR_652_47, sR_653_47, sR_654_47, sR_655_47, sR_656_47, sR_657_47, sR_658_47, sR_659_47, sR_661_47, sR_662_47, sR_663_47, sR_664_47, sR_665_47, sR_669_47, sR_670_47, sR_671_47, sR_672_47, sR_673_47, sR_674_47, sR_676_47, sR_677_47, sR_679_47, sR_680_47, sR_681_47, SH_I, SH_A, SH_G, SH_C, hS, Option.getD_some, ne_eq, reduceCtorEq, not_false_eq_true, not_true_eq_false, Option.bind_some, Option.toList_none, Option.toList_some, List.nil_append, List.cons_append, List.append_nil, ↓reduceIte, and_self, true_and, and_true, false_and, and_false, or_true, true_or, or_false, false_or, Nat.reduceEqDiff, Nat.reduceAdd, Int32.reduceMul, Int32.reduceAdd, Int32.reduceSub, Int32.reduceToNatClampNeg, Int32.reduceOfNat, Int32.reduceLT, Int32.reduceLE, va_rf]
    · have L : ∀ f n v, n + f = s.rs.length → jx (d + 4) 196 49 [some (.ref 47), some (.int 1), some (.int v), some (.int (nI n))] [] σ = some (some (.int (cntS (s.rs.drop n) v)), σ) := by
        intro f
        induction f with
        | zero =>
          intro n v hn
          have e : n = s.rs.length := by omega
          subst e
          rw [k196_49 (sT_47 hS), b1, if_pos (nI_le (Nat.le_refl _) (by omega)), k196_79, List.drop_length]
          rfl
        | succ f ih =>
          intro n v hn
          have hlt : n < s.rs.length := by omega
          have cs := c164 (d := d) hS (r := n) (by omega) (hs.fr _ (mem_rs hlt)) (hM.rs n hlt)
          have z0 : v + 0 = v := Int32.add_zero v
          rw [k196_49 (sT_47 hS), b1, if_neg (nI_ge (by omega) (by omega)), k196_57 (sT_47 hS), cs]
          simp only [Option.bind_some, Option.toList_some, List.cons_append, List.nil_append]
          rw [k196_63, drop_rs hlt]
          by_cases z : sndA (s.rs.getD n ar0)
          · have e : cntS (s.rs.getD n ar0 :: s.rs.drop (n + 1)) v = cntS (s.rs.drop (n + 1)) (v + 1) := by
              show cntS (s.rs.drop (n + 1)) (if sndA (s.rs.getD n ar0) then v + 1 else v) = _
              rw [if_pos z]
            rw [if_pos z, if_neg (by decide), k196_66, ← nI_succ, ih (n + 1) _ (by omega), e]
          · have e : cntS (s.rs.getD n ar0 :: s.rs.drop (n + 1)) v = cntS (s.rs.drop (n + 1)) v := by
              show cntS (s.rs.drop (n + 1)) (if sndA (s.rs.getD n ar0) then v + 1 else v) = _
              rw [if_neg z]
            rw [if_neg z, if_pos rfl, k196_70, z0, ← nI_succ, ih (n + 1) _ (by omega), e]
      have := L s.rs.length 0 0 (by omega)
      rw [List.drop_zero] at this
      rw [k196_0, show jsw 8 1 = 45 by decide, k196_45]
      exact this
  by_cases y2 : x = 2
  · subst y2
    refine rd (nI s.ps.length) ?_ ?_
    · simp (decide := true) only [k117_0, k117_40, k117_45, k117_49, k117_50, k117_55, k117_63, k117_68, k117_76, jsw_4, a2, sT_1, sT_2, sT_3, sT_16, sT_17, sT_18, sT_19, sT_20, sT_21, sT_22, sT_23, sT_24, sT_25, sT_26, sT_27, sT_28, sT_29, sT_30, sT_31, sT_32, sT_33, sT_34, sT_35, sT_36, sT_37, sT_38, sT_39, sT_40, sT_41, sT_42, sT_43, sT_44, sT_45, sT_46, sT_47, sT_48, sT_49, sT_50, sT_51, sT_52, sT_53, sT_54, sT_55, sT_56, sT_57, sT_58, sT_59, sT_60, sT_61, sT_62, sT_63, sT_64, sT_65, sT_66, sT_67, sT_68, sT_69, sT_70, sT_71, sT_72, sT_73, sT_74, sT_75, sT_76, sT_77, sT_78, sT_79, sT_80, sN_1, sN_2, sN_19, sN_21, sN_23, sN_24, sN_26, sN_29, sN_31, sN_33, sN_35, sN_36, sN_37, sN_39, sN_40, sN_42, sN_44, sN_45, sN_46, sN_48, sN_49, sN_50, sN_51, sN_52, sN_53, sN_54, sN_55, sN_56, sN_57, sN_58, sN_59, sN_60, sN_61, sN_62, sN_63, sN_64, sN_65, sN_66, sN_67, sN_68, sN_69, sN_70, sN_71, sN_72, sN_73, sN_74, sN_75, sN_76, sN_77, sN_78, sN_79, sN_80, sR_0_34, sR_0_38, sR_1_34, sR_1_38, sR_64_20, sR_64_22, sR_128_25, sR_128_28, sR_194_17, sR_195_17, sR_196_17, sR_197_17, sR_258_30, sR_258_32, sR_258_41, sR_384_43, sR_448_18, sR_512_27, sR_513_27, sR_514_27, sR_515_27, sR_516_27, sR_576_16, sR_577_16, sR_578_16, sR_579_16, sR_580_16, sR_581_16, sR_582_16, sR_583_16, sR_584_16, sR_641_47, sR_643_47, sR_645_47, sR_646_47, sR_647_47, sR_648_47, sR_649_47, sR_650_47, sR_651_47, sR_652_47, sR_653_47, sR_654_47, sR_655_47, sR_656_47, sR_657_47, sR_658_47, sR_659_47, sR_661_47, sR_662_47, sR_663_47, sR_664_47, sR_665_47, sR_669_47, sR_670_47, sR_671_47, sR_672_47, sR_673_47, sR_674_47, sR_676_47, sR_677_47, sR_679_47, sR_680_47, sR_681_47, SH_I, SH_A, SH_G, SH_C, hS, Option.getD_some, ne_eq, reduceCtorEq, not_false_eq_true, not_true_eq_false, Option.bind_some, Option.toList_none, Option.toList_some, List.nil_append, List.cons_append, List.append_nil, ↓reduceIte, and_self, true_and, and_true, false_and, and_false, or_true, true_or, or_false, false_or, Nat.reduceEqDiff, Nat.reduceAdd, Int32.reduceMul, Int32.reduceAdd, Int32.reduceSub, Int32.reduceToNatClampNeg, Int32.reduceOfNat, Int32.reduceLT, Int32.reduceLE, va_rf]
    · simp (decide := true) only [k196_0, k196_81, jsw_8, b2, sT_1, sT_2, sT_3, sT_16, sT_17, sT_18, sT_19, sT_20, sT_21, sT_22, sT_23, sT_24, sT_25, sT_26, sT_27, sT_28, sT_29, sT_30, sT_31, sT_32, sT_33, sT_34, sT_35, sT_36, sT_37, sT_38, sT_39, sT_40, sT_41, sT_42, sT_43, sT_44, sT_45, sT_46, sT_47, sT_48, sT_49, sT_50, sT_51, sT_52, sT_53, sT_54, sT_55, sT_56, sT_57, sT_58, sT_59, sT_60, sT_61, sT_62, sT_63, sT_64, sT_65, sT_66, sT_67, sT_68, sT_69, sT_70, sT_71, sT_72, sT_73, sT_74, sT_75, sT_76, sT_77, sT_78, sT_79, sT_80, sN_1, sN_2, sN_19, sN_21, sN_23, sN_24, sN_26, sN_29, sN_31, sN_33, sN_35, sN_36, sN_37, sN_39, sN_40, sN_42, sN_44, sN_45, sN_46, sN_48, sN_49, sN_50, sN_51, sN_52, sN_53, sN_54, sN_55, sN_56, sN_57, sN_58, sN_59, sN_60, sN_61, sN_62, sN_63, sN_64, sN_65, sN_66, sN_67, sN_68, sN_69, sN_70, sN_71, sN_72, sN_73, sN_74, sN_75, sN_76, sN_77, sN_78, sN_79, sN_80, sR_0_34, sR_0_38, sR_1_34, sR_1_38, sR_64_20, sR_64_22, sR_128_25, sR_128_28, sR_194_17, sR_195_17, sR_196_17, sR_197_17, sR_258_30, sR_258_32, sR_258_41, sR_384_43, sR_448_18, sR_512_27, sR_513_27, sR_514_27, sR_515_27, sR_516_27, sR_576_16, sR_577_16, sR_578_16, sR_579_16, sR_580_16, sR_581_16, sR_582_16, sR_583_16, sR_584_16, sR_641_47, sR_643_47, sR_645_47, sR_646_47, sR_647_47, sR_648_47, sR_649_47, sR_650_47, sR_651_47, sR_652_47, sR_653_47, sR_654_47, sR_655_47, sR_656_47, sR_657_47, sR_658_47, sR_659_47, sR_661_47, sR_662_47, sR_663_47, sR_664_47, sR_665_47, sR_669_47, sR_670_47, sR_671_47, sR_672_47, sR_673_47, sR_674_47, sR_676_47, sR_677_47, sR_679_47, sR_680_47, sR_681_47, SH_I, SH_A, SH_G, SH_C, hS, Option.getD_some, ne_eq, reduceCtorEq, not_false_eq_true, not_true_eq_false, Option.bind_some, Option.toList_none, Option.toList_some, List.nil_append, List.cons_append, List.append_nil, ↓reduceIte, and_self, true_and, and_true, false_and, and_false, or_true, true_or, or_false, false_or, Nat.reduceEqDiff, Nat.reduceAdd, Int32.reduceMul, Int32.reduceAdd, Int32.reduceSub, Int32.reduceToNatClampNeg, Int32.reduceOfNat, Int32.reduceLT, Int32.reduceLE, va_rf]
  by_cases y3 : x = 3
  · subst y3
    refine rd (nI s.len) ?_ ?_
    · simp (decide := true) only [k117_0, k117_40, k117_45, k117_49, k117_50, k117_55, k117_63, k117_68, k117_76, jsw_4, a3, sT_1, sT_2, sT_3, sT_16, sT_17, sT_18, sT_19, sT_20, sT_21, sT_22, sT_23, sT_24, sT_25, sT_26, sT_27, sT_28, sT_29, sT_30, sT_31, sT_32, sT_33, sT_34, sT_35, sT_36, sT_37, sT_38, sT_39, sT_40, sT_41, sT_42, sT_43, sT_44, sT_45, sT_46, sT_47, sT_48, sT_49, sT_50, sT_51, sT_52, sT_53, sT_54, sT_55, sT_56, sT_57, sT_58, sT_59, sT_60, sT_61, sT_62, sT_63, sT_64, sT_65, sT_66, sT_67, sT_68, sT_69, sT_70, sT_71, sT_72, sT_73, sT_74, sT_75, sT_76, sT_77, sT_78, sT_79, sT_80, sN_1, sN_2, sN_19, sN_21, sN_23, sN_24, sN_26, sN_29, sN_31, sN_33, sN_35, sN_36, sN_37, sN_39, sN_40, sN_42, sN_44, sN_45, sN_46, sN_48, sN_49, sN_50, sN_51, sN_52, sN_53, sN_54, sN_55, sN_56, sN_57, sN_58, sN_59, sN_60, sN_61, sN_62, sN_63, sN_64, sN_65, sN_66, sN_67, sN_68, sN_69, sN_70, sN_71, sN_72, sN_73, sN_74, sN_75, sN_76, sN_77, sN_78, sN_79, sN_80, sR_0_34, sR_0_38, sR_1_34, sR_1_38, sR_64_20, sR_64_22, sR_128_25, sR_128_28, sR_194_17, sR_195_17, sR_196_17, sR_197_17, sR_258_30, sR_258_32, sR_258_41, sR_384_43, sR_448_18, sR_512_27, sR_513_27, sR_514_27, sR_515_27, sR_516_27, sR_576_16, sR_577_16, sR_578_16, sR_579_16, sR_580_16, sR_581_16, sR_582_16, sR_583_16, sR_584_16, sR_641_47, sR_643_47, sR_645_47, sR_646_47, sR_647_47, sR_648_47, sR_649_47, sR_650_47, sR_651_47, sR_652_47, sR_653_47, sR_654_47, sR_655_47, sR_656_47, sR_657_47, sR_658_47, sR_659_47, sR_661_47, sR_662_47, sR_663_47, sR_664_47, sR_665_47, sR_669_47, sR_670_47, sR_671_47, sR_672_47, sR_673_47, sR_674_47, sR_676_47, sR_677_47, sR_679_47, sR_680_47, sR_681_47, SH_I, SH_A, SH_G, SH_C, hS, Option.getD_some, ne_eq, reduceCtorEq, not_false_eq_true, not_true_eq_false, Option.bind_some, Option.toList_none, Option.toList_some, List.nil_append, List.cons_append, List.append_nil, ↓reduceIte, and_self, true_and, and_true, false_and, and_false, or_true, true_or, or_false, false_or, Nat.reduceEqDiff, Nat.reduceAdd, Int32.reduceMul, Int32.reduceAdd, Int32.reduceSub, Int32.reduceToNatClampNeg, Int32.reduceOfNat, Int32.reduceLT, Int32.reduceLE, va_rf]
    · simp (decide := true) only [k196_0, k196_86, jsw_8, b3, sT_1, sT_2, sT_3, sT_16, sT_17, sT_18, sT_19, sT_20, sT_21, sT_22, sT_23, sT_24, sT_25, sT_26, sT_27, sT_28, sT_29, sT_30, sT_31, sT_32, sT_33, sT_34, sT_35, sT_36, sT_37, sT_38, sT_39, sT_40, sT_41, sT_42, sT_43, sT_44, sT_45, sT_46, sT_47, sT_48, sT_49, sT_50, sT_51, sT_52, sT_53, sT_54, sT_55, sT_56, sT_57, sT_58, sT_59, sT_60, sT_61, sT_62, sT_63, sT_64, sT_65, sT_66, sT_67, sT_68, sT_69, sT_70, sT_71, sT_72, sT_73, sT_74, sT_75, sT_76, sT_77, sT_78, sT_79, sT_80, sN_1, sN_2, sN_19, sN_21, sN_23, sN_24, sN_26, sN_29, sN_31, sN_33, sN_35, sN_36, sN_37, sN_39, sN_40, sN_42, sN_44, sN_45, sN_46, sN_48, sN_49, sN_50, sN_51, sN_52, sN_53, sN_54, sN_55, sN_56, sN_57, sN_58, sN_59, sN_60, sN_61, sN_62, sN_63, sN_64, sN_65, sN_66, sN_67, sN_68, sN_69, sN_70, sN_71, sN_72, sN_73, sN_74, sN_75, sN_76, sN_77, sN_78, sN_79, sN_80, sR_0_34, sR_0_38, sR_1_34, sR_1_38, sR_64_20, sR_64_22, sR_128_25, sR_128_28, sR_194_17, sR_195_17, sR_196_17, sR_197_17, sR_258_30, sR_258_32, sR_258_41, sR_384_43, sR_448_18, sR_512_27, sR_513_27, sR_514_27, sR_515_27, sR_516_27, sR_576_16, sR_577_16, sR_578_16, sR_579_16, sR_580_16, sR_581_16, sR_582_16, sR_583_16, sR_584_16, sR_641_47, sR_643_47, sR_645_47, sR_646_47, sR_647_47, sR_648_47, sR_649_47, sR_650_47, sR_651_47, sR_652_47, sR_653_47, sR_654_47, sR_655_47, sR_656_47, sR_657_47, sR_658_47, sR_659_47, sR_661_47, sR_662_47, sR_663_47, sR_664_47, sR_665_47, sR_669_47, sR_670_47, sR_671_47, sR_672_47, sR_673_47, sR_674_47, sR_676_47, sR_677_47, sR_679_47, sR_680_47, sR_681_47, SH_I, SH_A, SH_G, SH_C, hS, Option.getD_some, ne_eq, reduceCtorEq, not_false_eq_true, not_true_eq_false, Option.bind_some, Option.toList_none, Option.toList_some, List.nil_append, List.cons_append, List.append_nil, ↓reduceIte, and_self, true_and, and_true, false_and, and_false, or_true, true_or, or_false, false_or, Nat.reduceEqDiff, Nat.reduceAdd, Int32.reduceMul, Int32.reduceAdd, Int32.reduceSub, Int32.reduceToNatClampNeg, Int32.reduceOfNat, Int32.reduceLT, Int32.reduceLE, va_rf]
  by_cases y4 : x = 4
  · subst y4
    refine rd (nI s.W) ?_ ?_
    · simp (decide := true) only [k117_0, k117_40, k117_45, k117_49, k117_50, k117_55, k117_63, k117_68, k117_76, jsw_4, a4, sT_1, sT_2, sT_3, sT_16, sT_17, sT_18, sT_19, sT_20, sT_21, sT_22, sT_23, sT_24, sT_25, sT_26, sT_27, sT_28, sT_29, sT_30, sT_31, sT_32, sT_33, sT_34, sT_35, sT_36, sT_37, sT_38, sT_39, sT_40, sT_41, sT_42, sT_43, sT_44, sT_45, sT_46, sT_47, sT_48, sT_49, sT_50, sT_51, sT_52, sT_53, sT_54, sT_55, sT_56, sT_57, sT_58, sT_59, sT_60, sT_61, sT_62, sT_63, sT_64, sT_65, sT_66, sT_67, sT_68, sT_69, sT_70, sT_71, sT_72, sT_73, sT_74, sT_75, sT_76, sT_77, sT_78, sT_79, sT_80, sN_1, sN_2, sN_19, sN_21, sN_23, sN_24, sN_26, sN_29, sN_31, sN_33, sN_35, sN_36, sN_37, sN_39, sN_40, sN_42, sN_44, sN_45, sN_46, sN_48, sN_49, sN_50, sN_51, sN_52, sN_53, sN_54, sN_55, sN_56, sN_57, sN_58, sN_59, sN_60, sN_61, sN_62, sN_63, sN_64, sN_65, sN_66, sN_67, sN_68, sN_69, sN_70, sN_71, sN_72, sN_73, sN_74, sN_75, sN_76, sN_77, sN_78, sN_79, sN_80, sR_0_34, sR_0_38, sR_1_34, sR_1_38, sR_64_20, sR_64_22, sR_128_25, sR_128_28, sR_194_17, sR_195_17, sR_196_17, sR_197_17, sR_258_30, sR_258_32, sR_258_41, sR_384_43, sR_448_18, sR_512_27, sR_513_27, sR_514_27, sR_515_27, sR_516_27, sR_576_16, sR_577_16, sR_578_16, sR_579_16, sR_580_16, sR_581_16, sR_582_16, sR_583_16, sR_584_16, sR_641_47, sR_643_47, sR_645_47, sR_646_47, sR_647_47, sR_648_47, sR_649_47, sR_650_47, sR_651_47, sR_652_47, sR_653_47, sR_654_47, sR_655_47, sR_656_47, sR_657_47, sR_658_47, sR_659_47, sR_661_47, sR_662_47, sR_663_47, sR_664_47, sR_665_47, sR_669_47, sR_670_47, sR_671_47, sR_672_47, sR_673_47, sR_674_47, sR_676_47, sR_677_47, sR_679_47, sR_680_47, sR_681_47, SH_I, SH_A, SH_G, SH_C, hS, Option.getD_some, ne_eq, reduceCtorEq, not_false_eq_true, not_true_eq_false, Option.bind_some, Option.toList_none, Option.toList_some, List.nil_append, List.cons_append, List.append_nil, ↓reduceIte, and_self, true_and, and_true, false_and, and_false, or_true, true_or, or_false, false_or, Nat.reduceEqDiff, Nat.reduceAdd, Int32.reduceMul, Int32.reduceAdd, Int32.reduceSub, Int32.reduceToNatClampNeg, Int32.reduceOfNat, Int32.reduceLT, Int32.reduceLE, va_rf]
    · simp (decide := true) only [k196_0, k196_91, jsw_8, b4, sT_1, sT_2, sT_3, sT_16, sT_17, sT_18, sT_19, sT_20, sT_21, sT_22, sT_23, sT_24, sT_25, sT_26, sT_27, sT_28, sT_29, sT_30, sT_31, sT_32, sT_33, sT_34, sT_35, sT_36, sT_37, sT_38, sT_39, sT_40, sT_41, sT_42, sT_43, sT_44, sT_45, sT_46, sT_47, sT_48, sT_49, sT_50, sT_51, sT_52, sT_53, sT_54, sT_55, sT_56, sT_57, sT_58, sT_59, sT_60, sT_61, sT_62, sT_63, sT_64, sT_65, sT_66, sT_67, sT_68, sT_69, sT_70, sT_71, sT_72, sT_73, sT_74, sT_75, sT_76, sT_77, sT_78, sT_79, sT_80, sN_1, sN_2, sN_19, sN_21, sN_23, sN_24, sN_26, sN_29, sN_31, sN_33, sN_35, sN_36, sN_37, sN_39, sN_40, sN_42, sN_44, sN_45, sN_46, sN_48, sN_49, sN_50, sN_51, sN_52, sN_53, sN_54, sN_55, sN_56, sN_57, sN_58, sN_59, sN_60, sN_61, sN_62, sN_63, sN_64, sN_65, sN_66, sN_67, sN_68, sN_69, sN_70, sN_71, sN_72, sN_73, sN_74, sN_75, sN_76, sN_77, sN_78, sN_79, sN_80, sR_0_34, sR_0_38, sR_1_34, sR_1_38, sR_64_20, sR_64_22, sR_128_25, sR_128_28, sR_194_17, sR_195_17, sR_196_17, sR_197_17, sR_258_30, sR_258_32, sR_258_41, sR_384_43, sR_448_18, sR_512_27, sR_513_27, sR_514_27, sR_515_27, sR_516_27, sR_576_16, sR_577_16, sR_578_16, sR_579_16, sR_580_16, sR_581_16, sR_582_16, sR_583_16, sR_584_16, sR_641_47, sR_643_47, sR_645_47, sR_646_47, sR_647_47, sR_648_47, sR_649_47, sR_650_47, sR_651_47, sR_652_47, sR_653_47, sR_654_47, sR_655_47, sR_656_47, sR_657_47, sR_658_47, sR_659_47, sR_661_47, sR_662_47, sR_663_47, sR_664_47, sR_665_47, sR_669_47, sR_670_47, sR_671_47, sR_672_47, sR_673_47, sR_674_47, sR_676_47, sR_677_47, sR_679_47, sR_680_47, sR_681_47, SH_I, SH_A, SH_G, SH_C, hS, Option.getD_some, ne_eq, reduceCtorEq, not_false_eq_true, not_true_eq_false, Option.bind_some, Option.toList_none, Option.toList_some, List.nil_append, List.cons_append, List.append_nil, ↓reduceIte, and_self, true_and, and_true, false_and, and_false, or_true, true_or, or_false, false_or, Nat.reduceEqDiff, Nat.reduceAdd, Int32.reduceMul, Int32.reduceAdd, Int32.reduceSub, Int32.reduceToNatClampNeg, Int32.reduceOfNat, Int32.reduceLT, Int32.reduceLE, va_rf]
  by_cases y5 : x = 5
  · subst y5
    refine rd (nI s.ns) ?_ ?_
    · simp (decide := true) only [k117_0, k117_40, k117_45, k117_49, k117_50, k117_55, k117_63, k117_68, k117_76, jsw_4, a5, sT_1, sT_2, sT_3, sT_16, sT_17, sT_18, sT_19, sT_20, sT_21, sT_22, sT_23, sT_24, sT_25, sT_26, sT_27, sT_28, sT_29, sT_30, sT_31, sT_32, sT_33, sT_34, sT_35, sT_36, sT_37, sT_38, sT_39, sT_40, sT_41, sT_42, sT_43, sT_44, sT_45, sT_46, sT_47, sT_48, sT_49, sT_50, sT_51, sT_52, sT_53, sT_54, sT_55, sT_56, sT_57, sT_58, sT_59, sT_60, sT_61, sT_62, sT_63, sT_64, sT_65, sT_66, sT_67, sT_68, sT_69, sT_70, sT_71, sT_72, sT_73, sT_74, sT_75, sT_76, sT_77, sT_78, sT_79, sT_80, sN_1, sN_2, sN_19, sN_21, sN_23, sN_24, sN_26, sN_29, sN_31, sN_33, sN_35, sN_36, sN_37, sN_39, sN_40, sN_42, sN_44, sN_45, sN_46, sN_48, sN_49, sN_50, sN_51, sN_52, sN_53, sN_54, sN_55, sN_56, sN_57, sN_58, sN_59, sN_60, sN_61, sN_62, sN_63, sN_64, sN_65, sN_66, sN_67, sN_68, sN_69, sN_70, sN_71, sN_72, sN_73, sN_74, sN_75, sN_76, sN_77, sN_78, sN_79, sN_80, sR_0_34, sR_0_38, sR_1_34, sR_1_38, sR_64_20, sR_64_22, sR_128_25, sR_128_28, sR_194_17, sR_195_17, sR_196_17, sR_197_17, sR_258_30, sR_258_32, sR_258_41, sR_384_43, sR_448_18, sR_512_27, sR_513_27, sR_514_27, sR_515_27, sR_516_27, sR_576_16, sR_577_16, sR_578_16, sR_579_16, sR_580_16, sR_581_16, sR_582_16, sR_583_16, sR_584_16, sR_641_47, sR_643_47, sR_645_47, sR_646_47, sR_647_47, sR_648_47, sR_649_47, sR_650_47, sR_651_47, sR_652_47, sR_653_47, sR_654_47, sR_655_47, sR_656_47, sR_657_47, sR_658_47, sR_659_47, sR_661_47, sR_662_47, sR_663_47, sR_664_47, sR_665_47, sR_669_47, sR_670_47, sR_671_47, sR_672_47, sR_673_47, sR_674_47, sR_676_47, sR_677_47, sR_679_47, sR_680_47, sR_681_47, SH_I, SH_A, SH_G, SH_C, hS, Option.getD_some, ne_eq, reduceCtorEq, not_false_eq_true, not_true_eq_false, Option.bind_some, Option.toList_none, Option.toList_some, List.nil_append, List.cons_append, List.append_nil, ↓reduceIte, and_self, true_and, and_true, false_and, and_false, or_true, true_or, or_false, false_or, Nat.reduceEqDiff, Nat.reduceAdd, Int32.reduceMul, Int32.reduceAdd, Int32.reduceSub, Int32.reduceToNatClampNeg, Int32.reduceOfNat, Int32.reduceLT, Int32.reduceLE, va_rf]
    · simp (decide := true) only [k196_0, k196_96, jsw_8, b5, sT_1, sT_2, sT_3, sT_16, sT_17, sT_18, sT_19, sT_20, sT_21, sT_22, sT_23, sT_24, sT_25, sT_26, sT_27, sT_28, sT_29, sT_30, sT_31, sT_32, sT_33, sT_34, sT_35, sT_36, sT_37, sT_38, sT_39, sT_40, sT_41, sT_42, sT_43, sT_44, sT_45, sT_46, sT_47, sT_48, sT_49, sT_50, sT_51, sT_52, sT_53, sT_54, sT_55, sT_56, sT_57, sT_58, sT_59, sT_60, sT_61, sT_62, sT_63, sT_64, sT_65, sT_66, sT_67, sT_68, sT_69, sT_70, sT_71, sT_72, sT_73, sT_74, sT_75, sT_76, sT_77, sT_78, sT_79, sT_80, sN_1, sN_2, sN_19, sN_21, sN_23, sN_24, sN_26, sN_29, sN_31, sN_33, sN_35, sN_36, sN_37, sN_39, sN_40, sN_42, sN_44, sN_45, sN_46, sN_48, sN_49, sN_50, sN_51, sN_52, sN_53, sN_54, sN_55, sN_56, sN_57, sN_58, sN_59, sN_60, sN_61, sN_62, sN_63, sN_64, sN_65, sN_66, sN_67, sN_68, sN_69, sN_70, sN_71, sN_72, sN_73, sN_74, sN_75, sN_76, sN_77, sN_78, sN_79, sN_80, sR_0_34, sR_0_38, sR_1_34, sR_1_38, sR_64_20, sR_64_22, sR_128_25, sR_128_28, sR_194_17, sR_195_17, sR_196_17, sR_197_17, sR_258_30, sR_258_32, sR_258_41, sR_384_43, sR_448_18, sR_512_27, sR_513_27, sR_514_27, sR_515_27, sR_516_27, sR_576_16, sR_577_16, sR_578_16, sR_579_16, sR_580_16, sR_581_16, sR_582_16, sR_583_16, sR_584_16, sR_641_47, sR_643_47, sR_645_47, sR_646_47, sR_647_47, sR_648_47, sR_649_47, sR_650_47, sR_651_47, sR_652_47, sR_653_47, sR_654_47, sR_655_47, sR_656_47, sR_657_47, sR_658_47, sR_659_47, sR_661_47, sR_662_47, sR_663_47, sR_664_47, sR_665_47, sR_669_47, sR_670_47, sR_671_47, sR_672_47, sR_673_47, sR_674_47, sR_676_47, sR_677_47, sR_679_47, sR_680_47, sR_681_47, SH_I, SH_A, SH_G, SH_C, hS, Option.getD_some, ne_eq, reduceCtorEq, not_false_eq_true, not_true_eq_false, Option.bind_some, Option.toList_none, Option.toList_some, List.nil_append, List.cons_append, List.append_nil, ↓reduceIte, and_self, true_and, and_true, false_and, and_false, or_true, true_or, or_false, false_or, Nat.reduceEqDiff, Nat.reduceAdd, Int32.reduceMul, Int32.reduceAdd, Int32.reduceSub, Int32.reduceToNatClampNeg, Int32.reduceOfNat, Int32.reduceLT, Int32.reduceLE, va_rf]
  · refine rd (-1) ?_ ?_
    · simp (decide := true) only [k117_0, k117_40, k117_45, k117_49, k117_50, k117_55, k117_63, k117_68, k117_76, jsw_4, y0, y1, y2, y3, y4, y5, sT_1, sT_2, sT_3, sT_16, sT_17, sT_18, sT_19, sT_20, sT_21, sT_22, sT_23, sT_24, sT_25, sT_26, sT_27, sT_28, sT_29, sT_30, sT_31, sT_32, sT_33, sT_34, sT_35, sT_36, sT_37, sT_38, sT_39, sT_40, sT_41, sT_42, sT_43, sT_44, sT_45, sT_46, sT_47, sT_48, sT_49, sT_50, sT_51, sT_52, sT_53, sT_54, sT_55, sT_56, sT_57, sT_58, sT_59, sT_60, sT_61, sT_62, sT_63, sT_64, sT_65, sT_66, sT_67, sT_68, sT_69, sT_70, sT_71, sT_72, sT_73, sT_74, sT_75, sT_76, sT_77, sT_78, sT_79, sT_80, sN_1, sN_2, sN_19, sN_21, sN_23, sN_24, sN_26, sN_29, sN_31, sN_33, sN_35, sN_36, sN_37, sN_39, sN_40, sN_42, sN_44, sN_45, sN_46, sN_48, sN_49, sN_50, sN_51, sN_52, sN_53, sN_54, sN_55, sN_56, sN_57, sN_58, sN_59, sN_60, sN_61, sN_62, sN_63, sN_64, sN_65, sN_66, sN_67, sN_68, sN_69, sN_70, sN_71, sN_72, sN_73, sN_74, sN_75, sN_76, sN_77, sN_78, sN_79, sN_80, sR_0_34, sR_0_38, sR_1_34, sR_1_38, sR_64_20, sR_64_22, sR_128_25, sR_128_28, sR_194_17, sR_195_17, sR_196_17, sR_197_17, sR_258_30, sR_258_32, sR_258_41, sR_384_43, sR_448_18, sR_512_27, sR_513_27, sR_514_27, sR_515_27, sR_516_27, sR_576_16, sR_577_16, sR_578_16, sR_579_16, sR_580_16, sR_581_16, sR_582_16, sR_583_16, sR_584_16, sR_641_47, sR_643_47, sR_645_47, sR_646_47, sR_647_47, sR_648_47, sR_649_47, sR_650_47, sR_651_47, sR_652_47, sR_653_47, sR_654_47, sR_655_47, sR_656_47, sR_657_47, sR_658_47, sR_659_47, sR_661_47, sR_662_47, sR_663_47, sR_664_47, sR_665_47, sR_669_47, sR_670_47, sR_671_47, sR_672_47, sR_673_47, sR_674_47, sR_676_47, sR_677_47, sR_679_47, sR_680_47, sR_681_47, SH_I, SH_A, SH_G, SH_C, hS, Option.getD_some, ne_eq, reduceCtorEq, not_false_eq_true, not_true_eq_false, Option.bind_some, Option.toList_none, Option.toList_some, List.nil_append, List.cons_append, List.append_nil, ↓reduceIte, and_self, true_and, and_true, false_and, and_false, or_true, true_or, or_false, false_or, Nat.reduceEqDiff, Nat.reduceAdd, Int32.reduceMul, Int32.reduceAdd, Int32.reduceSub, Int32.reduceToNatClampNeg, Int32.reduceOfNat, Int32.reduceLT, Int32.reduceLE, va_rf]
    · simp (decide := true) only [k196_0, k196_101, jsw_8, y0, y1, y2, y3, y4, y5, sT_1, sT_2, sT_3, sT_16, sT_17, sT_18, sT_19, sT_20, sT_21, sT_22, sT_23, sT_24, sT_25, sT_26, sT_27, sT_28, sT_29, sT_30, sT_31, sT_32, sT_33, sT_34, sT_35, sT_36, sT_37, sT_38, sT_39, sT_40, sT_41, sT_42, sT_43, sT_44, sT_45, sT_46, sT_47, sT_48, sT_49, sT_50, sT_51, sT_52, sT_53, sT_54, sT_55, sT_56, sT_57, sT_58, sT_59, sT_60, sT_61, sT_62, sT_63, sT_64, sT_65, sT_66, sT_67, sT_68, sT_69, sT_70, sT_71, sT_72, sT_73, sT_74, sT_75, sT_76, sT_77, sT_78, sT_79, sT_80, sN_1, sN_2, sN_19, sN_21, sN_23, sN_24, sN_26, sN_29, sN_31, sN_33, sN_35, sN_36, sN_37, sN_39, sN_40, sN_42, sN_44, sN_45, sN_46, sN_48, sN_49, sN_50, sN_51, sN_52, sN_53, sN_54, sN_55, sN_56, sN_57, sN_58, sN_59, sN_60, sN_61, sN_62, sN_63, sN_64, sN_65, sN_66, sN_67, sN_68, sN_69, sN_70, sN_71, sN_72, sN_73, sN_74, sN_75, sN_76, sN_77, sN_78, sN_79, sN_80, sR_0_34, sR_0_38, sR_1_34, sR_1_38, sR_64_20, sR_64_22, sR_128_25, sR_128_28, sR_194_17, sR_195_17, sR_196_17, sR_197_17, sR_258_30, sR_258_32, sR_258_41, sR_384_43, sR_448_18, sR_512_27, sR_513_27, sR_514_27, sR_515_27, sR_516_27, sR_576_16, sR_577_16, sR_578_16, sR_579_16, sR_580_16, sR_581_16, sR_582_16, sR_583_16, sR_584_16, sR_641_47, sR_643_47, sR_645_47, sR_646_47, sR_647_47, sR_648_47, sR_649_47, sR_650_47, sR_651_47, sR_652_47, sR_653_47, sR_654_47, sR_655_47, sR_656_47, sR_657_47, sR_658_47, sR_659_47, sR_661_47, sR_662_47, sR_663_47, sR_664_47, sR_665_47, sR_669_47, sR_670_47, sR_671_47, sR_672_47, sR_673_47, sR_674_47, sR_676_47, sR_677_47, sR_679_47, sR_680_47, sR_681_47, SH_I, SH_A, SH_G, SH_C, hS, Option.getD_some, ne_eq, reduceCtorEq, not_false_eq_true, not_true_eq_false, Option.bind_some, Option.toList_none, Option.toList_some, List.nil_append, List.cons_append, List.append_nil, ↓reduceIte, and_self, true_and, and_true, false_and, and_false, or_true, true_or, or_false, false_or, Nat.reduceEqDiff, Nat.reduceAdd, Int32.reduceMul, Int32.reduceAdd, Int32.reduceSub, Int32.reduceToNatClampNeg, Int32.reduceOfNat, Int32.reduceLT, Int32.reduceLE, va_rf]
end SM7
end S_83
