/-! calls with small writes: width, end, drop, on; wrong, count -/
def scr : List Nat := [16, 17, 20, 21, 22, 23, 24, 26, 29, 31, 33, 35, 36, 37, 39, 40, 42]
theorem CRr.fr {σ σ' : jS} {l : List Nat} {W q : Nat} {a : AR} (h : CRr σ W q a) (f : FR l σ σ') (hl : ∀ x, q ≤ x → x < q + 7 → x ∉ l) : CRr σ' W q a := by
  obtain ⟨⟨tp, c⟩, e1, e2, e3, e4, e5⟩ := h
  have x := (f.2 q (hl q (by omega) (by omega))).1
  exact ⟨⟨tp, c.frame f (fun y hy => hl y (by simp at hy; omega) (by simp at hy; omega)) (fun g _ _ => x g)⟩, by rw [x]; exact e1, by rw [x]; exact e2, by rw [x]; exact e3, by rw [x]; exact e4, by rw [x]; exact e5⟩
theorem CX.fr {s s' : AS} {cr cp : Nat} {qr qp : Nat → Nat} {σ σ' : jS} {l : List Nat} (h : CX s cr cp qr qp σ) (f : FR l σ σ') (hl : ∀ x, x ∈ l → x ∈ scr) (hnr : jI σ' 585 16 = nI s'.rs.length) (hnp : jI σ' 586 16 = nI s'.ps.length) (hw : jI σ' 587 16 = nI s'.W) (hap : jI σ' 589 16 = s'.ap) (e1 : s'.len = s.len) (e2 : s'.b = s.b) (e3 : s'.ns = s.ns) (e4 : s'.tl = s.tl) (l1 : s'.rs.length ≤ cr) (l2 : s'.ps.length ≤ cp) (hrs : ∀ i, i < s'.rs.length → CRr σ s'.W (qr i) (s'.rs.getD i ar0)) (hps : ∀ i, i < s'.ps.length → RO σ (qp i) (qp i + 1) 24 (s'.ps.getD i [])) : CX s' cr cp qr qp σ' := by
  have nl : ∀ x, x ∉ scr → x ∉ l := fun x hx z => hx (hl x z)
  have big : ∀ x, 81 ≤ x → x ∉ l := fun x hx => nl x (by simp [scr]; omega)
  have dj := h.dj
  refine ⟨f.st (nl 1 (by decide)) (nl 2 (by decide)) h.st, hnr, hnp, hw, hap, ?_, ?_, ?_, ?_, ?_, ?_, ⟨l1, h.lr.2⟩, ⟨l2, h.lp.2⟩, fun i hi => ?_, fun i h1 h2 => by rw [f.1.2.2.2.1.1]; exact h.gr0 i h1 h2, fun i hi => ?_, fun i h1 h2 => by rw [f.1.2.2.2.1.1]; exact h.gp0 i h1 h2, by rw [f.1.2.2.2.2.1]; exact dj, fun i hi => ?_, fun i hi => ?_⟩
  · rw [e1, e2]; exact f.tx (nl 18 (by decide)) (nl 19 (by decide)) h.tx
  · rw [e3, (f.2 43 (nl 43 (by decide))).1]; exact h.ns
  · intro k w hk hw'; rw [e3] at hk; rw [e4, (f.2 44 (nl 44 (by decide))).2]; exact h.tl k w hk hw'
  · obtain ⟨n, q⟩ := h.w1; exact ⟨n, q.frame f (nl 30 (by decide))⟩
  · obtain ⟨n, q⟩ := h.w2; exact ⟨n, q.frame f (nl 32 (by decide))⟩
  · obtain ⟨n, q⟩ := h.w3; exact ⟨n, q.frame f (nl 41 (by decide))⟩
  · obtain ⟨g1, g2, g3, g4⟩ := h.gr i hi
    have b := dj.r i hi
    exact ⟨by rw [f.1.2.2.2.1.1]; exact g1, g2.frame f, g3.frame f (big _ (by omega)), g4.frame f (big _ (by omega))⟩
  · obtain ⟨g1, g2⟩ := h.gp i hi
    have b := dj.p i hi
    exact ⟨by rw [f.1.2.2.2.1.1]; exact g1, RS.frame g2 f (big _ (by omega))⟩
  · have b := dj.r i (by omega)
    exact (hrs i hi).fr f (fun x h1 h2 => big x (by omega))
  · have b := dj.p i (by omega)
    exact (hps i hi).frame f (big _ (by omega)) (big _ (by omega))
/-- the class's scratch alone has changed -/
theorem CX.scr {s : AS} {cr cp : Nat} {qr qp : Nat → Nat} {σ σ' : jS} {l : List Nat} (h : CX s cr cp qr qp σ) (f : FR l σ σ') (hl : ∀ x, x ∈ l → x ∈ scr ∧ x ≠ 16) : CX s cr cp qr qp σ' := by
  have n16 : 16 ∉ l := fun z => (hl 16 z).2 rfl
  have i := (f.2 16 n16).1
  exact h.fr f (fun x hx => (hl x hx).1) (by rw [i]; exact h.nr) (by rw [i]; exact h.np) (by rw [i]; exact h.w) (by rw [i]; exact h.ap) rfl rfl rfl rfl h.lr.1 h.lp.1 h.rs h.ps
/-- what the reference's own fields are -/
theorem CM.I47 {s s' : AS} {σ : jS} {g : Nat} {v : Int32} (h : CM s σ) (hnr : jI (jsI σ g 47 v) 644 47 = nI s'.rs.length) (hnp : jI (jsI σ g 47 v) 660 47 = nI s'.ps.length) (hw : jI (jsI σ g 47 v) 640 47 = nI s'.W) (hap : jI (jsI σ g 47 v) 682 47 = s'.ap) (ht : TM (jsI σ g 47 v) s'.len s'.b) (hns : jI (jsI σ g 47 v) 678 47 = nI s'.ns) (htl : ∀ k w, k < s'.ns → w < 3 → jA σ (78 + w) k = s'.tl k w) (hrs : ∀ i, i < s'.rs.length → MRr σ i (s'.rs.getD i ar0)) (hps : ∀ i, i < s'.ps.length → PM σ i (s'.ps.getD i [])) : CM s' (jsI σ g 47 v) :=
  ⟨h.nv, hnr, hnp, hw, hap, ht, hns, htl, hrs, hps⟩
section SM4
variable {d : Nat} {σ : jS} {s : AS} {cr cp : Nat} {qr qp : Nat → Nat}
theorem i16FR (g : Nat) (v : Int32) : FR [16] σ (jsI σ g 16 v) := (FR.refl _ σ).I (by decide) (by omega)
theorem i47sc (g : Nat) (v : Int32) : sameC σ (jsI σ g 47 v) := ⟨Nat.le_refl _, fun a _ h => ⟨rfl, rfl, fun f => by rw [zI_I, if_neg (fun z => by omega)], fun _ => rfl, fun _ => rfl, fun _ => rfl⟩⟩
theorem sim_width (hR : REL s cr cp qr qp σ) (x : Int32) : SimR (d + 2) 12 122 [some (.int x), none] [some (.int x), none] true σ := by
  have hR0 := hR
  obtain ⟨hS, hx, hs, hC, hM⟩ := hR
  have hl1 := hs.r24
  have hl2 := hs.p16
  have c1 : jx (d + 1) 123 0 [some (.long x.toInt64), none, some (.long 1), none, some (.long 3), none] [] σ = some (some (.int (if 1 ≤ x ∧ x ≤ 3 then 1 else 0)), σ) := c123 (b := 1) (c := 3)
  by_cases h : 1 ≤ x ∧ x ≤ 3
  · have i : (if 1 ≤ x ∧ x ≤ 3 then (1 : Int32) else 0) = 1 := if_pos h
    rw [i] at c1
    have n1 : ¬ x < 1 := Int32.not_lt.mpr h.1
    have e1 := hC.nr
    have e2 := hC.np
    have e3 := hC.w
    have f1 := hM.nr
    have f2 := hM.np
    have f3 := hM.w
    by_cases z1 : s.rs.length = 0
    · by_cases z2 : s.ps.length = 0
      · have a1 : ¬ (0 : Int32) < nI s.rs.length := by rw [z1]; decide
        have a2 : nI s.ps.length ≤ 0 := by rw [z2]; decide
        obtain ⟨w, hw, ew⟩ : ∃ w, (w = 1 ∨ w = 2 ∨ w = 3) ∧ x = nI w := by
          have q := i32_nat (c := x) (n := 4) (by decide) (Int32.not_lt.mpr (Int32.le_trans (by decide) h.1)) (by rw [Int32.not_le]; exact Int32.lt_of_le_of_lt h.2 (by decide))
          refine ⟨x.toNatClampNeg, ?_, q.1⟩
          have : x.toNatClampNeg ≠ 0 := fun e => by rw [e] at q; rw [q.1] at h; exact absurd h.1 (by decide)
          omega
        let s' : AS := (w, s.2)
        have hS1 : SH (jsI σ 587 16 x) := by rw [SH_I]; exact hS
        have hS2 : SH (jsI (jsI σ 587 16 x) 640 47 x) := by rw [SH_I, SH_I]; exact hS
        have sm : sameM σ (jsI σ 587 16 x) := (i16FR 587 x).sm (fun a h1 h2 => by simp; omega)
        have hM1 := hM.sm sm
        have hC1 : CX s' cr cp qr qp (jsI σ 587 16 x) := hC.fr (i16FR 587 x) (by decide) (by rw [zI_I, if_neg (by decide)]; exact e1) (by rw [zI_I, if_neg (by decide)]; exact e2) (by rw [zI_I, if_pos ⟨rfl, rfl⟩]; exact ew) (by rw [zI_I, if_neg (by decide)]; exact hC.ap) rfl rfl rfl rfl hC.lr.1 hC.lp.1 (fun i hi => absurd hi (by rw [show s'.rs.length = s.rs.length from rfl, z1]; exact Nat.not_lt_zero i)) hC.ps
        have hM2 : CM s' (jsI (jsI σ 587 16 x) 640 47 x) := hM1.I47 (by rw [zI_I, if_neg (by decide)]; exact hM1.nr) (by rw [zI_I, if_neg (by decide)]; exact hM1.np) (by rw [zI_I, if_pos ⟨rfl, rfl⟩]; exact ew) (by rw [zI_I, if_neg (by decide)]; exact hM1.ap) (by rw [TM_I (by decide)]; exact hM1.tm) (by rw [zI_I, if_neg (by decide)]; exact hM1.ns) hM1.tl hM1.rs hM1.ps
        refine ⟨nI s.W, nI s.W, jsI σ 587 16 x, jsI (jsI σ 587 16 x) 640 47 x, s', cr, cp, qr, qp, ?_, ?_, ⟨hS2, hx, ⟨hw, hs.l, hs.byy, hs.r24, hs.p16, hs.fr, hs.fp, hs.n144⟩, CX.sc (by exact hx) hC1 (i47sc 640 x), hM2⟩, by show jnx σ ≤ _; omega, by show jsl σ ≤ _; omega, ?_, fun _ => rfl⟩
        · have l3 := h.2
          simp (decide := true) only [k12_0, k12_5, k12_10, k12_12, k12_19, k12_26, k12_29, sT_1, sT_2, sT_3, sT_16, sT_17, sT_18, sT_19, sT_20, sT_21, sT_22, sT_23, sT_24, sT_25, sT_26, sT_27, sT_28, sT_29, sT_30, sT_31, sT_32, sT_33, sT_34, sT_35, sT_36, sT_37, sT_38, sT_39, sT_40, sT_41, sT_42, sT_43, sT_44, sT_45, sT_46, sT_47, sT_48, sT_49, sT_50, sT_51, sT_52, sT_53, sT_54, sT_55, sT_56, sT_57, sT_58, sT_59, sT_60, sT_61, sT_62, sT_63, sT_64, sT_65, sT_66, sT_67, sT_68, sT_69, sT_70, sT_71, sT_72, sT_73, sT_74, sT_75, sT_76, sT_77, sT_78, sT_79, sT_80, sN_1, sN_2, sN_19, sN_21, sN_23, sN_24, sN_26, sN_29, sN_31, sN_33, sN_35, sN_36, sN_37, sN_39, sN_40, sN_42, sN_44, sN_45, sN_46, sN_48, sN_49, sN_50, sN_51, sN_52, sN_53, sN_54, sN_55, sN_56, sN_57, sN_58, sN_59, sN_60, sN_61, sN_62, sN_63, sN_64, sN_65, sN_66, sN_67, sN_68, sN_69, sN_70, sN_71, sN_72, sN_73, sN_74, sN_75, sN_76, sN_77, sN_78, sN_79, sN_80, sR_0_34, sR_0_38, sR_1_34, sR_1_38, sR_64_20, sR_64_22, sR_128_25, sR_128_28, sR_194_17, sR_195_17, sR_196_17, sR_197_17, sR_258_30, sR_258_32, sR_258_41, sR_384_43, sR_448_18, sR_512_27, sR_513_27, sR_514_27, sR_515_27, sR_516_27, sR_576_16, sR_577_16, sR_578_16, sR_579_16, sR_580_16, sR_581_16, sR_582_16, sR_583_16, sR_584_16, sR_641_47, sR_643_47, sR_645_47, sR_646_47, sR_647_47, sR_648_47, sR_649_47, sR_650_47, sR_651_47, sR_652_47, sR_653_47, sR_654_47, sR_655_47, sR_656_47, sR_657_47, sR_658_47, sR_659_47, sR_661_47, sR_662_47, sR_663_47, sR_664_47, sR_665_47, sR_669_47, sR_670_47, sR_671_47, sR_672_47, sR_673_47, sR_674_47, sR_676_47, sR_677_47, sR_679_47, sR_680_47, sR_681_47, SH_I, SH_A, SH_G, SH_C, hS, e1, e2, e3, n1, l3, a1, a2, Option.getD_some, ne_eq, reduceCtorEq, not_false_eq_true, not_true_eq_false, Option.bind_some, Option.toList_none, Option.toList_some, List.nil_append, List.cons_append, List.append_nil, ↓reduceIte, and_self, true_and, and_true, false_and, and_false, or_true, true_or, or_false, false_or, Nat.reduceEqDiff, Nat.reduceAdd, Int32.reduceMul, Int32.reduceAdd, Int32.reduceSub, Int32.reduceToNatClampNeg, Int32.reduceOfNat, Int32.reduceLT, Int32.reduceLE, va_rf]
        · have f1' := hM1.nr
          have f2' := hM1.np
          have f3' := hM1.w
          have c1' : jx (d + 1) 123 0 [some (.long x.toInt64), none, some (.long 1), none, some (.long 3), none] [] (jsI σ 587 16 x) = some (some (.int (if 1 ≤ x ∧ x ≤ 3 then 1 else 0)), jsI σ 587 16 x) := c123 (b := 1) (c := 3)
          rw [i] at c1'
          rw [k122_0, c1']
          simp only [Option.bind_some, Option.toList_some, List.cons_append, List.nil_append]
          rw [k122_9, if_pos (by decide), k122_14 (sT_47 hS1), f1', if_neg a1, k122_21 (sT_47 hS1), f2', if_pos a2, k122_31 (sT_47 hS1), f3']
        · exact low.trans ((i16FR 587 x).low (by simp)) ((i47sc 640 x).low hx)
      · have a1 : ¬ (0 : Int32) < nI s.rs.length := by rw [z1]; decide
        have a2 : ¬ nI s.ps.length ≤ 0 := by rw [show (0 : Int32) = nI 0 from rfl, n31le (by omega) (by decide)]; omega
        have l3 := h.2
        refine SimR.read hR0 (a := -2) (a' := -2) ?_ ?_ (fun _ => rfl)
        · simp (decide := true) only [k12_0, k12_5, k12_10, k12_12, k12_19, k12_26, k12_29, sT_1, sT_2, sT_3, sT_16, sT_17, sT_18, sT_19, sT_20, sT_21, sT_22, sT_23, sT_24, sT_25, sT_26, sT_27, sT_28, sT_29, sT_30, sT_31, sT_32, sT_33, sT_34, sT_35, sT_36, sT_37, sT_38, sT_39, sT_40, sT_41, sT_42, sT_43, sT_44, sT_45, sT_46, sT_47, sT_48, sT_49, sT_50, sT_51, sT_52, sT_53, sT_54, sT_55, sT_56, sT_57, sT_58, sT_59, sT_60, sT_61, sT_62, sT_63, sT_64, sT_65, sT_66, sT_67, sT_68, sT_69, sT_70, sT_71, sT_72, sT_73, sT_74, sT_75, sT_76, sT_77, sT_78, sT_79, sT_80, sN_1, sN_2, sN_19, sN_21, sN_23, sN_24, sN_26, sN_29, sN_31, sN_33, sN_35, sN_36, sN_37, sN_39, sN_40, sN_42, sN_44, sN_45, sN_46, sN_48, sN_49, sN_50, sN_51, sN_52, sN_53, sN_54, sN_55, sN_56, sN_57, sN_58, sN_59, sN_60, sN_61, sN_62, sN_63, sN_64, sN_65, sN_66, sN_67, sN_68, sN_69, sN_70, sN_71, sN_72, sN_73, sN_74, sN_75, sN_76, sN_77, sN_78, sN_79, sN_80, sR_0_34, sR_0_38, sR_1_34, sR_1_38, sR_64_20, sR_64_22, sR_128_25, sR_128_28, sR_194_17, sR_195_17, sR_196_17, sR_197_17, sR_258_30, sR_258_32, sR_258_41, sR_384_43, sR_448_18, sR_512_27, sR_513_27, sR_514_27, sR_515_27, sR_516_27, sR_576_16, sR_577_16, sR_578_16, sR_579_16, sR_580_16, sR_581_16, sR_582_16, sR_583_16, sR_584_16, sR_641_47, sR_643_47, sR_645_47, sR_646_47, sR_647_47, sR_648_47, sR_649_47, sR_650_47, sR_651_47, sR_652_47, sR_653_47, sR_654_47, sR_655_47, sR_656_47, sR_657_47, sR_658_47, sR_659_47, sR_661_47, sR_662_47, sR_663_47, sR_664_47, sR_665_47, sR_669_47, sR_670_47, sR_671_47, sR_672_47, sR_673_47, sR_674_47, sR_676_47, sR_677_47, sR_679_47, sR_680_47, sR_681_47, SH_I, SH_A, SH_G, SH_C, hS, e1, e2, n1, l3, a1, a2, Option.getD_some, ne_eq, reduceCtorEq, not_false_eq_true, not_true_eq_false, Option.bind_some, Option.toList_none, Option.toList_some, List.nil_append, List.cons_append, List.append_nil, ↓reduceIte, and_self, true_and, and_true, false_and, and_false, or_true, true_or, or_false, false_or, Nat.reduceEqDiff, Nat.reduceAdd, Int32.reduceMul, Int32.reduceAdd, Int32.reduceSub, Int32.reduceToNatClampNeg, Int32.reduceOfNat, Int32.reduceLT, Int32.reduceLE, va_rf]
        · simp (decide := true) only [k122_0, k122_9, k122_12, k122_14, k122_21, k122_28, k122_31, sT_1, sT_2, sT_3, sT_16, sT_17, sT_18, sT_19, sT_20, sT_21, sT_22, sT_23, sT_24, sT_25, sT_26, sT_27, sT_28, sT_29, sT_30, sT_31, sT_32, sT_33, sT_34, sT_35, sT_36, sT_37, sT_38, sT_39, sT_40, sT_41, sT_42, sT_43, sT_44, sT_45, sT_46, sT_47, sT_48, sT_49, sT_50, sT_51, sT_52, sT_53, sT_54, sT_55, sT_56, sT_57, sT_58, sT_59, sT_60, sT_61, sT_62, sT_63, sT_64, sT_65, sT_66, sT_67, sT_68, sT_69, sT_70, sT_71, sT_72, sT_73, sT_74, sT_75, sT_76, sT_77, sT_78, sT_79, sT_80, sN_1, sN_2, sN_19, sN_21, sN_23, sN_24, sN_26, sN_29, sN_31, sN_33, sN_35, sN_36, sN_37, sN_39, sN_40, sN_42, sN_44, sN_45, sN_46, sN_48, sN_49, sN_50, sN_51, sN_52, sN_53, sN_54, sN_55, sN_56, sN_57, sN_58, sN_59, sN_60, sN_61, sN_62, sN_63, sN_64, sN_65, sN_66, sN_67, sN_68, sN_69, sN_70, sN_71, sN_72, sN_73, sN_74, sN_75, sN_76, sN_77, sN_78, sN_79, sN_80, sR_0_34, sR_0_38, sR_1_34, sR_1_38, sR_64_20, sR_64_22, sR_128_25, sR_128_28, sR_194_17, sR_195_17, sR_196_17, sR_197_17, sR_258_30, sR_258_32, sR_258_41, sR_384_43, sR_448_18, sR_512_27, sR_513_27, sR_514_27, sR_515_27, sR_516_27, sR_576_16, sR_577_16, sR_578_16, sR_579_16, sR_580_16, sR_581_16, sR_582_16, sR_583_16, sR_584_16, sR_641_47, sR_643_47, sR_645_47, sR_646_47, sR_647_47, sR_648_47, sR_649_47, sR_650_47, sR_651_47, sR_652_47, sR_653_47, sR_654_47, sR_655_47, sR_656_47, sR_657_47, sR_658_47, sR_659_47, sR_661_47, sR_662_47, sR_663_47, sR_664_47, sR_665_47, sR_669_47, sR_670_47, sR_671_47, sR_672_47, sR_673_47, sR_674_47, sR_676_47, sR_677_47, sR_679_47, sR_680_47, sR_681_47, SH_I, SH_A, SH_G, SH_C, hS, c1, f1, f2, a1, a2, Option.getD_some, ne_eq, reduceCtorEq, not_false_eq_true, not_true_eq_false, Option.bind_some, Option.toList_none, Option.toList_some, List.nil_append, List.cons_append, List.append_nil, ↓reduceIte, and_self, true_and, and_true, false_and, and_false, or_true, true_or, or_false, false_or, Nat.reduceEqDiff, Nat.reduceAdd, Int32.reduceMul, Int32.reduceAdd, Int32.reduceSub, Int32.reduceToNatClampNeg, Int32.reduceOfNat, Int32.reduceLT, Int32.reduceLE, va_rf]
    · have a1 : (0 : Int32) < nI s.rs.length := by rw [show (0 : Int32) = nI 0 from rfl, n31 (by decide) (by omega)]; omega
      have l3 := h.2
      refine SimR.read hR0 (a := -2) (a' := -2) ?_ ?_ (fun _ => rfl)
      · simp (decide := true) only [k12_0, k12_5, k12_10, k12_12, k12_19, k12_26, k12_29, sT_1, sT_2, sT_3, sT_16, sT_17, sT_18, sT_19, sT_20, sT_21, sT_22, sT_23, sT_24, sT_25, sT_26, sT_27, sT_28, sT_29, sT_30, sT_31, sT_32, sT_33, sT_34, sT_35, sT_36, sT_37, sT_38, sT_39, sT_40, sT_41, sT_42, sT_43, sT_44, sT_45, sT_46, sT_47, sT_48, sT_49, sT_50, sT_51, sT_52, sT_53, sT_54, sT_55, sT_56, sT_57, sT_58, sT_59, sT_60, sT_61, sT_62, sT_63, sT_64, sT_65, sT_66, sT_67, sT_68, sT_69, sT_70, sT_71, sT_72, sT_73, sT_74, sT_75, sT_76, sT_77, sT_78, sT_79, sT_80, sN_1, sN_2, sN_19, sN_21, sN_23, sN_24, sN_26, sN_29, sN_31, sN_33, sN_35, sN_36, sN_37, sN_39, sN_40, sN_42, sN_44, sN_45, sN_46, sN_48, sN_49, sN_50, sN_51, sN_52, sN_53, sN_54, sN_55, sN_56, sN_57, sN_58, sN_59, sN_60, sN_61, sN_62, sN_63, sN_64, sN_65, sN_66, sN_67, sN_68, sN_69, sN_70, sN_71, sN_72, sN_73, sN_74, sN_75, sN_76, sN_77, sN_78, sN_79, sN_80, sR_0_34, sR_0_38, sR_1_34, sR_1_38, sR_64_20, sR_64_22, sR_128_25, sR_128_28, sR_194_17, sR_195_17, sR_196_17, sR_197_17, sR_258_30, sR_258_32, sR_258_41, sR_384_43, sR_448_18, sR_512_27, sR_513_27, sR_514_27, sR_515_27, sR_516_27, sR_576_16, sR_577_16, sR_578_16, sR_579_16, sR_580_16, sR_581_16, sR_582_16, sR_583_16, sR_584_16, sR_641_47, sR_643_47, sR_645_47, sR_646_47, sR_647_47, sR_648_47, sR_649_47, sR_650_47, sR_651_47, sR_652_47, sR_653_47, sR_654_47, sR_655_47, sR_656_47, sR_657_47, sR_658_47, sR_659_47, sR_661_47, sR_662_47, sR_663_47, sR_664_47, sR_665_47, sR_669_47, sR_670_47, sR_671_47, sR_672_47, sR_673_47, sR_674_47, sR_676_47, sR_677_47, sR_679_47, sR_680_47, sR_681_47, SH_I, SH_A, SH_G, SH_C, hS, e1, n1, l3, a1, Option.getD_some, ne_eq, reduceCtorEq, not_false_eq_true, not_true_eq_false, Option.bind_some, Option.toList_none, Option.toList_some, List.nil_append, List.cons_append, List.append_nil, ↓reduceIte, and_self, true_and, and_true, false_and, and_false, or_true, true_or, or_false, false_or, Nat.reduceEqDiff, Nat.reduceAdd, Int32.reduceMul, Int32.reduceAdd, Int32.reduceSub, Int32.reduceToNatClampNeg, Int32.reduceOfNat, Int32.reduceLT, Int32.reduceLE, va_rf]
      · simp (decide := true) only [k122_0, k122_9, k122_12, k122_14, k122_21, k122_28, k122_31, sT_1, sT_2, sT_3, sT_16, sT_17, sT_18, sT_19, sT_20, sT_21, sT_22, sT_23, sT_24, sT_25, sT_26, sT_27, sT_28, sT_29, sT_30, sT_31, sT_32, sT_33, sT_34, sT_35, sT_36, sT_37, sT_38, sT_39, sT_40, sT_41, sT_42, sT_43, sT_44, sT_45, sT_46, sT_47, sT_48, sT_49, sT_50, sT_51, sT_52, sT_53, sT_54, sT_55, sT_56, sT_57, sT_58, sT_59, sT_60, sT_61, sT_62, sT_63, sT_64, sT_65, sT_66, sT_67, sT_68, sT_69, sT_70, sT_71, sT_72, sT_73, sT_74, sT_75, sT_76, sT_77, sT_78, sT_79, sT_80, sN_1, sN_2, sN_19, sN_21, sN_23, sN_24, sN_26, sN_29, sN_31, sN_33, sN_35, sN_36, sN_37, sN_39, sN_40, sN_42, sN_44, sN_45, sN_46, sN_48, sN_49, sN_50, sN_51, sN_52, sN_53, sN_54, sN_55, sN_56, sN_57, sN_58, sN_59, sN_60, sN_61, sN_62, sN_63, sN_64, sN_65, sN_66, sN_67, sN_68, sN_69, sN_70, sN_71, sN_72, sN_73, sN_74, sN_75, sN_76, sN_77, sN_78, sN_79, sN_80, sR_0_34, sR_0_38, sR_1_34, sR_1_38, sR_64_20, sR_64_22, sR_128_25, sR_128_28, sR_194_17, sR_195_17, sR_196_17, sR_197_17, sR_258_30, sR_258_32, sR_258_41, sR_384_43, sR_448_18, sR_512_27, sR_513_27, sR_514_27, sR_515_27, sR_516_27, sR_576_16, sR_577_16, sR_578_16, sR_579_16, sR_580_16, sR_581_16, sR_582_16, sR_583_16, sR_584_16, sR_641_47, sR_643_47, sR_645_47, sR_646_47, sR_647_47, sR_648_47, sR_649_47, sR_650_47, sR_651_47, sR_652_47, sR_653_47, sR_654_47, sR_655_47, sR_656_47, sR_657_47, sR_658_47, sR_659_47, sR_661_47, sR_662_47, sR_663_47, sR_664_47, sR_665_47, sR_669_47, sR_670_47, sR_671_47, sR_672_47, sR_673_47, sR_674_47, sR_676_47, sR_677_47, sR_679_47, sR_680_47, sR_681_47, SH_I, SH_A, SH_G, SH_C, hS, c1, f1, a1, Option.getD_some, ne_eq, reduceCtorEq, not_false_eq_true, not_true_eq_false, Option.bind_some, Option.toList_none, Option.toList_some, List.nil_append, List.cons_append, List.append_nil, ↓reduceIte, and_self, true_and, and_true, false_and, and_false, or_true, true_or, or_false, false_or, Nat.reduceEqDiff, Nat.reduceAdd, Int32.reduceMul, Int32.reduceAdd, Int32.reduceSub, Int32.reduceToNatClampNeg, Int32.reduceOfNat, Int32.reduceLT, Int32.reduceLE, va_rf]
  · have i : (if 1 ≤ x ∧ x ≤ 3 then (1 : Int32) else 0) = 0 := if_neg h
    rw [i] at c1
    refine SimR.read hR0 (a := -1) (a' := -1) ?_ ?_ (fun _ => rfl)
    · by_cases n1 : x < 1
      · simp (decide := true) only [k12_0, k12_5, k12_10, k12_12, k12_19, k12_26, k12_29, n1, Option.getD_some, ne_eq, reduceCtorEq, not_false_eq_true, not_true_eq_false, Option.bind_some, Option.toList_none, Option.toList_some, List.nil_append, List.cons_append, List.append_nil, ↓reduceIte, and_self, true_and, and_true, false_and, and_false, or_true, true_or, or_false, false_or, Nat.reduceEqDiff, Nat.reduceAdd, Int32.reduceMul, Int32.reduceAdd, Int32.reduceSub, Int32.reduceToNatClampNeg, Int32.reduceOfNat, Int32.reduceLT, Int32.reduceLE, va_rf]
      · have n3 : ¬ x ≤ 3 := fun z => h ⟨Int32.not_lt.mp n1, z⟩
        simp (decide := true) only [k12_0, k12_5, k12_10, k12_12, k12_19, k12_26, k12_29, n1, n3, Option.getD_some, ne_eq, reduceCtorEq, not_false_eq_true, not_true_eq_false, Option.bind_some, Option.toList_none, Option.toList_some, List.nil_append, List.cons_append, List.append_nil, ↓reduceIte, and_self, true_and, and_true, false_and, and_false, or_true, true_or, or_false, false_or, Nat.reduceEqDiff, Nat.reduceAdd, Int32.reduceMul, Int32.reduceAdd, Int32.reduceSub, Int32.reduceToNatClampNeg, Int32.reduceOfNat, Int32.reduceLT, Int32.reduceLE, va_rf]
    · simp (decide := true) only [k122_0, k122_9, k122_12, k122_14, k122_21, k122_28, k122_31, c1, Option.getD_some, ne_eq, reduceCtorEq, not_false_eq_true, not_true_eq_false, Option.bind_some, Option.toList_none, Option.toList_some, List.nil_append, List.cons_append, List.append_nil, ↓reduceIte, and_self, true_and, and_true, false_and, and_false, or_true, true_or, or_false, false_or, Nat.reduceEqDiff, Nat.reduceAdd, Int32.reduceMul, Int32.reduceAdd, Int32.reduceSub, Int32.reduceToNatClampNeg, Int32.reduceOfNat, Int32.reduceLT, Int32.reduceLE, va_rf]
theorem sim_drop (hR : REL s cr cp qr qp σ) : SimR d 119 197 [] [] true σ := by
  have hR0 := hR
  obtain ⟨hS, hx, hs, hC, hM⟩ := hR
  have hl2 := hs.p16
  by_cases z : s.ps.length = 0
  · have e1 : nI s.ps.length = 0 := by rw [z]; rfl
    have e2 := hC.np
    have e3 := hM.np
    refine SimR.read hR0 (a := -4) (a' := -4) ?_ ?_ (fun _ => rfl)
    · rw [k119_0 (sT_16 hS), e2, if_neg (fun w => w e1), k119_7]
    · rw [k197_0 (sT_47 hS), e3, if_neg (fun w => w e1), k197_7]
  · have e1 : ¬ nI s.ps.length = 0 := by rw [show (0 : Int32) = nI 0 from rfl, n31eq (by omega) (by decide)]; exact z
    have en : nI s.ps.length - 1 = nI (s.ps.length - 1) := by rw [show (1 : Int32) = nI 1 from rfl, nsub (by omega)]
    let s' : AS := (s.W, s.len, s.b, s.rs, s.ps.take (s.ps.length - 1), s.ns, s.tl, s.ap)
    have el : s'.ps.length = s.ps.length - 1 := by show (s.ps.take (s.ps.length - 1)).length = _; rw [List.length_take]; omega
    have gd : ∀ i, i < s'.ps.length → s'.ps.getD i [] = s.ps.getD i [] := by
      intro i hi
      show (s.ps.take (s.ps.length - 1)).getD i [] = _
      rw [List.getD_eq_getElem?_getD, List.getD_eq_getElem?_getD, List.getElem?_take_of_lt (by omega)]
    have hS1 : SH (jsI σ 586 16 (nI (s.ps.length - 1))) := by rw [SH_I]; exact hS
    have sm : sameM σ (jsI σ 586 16 (nI (s.ps.length - 1))) := (i16FR 586 _).sm (fun a h1 h2 => by simp; omega)
    have hM1 := hM.sm sm
    have hC1 : CX s' cr cp qr qp (jsI σ 586 16 (nI (s.ps.length - 1))) := hC.fr (i16FR 586 _) (by decide) (by rw [zI_I, if_neg (by decide)]; exact hC.nr) (by rw [zI_I, if_pos ⟨rfl, rfl⟩, el]) (by rw [zI_I, if_neg (by decide)]; exact hC.w) (by rw [zI_I, if_neg (by decide)]; exact hC.ap) rfl rfl rfl rfl hC.lr.1 (by have := hC.lp.1; omega) hC.rs (fun i hi => by rw [gd i hi]; exact hC.ps i (by omega))
    have hM2 : CM s' (jsI (jsI σ 586 16 (nI (s.ps.length - 1))) 660 47 (nI (s.ps.length - 1))) := hM1.I47 (by rw [zI_I, if_neg (by decide)]; exact hM1.nr) (by rw [zI_I, if_pos ⟨rfl, rfl⟩, el]) (by rw [zI_I, if_neg (by decide)]; exact hM1.w) (by rw [zI_I, if_neg (by decide)]; exact hM1.ap) (by rw [TM_I (by decide)]; exact hM1.tm) (by rw [zI_I, if_neg (by decide)]; exact hM1.ns) hM1.tl hM1.rs (fun i hi => by rw [gd i hi]; exact hM1.ps i (by omega))
    refine ⟨nI (s.ps.length - 1), nI (s.ps.length - 1), jsI σ 586 16 (nI (s.ps.length - 1)), jsI (jsI σ 586 16 (nI (s.ps.length - 1))) 660 47 (nI (s.ps.length - 1)), s', cr, cp, qr, qp, ?_, ?_, ⟨by rw [SH_I]; exact hS1, hx, ⟨hs.w, hs.l, hs.byy, hs.r24, by omega, hs.fr, fun p hp => hs.fp p (List.mem_of_mem_take hp), hs.n144⟩, CX.sc (by exact hx) hC1 (i47sc 660 _), hM2⟩, by show jnx σ ≤ _; omega, by show jsl σ ≤ _; omega, low.trans ((i16FR 586 _).low (by simp)) ((i47sc 660 _).low hx), fun _ => rfl⟩
    · rw [k119_0 (sT_16 hS), hC.np, if_pos e1, k119_10 (sT_16 hS), hC.np, en, zI_I, if_pos ⟨rfl, rfl⟩]
    · rw [k197_0 (sT_47 hS1), hM1.np, if_pos e1, k197_10 (sT_47 hS1), hM1.np, en, zI_I, if_pos ⟨rfl, rfl⟩]
end SM4
