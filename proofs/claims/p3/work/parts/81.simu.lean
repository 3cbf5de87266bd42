/-! calls on the tape: end, feed -/
theorem CX.tape {s s' : AS} {cr cp : Nat} {qr qp : Nat → Nat} {σ σ' : jS} {l : List Nat} (h : CX s cr cp qr qp σ) (f : FR l σ σ') (hl : ∀ x, x ∈ l → x = 18 ∨ x = 19) (e0 : s'.W = s.W) (e1 : s'.rs = s.rs) (e2 : s'.ps = s.ps) (e3 : s'.ns = s.ns) (e4 : s'.tl = s.tl) (e5 : s'.ap = s.ap) (htx : TX σ' s'.len s'.b) : CX s' cr cp qr qp σ' := by
  have nl : ∀ x, x ≠ 18 → x ≠ 19 → x ∉ l := fun x h1 h2 z => (hl x z).elim h1 h2
  have big : ∀ x, 81 ≤ x → x ∉ l := fun x hx => nl x (by omega) (by omega)
  have dj := h.dj
  have i16 := (f.2 16 (nl 16 (by decide) (by decide))).1
  refine ⟨f.st (nl 1 (by decide) (by decide)) (nl 2 (by decide) (by decide)) h.st, by rw [i16, e1]; exact h.nr, by rw [i16, e2]; exact h.np, by rw [i16, e0]; exact h.w, by rw [i16, e5]; exact h.ap, htx, ?_, ?_, ?_, ?_, ?_, by rw [e1]; exact h.lr, by rw [e2]; exact h.lp, fun i hi => ?_, fun i h1 h2 => by rw [f.1.2.2.2.1.1]; exact h.gr0 i h1 h2, fun i hi => ?_, fun i h1 h2 => by rw [f.1.2.2.2.1.1]; exact h.gp0 i h1 h2, by rw [f.1.2.2.2.2.1]; exact dj, fun i hi => ?_, fun i hi => ?_⟩
  · rw [e3, (f.2 43 (nl 43 (by decide) (by decide))).1]; exact h.ns
  · intro k w hk hw'; rw [e3] at hk; rw [e4, (f.2 44 (nl 44 (by decide) (by decide))).2]; exact h.tl k w hk hw'
  · obtain ⟨n, q⟩ := h.w1; exact ⟨n, q.frame f (nl 30 (by decide) (by decide))⟩
  · obtain ⟨n, q⟩ := h.w2; exact ⟨n, q.frame f (nl 32 (by decide) (by decide))⟩
  · obtain ⟨n, q⟩ := h.w3; exact ⟨n, q.frame f (nl 41 (by decide) (by decide))⟩
  · obtain ⟨g1, g2, g3, g4⟩ := h.gr i hi
    have b := dj.r i hi
    exact ⟨by rw [f.1.2.2.2.1.1]; exact g1, g2.frame f, g3.frame f (big _ (by omega)), g4.frame f (big _ (by omega))⟩
  · obtain ⟨g1, g2⟩ := h.gp i hi
    have b := dj.p i hi
    exact ⟨by rw [f.1.2.2.2.1.1]; exact g1, RS.frame g2 f (big _ (by omega))⟩
  · rw [e1] at hi
    have b := dj.r i (by have := h.lr.1; omega)
    rw [e0, e1]
    exact (h.rs i hi).fr f (fun x h1 h2 => big x (by omega))
  · rw [e2] at hi
    have b := dj.p i (by have := h.lp.1; omega)
    rw [e2]
    exact (h.ps i hi).frame f (big _ (by omega)) (big _ (by omega))
/-- a byte that the class keeps, as its tape tells it -/
theorem byte_and (w : Int32) : ((Int32.toInt8 ((Int32.toInt8 w).toInt32)).toInt32) &&& 255 = w &&& 255 := by
  rw [Int8.toInt8_toInt32]
  apply Int32.toBitVec_inj.mp
  rw [Int32.toBitVec_and, Int32.toBitVec_and]
  apply BitVec.eq_of_getLsbD_eq
  intro i hi
  rw [BitVec.getLsbD_and, BitVec.getLsbD_and]
  by_cases h : i < 8
  · have e : (w.toInt8.toInt32).toBitVec.getLsbD i = w.toBitVec.getLsbD i := by
      rw [Int8.toBitVec_toInt32, Int32.toBitVec_toInt8, BitVec.getLsbD_signExtend, if_pos h, BitVec.getLsbD_signExtend, if_pos hi]
      simp [h, hi]
    rw [e]
  · have e : ∀ i, i < 32 → ¬ i < 8 → (255 : Int32).toBitVec.getLsbD i = false := by decide
    rw [e i hi h, Bool.and_false, Bool.and_false]
theorem byte_rng (w : Int32) : 0 ≤ (w &&& 255).toInt ∧ (w &&& 255).toInt ≤ 255 := by
  have q : (w &&& 255).toBitVec.toNat ≤ 255 := by
    rw [Int32.toBitVec_and, BitVec.toNat_and]
    exact Nat.and_le_right
  have e := tn_nI (v := w &&& 255) rfl
  rw [e, nI_toInt (by omega)]
  omega
section SM5
variable {d : Nat} {σ : jS} {s : AS} {cr cp : Nat} {qr qp : Nat → Nat}
theorem sim_end (hR : REL s cr cp qr qp σ) (x : Int32) : SimR (d + 1) 16 126 [some (.int x), none] [some (.int x), none] true σ := by
  have hR0 := hR
  obtain ⟨hS, hx, hs, hC, hM⟩ := hR
  have hl := hs.l
  have e1 := hC.tx.1
  have f1 := hM.tm.1
  have c1 := cin0 (d := d) (σ := σ) (x := x) (y := nI s.len)
  by_cases h : 0 ≤ x ∧ x ≤ nI s.len
  · have i : (if 0 ≤ x ∧ x ≤ nI s.len then (1 : Int32) else 0) = 1 := if_pos h
    have n0 : ¬ x < 0 := Int32.not_lt.mpr h.1
    obtain ⟨n, hn, en⟩ : ∃ n, n ≤ s.len ∧ x = nI n := by
      have q := i32_nat (c := x) (n := s.len + 1) (by omega) n0 (by
        rw [Int32.not_le]
        refine Int32.lt_of_le_of_lt h.2 ?_
        rw [n31 (by omega) (by omega)]; omega)
      exact ⟨x.toNatClampNeg, by omega, q.1⟩
    let s' : AS := (s.W, n, s.b, s.rs, s.ps, s.ns, s.tl, s.ap)
    have F : FR [18] σ (jsI σ 449 18 x) := (FR.refl _ σ).I (by decide)
    have hM1 := hM.sm (F.sm (fun a h1 h2 => by simp; omega))
    have hC1 : CX s' cr cp qr qp (jsI σ 449 18 x) := hC.tape F (by simp) rfl rfl rfl rfl rfl rfl ⟨by rw [zI_I, if_pos ⟨rfl, rfl⟩]; exact en, by show n ≤ 400; omega, fun i hi => by rw [zI_A]; exact hC.tx.2.2 i (by have : i < n := hi; omega)⟩
    have hM2 : CM s' (jsI (jsI σ 449 18 x) 642 47 x) := hM1.I47 (by rw [zI_I, if_neg (by decide)]; exact hM1.nr) (by rw [zI_I, if_neg (by decide)]; exact hM1.np) (by rw [zI_I, if_neg (by decide)]; exact hM1.w) (by rw [zI_I, if_neg (by decide)]; exact hM1.ap) ⟨by rw [zI_I, if_pos ⟨rfl, rfl⟩]; exact en, by show n ≤ 400; omega, fun i hi => by rw [zI_A]; exact hM1.tm.2.2 i (by have : i < n := hi; omega)⟩ (by rw [zI_I, if_neg (by decide)]; exact hM1.ns) hM1.tl hM1.rs hM1.ps
    have hS1 : SH (jsI σ 449 18 x) := by rw [SH_I]; exact hS
    refine ⟨nI s.len, nI s.len, jsI σ 449 18 x, jsI (jsI σ 449 18 x) 642 47 x, s', cr, cp, qr, qp, ?_, ?_, ⟨by rw [SH_I]; exact hS1, hx, ⟨hs.w, by show n ≤ 400; omega, fun i hi => hs.byy i (by have : i < n := hi; omega), hs.r24, hs.p16, hs.fr, hs.fp, hs.n144⟩, CX.sc (by exact hx) hC1 (i47sc 642 x), hM2⟩, by show jnx σ ≤ _; omega, by show jsl σ ≤ _; omega, low.trans (F.low (by simp)) ((i47sc 642 x).low hx), fun _ => rfl⟩
    · have l1 := h.2
      simp (decide := true) only [k16_0, k16_4, k16_15, k16_17, sT_1, sT_2, sT_3, sT_16, sT_17, sT_18, sT_19, sT_20, sT_21, sT_22, sT_23, sT_24, sT_25, sT_26, sT_27, sT_28, sT_29, sT_30, sT_31, sT_32, sT_33, sT_34, sT_35, sT_36, sT_37, sT_38, sT_39, sT_40, sT_41, sT_42, sT_43, sT_44, sT_45, sT_46, sT_47, sT_48, sT_49, sT_50, sT_51, sT_52, sT_53, sT_54, sT_55, sT_56, sT_57, sT_58, sT_59, sT_60, sT_61, sT_62, sT_63, sT_64, sT_65, sT_66, sT_67, sT_68, sT_69, sT_70, sT_71, sT_72, sT_73, sT_74, sT_75, sT_76, sT_77, sT_78, sT_79, sT_80, sN_1, sN_2, sN_19, sN_21, sN_23, sN_24, sN_26, sN_29, sN_31, sN_33, sN_35, sN_36, sN_37, sN_39, sN_40, sN_42, sN_44, sN_45, sN_46, sN_48, sN_49, sN_50, sN_51, sN_52, sN_53, sN_54, sN_55, sN_56, sN_57, sN_58, sN_59, sN_60, sN_61, sN_62, sN_63, sN_64, sN_65, sN_66, sN_67, sN_68, sN_69, sN_70, sN_71, sN_72, sN_73, sN_74, sN_75, sN_76, sN_77, sN_78, sN_79, sN_80, sR_0_34, sR_0_38, sR_1_34, sR_1_38, sR_64_20, sR_64_22, sR_128_25, sR_128_28, sR_194_17, sR_195_17, sR_196_17, sR_197_17, sR_258_30, sR_258_32, sR_258_41, sR_384_43, sR_448_18, sR_512_27, sR_513_27, sR_514_27, sR_515_27, sR_516_27, sR_576_16, sR_577_16, sR_578_16, sR_579_16, sR_580_16, sR_581_16, sR_582_16, sR_583_16, sR_584_16, sR_641_47, sR_643_47, sR_645_47, sR_646_47, sR_647_47, sR_648_47, sR_649_47, sR_650_47, sR_651_47, sR_652_47, sR_653_47, sR_654_47, sR_655_47, sR_656_47, sR_657_47, sR_658_47, sR_659_47, sR_661_47, sR_662_47, sR_663_47, sR_664_47, sR_665_47, sR_669_47, sR_670_47, sR_671_47, sR_672_47, sR_673_47, sR_674_47, sR_676_47, sR_677_47, sR_679_47, sR_680_47, sR_681_47, SH_I, SH_A, SH_G, SH_C, hS, e1, n0, l1, Option.getD_some, ne_eq, reduceCtorEq, not_false_eq_true, not_true_eq_false, Option.bind_some, Option.toList_none, Option.toList_some, List.nil_append, List.cons_append, List.append_nil, ↓reduceIte, and_self, true_and, and_true, false_and, and_false, or_true, true_or, or_false, false_or, Nat.reduceEqDiff, Nat.reduceAdd, Int32.reduceMul, Int32.reduceAdd, Int32.reduceSub, Int32.reduceToNatClampNeg, Int32.reduceOfNat, Int32.reduceLT, Int32.reduceLE, va_rf]
    · have f1' := hM1.tm.1
      have c1' := cin0 (d := d) (σ := jsI σ 449 18 x) (x := x) (y := nI s.len)
      rw [i] at c1'
      rw [k126_0 (sT_47 hS1), f1', c1']
      simp only [Option.bind_some, Option.toList_some, List.cons_append, List.nil_append]
      rw [k126_11, if_pos (by decide), k126_16 (sT_47 hS1), f1']
  · have i : (if 0 ≤ x ∧ x ≤ nI s.len then (1 : Int32) else 0) = 0 := if_neg h
    rw [i] at c1
    refine SimR.read hR0 (a := -1) (a' := -1) ?_ ?_ (fun _ => rfl)
    · by_cases n0 : x < 0
      · simp (decide := true) only [k16_0, k16_4, k16_15, k16_17, n0, Option.getD_some, ne_eq, reduceCtorEq, not_false_eq_true, not_true_eq_false, Option.bind_some, Option.toList_none, Option.toList_some, List.nil_append, List.cons_append, List.append_nil, ↓reduceIte, and_self, true_and, and_true, false_and, and_false, or_true, true_or, or_false, false_or, Nat.reduceEqDiff, Nat.reduceAdd, Int32.reduceMul, Int32.reduceAdd, Int32.reduceSub, Int32.reduceToNatClampNeg, Int32.reduceOfNat, Int32.reduceLT, Int32.reduceLE, va_rf]
      · have n1 : ¬ x ≤ nI s.len := fun z => h ⟨Int32.not_lt.mp n0, z⟩
        simp (decide := true) only [k16_0, k16_4, k16_15, k16_17, sT_1, sT_2, sT_3, sT_16, sT_17, sT_18, sT_19, sT_20, sT_21, sT_22, sT_23, sT_24, sT_25, sT_26, sT_27, sT_28, sT_29, sT_30, sT_31, sT_32, sT_33, sT_34, sT_35, sT_36, sT_37, sT_38, sT_39, sT_40, sT_41, sT_42, sT_43, sT_44, sT_45, sT_46, sT_47, sT_48, sT_49, sT_50, sT_51, sT_52, sT_53, sT_54, sT_55, sT_56, sT_57, sT_58, sT_59, sT_60, sT_61, sT_62, sT_63, sT_64, sT_65, sT_66, sT_67, sT_68, sT_69, sT_70, sT_71, sT_72, sT_73, sT_74, sT_75, sT_76, sT_77, sT_78, sT_79, sT_80, sN_1, sN_2, sN_19, sN_21, sN_23, sN_24, sN_26, sN_29, sN_31, sN_33, sN_35, sN_36, sN_37, sN_39, sN_40, sN_42, sN_44, sN_45, sN_46, sN_48, sN_49, sN_50, sN_51, sN_52, sN_53, sN_54, sN_55, sN_56, sN_57, sN_58, sN_59, sN_60, sN_61, sN_62, sN_63, sN_64, sN_65, sN_66, sN_67, sN_68, sN_69, sN_70, sN_71, sN_72, sN_73, sN_74, sN_75, sN_76, sN_77, sN_78, sN_79, sN_80, sR_0_34, sR_0_38, sR_1_34, sR_1_38, sR_64_20, sR_64_22, sR_128_25, sR_128_28, sR_194_17, sR_195_17, sR_196_17, sR_197_17, sR_258_30, sR_258_32, sR_258_41, sR_384_43, sR_448_18, sR_512_27, sR_513_27, sR_514_27, sR_515_27, sR_516_27, sR_576_16, sR_577_16, sR_578_16, sR_579_16, sR_580_16, sR_581_16, sR_582_16, sR_583_16, sR_584_16, sR_641_47, sR_643_47, sR_645_47, sR_646_47, sR_647_47, sR_648_47, sR_649_47, sR_650_47, sR_651_47, sR_652_47, sR_653_47, sR_654_47, sR_655_47, sR_656_47, sR_657_47, sR_658_47, sR_659_47, sR_661_47, sR_662_47, sR_663_47, sR_664_47, sR_665_47, sR_669_47, sR_670_47, sR_671_47, sR_672_47, sR_673_47, sR_674_47, sR_676_47, sR_677_47, sR_679_47, sR_680_47, sR_681_47, SH_I, SH_A, SH_G, SH_C, hS, e1, n0, n1, Option.getD_some, ne_eq, reduceCtorEq, not_false_eq_true, not_true_eq_false, Option.bind_some, Option.toList_none, Option.toList_some, List.nil_append, List.cons_append, List.append_nil, ↓reduceIte, and_self, true_and, and_true, false_and, and_false, or_true, true_or, or_false, false_or, Nat.reduceEqDiff, Nat.reduceAdd, Int32.reduceMul, Int32.reduceAdd, Int32.reduceSub, Int32.reduceToNatClampNeg, Int32.reduceOfNat, Int32.reduceLT, Int32.reduceLE, va_rf]
    · simp (decide := true) only [k126_0, k126_11, k126_14, k126_16, sT_1, sT_2, sT_3, sT_16, sT_17, sT_18, sT_19, sT_20, sT_21, sT_22, sT_23, sT_24, sT_25, sT_26, sT_27, sT_28, sT_29, sT_30, sT_31, sT_32, sT_33, sT_34, sT_35, sT_36, sT_37, sT_38, sT_39, sT_40, sT_41, sT_42, sT_43, sT_44, sT_45, sT_46, sT_47, sT_48, sT_49, sT_50, sT_51, sT_52, sT_53, sT_54, sT_55, sT_56, sT_57, sT_58, sT_59, sT_60, sT_61, sT_62, sT_63, sT_64, sT_65, sT_66, sT_67, sT_68, sT_69, sT_70, sT_71, sT_72, sT_73, sT_74, sT_75, sT_76, sT_77, sT_78, sT_79, sT_80, sN_1, sN_2, sN_19, sN_21, sN_23, sN_24, sN_26, sN_29, sN_31, sN_33, sN_35, sN_36, sN_37, sN_39, sN_40, sN_42, sN_44, sN_45, sN_46, sN_48, sN_49, sN_50, sN_51, sN_52, sN_53, sN_54, sN_55, sN_56, sN_57, sN_58, sN_59, sN_60, sN_61, sN_62, sN_63, sN_64, sN_65, sN_66, sN_67, sN_68, sN_69, sN_70, sN_71, sN_72, sN_73, sN_74, sN_75, sN_76, sN_77, sN_78, sN_79, sN_80, sR_0_34, sR_0_38, sR_1_34, sR_1_38, sR_64_20, sR_64_22, sR_128_25, sR_128_28, sR_194_17, sR_195_17, sR_196_17, sR_197_17, sR_258_30, sR_258_32, sR_258_41, sR_384_43, sR_448_18, sR_512_27, sR_513_27, sR_514_27, sR_515_27, sR_516_27, sR_576_16, sR_577_16, sR_578_16, sR_579_16, sR_580_16, sR_581_16, sR_582_16, sR_583_16, sR_584_16, sR_641_47, sR_643_47, sR_645_47, sR_646_47, sR_647_47, sR_648_47, sR_649_47, sR_650_47, sR_651_47, sR_652_47, sR_653_47, sR_654_47, sR_655_47, sR_656_47, sR_657_47, sR_658_47, sR_659_47, sR_661_47, sR_662_47, sR_663_47, sR_664_47, sR_665_47, sR_669_47, sR_670_47, sR_671_47, sR_672_47, sR_673_47, sR_674_47, sR_676_47, sR_677_47, sR_679_47, sR_680_47, sR_681_47, SH_I, SH_A, SH_G, SH_C, hS, f1, c1, Option.getD_some, ne_eq, reduceCtorEq, not_false_eq_true, not_true_eq_false, Option.bind_some, Option.toList_none, Option.toList_some, List.nil_append, List.cons_append, List.append_nil, ↓reduceIte, and_self, true_and, and_true, false_and, and_false, or_true, true_or, or_false, false_or, Nat.reduceEqDiff, Nat.reduceAdd, Int32.reduceMul, Int32.reduceAdd, Int32.reduceSub, Int32.reduceToNatClampNeg, Int32.reduceOfNat, Int32.reduceLT, Int32.reduceLE, va_rf]
/-- four bytes more -/
def by4 (b : Nat → Int32) (n : Nat) (v : Int32) : Nat → Int32 := up6 (up6 (up6 (up6 b n ((v >>> (24 &&& 31)) &&& 255)) (n + 1) ((v >>> (16 &&& 31)) &&& 255)) (n + 2) ((v >>> (8 &&& 31)) &&& 255)) (n + 3) ((v >>> (0 &&& 31)) &&& 255)
theorem TX.put {len : Nat} {b : Nat → Int32} (h : TX σ len b) (hl : len + 1 ≤ 400) (w : Int32) : TX (jsI (jsA σ 19 len ((Int32.toInt8 ((Int32.toInt8 w).toInt32)).toInt32)) 449 18 (nI (len + 1))) (len + 1) (up6 b len (w &&& 255)) := by
  refine ⟨by rw [zI_I, if_pos ⟨rfl, rfl⟩], hl, fun i hi => ?_⟩
  rw [zI_A, zA_A]
  unfold up6
  by_cases e : i = len
  · rw [if_pos ⟨rfl, e⟩, if_pos e]; exact byte_and w
  · rw [if_neg (fun z => e z.2), if_neg e]; exact h.2.2 i (by omega)
theorem TM.put {len : Nat} {b : Nat → Int32} (h : TM σ len b) (hl : len + 1 ≤ 400) (w : Int32) : TM (jsI (jsA σ 48 len (w &&& 255)) 642 47 (nI (len + 1))) (len + 1) (up6 b len (w &&& 255)) := by
  refine ⟨by rw [zI_I, if_pos ⟨rfl, rfl⟩], hl, fun i hi => ?_⟩
  rw [zI_A, zA_A]
  unfold up6
  by_cases e : i = len
  · rw [if_pos ⟨rfl, e⟩, if_pos e]
  · rw [if_neg (fun z => e z.2), if_neg e]; exact h.2.2 i (by omega)
theorem c15 {len : Nat} {b : Nat → Int32} (hS : SH σ) (hT : TX σ len b) (hl : len + 4 ≤ 400) (v : Int32) : ∃ σ', jx d 15 0 [some (.ref 18), some (.int v), none] [] σ = some (none, σ') ∧ FR [18, 19] σ σ' ∧ TX σ' (len + 4) (by4 b len v) := by
  have rg : ∀ {υ : jS}, SH υ → (jR υ 448 18).getD 0 = 19 := fun h => by rw [sR_448_18 h]; rfl
  have rn : ∀ {υ : jS}, SH υ → jR υ 448 18 ≠ none := fun h => by rw [sR_448_18 h]; exact fun z => nomatch z
  have step : ∀ {υ : jS} {n : Nat} {c : Nat → Int32} (x2 : Int32), SH υ → TX υ n c → n + 1 ≤ 400 → ¬ x2 < 0 → jx d 15 3 [some (.ref 18), some (.int v), some (.int x2)] [] υ = jx d 15 3 [some (.ref 18), some (.int v), some (.int (x2 + (-8)))] [] (jsI (jsA υ 19 n ((Int32.toInt8 ((Int32.toInt8 (v >>> (x2 &&& 31))).toInt32)).toInt32)) 449 18 (nI (n + 1))) := by
    intro υ n c x2 h hT hn hx
    have g : ¬ Int32.ofNat 400 ≤ nI n := nI_ge (by omega) (by omega)
    rw [k15_3, if_neg hx, k15_7 (sT_18 h) (rn h) (by rw [rg h, sT_19 h]; decide), rg h, sN_19 h, hT.1, if_neg g, k15_19R (sT_18 h) (rn h) (by rw [rg h]; exact sT_19 h) (by rw [rg h, sN_19 h, hT.1]; exact jin_n (by omega) (by decide)), rg h, hT.1, nI_clamp (by omega), ← nI_succ]
  have S : ∀ {υ : jS} {n : Nat} {w x : Int32}, SH υ → SH (jsI (jsA υ 19 n w) 449 18 x) := fun h => by rw [SH_I, SH_A]; exact h
  have T1 := hT.put (by omega) (v >>> (24 &&& 31))
  have T2 := T1.put (by omega) (v >>> (16 &&& 31))
  have T3 := T2.put (by omega) (v >>> (8 &&& 31))
  have T4 := T3.put (by omega) (v >>> (0 &&& 31))
  refine ⟨_, ?_, ?_, T4⟩
  · have e16 : (24 : Int32) + -8 = 16 := by decide
    have e8 : (16 : Int32) + -8 = 8 := by decide
    have e0 : (8 : Int32) + -8 = 0 := by decide
    have em : (0 : Int32) + -8 < 0 := by decide
    rw [k15_0, step 24 hS hT (by omega) (by decide), e16, step 16 (S hS) T1 (by omega) (by decide), e8, step 8 (S (S hS)) T2 (by omega) (by decide), e0, step 0 (S (S (S hS))) T3 (by omega) (by decide), k15_3, if_pos em, k15_48]
  · exact ((((((((FR.refl _ σ).A (q := 19) (by decide)).I (q := 18) (by decide)).A (q := 19) (by decide)).I (q := 18) (by decide)).A (q := 19) (by decide)).I (q := 18) (by decide)).A (q := 19) (by decide)).I (q := 18) (by decide)
theorem c125 {len : Nat} {b : Nat → Int32} (hS : SH σ) (hT : TM σ len b) (hl : len + 4 ≤ 400) (v : Int32) : ∃ σ', jx d 125 0 [some (.ref 47), some (.int v), none] [] σ = some (none, σ') ∧ FR [47, 48] σ σ' ∧ (∀ g, g ≠ 642 → jI σ' g 47 = jI σ g 47) ∧ TM σ' (len + 4) (by4 b len v) := by
  have rg : ∀ {υ : jS}, SH υ → (jR υ 641 47).getD 0 = 48 := fun h => by rw [sR_641_47 h]; rfl
  have rn : ∀ {υ : jS}, SH υ → jR υ 641 47 ≠ none := fun h => by rw [sR_641_47 h]; exact fun z => nomatch z
  have step : ∀ {υ : jS} {n : Nat} {c : Nat → Int32} (x2 : Int32), SH υ → TM υ n c → n + 1 ≤ 400 → ¬ x2 < 0 → jx d 125 3 [some (.ref 47), some (.int v), some (.int x2)] [] υ = jx d 125 3 [some (.ref 47), some (.int v), some (.int (x2 + (-8)))] [] (jsI (jsA υ 48 n ((v >>> (x2 &&& 31)) &&& 255)) 642 47 (nI (n + 1))) := by
    intro υ n c x2 h hT hn hx
    rw [k125_3, if_neg hx, k125_7 (sT_47 h) (rn h) (by rw [rg h]; exact sT_48 h) (by rw [rg h, sN_48 h, hT.1]; exact jin_n (by omega) (by decide)), rg h, hT.1, nI_clamp (by omega), ← nI_succ]
  have S : ∀ {υ : jS} {n : Nat} {w x : Int32}, SH υ → SH (jsI (jsA υ 48 n w) 642 47 x) := fun h => by rw [SH_I, SH_A]; exact h
  have T1 := hT.put (by omega) (v >>> (24 &&& 31))
  have T2 := T1.put (by omega) (v >>> (16 &&& 31))
  have T3 := T2.put (by omega) (v >>> (8 &&& 31))
  have T4 := T3.put (by omega) (v >>> (0 &&& 31))
  refine ⟨_, ?_, ?_, ?_, T4⟩
  · have e16 : (24 : Int32) + -8 = 16 := by decide
    have e8 : (16 : Int32) + -8 = 8 := by decide
    have e0 : (8 : Int32) + -8 = 0 := by decide
    have em : (0 : Int32) + -8 < 0 := by decide
    rw [k125_0, step 24 hS hT (by omega) (by decide), e16, step 16 (S hS) T1 (by omega) (by decide), e8, step 8 (S (S hS)) T2 (by omega) (by decide), e0, step 0 (S (S (S hS))) T3 (by omega) (by decide), k125_3, if_pos em, k125_39]
  · exact ((((((((FR.refl _ σ).A (q := 48) (by decide)).I (q := 47) (by decide)).A (q := 48) (by decide)).I (q := 47) (by decide)).A (q := 48) (by decide)).I (q := 47) (by decide)).A (q := 48) (by decide)).I (q := 47) (by decide)
  · intro g hg
    rw [zI_I, if_neg (fun w => hg w.1), zA_I, zI_I, if_neg (fun w => hg w.1), zA_I, zI_I, if_neg (fun w => hg w.1), zA_I, zI_I, if_neg (fun w => hg w.1), zA_I]
end SM5
