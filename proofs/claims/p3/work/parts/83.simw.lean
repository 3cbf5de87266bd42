/-! on, count -/
def scr2 : List Nat := [16, 17, 20, 21, 22, 23, 24, 26, 29, 30, 31, 32, 33, 35, 36, 37, 39, 40, 41, 42, 43, 44]
theorem CX.gen {s s' : AS} {cr cp : Nat} {qr qp : Nat → Nat} {σ σ' : jS} {l : List Nat} (h : CX s cr cp qr qp σ) (f : FR l σ σ') (hl : ∀ x, x ∈ l → x ∈ scr2 ∨ 81 ≤ x) (hnr : jI σ' 585 16 = nI s'.rs.length) (hnp : jI σ' 586 16 = nI s'.ps.length) (hw : jI σ' 587 16 = nI s'.W) (hap : jI σ' 589 16 = s'.ap) (e1 : s'.len = s.len) (e2 : s'.b = s.b) (hns : jI σ' 385 43 = nI s'.ns) (htl : ∀ k w, k < s'.ns → w < 3 → jA σ' 44 (3 * k + w) = s'.tl k w) (w1 : ∃ n, RW σ' 30 31 4 n) (w2 : ∃ n, RW σ' 32 33 4 n) (w3 : ∃ n, RW σ' 41 42 4 n) (l1 : s'.rs.length ≤ cr) (l2 : s'.ps.length ≤ cp) (hr : ∀ i, i < cr → SLr σ' (qr i)) (hp : ∀ i, i < cp → SLp σ' (qp i)) (hrs : ∀ i, i < s'.rs.length → CRr σ' s'.W (qr i) (s'.rs.getD i ar0)) (hps : ∀ i, i < s'.ps.length → RO σ' (qp i) (qp i + 1) 24 (s'.ps.getD i [])) : CX s' cr cp qr qp σ' := by
  have nl : ∀ x, x ∉ scr2 → x < 81 → x ∉ l := fun x hx h8 z => (hl x z).elim hx (by omega)
  refine ⟨f.st (nl 1 (by decide) (by decide)) (nl 2 (by decide) (by decide)) h.st, hnr, hnp, hw, hap, by rw [e1, e2]; exact f.tx (nl 18 (by decide) (by decide)) (nl 19 (by decide) (by decide)) h.tx, hns, htl, w1, w2, w3, ⟨l1, h.lr.2⟩, ⟨l2, h.lp.2⟩, fun i hi => ⟨by rw [f.1.2.2.2.1.1]; exact (h.gr i hi).1, hr i hi⟩, fun i h1 h2 => by rw [f.1.2.2.2.1.1]; exact h.gr0 i h1 h2, fun i hi => ⟨by rw [f.1.2.2.2.1.1]; exact (h.gp i hi).1, hp i hi⟩, fun i h1 h2 => by rw [f.1.2.2.2.1.1]; exact h.gp0 i h1 h2, by rw [f.1.2.2.2.2.1]; exact h.dj, hrs, hps⟩
theorem RO.slp {σ : jS} {q : Nat} {os : List (Nat → Int32)} (h : RO σ q (q + 1) 24 os) : SLp σ q := h.1.rs
theorem SLp.fr {σ σ' : jS} {l : List Nat} {q : Nat} (h : SLp σ q) (f : FR l σ σ') (hq : q ∉ l) : SLp σ' q := RS.frame h f hq
theorem SLr.fr {σ σ' : jS} {l : List Nat} {q : Nat} (h : SLr σ q) (f : FR l σ σ') (h1 : q + 1 ∉ l) (h3 : q + 3 ∉ l) : SLr σ' q := by
  obtain ⟨a, b, c⟩ := h
  exact ⟨a.frame f, b.frame f h1, c.frame f h3⟩
theorem set_rs {s : AS} {k : Nat} (h : k < s.rs.length) (a : AR) {i : Nat} : (s.rs.set k a).getD i ar0 = if i = k then a else s.rs.getD i ar0 := by
  rw [List.getD_eq_getElem?_getD, List.getD_eq_getElem?_getD, List.getElem?_set]
  by_cases e : i = k
  · subst e
    rw [if_pos rfl, if_pos rfl, if_pos h]
    rfl
  · rw [if_neg (fun z => e z.symm), if_neg e]
def cntS (rs : List AR) (v : Int32) : Int32 := rs.foldl (fun c a => if sndA a then c + 1 else c) v
theorem drop_rs {rs : List AR} {n : Nat} (h : n < rs.length) : rs.drop n = rs.getD n ar0 :: rs.drop (n + 1) := by
  rw [List.drop_eq_getElem_cons h, List.getD_eq_getElem?_getD, List.getElem?_eq_getElem h]
  rfl
section SM7
variable {d : Nat} {σ : jS} {s : AS} {cr cp : Nat} {qr qp : Nat → Nat}
theorem sim_on (hR : REL s cr cp qr qp σ) (x y : Int32) (hy : y = 0 ∨ y = 1) : SimR (d + 2) 80 161 [some (.int x), some (.int y), none, none] [some (.int x), some (.int y), none] true σ := by
  have hR0 := hR
  obtain ⟨hS, hx, hs, hC, hM⟩ := hR
  have hl := hs.r24
  by_cases h : inR x s.rs.length
  · obtain ⟨k, hk, ek⟩ := inR_nat (by omega) h
    have c1 := c81y (d := d + 1) hS hC hs hk
    have cr' := hC.rs k hk
    have mr := hM.rs k hk
    obtain ⟨a, ea⟩ : ∃ a, s.rs.getD k ar0 = a := ⟨_, rfl⟩
    have fr := hs.fr _ (mem_rs hk)
    rw [ea] at cr' mr fr
    have cr0 := cr'
    obtain ⟨⟨tp, hU, hbig, g1, g2, e4, e5, e6, e0, htp⟩, f7, f8, f9, f11, f12⟩ := cr'
    have bk := hC.dj.r k (by have := hC.lr.1; omega)
    have lrr := hC.lr.1
    have tq := hU.1
    let a' : AR := (a.nr, a.nm, a.hc, a.o1, a.o2, a.P, a.C, a.ch, decide (y = 1))
    let s' : AS := (s.W, s.len, s.b, s.rs.set k a', s.ps, s.ns, s.tl, s.ap)
    have yv : y = if a'.on = true then 1 else 0 := by
      show y = if decide (y = 1) = true then 1 else 0
      rcases hy with e | e <;> rw [e] <;> rfl
    have ya : y &&& 1 = y := by rcases hy with e | e <;> rw [e] <;> rfl
    have elen : s'.rs.length = s.rs.length := List.length_set
    have gd : ∀ i, s'.rs.getD i ar0 = if i = k then a' else s.rs.getD i ar0 := fun i => set_rs hk a'
    have F : FR [qr k] σ (jsI σ 332 (qr k) y) := (FR.refl _ σ).I (by simp) (by omega)
    have hS1 : SH (jsI σ 332 (qr k) y) := by rw [SH_I]; exact hS
    have hM1 := hM.sm (F.sm (fun b h1 h2 => by simp; omega))
    have o16 : 16 ∉ [qr k] := by simp; omega
    have sj : sndA a' ↔ sndA a := Iff.rfl
    have I : ∀ g, g ≠ 332 → jI (jsI σ 332 (qr k) y) g (qr k) = jI σ g (qr k) := fun g hg => by rw [zI_I, if_neg (fun w => hg w.1)]
    have hCk : CRr (jsI σ 332 (qr k) y) s.W (qr k) a' := by
      refine ⟨⟨tp, hU.frame F, hbig, g1.frame F (by simp) (by simp), g2.frame F (by simp) (by simp), by rw [I 324 (by decide)]; exact e4, by rw [I 325 (by decide)]; exact e5, by rw [I 326 (by decide)]; exact e6, by rw [I 330 (by decide)]; exact e0, fun j hj => by rw [zI_A]; exact htp j hj⟩, by rw [I 327 (by decide)]; exact f7, by rw [I 328 (by decide)]; exact f8, by rw [I 329 (by decide)]; exact f9, by rw [I 331 (by decide)]; exact f11, by rw [zI_I, if_pos ⟨rfl, rfl⟩]; exact yv⟩
    have out : ∀ i, i < cr → i ≠ k → ∀ z, qr i ≤ z → z < qr i + 7 → z ∉ [qr k] := fun i hi hik z h1 h2 => by
      have := hC.dj.rr i k hi (by omega) hik
      simp; omega
    have outp : ∀ i, i < cp → ∀ z, qp i ≤ z → z < qp i + 2 → z ∉ [qr k] := fun i hi z h1 h2 => by
      have := hC.dj.rp k i (by omega) hi
      simp; omega
    have hC1 : CX s' cr cp qr qp (jsI σ 332 (qr k) y) := by
      refine hC.gen F (fun z hz => by simp at hz; exact Or.inr (by omega)) (by rw [(F.2 16 o16).1, elen]; exact hC.nr) (by rw [(F.2 16 o16).1]; exact hC.np) (by rw [(F.2 16 o16).1]; exact hC.w) (by rw [(F.2 16 o16).1]; exact hC.ap) rfl rfl (by rw [(F.2 43 (by simp; omega)).1]; exact hC.ns) (fun j w hj hw => by rw [(F.2 44 (by simp; omega)).2]; exact hC.tl j w hj hw) ?_ ?_ ?_ (by rw [elen]; exact lrr) hC.lp.1 (fun i hi => ?_) (fun i hi => ?_) (fun i hi => ?_) (fun i hi => ?_)
      · obtain ⟨n, w⟩ := hC.w1; exact ⟨n, w.frame F (by simp; omega)⟩
      · obtain ⟨n, w⟩ := hC.w2; exact ⟨n, w.frame F (by simp; omega)⟩
      · obtain ⟨n, w⟩ := hC.w3; exact ⟨n, w.frame F (by simp; omega)⟩
      · by_cases e : i = k
        · subst e; exact (hC.gr i hi).2.fr F (by simp) (by simp)
        · exact (hC.gr i hi).2.fr F (out i hi e _ (by omega) (by omega)) (out i hi e _ (by omega) (by omega))
      · exact (hC.gp i hi).2.fr F (outp i hi _ (by omega) (by omega))
      · rw [elen] at hi
        rw [gd i]
        by_cases e : i = k
        · rw [if_pos e, e]; exact hCk
        · rw [if_neg e]; exact (hC.rs i hi).fr F (out i (by omega) e)
      · have hi' : i < s.ps.length := hi
        have := hC.lp.1
        exact (hC.ps i hi').frame F (outp i (by omega) _ (by omega) (by omega)) (outp i (by omega) _ (by omega) (by omega))
    have F2 : FR [63] (jsI σ 332 (qr k) y) (jsA (jsI σ 332 (qr k) y) 63 k y) := (FR.refl _ _).A (by simp)
    have hM2 : CM s' (jsA (jsI σ 332 (qr k) y) 63 k y) := by
      have z := fun a (ha : a ≠ 63) => (F2.2 a (by simpa using ha)).2
      refine ⟨fun j hj => by rw [z 70 (by decide)]; exact hM1.nv j hj, by rw [zA_I, elen]; exact hM1.nr, by rw [zA_I]; exact hM1.np, by rw [zA_I]; exact hM1.w, by rw [zA_I]; exact hM1.ap, ⟨by rw [zA_I]; exact hM1.tm.1, hM1.tm.2.1, fun j hj => by rw [z 48 (by decide)]; exact hM1.tm.2.2 j hj⟩, by rw [zA_I]; exact hM1.ns, fun j w hj hw => by rw [z (78 + w) (by omega)]; exact hM1.tl j w hj hw, fun i hi => ?_, fun i hi => ?_⟩
      · rw [elen] at hi
        rw [gd i]
        obtain ⟨⟨rg, m⟩, m1, m2, m3, m4⟩ := hM1.rs i hi
        have m' := m.frame F2 (fun a x y => by simp; omega)
        by_cases e : i = k
        · subst e
          rw [if_pos rfl]
          rw [ea] at m' m1 m2 m4
          exact ⟨⟨rg, m'⟩, by rw [z 60 (by decide)]; exact m1, by rw [z 61 (by decide)]; exact m2, by rw [zA_A, if_pos ⟨rfl, rfl⟩]; exact yv, by rw [z 64 (by decide)]; exact m4⟩
        · rw [if_neg e]
          exact ⟨⟨rg, m'⟩, by rw [z 60 (by decide)]; exact m1, by rw [z 61 (by decide)]; exact m2, by rw [zA_A, if_neg (fun w => e w.2)]; exact m3, by rw [z 64 (by decide)]; exact m4⟩
      · obtain ⟨p1, p2, p3⟩ := hM1.ps i hi
        exact ⟨by rw [z 65 (by decide)]; exact p1, p2, fun j w hj hw => by rw [z (66 + w) (by omega)]; exact p3 j w hj hw⟩
    have wf : WFs s' := ⟨hs.w, hs.l, hs.byy, by rw [elen]; exact hs.r24, hs.p16, fun b hb => by
      rcases List.mem_or_eq_of_mem_set hb with q | q
      · exact hs.fr b q
      · rw [q]; exact ⟨fr.nr4, fr.nm3, fr.f1, fr.f2, fr.z4, fr.l1, fr.l4, fr.m4, fr.p1, fr.pm, fr.cp, fr.oc⟩, hs.fp, hs.n144⟩
    have sc := F2.sc (fun a ha => by simp at ha; omega)
    rw [ek]
    refine ⟨if a.on = true then 1 else 0, if a.on = true then 1 else 0, jsI σ 332 (qr k) y, jsA (jsI σ 332 (qr k) y) 63 k y, s', cr, cp, qr, qp, ?_, ?_, ⟨by rw [SH_A]; exact hS1, hx, wf, CX.sc (by exact hx) hC1 sc, hM2⟩, by show jnx σ ≤ _; omega, by show jsl σ ≤ _; omega, low.trans (F.low (fun b hb => by simp at hb; omega)) (sc.low hx), fun _ => rfl⟩
    · have cb := c82 (d := d + 1) (σ := σ) (if a.on = true then 1 else 0) (by by_cases z : a.on = true; exact Or.inr (if_pos z); exact Or.inl (if_neg z))
      rw [k80_0 (sT_16 hS), c1]
      simp only [Option.bind_some, Option.toList_some, List.cons_append, List.nil_append]
      rw [k80_5R tq, f12, cb]
      simp only [Option.bind_some, Option.toList_some, List.cons_append, List.nil_append]
      rw [k80_19R tq hy]
    · have wfs : WFs s := hs
      have c2 := c162y (d := d) hS1 hM1 hs (x := nI k) (inR_k (by omega) hk)
      have m63 : jA (jsI σ 332 (qr k) y) 63 k = if a.on = true then 1 else 0 := by rw [zI_A]; exact mr.2.2.2.1
      have gk : jin 24 (nI k) := jin_n (by omega) (by decide)
      have qk : (nI k).toNatClampNeg = k := nI_clamp (by omega)
      have r8 : (jR (jsI σ 332 (qr k) y) 658 47).getD 0 = 63 := by rw [sR_658_47 hS1]; rfl
      have n8 : jR (jsI σ 332 (qr k) y) 658 47 ≠ none := by rw [sR_658_47 hS1]; exact fun z => nomatch z
      rw [k161_0 (sT_47 hS1), c2]
      simp only [Option.bind_some, Option.toList_some, List.cons_append, List.nil_append]
      rw [k161_5, if_pos (by decide), k161_10 (sT_47 hS1) n8 (by rw [r8]; exact Or.inr (sT_63 hS1)) (by rw [r8, sN_63 hS1]; exact gk), r8, qk, m63]
      by_cases z : a.on = true
      · rw [if_pos z, if_neg (by decide), k161_19N (sT_47 hS1) n8 (by rw [r8]; exact sT_63 hS1) (by rw [r8, sN_63 hS1]; exact gk), r8, qk, ya]
      · rw [if_neg z, if_pos rfl, k161_23N (sT_47 hS1) n8 (by rw [r8]; exact sT_63 hS1) (by rw [r8, sN_63 hS1]; exact gk), r8, qk, ya]
  · have c1 := c81n (d := d + 1) hS hC h
    have c2 := c162n (d := d) hS hM hs h
    refine SimR.read hR0 (a := -1) (a' := -1) ?_ ?_ (fun _ => rfl)
    · simp (decide := true) only [k80_0, k80_5R, k80_5N, k80_10, k80_12R, k80_19R, c1, sT_1, sT_2, sT_3, sT_16, sT_17, sT_18, sT_19, sT_20, sT_21, sT_22, sT_23, sT_24, sT_25, sT_26, sT_27, sT_28, sT_29, sT_30, sT_31, sT_32, sT_33, sT_34, sT_35, sT_36, sT_37, sT_38, sT_39, sT_40, sT_41, sT_42, sT_43, sT_44, sT_45, sT_46, sT_47, sT_48, sT_49, sT_50, sT_51, sT_52, sT_53, sT_54, sT_55, sT_56, sT_57, sT_58, sT_59, sT_60, sT_61, sT_62, sT_63, sT_64, sT_65, sT_66, sT_67, sT_68, sT_69, sT_70, sT_71, sT_72, sT_73, sT_74, sT_75, sT_76, sT_77, sT_78, sT_79, sT_80, sN_1, sN_2, sN_19, sN_21, sN_23, sN_24, sN_26, sN_29, sN_31, sN_33, sN_35, sN_36, sN_37, sN_39, sN_40, sN_42, sN_44, sN_45, sN_46, sN_48, sN_49, sN_50, sN_51, sN_52, sN_53, sN_54, sN_55, sN_56, sN_57, sN_58, sN_59, sN_60, sN_61, sN_62, sN_63, sN_64, sN_65, sN_66, sN_67, sN_68, sN_69, sN_70, sN_71, sN_72, sN_73, sN_74, sN_75, sN_76, sN_77, sN_78, sN_79, sN_80, sR_0_34, sR_0_38, sR_1_34, sR_1_38, sR_64_20, sR_64_22, sR_128_25, sR_128_28, sR_194_17, sR_195_17, sR_196_17, sR_197_17, sR_258_30, sR_258_32, sR_258_41, sR_384_43, sR_448_18, sR_512_27, sR_513_27, sR_514_27, sR_515_27, sR_516_27, sR_576_16, sR_577_16, sR_578_16, sR_579_16, sR_580_16, sR_581_16, sR_582_16, sR_583_16, sR_584_16, sR_641_47, sR_643_47, sR_645_47, sR_646_47, sR_647_47, sR_648_47, sR_649_47, sR_650_47, sR_651_47, sR_652_47, sR_653_47, sR_654_47, sR_655_47, sR_656_47, sR_657_47, sR_658_47, sR_659_47, sR_661_47, sR_662_47, sR_663_47, sR_664_47, sR_665_47, sR_669_47, sR_670_47, sR_671_47, sR_672_47, sR_673_47, sR_674_47, sR_676_47, sR_677_47, sR_679_47, sR_680_47, sR_681_47, SH_I, SH_A, SH_G, SH_C, hS, Option.getD_some, ne_eq, reduceCtorEq, not_false_eq_true, not_true_eq_false, Option.bind_some, Option.toList_none, Option.toList_some, List.nil_append, List.cons_append, List.append_nil, ↓reduceIte, and_self, true_and, and_true, false_and, and_false, or_true, true_or, or_false, false_or, Nat.reduceEqDiff, Nat.reduceAdd, Int32.reduceMul, Int32.reduceAdd, Int32.reduceSub, Int32.reduceToNatClampNeg, Int32.reduceOfNat, Int32.reduceLT, Int32.reduceLE, va_rf]
    · simp (decide := true) only [k161_0, k161_5, k161_8, k161_10, k161_19R, k161_19N, k161_23R, k161_23N, c2, sT_1, sT_2, sT_3, sT_16, sT_17, sT_18, sT_19, sT_20, sT_21, sT_22, sT_23, sT_24, sT_25, sT_26, sT_27, sT_28, sT_29, sT_30, sT_31, sT_32, sT_33, sT_34, sT_35, sT_36, sT_37, sT_38, sT_39, sT_40, sT_41, sT_42, sT_43, sT_44, sT_45, sT_46, sT_47, sT_48, sT_49, sT_50, sT_51, sT_52, sT_53, sT_54, sT_55, sT_56, sT_57, sT_58, sT_59, sT_60, sT_61, sT_62, sT_63, sT_64, sT_65, sT_66, sT_67, sT_68, sT_69, sT_70, sT_71, sT_72, sT_73, sT_74, sT_75, sT_76, sT_77, sT_78, sT_79, sT_80, sN_1, sN_2, sN_19, sN_21, sN_23, sN_24, sN_26, sN_29, sN_31, sN_33, sN_35, sN_36, sN_37, sN_39, sN_40, sN_42, sN_44, sN_45, sN_46, sN_48, sN_49, sN_50, sN_51, sN_52, sN_53, sN_54, sN_55, sN_56, sN_57, sN_58, sN_59, sN_60, sN_61, sN_62, sN_63, sN_64, sN_65, sN_66, sN_67, sN_68, sN_69, sN_70, sN_71, sN_72, sN_73, sN_74, sN_75, sN_76, sN_77, sN_78, sN_79, sN_80, sR_0_34, sR_0_38, sR_1_34, sR_1_38, sR_64_20, sR_64_22, sR_128_25, sR_128_28, sR_194_17, sR_195_17, sR_196_17, sR_197_17, sR_258_30, sR_258_32, sR_258_41, sR_384_43, sR_448_18, sR_512_27, sR_513_27, sR_514_27, sR_515_27, sR_516_27, sR_576_16, sR_577_16, sR_578_16, sR_579_16, sR_580_16, sR_581_16, sR_582_16, sR_583_16, sR_584_16, sR_641_47, sR_643_47, sR_645_47, sR_646_47, sR_647_47, sR_648_47, sR_649_47, sR_650_47, sR_651_47, sR_652_47, sR_653_47, sR_654_47, sR_655_47, sR_656_47, sR_657_47, sR_658_47, sR_659_47, sR_661_47, sR_662_47, sR_663_47, sR_664_47, sR_665_47, sR_669_47, sR_670_47, sR_671_47, sR_672_47, sR_673_47, sR_674_47, sR_676_47, sR_677_47, sR_679_47, sR_680_47, sR_681_47, SH_I, SH_A, SH_G, SH_C, hS, Option.getD_some, ne_eq, reduceCtorEq, not_false_eq_true, not_true_eq_false, Option.bind_some, Option.toList_none, Option.toList_some, List.nil_append, List.cons_append, List.append_nil, ↓reduceIte, and_self, true_and, and_true, false_and, and_false, or_true, true_or, or_false, false_or, Nat.reduceEqDiff, Nat.reduceAdd, Int32.reduceMul, Int32.reduceAdd, Int32.reduceSub, Int32.reduceToNatClampNeg, Int32.reduceOfNat, Int32.reduceLT, Int32.reduceLE, va_rf]
theorem c118 (hS : SH σ) (hs : WFs s) (hC : CX s cr cp qr qp σ) : jx (d + 1) 118 0 [some (.ref 16), none, none, none] [] σ = some (some (.int (cntS s.rs 0)), σ) := by
  have hl := hs.r24
  have L : ∀ f n v l3, n + f = s.rs.length → jx (d + 1) 118 4 [some (.ref 16), some (.int v), some (.int (nI n)), l3] [] σ = some (some (.int (cntS (s.rs.drop n) v)), σ) := by
    intro f
    induction f with
    | zero =>
      intro n v l3 hn
      have e : n = s.rs.length := by omega
      subst e
      rw [k118_4 (sT_16 hS), hC.nr, if_pos (nI_le (Nat.le_refl _) (by omega)), k118_38, List.drop_length]
      rfl
    | succ f ih =>
      intro n v l3 hn
      have hlt : n < s.rs.length := by omega
      obtain ⟨⟨tp, hU, _⟩, _, _, _, f11, _⟩ := hC.rs n hlt
      rw [k118_4 (sT_16 hS), hC.nr, if_neg (nI_ge (by omega) (by omega)), k118_12 (sT_16 hS), c81y hS hC hs hlt]
      simp only [Option.bind_some, Option.toList_some, List.cons_append, List.nil_append]
      rw [k118_17R hU.1, f11, drop_rs hlt]
      by_cases z : sndA (s.rs.getD n ar0)
      · have e : cntS (s.rs.getD n ar0 :: s.rs.drop (n + 1)) v = cntS (s.rs.drop (n + 1)) (v + 1) := by
          show cntS (s.rs.drop (n + 1)) (if sndA (s.rs.getD n ar0) then v + 1 else v) = _
          rw [if_pos z]
        rw [if_pos z, if_neg (by decide), k118_29, ← nI_succ, ih (n + 1) _ _ (by omega), e]
      · have e : cntS (s.rs.getD n ar0 :: s.rs.drop (n + 1)) v = cntS (s.rs.drop (n + 1)) v := by
          show cntS (s.rs.drop (n + 1)) (if sndA (s.rs.getD n ar0) then v + 1 else v) = _
          rw [if_neg z]
        rw [if_neg z, if_pos rfl, k118_32, ← nI_succ, ih (n + 1) _ _ (by omega), e]
  have := L s.rs.length 0 0 none (by omega)
  rw [List.drop_zero] at this
  rw [k118_0]
  exact this
theorem sim_count (hR : REL s cr cp qr qp σ) (x : Int32) : SimR (d + 4) 117 196 [some (.int x)] [some (.int x), none, none] true σ := by
  have hR0 := hR
  obtain ⟨hS, hx, hs, hC, hM⟩ := hR
  have hl := hs.r24
  have rd : ∀ v : Int32, jx (d + 4) 117 0 [some (.ref 16), some (.int x)] [] σ = some (some (.int v), σ) → jx (d + 4) 196 0 [some (.ref 47), some (.int x), none, none] [] σ = some (some (.int v), σ) → SimR (d + 4) 117 196 [some (.int x)] [some (.int x), none, none] true σ := fun v h1 h2 => SimR.read hR0 h1 h2 (fun _ => rfl)
  have a1 := hC.nr
  have a2 := hC.np
  have a3 := hC.tx.1
  have a4 := hC.w
  have a5 := hC.ns
  have b1 := hM.nr
  have b2 := hM.np
  have b3 := hM.tm.1
  have b4 := hM.w
  have b5 := hM.ns
  by_cases y0 : x = 0
  · subst y0
    refine rd (nI s.rs.length) ?_ ?_
    · simp (decide := true) only [k117_0, k117_40, k117_45, k117_49, k117_50, k117_55, k117_63, k117_68, k117_76, jsw_4, a1, sT_1, sT_2, sT_3, sT_16, sT_17, sT_18, sT_19, sT_20, sT_21, sT_22, sT_23, sT_24, sT_25, sT_26, sT_27, sT_28, sT_29, sT_30, sT_31, sT_32, sT_33, sT_34, sT_35, sT_36, sT_37, sT_38, sT_39, sT_40, sT_41, sT_42, sT_43, sT_44, sT_45, sT_46, sT_47, sT_48, sT_49, sT_50, sT_51, sT_52, sT_53, sT_54, sT_55, sT_56, sT_57, sT_58, sT_59, sT_60, sT_61, sT_62, sT_63, sT_64, sT_65, sT_66, sT_67, sT_68, sT_69, sT_70, sT_71, sT_72, sT_73, sT_74, sT_75, sT_76, sT_77, sT_78, sT_79, sT_80, sN_1, sN_2, sN_19, sN_21, sN_23, sN_24, sN_26, sN_29, sN_31, sN_33, sN_35, sN_36, sN_37, sN_39, sN_40, sN_42, sN_44, sN_45, sN_46, sN_48, sN_49, sN_50, sN_51, sN_52, sN_53, sN_54, sN_55, sN_56, sN_57, sN_58, sN_59, sN_60, sN_61, sN_62, sN_63, sN_64, sN_65, sN_66, sN_67, sN_68, sN_69, sN_70, sN_71, sN_72, sN_73, sN_74, sN_75, sN_76, sN_77, sN_78, sN_79, sN_80, sR_0_34, sR_0_38, sR_1_34, sR_1_38, sR_64_20, sR_64_22, sR_128_25, sR_128_28, sR_194_17, sR_195_17, sR_196_17, sR_197_17, sR_258_30, sR_258_32, sR_258_41, sR_384_43, sR_448_18, sR_512_27, sR_513_27, sR_514_27, sR_515_27, sR_516_27, sR_576_16, sR_577_16, sR_578_16, sR_579_16, sR_580_16, sR_581_16, sR_582_16, sR_583_16, sR_584_16, sR_641_47, sR_643_47, sR_645_47, sR_646_47, sR_647_47, sR_648_47, sR_649_47, sR_650_47, sR_651_47, sR_652_47, sR_653_47, sR_654_47, sR_655_47, sR_656_47, sR_657_47, sR_658_47, sR_659_47, sR_661_47, sR_662_47, sR_663_47, sR_664_47, sR_665_47, sR_669_47, sR_670_47, sR_671_47, sR_672_47, sR_673_47, sR_674_47, sR_676_47, sR_677_47, sR_679_47, sR_680_47, sR_681_47, SH_I, SH_A, SH_G, SH_C, hS, Option.getD_some, ne_eq, reduceCtorEq, not_false_eq_true, not_true_eq_false, Option.bind_some, Option.toList_none, Option.toList_some, List.nil_append, List.cons_append, List.append_nil, ↓reduceIte, and_self, true_and, and_true, false_and, and_false, or_true, true_or, or_false, false_or, Nat.reduceEqDiff, Nat.reduceAdd, Int32.reduceMul, Int32.reduceAdd, Int32.reduceSub, Int32.reduceToNatClampNeg, Int32.reduceOfNat, Int32.reduceLT, Int32.reduceLE, va_rf]
    · simp (decide := true) only [k196_0, k196_40, jsw_8, b1, sT_1, sT_2, sT_3, sT_16, sT_17, sT_18, sT_19, sT_20, sT_21, sT_22, sT_23, sT_24, sT_25, sT_26, sT_27, sT_28, sT_29, sT_30, sT_31, sT_32, sT_33, sT_34, sT_35, sT_36, sT_37, sT_38, sT_39, sT_40, sT_41, sT_42, sT_43, sT_44, sT_45, sT_46, sT_47, sT_48, sT_49, sT_50, sT_51, sT_52, sT_53, sT_54, sT_55, sT_56, sT_57, sT_58, sT_59, sT_60, sT_61, sT_62, sT_63, sT_64, sT_65, sT_66, sT_67, sT_68, sT_69, sT_70, sT_71, sT_72, sT_73, sT_74, sT_75, sT_76, sT_77, sT_78, sT_79, sT_80, sN_1, sN_2, sN_19, sN_21, sN_23, sN_24, sN_26, sN_29, sN_31, sN_33, sN_35, sN_36, sN_37, sN_39, sN_40, sN_42, sN_44, sN_45, sN_46, sN_48, sN_49, sN_50, sN_51, sN_52, sN_53, sN_54, sN_55, sN_56, sN_57, sN_58, sN_59, sN_60, sN_61, sN_62, sN_63, sN_64, sN_65, sN_66, sN_67, sN_68, sN_69, sN_70, sN_71, sN_72, sN_73, sN_74, sN_75, sN_76, sN_77, sN_78, sN_79, sN_80, sR_0_34, sR_0_38, sR_1_34, sR_1_38, sR_64_20, sR_64_22, sR_128_25, sR_128_28, sR_194_17, sR_195_17, sR_196_17, sR_197_17, sR_258_30, sR_258_32, sR_258_41, sR_384_43, sR_448_18, sR_512_27, sR_513_27, sR_514_27, sR_515_27, sR_516_27, sR_576_16, sR_577_16, sR_578_16, sR_579_16, sR_580_16, sR_581_16, sR_582_16, sR_583_16, sR_584_16, sR_641_47, sR_643_47, sR_645_47, sR_646_47, sR_647_47, sR_648_47, sR_649_47, sR_650_47, sR_651_47, sR_652_47, sR_653_47, sR_654_47, sR_655_47, sR_656_47, sR_657_47, sR_658_47, sR_659_47, sR_661_47, sR_662_47, sR_663_47, sR_664_47, sR_665_47, sR_669_47, sR_670_47, sR_671_47, sR_672_47, sR_673_47, sR_674_47, sR_676_47, sR_677_47, sR_679_47, sR_680_47, sR_681_47, SH_I, SH_A, SH_G, SH_C, hS, Option.getD_some, ne_eq, reduceCtorEq, not_false_eq_true, not_true_eq_false, Option.bind_some, Option.toList_none, Option.toList_some, List.nil_append, List.cons_append, List.append_nil, ↓reduceIte, and_self, true_and, and_true, false_and, and_false, or_true, true_or, or_false, false_or, Nat.reduceEqDiff, Nat.reduceAdd, Int32.reduceMul, Int32.reduceAdd, Int32.reduceSub, Int32.reduceToNatClampNeg, Int32.reduceOfNat, Int32.reduceLT, Int32.reduceLE, va_rf]
  by_cases y1 : x = 1
  · subst y1
    have c1 := c118 (d := d + 2) hS hs hC
    refine rd (cntS s.rs 0) ?_ ?_
    · simp (decide := true) only [k117_0, k117_40, k117_45, k117_49, k117_50, k117_55, k117_63, k117_68, k117_76, jsw_4, c1, sT_1, sT_2, sT_3, sT_16, sT_17, sT_18, sT_19, sT_20, sT_21, sT_22, sT_23, sT_24, sT_25, sT_26, sT_27, sT_28, sT_29, sT_30, sT_31, sT_32, sT_33, sT_34, sT_35, sT_36, sT_37, sT_38, sT_39, sT_40, sT_41, sT_42, sT_43, sT_44, sT_45, sT_46, sT_47, sT_48, sT_49, sT_50, sT_51, sT_52, sT_53, sT_54, sT_55, sT_56, sT_57, sT_58, sT_59, sT_60, sT_61, sT_62, sT_63, sT_64, sT_65, sT_66, sT_67, sT_68, sT_69, sT_70, sT_71, sT_72, sT_73, sT_74, sT_75, sT_76, sT_77, sT_78, sT_79, sT_80, sN_1, sN_2, sN_19, sN_21, sN_23, sN_24, sN_26, sN_29, sN_31, sN_33, sN_35, sN_36, sN_37, sN_39, sN_40, sN_42, sN_44, sN_45, sN_46, sN_48, sN_49, sN_50, sN_51, sN_52, sN_53, sN_54, sN_55, sN_56, sN_57, sN_58, sN_59, sN_60, sN_61, sN_62, sN_63, sN_64, sN_65, sN_66, sN_67, sN_68, sN_69, sN_70, sN_71, sN_72, sN_73, sN_74, sN_75, sN_76, sN_77, sN_78, sN_79, sN_80, sR_0_34, sR_0_38, sR_1_34, sR_1_38, sR_64_20, sR_64_22, sR_128_25, sR_128_28, sR_194_17, sR_195_17, sR_196_17, sR_197_17, sR_258_30, sR_258_32, sR_258_41, sR_384_43, sR_448_18, sR_512_27, sR_513_27, sR_514_27, sR_515_27, sR_516_27, sR_576_16, sR_577_16, sR_578_16, sR_579_16, sR_580_16, sR_581_16, sR_582_16, sR_583_16, sR_584_16, sR_641_47, sR_643_47, sR_645_47, sR_646_47, sR_647_47, sR_648_47, sR_649_47, sR_650_47, sR_651_47, sR_652_47, sR_653_47, sR_654_47, sR_655_47, sR_656_47, sR_657_47, sR_658_47, sR_659_47, sR_661_47, sR_662_47, sR_663_47, sR_664_47, sR_665_47, sR_669_47, sR_670_47, sR_671_47, sR_672_47, sR_673_47, sR_674_47, sR_676_47, sR_677_47, sR_679_47, sR_680_47, sR_681_47, SH_I, SH_A, SH_G, SH_C, hS, Option.getD_some, ne_eq, reduceCtorEq, not_false_eq_true, not_true_eq_false, Option.bind_some, Option.toList_none, Option.toList_some, List.nil_append, List.cons_append, List.append_nil, ↓reduceIte, and_self, true_and, and_true, false_and, and_false, or_true, true_or, or_false, false_or, Nat.reduceEqDiff, Nat.reduceAdd, Int32.reduceMul, Int32.reduceAdd, Int32.reduceSub, Int32.reduceToNatClampNeg, Int32.reduceOfNat, Int32.reduceLT, Int32.reduceLE, va_rf]
    · have L : ∀ f n v, n + f = s.rs.length → jx (d + 4) 196 49 [some (.ref 47), some (.int 1), some (.int v), some (.int (nI n))] [] σ = some (some (.int (cntS (s.rs.drop n) v)), σ) := by
        intro f
        induction f with
        | zero =>
          intro n v hn
          have e : n = s.rs.length := by omega
          subst e
          rw [k196_49 (sT_47 hS), b1, if_pos (nI_le (Nat.le_refl _) (by omega)), k196_79, List.drop_length]
          rfl
        | succ f ih =>
          intro n v hn
          have hlt : n < s.rs.length := by omega
          have cs := c164 (d := d) hS (r := n) (by omega) (hs.fr _ (mem_rs hlt)) (hM.rs n hlt)
          have z0 : v + 0 = v := Int32.add_zero v
          rw [k196_49 (sT_47 hS), b1, if_neg (nI_ge (by omega) (by omega)), k196_57 (sT_47 hS), cs]
          simp only [Option.bind_some, Option.toList_some, List.cons_append, List.nil_append]
          rw [k196_63, drop_rs hlt]
          by_cases z : sndA (s.rs.getD n ar0)
          · have e : cntS (s.rs.getD n ar0 :: s.rs.drop (n + 1)) v = cntS (s.rs.drop (n + 1)) (v + 1) := by
              show cntS (s.rs.drop (n + 1)) (if sndA (s.rs.getD n ar0) then v + 1 else v) = _
              rw [if_pos z]
            rw [if_pos z, if_neg (by decide), k196_66, ← nI_succ, ih (n + 1) _ (by omega), e]
          · have e : cntS (s.rs.getD n ar0 :: s.rs.drop (n + 1)) v = cntS (s.rs.drop (n + 1)) v := by
              show cntS (s.rs.drop (n + 1)) (if sndA (s.rs.getD n ar0) then v + 1 else v) = _
              rw [if_neg z]
            rw [if_neg z, if_pos rfl, k196_70, z0, ← nI_succ, ih (n + 1) _ (by omega), e]
      have := L s.rs.length 0 0 (by omega)
      rw [List.drop_zero] at this
      rw [k196_0, show jsw 8 1 = 45 by decide, k196_45]
      exact this
  by_cases y2 : x = 2
  · subst y2
    refine rd (nI s.ps.length) ?_ ?_
    · simp (decide := true) only [k117_0, k117_40, k117_45, k117_49, k117_50, k117_55, k117_63, k117_68, k117_76, jsw_4, a2, sT_1, sT_2, sT_3, sT_16, sT_17, sT_18, sT_19, sT_20, sT_21, sT_22, sT_23, sT_24, sT_25, sT_26, sT_27, sT_28, sT_29, sT_30, sT_31, sT_32, sT_33, sT_34, sT_35, sT_36, sT_37, sT_38, sT_39, sT_40, sT_41, sT_42, sT_43, sT_44, sT_45, sT_46, sT_47, sT_48, sT_49, sT_50, sT_51, sT_52, sT_53, sT_54, sT_55, sT_56, sT_57, sT_58, sT_59, sT_60, sT_61, sT_62, sT_63, sT_64, sT_65, sT_66, sT_67, sT_68, sT_69, sT_70, sT_71, sT_72, sT_73, sT_74, sT_75, sT_76, sT_77, sT_78, sT_79, sT_80, sN_1, sN_2, sN_19, sN_21, sN_23, sN_24, sN_26, sN_29, sN_31, sN_33, sN_35, sN_36, sN_37, sN_39, sN_40, sN_42, sN_44, sN_45, sN_46, sN_48, sN_49, sN_50, sN_51, sN_52, sN_53, sN_54, sN_55, sN_56, sN_57, sN_58, sN_59, sN_60, sN_61, sN_62, sN_63, sN_64, sN_65, sN_66, sN_67, sN_68, sN_69, sN_70, sN_71, sN_72, sN_73, sN_74, sN_75, sN_76, sN_77, sN_78, sN_79, sN_80, sR_0_34, sR_0_38, sR_1_34, sR_1_38, sR_64_20, sR_64_22, sR_128_25, sR_128_28, sR_194_17, sR_195_17, sR_196_17, sR_197_17, sR_258_30, sR_258_32, sR_258_41, sR_384_43, sR_448_18, sR_512_27, sR_513_27, sR_514_27, sR_515_27, sR_516_27, sR_576_16, sR_577_16, sR_578_16, sR_579_16, sR_580_16, sR_581_16, sR_582_16, sR_583_16, sR_584_16, sR_641_47, sR_643_47, sR_645_47, sR_646_47, sR_647_47, sR_648_47, sR_649_47, sR_650_47, sR_651_47, sR_652_47, sR_653_47, sR_654_47, sR_655_47, sR_656_47, sR_657_47, sR_658_47, sR_659_47, sR_661_47, sR_662_47, sR_663_47, sR_664_47, sR_665_47, sR_669_47, sR_670_47, sR_671_47, sR_672_47, sR_673_47, sR_674_47, sR_676_47, sR_677_47, sR_679_47, sR_680_47, sR_681_47, SH_I, SH_A, SH_G, SH_C, hS, Option.getD_some, ne_eq, reduceCtorEq, not_false_eq_true, not_true_eq_false, Option.bind_some, Option.toList_none, Option.toList_some, List.nil_append, List.cons_append, List.append_nil, ↓reduceIte, and_self, true_and, and_true, false_and, and_false, or_true, true_or, or_false, false_or, Nat.reduceEqDiff, Nat.reduceAdd, Int32.reduceMul, Int32.reduceAdd, Int32.reduceSub, Int32.reduceToNatClampNeg, Int32.reduceOfNat, Int32.reduceLT, Int32.reduceLE, va_rf]
    · simp (decide := true) only [k196_0, k196_81, jsw_8, b2, sT_1, sT_2, sT_3, sT_16, sT_17, sT_18, sT_19, sT_20, sT_21, sT_22, sT_23, sT_24, sT_25, sT_26, sT_27, sT_28, sT_29, sT_30, sT_31, sT_32, sT_33, sT_34, sT_35, sT_36, sT_37, sT_38, sT_39, sT_40, sT_41, sT_42, sT_43, sT_44, sT_45, sT_46, sT_47, sT_48, sT_49, sT_50, sT_51, sT_52, sT_53, sT_54, sT_55, sT_56, sT_57, sT_58, sT_59, sT_60, sT_61, sT_62, sT_63, sT_64, sT_65, sT_66, sT_67, sT_68, sT_69, sT_70, sT_71, sT_72, sT_73, sT_74, sT_75, sT_76, sT_77, sT_78, sT_79, sT_80, sN_1, sN_2, sN_19, sN_21, sN_23, sN_24, sN_26, sN_29, sN_31, sN_33, sN_35, sN_36, sN_37, sN_39, sN_40, sN_42, sN_44, sN_45, sN_46, sN_48, sN_49, sN_50, sN_51, sN_52, sN_53, sN_54, sN_55, sN_56, sN_57, sN_58, sN_59, sN_60, sN_61, sN_62, sN_63, sN_64, sN_65, sN_66, sN_67, sN_68, sN_69, sN_70, sN_71, sN_72, sN_73, sN_74, sN_75, sN_76, sN_77, sN_78, sN_79, sN_80, sR_0_34, sR_0_38, sR_1_34, sR_1_38, sR_64_20, sR_64_22, sR_128_25, sR_128_28, sR_194_17, sR_195_17, sR_196_17, sR_197_17, sR_258_30, sR_258_32, sR_258_41, sR_384_43, sR_448_18, sR_512_27, sR_513_27, sR_514_27, sR_515_27, sR_516_27, sR_576_16, sR_577_16, sR_578_16, sR_579_16, sR_580_16, sR_581_16, sR_582_16, sR_583_16, sR_584_16, sR_641_47, sR_643_47, sR_645_47, sR_646_47, sR_647_47, sR_648_47, sR_649_47, sR_650_47, sR_651_47, sR_652_47, sR_653_47, sR_654_47, sR_655_47, sR_656_47, sR_657_47, sR_658_47, sR_659_47, sR_661_47, sR_662_47, sR_663_47, sR_664_47, sR_665_47, sR_669_47, sR_670_47, sR_671_47, sR_672_47, sR_673_47, sR_674_47, sR_676_47, sR_677_47, sR_679_47, sR_680_47, sR_681_47, SH_I, SH_A, SH_G, SH_C, hS, Option.getD_some, ne_eq, reduceCtorEq, not_false_eq_true, not_true_eq_false, Option.bind_some, Option.toList_none, Option.toList_some, List.nil_append, List.cons_append, List.append_nil, ↓reduceIte, and_self, true_and, and_true, false_and, and_false, or_true, true_or, or_false, false_or, Nat.reduceEqDiff, Nat.reduceAdd, Int32.reduceMul, Int32.reduceAdd, Int32.reduceSub, Int32.reduceToNatClampNeg, Int32.reduceOfNat, Int32.reduceLT, Int32.reduceLE, va_rf]
  by_cases y3 : x = 3
  · subst y3
    refine rd (nI s.len) ?_ ?_
    · simp (decide := true) only [k117_0, k117_40, k117_45, k117_49, k117_50, k117_55, k117_63, k117_68, k117_76, jsw_4, a3, sT_1, sT_2, sT_3, sT_16, sT_17, sT_18, sT_19, sT_20, sT_21, sT_22, sT_23, sT_24, sT_25, sT_26, sT_27, sT_28, sT_29, sT_30, sT_31, sT_32, sT_33, sT_34, sT_35, sT_36, sT_37, sT_38, sT_39, sT_40, sT_41, sT_42, sT_43, sT_44, sT_45, sT_46, sT_47, sT_48, sT_49, sT_50, sT_51, sT_52, sT_53, sT_54, sT_55, sT_56, sT_57, sT_58, sT_59, sT_60, sT_61, sT_62, sT_63, sT_64, sT_65, sT_66, sT_67, sT_68, sT_69, sT_70, sT_71, sT_72, sT_73, sT_74, sT_75, sT_76, sT_77, sT_78, sT_79, sT_80, sN_1, sN_2, sN_19, sN_21, sN_23, sN_24, sN_26, sN_29, sN_31, sN_33, sN_35, sN_36, sN_37, sN_39, sN_40, sN_42, sN_44, sN_45, sN_46, sN_48, sN_49, sN_50, sN_51, sN_52, sN_53, sN_54, sN_55, sN_56, sN_57, sN_58, sN_59, sN_60, sN_61, sN_62, sN_63, sN_64, sN_65, sN_66, sN_67, sN_68, sN_69, sN_70, sN_71, sN_72, sN_73, sN_74, sN_75, sN_76, sN_77, sN_78, sN_79, sN_80, sR_0_34, sR_0_38, sR_1_34, sR_1_38, sR_64_20, sR_64_22, sR_128_25, sR_128_28, sR_194_17, sR_195_17, sR_196_17, sR_197_17, sR_258_30, sR_258_32, sR_258_41, sR_384_43, sR_448_18, sR_512_27, sR_513_27, sR_514_27, sR_515_27, sR_516_27, sR_576_16, sR_577_16, sR_578_16, sR_579_16, sR_580_16, sR_581_16, sR_582_16, sR_583_16, sR_584_16, sR_641_47, sR_643_47, sR_645_47, sR_646_47, sR_647_47, sR_648_47, sR_649_47, sR_650_47, sR_651_47, sR_652_47, sR_653_47, sR_654_47, sR_655_47, sR_656_47, sR_657_47, sR_658_47, sR_659_47, sR_661_47, sR_662_47, sR_663_47, sR_664_47, sR_665_47, sR_669_47, sR_670_47, sR_671_47, sR_672_47, sR_673_47, sR_674_47, sR_676_47, sR_677_47, sR_679_47, sR_680_47, sR_681_47, SH_I, SH_A, SH_G, SH_C, hS, Option.getD_some, ne_eq, reduceCtorEq, not_false_eq_true, not_true_eq_false, Option.bind_some, Option.toList_none, Option.toList_some, List.nil_append, List.cons_append, List.append_nil, ↓reduceIte, and_self, true_and, and_true, false_and, and_false, or_true, true_or, or_false, false_or, Nat.reduceEqDiff, Nat.reduceAdd, Int32.reduceMul, Int32.reduceAdd, Int32.reduceSub, Int32.reduceToNatClampNeg, Int32.reduceOfNat, Int32.reduceLT, Int32.reduceLE, va_rf]
    · simp (decide := true) only [k196_0, k196_86, jsw_8, b3, sT_1, sT_2, sT_3, sT_16, sT_17, sT_18, sT_19, sT_20, sT_21, sT_22, sT_23, sT_24, sT_25, sT_26, sT_27, sT_28, sT_29, sT_30, sT_31, sT_32, sT_33, sT_34, sT_35, sT_36, sT_37, sT_38, sT_39, sT_40, sT_41, sT_42, sT_43, sT_44, sT_45, sT_46, sT_47, sT_48, sT_49, sT_50, sT_51, sT_52, sT_53, sT_54, sT_55, sT_56, sT_57, sT_58, sT_59, sT_60, sT_61, sT_62, sT_63, sT_64, sT_65, sT_66, sT_67, sT_68, sT_69, sT_70, sT_71, sT_72, sT_73, sT_74, sT_75, sT_76, sT_77, sT_78, sT_79, sT_80, sN_1, sN_2, sN_19, sN_21, sN_23, sN_24, sN_26, sN_29, sN_31, sN_33, sN_35, sN_36, sN_37, sN_39, sN_40, sN_42, sN_44, sN_45, sN_46, sN_48, sN_49, sN_50, sN_51, sN_52, sN_53, sN_54, sN_55, sN_56, sN_57, sN_58, sN_59, sN_60, sN_61, sN_62, sN_63, sN_64, sN_65, sN_66, sN_67, sN_68, sN_69, sN_70, sN_71, sN_72, sN_73, sN_74, sN_75, sN_76, sN_77, sN_78, sN_79, sN_80, sR_0_34, sR_0_38, sR_1_34, sR_1_38, sR_64_20, sR_64_22, sR_128_25, sR_128_28, sR_194_17, sR_195_17, sR_196_17, sR_197_17, sR_258_30, sR_258_32, sR_258_41, sR_384_43, sR_448_18, sR_512_27, sR_513_27, sR_514_27, sR_515_27, sR_516_27, sR_576_16, sR_577_16, sR_578_16, sR_579_16, sR_580_16, sR_581_16, sR_582_16, sR_583_16, sR_584_16, sR_641_47, sR_643_47, sR_645_47, sR_646_47, sR_647_47, sR_648_47, sR_649_47, sR_650_47, sR_651_47, sR_652_47, sR_653_47, sR_654_47, sR_655_47, sR_656_47, sR_657_47, sR_658_47, sR_659_47, sR_661_47, sR_662_47, sR_663_47, sR_664_47, sR_665_47, sR_669_47, sR_670_47, sR_671_47, sR_672_47, sR_673_47, sR_674_47, sR_676_47, sR_677_47, sR_679_47, sR_680_47, sR_681_47, SH_I, SH_A, SH_G, SH_C, hS, Option.getD_some, ne_eq, reduceCtorEq, not_false_eq_true, not_true_eq_false, Option.bind_some, Option.toList_none, Option.toList_some, List.nil_append, List.cons_append, List.append_nil, ↓reduceIte, and_self, true_and, and_true, false_and, and_false, or_true, true_or, or_false, false_or, Nat.reduceEqDiff, Nat.reduceAdd, Int32.reduceMul, Int32.reduceAdd, Int32.reduceSub, Int32.reduceToNatClampNeg, Int32.reduceOfNat, Int32.reduceLT, Int32.reduceLE, va_rf]
  by_cases y4 : x = 4
  · subst y4
    refine rd (nI s.W) ?_ ?_
    · simp (decide := true) only [k117_0, k117_40, k117_45, k117_49, k117_50, k117_55, k117_63, k117_68, k117_76, jsw_4, a4, sT_1, sT_2, sT_3, sT_16, sT_17, sT_18, sT_19, sT_20, sT_21, sT_22, sT_23, sT_24, sT_25, sT_26, sT_27, sT_28, sT_29, sT_30, sT_31, sT_32, sT_33, sT_34, sT_35, sT_36, sT_37, sT_38, sT_39, sT_40, sT_41, sT_42, sT_43, sT_44, sT_45, sT_46, sT_47, sT_48, sT_49, sT_50, sT_51, sT_52, sT_53, sT_54, sT_55, sT_56, sT_57, sT_58, sT_59, sT_60, sT_61, sT_62, sT_63, sT_64, sT_65, sT_66, sT_67, sT_68, sT_69, sT_70, sT_71, sT_72, sT_73, sT_74, sT_75, sT_76, sT_77, sT_78, sT_79, sT_80, sN_1, sN_2, sN_19, sN_21, sN_23, sN_24, sN_26, sN_29, sN_31, sN_33, sN_35, sN_36, sN_37, sN_39, sN_40, sN_42, sN_44, sN_45, sN_46, sN_48, sN_49, sN_50, sN_51, sN_52, sN_53, sN_54, sN_55, sN_56, sN_57, sN_58, sN_59, sN_60, sN_61, sN_62, sN_63, sN_64, sN_65, sN_66, sN_67, sN_68, sN_69, sN_70, sN_71, sN_72, sN_73, sN_74, sN_75, sN_76, sN_77, sN_78, sN_79, sN_80, sR_0_34, sR_0_38, sR_1_34, sR_1_38, sR_64_20, sR_64_22, sR_128_25, sR_128_28, sR_194_17, sR_195_17, sR_196_17, sR_197_17, sR_258_30, sR_258_32, sR_258_41, sR_384_43, sR_448_18, sR_512_27, sR_513_27, sR_514_27, sR_515_27, sR_516_27, sR_576_16, sR_577_16, sR_578_16, sR_579_16, sR_580_16, sR_581_16, sR_582_16, sR_583_16, sR_584_16, sR_641_47, sR_643_47, sR_645_47, sR_646_47, sR_647_47, sR_648_47, sR_649_47, sR_650_47, sR_651_47, sR_652_47, sR_653_47, sR_654_47, sR_655_47, sR_656_47, sR_657_47, sR_658_47, sR_659_47, sR_661_47, sR_662_47, sR_663_47, sR_664_47, sR_665_47, sR_669_47, sR_670_47, sR_671_47, sR_672_47, sR_673_47, sR_674_47, sR_676_47, sR_677_47, sR_679_47, sR_680_47, sR_681_47, SH_I, SH_A, SH_G, SH_C, hS, Option.getD_some, ne_eq, reduceCtorEq, not_false_eq_true, not_true_eq_false, Option.bind_some, Option.toList_none, Option.toList_some, List.nil_append, List.cons_append, List.append_nil, ↓reduceIte, and_self, true_and, and_true, false_and, and_false, or_true, true_or, or_false, false_or, Nat.reduceEqDiff, Nat.reduceAdd, Int32.reduceMul, Int32.reduceAdd, Int32.reduceSub, Int32.reduceToNatClampNeg, Int32.reduceOfNat, Int32.reduceLT, Int32.reduceLE, va_rf]
    · simp (decide := true) only [k196_0, k196_91, jsw_8, b4, sT_1, sT_2, sT_3, sT_16, sT_17, sT_18, sT_19, sT_20, sT_21, sT_22, sT_23, sT_24, sT_25, sT_26, sT_27, sT_28, sT_29, sT_30, sT_31, sT_32, sT_33, sT_34, sT_35, sT_36, sT_37, sT_38, sT_39, sT_40, sT_41, sT_42, sT_43, sT_44, sT_45, sT_46, sT_47, sT_48, sT_49, sT_50, sT_51, sT_52, sT_53, sT_54, sT_55, sT_56, sT_57, sT_58, sT_59, sT_60, sT_61, sT_62, sT_63, sT_64, sT_65, sT_66, sT_67, sT_68, sT_69, sT_70, sT_71, sT_72, sT_73, sT_74, sT_75, sT_76, sT_77, sT_78, sT_79, sT_80, sN_1, sN_2, sN_19, sN_21, sN_23, sN_24, sN_26, sN_29, sN_31, sN_33, sN_35, sN_36, sN_37, sN_39, sN_40, sN_42, sN_44, sN_45, sN_46, sN_48, sN_49, sN_50, sN_51, sN_52, sN_53, sN_54, sN_55, sN_56, sN_57, sN_58, sN_59, sN_60, sN_61, sN_62, sN_63, sN_64, sN_65, sN_66, sN_67, sN_68, sN_69, sN_70, sN_71, sN_72, sN_73, sN_74, sN_75, sN_76, sN_77, sN_78, sN_79, sN_80, sR_0_34, sR_0_38, sR_1_34, sR_1_38, sR_64_20, sR_64_22, sR_128_25, sR_128_28, sR_194_17, sR_195_17, sR_196_17, sR_197_17, sR_258_30, sR_258_32, sR_258_41, sR_384_43, sR_448_18, sR_512_27, sR_513_27, sR_514_27, sR_515_27, sR_516_27, sR_576_16, sR_577_16, sR_578_16, sR_579_16, sR_580_16, sR_581_16, sR_582_16, sR_583_16, sR_584_16, sR_641_47, sR_643_47, sR_645_47, sR_646_47, sR_647_47, sR_648_47, sR_649_47, sR_650_47, sR_651_47, sR_652_47, sR_653_47, sR_654_47, sR_655_47, sR_656_47, sR_657_47, sR_658_47, sR_659_47, sR_661_47, sR_662_47, sR_663_47, sR_664_47, sR_665_47, sR_669_47, sR_670_47, sR_671_47, sR_672_47, sR_673_47, sR_674_47, sR_676_47, sR_677_47, sR_679_47, sR_680_47, sR_681_47, SH_I, SH_A, SH_G, SH_C, hS, Option.getD_some, ne_eq, reduceCtorEq, not_false_eq_true, not_true_eq_false, Option.bind_some, Option.toList_none, Option.toList_some, List.nil_append, List.cons_append, List.append_nil, ↓reduceIte, and_self, true_and, and_true, false_and, and_false, or_true, true_or, or_false, false_or, Nat.reduceEqDiff, Nat.reduceAdd, Int32.reduceMul, Int32.reduceAdd, Int32.reduceSub, Int32.reduceToNatClampNeg, Int32.reduceOfNat, Int32.reduceLT, Int32.reduceLE, va_rf]
  by_cases y5 : x = 5
  · subst y5
    refine rd (nI s.ns) ?_ ?_
    · simp (decide := true) only [k117_0, k117_40, k117_45, k117_49, k117_50, k117_55, k117_63, k117_68, k117_76, jsw_4, a5, sT_1, sT_2, sT_3, sT_16, sT_17, sT_18, sT_19, sT_20, sT_21, sT_22, sT_23, sT_24, sT_25, sT_26, sT_27, sT_28, sT_29, sT_30, sT_31, sT_32, sT_33, sT_34, sT_35, sT_36, sT_37, sT_38, sT_39, sT_40, sT_41, sT_42, sT_43, sT_44, sT_45, sT_46, sT_47, sT_48, sT_49, sT_50, sT_51, sT_52, sT_53, sT_54, sT_55, sT_56, sT_57, sT_58, sT_59, sT_60, sT_61, sT_62, sT_63, sT_64, sT_65, sT_66, sT_67, sT_68, sT_69, sT_70, sT_71, sT_72, sT_73, sT_74, sT_75, sT_76, sT_77, sT_78, sT_79, sT_80, sN_1, sN_2, sN_19, sN_21, sN_23, sN_24, sN_26, sN_29, sN_31, sN_33, sN_35, sN_36, sN_37, sN_39, sN_40, sN_42, sN_44, sN_45, sN_46, sN_48, sN_49, sN_50, sN_51, sN_52, sN_53, sN_54, sN_55, sN_56, sN_57, sN_58, sN_59, sN_60, sN_61, sN_62, sN_63, sN_64, sN_65, sN_66, sN_67, sN_68, sN_69, sN_70, sN_71, sN_72, sN_73, sN_74, sN_75, sN_76, sN_77, sN_78, sN_79, sN_80, sR_0_34, sR_0_38, sR_1_34, sR_1_38, sR_64_20, sR_64_22, sR_128_25, sR_128_28, sR_194_17, sR_195_17, sR_196_17, sR_197_17, sR_258_30, sR_258_32, sR_258_41, sR_384_43, sR_448_18, sR_512_27, sR_513_27, sR_514_27, sR_515_27, sR_516_27, sR_576_16, sR_577_16, sR_578_16, sR_579_16, sR_580_16, sR_581_16, sR_582_16, sR_583_16, sR_584_16, sR_641_47, sR_643_47, sR_645_47, sR_646_47, sR_647_47, sR_648_47, sR_649_47, sR_650_47, sR_651_47, sR_652_47, sR_653_47, sR_654_47, sR_655_47, sR_656_47, sR_657_47, sR_658_47, sR_659_47, sR_661_47, sR_662_47, sR_663_47, sR_664_47, sR_665_47, sR_669_47, sR_670_47, sR_671_47, sR_672_47, sR_673_47, sR_674_47, sR_676_47, sR_677_47, sR_679_47, sR_680_47, sR_681_47, SH_I, SH_A, SH_G, SH_C, hS, Option.getD_some, ne_eq, reduceCtorEq, not_false_eq_true, not_true_eq_false, Option.bind_some, Option.toList_none, Option.toList_some, List.nil_append, List.cons_append, List.append_nil, ↓reduceIte, and_self, true_and, and_true, false_and, and_false, or_true, true_or, or_false, false_or, Nat.reduceEqDiff, Nat.reduceAdd, Int32.reduceMul, Int32.reduceAdd, Int32.reduceSub, Int32.reduceToNatClampNeg, Int32.reduceOfNat, Int32.reduceLT, Int32.reduceLE, va_rf]
    · simp (decide := true) only [k196_0, k196_96, jsw_8, b5, sT_1, sT_2, sT_3, sT_16, sT_17, sT_18, sT_19, sT_20, sT_21, sT_22, sT_23, sT_24, sT_25, sT_26, sT_27, sT_28, sT_29, sT_30, sT_31, sT_32, sT_33, sT_34, sT_35, sT_36, sT_37, sT_38, sT_39, sT_40, sT_41, sT_42, sT_43, sT_44, sT_45, sT_46, sT_47, sT_48, sT_49, sT_50, sT_51, sT_52, sT_53, sT_54, sT_55, sT_56, sT_57, sT_58, sT_59, sT_60, sT_61, sT_62, sT_63, sT_64, sT_65, sT_66, sT_67, sT_68, sT_69, sT_70, sT_71, sT_72, sT_73, sT_74, sT_75, sT_76, sT_77, sT_78, sT_79, sT_80, sN_1, sN_2, sN_19, sN_21, sN_23, sN_24, sN_26, sN_29, sN_31, sN_33, sN_35, sN_36, sN_37, sN_39, sN_40, sN_42, sN_44, sN_45, sN_46, sN_48, sN_49, sN_50, sN_51, sN_52, sN_53, sN_54, sN_55, sN_56, sN_57, sN_58, sN_59, sN_60, sN_61, sN_62, sN_63, sN_64, sN_65, sN_66, sN_67, sN_68, sN_69, sN_70, sN_71, sN_72, sN_73, sN_74, sN_75, sN_76, sN_77, sN_78, sN_79, sN_80, sR_0_34, sR_0_38, sR_1_34, sR_1_38, sR_64_20, sR_64_22, sR_128_25, sR_128_28, sR_194_17, sR_195_17, sR_196_17, sR_197_17, sR_258_30, sR_258_32, sR_258_41, sR_384_43, sR_448_18, sR_512_27, sR_513_27, sR_514_27, sR_515_27, sR_516_27, sR_576_16, sR_577_16, sR_578_16, sR_579_16, sR_580_16, sR_581_16, sR_582_16, sR_583_16, sR_584_16, sR_641_47, sR_643_47, sR_645_47, sR_646_47, sR_647_47, sR_648_47, sR_649_47, sR_650_47, sR_651_47, sR_652_47, sR_653_47, sR_654_47, sR_655_47, sR_656_47, sR_657_47, sR_658_47, sR_659_47, sR_661_47, sR_662_47, sR_663_47, sR_664_47, sR_665_47, sR_669_47, sR_670_47, sR_671_47, sR_672_47, sR_673_47, sR_674_47, sR_676_47, sR_677_47, sR_679_47, sR_680_47, sR_681_47, SH_I, SH_A, SH_G, SH_C, hS, Option.getD_some, ne_eq, reduceCtorEq, not_false_eq_true, not_true_eq_false, Option.bind_some, Option.toList_none, Option.toList_some, List.nil_append, List.cons_append, List.append_nil, ↓reduceIte, and_self, true_and, and_true, false_and, and_false, or_true, true_or, or_false, false_or, Nat.reduceEqDiff, Nat.reduceAdd, Int32.reduceMul, Int32.reduceAdd, Int32.reduceSub, Int32.reduceToNatClampNeg, Int32.reduceOfNat, Int32.reduceLT, Int32.reduceLE, va_rf]
  · refine rd (-1) ?_ ?_
    · simp (decide := true) only [k117_0, k117_40, k117_45, k117_49, k117_50, k117_55, k117_63, k117_68, k117_76, jsw_4, y0, y1, y2, y3, y4, y5, sT_1, sT_2, sT_3, sT_16, sT_17, sT_18, sT_19, sT_20, sT_21, sT_22, sT_23, sT_24, sT_25, sT_26, sT_27, sT_28, sT_29, sT_30, sT_31, sT_32, sT_33, sT_34, sT_35, sT_36, sT_37, sT_38, sT_39, sT_40, sT_41, sT_42, sT_43, sT_44, sT_45, sT_46, sT_47, sT_48, sT_49, sT_50, sT_51, sT_52, sT_53, sT_54, sT_55, sT_56, sT_57, sT_58, sT_59, sT_60, sT_61, sT_62, sT_63, sT_64, sT_65, sT_66, sT_67, sT_68, sT_69, sT_70, sT_71, sT_72, sT_73, sT_74, sT_75, sT_76, sT_77, sT_78, sT_79, sT_80, sN_1, sN_2, sN_19, sN_21, sN_23, sN_24, sN_26, sN_29, sN_31, sN_33, sN_35, sN_36, sN_37, sN_39, sN_40, sN_42, sN_44, sN_45, sN_46, sN_48, sN_49, sN_50, sN_51, sN_52, sN_53, sN_54, sN_55, sN_56, sN_57, sN_58, sN_59, sN_60, sN_61, sN_62, sN_63, sN_64, sN_65, sN_66, sN_67, sN_68, sN_69, sN_70, sN_71, sN_72, sN_73, sN_74, sN_75, sN_76, sN_77, sN_78, sN_79, sN_80, sR_0_34, sR_0_38, sR_1_34, sR_1_38, sR_64_20, sR_64_22, sR_128_25, sR_128_28, sR_194_17, sR_195_17, sR_196_17, sR_197_17, sR_258_30, sR_258_32, sR_258_41, sR_384_43, sR_448_18, sR_512_27, sR_513_27, sR_514_27, sR_515_27, sR_516_27, sR_576_16, sR_577_16, sR_578_16, sR_579_16, sR_580_16, sR_581_16, sR_582_16, sR_583_16, sR_584_16, sR_641_47, sR_643_47, sR_645_47, sR_646_47, sR_647_47, sR_648_47, sR_649_47, sR_650_47, sR_651_47, sR_652_47, sR_653_47, sR_654_47, sR_655_47, sR_656_47, sR_657_47, sR_658_47, sR_659_47, sR_661_47, sR_662_47, sR_663_47, sR_664_47, sR_665_47, sR_669_47, sR_670_47, sR_671_47, sR_672_47, sR_673_47, sR_674_47, sR_676_47, sR_677_47, sR_679_47, sR_680_47, sR_681_47, SH_I, SH_A, SH_G, SH_C, hS, Option.getD_some, ne_eq, reduceCtorEq, not_false_eq_true, not_true_eq_false, Option.bind_some, Option.toList_none, Option.toList_some, List.nil_append, List.cons_append, List.append_nil, ↓reduceIte, and_self, true_and, and_true, false_and, and_false, or_true, true_or, or_false, false_or, Nat.reduceEqDiff, Nat.reduceAdd, Int32.reduceMul, Int32.reduceAdd, Int32.reduceSub, Int32.reduceToNatClampNeg, Int32.reduceOfNat, Int32.reduceLT, Int32.reduceLE, va_rf]
    · simp (decide := true) only [k196_0, k196_101, jsw_8, y0, y1, y2, y3, y4, y5, sT_1, sT_2, sT_3, sT_16, sT_17, sT_18, sT_19, sT_20, sT_21, sT_22, sT_23, sT_24, sT_25, sT_26, sT_27, sT_28, sT_29, sT_30, sT_31, sT_32, sT_33, sT_34, sT_35, sT_36, sT_37, sT_38, sT_39, sT_40, sT_41, sT_42, sT_43, sT_44, sT_45, sT_46, sT_47, sT_48, sT_49, sT_50, sT_51, sT_52, sT_53, sT_54, sT_55, sT_56, sT_57, sT_58, sT_59, sT_60, sT_61, sT_62, sT_63, sT_64, sT_65, sT_66, sT_67, sT_68, sT_69, sT_70, sT_71, sT_72, sT_73, sT_74, sT_75, sT_76, sT_77, sT_78, sT_79, sT_80, sN_1, sN_2, sN_19, sN_21, sN_23, sN_24, sN_26, sN_29, sN_31, sN_33, sN_35, sN_36, sN_37, sN_39, sN_40, sN_42, sN_44, sN_45, sN_46, sN_48, sN_49, sN_50, sN_51, sN_52, sN_53, sN_54, sN_55, sN_56, sN_57, sN_58, sN_59, sN_60, sN_61, sN_62, sN_63, sN_64, sN_65, sN_66, sN_67, sN_68, sN_69, sN_70, sN_71, sN_72, sN_73, sN_74, sN_75, sN_76, sN_77, sN_78, sN_79, sN_80, sR_0_34, sR_0_38, sR_1_34, sR_1_38, sR_64_20, sR_64_22, sR_128_25, sR_128_28, sR_194_17, sR_195_17, sR_196_17, sR_197_17, sR_258_30, sR_258_32, sR_258_41, sR_384_43, sR_448_18, sR_512_27, sR_513_27, sR_514_27, sR_515_27, sR_516_27, sR_576_16, sR_577_16, sR_578_16, sR_579_16, sR_580_16, sR_581_16, sR_582_16, sR_583_16, sR_584_16, sR_641_47, sR_643_47, sR_645_47, sR_646_47, sR_647_47, sR_648_47, sR_649_47, sR_650_47, sR_651_47, sR_652_47, sR_653_47, sR_654_47, sR_655_47, sR_656_47, sR_657_47, sR_658_47, sR_659_47, sR_661_47, sR_662_47, sR_663_47, sR_664_47, sR_665_47, sR_669_47, sR_670_47, sR_671_47, sR_672_47, sR_673_47, sR_674_47, sR_676_47, sR_677_47, sR_679_47, sR_680_47, sR_681_47, SH_I, SH_A, SH_G, SH_C, hS, Option.getD_some, ne_eq, reduceCtorEq, not_false_eq_true, not_true_eq_false, Option.bind_some, Option.toList_none, Option.toList_some, List.nil_append, List.cons_append, List.append_nil, ↓reduceIte, and_self, true_and, and_true, false_and, and_false, or_true, true_or, or_false, false_or, Nat.reduceEqDiff, Nat.reduceAdd, Int32.reduceMul, Int32.reduceAdd, Int32.reduceSub, Int32.reduceToNatClampNeg, Int32.reduceOfNat, Int32.reduceLT, Int32.reduceLE, va_rf]
end SM7
