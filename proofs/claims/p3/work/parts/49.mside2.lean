/-! the reference's reader: a side's number -/
def mNumR (len : Nat) (b : Nat → Int32) (W sd op : Nat) (s : jPS) (rg : Nat → Int32) : Option (jPS × (Nat → Int32)) :=
  if numN op = true then (mGap len b s.1).bind (fun p1 => (mTermR len b W op (sd == 0) p1 s.2.2.1 rg).bind (fun y =>
    if sd = 1 ∧ isSg (tv len b y.1) then (mTermR len b W op false (y.1 + 1) y.2.1 y.2.2.1).map (fun x => ((x.1, s.2.1, x.2.1, up6 (up6 (up6 s.2.2.2 2 y.2.2.2) 4 (tv len b y.1)) 5 x.2.2.2), x.2.2.1))
    else some ((y.1, s.2.1, y.2.1, up6 s.2.2.2 2 y.2.2.2), y.2.2.1)))
  else some (s, rg)
theorem mTermR_le {len : Nat} {b : Nat → Int32} {W op : Nat} {fs : Bool} {p : Nat} {ms : List Nat} {rg : Nat → Int32} {z : Nat × List Nat × (Nat → Int32) × Int32} (hp : p ≤ len) (h : mTermR len b W op fs p ms rg = some z) : z.1 ≤ len := by
  unfold mTermR at h
  split at h
  · obtain ⟨x, h1, h2⟩ := Option.map_eq_some_iff.mp h
    subst h2
    exact mNum_le hp h1
  · obtain ⟨x, h1, h2⟩ := Option.map_eq_some_iff.mp h
    subst h2
    unfold mMark at h1
    obtain ⟨y, h3, h4⟩ := Option.bind_eq_some_iff.mp h1
    obtain ⟨u, h5, h6⟩ := Option.map_eq_some_iff.mp h4
    subst h6
    exact mLet_le h3
theorem isSg_in {len : Nat} {b : Nat → Int32} {p : Nat} (h : isSg (tv len b p)) : p < len ∧ ¬ tv len b p = 0 := by
  refine ⟨tv_in (fun z => by rw [z] at h; exact absurd h (by decide)), fun z => by rw [z] at h; exact absurd h (by decide)⟩
theorem MT.frame {σ σ' : jS} {k : Nat} {v : Int32} (h : MT σ k v) (h1 : jA σ' 53 k = jA σ 53 k) (h2 : jA σ' 54 k = jA σ 54 k) : MT σ' k v := by
  unfold MT
  rw [h1, h2]
  exact h
section MS2
variable {d : Nat} {len W : Nat} {b : Nat → Int32}
theorem c131n {σ : jS} {s : jPS} (hA : rdA σ W len b s.1) {r k op : Nat} (hr : r < 24) (hk : k < 192) (ho : op < 19) {rg : Nat → Int32} (hC : rdC σ r s.2.2.1 rg) {sd : Nat} (hsd : sd = 0 ∨ sd = 1) (hf4 : s.2.2.2 4 = 0) {x3 x4 x7 x8 : Option Value} :
    ∃ σ', jx (d + 4) 131 129 [some (.ref 47), some (.int (nI r)), some (.int (nI sd)), x3, x4, some (.int (nI op)), some (.int (nI k)), x7, x8] [] σ = jx (d + 4) 131 256 [some (.ref 47), some (.int (nI r)), some (.int (nI sd)), x3, x4, some (.int (nI op)), some (.int (nI k)), x7, x8] [] σ' ∧ FR [47, 72, 57, 58, 53, 54, 51, 55] σ σ' ∧ (∀ g, g ≠ 666 → g ≠ 667 → g ≠ 668 → jI σ' g 47 = jI σ g 47) ∧ (∀ i, i ≠ r → jA σ' 57 i = jA σ 57 i) ∧ (∀ i, ¬ (3 * r ≤ i ∧ i < 3 * r + 3) → jA σ' 58 i = jA σ 58 i) ∧ (∀ i, ¬ (2 * k ≤ i ∧ i < 2 * k + 2) → jA σ' 53 i = jA σ 53 i ∧ jA σ' 54 i = jA σ 54 i) ∧ (∀ i, i ≠ k → jA σ' 51 i = jA σ 51 i ∧ jA σ' 55 i = jA σ 55 i) ∧
      (match mNumR len b W sd op s rg with | some y => rdA σ' W len b y.1.1 ∧ rdC σ' r y.1.2.2.1 y.2 ∧ jA σ' 51 k = nI op ∧ (numN op = true → MT σ' (2 * k) (y.1.2.2.2 2)) ∧ jA σ' 55 k = y.1.2.2.2 4 ∧ (¬ y.1.2.2.2 4 = 0 → MT σ' (2 * k + 1) (y.1.2.2.2 5)) | none => ¬ jI σ' 667 47 = 0) := by
  have hA0 := hA
  obtain ⟨hS, hN, hT, hp, hat, h0, hw⟩ := hA
  have gk : jin 192 (nI k) := jin_n hk (by decide)
  have ck : (nI k).toNatClampNeg = k := nI_clamp (by omega)
  obtain ⟨τ, eτ⟩ : ∃ τ, jsA (jsA σ 55 k 0) 51 k (nI op) = τ := ⟨_, rfl⟩
  have tI : jI τ = jI σ := by rw [← eτ, zA_I, zA_I]
  have Fτ : FR [51, 55] σ τ := eτ ▸ ((FR.refl _ σ).A (q := 55) (by decide)).A (by decide)
  have hSτ := Fτ.sh hS
  have t51 : ∀ i, jA τ 51 i = if i = k then nI op else jA σ 51 i := fun i => by
    rw [← eτ, zA_A]
    by_cases h : i = k
    · rw [if_pos ⟨rfl, h⟩, if_pos h]
    · rw [if_neg (fun y => h y.2), if_neg h, zA_A, if_neg (fun y => absurd y.1 (by decide))]
  have t55 : ∀ i, jA τ 55 i = if i = k then 0 else jA σ 55 i := fun i => by
    rw [← eτ, zA_A, if_neg (fun y => absurd y.1 (by decide)), zA_A]
    by_cases h : i = k
    · rw [if_pos ⟨rfl, h⟩, if_pos h]
    · rw [if_neg (fun y => h y.2), if_neg h]
  have hAτ : rdA τ W len b s.1 := hA0.frame Fτ (fun g _ _ _ => by rw [tI]) (by decide) (by decide) hp (by rw [tI]; exact hat) (by rw [tI]; exact h0)
  have hCτ : rdC τ r s.2.2.1 rg := hC.frame Fτ (by decide) (by decide) (by decide)
  have z0 : jI τ 667 47 = 0 := hAτ.2.2.2.2.2.1
  have c3 := c143 (d := d + 3) (σ := τ) ho
  have start : jx (d + 4) 131 129 [some (.ref 47), some (.int (nI r)), some (.int (nI sd)), x3, x4, some (.int (nI op)), some (.int (nI k)), x7, x8] [] σ = jx (d + 4) 131 165 [some (.ref 47), some (.int (nI r)), some (.int (nI sd)), x3, x4, some (.int (nI op)), some (.int (nI k)), x7, x8] [.int (if numN op = true then 1 else 0)] τ := by
    have a1 : jx (d + 4) 131 129 [some (.ref 47), some (.int (nI r)), some (.int (nI sd)), x3, x4, some (.int (nI op)), some (.int (nI k)), x7, x8] [] σ = jx (d + 4) 131 160 [some (.ref 47), some (.int (nI r)), some (.int (nI sd)), x3, x4, some (.int (nI op)), some (.int (nI k)), x7, x8] [] τ := by
      rw [← eτ]
      simp (decide := true) only [k131_129, k131_136, sT_1, sT_2, sT_3, sT_16, sT_17, sT_18, sT_19, sT_20, sT_21, sT_22, sT_23, sT_24, sT_25, sT_26, sT_27, sT_28, sT_29, sT_30, sT_31, sT_32, sT_33, sT_34, sT_35, sT_36, sT_37, sT_38, sT_39, sT_40, sT_41, sT_42, sT_43, sT_44, sT_45, sT_46, sT_47, sT_48, sT_49, sT_50, sT_51, sT_52, sT_53, sT_54, sT_55, sT_56, sT_57, sT_58, sT_59, sT_60, sT_61, sT_62, sT_63, sT_64, sT_65, sT_66, sT_67, sT_68, sT_69, sT_70, sT_71, sT_72, sT_73, sT_74, sT_75, sT_76, sT_77, sT_78, sT_79, sT_80, sN_1, sN_2, sN_19, sN_21, sN_23, sN_24, sN_26, sN_29, sN_31, sN_33, sN_35, sN_36, sN_37, sN_39, sN_40, sN_42, sN_44, sN_45, sN_46, sN_48, sN_49, sN_50, sN_51, sN_52, sN_53, sN_54, sN_55, sN_56, sN_57, sN_58, sN_59, sN_60, sN_61, sN_62, sN_63, sN_64, sN_65, sN_66, sN_67, sN_68, sN_69, sN_70, sN_71, sN_72, sN_73, sN_74, sN_75, sN_76, sN_77, sN_78, sN_79, sN_80, sR_0_34, sR_0_38, sR_1_34, sR_1_38, sR_64_20, sR_64_22, sR_128_25, sR_128_28, sR_194_17, sR_195_17, sR_196_17, sR_197_17, sR_258_30, sR_258_32, sR_258_41, sR_384_43, sR_448_18, sR_512_27, sR_513_27, sR_514_27, sR_515_27, sR_516_27, sR_576_16, sR_577_16, sR_578_16, sR_579_16, sR_580_16, sR_581_16, sR_582_16, sR_583_16, sR_584_16, sR_641_47, sR_643_47, sR_645_47, sR_646_47, sR_647_47, sR_648_47, sR_649_47, sR_650_47, sR_651_47, sR_652_47, sR_653_47, sR_654_47, sR_655_47, sR_656_47, sR_657_47, sR_658_47, sR_659_47, sR_661_47, sR_662_47, sR_663_47, sR_664_47, sR_665_47, sR_669_47, sR_670_47, sR_671_47, sR_672_47, sR_673_47, sR_674_47, sR_676_47, sR_677_47, sR_679_47, sR_680_47, sR_681_47, SH_I, SH_A, SH_G, SH_C, hS, h0, gk, ck, Option.getD_some, ne_eq, reduceCtorEq, not_false_eq_true, not_true_eq_false, Option.bind_some, Option.toList_none, Option.toList_some, List.nil_append, List.cons_append, List.append_nil, ↓reduceIte, and_self, true_and, and_true, false_and, and_false, or_true, true_or, or_false, false_or, Nat.reduceEqDiff, Nat.reduceAdd, Int32.reduceMul, Int32.reduceAdd, Int32.reduceSub, Int32.reduceToNatClampNeg, Int32.reduceOfNat, Int32.reduceLT, Int32.reduceLE, va_rf]
    rw [a1, k131_160, c3]
    rfl
  have u53 : ∀ i, jA τ 53 i = jA σ 53 i := (Fτ.2 53 (by decide)).2
  have u54 : ∀ i, jA τ 54 i = jA σ 54 i := (Fτ.2 54 (by decide)).2
  have u57 : ∀ i, jA τ 57 i = jA σ 57 i := (Fτ.2 57 (by decide)).2
  have u58 : ∀ i, jA τ 58 i = jA σ 58 i := (Fτ.2 58 (by decide)).2
  unfold mNumR
  by_cases hn : numN op = true
  · rw [if_pos hn]
    rw [if_pos hn] at start
    obtain ⟨σ1, e1, f1, r1⟩ := c138 (d := d + 1) hSτ hAτ.2.2.1 hp hAτ.2.2.2.2.1 z0
    have hS1 := f1.1.sh hSτ
    have F1 : FR [47, 72, 57, 58, 53, 54, 51, 55] σ σ1 := (Fτ.mono (by decide)).trans (f1.1.mono (by decide))
    have G1 : ∀ g, g ≠ 666 → g ≠ 667 → g ≠ 668 → jI σ1 g 47 = jI σ g 47 := fun g x y z => by rw [f1.2 g x y z, tI]
    have s1 : jx (d + 4) 131 129 [some (.ref 47), some (.int (nI r)), some (.int (nI sd)), x3, x4, some (.int (nI op)), some (.int (nI k)), x7, x8] [] σ = jx (d + 4) 131 172 [some (.ref 47), some (.int (nI r)), some (.int (nI sd)), x3, x4, some (.int (nI op)), some (.int (nI k)), x7, x8] [] σ1 := by
      rw [start, k131_165, if_neg (by decide), k131_168 (sT_47 hSτ), e1]
      rfl
    have m51 : ∀ i, jA σ1 51 i = if i = k then nI op else jA σ 51 i := fun i => by rw [(f1.1.2 51 (by decide)).2]; exact t51 i
    have m55 : ∀ i, jA σ1 55 i = if i = k then 0 else jA σ 55 i := fun i => by rw [(f1.1.2 55 (by decide)).2]; exact t55 i
    have m53 : ∀ i, jA σ1 53 i = jA σ 53 i := fun i => by rw [(f1.1.2 53 (by decide)).2]; exact u53 i
    have m54 : ∀ i, jA σ1 54 i = jA σ 54 i := fun i => by rw [(f1.1.2 54 (by decide)).2]; exact u54 i
    have m57 : ∀ i, jA σ1 57 i = jA σ 57 i := fun i => by rw [(f1.1.2 57 (by decide)).2]; exact u57 i
    have m58 : ∀ i, jA σ1 58 i = jA σ 58 i := fun i => by rw [(f1.1.2 58 (by decide)).2]; exact u58 i
    cases hG : mGap len b s.1 with
    | none =>
      rw [hG] at r1
      have r1 : ¬ jI σ1 667 47 = 0 := r1
      refine ⟨σ1, ?_, F1, G1, fun i _ => m57 i, fun i _ => m58 i, fun i _ => ⟨m53 i, m54 i⟩, fun i hi => ⟨by rw [m51, if_neg hi], by rw [m55, if_neg hi]⟩, r1⟩
      rw [s1, k131_172 (sT_47 hS1), if_pos r1, k131_199 (sT_47 hS1), if_pos r1]
    | some p1 =>
      rw [hG] at r1
      obtain ⟨a1, z1⟩ := r1
      have hp1 := mGap_le hp hG
      have hA1 : rdA σ1 W len b p1 := hAτ.frame f1.1 f1.2 (by decide) (by decide) hp1 a1 z1
      have hC1 : rdC σ1 r s.2.2.1 rg := hCτ.frame f1.1 (by decide) (by decide) (by decide)
      have hk2 : (2 : Int32) * nI k = nI (2 * k) := by rw [show (2 : Int32) = nI 2 from rfl, nmul]
      obtain ⟨σ2, e2, f2, g2, q57, q58, q53, q54, r2⟩ := c144 (d := d) hA1 hr (k := 2 * k) (by omega) ho hC1 (sd == 0)
      have hS2 := f2.sh hS1
      have F2 := F1.trans (f2.mono (l' := [47, 72, 57, 58, 53, 54, 51, 55]) (by decide))
      have G2 : ∀ g, g ≠ 666 → g ≠ 667 → g ≠ 668 → jI σ2 g 47 = jI σ g 47 := fun g x y z => by rw [g2 g x y z, G1 g x y z]
      have s2 : jx (d + 4) 131 129 [some (.ref 47), some (.int (nI r)), some (.int (nI sd)), x3, x4, some (.int (nI op)), some (.int (nI k)), x7, x8] [] σ = jx (d + 4) 131 199 [some (.ref 47), some (.int (nI r)), some (.int (nI sd)), x3, x4, some (.int (nI op)), some (.int (nI k)), x7, x8] [] σ2 := by
        rw [s1, k131_172 (sT_47 hS1), if_neg (fun z => z z1), k131_179, hk2]
        rcases hsd with h | h
        · subst h
          have eq : (if ((0 : Nat) == 0) = true then (1 : Int32) else 0) = 1 := rfl
          rw [eq] at e2
          rw [if_neg (fun z => z rfl), k131_191 (sT_47 hS1), e2]
          rfl
        · subst h
          have eq : (if ((1 : Nat) == 0) = true then (1 : Int32) else 0) = 0 := rfl
          rw [eq] at e2
          rw [if_pos (by decide), k131_195 (sT_47 hS1), e2]
          rfl
      have n51 : ∀ i, jA σ2 51 i = if i = k then nI op else jA σ 51 i := fun i => by rw [(f2.2 51 (by decide)).2]; exact m51 i
      have n55 : ∀ i, jA σ2 55 i = if i = k then 0 else jA σ 55 i := fun i => by rw [(f2.2 55 (by decide)).2]; exact m55 i
      have n53 : ∀ i, i ≠ 2 * k → jA σ2 53 i = jA σ 53 i := fun i hi => by rw [q53 i hi, m53]
      have n54 : ∀ i, i ≠ 2 * k → jA σ2 54 i = jA σ 54 i := fun i hi => by rw [q54 i hi, m54]
      have n57 : ∀ i, i ≠ r → jA σ2 57 i = jA σ 57 i := fun i hi => by rw [q57 i hi, m57]
      have n58 : ∀ i, ¬ (3 * r ≤ i ∧ i < 3 * r + 3) → jA σ2 58 i = jA σ 58 i := fun i hi => by rw [q58 i hi, m58]
      rw [Option.bind_some]
      cases hM : mTermR len b W op (sd == 0) p1 s.2.2.1 rg with
      | none =>
        rw [hM] at r2
        have r2 : ¬ jI σ2 667 47 = 0 := r2
        refine ⟨σ2, ?_, F2, G2, n57, n58, fun i hi => ⟨n53 i (by omega), n54 i (by omega)⟩, fun i hi => ⟨by rw [n51, if_neg hi], by rw [n55, if_neg hi]⟩, r2⟩
        rw [s2, k131_199 (sT_47 hS2), if_pos r2]
      | some y =>
        rw [hM] at r2
        obtain ⟨hA2, hC2, hM2⟩ := r2
        have z2 : jI σ2 667 47 = 0 := hA2.2.2.2.2.2.1
        have hl : len ≤ 400 := hT.2.1
        have s3 : jx (d + 4) 131 129 [some (.ref 47), some (.int (nI r)), some (.int (nI sd)), x3, x4, some (.int (nI op)), some (.int (nI k)), x7, x8] [] σ = jx (d + 4) 131 206 [some (.ref 47), some (.int (nI r)), some (.int (nI sd)), x3, x4, some (.int (nI op)), some (.int (nI k)), x7, x8] [] σ2 := by
          rw [s2, k131_199 (sT_47 hS2), if_neg (fun z => z z2)]
        have cl := c130 (d := d + 3) hS2 hA2.2.2.1 (p := y.1) (by have := hA2.2.2.2.1; omega) hA2.2.2.2.2.1
        rw [Option.bind_some]
        have plain : jx (d + 4) 131 129 [some (.ref 47), some (.int (nI r)), some (.int (nI sd)), x3, x4, some (.int (nI op)), some (.int (nI k)), x7, x8] [] σ = jx (d + 4) 131 256 [some (.ref 47), some (.int (nI r)), some (.int (nI sd)), x3, x4, some (.int (nI op)), some (.int (nI k)), x7, x8] [] σ2 →
            ∃ σ', jx (d + 4) 131 129 [some (.ref 47), some (.int (nI r)), some (.int (nI sd)), x3, x4, some (.int (nI op)), some (.int (nI k)), x7, x8] [] σ = jx (d + 4) 131 256 [some (.ref 47), some (.int (nI r)), some (.int (nI sd)), x3, x4, some (.int (nI op)), some (.int (nI k)), x7, x8] [] σ' ∧ FR [47, 72, 57, 58, 53, 54, 51, 55] σ σ' ∧ (∀ g, g ≠ 666 → g ≠ 667 → g ≠ 668 → jI σ' g 47 = jI σ g 47) ∧ (∀ i, i ≠ r → jA σ' 57 i = jA σ 57 i) ∧ (∀ i, ¬ (3 * r ≤ i ∧ i < 3 * r + 3) → jA σ' 58 i = jA σ 58 i) ∧ (∀ i, ¬ (2 * k ≤ i ∧ i < 2 * k + 2) → jA σ' 53 i = jA σ 53 i ∧ jA σ' 54 i = jA σ 54 i) ∧ (∀ i, i ≠ k → jA σ' 51 i = jA σ 51 i ∧ jA σ' 55 i = jA σ 55 i) ∧
            (rdA σ' W len b y.1 ∧ rdC σ' r y.2.1 y.2.2.1 ∧ jA σ' 51 k = nI op ∧ (numN op = true → MT σ' (2 * k) (up6 s.2.2.2 2 y.2.2.2 2)) ∧ jA σ' 55 k = up6 s.2.2.2 2 y.2.2.2 4 ∧ (¬ up6 s.2.2.2 2 y.2.2.2 4 = 0 → MT σ' (2 * k + 1) (up6 s.2.2.2 2 y.2.2.2 5))) := by
          intro e
          have w4 : up6 s.2.2.2 2 y.2.2.2 4 = 0 := hf4
          refine ⟨σ2, e, F2, G2, n57, n58, fun i hi => ⟨n53 i (by omega), n54 i (by omega)⟩, fun i hi => ⟨by rw [n51, if_neg hi], by rw [n55, if_neg hi]⟩, hA2, hC2, by rw [n51, if_pos rfl], fun _ => hM2, by rw [n55, if_pos rfl, w4], fun h => absurd w4 h⟩
        rcases hsd with h | h
        · subst h
          rw [if_neg (fun z => absurd z.1 (by decide))]
          exact plain (by rw [s3, k131_206, if_pos (by decide)])
        · subst h
          have s4 : jx (d + 4) 131 129 [some (.ref 47), some (.int (nI r)), some (.int (nI 1)), x3, x4, some (.int (nI op)), some (.int (nI k)), x7, x8] [] σ = jx (d + 4) 131 218 [some (.ref 47), some (.int (nI r)), some (.int (nI 1)), x3, x4, some (.int (nI op)), some (.int (nI k)), x7, x8] [.int (if isSg (tv len b y.1) then 1 else 0)] σ2 := by
            rw [s3, k131_206, if_neg (fun z => z rfl), k131_211 (sT_47 hS2), cl]
            simp only [Option.bind_some, Option.toList_some, List.cons_append, List.nil_append]
            rw [k131_215, c147]
            rfl
          by_cases hs : isSg (tv len b y.1)
          · rw [if_pos ⟨rfl, hs⟩]
            have i1 : (if isSg (tv len b y.1) then (1 : Int32) else 0) = 1 := if_pos hs
            rw [i1] at s4
            obtain ⟨hlt, hne⟩ := isSg_in hs
            obtain ⟨υ, eυ⟩ : ∃ υ, jsI (jsA σ2 55 k (tv len b y.1)) 666 47 (nI (y.1 + 1)) = υ := ⟨_, rfl⟩
            have Fυ : FR [47, 55] σ2 υ := eυ ▸ ((FR.refl _ σ2).A (q := 55) (by decide)).I (by decide)
            have Gυ : ∀ g, g ≠ 666 → g ≠ 667 → g ≠ 668 → jI υ g 47 = jI σ2 g 47 := fun g x y z => by rw [← eυ, zI_I, if_neg (fun q => x q.1), zA_I]
            have hAυ : rdA υ W len b (y.1 + 1) := hA2.frame Fυ Gυ (by decide) (by decide) hlt (by rw [← eυ, zI_I, if_pos ⟨rfl, rfl⟩]) (by rw [← eυ, zI_I, if_neg (by decide), zA_I]; exact z2)
            have hCυ : rdC υ r y.2.1 y.2.2.1 := hC2.frame Fυ (by decide) (by decide) (by decide)
            have hSυ := hAυ.1
            obtain ⟨σ3, e3, f3, g3, o57, o58, o53, o54, r3⟩ := c144 (d := d) hAυ hr (k := 2 * k + 1) (by omega) ho hCυ false
            have hk2' : nI (2 * k) + 1 = nI (2 * k + 1) := (nI_succ _).symm
            have eq : (if false = true then (1 : Int32) else 0) = 0 := rfl
            rw [eq] at e3
            have v55 : ∀ i, jA υ 55 i = if i = k then tv len b y.1 else jA σ 55 i := fun i => by
              rw [← eυ, zI_A, zA_A]
              by_cases h : i = k
              · rw [if_pos ⟨rfl, h⟩, if_pos h]
              · rw [if_neg (fun y => h y.2), if_neg h, n55, if_neg h]
            have v51 : ∀ i, jA υ 51 i = if i = k then nI op else jA σ 51 i := fun i => by rw [(Fυ.2 51 (by decide)).2]; exact n51 i
            have s5 : jx (d + 4) 131 129 [some (.ref 47), some (.int (nI r)), some (.int (nI 1)), x3, x4, some (.int (nI op)), some (.int (nI k)), x7, x8] [] σ = jx (d + 4) 131 256 [some (.ref 47), some (.int (nI r)), some (.int (nI 1)), x3, x4, some (.int (nI op)), some (.int (nI k)), x7, x8] [] σ3 := by
              rw [s4, k131_218, if_neg (by decide), k131_221 (sT_47 hS2) (by rw [sR_650_47 hS2]; exact fun z => nomatch z), cl, sR_650_47 hS2]
              simp only [Option.bind_some, Option.toList_some, List.cons_append, List.nil_append, Option.getD_some]
              rw [k131_231 (sT_55 hS2) (by rw [sN_55 hS2]; exact gk) (sT_47 hS2), ck, hA2.2.2.2.2.1, ← nI_succ, eυ, hk2, hk2', e3]
              rfl
            have F3 := (F2.trans (Fυ.mono (l' := [47, 72, 57, 58, 53, 54, 51, 55]) (by decide))).trans (f3.mono (l' := [47, 72, 57, 58, 53, 54, 51, 55]) (by decide))
            have w53 : ∀ i, i ≠ 2 * k + 1 → jA σ3 53 i = jA σ2 53 i := fun i hi => by rw [o53 i hi, (Fυ.2 53 (by decide)).2]
            have w54 : ∀ i, i ≠ 2 * k + 1 → jA σ3 54 i = jA σ2 54 i := fun i hi => by rw [o54 i hi, (Fυ.2 54 (by decide)).2]
            refine ⟨σ3, s5, F3, fun g x y z => by rw [g3 g x y z, Gυ g x y z, G2 g x y z], fun i hi => by rw [o57 i hi, (Fυ.2 57 (by decide)).2]; exact n57 i hi, fun i hi => by rw [o58 i hi, (Fυ.2 58 (by decide)).2]; exact n58 i hi, fun i hi => ⟨by rw [w53 i (by omega), n53 i (by omega)], by rw [w54 i (by omega), n54 i (by omega)]⟩, fun i hi => ⟨by rw [(f3.2 51 (by decide)).2, v51, if_neg hi], by rw [(f3.2 55 (by decide)).2, v55, if_neg hi]⟩, ?_⟩
            cases hX : mTermR len b W op false (y.1 + 1) y.2.1 y.2.2.1 with
            | none => rw [hX] at r3; exact r3
            | some x =>
              rw [hX] at r3
              obtain ⟨hA3, hC3, hM3⟩ := r3
              refine ⟨hA3, hC3, by rw [(f3.2 51 (by decide)).2, v51, if_pos rfl], fun _ => hM2.frame (w53 _ (by omega)) (w54 _ (by omega)), by rw [(f3.2 55 (by decide)).2, v55, if_pos rfl]; rfl, fun _ => hM3⟩
          · rw [if_neg (fun z => hs z.2)]
            have i0 : (if isSg (tv len b y.1) then (1 : Int32) else 0) = 0 := if_neg hs
            rw [i0] at s4
            exact plain (by rw [s4, k131_218, if_pos rfl])
  · rw [if_neg hn]
    rw [if_neg hn] at start
    refine ⟨τ, by rw [start, k131_165, if_pos rfl], Fτ.mono (by decide), fun g _ _ _ => by rw [tI], fun i _ => u57 i, fun i _ => u58 i, fun i _ => ⟨u53 i, u54 i⟩, fun i hi => ⟨by rw [t51, if_neg hi], by rw [t55, if_neg hi]⟩, hAτ, hCτ, by rw [t51, if_pos rfl], fun h => absurd h hn, by rw [t55, if_pos rfl]; exact hf4.symm, fun h => absurd hf4 h⟩
end MS2
