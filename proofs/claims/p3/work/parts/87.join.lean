/-! orders copied -/
theorem getD_app {ds es : List (Nat → Int32)} {i : Nat} : (ds ++ es).getD i (fun _ => 0) = if i < ds.length then ds.getD i (fun _ => 0) else es.getD (i - ds.length) (fun _ => 0) := by
  rw [List.getD_eq_getElem?_getD, List.getD_eq_getElem?_getD, List.getD_eq_getElem?_getD]
  by_cases h : i < ds.length
  · rw [if_pos h, List.getElem?_append_left h]
  · rw [if_neg h, List.getElem?_append_right (by omega)]
section JOI
variable {d : Nat}
theorem c94 {σ : jS} {q a m s as ms i : Nat} {ds ss : List (Nat → Int32)} (hD : RO σ q a m ds) (hm : ds.length < m) (hR : RO σ s as ms ss) (hi : i < ss.length) (qa : ¬ q = a) (hs : s ∉ [q, a]) (has : as ∉ [q, a]) : ∃ σ', jx (d + 2) 94 0 [some (.ref q), some (.ref s), some (.int (nI i)), none] [] σ = some (none, σ') ∧ FR [q, a] σ σ' ∧ (∀ g, g ≠ 257 → jI σ' g q = jI σ g q) ∧ RO σ' q a m (ds ++ [ss.getD i (fun _ => 0)]) := by
  obtain ⟨σ2, e2, F2, hW2, hg2, hA2, hz2⟩ := c62 (d := d + 1) hD.1 hm qa
  have m24 : m ≤ 24 := hD.1.2.2.2.2.2.2.2
  have s24 : ss.length ≤ ms ∧ ms ≤ 24 := ⟨hR.1.2.2.2.2.2.2.1, hR.1.2.2.2.2.2.2.2⟩
  obtain ⟨o, eo⟩ : ∃ o, ss.getD i (fun _ => 0) = o := ⟨_, rfl⟩
  rw [eo]
  have L : ∀ f j υ, j + f = 6 → FR [q, a] σ υ → RW υ q a m (ds.length + 1) → (∀ g, g ≠ 257 → jI υ g q = jI σ g q) → (∀ k, k < 6 * ds.length → jA υ a k = jA σ a k) → (∀ k, k < j → jA υ a (6 * ds.length + k) = o k) → ∃ σ', jx (d + 2) 94 9 [some (.ref q), some (.ref s), some (.int (nI i)), some (.int (nI j))] [] υ = some (none, σ') ∧ FR [q, a] σ σ' ∧ RW σ' q a m (ds.length + 1) ∧ (∀ g, g ≠ 257 → jI σ' g q = jI σ g q) ∧ (∀ k, k < 6 * ds.length → jA σ' a k = jA σ a k) ∧ (∀ k, k < 6 → jA σ' a (6 * ds.length + k) = o k) := by
    intro f
    induction f with
    | zero =>
      intro j υ hj F w g h1 h2
      have e : j = 6 := by omega
      subst e
      exact ⟨υ, by rw [k94_9, if_pos (by decide), k94_38], F, w, g, h1, h2⟩
    | succ f ih =>
      intro j υ hj F w g h1 h2
      have j6 : ¬ (6 : Int32) ≤ nI j := nI_ge (b := 6) (by omega) (by omega)
      have c1 := c51 (d := d) (hR.frame F hs has) hi (j := j) (by omega)
      rw [eo] at c1
      have c2 := c63 (d := d) w (i := ds.length) (Nat.lt_succ_self _) (j := j) (by omega) (o j)
      have e257 : jI υ 257 q - 1 = nI ds.length := by rw [w.2.2.2.2.2.1, show (1 : Int32) = nI 1 from rfl, nsub (by omega)]; rfl
      obtain ⟨σ', e', F', w', g', h1', h2'⟩ := ih (j + 1) (jsA υ a (6 * ds.length + j) (o j)) (by omega) (F.A (by simp)) (w.frame ((FR.refl [a] υ).A (by simp)) (by simpa using qa)) (fun x hx => by rw [zA_I]; exact g x hx) (fun k hk => by rw [zA_A, if_neg (fun z => by omega)]; exact h1 k hk) (fun k hk => by
        rw [zA_A]
        by_cases e : k = j
        · rw [if_pos ⟨rfl, by omega⟩, e]
        · rw [if_neg (fun z => by omega)]; exact h2 k (by omega))
      refine ⟨σ', ?_, F', w', g', h1', h2'⟩
      rw [← e', k94_9, if_neg j6, k94_15 w.1 (by rw [F.1.1]; exact hR.1.1), c1, e257]
      simp only [Option.bind_some, Option.toList_some, List.cons_append, List.nil_append]
      rw [k94_29 w.1, c2]
      simp only [Option.bind_some, Option.toList_none, List.nil_append]
      rw [k94_32, ← nI_succ]
  obtain ⟨σ', e', F', w', g', h1', h2'⟩ := L 6 0 σ2 rfl F2 hW2 hg2 hA2 (fun k hk => absurd hk (Nat.not_lt_zero k))
  have le : (ds ++ [o]).length = ds.length + 1 := by rw [List.length_append]; rfl
  refine ⟨σ', ?_, F', g', by rw [le]; exact w', by rw [le]; exact w'.2.2.2.2.2.1, fun k j hk hj => ?_⟩
  · rw [k94_0 hD.1.1, e2]
    simp only [Option.bind_some, Option.toList_some, List.cons_append, List.nil_append]
    rw [k94_4, if_neg (by decide), k94_7]
    exact e'
  · rw [getD_app]
    by_cases h : k < ds.length
    · rw [if_pos h, h1' _ (by omega)]; exact hD.2.2 k j h hj
    · have e : k = ds.length := by omega
      rw [if_neg h, e, Nat.sub_self, h2' j hj]
      rfl
/-- the orders fr to t of ss -/
def sub (ss : List (Nat → Int32)) (fr t : Nat) : List (Nat → Int32) := (ss.take t).drop fr
theorem sub_len {ss : List (Nat → Int32)} {fr t : Nat} (h : t ≤ ss.length) : (sub ss fr t).length = t - fr := by
  unfold sub
  rw [List.length_drop, List.length_take, Nat.min_eq_left h]
theorem sub_get {ss : List (Nat → Int32)} {fr t i : Nat} (ht : t ≤ ss.length) (h : i < t - fr) : (sub ss fr t).getD i (fun _ => 0) = ss.getD (fr + i) (fun _ => 0) := by
  unfold sub
  rw [List.getD_eq_getElem?_getD, List.getElem?_drop, List.getElem?_take_of_lt (by omega), List.getD_eq_getElem?_getD]
theorem sub_succ {ss : List (Nat → Int32)} {fr t : Nat} (h : fr < t) (ht : t ≤ ss.length) : sub ss fr t = ss.getD fr (fun _ => 0) :: sub ss (fr + 1) t := by
  unfold sub
  have hl : fr < (ss.take t).length := by rw [List.length_take, Nat.min_eq_left ht]; exact h
  rw [List.drop_eq_getElem_cons hl, List.getElem_take, List.getD_eq_getElem?_getD, List.getElem?_eq_getElem (by omega)]
  rfl
theorem c93 {σ : jS} {q a m s as ms fr t : Nat} {ds ss : List (Nat → Int32)} (hD : RO σ q a m ds) (ht : t ≤ ss.length) (hft : fr ≤ t) (hm : ds.length + (t - fr) ≤ m) (hR : RO σ s as ms ss) (qa : ¬ q = a) (hs : s ∉ [q, a]) (has : as ∉ [q, a]) : ∃ σ', jx (d + 3) 93 0 [some (.ref q), some (.ref s), some (.int (nI fr)), some (.int (nI t)), none] [] σ = some (none, σ') ∧ FR [q, a] σ σ' ∧ (∀ g, g ≠ 257 → jI σ' g q = jI σ g q) ∧ RO σ' q a m (ds ++ sub ss fr t) := by
  have s24 : ss.length ≤ ms ∧ ms ≤ 24 := ⟨hR.1.2.2.2.2.2.2.1, hR.1.2.2.2.2.2.2.2⟩
  have L : ∀ f i υ es, i + f = t → FR [q, a] σ υ → (∀ g, g ≠ 257 → jI υ g q = jI σ g q) → RO υ q a m es → es.length + f ≤ m → ∃ σ', jx (d + 3) 93 3 [some (.ref q), some (.ref s), some (.int (nI fr)), some (.int (nI t)), some (.int (nI i))] [] υ = some (none, σ') ∧ FR [q, a] σ σ' ∧ (∀ g, g ≠ 257 → jI σ' g q = jI σ g q) ∧ RO σ' q a m (es ++ sub ss i t) := by
    intro f
    induction f with
    | zero =>
      intro i υ es hi F g ro _
      have e : i = t := by omega
      subst e
      have z : sub ss i i = [] := List.eq_nil_of_length_eq_zero (by rw [sub_len ht]; omega)
      refine ⟨υ, by rw [k93_3, if_pos (nI_le (Nat.le_refl _) (by omega)), k93_22], F, g, ?_⟩
      rw [z, List.append_nil]
      exact ro
    | succ f ih =>
      intro i υ es hi F g ro hl
      have hlt : i < ss.length := by omega
      obtain ⟨υ', e1, F1, g1, r1⟩ := c94 (d := d) ro (by omega) (hR.frame F hs has) hlt qa hs has
      have le : (es ++ [ss.getD i (fun _ => 0)]).length = es.length + 1 := by rw [List.length_append]; rfl
      obtain ⟨σ', e2, F2, g2, r2⟩ := ih (i + 1) υ' (es ++ [ss.getD i (fun _ => 0)]) (by omega) (F.trans F1) (fun x hx => by rw [g1 x hx, g x hx]) r1 (by omega)
      refine ⟨σ', ?_, F2, g2, ?_⟩
      · rw [k93_3, if_neg (nI_ge (by omega) (by omega)), k93_9 ro.1.1, e1]
        simp only [Option.bind_some, Option.toList_none, List.nil_append]
        rw [k93_16, ← nI_succ]
        exact e2
      · rw [List.append_assoc] at r2
        rw [sub_succ (by omega) ht]
        exact r2
  rw [k93_0]
  exact L (t - fr) fr σ ds (by omega) (FR.refl _ σ) (fun _ _ => rfl) hD hm
theorem c178 {σ : jS} (hS : SH σ) {x y : Nat} (hx : x < 384) (hy : y < 384) : ∃ σ', jx d 178 0 [some (.ref 47), some (.int (nI x)), some (.int (nI y))] [] σ = some (none, σ') ∧ FR [66, 67, 68, 69] σ σ' ∧ ∀ j i, j < 4 → jA σ' (66 + j) i = if i = y then jA σ (66 + j) x else jA σ (66 + j) i := by
  have gx : jin 384 (nI x) := jin_n hx (by decide)
  have gy : jin 384 (nI y) := jin_n hy (by decide)
  have cx : (nI x).toNatClampNeg = x := nI_clamp (by omega)
  have cy : (nI y).toNatClampNeg = y := nI_clamp (by omega)
  have b1 : jA (jsA σ 66 y (jA σ 66 x)) 67 x = jA σ 67 x := by rw [zA_A, if_neg (fun z => absurd z.1 (by decide))]
  have b2 : jA (jsA (jsA σ 66 y (jA σ 66 x)) 67 y (jA σ 67 x)) 68 x = jA σ 68 x := by rw [zA_A, if_neg (fun z => absurd z.1 (by decide)), zA_A, if_neg (fun z => absurd z.1 (by decide))]
  have b3 : jA (jsA (jsA (jsA σ 66 y (jA σ 66 x)) 67 y (jA σ 67 x)) 68 y (jA σ 68 x)) 69 x = jA σ 69 x := by rw [zA_A, if_neg (fun z => absurd z.1 (by decide)), zA_A, if_neg (fun z => absurd z.1 (by decide)), zA_A, if_neg (fun z => absurd z.1 (by decide))]
  refine ⟨jsA (jsA (jsA (jsA σ 66 y (jA σ 66 x)) 67 y (jA σ 67 x)) 68 y (jA σ 68 x)) 69 y (jA σ 69 x), ?_, ((((FR.refl _ σ).A (q := 66) (by decide)).A (q := 67) (by decide)).A (q := 68) (by decide)).A (by decide), fun j i hj => ?_⟩
  · simp (decide := true) only [k178_0, sT_1, sT_2, sT_3, sT_16, sT_17, sT_18, sT_19, sT_20, sT_21, sT_22, sT_23, sT_24, sT_25, sT_26, sT_27, sT_28, sT_29, sT_30, sT_31, sT_32, sT_33, sT_34, sT_35, sT_36, sT_37, sT_38, sT_39, sT_40, sT_41, sT_42, sT_43, sT_44, sT_45, sT_46, sT_47, sT_48, sT_49, sT_50, sT_51, sT_52, sT_53, sT_54, sT_55, sT_56, sT_57, sT_58, sT_59, sT_60, sT_61, sT_62, sT_63, sT_64, sT_65, sT_66, sT_67, sT_68, sT_69, sT_70, sT_71, sT_72, sT_73, sT_74, sT_75, sT_76, sT_77, sT_78, sT_79, sT_80, sN_1, sN_2, sN_19, sN_21, sN_23, sN_24, sN_26, sN_29, sN_31, sN_33, sN_35, sN_36, sN_37, sN_39, sN_40, sN_42, sN_44, sN_45, sN_46, sN_48, sN_49, sN_50, sN_51, sN_52, sN_53, sN_54, sN_55, sN_56, sN_57, sN_58, sN_59, sN_60, sN_61, sN_62, sN_63, sN_64, sN_65, sN_66, sN_67, sN_68, sN_69, sN_70, sN_71, sN_72, sN_73, sN_74, sN_75, sN_76, sN_77, sN_78, sN_79, sN_80, sR_0_34, sR_0_38, sR_1_34, sR_1_38, sR_64_20, sR_64_22, sR_128_25, sR_128_28, sR_194_17, sR_195_17, sR_196_17, sR_197_17, sR_258_30, sR_258_32, sR_258_41, sR_384_43, sR_448_18, sR_512_27, sR_513_27, sR_514_27, sR_515_27, sR_516_27, sR_576_16, sR_577_16, sR_578_16, sR_579_16, sR_580_16, sR_581_16, sR_582_16, sR_583_16, sR_584_16, sR_641_47, sR_643_47, sR_645_47, sR_646_47, sR_647_47, sR_648_47, sR_649_47, sR_650_47, sR_651_47, sR_652_47, sR_653_47, sR_654_47, sR_655_47, sR_656_47, sR_657_47, sR_658_47, sR_659_47, sR_661_47, sR_662_47, sR_663_47, sR_664_47, sR_665_47, sR_669_47, sR_670_47, sR_671_47, sR_672_47, sR_673_47, sR_674_47, sR_676_47, sR_677_47, sR_679_47, sR_680_47, sR_681_47, SH_I, SH_A, SH_G, SH_C, hS, gx, gy, cx, cy, b1, b2, b3, Option.getD_some, ne_eq, reduceCtorEq, not_false_eq_true, not_true_eq_false, Option.bind_some, Option.toList_none, Option.toList_some, List.nil_append, List.cons_append, List.append_nil, ↓reduceIte, and_self, true_and, and_true, false_and, and_false, or_true, true_or, or_false, false_or, Nat.reduceEqDiff, Nat.reduceAdd, Int32.reduceMul, Int32.reduceAdd, Int32.reduceSub, Int32.reduceToNatClampNeg, Int32.reduceOfNat, Int32.reduceLT, Int32.reduceLE, va_rf]
  · rcases jnf4 hj with h | h | h | h <;> subst h <;> by_cases e : i = y
    · subst e; simp (decide := true) only [zA_A, ↓reduceIte, and_self, and_true, true_and]
    · simp (decide := true) only [zA_A, e, ↓reduceIte, and_false]
    · subst e; simp (decide := true) only [zA_A, ↓reduceIte, and_self, and_true, true_and]
    · simp (decide := true) only [zA_A, e, ↓reduceIte, and_false]
    · subst e; simp (decide := true) only [zA_A, ↓reduceIte, and_self, and_true, true_and]
    · simp (decide := true) only [zA_A, e, ↓reduceIte, and_false]
    · subst e; simp (decide := true) only [zA_A, ↓reduceIte, and_self, and_true, true_and]
    · simp (decide := true) only [zA_A, e, ↓reduceIte, and_false]
end JOI
