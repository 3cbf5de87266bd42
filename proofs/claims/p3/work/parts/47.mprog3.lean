/-! the reference's reader: a program whole -/
def PP (P a i : Nat) : Prop := (a = 65 ∧ i = P) ∨ (66 ≤ a ∧ a ≤ 69 ∧ 24 * P ≤ i ∧ i < 24 * P + 24)
def mFn (k : Nat) (g : Nat → Int32) : Nat → Int32 := fun j => if j = 0 then nI k else if j ≤ 3 then g (j - 1) else 0
def mOrds (len : Nat) (b : Nat → Int32) (W : Nat) : Nat → Nat → Nat → Option (List (Nat → Int32))
  | 0, _, _ => none
  | f + 1, n, p => (mOrd len b W n p).bind (fun z => if tv len b (sk len b z.2.1) = 59 then (mOrds len b W f (n + 1) (sk len b (sk len b z.2.1 + 1))).map (fun os => mFn z.1 z.2.2 :: os) else if len ≤ sk len b z.2.1 then some [mFn z.1 z.2.2] else none)
theorem jnf4 {j : Nat} (h : j < 4) : j = 0 ∨ j = 1 ∨ j = 2 ∨ j = 3 := by omega
section MP3
variable {d : Nat} {len W : Nat} {b : Nat → Int32}
theorem c159b {σ : jS} {p : Nat} (hx : 81 ≤ jnx σ) (hS : SH σ) (hT : TM σ len b) (hp : p ≤ len) (hat : jI σ 666 47 = nI p) (h0 : jI σ 667 47 = 0) {P n k q : Nat} (hP : P < 16) (hn : n < 24) (hq : 81 ≤ q) (t1 : jT σ q = 20) (t2 : jN σ q = 3) {g : Nat → Int32} (hg : ∀ i, i < 3 → jA σ q i = g i) {x7 x8 : Option Value} :
    ∃ σ' x3, jx (d + 3) 159 192 [some (.ref 47), some (.int (nI P)), some (.int (nI n)), some (.int 1), some (.int (nI k)), some (.int (nI (24 * P + n))), some (.ref q), x7, x8] [] σ = jx (d + 3) 159 28 [some (.ref 47), some (.int (nI P)), some (.int (nI (n + 1))), some (.int x3), some (.int (nI k)), some (.int (nI (24 * P + n))), some (.ref q), x7, x8] [] σ' ∧ PF (PP P) σ σ' ∧ jnx σ' = jnx σ ∧ jsl σ' = jsl σ ∧ (∀ j i, j < 4 → i ≠ 24 * P + n → jA σ' (66 + j) i = jA σ (66 + j) i) ∧ (∀ j, j < 4 → jA σ' (66 + j) (24 * P + n) = mFn k g j) ∧ (if tv len b (sk len b p) = 59 then x3 = 1 ∧ jI σ' 667 47 = 0 ∧ jI σ' 666 47 = nI (sk len b (sk len b p + 1)) else if len ≤ sk len b p then x3 = 0 ∧ jI σ' 667 47 = 0 else ¬ jI σ' 667 47 = 0) := by
  have hl : len ≤ 400 := hT.2.1
  have hK : 24 * P + n < 384 := by omega
  have hj : jin 384 (nI (24 * P + n)) := jin_n hK (by decide)
  have hcl : (nI (24 * P + n)).toNatClampNeg = 24 * P + n := nI_clamp (by omega)
  have cl0 : Int32.toNatClampNeg 0 = 0 := rfl
  have cl1 : Int32.toNatClampNeg 1 = 1 := rfl
  have cl2 : Int32.toNatClampNeg 2 = 2 := rfl
  have j0 : jin 3 0 := jin_n (N := 3) (k := 0) (by decide) (by decide)
  have j1 : jin 3 1 := jin_n (N := 3) (k := 1) (by decide) (by decide)
  have j2 : jin 3 2 := jin_n (N := 3) (k := 2) (by decide) (by decide)
  have q66 : ¬ q = 66 := by omega
  have q67 : ¬ q = 67 := by omega
  have q68 : ¬ q = 68 := by omega
  obtain ⟨τ, eτ⟩ : ∃ τ, jsA (jsA (jsA (jsA σ 66 (24 * P + n) (nI k)) 67 (24 * P + n) (jA σ q 0)) 68 (24 * P + n) (jA σ q 1)) 69 (24 * P + n) (jA σ q 2) = τ := ⟨_, rfl⟩
  have b0 : jA (jsA σ 66 (24 * P + n) (nI k)) q 0 = jA σ q 0 := by rw [zA_A, if_neg (fun y => q66 y.1)]
  have b1 : jA (jsA (jsA σ 66 (24 * P + n) (nI k)) 67 (24 * P + n) (jA σ q 0)) q 1 = jA σ q 1 := by rw [zA_A, if_neg (fun y => q67 y.1), zA_A, if_neg (fun y => q66 y.1)]
  have b2 : jA (jsA (jsA (jsA σ 66 (24 * P + n) (nI k)) 67 (24 * P + n) (jA σ q 0)) 68 (24 * P + n) (jA σ q 1)) q 2 = jA σ q 2 := by rw [zA_A, if_neg (fun y => q68 y.1), zA_A, if_neg (fun y => q67 y.1), zA_A, if_neg (fun y => q66 y.1)]
  have pp : ∀ a, 66 ≤ a → a ≤ 69 → PP P a (24 * P + n) := fun a h1 h2 => Or.inr ⟨h1, h2, by omega, by omega⟩
  have F : PF (PP P) σ τ := eτ ▸ ((((PF.refl _ σ).A (Or.inl (pp 66 (by decide) (by decide)))).A (Or.inl (pp 67 (by decide) (by decide)))).A (Or.inl (pp 68 (by decide) (by decide)))).A (Or.inl (pp 69 (by decide) (by decide)))
  have hSτ : SH τ := F.sh hx hS
  have tI : jI τ = jI σ := by rw [← eτ, zA_I, zA_I, zA_I, zA_I]
  have tx : jnx τ = jnx σ := by rw [← eτ, zA_nx, zA_nx, zA_nx, zA_nx]
  have tl : jsl τ = jsl σ := by rw [← eτ, zA_sl, zA_sl, zA_sl, zA_sl]
  have hTτ : TM τ len b := ⟨by rw [tI]; exact hT.1, hT.2.1, fun i hi => by
    rw [← eτ, zA_A, if_neg (fun y => absurd y.1 (by decide)), zA_A, if_neg (fun y => absurd y.1 (by decide)), zA_A, if_neg (fun y => absurd y.1 (by decide)), zA_A, if_neg (fun y => absurd y.1 (by decide))]
    exact hT.2.2 i hi⟩
  have c := c148 (d := d) hSτ hTτ hp (by rw [tI]; exact hat)
  have to : jx (d + 3) 159 192 [some (.ref 47), some (.int (nI P)), some (.int (nI n)), some (.int 1), some (.int (nI k)), some (.int (nI (24 * P + n))), some (.ref q), x7, x8] [] σ = (jx (d + 2) 148 0 [some (.ref 47)] [] τ).bind (fun z => jx (d + 3) 159 241 [some (.ref 47), some (.int (nI P)), some (.int (nI (n + 1))), some (.int 1), some (.int (nI k)), some (.int (nI (24 * P + n))), some (.ref q), x7, x8] (z.1.toList ++ []) z.2) := by
    rw [← eτ]
    simp (decide := true) only [k159_192, sT_1, sT_2, sT_3, sT_16, sT_17, sT_18, sT_19, sT_20, sT_21, sT_22, sT_23, sT_24, sT_25, sT_26, sT_27, sT_28, sT_29, sT_30, sT_31, sT_32, sT_33, sT_34, sT_35, sT_36, sT_37, sT_38, sT_39, sT_40, sT_41, sT_42, sT_43, sT_44, sT_45, sT_46, sT_47, sT_48, sT_49, sT_50, sT_51, sT_52, sT_53, sT_54, sT_55, sT_56, sT_57, sT_58, sT_59, sT_60, sT_61, sT_62, sT_63, sT_64, sT_65, sT_66, sT_67, sT_68, sT_69, sT_70, sT_71, sT_72, sT_73, sT_74, sT_75, sT_76, sT_77, sT_78, sT_79, sT_80, sN_1, sN_2, sN_19, sN_21, sN_23, sN_24, sN_26, sN_29, sN_31, sN_33, sN_35, sN_36, sN_37, sN_39, sN_40, sN_42, sN_44, sN_45, sN_46, sN_48, sN_49, sN_50, sN_51, sN_52, sN_53, sN_54, sN_55, sN_56, sN_57, sN_58, sN_59, sN_60, sN_61, sN_62, sN_63, sN_64, sN_65, sN_66, sN_67, sN_68, sN_69, sN_70, sN_71, sN_72, sN_73, sN_74, sN_75, sN_76, sN_77, sN_78, sN_79, sN_80, sR_0_34, sR_0_38, sR_1_34, sR_1_38, sR_64_20, sR_64_22, sR_128_25, sR_128_28, sR_194_17, sR_195_17, sR_196_17, sR_197_17, sR_258_30, sR_258_32, sR_258_41, sR_384_43, sR_448_18, sR_512_27, sR_513_27, sR_514_27, sR_515_27, sR_516_27, sR_576_16, sR_577_16, sR_578_16, sR_579_16, sR_580_16, sR_581_16, sR_582_16, sR_583_16, sR_584_16, sR_641_47, sR_643_47, sR_645_47, sR_646_47, sR_647_47, sR_648_47, sR_649_47, sR_650_47, sR_651_47, sR_652_47, sR_653_47, sR_654_47, sR_655_47, sR_656_47, sR_657_47, sR_658_47, sR_659_47, sR_661_47, sR_662_47, sR_663_47, sR_664_47, sR_665_47, sR_669_47, sR_670_47, sR_671_47, sR_672_47, sR_673_47, sR_674_47, sR_676_47, sR_677_47, sR_679_47, sR_680_47, sR_681_47, SH_I, SH_A, SH_G, SH_C, hS, t1, t2, hj, hcl, cl0, cl1, cl2, j0, j1, j2, b0, b1, b2, nI_succ, Option.getD_some, ne_eq, reduceCtorEq, not_false_eq_true, not_true_eq_false, Option.bind_some, Option.toList_none, Option.toList_some, List.nil_append, List.cons_append, List.append_nil, ↓reduceIte, and_self, true_and, and_true, false_and, and_false, or_true, true_or, or_false, false_or, Nat.reduceEqDiff, Nat.reduceAdd, Int32.reduceMul, Int32.reduceAdd, Int32.reduceSub, Int32.reduceToNatClampNeg, Int32.reduceOfNat, Int32.reduceLT, Int32.reduceLE, va_rf]
  have k1 := sk_le (b := b) hp
  have u1 : ∀ j i, j < 4 → i ≠ 24 * P + n → jA τ (66 + j) i = jA σ (66 + j) i := by
    intro j i hj4 hi
    rw [← eτ]
    rw [zA_A, if_neg (fun y => hi y.2), zA_A, if_neg (fun y => hi y.2), zA_A, if_neg (fun y => hi y.2), zA_A, if_neg (fun y => hi y.2)]
  have u2 : ∀ j, j < 4 → jA τ (66 + j) (24 * P + n) = mFn k g j := by
    intro j hj4
    rw [← eτ, hg 0 (by decide), hg 1 (by decide), hg 2 (by decide)]
    rcases jnf4 hj4 with h | h | h | h <;> subst h <;> simp (decide := true) only [zA_A, mFn, ↓reduceIte]
  by_cases h59 : tv len b (sk len b p) = 59
  · rw [if_pos h59] at c
    refine ⟨jsI τ 666 47 (nI (sk len b (sk len b p + 1))), 1, ?_, F.I (Or.inl rfl), by rw [zI_nx]; exact tx, by rw [zI_sl]; exact tl, by rw [zI_A]; exact u1, by rw [zI_A]; exact u2, ?_⟩
    · rw [to, c]
      simp (decide := true) only [k159_241, k159_244, k159_274, Option.getD_some, ne_eq, reduceCtorEq, not_false_eq_true, not_true_eq_false, Option.bind_some, Option.toList_none, Option.toList_some, List.nil_append, List.cons_append, List.append_nil, ↓reduceIte, and_self, true_and, and_true, false_and, and_false, or_true, true_or, or_false, false_or, Nat.reduceEqDiff, Nat.reduceAdd, Int32.reduceMul, Int32.reduceAdd, Int32.reduceSub, Int32.reduceToNatClampNeg, Int32.reduceOfNat, Int32.reduceLT, Int32.reduceLE, va_rf]
    · rw [if_pos h59]
      refine ⟨rfl, ?_, ?_⟩
      · rw [zI_I, if_neg (by decide), tI]; exact h0
      · rw [zI_I, if_pos ⟨rfl, rfl⟩]
  · rw [if_neg h59] at c
    have hS5 : SH (jsI τ 666 47 (nI (sk len b p))) := by rw [SH_I]; exact hSτ
    have tp : jI (jsI τ 666 47 (nI (sk len b p))) 642 47 = nI len := by rw [zI_I, if_neg (by decide), tI]; exact hT.1
    have ta : jI (jsI τ 666 47 (nI (sk len b p))) 666 47 = nI (sk len b p) := by rw [zI_I, if_pos ⟨rfl, rfl⟩]
    by_cases he : len ≤ sk len b p
    · have hle : nI len ≤ nI (sk len b p) := nI_le he (by omega)
      refine ⟨jsI τ 666 47 (nI (sk len b p)), 0, ?_, F.I (Or.inl rfl), by rw [zI_nx]; exact tx, by rw [zI_sl]; exact tl, by rw [zI_A]; exact u1, by rw [zI_A]; exact u2, ?_⟩
      · rw [to, c]
        simp (decide := true) only [k159_241, k159_248, k159_254, k159_274, sT_47 hS5, tp, ta, hle, Option.bind_some, Option.toList_some, List.cons_append, List.nil_append, ↓reduceIte]
      · rw [if_neg h59, if_pos he]
        refine ⟨rfl, ?_⟩
        rw [zI_I, if_neg (by decide), tI]; exact h0
    · have hle : ¬ nI len ≤ nI (sk len b p) := nI_ge (by omega) (by omega)
      have h05 : jI (jsI τ 666 47 (nI (sk len b p))) 667 47 = 0 := by rw [zI_I, if_neg (by decide), tI]; exact h0
      obtain ⟨σ6, e6, f6, r6⟩ := c136x (d := d + 2) (σ := jsI τ 666 47 (nI (sk len b p))) hS5 h05 (c := 1) (by decide) (nI (sk len b p))
      have G := (F.I (g := 666) (v := nI (sk len b p)) (Or.inl rfl)).mf f6
      refine ⟨σ6, 0, ?_, G, ?_, ?_, ?_, ?_, by rw [if_neg h59, if_neg he]; exact r6⟩
      · rw [to, c]
        simp (decide := true) only [k159_241, k159_248, k159_254, k159_265, k159_274, sT_47 hS5, tp, ta, hle, e6, Option.bind_some, Option.toList_some, Option.toList_none, List.cons_append, List.nil_append, ↓reduceIte]
      · rw [f6.1.1.2.2.2.2.1, zI_nx]; exact tx
      · rw [f6.1.1.2.2.2.2.2, zI_sl]; exact tl
      · intro j i hj4 hi
        rw [(f6.1.2 (66 + j) (by simp; omega)).2, zI_A]; exact u1 j i hj4 hi
      · intro j hj4
        rw [(f6.1.2 (66 + j) (by simp; omega)).2, zI_A]; exact u2 j hj4
theorem c159o {P : Nat} (hP : P < 16) (hW : W = 1 ∨ W = 2 ∨ W = 3) : ∀ (f n p : Nat) (σ : jS) (x4 x5 x6 x7 x8 : Option Value), n + f = 25 → 81 ≤ jnx σ → SH σ → NV σ → TM σ len b → p ≤ len → jI σ 666 47 = nI p → jI σ 667 47 = 0 → jI σ 640 47 = nI W → 1 ≤ f →
    ∃ σ' n' x3 v4 v5 v6 v7 v8, jx (d + 3) 159 28 [some (.ref 47), some (.int (nI P)), some (.int (nI n)), some (.int 1), x4, x5, x6, x7, x8] [] σ = jx (d + 3) 159 277 [some (.ref 47), some (.int (nI P)), some (.int (nI n')), some (.int x3), v4, v5, v6, v7, v8] [] σ' ∧ PF (PP P) σ σ' ∧ jnx σ' ≤ jnx σ + f ∧ jsl σ' ≤ jsl σ + 3 * f ∧ (∀ j i, j < 4 → i < 24 * P + n → jA σ' (66 + j) i = jA σ (66 + j) i) ∧ (match mOrds len b W f n p with | some os => n' = n + os.length ∧ n' ≤ 24 ∧ jI σ' 667 47 = 0 ∧ (∀ i j, i < os.length → j < 4 → jA σ' (66 + j) (24 * P + n + i) = (os.getD i (fun _ => 0)) j) | none => ¬ jI σ' 667 47 = 0) := by
  intro f
  induction f with
  | zero => intro n p σ x4 x5 x6 x7 x8 h1 h2 h3 h4 h5 h6 h7 h8 h9 h10; exact absurd h10 (by decide)
  | succ f ih =>
    intro n p σ x4 x5 x6 x7 x8 hn hx hS hN hT hp hat h0 hw _
    have out : ∀ (υ : jS), SH υ → ∀ (m : Nat) (x3 : Int32) (y4 y5 y6 y7 y8 : Option Value), (x3 = 0 ∨ ¬ jI υ 667 47 = 0) → jx (d + 3) 159 28 [some (.ref 47), some (.int (nI P)), some (.int (nI m)), some (.int x3), y4, y5, y6, y7, y8] [] υ = jx (d + 3) 159 277 [some (.ref 47), some (.int (nI P)), some (.int (nI m)), some (.int x3), y4, y5, y6, y7, y8] [] υ := by
      intro υ hSu m x3 y4 y5 y6 y7 y8 h
      rw [k159_28]
      by_cases h3 : x3 = 0
      · rw [if_pos h3]
      · rw [if_neg h3, k159_32 (sT_47 hSu), if_pos (h.resolve_left h3)]
    obtain ⟨σ1, w4, w7, w8, F1, nx1, sl1, r1⟩ := c159a (d := d) hx hS hN hT hp hat h0 hW hw P n (x4 := x4) (x5 := x5) (x6 := x6) (x7 := x7) (x8 := x8)
    have hS1 := F1.sh hx hS
    have G1 : PF (PP P) σ σ1 := F1.mono (fun _ _ z => z.elim)
    have keep1 : ∀ j i, j < 4 → jA σ1 (66 + j) i = jA σ (66 + j) i := fun j i hj => F1.ar hx (by omega) i id (by omega)
    unfold mOrds
    cases hO : mOrd len b W n p with
    | none =>
      rw [hO] at r1
      obtain ⟨e1, z1⟩ := r1
      refine ⟨σ1, n, 1, w4, some (.int (nI (24 * P + n))), some (.ref (jnx σ)), w7, w8, ?_, G1, by omega, by omega, fun j i hj _ => keep1 j i hj, z1⟩
      rw [e1, k159_274]
      exact out σ1 hS1 n 1 _ _ _ _ _ (Or.inr z1)
    | some z =>
      rw [hO] at r1
      obtain ⟨e1, a1, z1, hk, hl1, t1, t2, hg⟩ := r1
      have hn24 : n < 24 := by
        have hM : ∃ y, mName len b (nI n = 24) p = some y := by
          unfold mOrd at hO
          obtain ⟨y, hy, _⟩ := Option.bind_eq_some_iff.mp hO
          exact ⟨y, hy⟩
        obtain ⟨y, hy⟩ := hM
        have := (mName_ok hy).2.2.2
        have h24 : n ≠ 24 := fun e => this (by rw [e]; rfl)
        omega
      obtain ⟨σ2, x3, e2, F2, nx2, sl2, k2, g2, r2⟩ := c159b (d := d) (len := len) (b := b) (σ := σ1) (p := z.2.1) (by omega) hS1 (F1.tm hx (fun _ => id) hT) hl1 a1 z1 (P := P) (n := n) (k := z.1) (q := jnx σ) hP hn24 hx t1 t2 hg (x7 := w7) (x8 := w8)
      have hS2 := F2.sh (by omega) hS1
      have G2 := G1.trans F2
      have n48 : ∀ i, ¬ PP P 48 i := fun i z => by rcases z with z | z <;> omega
      have n70 : ∀ i, ¬ PP P 70 i := fun i z => by rcases z with z | z <;> omega
      have hT2 : TM σ2 len b := G2.tm hx n48 hT
      rw [Option.bind_some]
      by_cases h59 : tv len b (sk len b z.2.1) = 59
      · rw [if_pos h59] at r2
        rw [if_pos h59]
        obtain ⟨x31, z2, a2⟩ := r2
        have pk := sk_le (b := b) hl1
        have plt : sk len b z.2.1 < len := tv_lit h59 (by decide)
        have pk2 := sk_le (b := b) (p := sk len b z.2.1 + 1) plt
        obtain ⟨σ3, n', x3', v4, v5, v6, v7, v8, e3, F3, nx3, sl3, k3, r3⟩ := ih (n + 1) (sk len b (sk len b z.2.1 + 1)) σ2 (some (.int (nI z.1))) (some (.int (nI (24 * P + n)))) (some (.ref (jnx σ))) w7 w8 (by omega) (by omega) hS2 (G2.nv hx n70 hN) hT2 pk2.2 a2 z2 (by rw [G2.f47 hx (by decide)]; exact hw) (by omega)
        refine ⟨σ3, n', x3', v4, v5, v6, v7, v8, ?_, G2.trans F3, by omega, by omega, ?_, ?_⟩
        · rw [e1, e2, x31, e3]
        · intro j i hj hi
          rw [k3 j i hj (by omega), k2 j i hj (by omega), keep1 j i hj]
        · cases hR : mOrds len b W f (n + 1) (sk len b (sk len b z.2.1 + 1)) with
          | none => rw [hR] at r3; exact r3
          | some os =>
            rw [hR] at r3
            obtain ⟨q1, q2, q3, q4⟩ := r3
            refine ⟨by rw [q1, List.length_cons]; omega, q2, q3, fun i j hi hj => ?_⟩
            cases i with
            | zero =>
              rw [show 24 * P + n + 0 = 24 * P + n from rfl, k3 j (24 * P + n) hj (by omega), g2 j hj]
              rfl
            | succ i =>
              rw [show 24 * P + n + (i + 1) = 24 * P + (n + 1) + i by omega, q4 i j (by rw [List.length_cons] at hi; omega) hj]
              rfl
      · rw [if_neg h59] at r2
        rw [if_neg h59]
        by_cases he : len ≤ sk len b z.2.1
        · rw [if_pos he] at r2
          rw [if_pos he]
          obtain ⟨x30, z2⟩ := r2
          refine ⟨σ2, n + 1, 0, some (.int (nI z.1)), some (.int (nI (24 * P + n))), some (.ref (jnx σ)), w7, w8, ?_, G2, by omega, by omega, ?_, rfl, by omega, z2, ?_⟩
          · rw [e1, e2, x30]
            exact out σ2 hS2 (n + 1) 0 _ _ _ _ _ (Or.inl rfl)
          · intro j i hj hi
            rw [k2 j i hj (by omega), keep1 j i hj]
          · intro i j hi hj
            have i0 : i = 0 := by rw [List.length_cons, List.length_nil] at hi; omega
            subst i0
            rw [show 24 * P + n + 0 = 24 * P + n from rfl, g2 j hj]
            rfl
        · rw [if_neg he] at r2
          rw [if_neg he]
          refine ⟨σ2, n + 1, x3, some (.int (nI z.1)), some (.int (nI (24 * P + n))), some (.ref (jnx σ)), w7, w8, ?_, G2, by omega, by omega, ?_, r2⟩
          · rw [e1, e2]
            exact out σ2 hS2 (n + 1) x3 _ _ _ _ _ (Or.inr r2)
          · intro j i hj hi
            rw [k2 j i hj (by omega), keep1 j i hj]
def mProg (len : Nat) (b : Nat → Int32) (W : Nat) : Option (List (Nat → Int32)) := if len ≤ sk len b 0 then some [] else mOrds len b W 25 0 (sk len b 0)
theorem c159 {σ : jS} {P : Nat} (hP : P < 16) (hW : W = 1 ∨ W = 2 ∨ W = 3) (hx : 81 ≤ jnx σ) (hS : SH σ) (hN : NV σ) (hT : TM σ len b) (h0 : jI σ 667 47 = 0) (hw : jI σ 640 47 = nI W) :
    ∃ σ', jx (d + 3) 159 0 [some (.ref 47), some (.int (nI P)), none, none, none, none, none, none, none] [] σ = some (none, σ') ∧ PF (PP P) σ σ' ∧ jnx σ' ≤ jnx σ + 25 ∧ jsl σ' ≤ jsl σ + 75 ∧ (match mProg len b W with | some os => jA σ' 65 P = nI os.length ∧ os.length ≤ 24 ∧ jI σ' 667 47 = 0 ∧ (∀ i j, i < os.length → j < 4 → jA σ' (66 + j) (24 * P + i) = (os.getD i (fun _ => 0)) j) | none => ¬ jI σ' 667 47 = 0) := by
  have hl : len ≤ 400 := hT.2.1
  have pk := sk_le (b := b) (Nat.zero_le len)
  have hS1 : SH (jsI σ 666 47 0) := by rw [SH_I]; exact hS
  have hT1 : TM (jsI σ 666 47 0) len b := by rw [TM_I (by decide)]; exact hT
  have c := c129 (d := d + 1) hS1 hT1 (p := 0) (by omega) (by rw [zI_I, if_pos ⟨rfl, rfl⟩]; rfl)
  have hS2 : SH (jsI (jsI σ 666 47 0) 666 47 (nI (sk len b 0))) := by rw [SH_I, SH_I]; exact hS
  have start : jx (d + 3) 159 0 [some (.ref 47), some (.int (nI P)), none, none, none, none, none, none, none] [] σ = jx (d + 3) 159 11 [some (.ref 47), some (.int (nI P)), some (.int (nI 0)), none, none, none, none, none, none] [] (jsI σ 666 47 (nI (sk len b 0))) := by
    rw [k159_0 (sT_47 hS), c, jsI_jsI]
    rfl
  rw [jsI_jsI] at hS2
  have ta : jI (jsI σ 666 47 (nI (sk len b 0))) 666 47 = nI (sk len b 0) := by rw [zI_I, if_pos ⟨rfl, rfl⟩]
  have tp : jI (jsI σ 666 47 (nI (sk len b 0))) 642 47 = nI len := by rw [zI_I, if_neg (by decide)]; exact hT.1
  have F2 : PF (PP P) σ (jsI σ 666 47 (nI (sk len b 0))) := (PF.refl _ σ).I (Or.inl rfl)
  have hjp : jin 16 (nI P) := jin_n hP (by decide)
  have hcp : (nI P).toNatClampNeg = P := nI_clamp (by omega)
  have fin : ∀ (υ : jS), SH υ → ∀ (m : Nat) (y3 y4 y5 y6 y7 y8 : Option Value), jx (d + 3) 159 277 [some (.ref 47), some (.int (nI P)), some (.int (nI m)), y3, y4, y5, y6, y7, y8] [] υ = some (none, jsA υ 65 P (nI m)) := by
    intro υ hSu m y3 y4 y5 y6 y7 y8
    simp (decide := true) only [k159_277, sT_1, sT_2, sT_3, sT_16, sT_17, sT_18, sT_19, sT_20, sT_21, sT_22, sT_23, sT_24, sT_25, sT_26, sT_27, sT_28, sT_29, sT_30, sT_31, sT_32, sT_33, sT_34, sT_35, sT_36, sT_37, sT_38, sT_39, sT_40, sT_41, sT_42, sT_43, sT_44, sT_45, sT_46, sT_47, sT_48, sT_49, sT_50, sT_51, sT_52, sT_53, sT_54, sT_55, sT_56, sT_57, sT_58, sT_59, sT_60, sT_61, sT_62, sT_63, sT_64, sT_65, sT_66, sT_67, sT_68, sT_69, sT_70, sT_71, sT_72, sT_73, sT_74, sT_75, sT_76, sT_77, sT_78, sT_79, sT_80, sN_1, sN_2, sN_19, sN_21, sN_23, sN_24, sN_26, sN_29, sN_31, sN_33, sN_35, sN_36, sN_37, sN_39, sN_40, sN_42, sN_44, sN_45, sN_46, sN_48, sN_49, sN_50, sN_51, sN_52, sN_53, sN_54, sN_55, sN_56, sN_57, sN_58, sN_59, sN_60, sN_61, sN_62, sN_63, sN_64, sN_65, sN_66, sN_67, sN_68, sN_69, sN_70, sN_71, sN_72, sN_73, sN_74, sN_75, sN_76, sN_77, sN_78, sN_79, sN_80, sR_0_34, sR_0_38, sR_1_34, sR_1_38, sR_64_20, sR_64_22, sR_128_25, sR_128_28, sR_194_17, sR_195_17, sR_196_17, sR_197_17, sR_258_30, sR_258_32, sR_258_41, sR_384_43, sR_448_18, sR_512_27, sR_513_27, sR_514_27, sR_515_27, sR_516_27, sR_576_16, sR_577_16, sR_578_16, sR_579_16, sR_580_16, sR_581_16, sR_582_16, sR_583_16, sR_584_16, sR_641_47, sR_643_47, sR_645_47, sR_646_47, sR_647_47, sR_648_47, sR_649_47, sR_650_47, sR_651_47, sR_652_47, sR_653_47, sR_654_47, sR_655_47, sR_656_47, sR_657_47, sR_658_47, sR_659_47, sR_661_47, sR_662_47, sR_663_47, sR_664_47, sR_665_47, sR_669_47, sR_670_47, sR_671_47, sR_672_47, sR_673_47, sR_674_47, sR_676_47, sR_677_47, sR_679_47, sR_680_47, sR_681_47, SH_I, SH_A, SH_G, SH_C, hSu, hjp, hcp, Option.getD_some, ne_eq, reduceCtorEq, not_false_eq_true, not_true_eq_false, Option.bind_some, Option.toList_none, Option.toList_some, List.nil_append, List.cons_append, List.append_nil, ↓reduceIte, and_self, true_and, and_true, false_and, and_false, or_true, true_or, or_false, false_or, Nat.reduceEqDiff, Nat.reduceAdd, Int32.reduceMul, Int32.reduceAdd, Int32.reduceSub, Int32.reduceToNatClampNeg, Int32.reduceOfNat, Int32.reduceLT, Int32.reduceLE, va_rf]
  have n65 : PP P 65 P := Or.inl ⟨rfl, rfl⟩
  unfold mProg
  by_cases he : len ≤ sk len b 0
  · rw [if_pos he]
    have hle : nI len ≤ nI (sk len b 0) := nI_le he (by omega)
    refine ⟨jsA (jsI σ 666 47 (nI (sk len b 0))) 65 P (nI 0), ?_, F2.A (Or.inl n65), by show jnx σ ≤ _; omega, by show jsl σ ≤ _; omega, ?_, by decide, ?_, fun i j hi => absurd hi (Nat.not_lt_zero i)⟩
    · rw [start, k159_11 (sT_47 hS2), ta, tp, if_pos hle, k159_26, k159_28, if_pos rfl]
      exact fin _ hS2 0 _ _ _ _ _ _
    · rw [zA_A, if_pos ⟨rfl, rfl⟩]; rfl
    · rw [zA_I, zI_I, if_neg (by decide)]; exact h0
  · rw [if_neg he]
    have hle : ¬ nI len ≤ nI (sk len b 0) := nI_ge (by omega) (by omega)
    obtain ⟨σ3, n', x3, v4, v5, v6, v7, v8, e3, F3, nx3, sl3, k3, r3⟩ := c159o (d := d) (len := len) (W := W) (b := b) hP hW 25 0 (sk len b 0) (jsI σ 666 47 (nI (sk len b 0))) none none none none none rfl hx hS2 (F2.nv hx (fun i z => by rcases z with z | z <;> omega) hN) (F2.tm hx (fun i z => by rcases z with z | z <;> omega) hT) pk.2 ta (by rw [zI_I, if_neg (by decide)]; exact h0) (by rw [zI_I, if_neg (by decide)]; exact hw) (by decide)
    have hS3 := F3.sh hx hS2
    refine ⟨jsA σ3 65 P (nI n'), ?_, (F2.trans F3).A (Or.inl n65), nx3, sl3, ?_⟩
    · rw [start, k159_11 (sT_47 hS2), ta, tp, if_neg hle, k159_22, e3]
      exact fin _ hS3 n' _ _ _ _ _ _
    · cases hR : mOrds len b W 25 0 (sk len b 0) with
      | none => rw [hR] at r3; exact r3
      | some os =>
        rw [hR] at r3
        obtain ⟨q1, q2, q3, q4⟩ := r3
        refine ⟨by rw [zA_A, if_pos ⟨rfl, rfl⟩, q1, Nat.zero_add], by omega, q3, fun i j hi hj => ?_⟩
        rw [zA_A, if_neg (by omega)]
        exact q4 i j hi hj
end MP3
