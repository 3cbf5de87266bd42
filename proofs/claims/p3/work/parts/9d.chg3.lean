/-! change: the reference -/
theorem nI_prd (j : Nat) : nI (j + 1) + (-1) = nI j := by
  rw [nI_succ, Int32.add_assoc]
  exact Int32.add_zero _
abbrev w9 (p pl r n m S : Nat) (l8 l9 l10 l11 : Option Value) : List (Option Value) := [some (.ref 47), some (.int (nI p)), some (.int (nI pl)), some (.int (nI r)), some (.int (nI n)), some (.int (nI m)), some (.int (nI S)), some (.int (nI (24 * p))), l8, l9, l10, l11]
section CH3
variable {d : Nat} {σ : jS} {s : AS}
/-- one order is put -/
theorem c186o {W p pl r n m S i nr nm : Nat} {x : BN × BN} {o : Nat → Int32} {l9 l10 l11 : Option Value} (hS : SH σ) (hW : W = 1 ∨ W = 2 ∨ W = 3) (hw : jI σ 640 47 = nI W) (hb : RB (-4) σ 76 77 x) (hF : FUL nr nm x) (hnr : nr ≤ 4) (hnm : nm ≤ 3) (ho : WFo nr nm o) (hO : MO σ (8 * r + 4 + i) o) (hp : p < 16) (hr : r < 24) (hm : m ≤ 4) (hi : i < m) (hpl : pl + i < 24) : ∃ σ' l9' l10' l11', jx (d + 3) 186 143 (w9 p pl r n m S (some (.int (nI i))) l9 l10 l11) [] σ = jx (d + 3) 186 143 (w9 p pl r n m S (some (.int (nI (i + 1)))) l9' l10' l11') [] σ' ∧ FR [66, 67, 68, 69] σ σ' ∧ ∀ j z, j < 4 → jA σ' (66 + j) z = if z = 24 * p + pl + i then newO W x o j else jA σ (66 + j) z := by
  obtain ⟨v0, v1, v2, v3⟩ := newO_val hW hnr hnm hF ho
  obtain ⟨ok1, ok2⟩ := ho.op
  have hO0 := hO
  obtain ⟨k1, k2, k3, k4, k5⟩ := hO
  have r3 := regN3 (opO o)
  have R : ∀ {υ : jS} {g a : Nat}, jR υ g 47 = some a → (jR υ g 47).getD 0 = a ∧ jR υ g 47 ≠ none := fun h => by rw [h]; exact ⟨rfl, fun z => nomatch z⟩
  obtain ⟨K, eK⟩ : ∃ K, 8 * r + 4 + i = K := ⟨_, rfl⟩
  obtain ⟨T, eT⟩ : ∃ T, 24 * p + pl + i = T := ⟨_, rfl⟩
  rw [eK] at k1 k2 hO0
  rw [eT]
  have hK : K < 192 := by omega
  have hT : T < 384 := by omega
  have iK : jin 192 (nI K) := jin_n hK (by decide)
  have cK : (nI K).toNatClampNeg = K := nI_clamp (by omega)
  have iT : jin 384 (nI T) := jin_n hT (by decide)
  have cT : (nI T).toNatClampNeg = T := nI_clamp (by omega)
  have mK : (8 : Int32) * nI r + 4 + nI i = nI K := by rw [show (8 : Int32) = nI 8 from rfl, nmul, show (4 : Int32) = nI 4 from rfl, nadd, nadd, eK]
  have mT : nI (24 * p) + nI pl + nI i = nI T := by rw [nadd, nadd, eT]
  -- a register of the order, read in any state like this
  have reg : ∀ {υ : jS}, SH υ → FR [66, 67, 68, 69] σ υ → ∀ j, j < regN (opO o) → ∃ w, w < 4 ∧ jA υ 52 (3 * K + j) = nI w ∧ jA υ 76 w = newO W x o (j + 1) := fun {υ} hSu G j hj => by
    obtain ⟨w, u, w4, u4, ew, eu, en⟩ := v1 j hj
    refine ⟨w, w4, by rw [(G.2 52 (by decide)).2, k2 j hj]; exact ew, ?_⟩
    rw [(G.2 76 (by decide)).2, hb.1 w w4, en]
    unfold encB
    rw [eu]
  have s6 := R (sR_646_47 hS)
  have s62 := R (sR_662_47 hS)
  have s63 := R (sR_663_47 hS)
  have a51 : jA σ 51 K = nI (opO o) := by rw [k1]; exact ok2
  obtain ⟨τ1, e1⟩ : ∃ τ1, jsA σ 66 T (nI (opO o)) = τ1 := ⟨_, rfl⟩
  have F1 : FR [66, 67, 68, 69] σ τ1 := e1 ▸ (FR.refl _ σ).A (by decide)
  have S1 := F1.sh hS
  have A1 : jx (d + 3) 186 143 (w9 p pl r n m S (some (.int (nI i))) l9 l10 l11) [] σ = if nI (regN (opO o)) ≤ 0 then jx (d + 3) 186 224 (w9 p pl r n m S (some (.int (nI i))) (some (.int (nI K))) (some (.int (nI T))) (some (.int (nI (regN (opO o)))))) [.int (nI T), .ref 67] τ1 else jx (d + 3) 186 207 (w9 p pl r n m S (some (.int (nI i))) (some (.int (nI K))) (some (.int (nI T))) (some (.int (nI (regN (opO o)))))) [.int (nI T), .ref 67] τ1 := by
    rw [k186_143, if_neg (nI_ge (by omega) (by omega)), k186_150 (sT_47 hS) s6.2 (by rw [s6.1]; exact Or.inl (sT_51 hS)) (by rw [s6.1, sN_51 hS, mK]; exact iK), s6.1, mK, mT, cK, a51, c137 ok1]
    simp only [Option.bind_some, Option.toList_some, List.cons_append, List.nil_append]
    rw [k186_180 (sT_47 hS) s62.2 s6.2 (by rw [s6.1]; exact Or.inl (sT_51 hS)) (by rw [s6.1, sN_51 hS]; exact iK) (by rw [s62.1]; exact sT_66 hS) (by rw [s62.1, sN_66 hS]; exact iT) s63.2, s6.1, s62.1, s63.1, cK, cT, a51, e1]
  obtain ⟨τ2, e2⟩ : ∃ τ2, jsA τ1 67 T (newO W x o 1) = τ2 := ⟨_, rfl⟩
  have F2 : FR [66, 67, 68, 69] σ τ2 := e2 ▸ F1.A (by decide)
  have S2 := F2.sh hS
  have t76 := R (sR_676_47 S1)
  have t47 := R (sR_647_47 S1)
  have t64 := R (sR_664_47 S1)
  have e3K : (3 : Int32) * nI K = nI (3 * K) := by rw [show (3 : Int32) = nI 3 from rfl, nmul]
  have A2 : jx (d + 3) 186 143 (w9 p pl r n m S (some (.int (nI i))) l9 l10 l11) [] σ = if nI (regN (opO o)) ≤ 1 then jx (d + 3) 186 257 (w9 p pl r n m S (some (.int (nI i))) (some (.int (nI K))) (some (.int (nI T))) (some (.int (nI (regN (opO o)))))) [.int (nI T), .ref 68] τ2 else jx (d + 3) 186 238 (w9 p pl r n m S (some (.int (nI i))) (some (.int (nI K))) (some (.int (nI T))) (some (.int (nI (regN (opO o)))))) [.int (nI T), .ref 68] τ2 := by
    rw [A1]
    by_cases q : regN (opO o) = 0
    · have z : newO W x o 1 = 0 := v3 1 (by decide) (by omega) (fun z => absurd z.1 (by decide))
      rw [if_pos (by rw [q]; decide), k186_224 (sT_67 S1) (by rw [sN_67 S1]; exact iT) (sT_47 S1) t64.2, t64.1, cT, ← z, e2]
    · obtain ⟨w, w4, w1, w2⟩ := reg S1 F1 0 (by omega)
      have n0 : ¬ nI (regN (opO o)) ≤ 0 := by rw [show (0 : Int32) = nI 0 from rfl, n31le (by omega) (by decide)]; omega
      rw [if_neg n0, k186_207 (sT_47 S1) t76.2 t47.2 (by rw [t47.1]; exact Or.inl (sT_52 S1)) (by rw [t47.1, sN_52 S1, e3K]; exact jin_n (by omega) (by decide)) (by rw [t76.1]; exact Or.inl (sT_76 S1)) (by rw [t76.1, sN_76 S1, t47.1, e3K, nI_clamp (by omega), show 3 * K = 3 * K + 0 from rfl, w1]; exact jin_n w4 (by decide)) (sT_67 S1) (by rw [sN_67 S1]; exact iT) t64.2, t64.1, t76.1, t47.1, e3K, cT, nI_clamp (by omega), show jA τ1 52 (3 * K) = nI w from w1, nI_clamp (by omega), w2, e2]
  obtain ⟨y2, ey⟩ : ∃ y2, (if 2 ≤ regN (opO o) then newO W x o 2 else 0) = y2 := ⟨_, rfl⟩
  obtain ⟨τ3, e3⟩ : ∃ τ3, jsA τ2 68 T y2 = τ3 := ⟨_, rfl⟩
  have F3 : FR [66, 67, 68, 69] σ τ3 := e3 ▸ F2.A (by decide)
  have S3 := F3.sh hS
  have p76 := R (sR_676_47 S2)
  have p47 := R (sR_647_47 S2)
  have p65 := R (sR_665_47 S2)
  have e3K1 : (3 : Int32) * nI K + 1 = nI (3 * K + 1) := by rw [e3K, ← nI_succ]
  have A3 : jx (d + 3) 186 143 (w9 p pl r n m S (some (.int (nI i))) l9 l10 l11) [] σ = if nI (regN (opO o)) ≤ 2 then jx (d + 3) 186 290 (w9 p pl r n m S (some (.int (nI i))) (some (.int (nI K))) (some (.int (nI T))) (some (.int (nI (regN (opO o)))))) [.int (nI T), .ref 69] τ3 else jx (d + 3) 186 271 (w9 p pl r n m S (some (.int (nI i))) (some (.int (nI K))) (some (.int (nI T))) (some (.int (nI (regN (opO o)))))) [.int (nI T), .ref 69] τ3 := by
    rw [A2]
    by_cases q : regN (opO o) ≤ 1
    · have z : y2 = 0 := by rw [← ey, if_neg (by omega)]
      have n1 : nI (regN (opO o)) ≤ 1 := nI_le (b := 1) q (by decide)
      rw [if_pos n1, k186_257 (sT_68 S2) (by rw [sN_68 S2]; exact iT) (sT_47 S2) p65.2, p65.1, cT, ← z, e3]
    · obtain ⟨w, w4, w1, w2⟩ := reg S2 F2 1 (by omega)
      have n1 : ¬ nI (regN (opO o)) ≤ 1 := by rw [show (1 : Int32) = nI 1 from rfl, n31le (by omega) (by decide)]; omega
      have z : newO W x o (1 + 1) = y2 := by rw [← ey, if_pos (by omega)]
      rw [if_neg n1, k186_238 (sT_47 S2) p76.2 p47.2 (by rw [p47.1]; exact Or.inl (sT_52 S2)) (by rw [p47.1, sN_52 S2, e3K1]; exact jin_n (by omega) (by decide)) (by rw [p76.1]; exact Or.inl (sT_76 S2)) (by rw [p76.1, sN_76 S2, p47.1, e3K1, nI_clamp (by omega), w1]; exact jin_n w4 (by decide)) (sT_68 S2) (by rw [sN_68 S2]; exact iT) p65.2, p65.1, p76.1, p47.1, e3K1, cT, nI_clamp (n := 3 * K + 1) (by omega), w1, nI_clamp (by omega), w2, z, e3]
  obtain ⟨τ4, e4⟩ : ∃ τ4, jsA τ3 69 T (newO W x o 3) = τ4 := ⟨_, rfl⟩
  have F4 : FR [66, 67, 68, 69] σ τ4 := e4 ▸ F3.A (by decide)
  have S4 := F4.sh hS
  have q76 := R (sR_676_47 S3)
  have q47 := R (sR_647_47 S3)
  have q46 := R (sR_646_47 S3)
  have e3K2 : (3 : Int32) * nI K + 2 = nI (3 * K + 2) := by rw [e3K, show (2 : Int32) = nI 2 from rfl, nadd]
  have b51 : jA τ4 51 K = nI (opO o) := by rw [(F4.2 51 (by decide)).2]; exact a51
  have A4 : jx (d + 3) 186 143 (w9 p pl r n m S (some (.int (nI i))) l9 l10 l11) [] σ = jx (d + 3) 186 302 (w9 p pl r n m S (some (.int (nI i))) (some (.int (nI K))) (some (.int (nI T))) (some (.int (nI (regN (opO o)))))) [.int (if numN (opO o) = true then 1 else 0)] τ4 := by
    rw [A3]
    by_cases q : regN (opO o) ≤ 2
    · have z : newO W x o 3 = 0 := v3 3 (by decide) (by omega) (fun z => absurd z.1 (by decide))
      have n2 : nI (regN (opO o)) ≤ 2 := nI_le (b := 2) q (by decide)
      rw [z] at e4
      rw [if_pos n2, k186_290 (sT_69 S3) (by rw [sN_69 S3]; exact iT) (sT_47 S3) q46.2 (by rw [q46.1]; exact Or.inl (sT_51 S3)) (by rw [q46.1, sN_51 S3]; exact iK), q46.1, cT, cK, e4, b51, c143 ok1]
      simp only [Option.bind_some, Option.toList_some, List.cons_append, List.nil_append]
    · obtain ⟨w, w4, w1, w2⟩ := reg S3 F3 2 (by omega)
      have n2 : ¬ nI (regN (opO o)) ≤ 2 := by rw [show (2 : Int32) = nI 2 from rfl, n31le (by omega) (by decide)]; omega
      have w2' : jA τ3 76 w = newO W x o 3 := w2
      rw [if_neg n2, k186_271 (sT_47 S3) q76.2 q47.2 (by rw [q47.1]; exact Or.inl (sT_52 S3)) (by rw [q47.1, sN_52 S3, e3K2]; exact jin_n (by omega) (by decide)) (by rw [q76.1]; exact Or.inl (sT_76 S3)) (by rw [q76.1, sN_76 S3, q47.1, e3K2, nI_clamp (by omega), w1]; exact jin_n w4 (by decide)) (sT_69 S3) (by rw [sN_69 S3]; exact iT) q46.2 (by rw [q46.1]; exact Or.inl (sT_51 S3)) (by rw [q46.1, sN_51 S3]; exact iK), q76.1, q47.1, q46.1, e3K2, cT, cK, nI_clamp (n := 3 * K + 2) (by omega), w1, nI_clamp (by omega), w2', e4, b51, c143 ok1]
      simp only [Option.bind_some, Option.toList_some, List.cons_append, List.nil_append]
  have V4 : ∀ j z, j < 4 → jA τ4 (66 + j) z = if z = T then (if j = 2 then y2 else newO W x o j) else jA σ (66 + j) z := by
    intro j z hj
    rw [← e4, ← e3, ← e2, ← e1]
    by_cases ez : z = T
    · subst ez
      rw [if_pos rfl]
      rcases jnf4 hj with h | h | h | h <;> subst h
      · rw [if_neg (by decide), zA_A, if_neg (fun w => absurd w.1 (by decide)), zA_A, if_neg (fun w => absurd w.1 (by decide)), zA_A, if_neg (fun w => absurd w.1 (by decide)), zA_A, if_pos ⟨rfl, rfl⟩, v0, ok2]
      · rw [if_neg (by decide), zA_A, if_neg (fun w => absurd w.1 (by decide)), zA_A, if_neg (fun w => absurd w.1 (by decide)), zA_A, if_pos ⟨rfl, rfl⟩]
      · rw [if_pos rfl, zA_A, if_neg (fun w => absurd w.1 (by decide)), zA_A, if_pos ⟨rfl, rfl⟩]
      · rw [if_neg (by decide), zA_A, if_pos ⟨rfl, rfl⟩]
    · rw [if_neg ez, zA_A, if_neg (fun w => ez w.2), zA_A, if_neg (fun w => ez w.2), zA_A, if_neg (fun w => ez w.2), zA_A, if_neg (fun w => ez w.2)]
  by_cases hn : numN (opO o) = true
  · have r1 := numN1 hn
    have mv : ∀ k, k < nm → jA τ4 77 (0 + k) = encB (-1) x.2 k := fun k hk => by
      rw [Nat.zero_add, (F4.2 77 (by decide)).2, hb.2 k (by omega)]
      obtain ⟨u, _, eu⟩ := hF.2 k hk
      unfold encB
      rw [eu]
    obtain ⟨q1, -⟩ := v2 hn (fun k => jA τ4 77 (0 + k)) mv
    have w4 : jI τ4 640 47 = nI W := by rw [(F4.2 47 (by decide)).1]; exact hw
    have c4 := c154 (d := d) (W := W) (k := K) (nr := nr) (nm := nm) (row := 77) (fr := 0) (N := 3) (o := o) S4 hW w4 hK (hO0.fr F4 (fun a h1 h2 => by simp; omega)) ho hnm hn (sT_77 S4) (sN_77 S4) (by omega) (by decide)
    rw [← q1] at c4
    have c4' : jx (d + 2) 154 0 [some (.ref 47), some (.int (nI K)), some (.ref 77), some (.int 0), none, none, none] [] τ4 = some (some (.int (newO W x o 2)), τ4) := c4
    have g64 := R (sR_664_47 S4)
    have g77 := R (sR_677_47 S4)
    refine ⟨jsA τ4 68 T (newO W x o 2), some (.int (nI K)), some (.int (nI T)), some (.int (nI (regN (opO o)))), ?_, F4.A (by decide), fun j z hj => ?_⟩
    · rw [A4, if_pos hn, k186_302, if_neg (by decide), k186_305 (sT_47 S4) g64.2 g77.2, g64.1, g77.1, c4']
      simp only [Option.bind_some, Option.toList_some, List.cons_append, List.nil_append]
      rw [k186_322 (sT_68 S4) (by rw [sN_68 S4]; exact iT), cT, ← nI_succ]
    · rw [zA_A]
      by_cases e : j = 2 ∧ z = T
      · rw [if_pos ⟨by rw [e.1], e.2⟩, if_pos e.2, e.1]
      · rw [if_neg (fun w => e ⟨by omega, w.2⟩), V4 j z hj]
        by_cases ez : z = T
        · rw [if_pos ez, if_pos ez, if_neg (fun w => e ⟨w, ez⟩)]
        · rw [if_neg ez, if_neg ez]
  · refine ⟨τ4, some (.int (nI K)), some (.int (nI T)), some (.int (nI (regN (opO o)))), ?_, F4, fun j z hj => ?_⟩
    · rw [A4, if_neg hn, k186_302, if_pos rfl, k186_323, ← nI_succ]
    · rw [V4 j z hj]
      by_cases ez : z = T
      · rw [if_pos ez, if_pos ez]
        by_cases j2 : j = 2
        · rw [if_pos j2, ← ey, j2]
          by_cases q : 2 ≤ regN (opO o)
          · rw [if_pos q]
          · rw [if_neg q]; exact (v3 2 (by decide) (by omega) (fun w => hn w.2)).symm
        · rw [if_neg j2]
      · rw [if_neg ez, if_neg ez]
end CH3
