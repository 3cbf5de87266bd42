/-! letter: the reference; both -/
theorem nmL3 : ∀ k, k < 19 → k ≠ 5 → ¬ nmv k < 729 ∧ 96 + nmv k / 729 = jnmb (3 * k + 0) ∧ 96 + (nmv k - nmv k / 729 * 729) / 27 = jnmb (3 * k + 1) ∧ 96 + ((nmv k - nmv k / 729 * 729) - (nmv k - nmv k / 729 * 729) / 27 * 27) = jnmb (3 * k + 2) := by decide
theorem nmL2 : nmv 5 < 729 ∧ 96 + nmv 5 / 27 = jnmb (3 * 5 + 0) ∧ 96 + (nmv 5 - nmv 5 / 27 * 27) = jnmb (3 * 5 + 1) := by decide
theorem ten8 : ∀ y, y < 8 → nI y ≤ 9 ∧ nI y - nI y / 10 * 10 = nI y := by decide
def TXS (σ : jS) (n : Nat) (f : Nat → Int32) : Prop := jI σ 675 47 = nI n ∧ ∀ z, z < n → jA σ 75 z = f z
def SFm (σ σ' : jS) : Prop := FR [47, 75] σ σ' ∧ ∀ g, g ≠ 675 → jI σ' g 47 = jI σ g 47
theorem SFm.trans {σ τ υ : jS} (h : SFm σ τ) (k : SFm τ υ) : SFm σ υ := ⟨h.1.trans k.1, fun g hg => (k.2 g hg).trans (h.2 g hg)⟩
section LE2
variable {d : Nat} {σ : jS} {s : AS} {cr cp : Nat} {qr qp : Nat → Nat}
theorem c175 {n : Nat} {f : Nat → Int32} {v : Int32} (hS : SH σ) (hT : TXS σ n f) (hn : n < 400) (hv : v = f n) : ∃ σ', jx d 175 0 [some (.ref 47), some (.int v)] [] σ = some (none, σ') ∧ SFm σ σ' ∧ TXS σ' (n + 1) f := by
  have r1 : (jR σ 674 47).getD 0 = 75 := by rw [sR_674_47 hS]; rfl
  have r2 : jR σ 674 47 ≠ none := by rw [sR_674_47 hS]; exact fun z => nomatch z
  refine ⟨jsI (jsA σ 75 n v) 675 47 (nI (n + 1)), ?_, ⟨((FR.refl _ σ).A (by decide)).I (by decide), fun g hg => by rw [zI_I, if_neg (fun z => hg z.1), zA_I]⟩, by rw [zI_I, if_pos ⟨rfl, rfl⟩], fun z hz => ?_⟩
  · rw [k175_0 (sT_47 hS) r2 (by rw [r1]; exact sT_75 hS) (by rw [r1, sN_75 hS, hT.1]; exact jin_n hn (by decide)), r1, hT.1, nI_clamp (by omega), ← nI_succ]
  · rw [zI_A, zA_A]
    by_cases e : z = n
    · rw [if_pos ⟨rfl, e⟩, e]; exact hv
    · rw [if_neg (fun w => e w.2)]; exact hT.2 z (by omega)
theorem SFm.nv {σ' : jS} (h : SFm σ σ') (hN : NV σ) : NV σ' := fun k hk => by rw [(h.1.2 70 (by decide)).2]; exact hN k hk
theorem c176 {n k : Nat} {f : Nat → Int32} (hS : SH σ) (hN : NV σ) (hT : TXS σ n f) (hk : k < 19) (hn : n + 3 ≤ 400) (hv : ∀ q, q < nlnN k → f (n + q) = jnmb (3 * k + q)) : ∃ σ', jx (d + 1) 176 0 [some (.ref 47), some (.int (nI k)), none] [] σ = some (none, σ') ∧ SFm σ σ' ∧ TXS σ' (n + nlnN k) f := by
  have r1 : (jR σ 669 47).getD 0 = 70 := by rw [sR_669_47 hS]; rfl
  have r2 : jR σ 669 47 ≠ none := by rw [sR_669_47 hS]; exact fun z => nomatch z
  have st : jx (d + 1) 176 0 [some (.ref 47), some (.int (nI k)), none] [] σ = if nmv k < 729 then jx (d + 1) 176 32 [some (.ref 47), some (.int (nI k)), some (.int (nmv k))] [] σ else jx (d + 1) 176 14 [some (.ref 47), some (.int (nI k)), some (.int (nmv k))] [] σ := by
    rw [k176_0 (sT_47 hS) r2 (by rw [r1]; exact Or.inl (sT_70 hS)) (by rw [r1, sN_70 hS]; exact jin_n hk (by decide)), r1, nI_clamp (by omega), hN k hk]
  rw [st]
  by_cases h5 : k = 5
  · subst h5
    obtain ⟨m0, m1, m2⟩ := nmL2
    obtain ⟨σ1, e1, S1, T1⟩ := c175 (d := d) hS hT (by omega) (v := 96 + nmv 5 / 27) (by rw [m1]; exact (hv 0 (by decide)).symm)
    have hS1 := S1.1.sh hS
    obtain ⟨σ2, e2, S2, T2⟩ := c175 (d := d) hS1 T1 (by omega) (v := 96 + (nmv 5 - nmv 5 / 27 * 27)) (by rw [m2]; exact (hv 1 (by decide)).symm)
    refine ⟨σ2, ?_, S1.trans S2, T2⟩
    rw [if_pos m0, k176_32 (sT_47 hS), e1]
    simp only [Option.bind_some, Option.toList_none, List.nil_append]
    rw [k176_43 (sT_47 hS1), e2]
    simp only [Option.bind_some, Option.toList_none, List.nil_append]
    rw [k176_54]
  · obtain ⟨m0, m1, m2, m3⟩ := nmL3 k hk h5
    have n3 : nlnN k = 3 := if_neg h5
    rw [n3] at hv
    rw [n3]
    obtain ⟨σ1, e1, S1, T1⟩ := c175 (d := d) hS hT (by omega) (v := 96 + nmv k / 729) (by rw [m1]; exact (hv 0 (by decide)).symm)
    have hS1 := S1.1.sh hS
    obtain ⟨σ2, e2, S2, T2⟩ := c175 (d := d) hS1 T1 (by omega) (v := 96 + (nmv k - nmv k / 729 * 729) / 27) (by rw [m2]; exact (hv 1 (by decide)).symm)
    have hS2 := S2.1.sh hS1
    obtain ⟨σ3, e3, S3, T3⟩ := c175 (d := d) hS2 T2 (by omega) (v := 96 + ((nmv k - nmv k / 729 * 729) - (nmv k - nmv k / 729 * 729) / 27 * 27)) (by rw [m3]; exact (hv 2 (by decide)).symm)
    refine ⟨σ3, ?_, (S1.trans S2).trans S3, T3⟩
    rw [if_neg m0, k176_14 (sT_47 hS), e1]
    simp only [Option.bind_some, Option.toList_none, List.nil_append]
    rw [k176_26 (sT_47 hS1), e2]
    simp only [Option.bind_some, Option.toList_none, List.nil_append]
    rw [k176_43 (sT_47 hS2), e3]
    simp only [Option.bind_some, Option.toList_none, List.nil_append]
    rw [k176_54]
theorem c174 {p : Nat} {A : List (Nat → Int32)} (hS : SH σ) (hN : NV σ) (hp : p < 16) (hP : PM σ p A) (hA : ∀ o, o ∈ A → PWF o) : ∃ σ', jx (d + 2) 174 0 [some (.ref 47), some (.int (nI p)), none, none, none, none] [] σ = some (none, σ') ∧ SFm σ σ' ∧ TXS σ' (pLn A) (pAt A) := by
  have l24 := hP.2.1
  have R : ∀ {υ : jS} {g a : Nat}, jR υ g 47 = some a → (jR υ g 47).getD 0 = a ∧ jR υ g 47 ≠ none := fun h => by rw [h]; exact ⟨rfl, fun z => nomatch z⟩
  have L : ∀ f i υ l3 l4 l5, i + f = A.length → SFm σ υ → TXS υ (if i = 0 then 0 else off A i - 1) (pAt A) → ∃ υ', jx (d + 2) 174 7 [some (.ref 47), some (.int (nI p)), some (.int (nI i)), l3, l4, l5] [] υ = some (none, υ') ∧ SFm σ υ' ∧ TXS υ' (if A.length = 0 then 0 else off A A.length - 1) (pAt A) := by
    intro f
    induction f with
    | zero =>
      intro i υ l3 l4 l5 hi F T
      have e : i = A.length := by omega
      subst e
      have hSu := F.1.sh hS
      have q1 := R (sR_661_47 hSu)
      refine ⟨υ, ?_, F, T⟩
      rw [k174_7 (sT_47 hSu) q1.2 (by rw [q1.1]; exact Or.inl (sT_65 hSu)) (by rw [q1.1, sN_65 hSu]; exact jin_n hp (by decide)), q1.1, nI_clamp (by omega), (F.1.2 65 (by decide)).2, hP.1, if_pos (nI_le (Nat.le_refl _) (by omega)), k174_186]
    | succ f ih =>
      intro i υ l3 l4 l5 hi F T
      have hlt : i < A.length := by omega
      have ho := hA _ (mem_getD hlt)
      obtain ⟨pa1, pa2⟩ := pAt_off A i hlt
      have os := off_succ A i hlt
      have ol := off_le A (i + 1) (by omega) hA
      have pm := fun j (hj : j < 4) => hP.2.2 i j hlt hj
      obtain ⟨o, eo⟩ : ∃ o, A.getD i (fun _ => 0) = o := ⟨_, rfl⟩
      rw [eo] at ho pa1 pa2 os pm
      obtain ⟨k1, k2⟩ := ho.opk
      obtain ⟨b1, b2⟩ := own_bd ho
      have nl := nlnN_bd (opO o)
      have r3 := regN3 (opO o)
      have eow : own o = nlnN (opO o) + 2 * (regN (opO o) + numO o) := rfl
      have hSu := F.1.sh hS
      have q1 := R (sR_661_47 hSu)
      have e24 : (24 : Int32) * nI p + nI i = nI (24 * p + i) := by rw [show (24 : Int32) = nI 24 from rfl, nmul, nadd]
      have iK : jin 384 (nI (24 * p + i)) := jin_n (by omega) (by decide)
      have cK : (nI (24 * p + i)).toNatClampNeg = 24 * p + i := nI_clamp (by omega)
      have a : ∀ {τ : jS}, SFm σ τ → ∀ j, j < 4 → jA τ (66 + j) (24 * p + i) = o j := fun G j hj => by rw [(G.1.2 (66 + j) (by simp; omega)).2]; exact pm j hj
      have a66 : ∀ {τ : jS}, SFm σ τ → jA τ 66 (24 * p + i) = nI (opO o) := fun G => by rw [← k2]; exact a G 0 (by decide)
      -- the sign between orders
      have A1 : ∃ υ1, SFm σ υ1 ∧ TXS υ1 (off A i) (pAt A) ∧ jx (d + 2) 174 7 [some (.ref 47), some (.int (nI p)), some (.int (nI i)), l3, l4, l5] [] υ = jx (d + 2) 174 34 [some (.ref 47), some (.int (nI p)), some (.int (nI i)), some (.int (nI (24 * p + i))), l4, l5] [] υ1 := by
        have st : jx (d + 2) 174 7 [some (.ref 47), some (.int (nI p)), some (.int (nI i)), l3, l4, l5] [] υ = if nI i ≤ 0 then jx (d + 2) 174 34 [some (.ref 47), some (.int (nI p)), some (.int (nI i)), some (.int (nI (24 * p + i))), l4, l5] [] υ else jx (d + 2) 174 28 [some (.ref 47), some (.int (nI p)), some (.int (nI i)), some (.int (nI (24 * p + i))), l4, l5] [] υ := by
          rw [k174_7 (sT_47 hSu) q1.2 (by rw [q1.1]; exact Or.inl (sT_65 hSu)) (by rw [q1.1, sN_65 hSu]; exact jin_n hp (by decide)), q1.1, nI_clamp (by omega), (F.1.2 65 (by decide)).2, hP.1, if_neg (nI_ge (by omega) (by omega)), k174_17, e24]
        by_cases i0 : i = 0
        · subst i0
          refine ⟨υ, F, ?_, ?_⟩
          · have : off A 0 = 0 := by cases A <;> rfl
            rw [this]; exact T
          · rw [st, if_pos (by decide)]
        · rw [if_neg i0] at T
          have os' := off_succ A (i - 1) (by omega)
          obtain ⟨_, p59⟩ := pAt_off A (i - 1) (by omega)
          rw [show i - 1 + 1 = i by omega] at os'
          have ob := own_bd (hA _ (mem_getD (os := A) (n := i - 1) (by omega)))
          have ei : off A i - 1 = off A (i - 1) + own (A.getD (i - 1) (fun _ => 0)) := by omega
          obtain ⟨υ1, e1, S1, T1⟩ := c175 (d := d + 1) hSu T (by omega) (v := 59) (by rw [ei, p59])
          refine ⟨υ1, F.trans S1, by rw [show off A i = off A i - 1 + 1 by omega]; exact T1, ?_⟩
          have n0 : ¬ nI i ≤ 0 := by rw [show (0 : Int32) = nI 0 from rfl, n31le (by omega) (by decide)]; omega
          rw [st, if_neg n0, k174_28 (sT_47 hSu), e1]
          simp only [Option.bind_some, Option.toList_none, List.nil_append]
      obtain ⟨υ1, F1, T1, e1⟩ := A1
      have hS1 := F1.1.sh hS
      have s62 := R (sR_662_47 hS1)
      obtain ⟨υ2, e2, S2, T2⟩ := c176 (d := d) hS1 (F1.nv hN) T1 k1 (by omega) (fun q hq => by
        rw [pa1 q (by omega)]
        unfold txB
        rw [if_pos hq])
      have F2 := F1.trans S2
      have hS2 := F2.1.sh hS
      have t62 := R (sR_662_47 hS2)
      have to58 : jx (d + 2) 174 7 [some (.ref 47), some (.int (nI p)), some (.int (nI i)), l3, l4, l5] [] υ = jx (d + 2) 174 58 [some (.ref 47), some (.int (nI p)), some (.int (nI i)), some (.int (nI (24 * p + i))), some (.int (nI (regN (opO o)))), some (.int (nI 0))] [] υ2 := by
        rw [e1, k174_34 (sT_47 hS1) s62.2 (by rw [s62.1]; exact Or.inl (sT_66 hS1)) (by rw [s62.1, sN_66 hS1]; exact iK), s62.1, cK, a66 F1, e2]
        simp only [Option.bind_some, Option.toList_none, List.nil_append]
        rw [k174_44 (sT_47 hS2) t62.2 (by rw [t62.1]; exact Or.inl (sT_66 hS2)) (by rw [t62.1, sN_66 hS2]; exact iK), t62.1, cK, a66 F2, c137 k1]
        simp only [Option.bind_some, Option.toList_some, List.cons_append, List.nil_append]
        rw [k174_53]
        rfl
      have LR : ∀ g j τ, j + g = regN (opO o) → SFm σ τ → TXS τ (off A i + nlnN (opO o) + 2 * j) (pAt A) → ∃ τ', SFm σ τ' ∧ TXS τ' (off A i + nlnN (opO o) + 2 * regN (opO o)) (pAt A) ∧ jx (d + 2) 174 58 [some (.ref 47), some (.int (nI p)), some (.int (nI i)), some (.int (nI (24 * p + i))), some (.int (nI (regN (opO o)))), some (.int (nI j))] [] τ = jx (d + 2) 174 119 [some (.ref 47), some (.int (nI p)), some (.int (nI i)), some (.int (nI (24 * p + i))), some (.int (nI (regN (opO o)))), some (.int (nI (regN (opO o))))] [] τ' := by
        intro g
        induction g with
        | zero =>
          intro j τ hj G U
          have e : j = regN (opO o) := by omega
          subst e
          refine ⟨τ, G, U, ?_⟩
          rw [k174_58, if_pos (nI_le (Nat.le_refl _) (by omega))]
        | succ g ihg =>
          intro j τ hj G U
          have hSt := G.1.sh hS
          obtain ⟨τ1, e3, S3, U1⟩ := c175 (d := d + 1) hSt U (by omega) (v := 32) (by
            rw [show off A i + nlnN (opO o) + 2 * j = off A i + (nlnN (opO o) + 2 * j) by omega, pa1 _ (by omega)]
            unfold txB
            rw [if_neg (by omega), if_pos (by omega)])
          have G1 := G.trans S3
          have hSt1 := G1.1.sh hS
          obtain ⟨τ2, e4, S4, U2⟩ := c175 (d := d + 1) hSt1 U1 (by omega) (v := 97 + o (j + 1)) (by
            rw [show off A i + nlnN (opO o) + 2 * j + 1 = off A i + (nlnN (opO o) + 2 * j + 1) by omega, pa1 _ (by omega)]
            unfold txB
            rw [if_neg (by omega), if_neg (by omega), show (nlnN (opO o) + 2 * j + 1 - nlnN (opO o)) / 2 + 1 = j + 1 by omega, if_pos (by omega), Int32.add_comm])
          obtain ⟨τ', G', U', e'⟩ := ihg (j + 1) τ2 (by omega) (G1.trans S4) (by rw [show off A i + nlnN (opO o) + 2 * (j + 1) = off A i + nlnN (opO o) + 2 * j + 1 + 1 by omega]; exact U2)
          refine ⟨τ', G', U', ?_⟩
          rw [k174_58, if_neg (nI_ge (by omega) (by omega)), k174_65 (sT_47 hSt), e3]
          simp only [Option.bind_some, Option.toList_none, List.nil_append]
          have aj := a G1 (j + 1) (by omega)
          rcases (show j = 0 ∨ j = 1 ∨ j = 2 by omega) with h | h | h
          · subst h
            have t := R (sR_663_47 hSt1)
            rw [k174_71, if_neg (fun z => z rfl), k174_79 (sT_47 hSt1) t.2 (by rw [t.1]; exact Or.inl (sT_67 hSt1)) (by rw [t.1, sN_67 hSt1]; exact iK), t.1, cK, aj, e4]
            simp only [Option.bind_some, Option.toList_none, List.nil_append]
            rw [k174_113, ← nI_succ]
            exact e'
            all_goals exact sT_47 hSt1
          · subst h
            have t := R (sR_664_47 hSt1)
            rw [k174_71, if_pos (by decide), k174_88, if_neg (fun z => z rfl), k174_94 (sT_47 hSt1) t.2 (by rw [t.1]; exact Or.inl (sT_68 hSt1)) (by rw [t.1, sN_68 hSt1]; exact iK), t.1, cK, aj, e4]
            simp only [Option.bind_some, Option.toList_none, List.nil_append]
            rw [k174_113, ← nI_succ]
            exact e'
            all_goals exact sT_47 hSt1
          · subst h
            have t := R (sR_665_47 hSt1)
            rw [k174_71, if_pos (by decide), k174_88, if_pos (by decide), k174_103 (sT_47 hSt1) t.2 (by rw [t.1]; exact Or.inl (sT_69 hSt1)) (by rw [t.1, sN_69 hSt1]; exact iK), t.1, cK, aj, e4]
            simp only [Option.bind_some, Option.toList_none, List.nil_append]
            rw [k174_113, ← nI_succ]
            exact e'
            all_goals exact sT_47 hSt1
      obtain ⟨υ3, F3, T3, e3⟩ := LR (regN (opO o)) 0 υ2 (by omega) F2 T2
      have hS3 := F3.1.sh hS
      have v62 := R (sR_662_47 hS3)
      have nxt : ∀ {τ : jS} {l4' l5' : Option Value}, SFm σ τ → TXS τ (off A i + own o) (pAt A) → ∃ υ', jx (d + 2) 174 180 [some (.ref 47), some (.int (nI p)), some (.int (nI i)), some (.int (nI (24 * p + i))), l4', l5'] [] τ = some (none, υ') ∧ SFm σ υ' ∧ TXS υ' (if A.length = 0 then 0 else off A A.length - 1) (pAt A) := fun {τ l4' l5'} G U => by
        obtain ⟨υ', e', r'⟩ := ih (i + 1) τ (some (.int (nI (24 * p + i)))) l4' l5' (by omega) G (by rw [if_neg (by omega), os, show off A i + own o + 1 - 1 = off A i + own o by omega]; exact U)
        exact ⟨υ', by rw [k174_180, ← nI_succ]; exact e', r'⟩
      have to128 : jx (d + 2) 174 7 [some (.ref 47), some (.int (nI p)), some (.int (nI i)), l3, l4, l5] [] υ = jx (d + 2) 174 128 [some (.ref 47), some (.int (nI p)), some (.int (nI i)), some (.int (nI (24 * p + i))), some (.int (nI (regN (opO o)))), some (.int (nI (regN (opO o))))] [.int (if numN (opO o) = true then 1 else 0)] υ3 := by
        rw [to58, e3, k174_119 (sT_47 hS3) v62.2 (by rw [v62.1]; exact Or.inl (sT_66 hS3)) (by rw [v62.1, sN_66 hS3]; exact iK), v62.1, cK, a66 F3, c143 k1]
        simp only [Option.bind_some, Option.toList_some, List.cons_append, List.nil_append]
      by_cases hn : numN (opO o) = true
      · have n1 := numN1 hn
        have e1' : numO o = 1 := if_pos hn
        obtain ⟨y, y8, ey⟩ := ho.y
        obtain ⟨t1, t2⟩ := ten8 y y8
        obtain ⟨υ4, e4, S4, T4⟩ := c175 (d := d + 1) hS3 T3 (by omega) (v := 32) (by
          rw [show off A i + nlnN (opO o) + 2 * regN (opO o) = off A i + (nlnN (opO o) + 2 * regN (opO o)) by omega, pa1 _ (by omega)]
          unfold txB
          rw [if_neg (by omega), if_pos (by omega)])
        have F4 := F3.trans S4
        have hS4 := F4.1.sh hS
        have w64 := R (sR_664_47 hS4)
        obtain ⟨υ5, e5, S5, T5⟩ := c175 (d := d + 1) hS4 T4 (by omega) (v := 48 + nI y) (by
          rw [show off A i + nlnN (opO o) + 2 * regN (opO o) + 1 = off A i + (nlnN (opO o) + 2 * regN (opO o) + 1) by omega, pa1 _ (by omega)]
          unfold txB
          rw [if_neg (by omega), if_neg (by omega), show (nlnN (opO o) + 2 * regN (opO o) + 1 - nlnN (opO o)) / 2 + 1 = 2 by omega, if_neg (by omega), Int32.add_comm, ey])
        have a68 : jA υ4 68 (24 * p + i) = nI y := by rw [← ey]; exact a F4 2 (by decide)
        obtain ⟨υ', e6, r6⟩ := nxt (l4' := some (.int (nI (regN (opO o))))) (l5' := some (.int (nI (regN (opO o))))) (F4.trans S5) (by rw [show off A i + own o = off A i + nlnN (opO o) + 2 * regN (opO o) + 1 + 1 by omega]; exact T5)
        refine ⟨υ', ?_, r6⟩
        rw [to128, if_pos hn, k174_128, if_neg (by decide), k174_131 (sT_47 hS3), e4]
        simp only [Option.bind_some, Option.toList_none, List.nil_append]
        rw [k174_137 (sT_47 hS4) w64.2 (by rw [w64.1]; exact Or.inl (sT_68 hS4)) (by rw [w64.1, sN_68 hS4]; exact iK), w64.1, cK, a68, if_pos t1, k174_164 (sT_47 hS4) w64.2 (by rw [w64.1]; exact Or.inl (sT_68 hS4)) (by rw [w64.1, sN_68 hS4]; exact iK), w64.1, cK, a68, t2, e5]
        simp only [Option.bind_some, Option.toList_none, List.nil_append]
        exact e6
      · have e0' : numO o = 0 := if_neg hn
        obtain ⟨υ', e6, r6⟩ := nxt (l4' := some (.int (nI (regN (opO o))))) (l5' := some (.int (nI (regN (opO o))))) F3 (by rw [show off A i + own o = off A i + nlnN (opO o) + 2 * regN (opO o) by omega]; exact T3)
        refine ⟨υ', ?_, r6⟩
        rw [to128, if_neg hn, k174_128, if_pos rfl]
        exact e6
  have F0 : SFm σ (jsI σ 675 47 0) := ⟨(FR.refl _ σ).I (by decide), fun g hg => by rw [zI_I, if_neg (fun z => hg z.1)]⟩
  obtain ⟨υ', e', F', T'⟩ := L A.length 0 (jsI σ 675 47 0) none none none (by omega) F0 ⟨by rw [zI_I, if_pos ⟨rfl, rfl⟩]; rfl, fun z hz => absurd hz (Nat.not_lt_zero z)⟩
  refine ⟨υ', ?_, F', ?_⟩
  · rw [k174_0 (sT_47 hS)]
    exact e'
  · by_cases h : A = []
    · subst h; exact T'
    · have := pLn_off A h
      have l0 : ¬ A.length = 0 := fun z => h (List.eq_nil_of_length_eq_zero z)
      rw [if_neg l0] at T'
      rw [show pLn A = off A A.length - 1 by omega]
      exact T'
theorem sim_letter (hR : REL s cr cp qr qp σ) (x y : Int32) : SimR (d + 6) 88 173 [some (.int x), some (.int y), none] [some (.int x), some (.int y)] true σ := by
  have hR0 := hR
  obtain ⟨hS, hx, hs, hC, hM⟩ := hR
  have hl := hs.p16
  by_cases h : inR x s.ps.length
  · obtain ⟨p, hp, ep⟩ := inR_nat (by omega) h
    have a1 := c86y (d := d + 5) hS hC hs hp
    rw [← ep] at a1
    have a2 := c170y (d := d + 4) hS hM hs h
    have fA := hs.fp _ (mem_ps hp)
    obtain ⟨σ2, e2, F2, T2⟩ := c174 (d := d + 3) hS hM.nv (p := p) (by omega) (hM.ps p hp) fA.2
    have hS2 := F2.1.sh hS
    have hM2 : CM s σ2 := by
      have z := fun b (hb : b ∉ [47, 75]) i => (F2.1.2 b hb).2 i
      have I := F2.2
      refine ⟨fun j hj => by rw [z 70 (by decide)]; exact hM.nv j hj, by rw [I 644 (by decide)]; exact hM.nr, by rw [I 660 (by decide)]; exact hM.np, by rw [I 640 (by decide)]; exact hM.w, by rw [I 682 (by decide)]; exact hM.ap, ⟨by rw [I 642 (by decide)]; exact hM.tm.1, hM.tm.2.1, fun j hj => by rw [z 48 (by decide)]; exact hM.tm.2.2 j hj⟩, by rw [I 678 (by decide)]; exact hM.ns, fun j w hj hw => by rw [z (78 + w) (by simp; omega)]; exact hM.tl j w hj hw, fun j hj => ?_, fun j hj => ?_⟩
      · obtain ⟨⟨rg, m⟩, m1, m2, m3, m4⟩ := hM.rs j hj
        exact ⟨⟨rg, m.frame F2.1 (fun a x y => by simp; omega)⟩, by rw [z 60 (by decide)]; exact m1, by rw [z 61 (by decide)]; exact m2, by rw [z 63 (by decide)]; exact m3, by rw [z 64 (by decide)]; exact m4⟩
      · obtain ⟨p1, p2, p3⟩ := hM.ps j hj
        exact ⟨by rw [z 65 (by decide)]; exact p1, p2, fun k w hk hw => by rw [z (66 + w) (by simp; omega)]; exact p3 k w hk hw⟩
    have sc2 := F2.1.sc (fun a ha => by simp at ha; omega)
    have nx2 : jnx σ2 = jnx σ := F2.1.1.2.2.2.2.1
    have sl2 : jsl σ2 = jsl σ := F2.1.1.2.2.2.2.2
    have fin : ∀ v : Int32, jx (d + 6) 88 0 [some (.ref 16), some (.int x), some (.int y), none] [] σ = some (some (.int v), σ) → jx (d + 6) 173 0 [some (.ref 47), some (.int x), some (.int y)] [] σ = some (some (.int v), σ2) → SimR (d + 6) 88 173 [some (.int x), some (.int y), none] [some (.int x), some (.int y)] true σ := fun v h1 h2 => ⟨v, v, σ, σ2, s, cr, cp, qr, qp, h1, h2, ⟨hS2, by omega, hs, CX.sc (by omega) hC sc2, hM2⟩, by omega, by omega, sc2.low (by omega), fun _ => rfl⟩
    have pl400 : pLn (s.ps.getD p []) ≤ 240 := by
      by_cases h0 : s.ps.getD p [] = []
      · rw [h0]; exact Nat.zero_le _
      · have := pLn_off _ h0
        have := off_le (s.ps.getD p []) _ (Nat.le_refl _) fA.2
        omega
    rw [← ep] at e2
    have s1 : jx (d + 6) 88 0 [some (.ref 16), some (.int x), some (.int y), none] [] σ = if 0 ≤ y then jx (d + 6) 88 16 [some (.ref 16), some (.int x), some (.int y), some (.ref (qp p))] [] σ else jx (d + 6) 88 14 [some (.ref 16), some (.int x), some (.int y), some (.ref (qp p))] [] σ := by
      rw [k88_0 (sT_16 hS), a1]
      simp only [Option.bind_some, Option.toList_some, List.cons_append, List.nil_append]
      rw [k88_5R]
    have s2 : jx (d + 6) 173 0 [some (.ref 47), some (.int x), some (.int y)] [] σ = (some (some (.int (if 0 ≤ y ∧ y ≤ nI (pLn (s.ps.getD p [])) then 1 else 0)), σ2) : jr).bind (fun z => jx (d + 6) 173 26 [some (.ref 47), some (.int x), some (.int y)] (z.1.toList ++ []) z.2) := by
      rw [k173_0 (sT_47 hS), a2]
      simp only [Option.bind_some, Option.toList_some, List.cons_append, List.nil_append]
      rw [k173_5, if_pos (by decide), k173_10 (sT_47 hS), e2]
      simp only [Option.bind_some, Option.toList_none, List.nil_append]
      rw [k173_15 (sT_47 hS2), T2.1, cin0]
      simp only [Option.bind_some, Option.toList_some, List.cons_append, List.nil_append]
    by_cases h0 : 0 ≤ y
    · obtain ⟨r, hr31, er⟩ : ∃ r, r < 2 ^ 31 ∧ y = nI r := by
        refine ⟨y.toInt.toNat, ?_, ?_⟩
        · have := y.toInt_lt
          have h0' := Int32.le_iff_toInt_le.mp h0
          have z : (0 : Int32).toInt = 0 := rfl
          omega
        · have h0' := Int32.le_iff_toInt_le.mp h0
          have z : (0 : Int32).toInt = 0 := rfl
          have hlt := y.toInt_lt
          apply Int32.toInt_inj.mp
          rw [nI_toInt (by omega)]
          omega
      have c8 := c89 (d := d) hS hC.st (hC.ps p hp) fA.2 hr31
      have v1 : jx (d + 6) 88 0 [some (.ref 16), some (.int x), some (.int y), none] [] σ = some (some (.int (letF (s.ps.getD p []) r)), σ) := by
        rw [s1, if_pos h0, er, k88_16R (hC.ps p hp).1.1, c8]
        simp only [Option.bind_some, Option.toList_some, List.cons_append, List.nil_append]
        rw [k88_21]
      refine fin _ v1 ?_
      rw [s2]
      unfold letF
      by_cases g1 : r ≤ pLn (s.ps.getD p [])
      · have c : 0 ≤ y ∧ y ≤ nI (pLn (s.ps.getD p [])) := ⟨h0, by rw [er]; exact nI_le g1 (by omega)⟩
        rw [if_pos c]
        simp only [Option.bind_some, Option.toList_some, List.cons_append, List.nil_append]
        rw [k173_26, if_pos (by decide), k173_31 (sT_47 hS2), T2.1]
        by_cases g2 : r = pLn (s.ps.getD p [])
        · rw [if_neg (fun z => z (by rw [er, g2])), k173_39, if_neg (by omega), if_pos g2]
        · have q1 : (jR σ2 674 47).getD 0 = 75 := by rw [sR_674_47 hS2]; rfl
          have q2 : jR σ2 674 47 ≠ none := by rw [sR_674_47 hS2]; exact fun z => nomatch z
          rw [if_pos (by rw [er, n31eq hr31 (by omega)]; exact g2), er, k173_43 (sT_47 hS2) q2 (by rw [q1]; exact Or.inl (sT_75 hS2)) (by rw [q1, sN_75 hS2]; exact jin_n (by omega) (by decide)), q1, nI_clamp (by omega), T2.2 r (by omega), if_pos (by omega)]
      · have c : ¬ (0 ≤ y ∧ y ≤ nI (pLn (s.ps.getD p []))) := fun z => g1 (by have := z.2; rw [er, n31le hr31 (by omega)] at this; exact this)
        rw [if_neg c]
        simp only [Option.bind_some, Option.toList_some, List.cons_append, List.nil_append]
        rw [k173_26, if_neg (fun z => z rfl), k173_29, if_neg (by omega), if_neg (by omega)]
    · have c : ¬ (0 ≤ y ∧ y ≤ nI (pLn (s.ps.getD p []))) := fun z => h0 z.1
      refine fin (-1) (by rw [s1, if_neg h0, k88_14]) ?_
      rw [s2, if_neg c]
      simp only [Option.bind_some, Option.toList_some, List.cons_append, List.nil_append]
      rw [k173_26, if_neg (fun z => z rfl), k173_29]
  · have a1 := c86n (d := d + 5) hS hC h
    have a2 := c170n (d := d + 4) hS hM hs h
    refine SimR.read hR0 (a := -1) (a' := -1) ?_ ?_ (fun _ => rfl)
    · rw [k88_0 (sT_16 hS), a1]
      simp only [Option.bind_some, Option.toList_some, List.cons_append, List.nil_append]
      rw [k88_5N]
    · rw [k173_0 (sT_47 hS), a2]
      simp only [Option.bind_some, Option.toList_some, List.cons_append, List.nil_append]
      rw [k173_5, if_neg (fun z => z rfl), k173_8]
end LE2
