/-! the reference's trial: all assignments -/
section TRR
variable {d : Nat} {W : Nat}
theorem c151 {σ : jS} {r nr nm P : Nat} {hc : Bool} {o1 o2 : List (Nat → Int32)} {rg : Nat → Int32} (hS : SH σ) (hW : W = 1 ∨ W = 2 ∨ W = 3) (hw : jI σ 640 47 = nI W) (hr : r < 24) (hnr : nr ≤ 4) (hnm : nm ≤ 3) (hM : MR σ r nr nm hc o1 o2 rg) (f1 : ∀ o, o ∈ o1 → WFo nr nm o) (f2 : ∀ o, o ∈ o2 → WFo nr nm o) (e60 : jA σ 60 r = nI P) (hP : P < 2 ^ 31) {tp : Nat → Int32} (htp : ∀ k, k < wdN nr hc + nm → tp k = if k < wdN nr hc then mkW W else rg (k - wdN nr hc)) (hV0 : VB W (wdN nr hc) (wdN nr hc + nm) tp (fun _ => 0)) :
    ∃ σ', jx (d + 5) 151 0 [some (.ref 47), some (.int (nI r)), none, none, none, none] [] σ = some (none, σ') ∧ FR [49, 61, 62, 73, 74] σ σ' ∧ (∀ i, i ≠ r → jA σ' 61 i = jA σ 61 i) ∧ jA σ' 61 r = nI (cntL (lik W nr hc o1 o2) (odo tp (wdN nr hc + nm)) P (fun _ => 0)) := by
  have hM0 := hM
  obtain ⟨m1, m2, m3, m4, m5, m6, m7, m8, m9, m10⟩ := hM
  have gr : jin 24 (nI r) := jin_n hr (by decide)
  have qr : (nI r).toNatClampNeg = r := nI_clamp (by omega)
  obtain ⟨N, eN⟩ : ∃ N, wdN nr hc + nm = N := ⟨_, rfl⟩
  have hN : N ≤ 11 := by rw [← eN]; unfold wdN; cases hc <;> simp <;> omega
  have e11 : (11 : Int32) * nI r = nI (11 * r) := by rw [show (11 : Int32) = nI 11 from rfl, nmul]
  have g672 : ∀ {υ : jS}, SH υ → (jR υ 672 47).getD 0 = 73 := fun h => by rw [sR_672_47 h]; rfl
  have n672 : ∀ {υ : jS}, SH υ → jR υ 672 47 ≠ none := fun h => by rw [sR_672_47 h]; exact fun z => nomatch z
  have g656 : ∀ {υ : jS}, SH υ → (jR υ 656 47).getD 0 = 61 := fun h => by rw [sR_656_47 h]; rfl
  have n656 : ∀ {υ : jS}, SH υ → jR υ 656 47 ≠ none := fun h => by rw [sR_656_47 h]; exact fun z => nomatch z
  have g657 : ∀ {υ : jS}, SH υ → (jR υ 657 47).getD 0 = 62 := fun h => by rw [sR_657_47 h]; rfl
  have n657 : ∀ {υ : jS}, SH υ → jR υ 657 47 ≠ none := fun h => by rw [sR_657_47 h]; exact fun z => nomatch z
  have g655 : ∀ {υ : jS}, SH υ → (jR υ 655 47).getD 0 = 60 := fun h => by rw [sR_655_47 h]; rfl
  have n655 : ∀ {υ : jS}, SH υ → jR υ 655 47 ≠ none := fun h => by rw [sR_655_47 h]; exact fun z => nomatch z
  rw [eN] at htp hV0 ⊢
  -- the odometer
  have odoL : ∀ n w σ1 (x3 x4 : Int32), n ≤ N → FR [49, 61, 62, 73, 74] σ σ1 → VB W (wdN nr hc) N tp w → (∀ k, k < 11 → jA σ1 73 k = w k) → ∃ σ2 l5, jx (d + 5) 151 127 [some (.ref 47), some (.int (nI r)), some (.int (nI N)), some (.int x3), some (.int x4), some (.int (nI n - 1))] [] σ1 = jx (d + 5) 151 50 [some (.ref 47), some (.int (nI r)), some (.int (nI N)), some (.int x3), some (.int (x4 + 1)), l5] [] σ2 ∧ FR [73] σ1 σ2 ∧ ∀ k, k < 11 → jA σ2 73 k = odo tp n w k := by
    intro n
    induction n with
    | zero =>
      intro w σ1 x3 x4 hn F hVw hw1
      exact ⟨σ1, some (.int (nI 0 - 1)), by rw [k151_127, if_pos (by decide), k151_165, if_pos (by decide), k151_181], FR.refl _ σ1, hw1⟩
    | succ n ih =>
      intro w σ1 x3 x4 hn F hVw hw1
      have h1 := F.sh hS
      have e1 : nI (n + 1) - 1 = nI n := by rw [show (1 : Int32) = nI 1 from rfl, nsub (by omega)]; rfl
      have gn : jin 11 (nI n) := jin_n (by omega) (by decide)
      have qn : (nI n).toNatClampNeg = n := nI_clamp (by omega)
      have M1 : MR σ1 r nr nm hc o1 o2 rg := hM0.frame F (fun a x y => by simp; omega)
      obtain ⟨_, _, _, _, y5, y6, y7, y8, _, _⟩ := M1
      have cv := c150 (d := d + 4) (W := W) h1 hr hnr hnm (by rw [(F.2 47 (by decide)).1]; exact hw) y5 y7 y8 (k := n) (by omega)
      rw [← htp n (by omega)] at cv
      have st : ∀ x : Int32, ∀ k, k < 11 → jA (jsA σ1 73 n x) 73 k = up6 w n x k := by
        intro x k hk
        rw [zA_A]
        unfold up6
        by_cases q : k = n
        · rw [if_pos ⟨rfl, q⟩, if_pos q]
        · rw [if_neg (fun z => q z.2), if_neg q]; exact hw1 k hk
      have a1 : jx (d + 5) 151 127 [some (.ref 47), some (.int (nI r)), some (.int (nI N)), some (.int x3), some (.int x4), some (.int (nI n))] [] σ1 = if ¬ w n = tp n then jx (d + 5) 151 165 [some (.ref 47), some (.int (nI r)), some (.int (nI N)), some (.int x3), some (.int x4), some (.int (nI n))] [] σ1 else jx (d + 5) 151 151 [some (.ref 47), some (.int (nI r)), some (.int (nI N)), some (.int x3), some (.int x4), some (.int (nI n))] [] σ1 := by
        rw [k151_127, if_neg (nn0 (by omega)), k151_132 (sT_47 h1) (n672 h1) (by rw [g672 h1]; exact Or.inl (sT_73 h1)) (by rw [g672 h1, sN_73 h1]; exact gn), g672 h1, qn, hw1 n (by omega), cv]
        simp only [Option.bind_some, Option.toList_some, List.cons_append, List.nil_append]
        rw [k151_146, Int32.add_sub_cancel]
      rw [e1, a1]
      show ∃ σ2 l5, _ ∧ _ ∧ ∀ k, k < 11 → jA σ2 73 k = (if w n = tp n then odo tp n (up6 w n 0) else up6 w n (w n + 1)) k
      by_cases q : w n = tp n
      · obtain ⟨σ2, l5, e2, F2, h2⟩ := ih (up6 w n 0) (jsA σ1 73 n 0) x3 x4 (by omega) (F.A (by simp)) (hVw.up0 n) (st 0)
        have em : nI n + (-1) = nI n - 1 := by rw [Int32.sub_eq_add_neg]
        refine ⟨σ2, l5, ?_, ((FR.refl _ σ1).A (by simp)).trans F2, fun k hk => by rw [if_pos q]; exact h2 k hk⟩
        rw [if_neg (fun z => z q), k151_151 (sT_47 h1) (n672 h1) (by rw [g672 h1]; exact sT_73 h1) (by rw [g672 h1, sN_73 h1]; exact gn), g672 h1, qn, em]
        exact e2
      · refine ⟨jsA σ1 73 n (w n + 1), some (.int (nI n)), ?_, (FR.refl _ σ1).A (by simp), fun k hk => by rw [if_neg q]; exact st _ k hk⟩
        rw [if_pos q, k151_165, if_neg (nn0 (by omega)), k151_170 (sT_47 h1) (n672 h1) (by rw [g672 h1]; exact Or.inl (sT_73 h1)) (by rw [g672 h1, sN_73 h1]; exact gn) (by rw [g672 h1]; exact sT_73 h1), g672 h1, qn, hw1 n (by omega)]
  -- the first unlike one is kept
  have copyL : ∀ f n σ1 (x4 : Int32), n + f = N → FR [49, 61, 62, 73, 74] σ σ1 → ∃ σ2, jx (d + 5) 151 91 [some (.ref 47), some (.int (nI r)), some (.int (nI N)), some (.int 1), some (.int x4), some (.int (nI n))] [] σ1 = jx (d + 5) 151 122 [some (.ref 47), some (.int (nI r)), some (.int (nI N)), some (.int 1), some (.int x4), some (.int (nI N))] [] σ2 ∧ FR [62] σ1 σ2 := by
    intro f
    induction f with
    | zero =>
      intro n σ1 x4 hn F
      have e : n = N := by omega
      subst e
      exact ⟨σ1, by rw [k151_91, if_pos (nI_le (Nat.le_refl _) (by omega))], FR.refl _ σ1⟩
    | succ f ih =>
      intro n σ1 x4 hn F
      have h1 := F.sh hS
      have e112 : (11 : Int32) * nI r + nI n = nI (11 * r + n) := by rw [e11, nadd]
      obtain ⟨σ2, e2, F2⟩ := ih (n + 1) (jsA σ1 62 (11 * r + n) (jA σ1 73 n)) x4 (by omega) (F.A (by simp))
      refine ⟨σ2, ?_, ((FR.refl _ σ1).A (by simp)).trans F2⟩
      rw [k151_91, if_neg (nI_ge (by omega) (by omega)), k151_97 (sT_47 h1) (n657 h1) (n672 h1) (by rw [g672 h1]; exact Or.inl (sT_73 h1)) (by rw [g672 h1, sN_73 h1]; exact jin_n (by omega) (by decide)) (by rw [g657 h1]; exact sT_62 h1) (by rw [g657 h1, sN_62 h1, e112]; exact jin_n (by omega) (by decide)), g672 h1, g657 h1, e112, nI_clamp (by omega), nI_clamp (by omega), ← nI_succ]
      exact e2
  -- all of them
  have loop : ∀ f n σ1 v A (fl : Int32) l5, n + f = P → (fl = 0 ∨ fl = 1) → FR [49, 61, 62, 73, 74] σ σ1 → (∀ i, i ≠ r → jA σ1 61 i = jA σ 61 i) → jA σ1 61 r = nI A → (∀ k, k < 11 → jA σ1 73 k = v k) → VB W (wdN nr hc) N tp v → ∃ σ', jx (d + 5) 151 50 [some (.ref 47), some (.int (nI r)), some (.int (nI N)), some (.int fl), some (.int (nI n)), l5] [] σ1 = some (none, σ') ∧ FR [49, 61, 62, 73, 74] σ σ' ∧ (∀ i, i ≠ r → jA σ' 61 i = jA σ 61 i) ∧ jA σ' 61 r = nI (A + cntL (lik W nr hc o1 o2) (odo tp N) f v) := by
    intro f
    induction f with
    | zero =>
      intro n σ1 v A fl l5 hn hfl F hi hA hv hV
      have e : n = P := by omega
      subst e
      have h1 := F.sh hS
      refine ⟨σ1, ?_, F, hi, hA⟩
      rw [k151_50 (sT_47 h1) (n655 h1) (by rw [g655 h1]; exact Or.inl (sT_60 h1)) (by rw [g655 h1, sN_60 h1]; exact gr), g655 h1, qr, (F.2 60 (by decide)).2, e60, if_pos (Int32.le_refl _), k151_187]
    | succ f ih =>
      intro n σ1 v A fl l5 hn hfl F hi hA hv hV
      have h1 := F.sh hS
      have M1 : MR σ1 r nr nm hc o1 o2 rg := hM0.frame F (fun a x y => by simp; omega)
      have hV' : VB W (wdN nr hc) (wdN nr hc + nm) tp v := by rw [eN]; exact hV
      obtain ⟨σ2, e2, F2⟩ := c152 (d := d) (W := W) h1 hW (by rw [(F.2 47 (by decide)).1]; exact hw) hr hnr hnm M1 f1 f2 hV' hv
      have FF2 : FR [49, 61, 62, 73, 74] σ σ2 := F.trans (F2.mono (by decide))
      have h2 := FF2.sh hS
      have v2 : ∀ k, k < 11 → jA σ2 73 k = v k := fun k hk => by rw [(F2.2 73 (by decide)).2]; exact hv k hk
      have i2 : ∀ i, jA σ2 61 i = jA σ1 61 i := (F2.2 61 (by decide)).2
      have ec : cntL (lik W nr hc o1 o2) (odo tp N) (f + 1) v = (if lik W nr hc o1 o2 v = true then 1 else 0) + cntL (lik W nr hc o1 o2) (odo tp N) f (odo tp N v) := rfl
      have a1 : jx (d + 5) 151 50 [some (.ref 47), some (.int (nI r)), some (.int (nI N)), some (.int fl), some (.int (nI n)), l5] [] σ1 = jx (d + 5) 151 66 [some (.ref 47), some (.int (nI r)), some (.int (nI N)), some (.int fl), some (.int (nI n)), l5] [.int (if lik W nr hc o1 o2 v = true then 1 else 0)] σ2 := by
        rw [k151_50 (sT_47 h1) (n655 h1) (by rw [g655 h1]; exact Or.inl (sT_60 h1)) (by rw [g655 h1, sN_60 h1]; exact gr), g655 h1, qr, (F.2 60 (by decide)).2, e60, if_neg (nI_ge (by omega) hP), k151_61 (sT_47 h1), e2]
        rfl
      -- on from 127
      have on : ∀ υ A' (fl' : Int32), (fl' = 0 ∨ fl' = 1) → FR [49, 61, 62, 73, 74] σ υ → (∀ i, i ≠ r → jA υ 61 i = jA σ 61 i) → jA υ 61 r = nI A' → (∀ k, k < 11 → jA υ 73 k = v k) → ∃ σ', jx (d + 5) 151 127 [some (.ref 47), some (.int (nI r)), some (.int (nI N)), some (.int fl'), some (.int (nI n)), some (.int (nI N - 1))] [] υ = some (none, σ') ∧ FR [49, 61, 62, 73, 74] σ σ' ∧ (∀ i, i ≠ r → jA σ' 61 i = jA σ 61 i) ∧ jA σ' 61 r = nI (A' + cntL (lik W nr hc o1 o2) (odo tp N) f (odo tp N v)) := by
        intro υ A' fl' hfl' Fυ iυ hA' vυ
        obtain ⟨σ3, l5', e3, F3, h3⟩ := odoL N v υ fl' (nI n) (Nat.le_refl _) Fυ hV vυ
        obtain ⟨σ', e4, F4, i4, h4⟩ := ih (n + 1) σ3 (odo tp N v) A' fl' l5' (by omega) hfl' (Fυ.trans (F3.mono (by decide))) (fun i q => by rw [(F3.2 61 (by decide)).2]; exact iυ i q) (by rw [(F3.2 61 (by decide)).2]; exact hA') h3 (hV.odo _ _)
        refine ⟨σ', ?_, F4, i4, h4⟩
        rw [e3, ← nI_succ]
        exact e4
      have eN1 : nI N - 1 = nI N - 1 := rfl
      by_cases hl : lik W nr hc o1 o2 v = true
      · rw [if_pos hl] at ec a1
        have hu : FR [49, 61, 62, 73, 74] σ (jsA σ2 61 r (nI (A + 1))) := FF2.A (by simp)
        obtain ⟨σ', e3, F3, i3, h3⟩ := on (jsA σ2 61 r (nI (A + 1))) (A + 1) fl hfl hu (fun i q => by rw [zA_A, if_neg (fun z => q z.2), i2]; exact hi i q) (by rw [zA_A, if_pos ⟨rfl, rfl⟩]) (fun k hk => by rw [zA_A, if_neg (fun z => absurd z.1 (by decide))]; exact v2 k hk)
        refine ⟨σ', ?_, F3, i3, by rw [h3, ec]; congr 1; omega⟩
        rw [a1, k151_66, if_neg (by decide), k151_69 (sT_47 h2) (n656 h2) (by rw [g656 h2]; exact Or.inl (sT_61 h2)) (by rw [g656 h2, sN_61 h2]; exact gr) (by rw [g656 h2]; exact sT_61 h2), g656 h2, qr, i2, hA, ← nI_succ]
        exact e3
      · rw [if_neg hl] at ec a1
        by_cases q : fl = 0
        · obtain ⟨σ3, e3, F3⟩ := copyL N 0 σ2 (nI n) (by omega) FF2
          obtain ⟨σ', e4, F4, i4, h4⟩ := on σ3 A 1 (Or.inr rfl) (FF2.trans (F3.mono (by decide))) (fun i q => by rw [(F3.2 61 (by decide)).2, i2]; exact hi i q) (by rw [(F3.2 61 (by decide)).2, i2]; exact hA) (fun k hk => by rw [(F3.2 73 (by decide)).2]; exact v2 k hk)
          refine ⟨σ', ?_, F4, i4, by rw [h4, ec]; congr 1; omega⟩
          have e3' : jx (d + 5) 151 91 [some (.ref 47), some (.int (nI r)), some (.int (nI N)), some (.int 1), some (.int (nI n)), some (.int 0)] [] σ2 = _ := e3
          rw [a1, k151_66, if_pos rfl, k151_82, if_neg (fun z => z q), k151_86, e3', k151_122]
          exact e4
        · obtain ⟨σ', e4, F4, i4, h4⟩ := on σ2 A fl hfl FF2 (fun i q => by rw [i2]; exact hi i q) (by rw [i2]; exact hA) v2
          refine ⟨σ', ?_, F4, i4, by rw [h4, ec]; congr 1; omega⟩
          rw [a1, k151_66, if_pos rfl, k151_82, if_pos q, k151_122]
          exact e4
  -- the beginning
  obtain ⟨τ, eτ⟩ : ∃ τ, jsA (jsA σ 61 r 0) 62 (11 * r) (-4) = τ := ⟨_, rfl⟩
  have Fτ : FR [49, 61, 62, 73, 74] σ τ := eτ ▸ ((FR.refl _ σ).A (q := 61) (by decide)).A (by decide)
  have z61 : ∀ i, jA τ 61 i = if i = r then 0 else jA σ 61 i := fun i => by
    rw [← eτ, zA_A, if_neg (fun z => absurd z.1 (by decide)), zA_A]
    by_cases q : i = r
    · rw [if_pos ⟨rfl, q⟩, if_pos q]
    · rw [if_neg (fun z => q z.2), if_neg q]
  have zeroL : ∀ f n σ1, n + f = 11 → FR [73] τ σ1 → (∀ k, k < n → jA σ1 73 k = 0) → ∃ σ2, jx (d + 5) 151 26 [some (.ref 47), some (.int (nI r)), some (.int (nI N)), some (.int (nI n)), none, none] [] σ1 = jx (d + 5) 151 45 [some (.ref 47), some (.int (nI r)), some (.int (nI N)), some (.int (nI 11)), none, none] [] σ2 ∧ FR [73] τ σ2 ∧ ∀ k, k < 11 → jA σ2 73 k = 0 := by
    intro f
    induction f with
    | zero =>
      intro n σ1 hn F h
      have e : n = 11 := by omega
      subst e
      exact ⟨σ1, by rw [k151_26, if_pos (by decide)], F, h⟩
    | succ f ih =>
      intro n σ1 hn F h
      have h1 := F.sh (Fτ.sh hS)
      have g11 : ¬ (11 : Int32) ≤ nI n := nI_ge (b := 11) (by omega) (by omega)
      obtain ⟨σ2, e2, F2, h2⟩ := ih (n + 1) (jsA σ1 73 n 0) (by omega) (F.A (by simp)) (fun k hk => by
        rw [zA_A]
        by_cases q : k = n
        · rw [if_pos ⟨rfl, q⟩]
        · rw [if_neg (fun z => q z.2)]; exact h k (by omega))
      refine ⟨σ2, ?_, F2, h2⟩
      rw [← e2, k151_26, if_neg g11, k151_32 (sT_47 h1) (n672 h1) (by rw [g672 h1]; exact sT_73 h1) (by rw [g672 h1, sN_73 h1]; exact jin_n (by omega) (by decide)), g672 h1, nI_clamp (by omega), ← nI_succ]
  obtain ⟨σ2, e2, F2, h2⟩ := zeroL 11 0 τ rfl (FR.refl _ τ) (fun k hk => absurd hk (Nat.not_lt_zero k))
  obtain ⟨σ', e3, F3, i3, h3⟩ := loop P 0 σ2 (fun _ => 0) 0 0 none (by omega) (Or.inl rfl) (Fτ.trans (F2.mono (by decide))) (fun i q => by rw [(F2.2 61 (by decide)).2, z61, if_neg q]) (by rw [(F2.2 61 (by decide)).2, z61, if_pos rfl]; rfl) h2 hV0
  refine ⟨σ', ?_, F3, i3, by rw [h3, Nat.zero_add]⟩
  have cn := c149 (d := d + 4) hS hr m5 m6 m7
  rw [eN] at cn
  rw [k151_0 (sT_47 hS), cn]
  simp only [Option.bind_some, Option.toList_some, List.cons_append, List.nil_append]
  rw [k151_5 (sT_47 hS) (n656 hS) (by rw [g656 hS]; exact sT_61 hS) (by rw [g656 hS, sN_61 hS]; exact gr) (n657 hS) (by rw [g657 hS]; exact sT_62 hS) (by rw [g657 hS, sN_62 hS, e11]; exact jin_n (by omega) (by decide)), g656 hS, g657 hS, qr, e11, nI_clamp (by omega), eτ]
  have e2' : jx (d + 5) 151 26 [some (.ref 47), some (.int (nI r)), some (.int (nI N)), some (.int 0), none, none] [] τ = _ := e2
  rw [e2', k151_45]
  exact e3
end TRR
