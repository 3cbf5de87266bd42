/-! the reference's trial whole -/
section TRO
variable {d : Nat} {W : Nat}
theorem c152 {σ : jS} {r nr nm : Nat} {hc : Bool} {o1 o2 : List (Nat → Int32)} {rg t v : Nat → Int32} (hS : SH σ) (hW : W = 1 ∨ W = 2 ∨ W = 3) (hw : jI σ 640 47 = nI W) (hr : r < 24) (hnr : nr ≤ 4) (hnm : nm ≤ 3) (hM : MR σ r nr nm hc o1 o2 rg) (f1 : ∀ o, o ∈ o1 → WFo nr nm o) (f2 : ∀ o, o ∈ o2 → WFo nr nm o) (hV : VB W (wdN nr hc) (wdN nr hc + nm) t v) (hv : ∀ k, k < 11 → jA σ 73 k = v k) :
    ∃ σ', jx (d + 4) 152 0 [some (.ref 47), some (.int (nI r)), none, none] [] σ = some (some (.int (if lik W nr hc o1 o2 v = true then 1 else 0)), σ') ∧ FR [49, 74] σ σ' := by
  have hM0 := hM
  obtain ⟨m1, m2, m3, m4, m5, m6, m7, m8, m9, m10⟩ := hM
  obtain ⟨σ1, e1, F1, h1⟩ := c153 (d := d) (W := W) (sd := 0) hS hW hw hr (Or.inl rfl) hnr hnm m5 m7 m1 m3 m9 f1 hV hv
  have hS1 := F1.sh hS
  have gr : jin 24 (nI r) := jin_n hr (by decide)
  have qr : (nI r).toNatClampNeg = r := nI_clamp (by omega)
  have g643 : ∀ {υ : jS}, SH υ → (jR υ 643 47).getD 0 = 49 := fun h => by rw [sR_643_47 h]; rfl
  have n643 : ∀ {υ : jS}, SH υ → jR υ 643 47 ≠ none := fun h => by rw [sR_643_47 h]; exact fun z => nomatch z
  have g673 : ∀ {υ : jS}, SH υ → (jR υ 673 47).getD 0 = 74 := fun h => by rw [sR_673_47 h]; rfl
  have n673 : ∀ {υ : jS}, SH υ → jR υ 673 47 ≠ none := fun h => by rw [sR_673_47 h]; exact fun z => nomatch z
  have L1 : ∀ f n σ2, n + f = 8 → FR [74] σ1 σ2 → (∀ i, i < n → jA σ2 74 i = jA σ1 49 i) → ∃ σ3, jx (d + 4) 152 8 [some (.ref 47), some (.int (nI r)), some (.int (nI n)), none] [] σ2 = jx (d + 4) 152 32 [some (.ref 47), some (.int (nI r)), some (.int (nI 8)), none] [] σ3 ∧ FR [74] σ1 σ3 ∧ ∀ i, i < 8 → jA σ3 74 i = jA σ1 49 i := by
    intro f
    induction f with
    | zero =>
      intro n σ2 hn F h
      have e : n = 8 := by omega
      subst e
      exact ⟨σ2, by rw [k152_8, if_pos (by decide)], F, h⟩
    | succ f ih =>
      intro n σ2 hn F h
      have hS2 := F.sh hS1
      have g8 : ¬ (8 : Int32) ≤ nI n := nI_ge (b := 8) (by omega) (by omega)
      obtain ⟨σ3, e3, F3, h3⟩ := ih (n + 1) (jsA σ2 74 n (jA σ1 49 n)) (by omega) (F.A (by simp)) (fun i hi => by
        rw [zA_A]
        by_cases q : i = n
        · rw [if_pos ⟨rfl, q⟩, q]
        · rw [if_neg (fun z => q z.2)]; exact h i (by omega))
      refine ⟨σ3, ?_, F3, h3⟩
      rw [← e3, k152_8, if_neg g8, k152_14 (sT_47 hS2) (n673 hS2) (n643 hS2) (by rw [g643 hS2]; exact Or.inl (sT_49 hS2)) (by rw [g643 hS2, sN_49 hS2]; exact jin_n (by omega) (by decide)) (by rw [g673 hS2]; exact sT_74 hS2) (by rw [g673 hS2, sN_74 hS2]; exact jin_n (by omega) (by decide)), g643 hS2, g673 hS2, nI_clamp (by omega), (F.2 49 (by decide)).2, ← nI_succ]
  obtain ⟨σ3, e3, F3, h3⟩ := L1 8 0 σ1 rfl (FR.refl _ σ1) (fun i hi => absurd hi (Nat.not_lt_zero i))
  have F13 : FR [49, 74] σ σ3 := (F1.mono (by decide)).trans (F3.mono (by decide))
  have hS3 := F13.sh hS
  have M3 : MR σ3 r nr nm hc o1 o2 rg := hM0.frame F13 (fun a x y => by simp; omega)
  obtain ⟨y1, y2, y3, y4, y5, y6, y7, y8, y9, y10⟩ := M3
  obtain ⟨σ4, e4, F4, h4⟩ := c153 (d := d) (W := W) (sd := 1) hS3 hW (by rw [(F13.2 47 (by decide)).1]; exact hw) hr (Or.inr rfl) hnr hnm y5 y7 y2 y4 y10 f2 hV (fun k hk => by rw [(F13.2 73 (by decide)).2]; exact hv k hk)
  have F14 : FR [49, 74] σ σ4 := F13.trans (F4.mono (by decide))
  have hS4 := F14.sh hS
  have lf : ∀ i, i < 8 → jA σ4 74 i = exS W nr hc o1 v i := fun i hi => by rw [(F4.2 74 (by decide)).2, h3 i hi, h1 i hi]
  have q56 : jA σ4 56 r = nI nr := by rw [(F4.2 56 (by decide)).2]; exact y5
  have g651 : (jR σ4 651 47).getD 0 = 56 := by rw [sR_651_47 hS4]; rfl
  have n651 : jR σ4 651 47 ≠ none := by rw [sR_651_47 hS4]; exact fun z => nomatch z
  have L2 : ∀ f n (x : Int32), n + f = 4 → (x = 0 ∨ x = 1) → ∃ y : Int32, jx (d + 4) 152 42 [some (.ref 47), some (.int (nI r)), some (.int x), some (.int (nI n))] [] σ4 = some (some (.int y), σ4) ∧ (y = 0 ∨ y = 1) ∧ (y = 1 ↔ (x = 1 ∧ ∀ i, n ≤ i → i < 4 → (nr ≤ i ∨ exS W nr hc o1 v i = exS W nr hc o2 v i) ∧ exS W nr hc o1 v (4 + i) = exS W nr hc o2 v (4 + i))) := by
    intro f
    induction f with
    | zero =>
      intro n x hn hx
      have e : n = 4 := by omega
      subst e
      refine ⟨x, ?_, hx, ⟨fun z => ⟨z, fun i a b => by omega⟩, fun z => z.1⟩⟩
      rw [k152_42, if_pos (by decide), k152_107 (by rcases hx with q | q <;> rw [q] <;> decide)]
    | succ f ih =>
      intro n x hn hx
      have g4 : ¬ (4 : Int32) ≤ nI n := nI_ge (b := 4) (by omega) (by omega)
      have p4 : (4 : Int32) + nI n = nI (4 + n) := by rw [show (4 : Int32) = nI 4 from rfl, nadd]
      have no : ∀ (hbad : ¬ (x = 1 ∧ (nr ≤ n ∨ exS W nr hc o1 v n = exS W nr hc o2 v n) ∧ exS W nr hc o1 v (4 + n) = exS W nr hc o2 v (4 + n))), jx (d + 4) 152 42 [some (.ref 47), some (.int (nI r)), some (.int x), some (.int (nI n))] [] σ4 = jx (d + 4) 152 99 [some (.ref 47), some (.int (nI r)), some (.int x), some (.int (nI n))] [] σ4 → ∃ y : Int32, jx (d + 4) 152 42 [some (.ref 47), some (.int (nI r)), some (.int x), some (.int (nI n))] [] σ4 = some (some (.int y), σ4) ∧ (y = 0 ∨ y = 1) ∧ (y = 1 ↔ (x = 1 ∧ ∀ i, n ≤ i → i < 4 → (nr ≤ i ∨ exS W nr hc o1 v i = exS W nr hc o2 v i) ∧ exS W nr hc o1 v (4 + i) = exS W nr hc o2 v (4 + i))) := by
        intro hbad e
        obtain ⟨y, y1, y2, y3⟩ := ih (n + 1) 0 (by omega) (Or.inl rfl)
        refine ⟨y, by rw [e, k152_99, ← nI_succ]; exact y1, y2, ⟨fun z => absurd (y3.mp z).1 (by decide), fun z => ?_⟩⟩
        exact absurd ⟨z.1, z.2 n (Nat.le_refl _) (by omega)⟩ hbad
      by_cases hx0 : x = 0
      · refine no (fun z => by rw [hx0] at z; exact absurd z.1 (by decide)) ?_
        rw [k152_42, if_neg g4, k152_47, if_pos hx0]
      · have hx1 : x = 1 := hx.resolve_left hx0
        have a1 : jx (d + 4) 152 42 [some (.ref 47), some (.int (nI r)), some (.int x), some (.int (nI n))] [] σ4 = if nI nr ≤ nI n then jx (d + 4) 152 76 [some (.ref 47), some (.int (nI r)), some (.int x), some (.int (nI n))] [] σ4 else jx (d + 4) 152 61 [some (.ref 47), some (.int (nI r)), some (.int x), some (.int (nI n))] [] σ4 := by
          rw [k152_42, if_neg g4, k152_47, if_neg hx0, k152_51 (sT_47 hS4) n651 (by rw [g651]; exact Or.inl (sT_56 hS4)) (by rw [g651, sN_56 hS4]; exact gr), g651, qr, q56]
        have a2 : ¬ nr ≤ n → jx (d + 4) 152 61 [some (.ref 47), some (.int (nI r)), some (.int x), some (.int (nI n))] [] σ4 = if ¬ exS W nr hc o1 v n = exS W nr hc o2 v n then jx (d + 4) 152 99 [some (.ref 47), some (.int (nI r)), some (.int x), some (.int (nI n))] [] σ4 else jx (d + 4) 152 76 [some (.ref 47), some (.int (nI r)), some (.int x), some (.int (nI n))] [] σ4 := by
          intro _
          rw [k152_61 (sT_47 hS4) (n673 hS4) (by rw [g673 hS4]; exact Or.inl (sT_74 hS4)) (by rw [g673 hS4, sN_74 hS4]; exact jin_n (by omega) (by decide)) (n643 hS4) (by rw [g643 hS4]; exact Or.inl (sT_49 hS4)) (by rw [g643 hS4, sN_49 hS4]; exact jin_n (by omega) (by decide)), g673 hS4, g643 hS4, nI_clamp (by omega), lf n (by omega), h4 n (by omega)]
        have a3 : jx (d + 4) 152 76 [some (.ref 47), some (.int (nI r)), some (.int x), some (.int (nI n))] [] σ4 = if ¬ exS W nr hc o1 v (4 + n) = exS W nr hc o2 v (4 + n) then jx (d + 4) 152 99 [some (.ref 47), some (.int (nI r)), some (.int x), some (.int (nI n))] [] σ4 else jx (d + 4) 152 95 [some (.ref 47), some (.int (nI r)), some (.int x), some (.int (nI n))] [] σ4 := by
          rw [k152_76 (sT_47 hS4) (n673 hS4) (by rw [g673 hS4]; exact Or.inl (sT_74 hS4)) (by rw [g673 hS4, sN_74 hS4, p4]; exact jin_n (by omega) (by decide)) (n643 hS4) (by rw [g643 hS4]; exact Or.inl (sT_49 hS4)) (by rw [g643 hS4, sN_49 hS4, p4]; exact jin_n (by omega) (by decide)), g673 hS4, g643 hS4, p4, nI_clamp (by omega), lf (4 + n) (by omega), h4 (4 + n) (by omega)]
        by_cases c2 : exS W nr hc o1 v (4 + n) = exS W nr hc o2 v (4 + n)
        · have yes : (nr ≤ n ∨ exS W nr hc o1 v n = exS W nr hc o2 v n) → jx (d + 4) 152 42 [some (.ref 47), some (.int (nI r)), some (.int x), some (.int (nI n))] [] σ4 = jx (d + 4) 152 95 [some (.ref 47), some (.int (nI r)), some (.int x), some (.int (nI n))] [] σ4 → ∃ y : Int32, jx (d + 4) 152 42 [some (.ref 47), some (.int (nI r)), some (.int x), some (.int (nI n))] [] σ4 = some (some (.int y), σ4) ∧ (y = 0 ∨ y = 1) ∧ (y = 1 ↔ (x = 1 ∧ ∀ i, n ≤ i → i < 4 → (nr ≤ i ∨ exS W nr hc o1 v i = exS W nr hc o2 v i) ∧ exS W nr hc o1 v (4 + i) = exS W nr hc o2 v (4 + i))) := by
            intro c1 e
            obtain ⟨y, y1, y2, y3⟩ := ih (n + 1) 1 (by omega) (Or.inr rfl)
            refine ⟨y, by rw [e, k152_95, ← nI_succ]; exact y1, y2, ⟨fun z => ⟨hx1, fun i a b => ?_⟩, fun z => y3.mpr ⟨rfl, fun i a b => z.2 i (by omega) b⟩⟩⟩
            by_cases q : i = n
            · rw [q]; exact ⟨c1, c2⟩
            · exact (y3.mp z).2 i (by omega) b
          by_cases cn : nr ≤ n
          · exact yes (Or.inl cn) (by rw [a1, if_pos (nI_le cn (by omega)), a3, if_neg (fun z => z c2)])
          · have lt : ¬ nI nr ≤ nI n := nI_ge (by omega) (by omega)
            by_cases c1 : exS W nr hc o1 v n = exS W nr hc o2 v n
            · exact yes (Or.inr c1) (by rw [a1, if_neg lt, a2 cn, if_neg (fun z => z c1), a3, if_neg (fun z => z c2)])
            · exact no (fun z => z.2.1.elim cn c1) (by rw [a1, if_neg lt, a2 cn, if_pos c1])
        · refine no (fun z => c2 z.2.2) ?_
          by_cases cn : nr ≤ n
          · rw [a1, if_pos (nI_le cn (by omega)), a3, if_pos c2]
          · have lt : ¬ nI nr ≤ nI n := nI_ge (by omega) (by omega)
            by_cases c1 : exS W nr hc o1 v n = exS W nr hc o2 v n
            · rw [a1, if_neg lt, a2 cn, if_neg (fun z => z c1), a3, if_pos c2]
            · rw [a1, if_neg lt, a2 cn, if_pos c1]
  obtain ⟨y, y1', y2', y3'⟩ := L2 4 0 1 rfl (Or.inr rfl)
  have ly : y = if lik W nr hc o1 o2 v = true then 1 else 0 := by
    by_cases q : lik W nr hc o1 o2 v = true
    · rw [if_pos q]
      exact y3'.mpr ⟨rfl, fun i _ b => (lik_iff hW hnr hnm hV f1 f2).mp q i b⟩
    · rw [if_neg q]
      rcases y2' with z | z
      · exact z
      · exact absurd ((lik_iff hW hnr hnm hV f1 f2).mpr (fun i b => (y3'.mp z).2 i (Nat.zero_le _) b)) q
  refine ⟨σ4, ?_, F14⟩
  have e1' : jx (d + 3) 153 0 [some (.ref 47), some (.int (nI r)), some (.int 0), none, none, none, none, none, none] [] σ = some (none, σ1) := e1
  have e3' : jx (d + 4) 152 8 [some (.ref 47), some (.int (nI r)), some (.int 0), none] [] σ1 = _ := e3
  have e4' : jx (d + 3) 153 0 [some (.ref 47), some (.int (nI r)), some (.int 1), none, none, none, none, none, none] [] σ3 = some (none, σ4) := e4
  rw [k152_0 (sT_47 hS), e1']
  simp only [Option.bind_some, Option.toList_none, List.nil_append]
  rw [k152_6, e3', k152_32 (sT_47 hS3), e4']
  simp only [Option.bind_some, Option.toList_none, List.nil_append]
  rw [k152_38, ← ly]
  exact y1'
end TRO
