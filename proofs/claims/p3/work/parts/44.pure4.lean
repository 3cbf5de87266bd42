/-! class and reference find the same name -/
theorem nmv_big : ∀ k, k < 19 → nmv k = nI (nmv k).toNatClampNeg ∧ 423 ≤ (nmv k).toNatClampNeg ∧ (nmv k).toNatClampNeg < 20000 := by decide
theorem name_iff {t : Nat → Int32} {p L k : Nat} (hk : k < 19) (hL : 1 ≤ L) (hl : ∀ j, j < L → isLo (t (p + j))) : nmv k = wz t p L ↔ (nlnN k = L ∧ nmD t p k L = true) := by
  have n23 : nlnN k = 2 ∨ nlnN k = 3 := by unfold nlnN; split <;> omega
  obtain ⟨b1, b2, b3⟩ := nmv_big k hk
  rw [nmD_iff]
  rcases Nat.lt_or_ge 3 L with h4 | h4
  · have e : wz t p L = nI 0 := if_pos h4
    rw [e, b1, n31eq (by omega) (by decide)]
    omega
  · have e : wz t p L = wv t p L := if_neg (by omega)
    rw [e]
    have : L = 1 ∨ L = 2 ∨ L = 3 := by omega
    obtain ⟨a, a1, a2, ea⟩ := lo_nat (hl 0 (by omega))
    rw [Nat.add_zero] at ea
    rcases this with rfl | rfl | rfl
    · rw [wv1 a1 ea, b1, n31eq (by omega) (by omega)]
      omega
    · obtain ⟨c, c1, c2, ec⟩ := lo_nat (hl 1 (by omega))
      rw [wv2 a1 ea c1 ec, name2 ⟨a1, a2⟩ ⟨c1, c2⟩ hk]
      constructor
      · intro ⟨z1, z2, z3⟩
        refine ⟨z1, fun j hj => ?_⟩
        have : j = 0 ∨ j = 1 := by omega
        rcases this with rfl | rfl
        · exact z2.trans ea.symm
        · exact z3.trans ec.symm
      · intro ⟨z1, z2⟩
        exact ⟨z1, (z2 0 (by omega)).trans ea, (z2 1 (by omega)).trans ec⟩
    · obtain ⟨c, c1, c2, ec⟩ := lo_nat (hl 1 (by omega))
      obtain ⟨g, g1, g2, eg⟩ := lo_nat (hl 2 (by omega))
      rw [wv3 a1 ea c1 ec g1 eg, name3 ⟨a1, a2⟩ ⟨c1, c2⟩ ⟨g1, g2⟩ hk]
      constructor
      · intro ⟨z1, z2, z3, z4⟩
        refine ⟨z1, fun j hj => ?_⟩
        have : j = 0 ∨ j = 1 ∨ j = 2 := by omega
        rcases this with rfl | rfl | rfl
        · exact z2.trans ea.symm
        · exact z3.trans ec.symm
        · exact z4.trans eg.symm
      · intro ⟨z1, z2⟩
        exact ⟨z1, (z2 0 (by omega)).trans ea, (z2 1 (by omega)).trans ec, (z2 2 (by omega)).trans eg⟩
theorem op_kn {t : Nat → Int32} {p L : Nat} (hL : 1 ≤ L) (hl : ∀ j, j < L → isLo (t (p + j))) : ∀ f k, k + f ≤ 19 → (knF t p L f k = -1 ∧ opF (wz t p L) f k = -4) ∨ (¬ knF t p L f k = -1 ∧ opF (wz t p L) f k = knF t p L f k) := by
  intro f
  induction f with
  | zero => intro k _; exact Or.inl ⟨rfl, rfl⟩
  | succ f ih =>
    intro k hk
    unfold knF opF
    by_cases h : nlnN k = L ∧ nmD t p k L = true
    · rw [if_pos h, if_pos ((name_iff (by omega) hL hl).mpr h)]
      refine Or.inr ⟨fun z => ?_, rfl⟩
      have h0 : ¬ nI k < 0 := nI_pos (by omega)
      rw [z] at h0
      exact h0 (by decide)
    · rw [if_neg h, if_neg (fun z => h ((name_iff (by omega) hL hl).mp z))]
      exact ih (k + 1) (by omega)
