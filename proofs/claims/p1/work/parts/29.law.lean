/-! the law on fresh objects -/
def jst0 (σ : jS) : Prop := (jfx σ ∧ jfm σ ∧ jfy σ ∧ jfn σ) ∧ jnx σ = 81 ∧ jT σ 0 = 60 ∧ jN σ 0 = 6 ∧ jsl σ ≤ 10000
def jgood (r : jr) : Prop := ∃ σ', r = some (some (.int 1), σ') ∧ jnx σ' ≤ 600016 ∧ jsl σ' ≤ 7302250
theorem l_width {σ : jS} (h : jst0 σ) : jgood (jx 12 0 148 [some (.ref 0), some (.ref 16), some (.ref 47), some (.int 0)] [] σ) := by
  obtain ⟨⟨hx, hm, hy, hn⟩, h1, h2, h3, h4⟩ := h
  have x1 := hx.1
  have m1 := hm.1
  obtain ⟨σ1, e1, ⟨t1, n1, a1, fm, fn, s1⟩, j1⟩ : ∃ σ1, jx 11 12 0 [some (.ref 16), some (.int (jA σ 0 1)), none] [] σ = some (some (.int (v_width (jA σ 0 1))), σ1) ∧ jkeep σ σ1 ∧ jnx σ1 = jnx σ := x_width (d := 3) hx (jA σ 0 1)
  obtain ⟨σ2, e2, t2, n2, a2, j2, s2⟩ : ∃ σ2, jx 11 122 0 [some (.ref 47), some (.int (jA σ 0 1)), none] [] σ1 = some (some (.int (v_width (jA σ 0 1))), σ2) ∧ jlast σ1 σ2 := m_width (d := 3) (fm hm) (jA σ 0 1)
  have m2 := (fm hm).1
  refine ⟨σ2, ?_, by omega, by omega⟩
  simp (decide := true) only [k0_148, k0_157, k0_166, k0_169, k0_939, k0_18, k0_945, e1, e2, x1, m1, m2, h2, h3, t1, n1, a1, t2, n2, eq_self, Option.getD_some, ne_eq, reduceCtorEq, not_false_eq_true, not_true_eq_false, Option.bind_some, Option.toList_none, Option.toList_some, List.nil_append, List.cons_append, List.append_nil, ↓reduceIte, and_self, true_and, and_true, false_and, and_false, or_true, true_or, or_false, false_or, Nat.reduceEqDiff, Nat.reduceAdd, Int32.reduceMul, Int32.reduceAdd, Int32.reduceSub, Int32.reduceToNatClampNeg, Int32.reduceOfNat, Int32.reduceLT, Int32.reduceLE, va_rf, jin_eq]
theorem l_feed {σ : jS} (h : jst0 σ) : jgood (jx 12 0 171 [some (.ref 0), some (.ref 16), some (.ref 47), some (.int 0)] [] σ) := by
  obtain ⟨⟨hx, hm, hy, hn⟩, h1, h2, h3, h4⟩ := h
  have x1 := hx.1
  have m1 := hm.1
  obtain ⟨σ1, e1, ⟨t1, n1, a1, fm, fn, s1⟩, j1⟩ : ∃ σ1, jx 11 13 0 [some (.ref 16), some (.int (jA σ 0 1)), some (.int (jA σ 0 2)), some (.int (jA σ 0 3)), some (.int (jA σ 0 4)), some (.int (jA σ 0 5))] [] σ = some (some (.int (20)), σ1) ∧ jkeep σ σ1 ∧ jnx σ1 = jnx σ := x_feed (d := 3) hx (jA σ 0 1) (jA σ 0 2) (jA σ 0 3) (jA σ 0 4) (jA σ 0 5)
  obtain ⟨σ2, e2, t2, n2, a2, j2, s2⟩ : ∃ σ2, jx 11 124 0 [some (.ref 47), some (.int (jA σ 0 1)), some (.int (jA σ 0 2)), some (.int (jA σ 0 3)), some (.int (jA σ 0 4)), some (.int (jA σ 0 5))] [] σ1 = some (some (.int (20)), σ2) ∧ jlast σ1 σ2 := m_feed (d := 3) (fm hm) (jA σ 0 1) (jA σ 0 2) (jA σ 0 3) (jA σ 0 4) (jA σ 0 5)
  have m2 := (fm hm).1
  refine ⟨σ2, ?_, by omega, by omega⟩
  simp (decide := true) only [k0_171, k0_200, k0_229, k0_232, k0_939, k0_18, k0_945, e1, e2, x1, m1, m2, h2, h3, t1, n1, a1, t2, n2, eq_self, Option.getD_some, ne_eq, reduceCtorEq, not_false_eq_true, not_true_eq_false, Option.bind_some, Option.toList_none, Option.toList_some, List.nil_append, List.cons_append, List.append_nil, ↓reduceIte, and_self, true_and, and_true, false_and, and_false, or_true, true_or, or_false, false_or, Nat.reduceEqDiff, Nat.reduceAdd, Int32.reduceMul, Int32.reduceAdd, Int32.reduceSub, Int32.reduceToNatClampNeg, Int32.reduceOfNat, Int32.reduceLT, Int32.reduceLE, va_rf, jin_eq]
theorem l_end {σ : jS} (h : jst0 σ) : jgood (jx 12 0 234 [some (.ref 0), some (.ref 16), some (.ref 47), some (.int 0)] [] σ) := by
  obtain ⟨⟨hx, hm, hy, hn⟩, h1, h2, h3, h4⟩ := h
  have x1 := hx.1
  have m1 := hm.1
  obtain ⟨σ1, e1, ⟨t1, n1, a1, fm, fn, s1⟩, j1⟩ : ∃ σ1, jx 11 16 0 [some (.ref 16), some (.int (jA σ 0 1)), none] [] σ = some (some (.int (v_end (jA σ 0 1))), σ1) ∧ jkeep σ σ1 ∧ jnx σ1 = jnx σ := x_end (d := 3) hx (jA σ 0 1)
  obtain ⟨σ2, e2, t2, n2, a2, j2, s2⟩ : ∃ σ2, jx 11 126 0 [some (.ref 47), some (.int (jA σ 0 1)), none] [] σ1 = some (some (.int (v_end (jA σ 0 1))), σ2) ∧ jlast σ1 σ2 := m_end (d := 3) (fm hm) (jA σ 0 1)
  have m2 := (fm hm).1
  refine ⟨σ2, ?_, by omega, by omega⟩
  simp (decide := true) only [k0_234, k0_243, k0_252, k0_255, k0_939, k0_18, k0_945, e1, e2, x1, m1, m2, h2, h3, t1, n1, a1, t2, n2, eq_self, Option.getD_some, ne_eq, reduceCtorEq, not_false_eq_true, not_true_eq_false, Option.bind_some, Option.toList_none, Option.toList_some, List.nil_append, List.cons_append, List.append_nil, ↓reduceIte, and_self, true_and, and_true, false_and, and_false, or_true, true_or, or_false, false_or, Nat.reduceEqDiff, Nat.reduceAdd, Int32.reduceMul, Int32.reduceAdd, Int32.reduceSub, Int32.reduceToNatClampNeg, Int32.reduceOfNat, Int32.reduceLT, Int32.reduceLE, va_rf, jin_eq]
theorem l_rule {σ : jS} (h : jst0 σ) : jgood (jx 12 0 257 [some (.ref 0), some (.ref 16), some (.ref 47), some (.int 0)] [] σ) := by
  obtain ⟨⟨hx, hm, hy, hn⟩, h1, h2, h3, h4⟩ := h
  have x1 := hx.1
  have m1 := hm.1
  obtain ⟨σ1, e1, ⟨t1, n1, a1, fm, fn, s1⟩, j1⟩ : ∃ σ1, jx 11 17 0 [some (.ref 16), none] [] σ = some (some (.int (-10)), σ1) ∧ jkeep σ σ1 ∧ jnx σ1 ≤ 200 := p17 (d := 3) hx hy h1
  obtain ⟨σ2, e2, t2, n2, a2, j2, s2⟩ : ∃ σ2, jx 11 127 0 [some (.ref 47), none, none, none] [] σ1 = some (some (.int (-10)), σ2) ∧ jlast σ1 σ2 := p127 (d := 3) (fm hm) (fn hn)
  have m2 := (fm hm).1
  refine ⟨σ2, ?_, by omega, by omega⟩
  simp (decide := true) only [k0_257, k0_261, k0_265, k0_268, k0_939, k0_18, k0_945, e1, e2, x1, m1, m2, h2, h3, t1, n1, a1, t2, n2, eq_self, Option.getD_some, ne_eq, reduceCtorEq, not_false_eq_true, not_true_eq_false, Option.bind_some, Option.toList_none, Option.toList_some, List.nil_append, List.cons_append, List.append_nil, ↓reduceIte, and_self, true_and, and_true, false_and, and_false, or_true, true_or, or_false, false_or, Nat.reduceEqDiff, Nat.reduceAdd, Int32.reduceMul, Int32.reduceAdd, Int32.reduceSub, Int32.reduceToNatClampNeg, Int32.reduceOfNat, Int32.reduceLT, Int32.reduceLE, va_rf, jin_eq]
theorem l_program {σ : jS} (h : jst0 σ) : jgood (jx 12 0 270 [some (.ref 0), some (.ref 16), some (.ref 47), some (.int 0)] [] σ) := by
  obtain ⟨⟨hx, hm, hy, hn⟩, h1, h2, h3, h4⟩ := h
  have x1 := hx.1
  have m1 := hm.1
  obtain ⟨σ1, e1, ⟨t1, n1, a1, fm, fn, s1⟩, j1⟩ : ∃ σ1, jx 11 76 0 [some (.ref 16), none] [] σ = some (some (.int (0)), σ1) ∧ jkeep σ σ1 ∧ jnx σ1 ≤ 200 := p76 (d := 3) hx hy h1
  obtain ⟨σ2, e2, t2, n2, a2, j2, s2⟩ : ∃ σ2, jx 11 158 0 [some (.ref 47)] [] σ1 = some (some (.int (0)), σ2) ∧ jlast σ1 σ2 := p158 (d := 3) (fm hm) (fn hn)
  have m2 := (fm hm).1
  refine ⟨σ2, ?_, by omega, by omega⟩
  simp (decide := true) only [k0_270, k0_274, k0_278, k0_281, k0_939, k0_18, k0_945, e1, e2, x1, m1, m2, h2, h3, t1, n1, a1, t2, n2, eq_self, Option.getD_some, ne_eq, reduceCtorEq, not_false_eq_true, not_true_eq_false, Option.bind_some, Option.toList_none, Option.toList_some, List.nil_append, List.cons_append, List.append_nil, ↓reduceIte, and_self, true_and, and_true, false_and, and_false, or_true, true_or, or_false, false_or, Nat.reduceEqDiff, Nat.reduceAdd, Int32.reduceMul, Int32.reduceAdd, Int32.reduceSub, Int32.reduceToNatClampNeg, Int32.reduceOfNat, Int32.reduceLT, Int32.reduceLE, va_rf, jin_eq]
theorem l_fault {σ : jS} (h : jst0 σ) : jgood (jx 12 0 283 [some (.ref 0), some (.ref 16), some (.ref 47), some (.int 0)] [] σ) := by
  obtain ⟨⟨hx, hm, hy, hn⟩, h1, h2, h3, h4⟩ := h
  have x1 := hx.1
  have m1 := hm.1
  obtain ⟨σ1, e1, ⟨t1, n1, a1, fm, fn, s1⟩, j1⟩ : ∃ σ1, jx 11 79 0 [some (.ref 16)] [] σ = some (some (.int (0)), σ1) ∧ jkeep σ σ1 ∧ jnx σ1 = jnx σ := x_fault (d := 3) hx
  obtain ⟨σ2, e2, t2, n2, a2, j2, s2⟩ : ∃ σ2, jx 11 160 0 [some (.ref 47)] [] σ1 = some (some (.int (0)), σ2) ∧ jlast σ1 σ2 := m_fault (d := 3) (fm hm)
  have m2 := (fm hm).1
  refine ⟨σ2, ?_, by omega, by omega⟩
  simp (decide := true) only [k0_283, k0_287, k0_291, k0_294, k0_939, k0_18, k0_945, e1, e2, x1, m1, m2, h2, h3, t1, n1, a1, t2, n2, eq_self, Option.getD_some, ne_eq, reduceCtorEq, not_false_eq_true, not_true_eq_false, Option.bind_some, Option.toList_none, Option.toList_some, List.nil_append, List.cons_append, List.append_nil, ↓reduceIte, and_self, true_and, and_true, false_and, and_false, or_true, true_or, or_false, false_or, Nat.reduceEqDiff, Nat.reduceAdd, Int32.reduceMul, Int32.reduceAdd, Int32.reduceSub, Int32.reduceToNatClampNeg, Int32.reduceOfNat, Int32.reduceLT, Int32.reduceLE, va_rf, jin_eq]
theorem l_on {σ : jS} (h : jst0 σ) : jgood (jx 12 0 296 [some (.ref 0), some (.ref 16), some (.ref 47), some (.int 0)] [] σ) := by
  obtain ⟨⟨hx, hm, hy, hn⟩, h1, h2, h3, h4⟩ := h
  have x1 := hx.1
  have m1 := hm.1
  by_cases hc : jA σ 0 2 = 0
  · obtain ⟨σ1, e1, ⟨t1, n1, a1, fm, fn, s1⟩, j1⟩ : ∃ σ1, jx 11 80 0 [some (.ref 16), some (.int (jA σ 0 1)), some (.int 0), none, none] [] σ = some (some (.int (-1)), σ1) ∧ jkeep σ σ1 ∧ jnx σ1 = jnx σ := x_on (d := 3) hx (jA σ 0 1) 0
    obtain ⟨σ2, e2, t2, n2, a2, j2, s2⟩ : ∃ σ2, jx 11 161 0 [some (.ref 47), some (.int (jA σ 0 1)), some (.int 0), none] [] σ1 = some (some (.int (-1)), σ2) ∧ jlast σ1 σ2 := m_on (d := 3) (fm hm) (jA σ 0 1) 0
    have m2 := (fm hm).1
    refine ⟨σ2, ?_, by omega, by omega⟩
    simp (decide := true) only [k0_296, k0_310, k0_314, k0_318, k0_332, k0_336, k0_340, k0_343, k0_939, k0_18, k0_945, e1, e2, hc, x1, m1, m2, h2, h3, t1, n1, a1, t2, n2, eq_self, Option.getD_some, ne_eq, reduceCtorEq, not_false_eq_true, not_true_eq_false, Option.bind_some, Option.toList_none, Option.toList_some, List.nil_append, List.cons_append, List.append_nil, ↓reduceIte, and_self, true_and, and_true, false_and, and_false, or_true, true_or, or_false, false_or, Nat.reduceEqDiff, Nat.reduceAdd, Int32.reduceMul, Int32.reduceAdd, Int32.reduceSub, Int32.reduceToNatClampNeg, Int32.reduceOfNat, Int32.reduceLT, Int32.reduceLE, va_rf, jin_eq]
  · obtain ⟨σ1, e1, ⟨t1, n1, a1, fm, fn, s1⟩, j1⟩ : ∃ σ1, jx 11 80 0 [some (.ref 16), some (.int (jA σ 0 1)), some (.int 1), none, none] [] σ = some (some (.int (-1)), σ1) ∧ jkeep σ σ1 ∧ jnx σ1 = jnx σ := x_on (d := 3) hx (jA σ 0 1) 1
    obtain ⟨σ2, e2, t2, n2, a2, j2, s2⟩ : ∃ σ2, jx 11 161 0 [some (.ref 47), some (.int (jA σ 0 1)), some (.int 1), none] [] σ1 = some (some (.int (-1)), σ2) ∧ jlast σ1 σ2 := m_on (d := 3) (fm hm) (jA σ 0 1) 1
    have m2 := (fm hm).1
    refine ⟨σ2, ?_, by omega, by omega⟩
    simp (decide := true) only [k0_296, k0_310, k0_314, k0_318, k0_332, k0_336, k0_340, k0_343, k0_939, k0_18, k0_945, e1, e2, hc, x1, m1, m2, h2, h3, t1, n1, a1, t2, n2, eq_self, Option.getD_some, ne_eq, reduceCtorEq, not_false_eq_true, not_true_eq_false, Option.bind_some, Option.toList_none, Option.toList_some, List.nil_append, List.cons_append, List.append_nil, ↓reduceIte, and_self, true_and, and_true, false_and, and_false, or_true, true_or, or_false, false_or, Nat.reduceEqDiff, Nat.reduceAdd, Int32.reduceMul, Int32.reduceAdd, Int32.reduceSub, Int32.reduceToNatClampNeg, Int32.reduceOfNat, Int32.reduceLT, Int32.reduceLE, va_rf, jin_eq]
theorem l_told {σ : jS} (h : jst0 σ) : jgood (jx 12 0 345 [some (.ref 0), some (.ref 16), some (.ref 47), some (.int 0)] [] σ) := by
  obtain ⟨⟨hx, hm, hy, hn⟩, h1, h2, h3, h4⟩ := h
  have x1 := hx.1
  have m1 := hm.1
  obtain ⟨σ1, e1, ⟨t1, n1, a1, fm, fn, s1⟩, j1⟩ : ∃ σ1, jx 11 83 0 [some (.ref 16), some (.int (jA σ 0 1)), some (.int (jA σ 0 2)), none] [] σ = some (some (.int (-1)), σ1) ∧ jkeep σ σ1 ∧ jnx σ1 = jnx σ := x_told (d := 3) hx (jA σ 0 1) (jA σ 0 2)
  obtain ⟨σ2, e2, t2, n2, a2, j2, s2⟩ : ∃ σ2, jx 11 163 0 [some (.ref 47), some (.int (jA σ 0 1)), some (.int (jA σ 0 2))] [] σ1 = some (some (.int (-1)), σ2) ∧ jlast σ1 σ2 := m_told (d := 3) (fm hm) (jA σ 0 1) (jA σ 0 2)
  have m2 := (fm hm).1
  refine ⟨σ2, ?_, by omega, by omega⟩
  simp (decide := true) only [k0_345, k0_359, k0_373, k0_376, k0_939, k0_18, k0_945, e1, e2, x1, m1, m2, h2, h3, t1, n1, a1, t2, n2, eq_self, Option.getD_some, ne_eq, reduceCtorEq, not_false_eq_true, not_true_eq_false, Option.bind_some, Option.toList_none, Option.toList_some, List.nil_append, List.cons_append, List.append_nil, ↓reduceIte, and_self, true_and, and_true, false_and, and_false, or_true, true_or, or_false, false_or, Nat.reduceEqDiff, Nat.reduceAdd, Int32.reduceMul, Int32.reduceAdd, Int32.reduceSub, Int32.reduceToNatClampNeg, Int32.reduceOfNat, Int32.reduceLT, Int32.reduceLE, va_rf, jin_eq]
theorem l_wrong {σ : jS} (h : jst0 σ) : jgood (jx 12 0 378 [some (.ref 0), some (.ref 16), some (.ref 47), some (.int 0)] [] σ) := by
  obtain ⟨⟨hx, hm, hy, hn⟩, h1, h2, h3, h4⟩ := h
  have x1 := hx.1
  have m1 := hm.1
  obtain ⟨σ1, e1, ⟨t1, n1, a1, fm, fn, s1⟩, j1⟩ : ∃ σ1, jx 11 84 0 [some (.ref 16), some (.int (jA σ 0 1)), some (.int (jA σ 0 2)), none] [] σ = some (some (.int (-1)), σ1) ∧ jkeep σ σ1 ∧ jnx σ1 = jnx σ := x_wrong (d := 3) hx (jA σ 0 1) (jA σ 0 2)
  obtain ⟨σ2, e2, t2, n2, a2, j2, s2⟩ : ∃ σ2, jx 11 168 0 [some (.ref 47), some (.int (jA σ 0 1)), some (.int (jA σ 0 2))] [] σ1 = some (some (.int (-1)), σ2) ∧ jlast σ1 σ2 := m_wrong (d := 3) (fm hm) (jA σ 0 1) (jA σ 0 2)
  have m2 := (fm hm).1
  refine ⟨σ2, ?_, by omega, by omega⟩
  simp (decide := true) only [k0_378, k0_392, k0_406, k0_409, k0_939, k0_18, k0_945, e1, e2, x1, m1, m2, h2, h3, t1, n1, a1, t2, n2, eq_self, Option.getD_some, ne_eq, reduceCtorEq, not_false_eq_true, not_true_eq_false, Option.bind_some, Option.toList_none, Option.toList_some, List.nil_append, List.cons_append, List.append_nil, ↓reduceIte, and_self, true_and, and_true, false_and, and_false, or_true, true_or, or_false, false_or, Nat.reduceEqDiff, Nat.reduceAdd, Int32.reduceMul, Int32.reduceAdd, Int32.reduceSub, Int32.reduceToNatClampNeg, Int32.reduceOfNat, Int32.reduceLT, Int32.reduceLE, va_rf, jin_eq]
theorem l_order {σ : jS} (h : jst0 σ) : jgood (jx 12 0 411 [some (.ref 0), some (.ref 16), some (.ref 47), some (.int 0)] [] σ) := by
  obtain ⟨⟨hx, hm, hy, hn⟩, h1, h2, h3, h4⟩ := h
  have x1 := hx.1
  have m1 := hm.1
  obtain ⟨σ1, e1, ⟨t1, n1, a1, fm, fn, s1⟩, j1⟩ : ∃ σ1, jx 11 85 0 [some (.ref 16), some (.int (jA σ 0 1)), some (.int (jA σ 0 2)), some (.int (jA σ 0 3)), none] [] σ = some (some (.int (-1)), σ1) ∧ jkeep σ σ1 ∧ jnx σ1 = jnx σ := x_order (d := 3) hx (jA σ 0 1) (jA σ 0 2) (jA σ 0 3)
  obtain ⟨σ2, e2, t2, n2, a2, j2, s2⟩ : ∃ σ2, jx 11 169 0 [some (.ref 47), some (.int (jA σ 0 1)), some (.int (jA σ 0 2)), some (.int (jA σ 0 3)), none] [] σ1 = some (some (.int (-1)), σ2) ∧ jlast σ1 σ2 := m_order (d := 3) (fm hm) (jA σ 0 1) (jA σ 0 2) (jA σ 0 3)
  have m2 := (fm hm).1
  refine ⟨σ2, ?_, by omega, by omega⟩
  simp (decide := true) only [k0_411, k0_430, k0_449, k0_452, k0_939, k0_18, k0_945, e1, e2, x1, m1, m2, h2, h3, t1, n1, a1, t2, n2, eq_self, Option.getD_some, ne_eq, reduceCtorEq, not_false_eq_true, not_true_eq_false, Option.bind_some, Option.toList_none, Option.toList_some, List.nil_append, List.cons_append, List.append_nil, ↓reduceIte, and_self, true_and, and_true, false_and, and_false, or_true, true_or, or_false, false_or, Nat.reduceEqDiff, Nat.reduceAdd, Int32.reduceMul, Int32.reduceAdd, Int32.reduceSub, Int32.reduceToNatClampNeg, Int32.reduceOfNat, Int32.reduceLT, Int32.reduceLE, va_rf, jin_eq]
theorem l_size {σ : jS} (h : jst0 σ) : jgood (jx 12 0 454 [some (.ref 0), some (.ref 16), some (.ref 47), some (.int 0)] [] σ) := by
  obtain ⟨⟨hx, hm, hy, hn⟩, h1, h2, h3, h4⟩ := h
  have x1 := hx.1
  have m1 := hm.1
  obtain ⟨σ1, e1, ⟨t1, n1, a1, fm, fn, s1⟩, j1⟩ : ∃ σ1, jx 11 87 0 [some (.ref 16), some (.int (jA σ 0 1)), some (.int (jA σ 0 2)), none] [] σ = some (some (.int (-1)), σ1) ∧ jkeep σ σ1 ∧ jnx σ1 = jnx σ := x_size (d := 3) hx (jA σ 0 1) (jA σ 0 2)
  obtain ⟨σ2, e2, t2, n2, a2, j2, s2⟩ : ∃ σ2, jx 11 171 0 [some (.ref 47), some (.int (jA σ 0 1)), some (.int (jA σ 0 2))] [] σ1 = some (some (.int (-1)), σ2) ∧ jlast σ1 σ2 := m_size (d := 3) (fm hm) (jA σ 0 1) (jA σ 0 2)
  have m2 := (fm hm).1
  refine ⟨σ2, ?_, by omega, by omega⟩
  simp (decide := true) only [k0_454, k0_468, k0_482, k0_485, k0_939, k0_18, k0_945, e1, e2, x1, m1, m2, h2, h3, t1, n1, a1, t2, n2, eq_self, Option.getD_some, ne_eq, reduceCtorEq, not_false_eq_true, not_true_eq_false, Option.bind_some, Option.toList_none, Option.toList_some, List.nil_append, List.cons_append, List.append_nil, ↓reduceIte, and_self, true_and, and_true, false_and, and_false, or_true, true_or, or_false, false_or, Nat.reduceEqDiff, Nat.reduceAdd, Int32.reduceMul, Int32.reduceAdd, Int32.reduceSub, Int32.reduceToNatClampNeg, Int32.reduceOfNat, Int32.reduceLT, Int32.reduceLE, va_rf, jin_eq]
theorem l_letter {σ : jS} (h : jst0 σ) : jgood (jx 12 0 487 [some (.ref 0), some (.ref 16), some (.ref 47), some (.int 0)] [] σ) := by
  obtain ⟨⟨hx, hm, hy, hn⟩, h1, h2, h3, h4⟩ := h
  have x1 := hx.1
  have m1 := hm.1
  obtain ⟨σ1, e1, ⟨t1, n1, a1, fm, fn, s1⟩, j1⟩ : ∃ σ1, jx 11 88 0 [some (.ref 16), some (.int (jA σ 0 1)), some (.int (jA σ 0 2)), none] [] σ = some (some (.int (-1)), σ1) ∧ jkeep σ σ1 ∧ jnx σ1 = jnx σ := x_letter (d := 3) hx (jA σ 0 1) (jA σ 0 2)
  obtain ⟨σ2, e2, t2, n2, a2, j2, s2⟩ : ∃ σ2, jx 11 173 0 [some (.ref 47), some (.int (jA σ 0 1)), some (.int (jA σ 0 2))] [] σ1 = some (some (.int (-1)), σ2) ∧ jlast σ1 σ2 := m_letter (d := 3) (fm hm) (jA σ 0 1) (jA σ 0 2)
  have m2 := (fm hm).1
  refine ⟨σ2, ?_, by omega, by omega⟩
  simp (decide := true) only [k0_487, k0_501, k0_515, k0_518, k0_939, k0_18, k0_945, e1, e2, x1, m1, m2, h2, h3, t1, n1, a1, t2, n2, eq_self, Option.getD_some, ne_eq, reduceCtorEq, not_false_eq_true, not_true_eq_false, Option.bind_some, Option.toList_none, Option.toList_some, List.nil_append, List.cons_append, List.append_nil, ↓reduceIte, and_self, true_and, and_true, false_and, and_false, or_true, true_or, or_false, false_or, Nat.reduceEqDiff, Nat.reduceAdd, Int32.reduceMul, Int32.reduceAdd, Int32.reduceSub, Int32.reduceToNatClampNeg, Int32.reduceOfNat, Int32.reduceLT, Int32.reduceLE, va_rf, jin_eq]
theorem l_joined {σ : jS} (h : jst0 σ) : jgood (jx 12 0 520 [some (.ref 0), some (.ref 16), some (.ref 47), some (.int 0)] [] σ) := by
  obtain ⟨⟨hx, hm, hy, hn⟩, h1, h2, h3, h4⟩ := h
  have x1 := hx.1
  have m1 := hm.1
  obtain ⟨σ1, e1, ⟨t1, n1, a1, fm, fn, s1⟩, j1⟩ : ∃ σ1, jx 11 92 0 [some (.ref 16), some (.int (jA σ 0 1)), some (.int (jA σ 0 2)), none, none, none] [] σ = some (some (.int (-1)), σ1) ∧ jkeep σ σ1 ∧ jnx σ1 = jnx σ := x_joined (d := 3) hx (jA σ 0 1) (jA σ 0 2)
  obtain ⟨σ2, e2, t2, n2, a2, j2, s2⟩ : ∃ σ2, jx 11 177 0 [some (.ref 47), some (.int (jA σ 0 1)), some (.int (jA σ 0 2)), none] [] σ1 = some (some (.int (-1)), σ2) ∧ jlast σ1 σ2 := m_joined (d := 3) (fm hm) (jA σ 0 1) (jA σ 0 2)
  have m2 := (fm hm).1
  refine ⟨σ2, ?_, by omega, by omega⟩
  simp (decide := true) only [k0_520, k0_534, k0_548, k0_551, k0_939, k0_18, k0_945, e1, e2, x1, m1, m2, h2, h3, t1, n1, a1, t2, n2, eq_self, Option.getD_some, ne_eq, reduceCtorEq, not_false_eq_true, not_true_eq_false, Option.bind_some, Option.toList_none, Option.toList_some, List.nil_append, List.cons_append, List.append_nil, ↓reduceIte, and_self, true_and, and_true, false_and, and_false, or_true, true_or, or_false, false_or, Nat.reduceEqDiff, Nat.reduceAdd, Int32.reduceMul, Int32.reduceAdd, Int32.reduceSub, Int32.reduceToNatClampNeg, Int32.reduceOfNat, Int32.reduceLT, Int32.reduceLE, va_rf, jin_eq]
theorem l_part {σ : jS} (h : jst0 σ) : jgood (jx 12 0 553 [some (.ref 0), some (.ref 16), some (.ref 47), some (.int 0)] [] σ) := by
  obtain ⟨⟨hx, hm, hy, hn⟩, h1, h2, h3, h4⟩ := h
  have x1 := hx.1
  have m1 := hm.1
  obtain ⟨σ1, e1, ⟨t1, n1, a1, fm, fn, s1⟩, j1⟩ : ∃ σ1, jx 11 95 0 [some (.ref 16), some (.int (jA σ 0 1)), some (.int (jA σ 0 2)), some (.int (jA σ 0 3)), none] [] σ = some (some (.int (-1)), σ1) ∧ jkeep σ σ1 ∧ jnx σ1 = jnx σ := x_part (d := 3) hx (jA σ 0 1) (jA σ 0 2) (jA σ 0 3)
  obtain ⟨σ2, e2, t2, n2, a2, j2, s2⟩ : ∃ σ2, jx 11 179 0 [some (.ref 47), some (.int (jA σ 0 1)), some (.int (jA σ 0 2)), some (.int (jA σ 0 3)), none] [] σ1 = some (some (.int (-1)), σ2) ∧ jlast σ1 σ2 := m_part (d := 3) (fm hm) (jA σ 0 1) (jA σ 0 2) (jA σ 0 3)
  have m2 := (fm hm).1
  refine ⟨σ2, ?_, by omega, by omega⟩
  simp (decide := true) only [k0_553, k0_572, k0_591, k0_594, k0_939, k0_18, k0_945, e1, e2, x1, m1, m2, h2, h3, t1, n1, a1, t2, n2, eq_self, Option.getD_some, ne_eq, reduceCtorEq, not_false_eq_true, not_true_eq_false, Option.bind_some, Option.toList_none, Option.toList_some, List.nil_append, List.cons_append, List.append_nil, ↓reduceIte, and_self, true_and, and_true, false_and, and_false, or_true, true_or, or_false, false_or, Nat.reduceEqDiff, Nat.reduceAdd, Int32.reduceMul, Int32.reduceAdd, Int32.reduceSub, Int32.reduceToNatClampNeg, Int32.reduceOfNat, Int32.reduceLT, Int32.reduceLE, va_rf, jin_eq]
theorem l_window {σ : jS} (h : jst0 σ) : jgood (jx 12 0 596 [some (.ref 0), some (.ref 16), some (.ref 47), some (.int 0)] [] σ) := by
  obtain ⟨⟨hx, hm, hy, hn⟩, h1, h2, h3, h4⟩ := h
  have x1 := hx.1
  have m1 := hm.1
  obtain ⟨σ1, e1, ⟨t1, n1, a1, fm, fn, s1⟩, j1⟩ : ∃ σ1, jx 11 96 0 [some (.ref 16), some (.int (jA σ 0 1)), some (.int (jA σ 0 2)), some (.int (jA σ 0 3)), none, none] [] σ = some (some (.int (-1)), σ1) ∧ jkeep σ σ1 ∧ jnx σ1 = jnx σ := x_window (d := 3) hx (jA σ 0 1) (jA σ 0 2) (jA σ 0 3)
  obtain ⟨σ2, e2, t2, n2, a2, j2, s2⟩ : ∃ σ2, jx 11 180 0 [some (.ref 47), some (.int (jA σ 0 1)), some (.int (jA σ 0 2)), some (.int (jA σ 0 3))] [] σ1 = some (some (.int (-1)), σ2) ∧ jlast σ1 σ2 := m_window (d := 3) (fm hm) (jA σ 0 1) (jA σ 0 2) (jA σ 0 3)
  have m2 := (fm hm).1
  refine ⟨σ2, ?_, by omega, by omega⟩
  simp (decide := true) only [k0_596, k0_615, k0_634, k0_637, k0_939, k0_18, k0_945, e1, e2, x1, m1, m2, h2, h3, t1, n1, a1, t2, n2, eq_self, Option.getD_some, ne_eq, reduceCtorEq, not_false_eq_true, not_true_eq_false, Option.bind_some, Option.toList_none, Option.toList_some, List.nil_append, List.cons_append, List.append_nil, ↓reduceIte, and_self, true_and, and_true, false_and, and_false, or_true, true_or, or_false, false_or, Nat.reduceEqDiff, Nat.reduceAdd, Int32.reduceMul, Int32.reduceAdd, Int32.reduceSub, Int32.reduceToNatClampNeg, Int32.reduceOfNat, Int32.reduceLT, Int32.reduceLE, va_rf, jin_eq]
theorem l_meant {σ : jS} (h : jst0 σ) : jgood (jx 12 0 639 [some (.ref 0), some (.ref 16), some (.ref 47), some (.int 0)] [] σ) := by
  obtain ⟨⟨hx, hm, hy, hn⟩, h1, h2, h3, h4⟩ := h
  have x1 := hx.1
  have m1 := hm.1
  obtain ⟨σ1, e1, ⟨t1, n1, a1, fm, fn, s1⟩, j1⟩ : ∃ σ1, jx 11 102 0 [some (.ref 16), some (.int (jA σ 0 1)), some (.int (jA σ 0 2)), some (.int (jA σ 0 3)), some (.int (jA σ 0 4)), some (.int (jA σ 0 5)), none, none, none] [] σ = some (some (.int (-1)), σ1) ∧ jkeep σ σ1 ∧ jnx σ1 = jnx σ := x_meant (d := 3) hx (jA σ 0 1) (jA σ 0 2) (jA σ 0 3) (jA σ 0 4) (jA σ 0 5)
  obtain ⟨σ2, e2, t2, n2, a2, j2, s2⟩ : ∃ σ2, jx 11 184 0 [some (.ref 47), some (.int (jA σ 0 1)), some (.int (jA σ 0 2)), some (.int (jA σ 0 3)), some (.int (jA σ 0 4)), some (.int (jA σ 0 5))] [] σ1 = some (some (.int (-1)), σ2) ∧ jlast σ1 σ2 := m_meant (d := 3) (fm hm) (jA σ 0 1) (jA σ 0 2) (jA σ 0 3) (jA σ 0 4) (jA σ 0 5)
  have m2 := (fm hm).1
  refine ⟨σ2, ?_, by omega, by omega⟩
  simp (decide := true) only [k0_639, k0_668, k0_697, k0_700, k0_939, k0_18, k0_945, e1, e2, x1, m1, m2, h2, h3, t1, n1, a1, t2, n2, eq_self, Option.getD_some, ne_eq, reduceCtorEq, not_false_eq_true, not_true_eq_false, Option.bind_some, Option.toList_none, Option.toList_some, List.nil_append, List.cons_append, List.append_nil, ↓reduceIte, and_self, true_and, and_true, false_and, and_false, or_true, true_or, or_false, false_or, Nat.reduceEqDiff, Nat.reduceAdd, Int32.reduceMul, Int32.reduceAdd, Int32.reduceSub, Int32.reduceToNatClampNeg, Int32.reduceOfNat, Int32.reduceLT, Int32.reduceLE, va_rf, jin_eq]
theorem l_change {σ : jS} (h : jst0 σ) : jgood (jx 12 0 702 [some (.ref 0), some (.ref 16), some (.ref 47), some (.int 0)] [] σ) := by
  obtain ⟨⟨hx, hm, hy, hn⟩, h1, h2, h3, h4⟩ := h
  have x1 := hx.1
  have m1 := hm.1
  obtain ⟨σ1, e1, ⟨t1, n1, a1, fm, fn, s1⟩, j1⟩ : ∃ σ1, jx 11 103 0 [some (.ref 16), some (.int (jA σ 0 1)), some (.int (jA σ 0 2)), some (.int (jA σ 0 3)), none, none] [] σ = some (some (.int (-1)), σ1) ∧ jkeep σ σ1 ∧ jnx σ1 = jnx σ := x_change (d := 3) hx (jA σ 0 1) (jA σ 0 2) (jA σ 0 3)
  obtain ⟨σ2, e2, t2, n2, a2, j2, s2⟩ : ∃ σ2, jx 11 185 0 [some (.ref 47), some (.int (jA σ 0 1)), some (.int (jA σ 0 2)), some (.int (jA σ 0 3))] [] σ1 = some (some (.int (-1)), σ2) ∧ jlast σ1 σ2 := m_change (d := 3) (fm hm) (jA σ 0 1) (jA σ 0 2) (jA σ 0 3)
  have m2 := (fm hm).1
  refine ⟨σ2, ?_, by omega, by omega⟩
  simp (decide := true) only [k0_702, k0_721, k0_740, k0_743, k0_939, k0_18, k0_945, e1, e2, x1, m1, m2, h2, h3, t1, n1, a1, t2, n2, eq_self, Option.getD_some, ne_eq, reduceCtorEq, not_false_eq_true, not_true_eq_false, Option.bind_some, Option.toList_none, Option.toList_some, List.nil_append, List.cons_append, List.append_nil, ↓reduceIte, and_self, true_and, and_true, false_and, and_false, or_true, true_or, or_false, false_or, Nat.reduceEqDiff, Nat.reduceAdd, Int32.reduceMul, Int32.reduceAdd, Int32.reduceSub, Int32.reduceToNatClampNeg, Int32.reduceOfNat, Int32.reduceLT, Int32.reduceLE, va_rf, jin_eq]
theorem l_mill {σ : jS} (h : jst0 σ) : jgood (jx 12 0 745 [some (.ref 0), some (.ref 16), some (.ref 47), some (.int 0)] [] σ) := by
  obtain ⟨⟨hx, hm, hy, hn⟩, h1, h2, h3, h4⟩ := h
  have x1 := hx.1
  have m1 := hm.1
  obtain ⟨σ1, e1, ⟨t1, n1, a1, fm, fn, s1⟩, j1⟩ : ∃ σ1, jx 11 106 0 [some (.ref 16), some (.int (jA σ 0 1)), none, none, none] [] σ = some (some (.int (-1)), σ1) ∧ jkeep σ σ1 ∧ jnx σ1 = jnx σ := x_mill (d := 3) hx (jA σ 0 1)
  obtain ⟨σ2, e2, t2, n2, a2, j2, s2⟩ : ∃ σ2, jx 11 187 0 [some (.ref 47), some (.int (jA σ 0 1)), none, none] [] σ1 = some (some (.int (-1)), σ2) ∧ jlast σ1 σ2 := m_mill (d := 3) (fm hm) (jA σ 0 1)
  have m2 := (fm hm).1
  refine ⟨σ2, ?_, by omega, by omega⟩
  simp (decide := true) only [k0_745, k0_754, k0_763, k0_766, k0_939, k0_18, k0_945, e1, e2, x1, m1, m2, h2, h3, t1, n1, a1, t2, n2, eq_self, Option.getD_some, ne_eq, reduceCtorEq, not_false_eq_true, not_true_eq_false, Option.bind_some, Option.toList_none, Option.toList_some, List.nil_append, List.cons_append, List.append_nil, ↓reduceIte, and_self, true_and, and_true, false_and, and_false, or_true, true_or, or_false, false_or, Nat.reduceEqDiff, Nat.reduceAdd, Int32.reduceMul, Int32.reduceAdd, Int32.reduceSub, Int32.reduceToNatClampNeg, Int32.reduceOfNat, Int32.reduceLT, Int32.reduceLE, va_rf, jin_eq]
theorem l_step {σ : jS} (h : jst0 σ) : jgood (jx 12 0 768 [some (.ref 0), some (.ref 16), some (.ref 47), some (.int 0)] [] σ) := by
  obtain ⟨⟨hx, hm, hy, hn⟩, h1, h2, h3, h4⟩ := h
  have x1 := hx.1
  have m1 := hm.1
  obtain ⟨σ1, e1, ⟨t1, n1, a1, fm, fn, s1⟩, j1⟩ : ∃ σ1, jx 11 110 0 [some (.ref 16), some (.int (jA σ 0 1)), some (.int (jA σ 0 2))] [] σ = some (some (.int (-1)), σ1) ∧ jkeep σ σ1 ∧ jnx σ1 = jnx σ := x_step (d := 3) hx (jA σ 0 1) (jA σ 0 2)
  obtain ⟨σ2, e2, t2, n2, a2, j2, s2⟩ : ∃ σ2, jx 11 190 0 [some (.ref 47), some (.int (jA σ 0 1)), some (.int (jA σ 0 2))] [] σ1 = some (some (.int (-1)), σ2) ∧ jlast σ1 σ2 := m_step (d := 3) (fm hm) (jA σ 0 1) (jA σ 0 2)
  have m2 := (fm hm).1
  refine ⟨σ2, ?_, by omega, by omega⟩
  simp (decide := true) only [k0_768, k0_782, k0_796, k0_799, k0_939, k0_18, k0_945, e1, e2, x1, m1, m2, h2, h3, t1, n1, a1, t2, n2, eq_self, Option.getD_some, ne_eq, reduceCtorEq, not_false_eq_true, not_true_eq_false, Option.bind_some, Option.toList_none, Option.toList_some, List.nil_append, List.cons_append, List.append_nil, ↓reduceIte, and_self, true_and, and_true, false_and, and_false, or_true, true_or, or_false, false_or, Nat.reduceEqDiff, Nat.reduceAdd, Int32.reduceMul, Int32.reduceAdd, Int32.reduceSub, Int32.reduceToNatClampNeg, Int32.reduceOfNat, Int32.reduceLT, Int32.reduceLE, va_rf, jin_eq]
theorem l_done {σ : jS} (h : jst0 σ) : jgood (jx 12 0 801 [some (.ref 0), some (.ref 16), some (.ref 47), some (.int 0)] [] σ) := by
  obtain ⟨⟨hx, hm, hy, hn⟩, h1, h2, h3, h4⟩ := h
  have x1 := hx.1
  have m1 := hm.1
  obtain ⟨σ1, e1, ⟨t1, n1, a1, fm, fn, s1⟩, j1⟩ : ∃ σ1, jx 11 111 0 [some (.ref 16), some (.int (jA σ 0 1)), none] [] σ = some (some (.int (-1)), σ1) ∧ jkeep σ σ1 ∧ jnx σ1 = jnx σ := x_done (d := 3) hx (jA σ 0 1)
  obtain ⟨σ2, e2, t2, n2, a2, j2, s2⟩ : ∃ σ2, jx 11 191 0 [some (.ref 47), some (.int (jA σ 0 1))] [] σ1 = some (some (.int (-1)), σ2) ∧ jlast σ1 σ2 := m_done (d := 3) (fm hm) (jA σ 0 1)
  have m2 := (fm hm).1
  refine ⟨σ2, ?_, by omega, by omega⟩
  simp (decide := true) only [k0_801, k0_810, k0_819, k0_822, k0_939, k0_18, k0_945, e1, e2, x1, m1, m2, h2, h3, t1, n1, a1, t2, n2, eq_self, Option.getD_some, ne_eq, reduceCtorEq, not_false_eq_true, not_true_eq_false, Option.bind_some, Option.toList_none, Option.toList_some, List.nil_append, List.cons_append, List.append_nil, ↓reduceIte, and_self, true_and, and_true, false_and, and_false, or_true, true_or, or_false, false_or, Nat.reduceEqDiff, Nat.reduceAdd, Int32.reduceMul, Int32.reduceAdd, Int32.reduceSub, Int32.reduceToNatClampNeg, Int32.reduceOfNat, Int32.reduceLT, Int32.reduceLE, va_rf, jin_eq]
theorem l_run {σ : jS} (h : jst0 σ) : jgood (jx 12 0 824 [some (.ref 0), some (.ref 16), some (.ref 47), some (.int 0)] [] σ) := by
  obtain ⟨⟨hx, hm, hy, hn⟩, h1, h2, h3, h4⟩ := h
  have x1 := hx.1
  have m1 := hm.1
  obtain ⟨σ1, e1, ⟨t1, n1, a1, fm, fn, s1⟩, j1⟩ : ∃ σ1, jx 11 112 0 [some (.ref 16), some (.int (jA σ 0 1)), some (.int (jA σ 0 2)), none] [] σ = some (some (.int (-1)), σ1) ∧ jkeep σ σ1 ∧ jnx σ1 = jnx σ := x_run (d := 3) hx (jA σ 0 1) (jA σ 0 2)
  obtain ⟨σ2, e2, t2, n2, a2, j2, s2⟩ : ∃ σ2, jx 11 192 0 [some (.ref 47), some (.int (jA σ 0 1)), some (.int (jA σ 0 2))] [] σ1 = some (some (.int (-1)), σ2) ∧ jlast σ1 σ2 := m_run (d := 3) (fm hm) (jA σ 0 1) (jA σ 0 2)
  have m2 := (fm hm).1
  refine ⟨σ2, ?_, by omega, by omega⟩
  simp (decide := true) only [k0_824, k0_838, k0_852, k0_855, k0_939, k0_18, k0_945, e1, e2, x1, m1, m2, h2, h3, t1, n1, a1, t2, n2, eq_self, Option.getD_some, ne_eq, reduceCtorEq, not_false_eq_true, not_true_eq_false, Option.bind_some, Option.toList_none, Option.toList_some, List.nil_append, List.cons_append, List.append_nil, ↓reduceIte, and_self, true_and, and_true, false_and, and_false, or_true, true_or, or_false, false_or, Nat.reduceEqDiff, Nat.reduceAdd, Int32.reduceMul, Int32.reduceAdd, Int32.reduceSub, Int32.reduceToNatClampNeg, Int32.reduceOfNat, Int32.reduceLT, Int32.reduceLE, va_rf, jin_eq]
theorem l_same {σ : jS} (h : jst0 σ) : jgood (jx 12 0 857 [some (.ref 0), some (.ref 16), some (.ref 47), some (.int 0)] [] σ) := by
  obtain ⟨⟨hx, hm, hy, hn⟩, h1, h2, h3, h4⟩ := h
  have x1 := hx.1
  have m1 := hm.1
  obtain ⟨σ1, e1, ⟨t1, n1, a1, fm, fn, s1⟩, j1⟩ : ∃ σ1, jx 11 113 0 [some (.ref 16), some (.int (jA σ 0 1)), some (.int (jA σ 0 2)), none, none, none] [] σ = some (some (.int (-1)), σ1) ∧ jkeep σ σ1 ∧ jnx σ1 = jnx σ := x_same (d := 3) hx (jA σ 0 1) (jA σ 0 2)
  obtain ⟨σ2, e2, t2, n2, a2, j2, s2⟩ : ∃ σ2, jx 11 194 0 [some (.ref 47), some (.int (jA σ 0 1)), some (.int (jA σ 0 2)), none] [] σ1 = some (some (.int (-1)), σ2) ∧ jlast σ1 σ2 := m_same (d := 3) (fm hm) (jA σ 0 1) (jA σ 0 2)
  have m2 := (fm hm).1
  refine ⟨σ2, ?_, by omega, by omega⟩
  simp (decide := true) only [k0_857, k0_871, k0_885, k0_888, k0_939, k0_18, k0_945, e1, e2, x1, m1, m2, h2, h3, t1, n1, a1, t2, n2, eq_self, Option.getD_some, ne_eq, reduceCtorEq, not_false_eq_true, not_true_eq_false, Option.bind_some, Option.toList_none, Option.toList_some, List.nil_append, List.cons_append, List.append_nil, ↓reduceIte, and_self, true_and, and_true, false_and, and_false, or_true, true_or, or_false, false_or, Nat.reduceEqDiff, Nat.reduceAdd, Int32.reduceMul, Int32.reduceAdd, Int32.reduceSub, Int32.reduceToNatClampNeg, Int32.reduceOfNat, Int32.reduceLT, Int32.reduceLE, va_rf, jin_eq]
theorem l_differs {σ : jS} (h : jst0 σ) : jgood (jx 12 0 890 [some (.ref 0), some (.ref 16), some (.ref 47), some (.int 0)] [] σ) := by
  obtain ⟨⟨hx, hm, hy, hn⟩, h1, h2, h3, h4⟩ := h
  have x1 := hx.1
  have m1 := hm.1
  obtain ⟨σ1, e1, ⟨t1, n1, a1, fm, fn, s1⟩, j1⟩ : ∃ σ1, jx 11 116 0 [some (.ref 16)] [] σ = some (some (.int (-4)), σ1) ∧ jkeep σ σ1 ∧ jnx σ1 = jnx σ := x_differs (d := 3) hx
  obtain ⟨σ2, e2, t2, n2, a2, j2, s2⟩ : ∃ σ2, jx 11 195 0 [some (.ref 47)] [] σ1 = some (some (.int (-4)), σ2) ∧ jlast σ1 σ2 := m_differs (d := 3) (fm hm)
  have m2 := (fm hm).1
  refine ⟨σ2, ?_, by omega, by omega⟩
  simp (decide := true) only [k0_890, k0_894, k0_898, k0_901, k0_939, k0_18, k0_945, e1, e2, x1, m1, m2, h2, h3, t1, n1, a1, t2, n2, eq_self, Option.getD_some, ne_eq, reduceCtorEq, not_false_eq_true, not_true_eq_false, Option.bind_some, Option.toList_none, Option.toList_some, List.nil_append, List.cons_append, List.append_nil, ↓reduceIte, and_self, true_and, and_true, false_and, and_false, or_true, true_or, or_false, false_or, Nat.reduceEqDiff, Nat.reduceAdd, Int32.reduceMul, Int32.reduceAdd, Int32.reduceSub, Int32.reduceToNatClampNeg, Int32.reduceOfNat, Int32.reduceLT, Int32.reduceLE, va_rf, jin_eq]
theorem l_count {σ : jS} (h : jst0 σ) : jgood (jx 12 0 903 [some (.ref 0), some (.ref 16), some (.ref 47), some (.int 0)] [] σ) := by
  obtain ⟨⟨hx, hm, hy, hn⟩, h1, h2, h3, h4⟩ := h
  have x1 := hx.1
  have m1 := hm.1
  obtain ⟨σ1, e1, ⟨t1, n1, a1, fm, fn, s1⟩, j1⟩ : ∃ σ1, jx 11 117 0 [some (.ref 16), some (.int (jA σ 0 1))] [] σ = some (some (.int (v_count (jA σ 0 1))), σ1) ∧ jkeep σ σ1 ∧ jnx σ1 = jnx σ := x_count (d := 3) hx (jA σ 0 1)
  obtain ⟨σ2, e2, t2, n2, a2, j2, s2⟩ : ∃ σ2, jx 11 196 0 [some (.ref 47), some (.int (jA σ 0 1)), none, none] [] σ1 = some (some (.int (v_count (jA σ 0 1))), σ2) ∧ jlast σ1 σ2 := m_count (d := 3) (fm hm) (jA σ 0 1)
  have m2 := (fm hm).1
  refine ⟨σ2, ?_, by omega, by omega⟩
  simp (decide := true) only [k0_903, k0_912, k0_921, k0_924, k0_939, k0_18, k0_945, e1, e2, x1, m1, m2, h2, h3, t1, n1, a1, t2, n2, eq_self, Option.getD_some, ne_eq, reduceCtorEq, not_false_eq_true, not_true_eq_false, Option.bind_some, Option.toList_none, Option.toList_some, List.nil_append, List.cons_append, List.append_nil, ↓reduceIte, and_self, true_and, and_true, false_and, and_false, or_true, true_or, or_false, false_or, Nat.reduceEqDiff, Nat.reduceAdd, Int32.reduceMul, Int32.reduceAdd, Int32.reduceSub, Int32.reduceToNatClampNeg, Int32.reduceOfNat, Int32.reduceLT, Int32.reduceLE, va_rf, jin_eq]
theorem l_drop {σ : jS} (h : jst0 σ) : jgood (jx 12 0 926 [some (.ref 0), some (.ref 16), some (.ref 47), some (.int 0)] [] σ) := by
  obtain ⟨⟨hx, hm, hy, hn⟩, h1, h2, h3, h4⟩ := h
  have x1 := hx.1
  have m1 := hm.1
  obtain ⟨σ1, e1, ⟨t1, n1, a1, fm, fn, s1⟩, j1⟩ : ∃ σ1, jx 11 119 0 [some (.ref 16)] [] σ = some (some (.int (-4)), σ1) ∧ jkeep σ σ1 ∧ jnx σ1 = jnx σ := x_drop (d := 3) hx
  obtain ⟨σ2, e2, t2, n2, a2, j2, s2⟩ : ∃ σ2, jx 11 197 0 [some (.ref 47)] [] σ1 = some (some (.int (-4)), σ2) ∧ jlast σ1 σ2 := m_drop (d := 3) (fm hm)
  have m2 := (fm hm).1
  refine ⟨σ2, ?_, by omega, by omega⟩
  simp (decide := true) only [k0_926, k0_930, k0_934, k0_937, k0_939, k0_18, k0_945, e1, e2, x1, m1, m2, h2, h3, t1, n1, a1, t2, n2, eq_self, Option.getD_some, ne_eq, reduceCtorEq, not_false_eq_true, not_true_eq_false, Option.bind_some, Option.toList_none, Option.toList_some, List.nil_append, List.cons_append, List.append_nil, ↓reduceIte, and_self, true_and, and_true, false_and, and_false, or_true, true_or, or_false, false_or, Nat.reduceEqDiff, Nat.reduceAdd, Int32.reduceMul, Int32.reduceAdd, Int32.reduceSub, Int32.reduceToNatClampNeg, Int32.reduceOfNat, Int32.reduceLT, Int32.reduceLE, va_rf, jin_eq]
theorem l_other {σ : jS} (h : jst0 σ) : jgood (jx 12 0 939 [some (.ref 0), some (.ref 16), some (.ref 47), some (.int 0)] [] σ) := by
  obtain ⟨⟨hx, hm, hy, hn⟩, h1, h2, h3, h4⟩ := h
  refine ⟨σ, ?_, by omega, by omega⟩
  simp (decide := true) only [k0_939, k0_18, k0_945, h2, h3, Option.getD_some, ne_eq, reduceCtorEq, not_false_eq_true, not_true_eq_false, Option.bind_some, Option.toList_none, Option.toList_some, List.nil_append, List.cons_append, List.append_nil, ↓reduceIte, and_self, true_and, and_true, false_and, and_false, or_true, true_or, or_false, false_or, Nat.reduceEqDiff, Nat.reduceAdd, Int32.reduceMul, Int32.reduceAdd, Int32.reduceSub, Int32.reduceToNatClampNeg, Int32.reduceOfNat, Int32.reduceLT, Int32.reduceLE, va_rf, jin_eq]
theorem l_all {σ : jS} (h : jst0 σ) : jgood (jx 12 0 18 [some (.ref 0), some (.ref 16), some (.ref 47), some (.int 0)] [] σ) := by
  have h2 := h.2.2.1
  have h3 := h.2.2.2.1
  simp (decide := true) only [k0_18, k0_27, h2, h3, jsw_0, Option.getD_some, ne_eq, reduceCtorEq, not_false_eq_true, not_true_eq_false, Option.bind_some, Option.toList_none, Option.toList_some, List.nil_append, List.cons_append, List.append_nil, ↓reduceIte, and_self, true_and, and_true, false_and, and_false, or_true, true_or, or_false, false_or, Nat.reduceEqDiff, Nat.reduceAdd, Int32.reduceMul, Int32.reduceAdd, Int32.reduceSub, Int32.reduceToNatClampNeg, Int32.reduceOfNat, Int32.reduceLT, Int32.reduceLE, va_rf, jin_eq]
  by_cases c0 : jA σ 0 0 &&& 31 = 0
  · simp (decide := true) only [c0, ↓reduceIte]; exact l_width h
  by_cases c1 : jA σ 0 0 &&& 31 = 1
  · simp (decide := true) only [c1, ↓reduceIte]; exact l_feed h
  by_cases c2 : jA σ 0 0 &&& 31 = 2
  · simp (decide := true) only [c2, ↓reduceIte]; exact l_end h
  by_cases c3 : jA σ 0 0 &&& 31 = 3
  · simp (decide := true) only [c3, ↓reduceIte]; exact l_rule h
  by_cases c4 : jA σ 0 0 &&& 31 = 4
  · simp (decide := true) only [c4, ↓reduceIte]; exact l_program h
  by_cases c5 : jA σ 0 0 &&& 31 = 5
  · simp (decide := true) only [c5, ↓reduceIte]; exact l_fault h
  by_cases c6 : jA σ 0 0 &&& 31 = 6
  · simp (decide := true) only [c6, ↓reduceIte]; exact l_on h
  by_cases c7 : jA σ 0 0 &&& 31 = 7
  · simp (decide := true) only [c7, ↓reduceIte]; exact l_told h
  by_cases c8 : jA σ 0 0 &&& 31 = 8
  · simp (decide := true) only [c8, ↓reduceIte]; exact l_wrong h
  by_cases c9 : jA σ 0 0 &&& 31 = 9
  · simp (decide := true) only [c9, ↓reduceIte]; exact l_order h
  by_cases c10 : jA σ 0 0 &&& 31 = 10
  · simp (decide := true) only [c10, ↓reduceIte]; exact l_size h
  by_cases c11 : jA σ 0 0 &&& 31 = 11
  · simp (decide := true) only [c11, ↓reduceIte]; exact l_letter h
  by_cases c12 : jA σ 0 0 &&& 31 = 12
  · simp (decide := true) only [c12, ↓reduceIte]; exact l_joined h
  by_cases c13 : jA σ 0 0 &&& 31 = 13
  · simp (decide := true) only [c13, ↓reduceIte]; exact l_part h
  by_cases c14 : jA σ 0 0 &&& 31 = 14
  · simp (decide := true) only [c14, ↓reduceIte]; exact l_window h
  by_cases c15 : jA σ 0 0 &&& 31 = 15
  · simp (decide := true) only [c15, ↓reduceIte]; exact l_meant h
  by_cases c16 : jA σ 0 0 &&& 31 = 16
  · simp (decide := true) only [c16, ↓reduceIte]; exact l_change h
  by_cases c17 : jA σ 0 0 &&& 31 = 17
  · simp (decide := true) only [c17, ↓reduceIte]; exact l_mill h
  by_cases c18 : jA σ 0 0 &&& 31 = 18
  · simp (decide := true) only [c18, ↓reduceIte]; exact l_step h
  by_cases c19 : jA σ 0 0 &&& 31 = 19
  · simp (decide := true) only [c19, ↓reduceIte]; exact l_done h
  by_cases c20 : jA σ 0 0 &&& 31 = 20
  · simp (decide := true) only [c20, ↓reduceIte]; exact l_run h
  by_cases c21 : jA σ 0 0 &&& 31 = 21
  · simp (decide := true) only [c21, ↓reduceIte]; exact l_same h
  by_cases c22 : jA σ 0 0 &&& 31 = 22
  · simp (decide := true) only [c22, ↓reduceIte]; exact l_differs h
  by_cases c23 : jA σ 0 0 &&& 31 = 23
  · simp (decide := true) only [c23, ↓reduceIte]; exact l_count h
  by_cases c24 : jA σ 0 0 &&& 31 = 24
  · simp (decide := true) only [c24, ↓reduceIte]; exact l_drop h
  simp only [c0, c1, c2, c3, c4, c5, c6, c7, c8, c9, c10, c11, c12, c13, c14, c15, c16, c17, c18, c19, c20, c21, c22, c23, c24, ↓reduceIte]; exact l_other h
theorem l_start0 {τ1 τ2 : jS} (hn1 : jnx τ1 = 47) (r1 : jrn 400 11 1 0 [some (.ref 16)] [] (jnO jτ0 9 14) = some (none, τ1)) (r2 : jrn 700 11 120 0 [some (.ref 47)] [] (jnO τ1 10 43) = some (none, τ2)) (f1 : jfx τ2) (f2 : jfm τ2) (f4 : jsl τ2 ≤ 10000) (f5 : jfy τ2) (f6 : jfn τ2) (f7 : jnx τ2 = 81) (N : Nat) (hN : N ≤ 6) (X : Nat → Int32) : jgood (jx 12 0 0 [some (.ref 0), none, none, none] [] (jσ0 N X)) := by
  have o0 : jOK jτ0 := ⟨rfl, by decide⟩
  have o1 : jOK (jnO jτ0 9 14) := ⟨rfl, by decide⟩
  obtain ⟨g1, o2⟩ := jX_go (N := N) (X := X) o1 r1
  have o3 : jOK (jnO τ1 10 43) := ⟨jOK_new (T := fun _ => 0) o2, Nat.succ_pos _⟩
  obtain ⟨g2, o4⟩ := jX_go (N := N) (X := X) o3 r2
  obtain ⟨-, -, -, -, n1, -, -, -⟩ := jX_f (N := N) (X := X) (τ := τ1)
  rw [hn1] at n1
  have n0 : jnx (jX0 N X jτ0) = 16 := rfl
  have E : jx 12 0 0 [some (.ref 0), none, none, none] [] (jσ0 N X) = jx 12 0 18 [some (.ref 0), some (.ref 16), some (.ref 47), some (.int 0)] [] (jX0 N X τ2) := by
    rw [jσ0_eq, k0_0 (by simp (decide := true) only [zI_T, zI_N, zI_R, zI_A, zI_G, zI_nx, zI_sl, zI_I, zR_T, zR_N, zR_I, zR_A, zR_G, zR_nx, zR_sl, zR_R, zA_T, zA_N, zA_I, zA_R, zA_G, zA_nx, zA_sl, zA_A, zG_T, zG_N, zG_I, zG_R, zG_A, zG_nx, zG_sl, zG_G, zO_T, zO_N, zO_I, zO_R, zO_A, zO_G, zO_nx, zO_sl, zB_T, zB_N, zB_I, zB_R, zB_A, zB_G, zB_nx, zB_sl, zH_T, zH_N, zH_I, zH_R, zH_A, zH_G, zH_nx, zH_sl, Option.getD_some, ne_eq, reduceCtorEq, not_false_eq_true, not_true_eq_false, Option.bind_some, Option.toList_none, Option.toList_some, List.nil_append, List.cons_append, List.append_nil, ↓reduceIte, and_self, true_and, and_true, false_and, and_false, or_true, true_or, or_false, false_or, Nat.reduceEqDiff, Nat.reduceAdd, Int32.reduceMul, Int32.reduceAdd, Int32.reduceSub, Int32.reduceToNatClampNeg, Int32.reduceOfNat, Int32.reduceLT, Int32.reduceLE, va_rf, jin_eq]), n0, jX_nO o0, g1]
    simp only [Option.bind_some, Option.toList_none, List.nil_append]
    rw [k0_7 (by simp (decide := true) only [zI_T, zI_N, zI_R, zI_A, zI_G, zI_nx, zI_sl, zI_I, zR_T, zR_N, zR_I, zR_A, zR_G, zR_nx, zR_sl, zR_R, zA_T, zA_N, zA_I, zA_R, zA_G, zA_nx, zA_sl, zA_A, zG_T, zG_N, zG_I, zG_R, zG_A, zG_nx, zG_sl, zG_G, zO_T, zO_N, zO_I, zO_R, zO_A, zO_G, zO_nx, zO_sl, zB_T, zB_N, zB_I, zB_R, zB_A, zB_G, zB_nx, zB_sl, zH_T, zH_N, zH_I, zH_R, zH_A, zH_G, zH_nx, zH_sl, Option.getD_some, ne_eq, reduceCtorEq, not_false_eq_true, not_true_eq_false, Option.bind_some, Option.toList_none, Option.toList_some, List.nil_append, List.cons_append, List.append_nil, ↓reduceIte, and_self, true_and, and_true, false_and, and_false, or_true, true_or, or_false, false_or, Nat.reduceEqDiff, Nat.reduceAdd, Int32.reduceMul, Int32.reduceAdd, Int32.reduceSub, Int32.reduceToNatClampNeg, Int32.reduceOfNat, Int32.reduceLT, Int32.reduceLE, va_rf, jin_eq]), n1, jX_nO o2, g2]
    simp only [Option.bind_some, Option.toList_none, List.nil_append]
    rw [k0_15]
  rw [E]
  obtain ⟨w1, w2, w3, w4, q3, q4, q1, q2⟩ := jX_f (N := N) (X := X) (τ := τ2)
  rw [f7] at q3
  by_cases h6 : N = 6
  · subst h6
    exact l_all ⟨⟨w1 f1, w2 f2, w3 f5, w4 f6⟩, q3, q1, q2, by omega⟩
  · have h5 : (Int32.ofNat N - 6) < 0 := by
      have : N = 0 ∨ N = 1 ∨ N = 2 ∨ N = 3 ∨ N = 4 ∨ N = 5 := by omega
      rcases this with h | h | h | h | h | h <;> subst h <;> decide
    refine ⟨jX0 N X τ2, ?_, by omega, by omega⟩
    simp (decide := true) only [k0_18, k0_945, q1, q2, h5, Option.getD_some, ne_eq, reduceCtorEq, not_false_eq_true, not_true_eq_false, Option.bind_some, Option.toList_none, Option.toList_some, List.nil_append, List.cons_append, List.append_nil, ↓reduceIte, and_self, true_and, and_true, false_and, and_false, or_true, true_or, or_false, false_or, Nat.reduceEqDiff, Nat.reduceAdd, Int32.reduceMul, Int32.reduceAdd, Int32.reduceSub, Int32.reduceToNatClampNeg, Int32.reduceOfNat, Int32.reduceLT, Int32.reduceLE, va_rf, jin_eq]
theorem l_start (N : Nat) (hN : N ≤ 6) (X : Nat → Int32) : jgood (jx 12 0 0 [some (.ref 0), none, none, none] [] (jσ0 N X)) := by
  obtain ⟨f1, f2, f3, f4, f5, f6, f7⟩ := jσ2_p
  have hc1 := jc1_ok
  rw [Bool.and_eq_true, decide_eq_true_eq] at hc1
  have hs := f4
  unfold jsz at hs
  rw [Bool.and_eq_true, decide_eq_true_eq, decide_eq_true_eq] at hs
  exact l_start0 hc1.2 (jok_n hc1.1) (jok_n jc2_ok) f1 f2 hs.2 f5 f6 f7 N hN X
/-- from the entry the law comes to its end with true -/
theorem whole_start {p : Program} {e : Env} {s : State} {m : MethodId} {below : List Frame} {meth : Method} {c : Code} (l : Launch) {b L : Nat} {xs : Nat → Int32} (hL : L ≤ 6) (C0 : lw_At p s m meth c b L xs) : W p l e room_1 s m #[Value.ref b] below meth c s.heap [] 0 0 (lw_Z below #[Value.ref b] s) (entryFrame m ([Value.ref b] : List Value).toArray 4) := by

  obtain ⟨σ', h1, h2, h3⟩ := l_start L hL xs
  exact jstart l C0 h1 h2 h3
