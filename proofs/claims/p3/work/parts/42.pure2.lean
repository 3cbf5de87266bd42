/-! class and reference read names alike: letters and their numbers -/
theorem lo_nat {c : Int32} (h : isLo c) : ∃ n, 97 ≤ n ∧ n ≤ 122 ∧ c = nI n := by
  obtain ⟨h1, h2⟩ := h
  have n1 : ¬ c < 0 := fun z => by
    rw [Int32.lt_iff_toInt_lt] at z
    rw [Int32.le_iff_toInt_le] at h1
    have e1 : (97 : Int32).toInt = 97 := rfl
    have e0 : (0 : Int32).toInt = 0 := rfl
    omega
  have n2 : ¬ nI 123 ≤ c := fun z => by
    rw [Int32.le_iff_toInt_le] at z h2
    have e1 : (122 : Int32).toInt = 122 := rfl
    have e2 : (nI 123).toInt = 123 := rfl
    omega
  obtain ⟨e, hlt⟩ := i32_nat (by decide) n1 n2
  generalize c.toNatClampNeg = n at e hlt
  refine ⟨n, ?_, by omega, e⟩
  rw [e, show (97 : Int32) = nI 97 from rfl, n31le (by decide) (by omega)] at h1
  exact h1
theorem wv1 {t : Nat → Int32} {p a : Nat} (ha : 97 ≤ a) (e : t p = nI a) : wv t p 1 = nI (a - 96) := by
  show 27 * 0 + t (p + 0) - 96 = _
  rw [Nat.add_zero, e, show (27 : Int32) * 0 = 0 from rfl, Int32.zero_add, show (96 : Int32) = nI 96 from rfl, nsub (by omega)]
theorem wv2 {t : Nat → Int32} {p a c : Nat} (ha : 97 ≤ a) (e : t p = nI a) (hc : 97 ≤ c) (e2 : t (p + 1) = nI c) : wv t p 2 = nI (27 * (a - 96) + (c - 96)) := by
  show 27 * wv t p 1 + t (p + 1) - 96 = _
  rw [wv1 ha e, e2, show (27 : Int32) = nI 27 from rfl, show (96 : Int32) = nI 96 from rfl, nmul, nadd, nsub (by omega)]
  congr 1
  omega
theorem wv3 {t : Nat → Int32} {p a c g : Nat} (ha : 97 ≤ a) (e : t p = nI a) (hc : 97 ≤ c) (e2 : t (p + 1) = nI c) (hg : 97 ≤ g) (e3 : t (p + 2) = nI g) : wv t p 3 = nI (27 * (27 * (a - 96) + (c - 96)) + (g - 96)) := by
  show 27 * wv t p 2 + t (p + 2) - 96 = _
  rw [wv2 ha e hc e2, e3, show (27 : Int32) = nI 27 from rfl, show (96 : Int32) = nI 96 from rfl, nmul, nadd, nsub (by omega)]
  congr 1
  omega
