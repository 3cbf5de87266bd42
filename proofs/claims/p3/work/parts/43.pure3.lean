/-! names and their numbers -/
theorem name3 {a c g k : Nat} (ha : 97 ≤ a ∧ a ≤ 122) (hc : 97 ≤ c ∧ c ≤ 122) (hg : 97 ≤ g ∧ g ≤ 122) (hk : k < 19) : nmv k = nI (27 * (27 * (a - 96) + (c - 96)) + (g - 96)) ↔ (nlnN k = 3 ∧ jnmb (3 * k) = nI a ∧ jnmb (3 * k + 1) = nI c ∧ jnmb (3 * k + 2) = nI g) := by
  rcases k19 hk with rfl | rfl | rfl | rfl | rfl | rfl | rfl | rfl | rfl | rfl | rfl | rfl | rfl | rfl | rfl | rfl | rfl | rfl | rfl
  · rw [show nmv 0 = nI 14006 from rfl, show jnmb (3 * 0) = nI 115 from rfl, show jnmb (3 * 0 + 1) = nI 101 from rfl, show jnmb (3 * 0 + 2) = nI 116 from rfl, show nlnN 0 = 3 from rfl, n31eq (by decide) (by omega), n31eq (by decide) (by omega), n31eq (by decide) (by omega), n31eq (by decide) (by omega)]
    omega
  · rw [show nmv 1 = nI 9904 from rfl, show jnmb (3 * 1) = nI 109 from rfl, show jnmb (3 * 1 + 1) = nI 111 from rfl, show jnmb (3 * 1 + 2) = nI 118 from rfl, show nlnN 1 = 3 from rfl, n31eq (by decide) (by omega), n31eq (by decide) (by omega), n31eq (by decide) (by omega), n31eq (by decide) (by omega)]
    omega
  · rw [show nmv 2 = nI 841 from rfl, show jnmb (3 * 2) = nI 97 from rfl, show jnmb (3 * 2 + 1) = nI 100 from rfl, show jnmb (3 * 2 + 2) = nI 100 from rfl, show nlnN 2 = 3 from rfl, n31eq (by decide) (by omega), n31eq (by decide) (by omega), n31eq (by decide) (by omega), n31eq (by decide) (by omega)]
    omega
  · rw [show nmv 3 = nI 14420 from rfl, show jnmb (3 * 3) = nI 115 from rfl, show jnmb (3 * 3 + 1) = nI 117 from rfl, show jnmb (3 * 3 + 2) = nI 98 from rfl, show nlnN 3 = 3 from rfl, n31eq (by decide) (by omega), n31eq (by decide) (by omega), n31eq (by decide) (by omega), n31eq (by decide) (by omega)]
    omega
  · rw [show nmv 4 = nI 1111 from rfl, show jnmb (3 * 4) = nI 97 from rfl, show jnmb (3 * 4 + 1) = nI 110 from rfl, show jnmb (3 * 4 + 2) = nI 100 from rfl, show nlnN 4 = 3 from rfl, n31eq (by decide) (by omega), n31eq (by decide) (by omega), n31eq (by decide) (by omega), n31eq (by decide) (by omega)]
    omega
  · rw [show nmv 5 = nI 423 from rfl, show nlnN 5 = 2 from rfl, n31eq (by decide) (by omega)]
    omega
  · rw [show nmv 6 = nI 17919 from rfl, show jnmb (3 * 6) = nI 120 from rfl, show jnmb (3 * 6 + 1) = nI 111 from rfl, show jnmb (3 * 6 + 2) = nI 114 from rfl, show nlnN 6 = 3 from rfl, n31eq (by decide) (by omega), n31eq (by decide) (by omega), n31eq (by decide) (by omega), n31eq (by decide) (by omega)]
    omega
  · rw [show nmv 7 = nI 10056 from rfl, show jnmb (3 * 7) = nI 109 from rfl, show jnmb (3 * 7 + 1) = nI 117 from rfl, show jnmb (3 * 7 + 2) = nI 108 from rfl, show nlnN 7 = 3 from rfl, n31eq (by decide) (by omega), n31eq (by decide) (by omega), n31eq (by decide) (by omega), n31eq (by decide) (by omega)]
    omega
  · rw [show nmv 8 = nI 6942 from rfl, show jnmb (3 * 8) = nI 105 from rfl, show jnmb (3 * 8 + 1) = nI 110 from rfl, show jnmb (3 * 8 + 2) = nI 99 from rfl, show nlnN 8 = 3 from rfl, n31eq (by decide) (by omega), n31eq (by decide) (by omega), n31eq (by decide) (by omega), n31eq (by decide) (by omega)]
    omega
  · rw [show nmv 9 = nI 3054 from rfl, show jnmb (3 * 9) = nI 100 from rfl, show jnmb (3 * 9 + 1) = nI 101 from rfl, show jnmb (3 * 9 + 2) = nI 99 from rfl, show nlnN 9 = 3 from rfl, n31eq (by decide) (by omega), n31eq (by decide) (by omega), n31eq (by decide) (by omega), n31eq (by decide) (by omega)]
    omega
  · rw [show nmv 10 = nI 10631 from rfl, show jnmb (3 * 10) = nI 110 from rfl, show jnmb (3 * 10 + 1) = nI 111 from rfl, show jnmb (3 * 10 + 2) = nI 116 from rfl, show nlnN 10 = 3 from rfl, n31eq (by decide) (by omega), n31eq (by decide) (by omega), n31eq (by decide) (by omega), n31eq (by decide) (by omega)]
    omega
  · rw [show nmv 11 = nI 10348 from rfl, show jnmb (3 * 11) = nI 110 from rfl, show jnmb (3 * 11 + 1) = nI 101 from rfl, show jnmb (3 * 11 + 2) = nI 103 from rfl, show nlnN 11 = 3 from rfl, n31eq (by decide) (by omega), n31eq (by decide) (by omega), n31eq (by decide) (by omega), n31eq (by decide) (by omega)]
    omega
  · rw [show nmv 12 = nI 14079 from rfl, show jnmb (3 * 12) = nI 115 from rfl, show jnmb (3 * 12 + 1) = nI 104 from rfl, show jnmb (3 * 12 + 2) = nI 108 from rfl, show nlnN 12 = 3 from rfl, n31eq (by decide) (by omega), n31eq (by decide) (by omega), n31eq (by decide) (by omega), n31eq (by decide) (by omega)]
    omega
  · rw [show nmv 13 = nI 14085 from rfl, show jnmb (3 * 13) = nI 115 from rfl, show jnmb (3 * 13 + 1) = nI 104 from rfl, show jnmb (3 * 13 + 2) = nI 114 from rfl, show nlnN 13 = 3 from rfl, n31eq (by decide) (by omega), n31eq (by decide) (by omega), n31eq (by decide) (by omega), n31eq (by decide) (by omega)]
    omega
  · rw [show nmv 14 = nI 13998 from rfl, show jnmb (3 * 14) = nI 115 from rfl, show jnmb (3 * 14 + 1) = nI 101 from rfl, show jnmb (3 * 14 + 2) = nI 108 from rfl, show nlnN 14 = 3 from rfl, n31eq (by decide) (by omega), n31eq (by decide) (by omega), n31eq (by decide) (by omega), n31eq (by decide) (by omega)]
    omega
  · rw [show nmv 15 = nI 5258 from rfl, show jnmb (3 * 15) = nI 103 from rfl, show jnmb (3 * 15 + 1) = nI 101 from rfl, show jnmb (3 * 15 + 2) = nI 116 from rfl, show nlnN 15 = 3 from rfl, n31eq (by decide) (by omega), n31eq (by decide) (by omega), n31eq (by decide) (by omega), n31eq (by decide) (by omega)]
    omega
  · rw [show nmv 16 = nI 12251 from rfl, show jnmb (3 * 16) = nI 112 from rfl, show jnmb (3 * 16 + 1) = nI 117 from rfl, show jnmb (3 * 16 + 2) = nI 116 from rfl, show nlnN 16 = 3 from rfl, n31eq (by decide) (by omega), n31eq (by decide) (by omega), n31eq (by decide) (by omega), n31eq (by decide) (by omega)]
    omega
  · rw [show nmv 17 = nI 10627 from rfl, show jnmb (3 * 17) = nI 110 from rfl, show jnmb (3 * 17 + 1) = nI 111 from rfl, show jnmb (3 * 17 + 2) = nI 112 from rfl, show nlnN 17 = 3 from rfl, n31eq (by decide) (by omega), n31eq (by decide) (by omega), n31eq (by decide) (by omega), n31eq (by decide) (by omega)]
    omega
  · rw [show nmv 18 = nI 14488 from rfl, show jnmb (3 * 18) = nI 115 from rfl, show jnmb (3 * 18 + 1) = nI 119 from rfl, show jnmb (3 * 18 + 2) = nI 112 from rfl, show nlnN 18 = 3 from rfl, n31eq (by decide) (by omega), n31eq (by decide) (by omega), n31eq (by decide) (by omega), n31eq (by decide) (by omega)]
    omega
theorem name2 {a c k : Nat} (ha : 97 ≤ a ∧ a ≤ 122) (hc : 97 ≤ c ∧ c ≤ 122) (hk : k < 19) : nmv k = nI (27 * (a - 96) + (c - 96)) ↔ (nlnN k = 2 ∧ jnmb (3 * k) = nI a ∧ jnmb (3 * k + 1) = nI c) := by
  rcases k19 hk with rfl | rfl | rfl | rfl | rfl | rfl | rfl | rfl | rfl | rfl | rfl | rfl | rfl | rfl | rfl | rfl | rfl | rfl | rfl
  · rw [show nmv 0 = nI 14006 from rfl, show nlnN 0 = 3 from rfl, n31eq (by decide) (by omega)]
    omega
  · rw [show nmv 1 = nI 9904 from rfl, show nlnN 1 = 3 from rfl, n31eq (by decide) (by omega)]
    omega
  · rw [show nmv 2 = nI 841 from rfl, show nlnN 2 = 3 from rfl, n31eq (by decide) (by omega)]
    omega
  · rw [show nmv 3 = nI 14420 from rfl, show nlnN 3 = 3 from rfl, n31eq (by decide) (by omega)]
    omega
  · rw [show nmv 4 = nI 1111 from rfl, show nlnN 4 = 3 from rfl, n31eq (by decide) (by omega)]
    omega
  · rw [show nmv 5 = nI 423 from rfl, show jnmb (3 * 5) = nI 111 from rfl, show jnmb (3 * 5 + 1) = nI 114 from rfl, show nlnN 5 = 2 from rfl, n31eq (by decide) (by omega), n31eq (by decide) (by omega), n31eq (by decide) (by omega)]
    omega
  · rw [show nmv 6 = nI 17919 from rfl, show nlnN 6 = 3 from rfl, n31eq (by decide) (by omega)]
    omega
  · rw [show nmv 7 = nI 10056 from rfl, show nlnN 7 = 3 from rfl, n31eq (by decide) (by omega)]
    omega
  · rw [show nmv 8 = nI 6942 from rfl, show nlnN 8 = 3 from rfl, n31eq (by decide) (by omega)]
    omega
  · rw [show nmv 9 = nI 3054 from rfl, show nlnN 9 = 3 from rfl, n31eq (by decide) (by omega)]
    omega
  · rw [show nmv 10 = nI 10631 from rfl, show nlnN 10 = 3 from rfl, n31eq (by decide) (by omega)]
    omega
  · rw [show nmv 11 = nI 10348 from rfl, show nlnN 11 = 3 from rfl, n31eq (by decide) (by omega)]
    omega
  · rw [show nmv 12 = nI 14079 from rfl, show nlnN 12 = 3 from rfl, n31eq (by decide) (by omega)]
    omega
  · rw [show nmv 13 = nI 14085 from rfl, show nlnN 13 = 3 from rfl, n31eq (by decide) (by omega)]
    omega
  · rw [show nmv 14 = nI 13998 from rfl, show nlnN 14 = 3 from rfl, n31eq (by decide) (by omega)]
    omega
  · rw [show nmv 15 = nI 5258 from rfl, show nlnN 15 = 3 from rfl, n31eq (by decide) (by omega)]
    omega
  · rw [show nmv 16 = nI 12251 from rfl, show nlnN 16 = 3 from rfl, n31eq (by decide) (by omega)]
    omega
  · rw [show nmv 17 = nI 10627 from rfl, show nlnN 17 = 3 from rfl, n31eq (by decide) (by omega)]
    omega
  · rw [show nmv 18 = nI 14488 from rfl, show nlnN 18 = 3 from rfl, n31eq (by decide) (by omega)]
    omega
