/-! the machine: orders at work, class and reference -/
def mkW (W : Nat) : Int32 := ((1 : Int32) <<< (nI W &&& 31)) - 1
def wkd (k : Nat) (a c n : Int32) : Int32 := if k = 0 then n else if k = 1 then c else if k = 2 then a + c else if k = 3 then a - c else if k = 4 then a &&& c else if k = 5 then a ||| c else if k = 6 then a ^^^ c else if k = 7 then a * c else if k = 8 then a + 1 else if k = 9 then a - 1 else if k = 10 then a ^^^ (-1) else if k = 11 then -a else if k = 12 then a <<< (n &&& 31) else if k = 13 then a >>> (n &&& 31) else a
def exN (W k x y z : Nat) (w : Nat → Int32) : Nat → Int32 :=
  if k = 17 then w else if k = 16 then up6 w (4 + y) (w x) else if k = 15 then up6 w x (w (4 + y)) else if k = 14 then up6 w x (if w x = 0 then w z else w y) else if k = 18 then up6 (up6 w x (w y)) y (w x) else up6 w x (wkd k (w x) (w (y % 4)) (nI y) &&& mkW W)
def WD (W : Nat) (w : Nat → Int32) : Prop := ∀ i, i < 8 → ∃ u, u < 2 ^ W ∧ w i = nI u
def w8 (x y z k : Nat) : Prop := k < 19 ∧ x < 4 ∧ z < 4 ∧ y < 8 ∧ (¬ k = 0 → y < 4)
theorem and3 : ∀ y, y < 8 → (nI y &&& 3) = nI (y % 4) := by decide
theorem mask_id {W : Nat} (hW : W = 1 ∨ W = 2 ∨ W = 3) : ∀ u, u < 2 ^ W → nI u &&& mkW W = nI u := by
  rcases hW with h | h | h <;> subst h <;> decide
theorem mask_in {W : Nat} (hW : W = 1 ∨ W = 2 ∨ W = 3) (v : Int32) : ∃ u, u < 2 ^ W ∧ v &&& mkW W = nI u := by
  have e : (mkW W).toBitVec.toNat = 2 ^ W - 1 := by rcases hW with h | h | h <;> subst h <;> decide
  have hp : 2 ^ W ≤ 8 ∧ 1 ≤ 2 ^ W := by rcases hW with h | h | h <;> subst h <;> decide
  have q : (v &&& mkW W).toBitVec.toNat ≤ 2 ^ W - 1 := by
    rw [Int32.toBitVec_and, BitVec.toNat_and, e]
    exact Nat.and_le_right
  refine ⟨(v &&& mkW W).toBitVec.toNat, by omega, ?_⟩
  apply Int32.toBitVec_inj.mp
  apply BitVec.eq_of_toNat_eq
  show _ = (Int32.ofNat _).toBitVec.toNat
  rw [Int32.toBitVec_ofNat', BitVec.toNat_ofNat]
  omega
section MAC
variable {d : Nat} {σ : jS} {W : Nat}
theorem c71 {k : Nat} (hk : k < 19) (a c n : Int32) : jx d 71 0 [some (.int (nI k)), some (.int a), some (.int c), some (.int n)] [] σ = some (some (.int (wkd k a c n)), σ) := by
  rcases k19 hk with h | h | h | h | h | h | h | h | h | h | h | h | h | h | h | h | h | h | h <;> subst h <;> rw [k71_0]
  · rw [show jsw 2 (nI 0) = 72 by decide, k71_72]; rfl
  · rw [show jsw 2 (nI 1) = 74 by decide, k71_74]; rfl
  · rw [show jsw 2 (nI 2) = 76 by decide, k71_76]; rfl
  · rw [show jsw 2 (nI 3) = 80 by decide, k71_80]; rfl
  · rw [show jsw 2 (nI 4) = 84 by decide, k71_84]; rfl
  · rw [show jsw 2 (nI 5) = 88 by decide, k71_88]; rfl
  · rw [show jsw 2 (nI 6) = 92 by decide, k71_92]; rfl
  · rw [show jsw 2 (nI 7) = 96 by decide, k71_96]; rfl
  · rw [show jsw 2 (nI 8) = 100 by decide, k71_100]; rfl
  · rw [show jsw 2 (nI 9) = 104 by decide, k71_104]; rfl
  · rw [show jsw 2 (nI 10) = 108 by decide, k71_108]; rfl
  · rw [show jsw 2 (nI 11) = 112 by decide, k71_112]; rfl
  · rw [show jsw 2 (nI 12) = 115 by decide, k71_115]; rfl
  · rw [show jsw 2 (nI 13) = 119 by decide, k71_119]; rfl
  · rw [show jsw 2 (nI 14) = 123 by decide, k71_123]; rfl
  · rw [show jsw 2 (nI 15) = 123 by decide, k71_123]; rfl
  · rw [show jsw 2 (nI 16) = 123 by decide, k71_123]; rfl
  · rw [show jsw 2 (nI 17) = 123 by decide, k71_123]; rfl
  · rw [show jsw 2 (nI 18) = 123 by decide, k71_123]; rfl
theorem sw1 : ∀ k, k < 19 → k < 14 → jsw 1 (nI k) = 189 := by decide
theorem c70 {M m a N F k x y z : Nat} (tM : jT σ M = 3) (rM : jR σ 128 M = some m) (tm : jT σ m = 20) (nm : jN σ m = 8) (ta : jT σ a = 20) (na : jN σ a = N) (hN : N ≤ 144) (hF : F + 6 ≤ N) (am : ¬ a = m) (h8 : w8 x y z k)
    (e0 : jA σ a F = nI k) (e1 : jA σ a (F + 1) = nI x) (e2 : jA σ a (F + 2) = nI y) (e3 : k = 14 → jA σ a (F + 3) = nI z) :
    ∃ σ', jx (d + 1) 70 0 [some (.ref M), some (.ref a), some (.int (nI F)), some (.int (mkW W)), none, none, none, none] [] σ = some (none, σ') ∧ FR [m] σ σ' ∧ ∀ i, jA σ' m i = exN W k x y z (jA σ m) i := by
  obtain ⟨hk, hx, hz, hy, hy4⟩ := h8
  have n0 : ¬ nI F < 0 := by
    rw [Int32.lt_iff_toInt_lt, nI_toInt (by omega)]
    have : (0 : Int32).toInt = 0 := rfl
    omega
  have f6 : nI F + 6 ≤ Int32.ofNat N := by rw [show (6 : Int32) = nI 6 from rfl, nadd]; exact nI_le hF (by omega)
  have p0 : nI F + 0 = nI F := by rw [show (0 : Int32) = nI 0 from rfl, nadd]; rfl
  have p1 : nI F + 1 = nI (F + 1) := (nI_succ _).symm
  have p2 : nI F + 2 = nI (F + 2) := by rw [show (2 : Int32) = nI 2 from rfl, nadd]
  have p3 : nI F + 3 = nI (F + 3) := by rw [show (3 : Int32) = nI 3 from rfl, nadd]
  have g0 : jin N (nI F) := jin_n (by omega) (by omega)
  have g1 : jin N (nI (F + 1)) := jin_n (by omega) (by omega)
  have g2 : jin N (nI (F + 2)) := jin_n (by omega) (by omega)
  have g3 : jin N (nI (F + 3)) := jin_n (by omega) (by omega)
  have q0 : (nI F).toNatClampNeg = F := nI_clamp (by omega)
  have q1 : (nI (F + 1)).toNatClampNeg = F + 1 := nI_clamp (by omega)
  have q2 : (nI (F + 2)).toNatClampNeg = F + 2 := nI_clamp (by omega)
  have q3 : (nI (F + 3)).toNatClampNeg = F + 3 := nI_clamp (by omega)
  have x3 : (nI x &&& 3) = nI x := by rw [and3 x (by omega), Nat.mod_eq_of_lt hx]
  have start : jx (d + 1) 70 0 [some (.ref M), some (.ref a), some (.int (nI F)), some (.int (mkW W)), none, none, none, none] [] σ = jx (d + 1) 70 (jsw 1 (nI k)) [some (.ref M), some (.ref a), some (.int (nI F)), some (.int (mkW W)), some (.int (nI k)), some (.int (nI x)), some (.int (nI (y % 4))), none] [] σ := by
    rw [k70_0, if_neg n0, k70_4 (by rw [ta]; decide), na, if_pos f6, k70_14 (Or.inl ta) (by rw [na, p0]; exact g0) (by rw [na, p1]; exact g1) (by rw [na, p2]; exact g2), p0, p1, p2, q0, q1, q2, e0, e1, e2, x3, and3 y hy]
  have gx : jin 8 (nI x) := jin_n (by omega) (by decide)
  have gy : jin 8 (nI (y % 4)) := jin_n (by omega) (by decide)
  have qx : (nI x).toNatClampNeg = x := nI_clamp (by omega)
  have qy : (nI (y % 4)).toNatClampNeg = y % 4 := nI_clamp (by omega)
  have a4 : (4 : Int32) + nI (y % 4) = nI (4 + y % 4) := by rw [show (4 : Int32) = nI 4 from rfl, nadd]
  have g4 : jin 8 (nI (4 + y % 4)) := jin_n (by omega) (by decide)
  have q4 : (nI (4 + y % 4)).toNatClampNeg = 4 + y % 4 := nI_clamp (by omega)
  have rn : jR σ 128 M ≠ none := by rw [rM]; exact fun z => nomatch z
  have rg : (jR σ 128 M).getD 0 = m := by rw [rM]; rfl
  have up : ∀ (υ : jS) (j : Nat) (v : Int32) (i : Nat), jA (jsA υ m j v) m i = up6 (jA υ m) j v i := by
    intro υ j v i
    rw [zA_A]
    unfold up6
    by_cases h : i = j
    · rw [if_pos ⟨rfl, h⟩, if_pos h]
    · rw [if_neg (fun w => h w.2), if_neg h]
  by_cases h17 : k = 17
  · subst h17
    refine ⟨σ, ?_, FR.refl _ σ, fun i => rfl⟩
    rw [start, show jsw 1 (nI 17) = 76 by decide, k70_76]
  by_cases h16 : k = 16
  · subst h16
    have y4 : y % 4 = y := Nat.mod_eq_of_lt (hy4 (by decide))
    refine ⟨jsA σ m (4 + y) (jA σ m x), ?_, (FR.refl _ σ).A (by simp), fun i => up σ _ _ i⟩
    rw [start, show jsw 1 (nI 16) = 79 by decide, k70_79 tM rn (by rw [rg]; exact Or.inl tm) (by rw [rg, nm]; exact gx) (by rw [rg]; exact tm) (by rw [rg, nm, a4]; exact g4), rg, a4, q4, qx, y4]
  by_cases h15 : k = 15
  · subst h15
    have y4 : y % 4 = y := Nat.mod_eq_of_lt (hy4 (by decide))
    refine ⟨jsA σ m x (jA σ m (4 + y)), ?_, (FR.refl _ σ).A (by simp), fun i => up σ _ _ i⟩
    rw [start, show jsw 1 (nI 15) = 98 by decide, k70_98 tM rn (by rw [rg]; exact Or.inl tm) (by rw [rg, nm, a4]; exact g4) (by rw [rg]; exact tm) (by rw [rg, nm]; exact gx), rg, a4, q4, qx, y4]
  by_cases h14 : k = 14
  · subst h14
    have y4 : y % 4 = y := Nat.mod_eq_of_lt (hy4 (by decide))
    have z3 : (nI z &&& 3) = nI z := by rw [and3 z (by omega), Nat.mod_eq_of_lt hz]
    have gz : jin 8 (nI z) := jin_n (by omega) (by decide)
    have qz : (nI z).toNatClampNeg = z := nI_clamp (by omega)
    refine ⟨jsA σ m x (if jA σ m x = 0 then jA σ m z else jA σ m y), ?_, (FR.refl _ σ).A (by simp), fun i => up σ _ _ i⟩
    rw [start, show jsw 1 (nI 14) = 117 by decide, k70_117 tM rn (by rw [rg]; exact Or.inl tm) (by rw [rg, nm]; exact gx), rg, qx]
    by_cases h0 : jA σ m x = 0
    · rw [if_pos h0, if_pos h0, k70_142 (Or.inl ta) (by rw [na, p3]; exact g3) (Or.inl tm) (by rw [nm, p3, q3, e3 rfl, z3]; exact gz) tm (by rw [nm]; exact gx), p3, q3, e3 rfl, z3, qz, qx]
    · rw [if_neg h0, if_neg h0, k70_137 (Or.inl tm) (by rw [nm]; exact gy) tm (by rw [nm]; exact gx), qy, qx, y4]
  by_cases h18 : k = 18
  · subst h18
    have y4 : y % 4 = y := Nat.mod_eq_of_lt (hy4 (by decide))
    refine ⟨jsA (jsA σ m x (jA σ m y)) m y (jA σ m x), ?_, ((FR.refl _ σ).A (by simp)).A (by simp), fun i => ?_⟩
    · rw [start, show jsw 1 (nI 18) = 154 by decide, k70_154 tM rn (by rw [rg]; exact Or.inl tm) (by rw [rg, nm]; exact gx) (by rw [rg, nm]; exact gy) (by rw [rg]; exact tm), rg, qy, qx, y4]
    · rw [up]
      show up6 (jA (jsA σ m x (jA σ m y)) m) y (jA σ m x) i = up6 (up6 (jA σ m) x (jA σ m y)) y (jA σ m x) i
      unfold up6
      by_cases h : i = y
      · rw [if_pos h, if_pos h]
      · rw [if_neg h, if_neg h]; exact up σ x (jA σ m y) i
  have hs := sw1 k hk (by omega)
  refine ⟨jsA σ m x (wkd k (jA σ m x) (jA σ m (y % 4)) (nI y) &&& mkW W), ?_, (FR.refl _ σ).A (by simp), fun i => ?_⟩
  · rw [start, hs, k70_189 tM rn (by rw [rg]; exact Or.inl tm) (by rw [rg, nm]; exact gx) (by rw [rg, nm]; exact gy) (Or.inl ta) (by rw [na, p2]; exact g2), rg, p2, q2, e2, qx, qy, c71 hk]
    simp only [Option.bind_some, Option.toList_some, List.cons_append, List.nil_append]
    rw [k70_219 tm (by rw [nm]; exact gx), qx]
  · rw [up]
    unfold exN
    rw [if_neg h17, if_neg h16, if_neg h15, if_neg h14, if_neg h18]
end MAC
