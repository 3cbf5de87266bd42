/-! class and reference read numbers alike -/
theorem fwF_step {t : Nat → Int32} {f p : Nat} (h : isFg (t p)) : fwF t (f + 1) p = fwF t f (p + 1) + 1 := if_pos h
theorem fwF_stop {t : Nat → Int32} {f p : Nat} (h : ¬ isFg (t p)) : fwF t f p = 0 := by
  cases f with
  | zero => rfl
  | succ f => exact if_neg h
theorem fg_in {len : Nat} {b : Nat → Int32} {p : Nat} (h : isFg (tv len b p)) : p < len := tv_in (fun z => by rw [z] at h; exact absurd h (by decide))
theorem fw_go {len : Nat} {b : Nat → Int32} {p : Nat} (h : isFg (tv len b p)) : fw len b p = fw len b (p + 1) + 1 := by
  have hl := fg_in h
  unfold fw
  rw [show len - p = (len - (p + 1)) + 1 by omega]
  exact fwF_step h
theorem fw_stop {len : Nat} {b : Nat → Int32} {p : Nat} (h : ¬ isFg (tv len b p)) : fw len b p = 0 := fwF_stop h
/-- the class's reading of a number is the reference's -/
theorem num_same {len m j : Nat} {b : Nat → Int32} {s : jPS} (h : isFg (tv len b s.1)) : sTerm len b m j s = (mNum len b s.1).map (fun z => (z.2, s.2.1, s.2.2.1, up6 s.2.2.2 j z.1)) := by
  unfold sTerm mNum
  rw [if_pos h, fw_go h, if_neg (Nat.succ_ne_zero _)]
  by_cases h2 : isFg (tv len b (s.1 + 1))
  · rw [if_pos h2, fw_go h2]
    by_cases h3 : isFg (tv len b (s.1 + 2))
    · have e : fw len b (s.1 + 1 + 1) = fw len b (s.1 + 1 + 1 + 1) + 1 := fw_go h3
      rw [if_pos (Or.inr h3), e, if_pos (by omega)]; rfl
    · have e : fw len b (s.1 + 1 + 1) = 0 := fw_stop h3
      rw [e, if_neg (show ¬ 2 < 0 + 1 + 1 by omega)]
      have v : nv (tv len b) s.1 (0 + 1 + 1) = (tv len b s.1 - 48) * 10 + tv len b (s.1 + 1) - 48 := by
        show 10 * (10 * 0 + tv len b (s.1 + 0) - 48) + tv len b (s.1 + 1) - 48 = _
        rw [Nat.add_zero, show (10 : Int32) * 0 = 0 from rfl, Int32.zero_add, Int32.mul_comm]
      rw [v]
      by_cases h4 : 15 < (tv len b s.1 - 48) * 10 + tv len b (s.1 + 1) - 48
      · rw [if_pos (Or.inl h4), if_pos h4]; rfl
      · rw [if_neg (fun z => z.elim h4 h3), if_neg h4]; rfl
  · rw [if_neg h2, fw_stop h2, if_neg (show ¬ 2 < 0 + 1 by omega)]
    have v : nv (tv len b) s.1 (0 + 1) = tv len b s.1 - 48 := by
      show 10 * 0 + tv len b (s.1 + 0) - 48 = _
      rw [Nat.add_zero, show (10 : Int32) * 0 = 0 from rfl, Int32.zero_add]
    rw [v]
    by_cases h4 : 15 < tv len b s.1 - 48
    · rw [if_pos h4, if_pos h4]; rfl
    · rw [if_neg h4, if_neg h4]; rfl
theorem lo_in {len : Nat} {b : Nat → Int32} {p : Nat} (h : isLo (tv len b p)) : p < len := tv_in (fun z => by rw [z] at h; exact absurd h (by decide))
theorem lw_stop {len : Nat} {b : Nat → Int32} {p : Nat} (h : ¬ isLo (tv len b p)) : lw len b p = 0 := by
  unfold lw
  cases len - p with
  | zero => rfl
  | succ f => exact if_neg h
theorem lw_go {len : Nat} {b : Nat → Int32} {p : Nat} (h : isLo (tv len b p)) : lw len b p = lw len b (p + 1) + 1 := by
  have hl := lo_in h
  unfold lw
  rw [show len - p = (len - (p + 1)) + 1 by omega]
  exact if_pos h
theorem lw_one {len : Nat} {b : Nat → Int32} {p : Nat} (h : isLo (tv len b p)) : lw len b p = 1 ↔ ¬ isLo (tv len b (p + 1)) := by
  rw [lw_go h]
  constructor
  · intro z q
    rw [lw_go q] at z
    omega
  · intro q
    rw [lw_stop q]
/-- a letter alone, by the letter behind it -/
theorem mLet_eq {len : Nat} {b : Nat → Int32} {x y : Int32} {p : Nat} (hx : 97 ≤ x) (hy : x + y - 1 ≤ 122) : mLet len b x y p = if (x ≤ tv len b p ∧ tv len b p ≤ x + y - 1) ∧ ¬ isLo (tv len b (p + 1)) ∧ ¬ isFg (tv len b (p + 1)) then some (tv len b p - x, p + 1) else none := by
  unfold mLet
  by_cases g : x ≤ tv len b p ∧ tv len b p ≤ x + y - 1
  · have h : isLo (tv len b p) := ⟨Int32.le_trans hx g.1, Int32.le_trans g.2 hy⟩
    by_cases g2 : isLo (tv len b (p + 1))
    · rw [if_neg (fun z => (lw_one h).mp z.2.1 g2), if_neg (fun z => z.2.1 g2)]
    · by_cases g3 : isFg (tv len b (p + 1))
      · rw [if_neg (fun z => z.2.2.2 g3), if_neg (fun z => z.2.2 g3)]
      · rw [if_pos ⟨h, (lw_one h).mpr g2, g, g3⟩, if_pos ⟨g, g2, g3⟩]
  · rw [if_neg (fun z => g z.2.2.1), if_neg (fun z => g z.1)]
