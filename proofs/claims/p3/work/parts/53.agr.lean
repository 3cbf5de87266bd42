/-! both readers accept alike: words and letters -/
def bad (t : Int32) : Prop := isUp t ∨ isFg t
theorem bad_ne {t : Int32} (h : bad t) : t ≠ 32 ∧ t ≠ 59 ∧ t ≠ 61 ∧ ¬ isSg t ∧ t ≠ -1 := by
  refine ⟨?_, ?_, ?_, ?_, ?_⟩
  · intro e; rw [e] at h; rcases h with h | h <;> exact absurd h (by decide)
  · intro e; rw [e] at h; rcases h with h | h <;> exact absurd h (by decide)
  · intro e; rw [e] at h; rcases h with h | h <;> exact absurd h (by decide)
  · intro e
    rcases e with e | e | e | e | e <;> (rw [e] at h; rcases h with h | h <;> exact absurd h (by decide))
  · intro e; rw [e] at h; rcases h with h | h <;> exact absurd h (by decide)
def agr {α β : Type} (t : Nat → Int32) (pa : α → Nat) (pb : β → Nat) (R : α → β → Prop) : Option α → Option β → Prop
  | some a, some c => R a c
  | none, none => True
  | some a, none => bad (t (pa a))
  | none, some c => bad (t (pb c))
theorem agr.bind {α β α' β' : Type} {t : Nat → Int32} {pa : α → Nat} {pb : β → Nat} {R : α → β → Prop} {pa' : α' → Nat} {pb' : β' → Nat} {R' : α' → β' → Prop} {x : Option α} {y : Option β} {F : α → Option α'} {G : β → Option β'} (h : agr t pa pb R x y)
    (hR : ∀ a c, R a c → agr t pa' pb' R' (F a) (G c)) (hF : ∀ a, bad (t (pa a)) → F a = none ∨ ∃ a', F a = some a' ∧ pa' a' = pa a) (hG : ∀ c, bad (t (pb c)) → G c = none ∨ ∃ c', G c = some c' ∧ pb' c' = pb c) : agr t pa' pb' R' (x.bind F) (y.bind G) := by
  cases x with
  | none =>
    cases y with
    | none => trivial
    | some c =>
      have hb : bad (t (pb c)) := h
      rw [Option.bind_none, Option.bind_some]
      rcases hG c hb with e | ⟨c', e, q⟩
      · rw [e]; trivial
      · rw [e]; show bad (t (pb' c')); rw [q]; exact hb
  | some a =>
    cases y with
    | none =>
      have hb : bad (t (pa a)) := h
      rw [Option.bind_none, Option.bind_some]
      rcases hF a hb with e | ⟨a', e, q⟩
      · rw [e]; trivial
      · rw [e]; show bad (t (pa' a')); rw [q]; exact hb
    | some c => exact hR a c h
theorem wl_lw (t : Nat → Int32) : ∀ f p, wlF t f p = lwF t f p ∨ (lwF t f p < wlF t f p ∧ isUp (t (p + lwF t f p))) := by
  intro f
  induction f with
  | zero => intro p; exact Or.inl rfl
  | succ f ih =>
    intro p
    by_cases hl : isLo (t p)
    · have e1 : wlF t (f + 1) p = wlF t f (p + 1) + 1 := if_pos (Or.inl hl)
      have e2 : lwF t (f + 1) p = lwF t f (p + 1) + 1 := if_pos hl
      rw [e1, e2]
      rcases ih (p + 1) with h | ⟨h1, h2⟩
      · exact Or.inl (by rw [h])
      · refine Or.inr ⟨by omega, ?_⟩
        rw [show p + (lwF t f (p + 1) + 1) = p + 1 + lwF t f (p + 1) by omega]
        exact h2
    · have e2 : lwF t (f + 1) p = 0 := if_neg hl
      rw [e2]
      by_cases hu : isUp (t p)
      · have e1 : wlF t (f + 1) p = wlF t f (p + 1) + 1 := if_pos (Or.inr hu)
        exact Or.inr ⟨by rw [e1]; omega, hu⟩
      · exact Or.inl (if_neg (fun z => z.elim hl hu))
theorem lw_all (t : Nat → Int32) : ∀ f p j, j < lwF t f p → isLo (t (p + j)) := by
  intro f
  induction f with
  | zero => intro p j h; exact absurd h (Nat.not_lt_zero j)
  | succ f ih =>
    intro p j h
    by_cases hl : isLo (t p)
    · have e2 : lwF t (f + 1) p = lwF t f (p + 1) + 1 := if_pos hl
      cases j with
      | zero => exact hl
      | succ j =>
        rw [show p + (j + 1) = p + 1 + j by omega]
        exact ih (p + 1) j (by omega)
    · have e2 : lwF t (f + 1) p = 0 := if_neg hl
      omega
theorem nmb_lo : ∀ k, k < 19 → ∀ j, j < nlnN k → isLo (jnmb (3 * k + j)) := by decide
theorem nln23 : ∀ k, k < 19 → 2 ≤ nlnN k := by decide
theorem kn_up {t : Nat → Int32} {p L j : Nat} (hj : j < L) (hn : ¬ isLo (t (p + j))) : knF t p L 19 0 = -1 := by
  rcases knF_ok t p L 19 0 (by decide) with h | ⟨k, hk, _, h2, h3⟩
  · exact h
  · have := (nmD_iff.mp h3) j hj
    rw [← this] at hn
    exact absurd (nmb_lo k hk j (by omega)) hn
theorem kn_zero {t : Nat → Int32} {p : Nat} : knF t p 0 19 0 = -1 := by
  rcases knF_ok t p 0 19 0 (by decide) with h | ⟨k, hk, _, h2, h3⟩
  · exact h
  · have := nln23 k hk
    omega
theorem name_agr {len : Nat} {b : Nat → Int32} {s : jPS} {tm : Bool} {tp : Prop} [Decidable tp] (ht : tm = true ↔ tp) :
    agr (tv len b) (fun x : jPS => x.1) (fun z : Int32 × Nat => z.2) (fun x z => x = (z.2, s.2.1, s.2.2.1, fun j => if j = 0 then z.1 else 0)) (sName len b tm s) (mName len b tp s.1) := by
  have kneg : knF (tv len b) s.1 (wl len b s.1) 19 0 = -1 → sName len b tm s = none := fun e => by
    unfold sName
    rw [if_pos (by rw [e]; decide)]
  rcases wl_lw (tv len b) (len - s.1) s.1 with h | ⟨h1, h2⟩
  · have h : wl len b s.1 = lw len b s.1 := h
    by_cases h0 : lw len b s.1 = 0
    · have nl : ¬ isLo (tv len b s.1) := fun z => by rw [lw_go z] at h0; omega
      rw [kneg (by rw [h, h0]; exact kn_zero)]
      unfold mName
      rw [if_pos nl]
      trivial
    · have L1 : 1 ≤ lw len b s.1 := by omega
      have all : ∀ j, j < lw len b s.1 → isLo (tv len b (s.1 + j)) := lw_all (tv len b) _ _
      have il : isLo (tv len b s.1) := all 0 L1
      rcases op_kn L1 all 19 0 (by decide) with ⟨q1, q2⟩ | ⟨q1, q2⟩
      · rw [kneg (by rw [h]; exact q1)]
        unfold mName
        rw [if_neg (fun z => z il), if_pos q2]
        trivial
      · rcases knF_ok (tv len b) s.1 (lw len b s.1) 19 0 (by decide) with w | ⟨k, hk, w, _, _⟩
        · exact absurd w q1
        · unfold sName mName
          have n1 : ¬ nI k < 0 := by
            rw [Int32.lt_iff_toInt_lt, nI_toInt (by omega)]
            have : (0 : Int32).toInt = 0 := rfl
            omega
          have n4 : ¬ nI k = -4 := by
            intro z
            rw [z] at n1
            exact n1 (by decide)
          rw [h, q2, w, if_neg n1]
          have il2 : ¬ ¬ isLo (tv len b s.1) := fun z => z il
          rw [if_neg il2, if_neg n4]
          by_cases htm : tm = true
          · rw [if_pos htm, if_pos (ht.mp htm)]; trivial
          · rw [if_neg htm, if_neg (fun z => htm (ht.mpr z))]
            exact rfl
  · have h1 : lw len b s.1 < wl len b s.1 := h1
    have h2 : isUp (tv len b (s.1 + lw len b s.1)) := h2
    have nl : ¬ isLo (tv len b (s.1 + lw len b s.1)) := fun z => absurd (Int32.le_trans z.1 h2.2) (by decide)
    rw [kneg (kn_up h1 nl)]
    cases hM : mName len b tp s.1 with
    | none => trivial
    | some z =>
      have := (mName_ok hM).2.1
      show bad (tv len b z.2)
      rw [this]
      exact Or.inl h2
theorem tvn {len : Nat} {b : Nat → Int32} (hB : BY len b) (p : Nat) : tv len b p = -1 ∨ ∃ n, n < 256 ∧ tv len b p = nI n := by
  unfold tv
  by_cases h : p < len
  · rw [if_pos h]
    obtain ⟨h1, h2⟩ := hB p h
    refine Or.inr ⟨(b p).toInt.toNat, by omega, ?_⟩
    rw [← Int32.toInt_inj, nI_toInt (by omega)]
    omega
  · rw [if_neg h]; exact Or.inl rfl
theorem r97 : ∀ n, n < 256 → ((nI n - 97 < 0 ∨ 4 ≤ nI n - 97) ↔ ¬ (97 ≤ nI n ∧ nI n ≤ 97 + 4 - 1)) := by decide +kernel
theorem r112 : ∀ n, n < 256 → ((nI n - 112 < 0 ∨ 4 ≤ nI n - 112) ↔ ¬ (112 ≤ nI n ∧ nI n ≤ 112 + 4 - 1)) := by decide +kernel
theorem r105 : ∀ n, n < 256 → ((nI n - 105 < 0 ∨ 3 ≤ nI n - 105) ↔ ¬ (105 ≤ nI n ∧ nI n ≤ 105 + 3 - 1)) := by decide +kernel
section AG1
variable {len : Nat} {b : Nat → Int32}
theorem t97 (hB : BY len b) (p : Nat) : (tv len b p - 97 < 0 ∨ 4 ≤ tv len b p - 97) ↔ ¬ (97 ≤ tv len b p ∧ tv len b p ≤ 97 + 4 - 1) := by
  rcases tvn hB p with h | ⟨n, hn, h⟩
  · rw [h]; decide
  · rw [h]; exact r97 n hn
theorem t112 (hB : BY len b) (p : Nat) : (tv len b p - 112 < 0 ∨ 4 ≤ tv len b p - 112) ↔ ¬ (112 ≤ tv len b p ∧ tv len b p ≤ 112 + 4 - 1) := by
  rcases tvn hB p with h | ⟨n, hn, h⟩
  · rw [h]; decide
  · rw [h]; exact r112 n hn
theorem t105 (hB : BY len b) (p : Nat) : (tv len b p - 105 < 0 ∨ 3 ≤ tv len b p - 105) ↔ ¬ (105 ≤ tv len b p ∧ tv len b p ≤ 105 + 3 - 1) := by
  rcases tvn hB p with h | ⟨n, hn, h⟩
  · rw [h]; decide
  · rw [h]; exact r105 n hn
end AG1
theorem bad_gapS {len : Nat} {b : Nat → Int32} {s : jPS} (h : bad (tv len b s.1)) : sGap len b s = none := if_neg (bad_ne h).1
theorem bad_gapM {len : Nat} {b : Nat → Int32} {p : Nat} (h : bad (tv len b p)) : mGap len b p = none := if_neg (bad_ne h).1
theorem gap_same {len : Nat} {b : Nat → Int32} {s : jPS} : sGap len b s = (mGap len b s.1).map (fun p => (p, s.2)) := by
  unfold sGap mGap
  by_cases h : tv len b s.1 = 32
  · rw [if_pos h, if_pos h]; rfl
  · rw [if_neg h, if_neg h]; rfl
theorem bad_sRegs {len m : Nat} {b : Nat → Int32} {f j : Nat} {s : jPS} (h : bad (tv len b s.1)) : sRegs len b m f j s = none ∨ ∃ s', sRegs len b m f j s = some s' ∧ s'.1 = s.1 := by
  cases f with
  | zero => exact Or.inr ⟨s, rfl, rfl⟩
  | succ f => refine Or.inl ?_; unfold sRegs; rw [bad_gapS h]; rfl
theorem bad_sNum {len m W k : Nat} {b : Nat → Int32} {s : jPS} (h : bad (tv len b s.1)) : sNum len b m W k s = none ∨ ∃ s', sNum len b m W k s = some s' ∧ s'.1 = s.1 := by
  unfold sNum
  by_cases hn : numN k = true
  · rw [if_pos hn, bad_gapS h]; exact Or.inl rfl
  · rw [if_neg hn]; exact Or.inr ⟨s, rfl, rfl⟩
