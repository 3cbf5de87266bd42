/-! the fresh objects: both constructors run; rule() and program() on them run -/
def jok (r : jr) (v : Option Int32) : Bool := match r, v with
  | some (none, _), none => true
  | some (some (.int x), _), some y => decide (x = y)
  | _, _ => false
def jend (r : jr) : jS := (r.map Prod.snd).getD jτ0
theorem jok_n {r : jr} (h : jok r none = true) : r = some (none, jend r) := by
  match r, h with
  | some (none, s), _ => rfl
theorem jok_i {r : jr} {y : Int32} (h : jok r (some y) = true) : r = some (some (.int y), jend r) := by
  match r, h with
  | some (some (.int x), s), h => rw [of_decide_eq_true h]; rfl
def jc1 : jr := jrn 400 11 1 0 [some (.ref 16)] [] (jnO jτ0 9 14)
def jσ1 : jS := jend jc1
def jc2 : jr := jrn 700 11 120 0 [some (.ref 47)] [] (jnO jσ1 10 43)
def jσ2 : jS := jend jc2
theorem jc1_ok : (jok jc1 none && decide (jnx jσ1 = 47)) = true := by decide +kernel
theorem jc2_ok : jok jc2 none = true := by decide +kernel
def jsz (σ : jS) : Bool := decide (jnx σ ≤ 1000) && decide (jsl σ ≤ 10000)
/-- what is known of the fresh class, of the fresh reference -/
def jfx (σ : jS) : Prop := jT σ 16 = 10 ∧ jI σ 585 16 = 0 ∧ jI σ 586 16 = 0 ∧ jI σ 587 16 = 2 ∧ jI σ 588 16 = 0 ∧ jI σ 589 16 = -4 ∧ jR σ 577 16 = some 18 ∧ jT σ 18 = 8 ∧ jI σ 449 18 = 0 ∧ jR σ 448 18 = some 19 ∧ jT σ 19 = 21 ∧ jN σ 19 = 400 ∧ jR σ 582 16 = some 43 ∧ jT σ 43 = 7 ∧ jI σ 385 43 = 0
def jfm (σ : jS) : Prop := jT σ 47 = 11 ∧ jI σ 640 47 = 2 ∧ jI σ 642 47 = 0 ∧ jI σ 644 47 = 0 ∧ jI σ 660 47 = 0 ∧ jI σ 667 47 = 0 ∧ jI σ 678 47 = 0 ∧ jI σ 682 47 = -4 ∧ jR σ 641 47 = some 48 ∧ jT σ 48 = 20 ∧ jN σ 48 = 400
theorem jσ2_f : (decide (jT jσ2 16 = 10) && decide (jI jσ2 585 16 = 0) && decide (jI jσ2 586 16 = 0) && decide (jI jσ2 587 16 = 2) && decide (jI jσ2 588 16 = 0) && decide (jI jσ2 589 16 = -4) && decide (jR jσ2 577 16 = some 18) && decide (jT jσ2 18 = 8) && decide (jI jσ2 449 18 = 0) && decide (jR jσ2 448 18 = some 19) && decide (jT jσ2 19 = 21) && decide (jN jσ2 19 = 400) && decide (jR jσ2 582 16 = some 43) && decide (jT jσ2 43 = 7) && decide (jI jσ2 385 43 = 0)
    && decide (jT jσ2 47 = 11) && decide (jI jσ2 640 47 = 2) && decide (jI jσ2 642 47 = 0) && decide (jI jσ2 644 47 = 0) && decide (jI jσ2 660 47 = 0) && decide (jI jσ2 667 47 = 0) && decide (jI jσ2 678 47 = 0) && decide (jI jσ2 682 47 = -4) && decide (jR jσ2 641 47 = some 48) && decide (jT jσ2 48 = 20) && decide (jN jσ2 48 = 400) && decide (jT jσ2 0 = 0) && decide (0 < jnx jσ2) && jsz jσ2) = true := by decide +kernel
theorem jσ2_p : jfx jσ2 ∧ jfm jσ2 ∧ jOK jσ2 ∧ jsz jσ2 = true := by
  have h := jσ2_f
  simp only [Bool.and_eq_true, decide_eq_true_eq] at h
  simp only [jfx, jfm, jOK, h, and_self]
/-- the same beside the script -/
theorem jX_f {N : Nat} {X : Nat → Int32} {τ : jS} : (jfx τ → jfx (jX0 N X τ)) ∧ (jfm τ → jfm (jX0 N X τ)) ∧ jnx (jX0 N X τ) = jnx τ ∧ jsl (jX0 N X τ) = jsl τ ∧ jT (jX0 N X τ) 0 = 60 ∧ jN (jX0 N X τ) 0 = N := ⟨fun h => h, fun h => h, rfl, rfl, rfl, rfl⟩
theorem jX_at {N : Nat} {X : Nat → Int32} {τ : jS} (i : Nat) : jA (jX0 N X τ) 0 i = X i := rfl
theorem jX_go {N : Nat} {X : Nat → Int32} {τ τ' : jS} {f d M : Nat} {L : jL} {v : Option Value} (h0 : jOK τ) (h : jrn f d M 0 L [] τ = some (v, τ')) : jx d M 0 L [] (jX0 N X τ) = some (v, jX0 N X τ') ∧ jOK τ' := by
  have h1 := jX_run (N := N) (X := X) f d M 0 L [] τ (v, τ') h0 h
  exact ⟨jx_of h1.1, h1.2⟩
