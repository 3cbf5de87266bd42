/-! the fresh objects: both constructors run; rule() and program() on them run -/
def jok (r : jr) (v : Option Int32) : Bool := match r, v with
  | some (none, _), none => true
  | some (some (.int x), _), some y => decide (x = y)
  | _, _ => false
def jend (r : jr) : jS := (r.map Prod.snd).getD jτ0
theorem jok_n {r : jr} (h : jok r none = true) : r = some (none, jend r) := by
  match r, h with
  | some (none, s), _ => rfl
theorem jok_i {r : jr} {y : Int32} (h : jok r (some y) = true) : r = some (some (.int y), jend r) := by
  match r, h with
  | some (some (.int x), s), h => rw [of_decide_eq_true h]; rfl
def jc1 : jr := jrn 400 11 1 0 [some (.ref 16)] [] (jnO jτ0 9 14)
def jσ1 : jS := jend jc1
def jc2 : jr := jrn 700 11 120 0 [some (.ref 47)] [] (jnO jσ1 10 43)
def jσ2 : jS := jend jc2
theorem jc1_ok : (jok jc1 none && decide (jnx jσ1 = 47)) = true := by decide +kernel
theorem jc2_ok : jok jc2 none = true := by decide +kernel
def jsz (σ : jS) : Bool := decide (jnx σ ≤ 1000) && decide (jsl σ ≤ 10000)
/-- what is known of the fresh class, of the fresh reference -/
def jfx (σ : jS) : Prop := jT σ 16 = 10 ∧ jI σ 585 16 = 0 ∧ jI σ 586 16 = 0 ∧ jI σ 587 16 = 2 ∧ jI σ 588 16 = 0 ∧ jI σ 589 16 = -4 ∧ jR σ 577 16 = some 18 ∧ jT σ 18 = 8 ∧ jI σ 449 18 = 0 ∧ jR σ 448 18 = some 19 ∧ jT σ 19 = 21 ∧ jN σ 19 = 400 ∧ jR σ 582 16 = some 43 ∧ jT σ 43 = 7 ∧ jI σ 385 43 = 0
def jfm (σ : jS) : Prop := jT σ 47 = 11 ∧ jI σ 640 47 = 2 ∧ jI σ 642 47 = 0 ∧ jI σ 644 47 = 0 ∧ jI σ 660 47 = 0 ∧ jI σ 667 47 = 0 ∧ jI σ 678 47 = 0 ∧ jI σ 682 47 = -4 ∧ jR σ 641 47 = some 48 ∧ jT σ 48 = 20 ∧ jN σ 48 = 400
def jfy (σ : jS) : Prop := jT σ 17 = 4 ∧ jR σ 576 16 = some 17 ∧ jR σ 194 17 = some 18 ∧ jR σ 195 17 = some 20 ∧ jR σ 196 17 = some 22 ∧ jT σ 20 = 2 ∧ jT σ 22 = 2 ∧ jR σ 64 20 = some 21 ∧ jR σ 64 22 = some 23 ∧ jT σ 21 = 20 ∧ jN σ 21 = 4 ∧ jT σ 23 = 20 ∧ jN σ 23 = 3 ∧ jR σ 583 16 = some 45 ∧ jT σ 45 = 35 ∧ jN σ 45 = 24 ∧ jG σ 45 0 = none ∧ jR σ 584 16 = some 46 ∧ jT σ 46 = 34 ∧ jN σ 46 = 16 ∧ jG σ 46 0 = none
def jfn (σ : jS) : Prop := jR σ 645 47 = some 50 ∧ jT σ 50 = 20 ∧ jN σ 50 = 48 ∧ jR σ 651 47 = some 56 ∧ jT σ 56 = 20 ∧ jN σ 56 = 24 ∧ jR σ 652 47 = some 57 ∧ jT σ 57 = 20 ∧ jN σ 57 = 24 ∧ jR σ 654 47 = some 59 ∧ jT σ 59 = 22 ∧ jN σ 59 = 24 ∧ jR σ 661 47 = some 65 ∧ jT σ 65 = 20 ∧ jN σ 65 = 16
theorem jσ2_f : (decide (jT jσ2 16 = 10) && decide (jI jσ2 585 16 = 0) && decide (jI jσ2 586 16 = 0) && decide (jI jσ2 587 16 = 2) && decide (jI jσ2 588 16 = 0) && decide (jI jσ2 589 16 = -4) && decide (jR jσ2 577 16 = some 18) && decide (jT jσ2 18 = 8) && decide (jI jσ2 449 18 = 0) && decide (jR jσ2 448 18 = some 19) && decide (jT jσ2 19 = 21) && decide (jN jσ2 19 = 400) && decide (jR jσ2 582 16 = some 43) && decide (jT jσ2 43 = 7) && decide (jI jσ2 385 43 = 0)
    && decide (jT jσ2 47 = 11) && decide (jI jσ2 640 47 = 2) && decide (jI jσ2 642 47 = 0) && decide (jI jσ2 644 47 = 0) && decide (jI jσ2 660 47 = 0) && decide (jI jσ2 667 47 = 0) && decide (jI jσ2 678 47 = 0) && decide (jI jσ2 682 47 = -4) && decide (jR jσ2 641 47 = some 48) && decide (jT jσ2 48 = 20) && decide (jN jσ2 48 = 400) && decide (jT jσ2 0 = 0) && decide (0 < jnx jσ2) && jsz jσ2
    && decide (jT jσ2 17 = 4) && decide (jR jσ2 576 16 = some 17) && decide (jR jσ2 194 17 = some 18) && decide (jR jσ2 195 17 = some 20) && decide (jR jσ2 196 17 = some 22) && decide (jT jσ2 20 = 2) && decide (jT jσ2 22 = 2) && decide (jR jσ2 64 20 = some 21) && decide (jR jσ2 64 22 = some 23) && decide (jT jσ2 21 = 20) && decide (jN jσ2 21 = 4) && decide (jT jσ2 23 = 20) && decide (jN jσ2 23 = 3) && decide (jR jσ2 583 16 = some 45) && decide (jT jσ2 45 = 35) && decide (jN jσ2 45 = 24) && decide (jG jσ2 45 0 = none) && decide (jR jσ2 584 16 = some 46) && decide (jT jσ2 46 = 34) && decide (jN jσ2 46 = 16) && decide (jG jσ2 46 0 = none)
    && decide (jR jσ2 645 47 = some 50) && decide (jT jσ2 50 = 20) && decide (jN jσ2 50 = 48) && decide (jR jσ2 651 47 = some 56) && decide (jT jσ2 56 = 20) && decide (jN jσ2 56 = 24) && decide (jR jσ2 652 47 = some 57) && decide (jT jσ2 57 = 20) && decide (jN jσ2 57 = 24) && decide (jR jσ2 654 47 = some 59) && decide (jT jσ2 59 = 22) && decide (jN jσ2 59 = 24) && decide (jR jσ2 661 47 = some 65) && decide (jT jσ2 65 = 20) && decide (jN jσ2 65 = 16) && decide (jnx jσ2 = 81)) = true := by decide +kernel
theorem jσ2_p : jfx jσ2 ∧ jfm jσ2 ∧ jOK jσ2 ∧ jsz jσ2 = true ∧ jfy jσ2 ∧ jfn jσ2 ∧ jnx jσ2 = 81 := by
  have h := jσ2_f
  simp only [Bool.and_eq_true, decide_eq_true_eq] at h
  simp only [jfx, jfm, jOK, jfy, jfn, h, and_self]
  exact ⟨trivial, trivial, ⟨trivial, by decide⟩, trivial⟩
/-- the same beside the script -/
theorem jX_f {N : Nat} {X : Nat → Int32} {τ : jS} : (jfx τ → jfx (jX0 N X τ)) ∧ (jfm τ → jfm (jX0 N X τ)) ∧ (jfy τ → jfy (jX0 N X τ)) ∧ (jfn τ → jfn (jX0 N X τ)) ∧ jnx (jX0 N X τ) = jnx τ ∧ jsl (jX0 N X τ) = jsl τ ∧ jT (jX0 N X τ) 0 = 60 ∧ jN (jX0 N X τ) 0 = N := ⟨fun h => h, fun h => h, fun h => h, fun h => h, rfl, rfl, rfl, rfl⟩
theorem jX_at {N : Nat} {X : Nat → Int32} {τ : jS} (i : Nat) : jA (jX0 N X τ) 0 i = X i := rfl
theorem jX_go {N : Nat} {X : Nat → Int32} {τ τ' : jS} {f d M : Nat} {L : jL} {v : Option Value} (h0 : jOK τ) (h : jrn f d M 0 L [] τ = some (v, τ')) : jx d M 0 L [] (jX0 N X τ) = some (v, jX0 N X τ') ∧ jOK τ' := by
  have h1 := jX_run (N := N) (X := X) f d M 0 L [] τ (v, τ') h0 h
  exact ⟨jx_of h1.1, h1.2⟩
