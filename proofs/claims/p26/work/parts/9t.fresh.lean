/-! the fresh objects -/
def jend (r : jr) : jS := (r.map Prod.snd).getD (jτ0 none)
def jokn (r : jr) : Bool := match r with
  | some (none, _) => true
  | _ => false
theorem jok_n {r : jr} (h : jokn r = true) : r = some (none, jend r) := by
  match r, h with
  | some (none, s), _ => rfl
def jc1 (z : Option Nat) : jr := jrn 400 11 1 0 [some (.ref 16)] [] (jnO (jτ0 z) 9 14)
def jσ1 (z : Option Nat) : jS := jend (jc1 z)
def jc2 (z : Option Nat) : jr := jrn 700 11 120 0 [some (.ref 47)] [] (jnO (jσ1 z) 10 43)
def jσ2 (z : Option Nat) : jS := jend (jc2 z)
def frI : List (Nat × Nat × Int32) := [(585, 16, 0), (586, 16, 0), (587, 16, 2), (589, 16, -4), (449, 18, 0), (385, 43, 0), (256, 30, 4), (257, 30, 0), (256, 32, 4), (257, 32, 0), (256, 41, 4), (257, 41, 0), (644, 47, 0), (660, 47, 0), (640, 47, 2), (682, 47, -4), (642, 47, 0), (678, 47, 0)]
def frC (σ : jS) : Bool := (decide (jnx σ = 81) && (decide (jsl σ ≤ 10000) && (shT.all (fun p => decide (jT σ p.1 = p.2)) && (shN.all (fun p => decide (jN σ p.1 = p.2)) && (shR.all (fun p => decide (jR σ p.1.1 p.1.2 = some p.2)) && (frI.all (fun p => decide (jI σ p.1 p.2.1 = p.2.2)) && ((List.range 19).all (fun i => decide (jA σ 1 i = nI (regN i)) && (decide (jA σ 2 i = nI (priN i)) && decide (jA σ 70 i = nmv i))) && ((List.range 24).all (fun i => decide (jG σ 45 i = none)) && (List.range 16).all (fun i => decide (jG σ 46 i = none))))))))))
theorem jc1_ok0 : (jokn (jc1 none) && decide (jnx (jσ1 none) = 47)) = true := by decide +kernel
theorem jc1_ok5 : (jokn (jc1 (some 5)) && decide (jnx (jσ1 (some 5)) = 47)) = true := by decide +kernel
theorem jc2_ok0 : (jokn (jc2 none) && frC (jσ2 none)) = true := by decide +kernel
theorem jc2_ok5 : (jokn (jc2 (some 5)) && frC (jσ2 (some 5))) = true := by decide +kernel
def s0 : AS := (2, 0, fun _ => 0, [], [], 0, fun _ _ => 0, -4)
theorem s0_wf : WFs s0 := ⟨Or.inr (Or.inl rfl), by decide, fun i hi => absurd hi (Nat.not_lt_zero i), by decide, by decide, fun a ha => (by cases ha), fun p hp => (by cases hp), by decide⟩
theorem fr_rel {τ : jS} (h : frC τ = true) (N : Nat) (X : Nat → Int32) : REL s0 0 0 (fun _ => 0) (fun _ => 0) (jX0 N X τ) ∧ jnx (jX0 N X τ) = 81 ∧ jsl (jX0 N X τ) ≤ 10000 ∧ jT (jX0 N X τ) 0 = 60 ∧ jN (jX0 N X τ) 0 = N := by
  unfold frC at h
  simp only [Bool.and_eq_true, decide_eq_true_eq, List.all_eq_true, List.mem_range] at h
  obtain ⟨h1, h2, h3, h4, h5, h6, h7, h8, h9⟩ := h
  have I : ∀ p, p ∈ frI → jI (jX0 N X τ) p.1 p.2.1 = p.2.2 := h6
  have A : ∀ a i, a ≠ 0 → jA (jX0 N X τ) a i = jA τ a i := fun a i ha => by
    show (if a = 0 then X i else jA τ a i) = _
    rw [if_neg ha]
  have hS : SH (jX0 N X τ) := by
    refine ⟨fun p hp => ?_, fun p hp => ?_, h5⟩
    · show (if p.1 = 0 then 60 else jT τ p.1) = _
      rw [if_neg ((by decide : ∀ p, p ∈ shT → ¬ p.1 = 0) p hp)]
      exact h3 p hp
    · show (if p.1 = 0 then N else jN τ p.1) = _
      rw [if_neg ((by decide : ∀ p, p ∈ shN → ¬ p.1 = 0) p hp)]
      exact h4 p hp
  refine ⟨⟨hS, ?_, s0_wf, ?_, ?_⟩, h1, h2, rfl, rfl⟩
  · show 81 ≤ jnx τ
    omega
  · refine ⟨⟨fun i hi => ?_, fun i hi => ?_⟩, I (585, 16, 0) (by decide), I (586, 16, 0) (by decide), I (587, 16, 2) (by decide), I (589, 16, -4) (by decide), ⟨I (449, 18, 0) (by decide), by decide, fun i hi => absurd hi (Nat.not_lt_zero i)⟩, I (385, 43, 0) (by decide), fun k w hk => absurd hk (Nat.not_lt_zero k), ?_, ?_, ?_, ⟨by decide, by decide⟩, ⟨by decide, by decide⟩, fun i hi => absurd hi (Nat.not_lt_zero i), fun i _ hi => h8 i hi, fun i hi => absurd hi (Nat.not_lt_zero i), fun i _ hi => h9 i hi, ⟨fun i hi => absurd hi (Nat.not_lt_zero i), fun i hi => absurd hi (Nat.not_lt_zero i), fun i j hi => absurd hi (Nat.not_lt_zero i), fun i j hi => absurd hi (Nat.not_lt_zero i), fun i j hi => absurd hi (Nat.not_lt_zero i)⟩, fun i hi => absurd hi (Nat.not_lt_zero i), fun i hi => absurd hi (Nat.not_lt_zero i)⟩
    · rw [A 1 i (by decide)]; exact (h7 i hi).1
    · rw [A 2 i (by decide)]; exact (h7 i hi).2.1
    · exact ⟨0, sT_30 hS, sR_258_30 hS, sT_31 hS, sN_31 hS, I (256, 30, 4) (by decide), I (257, 30, 0) (by decide), by decide, by decide⟩
    · exact ⟨0, sT_32 hS, sR_258_32 hS, sT_33 hS, sN_33 hS, I (256, 32, 4) (by decide), I (257, 32, 0) (by decide), by decide, by decide⟩
    · exact ⟨0, sT_41 hS, sR_258_41 hS, sT_42 hS, sN_42 hS, I (256, 41, 4) (by decide), I (257, 41, 0) (by decide), by decide, by decide⟩
  · exact ⟨fun i hi => by rw [A 70 i (by decide)]; exact (h7 i hi).2.2, I (644, 47, 0) (by decide), I (660, 47, 0) (by decide), I (640, 47, 2) (by decide), I (682, 47, -4) (by decide), ⟨I (642, 47, 0) (by decide), by decide, fun i hi => absurd hi (Nat.not_lt_zero i)⟩, I (678, 47, 0) (by decide), fun k w hk => absurd hk (Nat.not_lt_zero k), fun i hi => absurd hi (Nat.not_lt_zero i), fun i hi => absurd hi (Nat.not_lt_zero i)⟩
theorem jX_go {N : Nat} {X : Nat → Int32} {τ τ' : jS} {f d M : Nat} {L : jL} {v : Option Value} (h0 : jOK τ) (h : jrn f d M 0 L [] τ = some (v, τ')) : jx d M 0 L [] (jX0 N X τ) = some (v, jX0 N X τ') ∧ jOK τ' := by
  have h1 := jX_run (N := N) (X := X) f d M 0 L [] τ (v, τ') h0 h
  exact ⟨jx_of h1.1, h1.2⟩
