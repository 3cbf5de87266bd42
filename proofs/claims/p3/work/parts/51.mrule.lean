/-! the reference's reader: a side and a rule whole -/
def mSide (len : Nat) (b : Nat → Int32) (W sd : Nat) : Nat → Nat → jPS → (Nat → Int32) → Option (List (Nat → Int32) × jPS × (Nat → Int32))
  | 0, _, _, _ => none
  | f + 1, n, s, rg => (mOrdS len b W sd n s rg).bind (fun y => if tv len b (sk len b y.1.1) = 59 then (mSide len b W sd f (n + 1) (sk len b (sk len b y.1.1 + 1), y.1.2) y.2).map (fun z => (y.1.2.2.2 :: z.1, z.2)) else some ([y.1.2.2.2], (sk len b y.1.1, y.1.2), y.2))
def celO (o : Nat → Int32) : Bool := celN (o 0).toNatClampNeg
theorem MO.fr {σ σ' : jS} {l : List Nat} {k : Nat} {o : Nat → Int32} (h : MO σ k o) (f : FR l σ σ') (hl : ∀ a, 51 ≤ a → a ≤ 55 → a ∉ l) : MO σ' k o := by
  obtain ⟨h1, h2, h3, h4, h5⟩ := h
  have e := fun a (x : 51 ≤ a) (y : a ≤ 55) => (f.2 a (hl a x y)).2
  exact ⟨by rw [e 51 (by decide) (by decide)]; exact h1, fun j hj => by rw [e 52 (by decide) (by decide)]; exact h2 j hj, fun hn => (h3 hn).frame (e 53 (by decide) (by decide) _) (e 54 (by decide) (by decide) _), by rw [e 55 (by decide) (by decide)]; exact h4, fun hn => (h5 hn).frame (e 53 (by decide) (by decide) _) (e 54 (by decide) (by decide) _)⟩
section MU1
variable {d : Nat} {len W : Nat} {b : Nat → Int32}
theorem c131o {r : Nat} (hr : r < 24) {sd : Nat} (hsd : sd = 0 ∨ sd = 1) : ∀ (f n : Nat) (s : jPS) (rg : Nat → Int32) (hc : Bool) (σ : jS) (x5 x6 x7 x8 : Option Value), n + f = 5 → 1 ≤ f → 81 ≤ jnx σ → rdA σ W len b s.1 → rdB σ r s.2.1 → rdC σ r s.2.2.1 rg → (jA σ 59 r = if hc = true then 1 else 0) →
    ∃ σ' n', jx (d + 4) 131 24 [some (.ref 47), some (.int (nI r)), some (.int (nI sd)), some (.int (nI n)), some (.int 1), x5, x6, x7, x8] [] σ = some (some (.int (nI n')), σ') ∧ PF (RG r (8 * r + 4 * sd + n) (8 * r + 4 * sd + 5)) σ σ' ∧ jnx σ' = jnx σ ∧ jsl σ' = jsl σ ∧ (match mSide len b W sd f n s rg with
      | some z => n' = n + z.1.length ∧ n' ≤ 4 ∧ rdA σ' W len b z.2.1.1 ∧ rdB σ' r z.2.1.2.1 ∧ rdC σ' r z.2.1.2.2.1 z.2.2 ∧ (jA σ' 59 r = if (hc || z.1.any celO) = true then 1 else 0) ∧ ∀ i, i < z.1.length → MO σ' (8 * r + 4 * sd + n + i) (z.1.getD i (fun _ => 0))
      | none => ¬ jI σ' 667 47 = 0) := by
  intro f
  induction f with
  | zero => intro n s rg hc σ x5 x6 x7 x8 _ h; exact absurd h (by decide)
  | succ f ih =>
    intro n s rg hc σ x5 x6 x7 x8 hn _ hx hA hB hC h59
    obtain ⟨σ1, F1, nx1, sl1, k59, r1⟩ := c131a (d := d) hx hA hr hB hC hsd (n := n) (by omega) (x5 := x5) (x6 := x6) (x7 := x7) (x8 := x8)
    have G1 : PF (RG r (8 * r + 4 * sd + n) (8 * r + 4 * sd + 5)) σ σ1 := F1.mono (fun a i z => z.wide (Nat.le_refl _) (by omega))
    unfold mSide
    cases hO : mOrdS len b W sd n s rg with
    | none =>
      rw [hO] at r1
      exact ⟨σ1, n, r1.1, G1, nx1, sl1, r1.2⟩
    | some y =>
      rw [hO] at r1
      obtain ⟨⟨op, v7, v8, ho, y0, hn4, e1⟩, hA1, hB1, hC1, hM1⟩ := r1
      obtain ⟨x4, e2, ex4⟩ := c131e (d := d) hA1 (op := op) (n := n) (k := 8 * r + 4 * sd + n) hr ho (sd := sd) (hc := hc) (by rw [k59]; exact h59) (x7 := v7) (x8 := v8)
      obtain ⟨σ2, eσ2⟩ : ∃ σ2, jsI (jsA σ1 59 r (if (hc || celN op) = true then 1 else 0)) 666 47 (nI (if tv len b (sk len b y.1.1) = 59 then sk len b (sk len b y.1.1 + 1) else sk len b y.1.1)) = σ2 := ⟨_, rfl⟩
      rw [eσ2] at e2
      have f2 : FR [47, 59] σ1 σ2 := eσ2 ▸ ((FR.refl _ σ1).A (q := 59) (by decide)).I (by decide)
      have g2 : ∀ g, g ≠ 666 → g ≠ 667 → g ≠ 668 → jI σ2 g 47 = jI σ1 g 47 := fun g x y z => by rw [← eσ2, zI_I, if_neg (fun q => x q.1), zA_I]
      have G2 : PF (RG r (8 * r + 4 * sd + n) (8 * r + 4 * sd + 5)) σ σ2 := by
        rw [← eσ2]
        exact (G1.A (Or.inl (Or.inl ⟨Or.inr (Or.inr rfl), rfl⟩))).I (Or.inl rfl)
      have z2 : jI σ2 667 47 = 0 := by rw [← eσ2, zI_I, if_neg (by decide), zA_I]; exact hA1.2.2.2.2.2.1
      have a2 : jI σ2 666 47 = nI (if tv len b (sk len b y.1.1) = 59 then sk len b (sk len b y.1.1 + 1) else sk len b y.1.1) := by rw [← eσ2, zI_I, if_pos ⟨rfl, rfl⟩]
      have q59 : jA σ2 59 r = if (hc || celN op) = true then 1 else 0 := by rw [← eσ2, zI_A, zA_A, if_pos ⟨rfl, rfl⟩]
      have nx2 : jnx σ2 = jnx σ := by rw [f2.1.2.2.2.2.1]; exact nx1
      have sl2 : jsl σ2 = jsl σ := by rw [f2.1.2.2.2.2.2]; exact sl1
      have hB2 : rdB σ2 r y.1.2.1 := hB1.frame f2 (by decide) (by decide)
      have hC2 : rdC σ2 r y.1.2.2.1 y.2 := hC1.frame f2 (by decide) (by decide) (by decide)
      have hM2 : MO σ2 (8 * r + 4 * sd + n) y.1.2.2.2 := hM1.fr f2 (fun a h1 h2 => by simp; omega)
      have hp1 := hA1.2.2.2.1
      have pk := sk_le (b := b) hp1
      have co : celO y.1.2.2.2 = celN op := by unfold celO; rw [y0, nI_clamp (by omega)]
      rw [Option.bind_some]
      by_cases h : tv len b (sk len b y.1.1) = 59
      · rw [if_pos h] at a2 ex4 ⊢
        have plt : sk len b y.1.1 < len := tv_lit h (by decide)
        have pk2 := sk_le (b := b) (p := sk len b y.1.1 + 1) plt
        have hA2 : rdA σ2 W len b (sk len b (sk len b y.1.1 + 1)) := hA1.frame f2 g2 (by decide) (by decide) pk2.2 a2 z2
        obtain ⟨σ3, n', e3, F3, nx3, sl3, r3⟩ := ih (n + 1) (sk len b (sk len b y.1.1 + 1), y.1.2) y.2 (hc || celN op) σ2 (some (.int (nI op))) (some (.int (nI (8 * r + 4 * sd + n)))) v7 v8 (by omega) (by omega) (by omega) hA2 hB2 hC2 q59
        refine ⟨σ3, n', by rw [e1, e2, ex4]; exact e3, G2.trans (F3.mono (fun a i z => z.wide (by omega) (Nat.le_refl _))), by omega, by omega, ?_⟩
        cases hR : mSide len b W sd f (n + 1) (sk len b (sk len b y.1.1 + 1), y.1.2) y.2 with
        | none => rw [hR] at r3; exact r3
        | some z =>
          rw [hR] at r3
          obtain ⟨q1, q2, q3, q4, q5, q6, q7⟩ := r3
          refine ⟨by show n' = n + (z.1.length + 1); omega, q2, q3, q4, q5, ?_, fun i hi => ?_⟩
          · rw [q6]
            show _ = if (hc || (celO y.1.2.2.2 || z.1.any celO)) = true then _ else _
            rw [co, Bool.or_assoc]
          · cases i with
            | zero => exact hM2.frame F3 (by omega) (by omega)
            | succ i =>
              have := q7 i (by have : i + 1 < z.1.length + 1 := hi; omega)
              rw [show 8 * r + 4 * sd + n + (i + 1) = 8 * r + 4 * sd + (n + 1) + i by omega]
              exact this
      · rw [if_neg h] at a2 ex4 ⊢
        have hA2 : rdA σ2 W len b (sk len b y.1.1) := hA1.frame f2 g2 (by decide) (by decide) pk.2 a2 z2
        refine ⟨σ2, n + 1, by rw [e1, e2, ex4, k131_24, if_pos rfl, k131_317], G2, nx2, sl2, rfl, by omega, hA2, hB2, hC2, ?_, fun i hi => ?_⟩
        · rw [q59]
          show _ = if (hc || (celO y.1.2.2.2 || false)) = true then _ else _
          rw [co, Bool.or_false]
        · have i0 : i = 0 := by have : i < 1 := hi; omega
          subst i0
          exact hM2
def mSideR (len : Nat) (b : Nat → Int32) (W sd : Nat) (s : jPS) (rg : Nat → Int32) : Option (List (Nat → Int32) × jPS × (Nat → Int32)) := if sd = 1 ∧ len ≤ s.1 then some ([], s, rg) else mSide len b W sd 5 0 s rg
theorem c131 {r : Nat} (hr : r < 24) {sd : Nat} (hsd : sd = 0 ∨ sd = 1) (s : jPS) (rg : Nat → Int32) (hc : Bool) (σ : jS) (hx : 81 ≤ jnx σ) (hA : rdA σ W len b s.1) (hB : rdB σ r s.2.1) (hC : rdC σ r s.2.2.1 rg) (h59 : jA σ 59 r = if hc = true then 1 else 0) :
    ∃ σ' n', jx (d + 4) 131 0 [some (.ref 47), some (.int (nI r)), some (.int (nI sd)), none, none, none, none, none, none] [] σ = some (some (.int (nI n')), σ') ∧ PF (RG r (8 * r + 4 * sd) (8 * r + 4 * sd + 5)) σ σ' ∧ jnx σ' = jnx σ ∧ jsl σ' = jsl σ ∧ (match mSideR len b W sd s rg with
      | some z => n' = z.1.length ∧ n' ≤ 4 ∧ rdA σ' W len b z.2.1.1 ∧ rdB σ' r z.2.1.2.1 ∧ rdC σ' r z.2.1.2.2.1 z.2.2 ∧ (jA σ' 59 r = if (hc || z.1.any celO) = true then 1 else 0) ∧ ∀ i, i < z.1.length → MO σ' (8 * r + 4 * sd + i) (z.1.getD i (fun _ => 0))
      | none => ¬ jI σ' 667 47 = 0) := by
  have hl : len ≤ 400 := hA.2.2.1.2.1
  have hp := hA.2.2.2.1
  obtain ⟨σ', n', e, F, nx, sl, q⟩ := c131o (d := d) (len := len) (W := W) (b := b) hr hsd 5 0 s rg hc σ none none none none rfl (by decide) hx hA hB hC h59
  have go : ¬ (sd = 1 ∧ len ≤ s.1) → jx (d + 4) 131 0 [some (.ref 47), some (.int (nI r)), some (.int (nI sd)), none, none, none, none, none, none] [] σ = jx (d + 4) 131 24 [some (.ref 47), some (.int (nI r)), some (.int (nI sd)), some (.int (nI 0)), some (.int 1), none, none, none, none] [] σ := by
    intro h
    rcases hsd with h0 | h0
    · subst h0
      rw [k131_0, if_pos (show nI 0 = 0 from rfl), k131_17]; rfl
    · subst h0
      have h2 : ¬ nI len ≤ nI s.1 := nI_ge (by omega) (by omega)
      rw [k131_0, if_neg (by decide), k131_6 (sT_47 hA.1), hA.2.2.1.1, hA.2.2.2.2.1, if_neg h2, k131_17]; rfl
  unfold mSideR
  by_cases h : sd = 1 ∧ len ≤ s.1
  · rw [if_pos h]
    have h1 := h.1
    subst h1
    have h2 : nI len ≤ nI s.1 := nI_le h.2 (by omega)
    refine ⟨σ, 0, ?_, PF.refl _ σ, rfl, rfl, rfl, by decide, hA, hB, hC, ?_, fun i hi => absurd hi (Nat.not_lt_zero i)⟩
    · rw [k131_0, if_neg (by decide), k131_6 (sT_47 hA.1), hA.2.2.1.1, hA.2.2.2.2.1, if_pos h2, k131_21, k131_24, if_pos rfl, k131_317]
      rfl
    · rw [h59, List.any_nil, Bool.or_false]
  · rw [if_neg h]
    refine ⟨σ', n', (go h).trans e, F, nx, sl, ?_⟩
    cases hR : mSide len b W sd 5 0 s rg with
    | none => rw [hR] at q; exact q
    | some z =>
      rw [hR] at q
      obtain ⟨q1, q2⟩ := q
      exact ⟨by rw [q1, Nat.zero_add], q2⟩
end MU1
