/-! a side written out: the class -/
def nmV (mv : Nat → Int32) (x : Int32) : Int32 := if x < 0 ∨ 3 ≤ x then -1 else mv x.toNatClampNeg
def rgV (rg : Nat → Int32) (x : Int32) : Int32 := if x < 0 ∨ 4 ≤ x then -1 else rg x.toNatClampNeg
def tvV (mv : Nat → Int32) (t : Int32) : Int32 := if 16 ≤ t then nmV mv (t - 16) else t
def smV (s a c : Int32) : Int32 := if s = 38 then a &&& c else if s = 43 then a + c else if s = 45 then a - c else if s = 94 then a ^^^ c else if s = 124 then a ||| c else a
def numC (W : Nat) (mv o : Nat → Int32) : Int32 := kptX W (opO o) (smV (o 4) (tvV mv (o 2)) (tvV mv (o 5)))
def wrO (W : Nat) (rg mv o : Nat → Int32) : Nat → Int32 := fun j => if j = 0 then o 0 else if j ≤ regN (opO o) then rgV rg (o j) else if j = 2 ∧ numN (opO o) = true then numC W mv o else 0
/-- the cells of a binding -/
def BD (σ : jS) (B br bn : Nat) : Prop := jT σ B = 1 ∧ jR σ 0 B = some br ∧ jR σ 1 B = some bn ∧ jT σ br = 20 ∧ jN σ br = 4 ∧ jT σ bn = 20 ∧ jN σ bn = 3
theorem BD.frame {σ σ' : jS} {l : List Nat} {B br bn : Nat} (h : BD σ B br bn) (f : FR l σ σ') : BD σ' B br bn := by
  obtain ⟨h1, h2, h3, h4, h5, h6, h7⟩ := h
  exact ⟨by rw [f.1.1]; exact h1, by rw [f.1.2.2.1]; exact h2, by rw [f.1.2.2.1]; exact h3, by rw [f.1.1]; exact h4, by rw [f.1.2.1]; exact h5, by rw [f.1.1]; exact h6, by rw [f.1.2.1]; exact h7⟩
section WOU
variable {d : Nat} {σ : jS}
theorem c66 {B br bn : Nat} (hB : BD σ B br bn) (x : Int32) : jx d 66 0 [some (.ref B), some (.int x)] [] σ = some (some (.int (nmV (jA σ bn) x)), σ) := by
  obtain ⟨h1, h2, h3, h4, h5, h6, h7⟩ := hB
  have rn : jR σ 1 B ≠ none := by rw [h3]; exact fun z => nomatch z
  have rg : (jR σ 1 B).getD 0 = bn := by rw [h3]; rfl
  unfold nmV
  rw [k66_0]
  by_cases a : x < 0
  · rw [if_pos a, k66_22, if_pos (Or.inl a)]
  · rw [if_neg a, k66_4 h1 rn (by rw [rg, h6]; decide), rg, h7]
    by_cases c : (3 : Int32) ≤ x
    · have c' : Int32.ofNat 3 ≤ x := c
      rw [if_pos c', k66_22, if_pos (Or.inr c)]
    · have c' : ¬ Int32.ofNat 3 ≤ x := c
      have q := i32_nat (c := x) (n := 3) (by decide) a c
      rw [if_neg c', k66_13 h1 rn (by rw [rg]; exact Or.inl h6) (by rw [rg, h7, q.1]; exact jin_n q.2 (by decide)), rg, if_neg (fun z => z.elim a c)]
theorem c64 {B br bn : Nat} (hB : BD σ B br bn) (x : Int32) : jx d 64 0 [some (.ref B), some (.int x)] [] σ = some (some (.int (rgV (jA σ br) x)), σ) := by
  obtain ⟨h1, h2, h3, h4, h5, h6, h7⟩ := hB
  have rn : jR σ 0 B ≠ none := by rw [h2]; exact fun z => nomatch z
  have rg : (jR σ 0 B).getD 0 = br := by rw [h2]; rfl
  unfold rgV
  rw [k64_0]
  by_cases a : x < 0
  · rw [if_pos a, k64_22, if_pos (Or.inl a)]
  · rw [if_neg a, k64_4 h1 rn (by rw [rg, h4]; decide), rg, h5]
    by_cases c : (4 : Int32) ≤ x
    · have c' : Int32.ofNat 4 ≤ x := c
      rw [if_pos c', k64_22, if_pos (Or.inr c)]
    · have c' : ¬ Int32.ofNat 4 ≤ x := c
      have q := i32_nat (c := x) (n := 4) (by decide) a c
      rw [if_neg c', k64_13 h1 rn (by rw [rg]; exact Or.inl h4) (by rw [rg, h5, q.1]; exact jin_n q.2 (by decide)), rg, if_neg (fun z => z.elim a c)]
theorem c65 {B br bn : Nat} (hB : BD σ B br bn) (t : Int32) : jx (d + 1) 65 0 [some (.ref B), some (.int t)] [] σ = some (some (.int (tvV (jA σ bn) t)), σ) := by
  unfold tvV
  rw [k65_0]
  by_cases a : (16 : Int32) ≤ t
  · rw [if_pos a, if_pos a, k65_10 hB.1, c66 hB]
    simp only [Option.bind_some, Option.toList_some, List.cons_append, List.nil_append]
    rw [k65_18]
  · rw [if_neg a, if_neg a, k65_6]
theorem c67 (a s c : Int32) : jx d 67 0 [some (.int a), some (.int s), some (.int c)] [] σ = some (some (.int (smV s a c)), σ) := by
  unfold smV
  rw [k67_0, jlk_0]
  by_cases h1 : s = 38
  · rw [if_pos h1, if_pos h1, k67_60]
  rw [if_neg h1, if_neg h1]
  by_cases h2 : s = 43
  · rw [if_pos h2, if_pos h2, k67_52]
  rw [if_neg h2, if_neg h2]
  by_cases h3 : s = 45
  · rw [if_pos h3, if_pos h3, k67_56]
  rw [if_neg h3, if_neg h3]
  by_cases h4 : s = 94
  · rw [if_pos h4, if_pos h4, k67_68]
  rw [if_neg h4, if_neg h4]
  by_cases h5 : s = 124
  · rw [if_pos h5, if_pos h5, k67_64]
  rw [if_neg h5, if_neg h5, k67_72]
theorem c63 {q a m n i j : Nat} (hR : RW σ q a m n) (hi : i < n) (hj : j < 6) (v : Int32) : jx (d + 1) 63 0 [some (.ref q), some (.int (nI i)), some (.int (nI j)), some (.int v)] [] σ = some (none, jsA σ a (6 * i + j) v) := by
  have hh := c52 (d := d) (σ := σ) (q := q) (a := a) (m := m) (os := List.replicate n (fun _ => 0)) (by rw [List.length_replicate]; exact hR) (nI i)
  obtain ⟨r1, r2, r3, r4, r5, r6, r7, r8⟩ := hR
  rw [List.length_replicate, if_pos ⟨nn0 (by omega), by rw [n31 (by omega) (by omega)]; exact hi⟩] at hh
  have e6 : nI i * 6 + nI j = nI (6 * i + j) := by rw [show (6 : Int32) = nI 6 from rfl, nmul, nadd, Nat.mul_comm]
  have ra : (jR σ 258 q).getD 0 = a := by rw [r2]; rfl
  have j6 : ¬ (6 : Int32) ≤ nI j := nI_ge (b := 6) (by omega) (by omega)
  rw [k63_0 r1, hh]
  simp only [Option.bind_some, Option.toList_some, List.cons_append, List.nil_append]
  rw [k63_5, if_neg (by decide), k63_8, if_neg (nn0 (by omega)), k63_12, if_neg j6, k63_18 r1 (by rw [r2]; exact fun z => nomatch z) (by rw [ra]; exact r3) (by rw [ra, r4, e6]; exact jin_n (by omega) (by omega)), ra, e6, nI_clamp (by omega)]
theorem c62 {q a m n : Nat} (hR : RW σ q a m n) (hn : n < m) (qa : ¬ q = a) : ∃ σ', jx d 62 0 [some (.ref q), none] [] σ = some (some (.int 1), σ') ∧ FR [q, a] σ σ' ∧ RW σ' q a m (n + 1) ∧ (∀ g, g ≠ 257 → jI σ' g q = jI σ g q) ∧ (∀ i, i < 6 * n → jA σ' a i = jA σ a i) ∧ (∀ j, j < 6 → jA σ' a (6 * n + j) = 0) := by
  have hR0 := hR
  obtain ⟨r1, r2, r3, r4, r5, r6, r7, r8⟩ := hR
  have L : ∀ f j σ1, j + f = 6 → FR [a] σ σ1 → (∀ i, i < 6 * n → jA σ1 a i = jA σ a i) → (∀ i, i < j → jA σ1 a (6 * n + i) = 0) → ∃ σ2, jx d 62 15 [some (.ref q), some (.int (nI j))] [] σ1 = jx d 62 42 [some (.ref q), some (.int (nI 6))] [] σ2 ∧ FR [a] σ σ2 ∧ (∀ i, i < 6 * n → jA σ2 a i = jA σ a i) ∧ (∀ i, i < 6 → jA σ2 a (6 * n + i) = 0) := by
    intro f
    induction f with
    | zero =>
      intro j σ1 hj F h1 h2
      have e : j = 6 := by omega
      subst e
      exact ⟨σ1, by rw [k62_15, if_pos (by decide)], F, h1, h2⟩
    | succ f ih =>
      intro j σ1 hj F h1 h2
      have hqa : q ∉ [a] := by simpa using qa
      have ra : (jR σ1 258 q).getD 0 = a := by rw [F.1.2.2.1, r2]; rfl
      have e6 : nI n * 6 + nI j = nI (6 * n + j) := by rw [show (6 : Int32) = nI 6 from rfl, nmul, nadd, Nat.mul_comm]
      have e257 : jI σ1 257 q = nI n := by rw [(F.2 q hqa).1]; exact r6
      obtain ⟨σ2, e2, F2, h3, h4⟩ := ih (j + 1) (jsA σ1 a (6 * n + j) 0) (by omega) (F.A (by simp)) (fun i hi => by rw [zA_A, if_neg (fun w => by omega)]; exact h1 i hi) (fun i hi => by
        rw [zA_A]
        by_cases e : i = j
        · rw [if_pos ⟨rfl, by omega⟩]
        · rw [if_neg (fun w => by omega)]; exact h2 i (by omega))
      refine ⟨σ2, ?_, F2, h3, h4⟩
      have j6 : ¬ (6 : Int32) ≤ nI j := nI_ge (b := 6) (by omega) (by omega)
      rw [← e2, k62_15, if_neg j6, k62_21 (by rw [F.1.1]; exact r1) (by rw [F.1.2.2.1, r2]; exact fun z => nomatch z) (by rw [ra, F.1.1]; exact r3) (by rw [ra, F.1.2.1, r4, e257, e6]; exact jin_n (by omega) (by omega)), ra, e257, e6, nI_clamp (by omega), ← nI_succ]
  obtain ⟨σ2, e2, F2, h3, h4⟩ := L 6 0 σ rfl (FR.refl _ σ) (fun _ _ => rfl) (fun i hi => absurd hi (Nat.not_lt_zero i))
  have hqa : q ∉ [a] := by simpa using qa
  have t5 : jT σ2 q = 5 := by rw [F2.1.1]; exact r1
  have e257 : jI σ2 257 q = nI n := by rw [(F2.2 q hqa).1]; exact r6
  refine ⟨jsI σ2 257 q (nI (n + 1)), ?_, (F2.mono (by simp)).I (by simp), ⟨?_, ?_, ?_, ?_, ?_, ?_, ?_, r8⟩, fun g hg => ?_, ?_, ?_⟩
  · have lt : nI n < nI m := by rw [n31 (by omega) (by omega)]; exact hn
    rw [k62_0 r1, r6, r5, if_pos lt, k62_13]
    have e2' : jx d 62 15 [some (.ref q), some (.int 0)] [] σ = jx d 62 42 [some (.ref q), some (.int (nI 6))] [] σ2 := e2
    rw [e2', k62_42 t5, e257, ← nI_succ]
  · rw [zI_T]; exact t5
  · rw [zI_R, F2.1.2.2.1]; exact r2
  · rw [zI_T, F2.1.1]; exact r3
  · rw [zI_N, F2.1.2.1]; exact r4
  · rw [zI_I, if_neg (fun w => absurd w.1 (by decide)), (F2.2 q hqa).1]; exact r5
  · rw [zI_I, if_pos ⟨rfl, rfl⟩]
  · omega
  · rw [zI_I, if_neg (fun w => hg w.1), (F2.2 q hqa).1]
  · rw [zI_A]; exact h3
  · rw [zI_A]; exact h4
end WOU
