section S_65
/-! a side written out: the class -/
def nmV (mv : Nat → Int32) (x : Int32) : Int32 := if x < 0 ∨ 3 ≤ x then -1 else mv x.toNatClampNeg
def rgV (rg : Nat → Int32) (x : Int32) : Int32 := if x < 0 ∨ 4 ≤ x then -1 else rg x.toNatClampNeg
def tvV (mv : Nat → Int32) (t : Int32) : Int32 := if 16 ≤ t then nmV mv (t - 16) else t
def smV (s a c : Int32) : Int32 := if s = 38 then a &&& c else if s = 43 then a + c else if s = 45 then a - c else if s = 94 then a ^^^ c else if s = 124 then a ||| c else a
def numC (W : Nat) (mv o : Nat → Int32) : Int32 := kptX W (opO o) (smV (o 4) (tvV mv (o 2)) (tvV mv (o 5)))
def wrO (W : Nat) (rg mv o : Nat → Int32) : Nat → Int32 := fun j => if j = 0 then o 0 else if j ≤ regN (opO o) then rgV rg (o j) else if j = 2 ∧ numN (opO o) = true then numC W mv o else 0
/-- the cells of a binding -/
def BD (σ : jS) (B br bn : Nat) : Prop := jT σ B = 1 ∧ jR σ 0 B = some br ∧ jR σ 1 B = some bn ∧ jT σ br = 20 ∧ jN σ br = 4 ∧ jT σ bn = 20 ∧ jN σ bn = 3
theorem BD.frame {σ σ' : jS} {l : List Nat} {B br bn : Nat} (h : BD σ B br bn) (f : FR l σ σ') : BD σ' B br bn := by
  obtain ⟨h1, h2, h3, h4, h5, h6, h7⟩ := h
  exact ⟨by rw [f.1.1]; exact h1, by rw [f.1.2.2.1]; exact h2, by rw [f.1.2.2.1]; exact h3, by rw [f.1.1]; exact h4, by rw [f.1.2.1]; exact h5, by rw [f.1.1]; exact h6, by rw [f.1.2.1]; exact h7⟩
section WOU
variable {d : Nat} {σ : jS}
theorem c66 {B br bn : Nat} (hB : BD σ B br bn) (x : Int32) : jx d 66 0 [some (.ref B), some (.int x)] [] σ = some (some (.int (nmV (jA σ bn) x)), σ) := by
  obtain ⟨h1, h2, h3, h4, h5, h6, h7⟩ := hB
  have rn : jR σ 1 B ≠ none := by rw [h3]; exact fun z => nomatch z
  have rg : (jR σ 1 B).getD 0 = bn := by rw [h3]; rfl
  unfold nmV
  rw [k66_0]
  by_cases a : x < 0
  · rw [if_pos a, k66_22, if_pos (Or.inl a)]
  · rw [if_neg a, k66_4 h1 rn (by rw [rg, h6]; decide), rg, h7]
    by_cases c : (3 : Int32) ≤ x
    · have c' : Int32.ofNat 3 ≤ x := c
      rw [if_pos c', k66_22, if_pos (Or.inr c)]
    · have c' : ¬ Int32.ofNat 3 ≤ x := c
      have q := i32_nat (c := x) (n := 3) (by decide) a c
      rw [if_neg c', k66_13 h1 rn (by rw [rg]; exact Or.inl h6) (by rw [rg, h7, q.1]; exact jin_n q.2 (by decide)), rg, if_neg (fun z => z.elim a c)]
theorem c64 {B br bn : Nat} (hB : BD σ B br bn) (x : Int32) : jx d 64 0 [some (.ref B), some (.int x)] [] σ = some (some (.int (rgV (jA σ br) x)), σ) := by
  obtain ⟨h1, h2, h3, h4, h5, h6, h7⟩ := hB
  have rn : jR σ 0 B ≠ none := by rw [h2]; exact fun z => nomatch z
  have rg : (jR σ 0 B).getD 0 = br := by rw [h2]; rfl
  unfold rgV
  rw [k64_0]
  by_cases a : x < 0
  · rw [if_pos a, k64_22, if_pos (Or.inl a)]
  · rw [if_neg a, k64_4 h1 rn (by rw [rg, h4]; decide), rg, h5]
    by_cases c : (4 : Int32) ≤ x
    · have c' : Int32.ofNat 4 ≤ x := c
      rw [if_pos c', k64_22, if_pos (Or.inr c)]
    · have c' : ¬ Int32.ofNat 4 ≤ x := c
      have q := i32_nat (c := x) (n := 4) (by decide) a c
      rw [if_neg c', k64_13 h1 rn (by rw [rg]; exact Or.inl h4) (by rw [rg, h5, q.1]; exact jin_n q.2 (by decide)), rg, if_neg (fun z => z.elim a c)]
theorem c65 {B br bn : Nat} (hB : BD σ B br bn) (t : Int32) : jx (d + 1) 65 0 [some (.ref B), some (.int t)] [] σ = some (some (.int (tvV (jA σ bn) t)), σ) := by
  unfold tvV
  rw [k65_0]
  by_cases a : (16 : Int32) ≤ t
  · rw [if_pos a, if_pos a, k65_10 hB.1, c66 hB]
    simp only [Option.bind_some, Option.toList_some, List.cons_append, List.nil_append]
    rw [k65_18]
  · rw [if_neg a, if_neg a, k65_6]
theorem c67 (a s c : Int32) : jx d 67 0 [some (.int a), some (.int s), some (.int c)] [] σ = some (some (.int (smV s a c)), σ) := by
  unfold smV
  rw [k67_0, jlk_0]
  by_cases h1 : s = 38
  · rw [if_pos h1, if_pos h1, k67_60]
  rw [if_neg h1, if_neg h1]
  by_cases h2 : s = 43
  · rw [if_pos h2, if_pos h2, k67_52]
  rw [if_neg h2, if_neg h2]
  by_cases h3 : s = 45
  · rw [if_pos h3, if_pos h3, k67_56]
  rw [if_neg h3, if_neg h3]
  by_cases h4 : s = 94
  · rw [if_pos h4, if_pos h4, k67_68]
  rw [if_neg h4, if_neg h4]
  by_cases h5 : s = 124
  · rw [if_pos h5, if_pos h5, k67_64]
  rw [if_neg h5, if_neg h5, k67_72]
theorem c63 {q a m n i j : Nat} (hR : RW σ q a m n) (hi : i < n) (hj : j < 6) (v : Int32) : jx (d + 1) 63 0 [some (.ref q), some (.int (nI i)), some (.int (nI j)), some (.int v)] [] σ = some (none, jsA σ a (6 * i + j) v) := by
  have hh := c52 (d := d) (σ := σ) (q := q) (a := a) (m := m) (os := List.replicate n (fun _ => 0)) (by rw [List.length_replicate]; exact hR) (nI i)
  obtain ⟨r1, r2, r3, r4, r5, r6, r7, r8⟩ := hR
  rw [List.length_replicate, if_pos ⟨nn0 (by omega), by rw [n31 (by omega) (by omega)]; exact hi⟩] at hh
  have e6 : nI i * 6 + nI j = nI (6 * i + j) := by rw [show (6 : Int32) = nI 6 from rfl, nmul, nadd, Nat.mul_comm]
  have ra : (jR σ 258 q).getD 0 = a := by rw [r2]; rfl
  have j6 : ¬ (6 : Int32) ≤ nI j := nI_ge (b := 6) (by omega) (by omega)
  rw [k63_0 r1, hh]
  simp only [Option.bind_some, Option.toList_some, List.cons_append, List.nil_append]
  rw [k63_5, if_neg (by decide), k63_8, if_neg (nn0 (by omega)), k63_12, if_neg j6, k63_18 r1 (by rw [r2]; exact fun z => nomatch z) (by rw [ra]; exact r3) (by rw [ra, r4, e6]; exact jin_n (by omega) (by omega)), ra, e6, nI_clamp (by omega)]
theorem c62 {q a m n : Nat} (hR : RW σ q a m n) (hn : n < m) (qa : ¬ q = a) : ∃ σ', jx d 62 0 [some (.ref q), none] [] σ = some (some (.int 1), σ') ∧ FR [q, a] σ σ' ∧ RW σ' q a m (n + 1) ∧ (∀ g, g ≠ 257 → jI σ' g q = jI σ g q) ∧ (∀ i, i < 6 * n → jA σ' a i = jA σ a i) ∧ (∀ j, j < 6 → jA σ' a (6 * n + j) = 0) := by
  have hR0 := hR
  obtain ⟨r1, r2, r3, r4, r5, r6, r7, r8⟩ := hR
  have L : ∀ f j σ1, j + f = 6 → FR [a] σ σ1 → (∀ i, i < 6 * n → jA σ1 a i = jA σ a i) → (∀ i, i < j → jA σ1 a (6 * n + i) = 0) → ∃ σ2, jx d 62 15 [some (.ref q), some (.int (nI j))] [] σ1 = jx d 62 42 [some (.ref q), some (.int (nI 6))] [] σ2 ∧ FR [a] σ σ2 ∧ (∀ i, i < 6 * n → jA σ2 a i = jA σ a i) ∧ (∀ i, i < 6 → jA σ2 a (6 * n + i) = 0) := by
    intro f
    induction f with
    | zero =>
      intro j σ1 hj F h1 h2
      have e : j = 6 := by omega
      subst e
      exact ⟨σ1, by rw [k62_15, if_pos (by decide)], F, h1, h2⟩
    | succ f ih =>
      intro j σ1 hj F h1 h2
      have hqa : q ∉ [a] := by simpa using qa
      have ra : (jR σ1 258 q).getD 0 = a := by rw [F.1.2.2.1, r2]; rfl
      have e6 : nI n * 6 + nI j = nI (6 * n + j) := by rw [show (6 : Int32) = nI 6 from rfl, nmul, nadd, Nat.mul_comm]
      have e257 : jI σ1 257 q = nI n := by rw [(F.2 q hqa).1]; exact r6
      obtain ⟨σ2, e2, F2, h3, h4⟩ := ih (j + 1) (jsA σ1 a (6 * n + j) 0) (by omega) (F.A (by simp)) (fun i hi => by rw [zA_A, if_neg (fun w => by omega)]; exact h1 i hi) (fun i hi => by
        rw [zA_A]
        by_cases e : i = j
        · rw [if_pos ⟨rfl, by omega⟩]
        · rw [if_neg (fun w => by omega)]; exact h2 i (by omega))
      refine ⟨σ2, ?_, F2, h3, h4⟩
      have j6 : ¬ (6 : Int32) ≤ nI j := nI_ge (b := 6) (by omega) (by omega)
      rw [← e2, k62_15, if_neg j6, k62_21 (by rw [F.1.1]; exact r1) (by rw [F.1.2.2.1, r2]; exact fun z => nomatch z) (by rw [ra, F.1.1]; exact r3) (by rw [ra, F.1.2.1, r4, e257, e6]; exact jin_n (by omega) (by omega)), ra, e257, e6, nI_clamp (by omega), ← nI_succ]
  obtain ⟨σ2, e2, F2, h3, h4⟩ := L 6 0 σ rfl (FR.refl _ σ) (fun _ _ => rfl) (fun i hi => absurd hi (Nat.not_lt_zero i))
  have hqa : q ∉ [a] := by simpa using qa
  have t5 : jT σ2 q = 5 := by rw [F2.1.1]; exact r1
  have e257 : jI σ2 257 q = nI n := by rw [(F2.2 q hqa).1]; exact r6
  refine ⟨jsI σ2 257 q (nI (n + 1)), ?_, (F2.mono (by simp)).I (by simp), ⟨?_, ?_, ?_, ?_, ?_, ?_, ?_, r8⟩, fun g hg => ?_, ?_, ?_⟩
  · have lt : nI n < nI m := by rw [n31 (by omega) (by omega)]; exact hn
    rw [k62_0 r1, r6, r5, if_pos lt, k62_13]
    have e2' : jx d 62 15 [some (.ref q), some (.int 0)] [] σ = jx d 62 42 [some (.ref q), some (.int (nI 6))] [] σ2 := e2
    rw [e2', k62_42 t5, e257, ← nI_succ]
  · rw [zI_T]; exact t5
  · rw [zI_R, F2.1.2.2.1]; exact r2
  · rw [zI_T, F2.1.1]; exact r3
  · rw [zI_N, F2.1.2.1]; exact r4
  · rw [zI_I, if_neg (fun w => absurd w.1 (by decide)), (F2.2 q hqa).1]; exact r5
  · rw [zI_I, if_pos ⟨rfl, rfl⟩]
  · omega
  · rw [zI_I, if_neg (fun w => hg w.1), (F2.2 q hqa).1]
  · rw [zI_A]; exact h3
  · rw [zI_A]; exact h4
end WOU
end S_65
section S_66
/-! a side written out: the class, whole -/
theorem getDm {os : List (Nat → Int32)} {f : (Nat → Int32) → (Nat → Int32)} {i : Nat} (h : i < os.length) : (os.map f).getD i (fun _ => 0) = f (os.getD i (fun _ => 0)) := by
  have e : os.getD i (fun _ => 0) = os[i] := by rw [List.getD_eq_getElem?_getD, List.getElem?_eq_getElem h]; rfl
  rw [List.getD_eq_getElem?_getD, List.getElem?_map, List.getElem?_eq_getElem h, e]
  rfl
section WO2
variable {d : Nat} {W : Nat}
def CU (q a n : Nat) (σ0 σ : jS) (A g : Nat → Int32) : Prop := FR [q, a] σ0 σ ∧ RW σ q a 4 (n + 1) ∧ (∀ f, f ≠ 257 → jI σ f q = jI σ0 f q) ∧ (∀ i, i < 6 * n → jA σ a i = A i) ∧ (∀ j, j < 6 → jA σ a (6 * n + j) = g j)
theorem CU.put {q a n : Nat} {σ0 σ : jS} {A g : Nat → Int32} (h : CU q a n σ0 σ A g) (qa : ¬ q = a) {j : Nat} (hj : j < 6) (v : Int32) : CU q a n σ0 (jsA σ a (6 * n + j) v) A (up6 g j v) := by
  obtain ⟨h1, h2, h3, h4, h5⟩ := h
  refine ⟨h1.A (by simp), h2.frame ((FR.refl [a] σ).A (by simp)) (by simpa using qa), h3, fun i hi => by rw [zA_A, if_neg (fun w => by omega)]; exact h4 i hi, fun k hk => ?_⟩
  rw [zA_A]
  unfold up6
  by_cases e : k = j
  · rw [if_pos ⟨rfl, by omega⟩, if_pos e]
  · rw [if_neg (fun w => by omega), if_neg e]; exact h5 k hk
theorem c61 {σ : jS} {q a s as B br bn n0 : Nat} {os : List (Nat → Int32)} (hS : SH σ) (hQ : ST σ) (hD : RW σ q a 4 n0) (hR : RO σ s as 4 os) (hB : BD σ B br bn) (hk : ∀ o, o ∈ os → OPk o) (qa : ¬ q = a) (hn : ∀ x, x ∈ [1, 2, s, as, br, bn] → x ∉ [q, a]) :
    ∃ σ', jx (d + 2) 61 0 [some (.ref q), some (.ref s), some (.ref B), some (.int (nI W)), none, none, none, none] [] σ = some (none, σ') ∧ FR [q, a] σ σ' ∧ (∀ f, f ≠ 257 → jI σ' f q = jI σ f q) ∧ RO σ' q a 4 (os.map (wrO W (jA σ br) (jA σ bn))) := by
  have hsn := hn s (by simp)
  have hasn := hn as (by simp)
  have hbrn := hn br (by simp)
  have hbnn := hn bn (by simp)
  have h1n := hn 1 (by simp)
  have h2n := hn 2 (by simp)
  have hl4 : os.length ≤ 4 := hR.1.2.2.2.2.2.2.1
  have tS : jT σ s = 5 := hR.1.1
  have eS : jI σ 257 s = nI os.length := hR.1.2.2.2.2.2.1
  have loop : ∀ f n σ1 l5 l6 l7, n + f = os.length → FR [q, a] σ σ1 → RW σ1 q a 4 n → (∀ g, g ≠ 257 → jI σ1 g q = jI σ g q) → (∀ i j, i < n → j < 6 → jA σ1 a (6 * i + j) = wrO W (jA σ br) (jA σ bn) (os.getD i (fun _ => 0)) j) →
      ∃ σ', jx (d + 2) 61 8 [some (.ref q), some (.ref s), some (.ref B), some (.int (nI W)), some (.int (nI n)), l5, l6, l7] [] σ1 = some (none, σ') ∧ FR [q, a] σ σ' ∧ (∀ g, g ≠ 257 → jI σ' g q = jI σ g q) ∧ RW σ' q a 4 os.length ∧ (∀ i j, i < os.length → j < 6 → jA σ' a (6 * i + j) = wrO W (jA σ br) (jA σ bn) (os.getD i (fun _ => 0)) j) := by
    intro f
    induction f with
    | zero =>
      intro n σ1 l5 l6 l7 hnf F hW1 hg hc
      have e : n = os.length := by omega
      subst e
      refine ⟨σ1, ?_, F, hg, hW1, hc⟩
      rw [k61_8 (by rw [F.1.1]; exact tS), (F.2 s hsn).1, eS, if_pos (nI_le (Nat.le_refl _) (by omega)), k61_148]
    | succ f ih =>
      intro n σ1 l5 l6 l7 hnf F hW1 hg hc
      have hlt : n < os.length := by omega
      obtain ⟨o, eo⟩ : ∃ o, os.getD n (fun _ => 0) = o := ⟨_, rfl⟩
      have ho : OPk o := eo ▸ hk _ (mem_getD hlt)
      obtain ⟨ho1, ho2⟩ := ho
      obtain ⟨σ2, e2, F2, hW2, hg2, hA2, hz2⟩ := c62 (d := d + 1) hW1 (by omega) qa
      have C2 : CU q a n σ σ2 (jA σ1 a) (fun _ => 0) := ⟨F.trans F2, hW2, fun g hg' => by rw [hg2 g hg', hg g hg'], hA2, hz2⟩
      have src : ∀ {υ : jS} {g A : Nat → Int32}, CU q a n σ υ A g → ∀ j, j < 6 → jx (d + 1) 51 0 [some (.ref s), some (.int (nI n)), some (.int (nI j))] [] υ = some (some (.int (o j)), υ) := by
        intro υ g A hC j hj
        rw [← eo]
        exact c51 (hR.frame hC.1 hsn hasn) hlt hj
      have tq : ∀ {υ : jS} {g A : Nat → Int32}, CU q a n σ υ A g → jT υ q = 5 := fun hC => hC.2.1.1
      have ts : ∀ {υ : jS} {g A : Nat → Int32}, CU q a n σ υ A g → jT υ s = 5 := fun hC => by rw [hC.1.1.1]; exact tS
      have put : ∀ {υ : jS} {g A : Nat → Int32}, CU q a n σ υ A g → ∀ j v, j < 6 → jx (d + 1) 63 0 [some (.ref q), some (.int (nI n)), some (.int (nI j)), some (.int v)] [] υ = some (none, jsA υ a (6 * n + j) v) := by
        intro υ g A hC j v hj
        exact c63 hC.2.1 (Nat.lt_succ_self n) hj v
      -- the kind
      have C3 := C2.put qa (j := 0) (by decide) (o 0)
      have to45 : jx (d + 2) 61 8 [some (.ref q), some (.ref s), some (.ref B), some (.int (nI W)), some (.int (nI n)), l5, l6, l7] [] σ1 = jx (d + 2) 61 45 [some (.ref q), some (.ref s), some (.ref B), some (.int (nI W)), some (.int (nI n)), some (.int (nI (opO o))), some (.int (nI 1)), l7] [] (jsA σ2 a (6 * n + 0) (o 0)) := by
        rw [k61_8 (by rw [F.1.1]; exact tS), (F.2 s hsn).1, eS, if_neg (nI_ge (by omega) (by omega)), k61_17 hW1.1, e2]
        simp only [Option.bind_some, Option.toList_some, List.cons_append, List.nil_append]
        have s0 : jx (d + 1) 51 0 [some (.ref s), some (.int (nI n)), some (.int 0)] [] σ2 = some (some (.int (o 0)), σ2) := src C2 0 (by decide)
        have p0 : jx (d + 1) 63 0 [some (.ref q), some (.int (nI n)), some (.int 0), some (.int (o 0))] [] σ2 = some (none, jsA σ2 a (6 * n + 0) (o 0)) := put C2 0 (o 0) (by decide)
        rw [k61_21, if_neg (by decide), k61_24 (ts C2), s0]
        simp only [Option.bind_some, Option.toList_some, List.cons_append, List.nil_append]
        rw [k61_31 (tq C2), p0]
        simp only [Option.bind_some, Option.toList_none, List.nil_append]
        rw [k61_42, ← ho2]
        rfl
      -- the registers
      have regs : ∀ f2 j υ g, j + f2 = regN (opO o) → CU q a n σ υ (jA σ1 a) g → (∀ t, t < 6 → g t = if t = 0 then o 0 else if t ≤ j then rgV (jA σ br) (o t) else 0) → ∃ υ' g', jx (d + 2) 61 45 [some (.ref q), some (.ref s), some (.ref B), some (.int (nI W)), some (.int (nI n)), some (.int (nI (opO o))), some (.int (nI (j + 1))), l7] [] υ = jx (d + 2) 61 81 [some (.ref q), some (.ref s), some (.ref B), some (.int (nI W)), some (.int (nI n)), some (.int (nI (opO o))), some (.int (nI (regN (opO o) + 1))), l7] [] υ' ∧ CU q a n σ υ' (jA σ1 a) g' ∧ (∀ t, t < 6 → g' t = if t = 0 then o 0 else if t ≤ regN (opO o) then rgV (jA σ br) (o t) else 0) := by
        intro f2
        have hr3 := regN3 (opO o)
        induction f2 with
        | zero =>
          intro j υ g hj hC hgt
          have e : j = regN (opO o) := by omega
          subst e
          refine ⟨υ, g, ?_, hC, hgt⟩
          have hSu := hC.1.sh hS
          have hQu := hC.1.st h1n h2n hQ
          have lt : nI (regN (opO o)) < nI (regN (opO o) + 1) := by rw [n31 (by omega) (by omega)]; omega
          rw [k61_45, c34 hSu hQu ho1]
          simp only [Option.bind_some, Option.toList_some, List.cons_append, List.nil_append]
          rw [k61_52, if_pos lt]
        | succ f2 ih2 =>
          intro j υ g hj hC hgt
          have hSu := hC.1.sh hS
          have hQu := hC.1.st h1n h2n hQ
          have nlt : ¬ nI (regN (opO o)) < nI (j + 1) := by rw [n31 (by omega) (by omega)]; omega
          have hC' := hC.put qa (j := j + 1) (by omega) (rgV (jA σ br) (o (j + 1)))
          obtain ⟨υ', g', e', C', q'⟩ := ih2 (j + 1) _ _ (by omega) hC' (fun t ht => by
            unfold up6
            by_cases e : t = j + 1
            · rw [if_pos e, if_neg (by omega), if_pos (by omega), e]
            · rw [if_neg e, hgt t ht]
              by_cases e0 : t = 0
              · rw [if_pos e0, if_pos e0]
              · rw [if_neg e0, if_neg e0]
                by_cases ej : t ≤ j
                · rw [if_pos ej, if_pos (by omega)]
                · rw [if_neg ej, if_neg (by omega)])
          refine ⟨υ', g', ?_, C', q'⟩
          have hBu := hB.frame hC.1
          have er : rgV (jA υ br) (o (j + 1)) = rgV (jA σ br) (o (j + 1)) := by
            have : jA υ br = jA σ br := by funext i; exact (hC.1.2 br hbrn).2 i
            rw [this]
          rw [← e', k61_45, c34 hSu hQu ho1]
          simp only [Option.bind_some, Option.toList_some, List.cons_append, List.nil_append]
          rw [k61_52, if_neg nlt, k61_55 (ts hC), src hC (j + 1) (by omega)]
          simp only [Option.bind_some, Option.toList_some, List.cons_append, List.nil_append]
          rw [k61_69 hBu.1, c64 hBu, er]
          simp only [Option.bind_some, Option.toList_some, List.cons_append, List.nil_append]
          rw [k61_72 (tq hC), put hC (j + 1) _ (by omega)]
          simp only [Option.bind_some, Option.toList_none, List.nil_append]
          rw [k61_75, ← nI_succ]
      obtain ⟨υ3, g3, e3, C4, q3⟩ := regs (regN (opO o)) 0 _ _ (by omega) C3 (fun t ht => by
        unfold up6
        by_cases e : t = 0
        · rw [if_pos e, if_pos e]
        · rw [if_neg e, if_neg e, if_neg (by omega)])
      have S4 := C4.1.sh hS
      have nxt : ∀ υ g l5 l6 l7, CU q a n σ υ (jA σ1 a) g → (∀ t, t < 6 → g t = wrO W (jA σ br) (jA σ bn) o t) → ∃ σ', jx (d + 2) 61 8 [some (.ref q), some (.ref s), some (.ref B), some (.int (nI W)), some (.int (nI (n + 1))), l5, l6, l7] [] υ = some (none, σ') ∧ FR [q, a] σ σ' ∧ (∀ g, g ≠ 257 → jI σ' g q = jI σ g q) ∧ RW σ' q a 4 os.length ∧ (∀ i j, i < os.length → j < 6 → jA σ' a (6 * i + j) = wrO W (jA σ br) (jA σ bn) (os.getD i (fun _ => 0)) j) := by
        intro υ g l5 l6 l7 hC hgt
        refine ih (n + 1) υ l5 l6 l7 (by omega) hC.1 hC.2.1 hC.2.2.1 (fun i j hi hj => ?_)
        by_cases e : i = n
        · subst e
          rw [hC.2.2.2.2 j hj, hgt j hj, eo]
        · rw [hC.2.2.2.1 (6 * i + j) (by omega)]
          exact hc i j (by omega) hj
      by_cases hnum : numN (opO o) = true
      · have r1 := numN1 hnum
        have hB4 := hB.frame C4.1
        have en : jA υ3 bn = jA σ bn := by funext i; exact (C4.1.2 bn hbnn).2 i
        have C5 := C4.put qa (j := 2) (by decide) (numC W (jA σ bn) o)
        obtain ⟨σ', e', F', g', w', c'⟩ := nxt _ _ (some (.int (nI (opO o)))) (some (.int (tvV (jA σ bn) (o 2)))) (some (.int (tvV (jA σ bn) (o 5)))) C5 (fun t ht => by
          unfold up6 wrO
          by_cases e : t = 2
          · rw [if_pos e, if_neg (by omega), if_neg (by omega), if_pos ⟨e, hnum⟩]
          · rw [if_neg e, q3 t ht]
            by_cases e0 : t = 0
            · rw [if_pos e0, if_pos e0]
            · rw [if_neg e0, if_neg e0]
              by_cases ej : t ≤ regN (opO o)
              · rw [if_pos ej, if_pos ej]
              · rw [if_neg ej, if_neg ej, if_neg (fun w => e w.1)])
        refine ⟨σ', ?_, F', g', w', c'⟩
        have s2 : jx (d + 1) 51 0 [some (.ref s), some (.int (nI n)), some (.int 2)] [] υ3 = some (some (.int (o 2)), υ3) := src C4 2 (by decide)
        have s5 : jx (d + 1) 51 0 [some (.ref s), some (.int (nI n)), some (.int 5)] [] υ3 = some (some (.int (o 5)), υ3) := src C4 5 (by decide)
        have s4 : jx (d + 1) 51 0 [some (.ref s), some (.int (nI n)), some (.int 4)] [] υ3 = some (some (.int (o 4)), υ3) := src C4 4 (by decide)
        have p2 : jx (d + 1) 63 0 [some (.ref q), some (.int (nI n)), some (.int 2), some (.int (numC W (jA σ bn) o))] [] υ3 = some (none, jsA υ3 a (6 * n + 2) (numC W (jA σ bn) o)) := put C4 2 _ (by decide)
        rw [to45, e3, k61_81, c40 ho1, if_pos hnum]
        simp only [Option.bind_some, Option.toList_some, List.cons_append, List.nil_append]
        rw [k61_86, if_neg (by decide), k61_89 (ts C4), s2]
        simp only [Option.bind_some, Option.toList_some, List.cons_append, List.nil_append]
        rw [k61_97 hB4.1, c65 hB4, en]
        simp only [Option.bind_some, Option.toList_some, List.cons_append, List.nil_append]
        rw [k61_100 (ts C4), s5]
        simp only [Option.bind_some, Option.toList_some, List.cons_append, List.nil_append]
        rw [k61_110 hB4.1, c65 hB4, en]
        simp only [Option.bind_some, Option.toList_some, List.cons_append, List.nil_append]
        rw [k61_113 (ts C4), s4]
        simp only [Option.bind_some, Option.toList_some, List.cons_append, List.nil_append]
        rw [k61_130, c67]
        simp only [Option.bind_some, Option.toList_some, List.cons_append, List.nil_append]
        rw [k61_135, c46 ho1]
        simp only [Option.bind_some, Option.toList_some, List.cons_append, List.nil_append]
        have en2 : kptX W (opO o) (smV (o 4) (tvV (jA σ bn) (o 2)) (tvV (jA σ bn) (o 5))) = numC W (jA σ bn) o := rfl
        rw [en2, k61_139 (tq C4), p2]
        simp only [Option.bind_some, Option.toList_none, List.nil_append]
        rw [k61_142, ← nI_succ]
        exact e'
      · obtain ⟨σ', e', F', g', w', c'⟩ := nxt _ _ (some (.int (nI (opO o)))) (some (.int (nI (regN (opO o) + 1)))) l7 C4 (fun t ht => by
          unfold wrO
          rw [q3 t ht]
          by_cases e0 : t = 0
          · rw [if_pos e0, if_pos e0]
          · rw [if_neg e0, if_neg e0]
            by_cases ej : t ≤ regN (opO o)
            · rw [if_pos ej, if_pos ej]
            · rw [if_neg ej, if_neg ej, if_neg (fun w => hnum w.2)])
        refine ⟨σ', ?_, F', g', w', c'⟩
        rw [to45, e3, k61_81, c40 ho1, if_neg hnum]
        simp only [Option.bind_some, Option.toList_some, List.cons_append, List.nil_append]
        rw [k61_86, if_pos rfl, k61_142, ← nI_succ]
        exact e'
  have F0 : FR [q, a] σ (jsI σ 257 q 0) := (FR.refl _ σ).I (by simp)
  obtain ⟨r1, r2, r3, r4, r5, r6, r7, r8⟩ := hD
  obtain ⟨σ', e', F', g', w', c'⟩ := loop os.length 0 (jsI σ 257 q 0) none none none (by omega) F0 ⟨r1, r2, r3, r4, by rw [zI_I, if_neg (fun w => absurd w.1 (by decide))]; exact r5, by rw [zI_I, if_pos ⟨rfl, rfl⟩]; rfl, Nat.zero_le _, r8⟩ (fun g hg => by rw [zI_I, if_neg (fun w => hg w.1)]) (fun i j hi => absurd hi (Nat.not_lt_zero i))
  refine ⟨σ', ?_, F', g', ?_⟩
  · rw [k61_0 r1]; exact e'
  · have le : (os.map (wrO W (jA σ br) (jA σ bn))).length = os.length := List.length_map _
    refine ⟨by rw [le]; exact w', by rw [le]; exact w'.2.2.2.2.2.1, fun i j hi hj => ?_⟩
    rw [le] at hi
    rw [c' i j hi hj, getDm hi]
end WO2
end S_66
section S_67
/-! a trial: what both do with one assignment -/
def idR : Nat → Int32 := fun i => nI i
def numM (W : Nat) (mv o : Nat → Int32) : Int32 := kpM W (opO o) (smV (o 4) (tvV mv (o 2)) (tvV mv (o 5)))
def wrM (W : Nat) (mv o : Nat → Int32) : Nat → Int32 := fun j => if j = 0 then o 0 else if j ≤ regN (opO o) then o j else if j = 2 ∧ numN (opO o) = true then numM W mv o else 0
def MV (nm : Nat) (mv : Nat → Int32) : Prop := ∀ i, i < nm → ∃ u, u ≤ 7 ∧ mv i = nI u
theorem WFo.op {nr nm : Nat} {o : Nat → Int32} (h : WFo nr nm o) : OPk o := by
  obtain ⟨k, h1, h2, _⟩ := h
  have : opO o = k := by unfold opO; rw [h2]; exact nI_clamp (by omega)
  exact ⟨by rw [this]; exact h1, by rw [this]; exact h2⟩
theorem tv_val {nm : Nat} (hnm : nm ≤ 3) {mv : Nat → Int32} (hm : MV nm mv) {t : Int32} (ht : WFt nm t) : ∃ u, u < 16 ∧ tvV mv t = nI u := by
  unfold tvV
  rcases ht with ⟨u, hu, e⟩ | ⟨i, hi, e⟩
  · refine ⟨u, hu, ?_⟩
    have n : ¬ (16 : Int32) ≤ nI u := nI_ge (b := 16) (by omega) (by omega)
    rw [e, if_neg n]
  · obtain ⟨u, hu, eu⟩ := hm i hi
    refine ⟨u, by omega, ?_⟩
    have v := i16n (i := i) (by omega)
    have n1 : ¬ (nI i < 0 ∨ (3 : Int32) ≤ nI i) := by
      intro z
      rcases z with z | z
      · exact nn0 (by omega) z
      · exact nI_ge (b := 3) (by omega) (by omega) z
    rw [e, if_pos v.1, v.2.2]
    unfold nmV
    rw [if_neg n1, nI_clamp (by omega), eu]
theorem sm_rng : ∀ s, s ∈ ([43, 45, 38, 124, 94, 0] : List Int32) → ∀ a, a < 16 → ∀ c, c < 16 → ∃ i, i < 46 ∧ smV s (nI a) (nI c) = nI i - 15 := by
  have H : ∀ s, s ∈ ([43, 45, 38, 124, 94, 0] : List Int32) → ∀ a, a < 16 → ∀ c, c < 16 → (smV s (nI a) (nI c) + 15).toNatClampNeg < 46 ∧ smV s (nI a) (nI c) = nI (smV s (nI a) (nI c) + 15).toNatClampNeg - 15 := by decide +kernel
  intro s hs a ha c hc
  exact ⟨_, H s hs a ha c hc⟩
theorem kp_idem {W k : Nat} (hW : W = 1 ∨ W = 2 ∨ W = 3) (hk : numN k = true) {u : Nat} (hu : u < 16) : kptX W k (kptX W k (nI u)) = kptX W k (nI u) ∧ ¬ (16 : Int32) ≤ kptX W k (nI u) := by
  have H : ∀ W, W ∈ [1, 2, 3] → ∀ k, k ∈ [0, 12, 13, 15, 16] → ∀ u, u < 16 → kptX W k (kptX W k (nI u)) = kptX W k (nI u) ∧ ¬ (16 : Int32) ≤ kptX W k (nI u) := by decide +kernel
  refine H W (by simpa using hW) k ?_ u hu
  simpa [numN, or_assoc] using hk
theorem kp_bnd {W k : Nat} (hW : W = 1 ∨ W = 2 ∨ W = 3) (hk : numN k = true) {i : Nat} (hi : i < 46) : ∃ u, u < 8 ∧ (¬ k = 0 → u < 4) ∧ kpM W k (nI i - 15) = nI u := by
  have H : ∀ W, W ∈ [1, 2, 3] → ∀ k, k ∈ [0, 12, 13, 15, 16] → ∀ i, i < 46 → (kpM W k (nI i - 15)).toNatClampNeg < 8 ∧ (¬ k = 0 → (kpM W k (nI i - 15)).toNatClampNeg < 4) ∧ kpM W k (nI i - 15) = nI (kpM W k (nI i - 15)).toNatClampNeg := by decide +kernel
  exact ⟨_, H W (by simpa using hW) k (by simpa [numN, or_assoc] using hk) i hi⟩
theorem sg_mem {s : Int32} (h : isSg s) : s ∈ ([43, 45, 38, 124, 94, 0] : List Int32) := by
  rcases h with h | h | h | h | h <;> rw [h] <;> decide
theorem sm_val {nm : Nat} (hnm : nm ≤ 3) {mv : Nat → Int32} (hm : MV nm mv) {o : Nat → Int32} (h2 : WFt nm (o 2)) (h5 : o 4 = 0 ∨ (isSg (o 4) ∧ WFt nm (o 5))) : ∃ i, i < 46 ∧ smV (o 4) (tvV mv (o 2)) (tvV mv (o 5)) = nI i - 15 := by
  obtain ⟨a, ha, ea⟩ := tv_val hnm hm h2
  rcases h5 with h5 | ⟨h5, h6⟩
  · obtain ⟨i, hi, e⟩ := sm_rng 0 (by decide) a ha 0 (by decide)
    refine ⟨i, hi, ?_⟩
    rw [h5, ea]
    exact e
  · obtain ⟨c, hc, ec⟩ := tv_val hnm hm h6
    obtain ⟨i, hi, e⟩ := sm_rng _ (sg_mem h5) a ha c hc
    exact ⟨i, hi, by rw [ea, ec]; exact e⟩
theorem keep_op (W : Nat) (o : Nat → Int32) : (keepF W o) 0 = o 0 ∧ opO (keepF W o) = opO o ∧ (∀ j, j ≠ 2 → (keepF W o) j = o j) := by
  have H : ∀ j, j ≠ 2 → (keepF W o) j = o j := by
    intro j hj
    unfold keepF
    split
    · show (if j = 2 then _ else o j) = o j
      rw [if_neg hj]
    · rfl
  exact ⟨H 0 (by decide), by unfold opO; rw [H 0 (by decide)], H⟩
theorem num_keep {W nr nm : Nat} (hW : W = 1 ∨ W = 2 ∨ W = 3) (hnm : nm ≤ 3) {mv : Nat → Int32} (hm : MV nm mv) {o : Nat → Int32} (h : WFo nr nm o) (hn : numN (opO o) = true) : numC W mv (keepF W o) = numM W mv o := by
  obtain ⟨k, k1, k2, k3, k4, k5⟩ := h
  have ko : opO o = k := by unfold opO; rw [k2]; exact nI_clamp (by omega)
  have hnk : numN k = true := by rw [← ko]; exact hn
  have k4 := k4 hnk
  obtain ⟨e0, e1, e2⟩ := keep_op W o
  unfold numC numM
  rw [e1, e2 4 (by decide), e2 5 (by decide)]
  by_cases c : numN (o 0).toNatClampNeg = true ∧ o 4 = 0 ∧ ¬ 16 ≤ o 2
  · have hf : (keepF W o) 2 = kptX W (opO o) (o 2) := by
      unfold keepF
      rw [if_pos c]
      rfl
    have s0 : ∀ a b : Int32, smV (o 4) a b = a := by intro a b; rw [c.2.1]; rfl
    rcases k4 with ⟨u, hu, eu⟩ | ⟨i, hi, ei⟩
    · have t0 : tvV mv (o 2) = o 2 := if_neg c.2.2
      have idm := kp_idem hW hn hu
      have t1 : tvV mv (kptX W (opO o) (o 2)) = kptX W (opO o) (o 2) := by
        unfold tvV
        rw [eu, if_neg idm.2]
      rw [hf, s0, s0, t0, t1, eu, idm.1, show nI u = nI (u + 15) - 15 by rw [show (15 : Int32) = nI 15 from rfl, nsub (by omega)]; congr 1]
      exact (kpM_kptX hW hn (by omega)).symm
    · exact absurd (by rw [ei]; exact (i16n (by omega)).1) c.2.2
  · have hf : (keepF W o) 2 = o 2 := by
      unfold keepF
      rw [if_neg c]
    rw [hf]
    obtain ⟨i, hi, e⟩ := sm_val hnm hm k4 (by
      rcases k5 with k5 | ⟨_, a, b⟩
      · exact Or.inl k5
      · exact Or.inr ⟨a, b⟩)
    rw [e]
    exact (kpM_kptX hW hn hi).symm
theorem wr_same {W nr nm : Nat} (hW : W = 1 ∨ W = 2 ∨ W = 3) (hnr : nr ≤ 4) (hnm : nm ≤ 3) {mv : Nat → Int32} (hm : MV nm mv) {o : Nat → Int32} (h : WFo nr nm o) {j : Nat} (hj : j < 6) : wrO W idR mv (keepF W o) j = wrM W mv o j := by
  have h0 := h
  obtain ⟨k, k1, k2, k3, k4, k5⟩ := h
  have ko : opO o = k := by unfold opO; rw [k2]; exact nI_clamp (by omega)
  obtain ⟨e0, e1, e2⟩ := keep_op W o
  unfold wrO wrM
  rw [e1, e0]
  by_cases j0 : j = 0
  · rw [if_pos j0, if_pos j0]
  rw [if_neg j0, if_neg j0]
  by_cases jr : j ≤ regN (opO o)
  · rw [if_pos jr, if_pos jr]
    obtain ⟨i, hi, ei⟩ := k3 (j - 1) (by rw [← ko]; omega)
    have ej : o j = nI i := by rw [← ei]; congr 1; omega
    have kj : (keepF W o) j = o j := by
      by_cases j2 : j = 2
      · have nn : ¬ numN (opO o) = true := fun z => by have := numN1 z; omega
        unfold keepF
        rw [if_neg (fun z => nn z.1)]
      · exact e2 j j2
    rw [kj, ej]
    unfold rgV
    have n1 : ¬ (nI i < 0 ∨ (4 : Int32) ≤ nI i) := by
      intro z
      rcases z with z | z
      · exact nn0 (by omega) z
      · exact nI_ge (b := 4) (by omega) (by omega) z
    rw [if_neg n1, nI_clamp (by omega)]
    rfl
  rw [if_neg jr, if_neg jr]
  by_cases jn : j = 2 ∧ numN (opO o) = true
  · rw [if_pos jn, if_pos jn]; exact num_keep hW hnm hm h0 jn.2
  · rw [if_neg jn, if_neg jn]
theorem wrM_PWF {W nr nm : Nat} (hW : W = 1 ∨ W = 2 ∨ W = 3) (hnr : nr ≤ 4) (hnm : nm ≤ 3) {mv : Nat → Int32} (hm : MV nm mv) {o : Nat → Int32} (h : WFo nr nm o) : ∃ k x y z, w8 x y z k ∧ wrM W mv o 0 = nI k ∧ wrM W mv o 1 = nI x ∧ wrM W mv o 2 = nI y ∧ wrM W mv o 3 = nI z ∧ (¬ k = 17 → x < nr) ∧ (k = 18 → y < nr) := by
  have hop := h.op
  obtain ⟨k, k1, k2, k3, k4, k5⟩ := h
  have ko : opO o = k := by unfold opO; rw [k2]; exact nI_clamp (by omega)
  have w : ∀ j, wrM W mv o j = if j = 0 then o 0 else if j ≤ regN k then o j else if j = 2 ∧ numN k = true then numM W mv o else 0 := fun j => by unfold wrM; rw [ko]
  have rg : ∀ j, 1 ≤ j → j ≤ regN k → ∃ i, i < nr ∧ o j = nI i := fun j h1 h2 => by
    obtain ⟨i, hi, ei⟩ := k3 (j - 1) (by omega)
    exact ⟨i, hi, by rw [← ei]; congr 1; omega⟩
  -- the first
  have X : ∃ x, x < 4 ∧ wrM W mv o 1 = nI x ∧ (¬ k = 17 → x < nr) := by
    by_cases h1 : 1 ≤ regN k
    · obtain ⟨i, hi, ei⟩ := rg 1 (Nat.le_refl 1) h1
      exact ⟨i, by omega, by rw [w, if_neg (by decide), if_pos h1, ei], fun _ => hi⟩
    · refine ⟨0, by decide, ?_, fun q => ?_⟩
      · rw [w, if_neg (by decide), if_neg h1, if_neg (fun q => absurd q.1 (by decide))]; rfl
      · exfalso
        have H : ∀ k, k < 19 → ¬ k = 17 → 1 ≤ regN k := by decide
        exact h1 (H k k1 q)
  have Z : ∃ z, z < 4 ∧ wrM W mv o 3 = nI z := by
    by_cases h1 : 3 ≤ regN k
    · obtain ⟨i, hi, ei⟩ := rg 3 (by decide) h1
      exact ⟨i, by omega, by rw [w, if_neg (by decide), if_pos h1, ei]⟩
    · exact ⟨0, by decide, by rw [w, if_neg (by decide), if_neg h1, if_neg (fun q => absurd q.1 (by decide))]; rfl⟩
  have Y : ∃ y, y < 8 ∧ (¬ k = 0 → y < 4) ∧ wrM W mv o 2 = nI y ∧ (k = 18 → y < nr) := by
    by_cases h1 : 2 ≤ regN k
    · obtain ⟨i, hi, ei⟩ := rg 2 (by decide) h1
      exact ⟨i, by omega, fun _ => by omega, by rw [w, if_neg (by decide), if_pos h1, ei], fun _ => hi⟩
    · have n18 : ¬ k = 18 := fun e => h1 (by rw [e]; decide)
      by_cases hn : numN k = true
      · obtain ⟨i, hi, e⟩ := sm_val hnm hm (k4 hn) (by
          rcases k5 with k5 | ⟨_, a, b⟩
          · exact Or.inl k5
          · exact Or.inr ⟨a, b⟩)
        obtain ⟨u, hu, hu4, eu⟩ := kp_bnd hW hn hi
        refine ⟨u, hu, hu4, ?_, fun q => absurd q n18⟩
        rw [w, if_neg (by decide), if_neg h1, if_pos ⟨rfl, hn⟩]
        unfold numM
        rw [ko, e, eu]
      · exact ⟨0, by decide, fun _ => by decide, by rw [w, if_neg (by decide), if_neg h1, if_neg (fun q => hn q.2)]; rfl, fun q => absurd q n18⟩
  obtain ⟨x, hx, ex, hxr⟩ := X
  obtain ⟨y, hy, hy4, ey, hyr⟩ := Y
  obtain ⟨z, hz, ez⟩ := Z
  exact ⟨k, x, y, z, ⟨k1, hx, hz, hy, hy4⟩, by rw [w, if_pos rfl, k2], ex, ey, ez, hxr, hyr⟩
theorem ex_keep {W k x y z nr : Nat} (hx : ¬ k = 17 → x < nr) (hy : k = 18 → y < nr) {w : Nat → Int32} {i : Nat} (h1 : nr ≤ i) (h2 : i < 4) : exN W k x y z w i = w i := by
  unfold exN up6
  by_cases h17 : k = 17
  · rw [if_pos h17]
  have hx := hx h17
  rw [if_neg h17]
  by_cases h16 : k = 16
  · rw [if_pos h16, if_neg (by omega)]
  rw [if_neg h16]
  by_cases h15 : k = 15
  · rw [if_pos h15, if_neg (by omega)]
  rw [if_neg h15]
  by_cases h14 : k = 14
  · rw [if_pos h14, if_neg (by omega)]
  rw [if_neg h14]
  by_cases h18 : k = 18
  · have := hy h18
    rw [if_pos h18, if_neg (by omega), if_neg (by omega)]
  rw [if_neg h18, if_neg (by omega)]
theorem exL_keep {W nr nm : Nat} (hW : W = 1 ∨ W = 2 ∨ W = 3) (hnr : nr ≤ 4) (hnm : nm ≤ 3) {mv : Nat → Int32} (hm : MV nm mv) : ∀ (os : List (Nat → Int32)) (w : Nat → Int32), (∀ o, o ∈ os → WFo nr nm o) → ∀ i, nr ≤ i → i < 4 → exL W (os.map (wrM W mv)) w i = w i := by
  intro os
  induction os with
  | nil => intro w _ i _ _; rfl
  | cons o os ih =>
    intro w h i h1 h2
    obtain ⟨k, x, y, z, h8, e0, e1, e2, e3, hx, hy⟩ := wrM_PWF hW hnr hnm hm (h o List.mem_cons_self)
    have := ih (exO W w (wrM W mv o)) (fun p hp => h p (List.mem_cons_of_mem _ hp)) i h1 h2
    show exL W (os.map (wrM W mv)) (exO W w (wrM W mv o)) i = _
    rw [this, exO_eq h8 e0 e1 e2 e3]
    exact ex_keep hx hy h1 h2
theorem exO_eq4 {W : Nat} {w e f : Nat → Int32} (h : ∀ j, j < 4 → e j = f j) : exO W w e = exO W w f := by
  unfold exO
  rw [h 0 (by decide), h 1 (by decide), h 2 (by decide), h 3 (by decide)]
theorem exL_same {W nr nm : Nat} (hW : W = 1 ∨ W = 2 ∨ W = 3) (hnr : nr ≤ 4) (hnm : nm ≤ 3) {mv : Nat → Int32} (hm : MV nm mv) : ∀ (os : List (Nat → Int32)) (w : Nat → Int32), (∀ o, o ∈ os → WFo nr nm o) → exL W ((os.map (keepF W)).map (wrO W idR mv)) w = exL W (os.map (wrM W mv)) w := by
  intro os
  induction os with
  | nil => intro w _; rfl
  | cons o os ih =>
    intro w h
    have e : exO W w (wrO W idR mv (keepF W o)) = exO W w (wrM W mv o) := exO_eq4 (fun j hj => wr_same hW hnr hnm hm (h o List.mem_cons_self) (by omega))
    show exL W ((os.map (keepF W)).map (wrO W idR mv)) (exO W w (wrO W idR mv (keepF W o))) = exL W (os.map (wrM W mv)) (exO W w (wrM W mv o))
    rw [e]
    exact ih _ (fun p hp => h p (List.mem_cons_of_mem _ hp))
end S_67
section S_68
/-! a trial: all assignments -/
def w0F (nr : Nat) (hc : Bool) (v : Nat → Int32) : Nat → Int32 := fun i => if i < nr then v i else if 4 ≤ i ∧ hc = true then v (nr + (i - 4)) else 0
def mvF (wd : Nat) (v : Nat → Int32) : Nat → Int32 := fun i => v (wd + i)
def odo (t : Nat → Int32) : Nat → (Nat → Int32) → (Nat → Int32)
  | 0, v => v
  | n + 1, v => if v n = t n then odo t n (up6 v n 0) else up6 v n (v n + 1)
/-- an assignment within its bounds -/
def VB (W wd n : Nat) (t v : Nat → Int32) : Prop := ∀ k, k < n → ∃ u w, u ≤ w ∧ w ≤ 7 ∧ v k = nI u ∧ t k = nI w ∧ (k < wd → w + 1 = 2 ^ W)
theorem VB.up0 {W wd n : Nat} {t v : Nat → Int32} (h : VB W wd n t v) (j : Nat) : VB W wd n t (up6 v j 0) := fun k hk => by
  obtain ⟨u, w, h1, h2, h3, h4, h5⟩ := h k hk
  unfold up6
  by_cases e : k = j
  · exact ⟨0, w, Nat.zero_le _, h2, by rw [if_pos e]; rfl, h4, h5⟩
  · exact ⟨u, w, h1, h2, by rw [if_neg e]; exact h3, h4, h5⟩
theorem VB.up1 {W wd n : Nat} {t v : Nat → Int32} (h : VB W wd n t v) {j : Nat} (hj : ¬ v j = t j) : VB W wd n t (up6 v j (v j + 1)) := fun k hk => by
  obtain ⟨u, w, h1, h2, h3, h4, h5⟩ := h k hk
  unfold up6
  by_cases e : k = j
  · subst e
    have : u ≠ w := fun q => hj (by rw [h3, h4, q])
    exact ⟨u + 1, w, by omega, h2, by rw [if_pos rfl, h3, nI_succ], h4, h5⟩
  · exact ⟨u, w, h1, h2, by rw [if_neg e]; exact h3, h4, h5⟩
theorem VB.odo {W wd N : Nat} {t : Nat → Int32} : ∀ n v, VB W wd N t v → VB W wd N t (odo t n v) := by
  intro n
  induction n with
  | zero => intro v h; exact h
  | succ n ih =>
    intro v h
    show VB W wd N t (if v n = t n then _ else _)
    by_cases e : v n = t n
    · rw [if_pos e]; exact ih _ (h.up0 n)
    · rw [if_neg e]; exact h.up1 e
theorem VB.le {W wd n : Nat} {t v : Nat → Int32} (h : VB W wd n t v) {k : Nat} (hk : k < n) : t k ≤ v k ↔ v k = t k := by
  obtain ⟨u, w, h1, h2, h3, h4, _⟩ := h k hk
  rw [h3, h4, n31le (by omega) (by omega), n31eq (by omega) (by omega)]
  omega
theorem odo_cong {t : Nat → Int32} : ∀ n (v w : Nat → Int32), n ≤ 11 → (∀ k, k < 11 → v k = w k) → ∀ k, k < 11 → odo t n v k = odo t n w k := by
  intro n
  induction n with
  | zero => intro v w _ h; exact h
  | succ n ih =>
    intro v w hn h k hk
    show (if v n = t n then odo t n (up6 v n 0) else up6 v n (v n + 1)) k = (if w n = t n then odo t n (up6 w n 0) else up6 w n (w n + 1)) k
    rw [h n (by omega)]
    by_cases e : w n = t n
    · rw [if_pos e, if_pos e]
      refine ih _ _ (by omega) (fun i hi => ?_) k hk
      unfold up6
      rw [h i hi]
    · rw [if_neg e, if_neg e]
      unfold up6
      rw [h k hk]
theorem VB.wd {W nr nm : Nat} {hc : Bool} (hnr : nr ≤ 4) {t v : Nat → Int32} (h : VB W (wdN nr hc) (wdN nr hc + nm) t v) : WD W (w0F nr hc v) := fun i hi => by
  have wn : nr ≤ wdN nr hc := Nat.le_add_right _ _
  unfold w0F
  by_cases h1 : i < nr
  · rw [if_pos h1]
    obtain ⟨u, w, h2, h3, h4, h5, h6⟩ := h i (by omega)
    have := h6 (by omega)
    exact ⟨u, by omega, h4⟩
  · rw [if_neg h1]
    by_cases h2 : 4 ≤ i ∧ hc = true
    · have e : wdN nr hc = nr + 4 := by unfold wdN; rw [if_pos h2.2]
      rw [if_pos h2]
      obtain ⟨u, w, h3, h4, h5, h6, h7⟩ := h (nr + (i - 4)) (by omega)
      have := h7 (by omega)
      exact ⟨u, by omega, h5⟩
    · rw [if_neg h2]
      exact ⟨0, Nat.two_pow_pos W, rfl⟩
theorem VB.mv {W wd nm : Nat} {t v : Nat → Int32} (h : VB W wd (wd + nm) t v) : MV nm (mvF wd v) := fun i hi => by
  obtain ⟨u, w, h1, h2, h3, _, _⟩ := h (wd + i) (by omega)
  exact ⟨u, by omega, h3⟩
def exS (W nr : Nat) (hc : Bool) (os : List (Nat → Int32)) (v : Nat → Int32) : Nat → Int32 := exL W (os.map (wrM W (mvF (wdN nr hc) v))) (w0F nr hc v)
def lik (W nr : Nat) (hc : Bool) (o1 o2 : List (Nat → Int32)) (v : Nat → Int32) : Bool := decide (pkU W (exS W nr hc o1 v) 8 = pkU W (exS W nr hc o2 v) 8)
theorem exS_WD {W nr nm : Nat} (hW : W = 1 ∨ W = 2 ∨ W = 3) (hnr : nr ≤ 4) (hnm : nm ≤ 3) {hc : Bool} {t v : Nat → Int32} (h : VB W (wdN nr hc) (wdN nr hc + nm) t v) {os : List (Nat → Int32)} (hw : ∀ o, o ∈ os → WFo nr nm o) : WD W (exS W nr hc os v) := by
  refine WD.exL hW _ _ (h.wd hnr) (fun e he => ?_)
  obtain ⟨o, ho, eo⟩ := List.mem_map.mp he
  obtain ⟨k, x, y, z, h8, e0, e1, e2, e3, _, _⟩ := wrM_PWF hW hnr hnm h.mv (hw o ho)
  rw [← eo]
  exact ⟨k, x, y, z, h8, e0, e1, e2, e3⟩
/-- the reference compares the registers that the rule names and the cells -/
theorem lik_iff {W nr nm : Nat} (hW : W = 1 ∨ W = 2 ∨ W = 3) (hnr : nr ≤ 4) (hnm : nm ≤ 3) {hc : Bool} {t v : Nat → Int32} (h : VB W (wdN nr hc) (wdN nr hc + nm) t v) {o1 o2 : List (Nat → Int32)} (h1 : ∀ o, o ∈ o1 → WFo nr nm o) (h2 : ∀ o, o ∈ o2 → WFo nr nm o) :
    lik W nr hc o1 o2 v = true ↔ (∀ i, i < 4 → (nr ≤ i ∨ exS W nr hc o1 v i = exS W nr hc o2 v i) ∧ exS W nr hc o1 v (4 + i) = exS W nr hc o2 v (4 + i)) := by
  unfold lik
  rw [decide_eq_true_iff, pk_inj hW (exS_WD hW hnr hnm h h1) (exS_WD hW hnr hnm h h2)]
  constructor
  · intro e i hi
    exact ⟨Or.inr (e i (by omega)), e (4 + i) (by omega)⟩
  · intro e i hi
    by_cases h4 : i < 4
    · rcases (e i h4).1 with q | q
      · have a1 : exS W nr hc o1 v i = w0F nr hc v i := exL_keep hW hnr hnm h.mv o1 _ h1 i q h4
        have a2 : exS W nr hc o2 v i = w0F nr hc v i := exL_keep hW hnr hnm h.mv o2 _ h2 i q h4
        rw [a1, a2]
      · exact q
    · have := (e (i - 4) (by omega)).2
      rw [show 4 + (i - 4) = i by omega] at this
      exact this
def cntL (p : (Nat → Int32) → Bool) (nx : (Nat → Int32) → (Nat → Int32)) : Nat → (Nat → Int32) → Nat
  | 0, _ => 0
  | n + 1, v => (if p v = true then 1 else 0) + cntL p nx n (nx v)
theorem cntL_le (p : (Nat → Int32) → Bool) (nx : (Nat → Int32) → (Nat → Int32)) : ∀ n v, cntL p nx n v ≤ n := by
  intro n
  induction n with
  | zero => intro v; exact Nat.le_refl _
  | succ n ih =>
    intro v
    have := ih (nx v)
    show (if p v = true then 1 else 0) + cntL p nx n (nx v) ≤ n + 1
    split <;> omega
/-! how many there are -/
def prN (u : Nat → Nat) : Nat → Nat
  | 0 => 1
  | n + 1 => prN u n * (u n + 1)
theorem prN_pos (u : Nat → Nat) : ∀ n, 1 ≤ prN u n := by
  intro n
  induction n with
  | zero => exact Nat.le_refl 1
  | succ n ih => exact Nat.mul_pos ih (Nat.succ_pos _)
theorem prN_le {u : Nat → Nat} : ∀ n, (∀ k, k < n → u k ≤ 7) → prN u n ≤ 8 ^ n := by
  intro n
  induction n with
  | zero => intro _; exact Nat.le_refl 1
  | succ n ih =>
    intro h
    show prN u n * (u n + 1) ≤ 8 ^ (n + 1)
    rw [Nat.pow_succ]
    exact Nat.mul_le_mul (ih (fun k hk => h k (by omega))) (by have := h n (by omega); omega)
theorem prL_n {t : Nat → Int32} {u : Nat → Nat} : ∀ n, (∀ k, k < n → u k ≤ 7 ∧ t k = nI (u k)) → prL t n = Int64.ofNat (prN u n) := by
  intro n
  induction n with
  | zero => intro _; rfl
  | succ n ih =>
    intro h
    show prL t n * (t n + 1).toInt64 = Int64.ofNat (prN u n * (u n + 1))
    have := (h n (by omega)).1
    have e : (nI (u n + 1)).toInt64 = Int64.ofNat (u n + 1) := by
      have H : ∀ k, k < 9 → (nI k).toInt64 = Int64.ofNat k := by decide
      exact H _ (by omega)
    rw [ih (fun k hk => h k (by omega)), (h n (by omega)).2, ← nI_succ, e, Int64.ofNat_mul]
end S_68
section S_69
/-! the class's trial: pieces -/
theorem rg_id {rg : Nat → Int32} (h : ∀ i, i < 4 → rg i = nI i) (x : Int32) : rgV rg x = rgV idR x := by
  unfold rgV
  by_cases c : x < 0 ∨ 4 ≤ x
  · rw [if_pos c, if_pos c]
  · have q := i32_nat (c := x) (n := 4) (by decide) (fun z => c (Or.inl z)) (fun z => c (Or.inr z))
    rw [if_neg c, if_neg c, h _ q.2]
    rfl
theorem wrO_rg {W : Nat} {rg mv : Nat → Int32} (h : ∀ i, i < 4 → rg i = nI i) (o : Nat → Int32) : wrO W rg mv o = wrO W idR mv o := by
  funext j
  unfold wrO
  rw [rg_id h]
theorem tv_mv {nm : Nat} (hnm : nm ≤ 3) {mv mw : Nat → Int32} (h : ∀ i, i < nm → mv i = mw i) {t : Int32} (ht : WFt nm t) : tvV mv t = tvV mw t := by
  unfold tvV
  rcases ht with ⟨u, hu, e⟩ | ⟨i, hi, e⟩
  · have n : ¬ (16 : Int32) ≤ nI u := nI_ge (b := 16) (by omega) (by omega)
    rw [e, if_neg n, if_neg n]
  · have v := i16n (i := i) (by omega)
    rw [e, if_pos v.1, if_pos v.1, v.2.2]
    unfold nmV
    rw [nI_clamp (by omega), h i hi]
theorem wrM_mv {W nr nm : Nat} (hnm : nm ≤ 3) {mv mw : Nat → Int32} (h : ∀ i, i < nm → mv i = mw i) {o : Nat → Int32} (ho : WFo nr nm o) : wrM W mv o = wrM W mw o := by
  obtain ⟨k, k1, k2, k3, k4, k5⟩ := ho
  have ko : opO o = k := by unfold opO; rw [k2]; exact nI_clamp (by omega)
  funext j
  unfold wrM
  by_cases c : j = 2 ∧ numN (opO o) = true
  · have e : numM W mv o = numM W mw o := by
      unfold numM
      rw [tv_mv hnm h (k4 (by rw [← ko]; exact c.2))]
      rcases k5 with k5 | ⟨_, _, k6⟩
      · rw [k5]; rfl
      · rw [tv_mv hnm h k6]
    rw [e]
  · rw [if_neg c, if_neg c]
theorem map_mv {W nr nm : Nat} (hnm : nm ≤ 3) {mv mw : Nat → Int32} (h : ∀ i, i < nm → mv i = mw i) : ∀ os : List (Nat → Int32), (∀ o, o ∈ os → WFo nr nm o) → os.map (wrM W mv) = os.map (wrM W mw) := fun os ho => List.map_congr_left (fun o hm => wrM_mv hnm h (ho o hm))
/-- what the class's machine tells of a side that is written out -/
theorem like1 {W nr nm : Nat} (hW : W = 1 ∨ W = 2 ∨ W = 3) (hnr : nr ≤ 4) (hnm : nm ≤ 3) {hc : Bool} {t v rg mv : Nat → Int32} (hV : VB W (wdN nr hc) (wdN nr hc + nm) t v) (hrg : ∀ i, i < 4 → rg i = nI i) (hmv : ∀ i, i < nm → mv i = v (wdN nr hc + i)) {os : List (Nat → Int32)} (ho : ∀ o, o ∈ os → WFo nr nm o) :
    pkU W (exL W ((os.map (keepF W)).map (wrO W rg mv)) (unp W (pkU W (w0F nr hc v) 8))) 8 = pkU W (exS W nr hc os v) 8 ∧ ∀ e, e ∈ (os.map (keepF W)).map (wrO W rg mv) → PWF e := by
  have hm : MV nm mv := fun i hi => by rw [hmv i hi]; exact hV.mv i hi
  have e1 : (os.map (keepF W)).map (wrO W rg mv) = (os.map (keepF W)).map (wrO W idR mv) := by
    apply List.map_congr_left
    intro o _
    exact wrO_rg hrg o
  have P : ∀ e, e ∈ (os.map (keepF W)).map (wrO W rg mv) → PWF e := by
    intro e he
    rw [e1] at he
    obtain ⟨c, hc', ec⟩ := List.mem_map.mp he
    obtain ⟨o, ho', eo⟩ := List.mem_map.mp hc'
    obtain ⟨k, x, y, z, h8, q0, q1, q2, q3, _, _⟩ := wrM_PWF hW hnr hnm hm (ho o ho')
    rw [← ec, ← eo]
    exact ⟨k, x, y, z, h8, by rw [wr_same hW hnr hnm hm (ho o ho') (by decide)]; exact q0, by rw [wr_same hW hnr hnm hm (ho o ho') (by decide)]; exact q1, by rw [wr_same hW hnr hnm hm (ho o ho') (by decide)]; exact q2, by rw [wr_same hW hnr hnm hm (ho o ho') (by decide)]; exact q3⟩
  refine ⟨pkU_cong 8 (fun i hi => ?_), P⟩
  rw [exL_cong _ _ (w0F nr hc v) P (fun j hj => unp_pk hW (hV.wd hnr) hj) i hi, e1, exL_same hW hnr hnm hm os _ ho, map_mv hnm (mw := mvF (wdN nr hc) v) hmv os ho]
  rfl
section TRC
variable {d : Nat} {W : Nat}
theorem c58 {σ : jS} {B br bn : Nat} (hB : BD σ B br bn) (hn : ¬ B = br) : ∃ σ', jx d 58 0 [some (.ref B), none] [] σ = some (none, σ') ∧ FR [br] σ σ' ∧ ∀ i, i < 4 → jA σ' br i = nI i := by
  obtain ⟨h1, h2, h3, h4, h5, h6, h7⟩ := hB
  have L : ∀ f n σ1, n + f = 4 → FR [br] σ σ1 → (∀ i, i < n → jA σ1 br i = nI i) → ∃ σ', jx d 58 2 [some (.ref B), some (.int (nI n))] [] σ1 = some (none, σ') ∧ FR [br] σ σ' ∧ ∀ i, i < 4 → jA σ' br i = nI i := by
    intro f
    induction f with
    | zero =>
      intro n σ1 hn' F h
      have e : n = 4 := by omega
      subst e
      have rg : (jR σ1 0 B).getD 0 = br := by rw [F.1.2.2.1, h2]; rfl
      refine ⟨σ1, ?_, F, h⟩
      rw [k58_2 (by rw [F.1.1]; exact h1) (by rw [F.1.2.2.1, h2]; exact fun z => nomatch z) (by rw [rg, F.1.1, h4]; decide), rg, F.1.2.1, h5, if_pos (show Int32.ofNat 4 ≤ nI 4 by decide), k58_24]
    | succ f ih =>
      intro n σ1 hn' F h
      have rg : (jR σ1 0 B).getD 0 = br := by rw [F.1.2.2.1, h2]; rfl
      have rn : jR σ1 0 B ≠ none := by rw [F.1.2.2.1, h2]; exact fun z => nomatch z
      have gt : ¬ Int32.ofNat 4 ≤ nI n := nI_ge (by omega) (by omega)
      obtain ⟨σ', e, F', h'⟩ := ih (n + 1) (jsA σ1 br n (nI n)) (by omega) (F.A (by simp)) (fun i hi => by
        rw [zA_A]
        by_cases q : i = n
        · rw [if_pos ⟨rfl, q⟩, q]
        · rw [if_neg (fun w => q w.2)]; exact h i (by omega))
      refine ⟨σ', ?_, F', h'⟩
      rw [← e, k58_2 (by rw [F.1.1]; exact h1) rn (by rw [rg, F.1.1, h4]; decide), rg, F.1.2.1, h5, if_neg gt, k58_11 (by rw [F.1.1]; exact h1) rn (by rw [rg, F.1.1]; exact h4) (by rw [rg, F.1.2.1, h5]; exact jin_n (by omega) (by decide)), rg, nI_clamp (by omega), ← nI_succ]
  rw [k58_0]
  exact L 4 0 σ rfl (FR.refl _ σ) (fun i hi => absurd hi (Nat.not_lt_zero i))
theorem c60 {σ : jS} {B br bn k : Nat} (hB : BD σ B br bn) (hk : k < 3) (v : Int32) : jx d 60 0 [some (.ref B), some (.int (nI k)), some (.int v)] [] σ = some (none, jsA σ bn k v) := by
  obtain ⟨h1, h2, h3, h4, h5, h6, h7⟩ := hB
  have rg : (jR σ 1 B).getD 0 = bn := by rw [h3]; rfl
  have rn : jR σ 1 B ≠ none := by rw [h3]; exact fun z => nomatch z
  have gt : ¬ Int32.ofNat 3 ≤ nI k := nI_ge (by omega) (by omega)
  rw [k60_0, if_neg (nn0 (by omega)), k60_4 h1 rn (by rw [rg, h6]; decide), rg, h7, if_neg gt, k60_13 h1 rn (by rw [rg]; exact h6) (by rw [rg, h7]; exact jin_n (by omega) (by decide)), rg, nI_clamp (by omega)]
theorem BD34 {σ : jS} (hS : SH σ) : BD σ 34 35 36 := ⟨sT_34 hS, sR_0_34 hS, sR_1_34 hS, sT_35 hS, sN_35 hS, sT_36 hS, sN_36 hS⟩
theorem BD38 {σ : jS} (hS : SH σ) : BD σ 38 39 40 := ⟨sT_38 hS, sR_0_38 hS, sR_1_38 hS, sT_39 hS, sN_39 hS, sT_40 hS, sN_40 hS⟩
theorem c59 {σ : jS} {r q1 a1 q2 a2 t u wd nm n1 n2 : Nat} {c1 c2 : List (Nat → Int32)} {v : Nat → Int32} (hS : SH σ) (hQ : ST σ) (hU : RU σ r q1 a1 q2 a2 t u) (hbig : ∀ x, x ∈ [r, q1, a1, q2, a2, t, u] → 81 ≤ x) (h1 : RO σ q1 a1 4 c1) (h2 : RO σ q2 a2 4 c2) (k1 : ∀ o, o ∈ c1 → OPk o) (k2 : ∀ o, o ∈ c2 → OPk o) (e5 : jI σ 325 r = nI nm) (e6 : jI σ 326 r = nI (wd + nm)) (hnm : nm ≤ 3) (hN : wd + nm ≤ 11) (w1 : RW σ 30 31 4 n1) (w2 : RW σ 32 33 4 n2) (hv : ∀ k, k < 11 → jA σ 37 k = v k) :
    ∃ σ', jx (d + 3) 59 0 [some (.ref 27), some (.ref r), some (.int (nI W)), none, none] [] σ = some (none, σ') ∧ FR [30, 31, 32, 33, 36] σ σ' ∧ (∀ i, i < nm → jA σ' 36 i = v (wd + i)) ∧ RO σ' 30 31 4 (c1.map (wrO W (jA σ 35) (jA σ' 36))) ∧ RO σ' 32 33 4 (c2.map (wrO W (jA σ 35) (jA σ' 36))) := by
  have tr : jT σ r = 6 := hU.1
  have b1 : 81 ≤ q1 := hbig q1 (by simp)
  have b2 : 81 ≤ a1 := hbig a1 (by simp)
  have b3 : 81 ≤ q2 := hbig q2 (by simp)
  have b4 : 81 ≤ a2 := hbig a2 (by simp)
  have b5 : 81 ≤ r := hbig r (by simp)
  have L : ∀ f n σ1, n + f = nm → FR [36] σ σ1 → (∀ i, i < n → jA σ1 36 i = v (wd + i)) → ∃ σ2, jx (d + 3) 59 13 [some (.ref 27), some (.ref r), some (.int (nI W)), some (.int (nI wd)), some (.int (nI n))] [] σ1 = jx (d + 3) 59 62 [some (.ref 27), some (.ref r), some (.int (nI W)), some (.int (nI wd)), some (.int (nI nm))] [] σ2 ∧ FR [36] σ σ2 ∧ ∀ i, i < nm → jA σ2 36 i = v (wd + i) := by
    intro f
    induction f with
    | zero =>
      intro n σ1 hn F h
      have e : n = nm := by omega
      subst e
      refine ⟨σ1, ?_, F, h⟩
      rw [k59_13 (by rw [F.1.1]; exact tr), (F.2 r (by simp; omega)).1, e5, if_pos (nI_le (Nat.le_refl _) (by omega))]
    | succ f ih =>
      intro n σ1 hn F h
      have hS1 := F.sh hS
      have rg6 : (jR σ1 516 27).getD 0 = 37 := by rw [sR_516_27 hS1]; rfl
      have rn6 : jR σ1 516 27 ≠ none := by rw [sR_516_27 hS1]; exact fun z => nomatch z
      have rg5 : (jR σ1 515 27).getD 0 = 34 := by rw [sR_515_27 hS1]; rfl
      have rn5 : jR σ1 515 27 ≠ none := by rw [sR_515_27 hS1]; exact fun z => nomatch z
      have g11 : ¬ Int32.ofNat 11 ≤ nI (wd + n) := nI_ge (by omega) (by omega)
      obtain ⟨σ2, e2, F2, h2'⟩ := ih (n + 1) (jsA σ1 36 n (v (wd + n))) (by omega) (F.A (by simp)) (fun i hi => by
        rw [zA_A]
        by_cases q : i = n
        · rw [if_pos ⟨rfl, q⟩, q]
        · rw [if_neg (fun w => q w.2)]; exact h i (by omega))
      refine ⟨σ2, ?_, F2, h2'⟩
      rw [← e2, k59_13 (by rw [F.1.1]; exact tr), (F.2 r (by simp; omega)).1, e5, if_neg (nI_ge (by omega) (by omega)), k59_22, if_neg (nn0 (by omega)), k59_26 (sT_27 hS1) rn6 (by rw [rg6, sT_37 hS1]; decide), rg6, sN_37 hS1, nadd, if_neg g11]
      rw [k59_38 (sT_27 hS1) rn5 rn6 (by rw [rg6]; exact Or.inl (sT_37 hS1)) (by rw [rg6, sN_37 hS1, nadd]; exact jin_n (by omega) (by decide)) (by rw [rg5]; exact sT_34 hS1), rg5, rg6, nadd, nI_clamp (by omega), (F.2 37 (by decide)).2, hv (wd + n) (by omega), c60 (BD34 hS1) (by omega)]
      simp only [Option.bind_some, Option.toList_none, List.nil_append]
      rw [k59_56, ← nI_succ]
  obtain ⟨σ2, e2, F2, h2'⟩ := L nm 0 σ (by omega) (FR.refl _ σ) (fun i hi => absurd hi (Nat.not_lt_zero i))
  have hS2 := F2.sh hS
  have hQ2 := F2.st (by decide) (by decide) hQ
  obtain ⟨σ3, e3, F3, g3, R3⟩ := c61 (d := d) (W := W) hS2 hQ2 (w1.frame F2 (by decide)) (h1.frame F2 (by simp; omega) (by simp; omega)) (BD34 hS2) k1 (by decide) (fun x hx => by simp at hx; simp; omega)
  have hS3 := F3.sh hS2
  have hQ3 := F3.st (by decide) (by decide) hQ2
  have F23 : FR [30, 31, 36] σ σ3 := (F2.mono (by decide)).trans (F3.mono (by decide))
  obtain ⟨σ4, e4, F4, g4, R4⟩ := c61 (d := d) (W := W) hS3 hQ3 (w2.frame F23 (by decide)) (h2.frame F23 (by simp; omega) (by simp; omega)) (BD34 hS3) k2 (by decide) (fun x hx => by simp at hx; simp; omega)
  have x35 : jA σ2 35 = jA σ 35 := by funext i; exact (F2.2 35 (by decide)).2 i
  have x35' : jA σ3 35 = jA σ 35 := by funext i; exact (F23.2 35 (by decide)).2 i
  have x36 : jA σ4 36 = jA σ2 36 := by funext i; rw [(F4.2 36 (by decide)).2, (F3.2 36 (by decide)).2]
  have x36' : jA σ3 36 = jA σ2 36 := by funext i; exact (F3.2 36 (by decide)).2 i
  refine ⟨σ4, ?_, (F23.mono (by decide)).trans (F4.mono (by decide)), fun i hi => by rw [x36]; exact h2' i hi, ?_, ?_⟩
  · have rg3 : (jR σ2 513 27).getD 0 = 30 := by rw [sR_513_27 hS2]; rfl
    have rg5 : (jR σ2 515 27).getD 0 = 34 := by rw [sR_515_27 hS2]; rfl
    have rg4 : (jR σ3 514 27).getD 0 = 32 := by rw [sR_514_27 hS3]; rfl
    have rg5' : (jR σ3 515 27).getD 0 = 34 := by rw [sR_515_27 hS3]; rfl
    have tr2 : jT σ2 r = 6 := by rw [F2.1.1]; exact tr
    have tr3 : jT σ3 r = 6 := by rw [F23.1.1]; exact tr
    have ra : (jR σ2 320 r).getD 0 = q1 := by rw [F2.1.2.2.1, hU.2.1]; rfl
    have rb : (jR σ3 321 r).getD 0 = q2 := by rw [F23.1.2.2.1, hU.2.2.1]; rfl
    rw [k59_0 tr, e6, e5, nsub (by omega), Nat.add_sub_cancel]
    have e2' : jx (d + 3) 59 13 [some (.ref 27), some (.ref r), some (.int (nI W)), some (.int (nI wd)), some (.int 0)] [] σ = _ := e2
    rw [e2', k59_62 (sT_27 hS2) (by rw [sR_513_27 hS2]; exact fun z => nomatch z) tr2 (by rw [F2.1.2.2.1, hU.2.1]; exact fun z => nomatch z) (by rw [sR_515_27 hS2]; exact fun z => nomatch z) (by rw [rg3]; exact sT_30 hS2), rg3, rg5, ra, e3]
    simp only [Option.bind_some, Option.toList_none, List.nil_append]
    rw [k59_78 (sT_27 hS3) (by rw [sR_514_27 hS3]; exact fun z => nomatch z) tr3 (by rw [F23.1.2.2.1, hU.2.2.1]; exact fun z => nomatch z) (by rw [sR_515_27 hS3]; exact fun z => nomatch z) (by rw [rg4]; exact sT_32 hS3), rg4, rg5', rb, e4]
    simp only [Option.bind_some, Option.toList_none, List.nil_append]
    rw [k59_94]
  · rw [x35, ← x36] at R3
    exact R3.frame F4 (by decide) (by decide)
  · rw [x35', x36', ← x36] at R4
    exact R4
end TRC
end S_69
section S_70
/-! the class's trial: words, goOn, gain -/
theorem pkU_zero {W : Nat} {w : Nat → Int32} {n : Nat} : ∀ m, (∀ i, n ≤ i → i < n + m → w i = 0) → pkU W w (n + m) = pkU W w n := by
  intro m
  induction m with
  | zero => intro _; rfl
  | succ m ih =>
    intro h
    show pkU W w (n + m) ||| (w (n + m) <<< _) = _
    rw [ih (fun i h1 h2 => h i h1 (by omega)), h (n + m) (by omega) (by omega), Int32.zero_shiftLeft, Int32.or_zero]
theorem prcL_keep {W : Nat} : ∀ (os : List (Nat → Int32)) (a : Int32), prcL (os.map (keepF W)) a = prcL os a := by
  intro os
  induction os with
  | nil => intro a; rfl
  | cons o os ih =>
    intro a
    show prcL (os.map (keepF W)) (a + nI (priN (opO (keepF W o)))) = prcL os (a + nI (priN (opO o)))
    rw [(keep_op W o).2.1]
    exact ih _
section TRD
variable {d : Nat} {W : Nat}
theorem c68 {σ : jS} {r nr nm : Nat} {hc : Bool} {v : Nat → Int32} (hS : SH σ) (tr : jT σ r = 6) (e4 : jI σ 324 r = nI nr) (e0 : jI σ 330 r = if hc = true then 1 else 0) (hnr : nr ≤ 4) (hv : ∀ k, k < 11 → jA σ 37 k = v k) :
    jx d 68 0 [some (.ref 27), some (.ref r), some (.int (nI W)), none, none] [] σ = some (some (.int (pkU W (w0F nr hc v) 8)), σ) := by
  have rg : (jR σ 516 27).getD 0 = 37 := by rw [sR_516_27 hS]; rfl
  have rn : jR σ 516 27 ≠ none := by rw [sR_516_27 hS]; exact fun z => nomatch z
  have L1 : ∀ f n, n + f = nr → jx d 68 5 [some (.ref 27), some (.ref r), some (.int (nI W)), some (.int (pkU W (w0F nr hc v) n)), some (.int (nI n))] [] σ = jx d 68 41 [some (.ref 27), some (.ref r), some (.int (nI W)), some (.int (pkU W (w0F nr hc v) nr)), some (.int (nI nr))] [] σ := by
    intro f
    induction f with
    | zero =>
      intro n hn
      have e : n = nr := by omega
      subst e
      rw [k68_5 tr, e4, if_pos (nI_le (Nat.le_refl _) (by omega))]
    | succ f ih =>
      intro n hn
      have g4 : ¬ (4 : Int32) ≤ nI n := nI_ge (b := 4) (by omega) (by omega)
      have ew : w0F nr hc v n = v n := if_pos (by omega)
      rw [k68_5 tr, e4, if_neg (nI_ge (by omega) (by omega)), k68_14, if_neg g4, k68_20 (sT_27 hS) rn (by rw [rg]; exact Or.inl (sT_37 hS)) (by rw [rg, sN_37 hS]; exact jin_n (by omega) (by decide)), rg, nI_clamp (by omega), hv n (by omega), ← ew, ← nI_succ]
      exact ih (n + 1) (by omega)
  have z4 : pkU W (w0F nr hc v) 4 = pkU W (w0F nr hc v) nr := by
    have := pkU_zero (W := W) (w := w0F nr hc v) (n := nr) (4 - nr) (fun i h1 h2 => by
      unfold w0F
      rw [if_neg (by omega), if_neg (fun z => by omega)])
    rw [show nr + (4 - nr) = 4 by omega] at this
    exact this
  have s1 := L1 nr 0 (by omega)
  have s1' : jx d 68 5 [some (.ref 27), some (.ref r), some (.int (nI W)), some (.int 0), some (.int 0)] [] σ = _ := s1
  rw [k68_0, s1', k68_41, ← z4]
  cases hc with
  | false =>
    have e0' : jI σ 330 r = 0 := e0
    have z8 : pkU W (w0F nr false v) 8 = pkU W (w0F nr false v) 4 := pkU_zero (n := 4) 4 (fun i h1 h2 => by
      unfold w0F
      rw [if_neg (by omega), if_neg (fun z => absurd z.2 (by decide))])
    rw [k68_44 tr, e0', if_pos rfl, k68_100, z8]
  | true =>
    have e0' : jI σ 330 r = 1 := e0
    have L2 : ∀ f n, n + f = 4 → jx d 68 44 [some (.ref 27), some (.ref r), some (.int (nI W)), some (.int (pkU W (w0F nr true v) (4 + n))), some (.int (nI n))] [] σ = some (some (.int (pkU W (w0F nr true v) 8)), σ) := by
      intro f
      induction f with
      | zero =>
        intro n hn
        have e : n = 4 := by omega
        subst e
        rw [k68_44 tr, e0', if_neg (by decide), k68_51, if_pos (show (4 : Int32) ≤ nI 4 by decide), k68_100]
      | succ f ih =>
        intro n hn
        have g4 : ¬ (4 : Int32) ≤ nI n := nI_ge (b := 4) (by omega) (by omega)
        have g11 : ¬ Int32.ofNat 11 ≤ nI (nr + n) := nI_ge (by omega) (by omega)
        have ew : w0F nr true v (4 + n) = v (nr + n) := by
          unfold w0F
          rw [if_neg (by omega), if_pos ⟨by omega, rfl⟩]
          congr 1
          omega
        have p4 : (4 : Int32) + nI n = nI (4 + n) := by rw [show (4 : Int32) = nI 4 from rfl, nadd]
        rw [k68_44 tr, e0', if_neg (by decide), k68_51, if_neg g4, k68_57 tr (sT_27 hS) rn (by rw [rg, sT_37 hS]; decide), rg, sN_37 hS, e4, nadd, if_neg g11]
        rw [k68_72 (sT_27 hS) rn tr (by rw [rg]; exact Or.inl (sT_37 hS)) (by rw [rg, sN_37 hS, e4, nadd]; exact jin_n (by omega) (by decide)), rg, e4, nadd, nI_clamp (by omega), hv (nr + n) (by omega), ← ew, ← nI_succ, p4]
        exact ih (n + 1) (by omega)
    exact L2 4 0 rfl
theorem c72 {σ : jS} {r t wd N : Nat} {tp v : Nat → Int32} (hS : SH σ) (tr : jT σ r = 6) (rt : jR σ 322 r = some t) (tt : jT σ t = 20) (nt : jN σ t = 11) (ht : 81 ≤ t) (e6 : jI σ 326 r = nI N) (hN : N ≤ 11) (htp : ∀ k, k < N → jA σ t k = tp k) (hr : 81 ≤ r) (hV : VB W wd N tp v) (hv : ∀ k, k < 11 → jA σ 37 k = v k) :
    ∃ σ', jx (d + 1) 72 0 [some (.ref 27), some (.ref r), none] [] σ = some (none, σ') ∧ FR [37] σ σ' ∧ ∀ k, k < 11 → jA σ' 37 k = odo tp N v k := by
  have L : ∀ n w σ1, n ≤ N → FR [37] σ σ1 → VB W wd N tp w → (∀ k, k < 11 → jA σ1 37 k = w k) → ∃ σ', jx (d + 1) 72 15 [some (.ref 27), some (.ref r), some (.int (nI n - 1))] [] σ1 = some (none, σ') ∧ FR [37] σ σ' ∧ ∀ k, k < 11 → jA σ' 37 k = odo tp n w k := by
    intro n
    induction n with
    | zero =>
      intro w σ1 hn F hVw hw
      refine ⟨σ1, ?_, F, hw⟩
      rw [k72_15, if_pos (by decide), k72_58]
    | succ n ih =>
      intro w σ1 hn F hVw hw
      have hS1 := F.sh hS
      have rg : (jR σ1 516 27).getD 0 = 37 := by rw [sR_516_27 hS1]; rfl
      have rn : jR σ1 516 27 ≠ none := by rw [sR_516_27 hS1]; exact fun z => nomatch z
      have rg2 : (jR σ1 322 r).getD 0 = t := by rw [F.1.2.2.1, rt]; rfl
      have rn2 : jR σ1 322 r ≠ none := by rw [F.1.2.2.1, rt]; exact fun z => nomatch z
      have e1 : nI (n + 1) - 1 = nI n := by rw [show (1 : Int32) = nI 1 from rfl, nsub (by omega)]; rfl
      have tn : jA σ1 t n = tp n := by rw [(F.2 t (by simp; omega)).2]; exact htp n (by omega)
      have wn : jA σ1 37 n = w n := hw n (by omega)
      have gn : jin 11 (nI n) := jin_n (by omega) (by decide)
      have qn : (nI n).toNatClampNeg = n := nI_clamp (by omega)
      have st : ∀ x : Int32, ∀ k, k < 11 → jA (jsA σ1 37 n x) 37 k = up6 w n x k := by
        intro x k hk
        rw [zA_A]
        unfold up6
        by_cases q : k = n
        · rw [if_pos ⟨rfl, q⟩, if_pos q]
        · rw [if_neg (fun z => q z.2), if_neg q]; exact hw k hk
      rw [e1, k72_15, if_neg (nn0 (by omega)), k72_19 (sT_27 hS1) rn (by rw [rg]; exact Or.inl (sT_37 hS1)) (by rw [rg, sN_37 hS1]; exact gn) (by rw [F.1.1]; exact tr) rn2 (by rw [rg2, F.1.1]; exact Or.inl tt) (by rw [rg2, F.1.2.1, nt]; exact gn), rg, rg2, qn, tn, wn]
      show ∃ σ', _ ∧ _ ∧ ∀ k, k < 11 → jA σ' 37 k = (if w n = tp n then odo tp n (up6 w n 0) else up6 w n (w n + 1)) k
      by_cases q : w n = tp n
      · have le : tp n ≤ w n := (hVw.le (by omega)).mpr q
        obtain ⟨σ', e', F', h'⟩ := ih (up6 w n 0) (jsA σ1 37 n 0) (by omega) (F.A (by simp)) (hVw.up0 n) (st 0)
        refine ⟨σ', ?_, F', fun k hk => by rw [if_pos q]; exact h' k hk⟩
        have em : nI n + (-1) = nI n - 1 := by rw [Int32.sub_eq_add_neg]
        rw [if_pos le, k72_45 (sT_27 hS1) rn (by rw [rg]; exact sT_37 hS1) (by rw [rg, sN_37 hS1]; exact gn), rg, qn, em]
        exact e'
      · have le : ¬ tp n ≤ w n := fun z => q ((hVw.le (by omega)).mp z)
        refine ⟨jsA σ1 37 n (w n + 1), ?_, F.A (by simp), fun k hk => by rw [if_neg q]; exact st _ k hk⟩
        rw [if_neg le, k72_34 (sT_27 hS1) rn (by rw [rg]; exact Or.inl (sT_37 hS1)) (by rw [rg, sN_37 hS1]; exact gn) (by rw [rg]; exact sT_37 hS1), rg, qn, wn]
  obtain ⟨σ', e', F', h'⟩ := L N v σ (Nat.le_refl _) (FR.refl _ σ) hV hv
  have rg : (jR σ 516 27).getD 0 = 37 := by rw [sR_516_27 hS]; rfl
  have mn : (if Int32.ofNat 11 < nI N then Int32.ofNat 11 else nI N) = nI N := if_neg (by rw [show Int32.ofNat 11 = nI 11 from rfl, n31 (by decide) (by omega)]; omega)
  refine ⟨σ', ?_, F', h'⟩
  rw [k72_0 tr (sT_27 hS) (by rw [sR_516_27 hS]; exact fun z => nomatch z) (by rw [rg, sT_37 hS]; decide), rg, sN_37 hS, e6, c5, mn]
  simp only [Option.bind_some, Option.toList_some, List.cons_append, List.nil_append]
  rw [k72_12]
  exact e'
theorem c73 {σ : jS} {r q1 a1 q2 a2 t u : Nat} {c1 c2 : List (Nat → Int32)} (hS : SH σ) (hQ : ST σ) (hU : RU σ r q1 a1 q2 a2 t u) (h1 : RO σ q1 a1 4 c1) (h2 : RO σ q2 a2 4 c2) (k1 : ∀ o, o ∈ c1 → OPk o) (k2 : ∀ o, o ∈ c2 → OPk o) : jx (d + 3) 73 0 [some (.ref r)] [] σ = some (some (.int (prcL c1 0 - prcL c2 0)), σ) := by
  have r1 : (jR σ 320 r).getD 0 = q1 := by rw [hU.2.1]; rfl
  have r2 : (jR σ 321 r).getD 0 = q2 := by rw [hU.2.2.1]; rfl
  rw [k73_0 hU.1 (by rw [hU.2.1]; exact fun z => nomatch z) (by rw [r1]; exact h1.1.1), r1, c74 h1 hS hQ k1]
  simp only [Option.bind_some, Option.toList_some, List.cons_append, List.nil_append]
  rw [k73_7 hU.1 (by rw [hU.2.2.1]; exact fun z => nomatch z) (by rw [r2]; exact h2.1.1), r2, c74 h2 hS hQ k2]
  simp only [Option.bind_some, Option.toList_some, List.cons_append, List.nil_append]
  rw [k73_14]
end TRD
end S_70
section S_71
/-! the class's trial whole -/
/-- a rule of the class as it stands, before its trial -/
def CR (σ : jS) (W r q1 a1 q2 a2 t u nr nm : Nat) (hc : Bool) (o1 o2 : List (Nat → Int32)) (tp : Nat → Int32) : Prop :=
  RU σ r q1 a1 q2 a2 t u ∧ (∀ x, x ∈ [r, q1, a1, q2, a2, t, u] → 81 ≤ x) ∧ RO σ q1 a1 4 (o1.map (keepF W)) ∧ RO σ q2 a2 4 (o2.map (keepF W)) ∧ jI σ 324 r = nI nr ∧ jI σ 325 r = nI nm ∧ jI σ 326 r = nI (wdN nr hc + nm) ∧ (jI σ 330 r = if hc = true then 1 else 0) ∧ (∀ k, k < wdN nr hc + nm → jA σ t k = tp k)
theorem CR.frame {σ σ' : jS} {l : List Nat} {W r q1 a1 q2 a2 t u nr nm : Nat} {hc : Bool} {o1 o2 : List (Nat → Int32)} {tp : Nat → Int32} (h : CR σ W r q1 a1 q2 a2 t u nr nm hc o1 o2 tp) (f : FR l σ σ') (hn : ∀ x, x ∈ [q1, a1, q2, a2, t] → x ∉ l) (hr : ∀ g, g ≠ 328 → g ≠ 331 → jI σ' g r = jI σ g r) : CR σ' W r q1 a1 q2 a2 t u nr nm hc o1 o2 tp := by
  obtain ⟨h1, h2, h3, h4, h5, h6, h7, h8, h9⟩ := h
  exact ⟨h1.frame f, h2, h3.frame f (hn q1 (by simp)) (hn a1 (by simp)), h4.frame f (hn q2 (by simp)) (hn a2 (by simp)), by rw [hr 324 (by decide) (by decide)]; exact h5, by rw [hr 325 (by decide) (by decide)]; exact h6, by rw [hr 326 (by decide) (by decide)]; exact h7, by rw [hr 330 (by decide) (by decide)]; exact h8, fun k hk => by rw [(f.2 t (hn t (by simp))).2]; exact h9 k hk⟩
theorem map_op {W nr nm : Nat} {os : List (Nat → Int32)} (h : ∀ o, o ∈ os → WFo nr nm o) : ∀ c, c ∈ os.map (keepF W) → OPk c := by
  intro c hc
  obtain ⟨o, ho, eo⟩ := List.mem_map.mp hc
  have q := (h o ho).op
  have k := keep_op W o
  rw [← eo]
  exact ⟨by rw [k.2.1]; exact q.1, by rw [k.1, k.2.1]; exact q.2⟩
def trL (r u : Nat) : List Nat := [r, u, 29, 30, 31, 32, 33, 35, 36, 37]
theorem trL_out {r q1 a1 q2 a2 t u : Nat} (h : [r, q1, a1, q2, a2, t, u].Nodup) (hbig : ∀ x, x ∈ [r, q1, a1, q2, a2, t, u] → 81 ≤ x) : ∀ x, x ∈ [q1, a1, q2, a2, t] → x ∉ trL r u := by
  intro x hx
  have hb : 81 ≤ x := hbig x (by simp at hx; simp; omega)
  have hne : x ≠ r ∧ x ≠ u := by
    simp only [List.nodup_cons, List.mem_cons, List.not_mem_nil, or_false, not_or, List.nodup_nil, not_false_eq_true, and_true] at h
    obtain ⟨⟨d1, d2, d3, d4, d5, d6⟩, ⟨d7, d8, d9, d10, d11⟩, ⟨d12, d13, d14, d15⟩, ⟨d16, d17, d18⟩, ⟨d19, d20⟩, d21⟩ := h
    simp only [List.mem_cons, List.not_mem_nil, or_false] at hx
    rcases hx with e | e | e | e | e
    · rw [e]; exact ⟨fun z => d1 z.symm, d11⟩
    · rw [e]; exact ⟨fun z => d2 z.symm, d15⟩
    · rw [e]; exact ⟨fun z => d3 z.symm, d18⟩
    · rw [e]; exact ⟨fun z => d4 z.symm, d20⟩
    · rw [e]; exact ⟨fun z => d5 z.symm, d21⟩
  simp only [trL, List.mem_cons, List.not_mem_nil, or_false, not_or]
  refine ⟨hne.1, hne.2, ?_⟩
  omega
section TRE
variable {d : Nat} {W : Nat}
theorem c57 {σ : jS} {r q1 a1 q2 a2 t u nr nm n1 n2 : Nat} {hc : Bool} {o1 o2 : List (Nat → Int32)} {tp : Nat → Int32} (hS : SH σ) (hQ : ST σ) (hC : CR σ W r q1 a1 q2 a2 t u nr nm hc o1 o2 tp) (hnr : nr ≤ 4) (hnm : nm ≤ 3) (f1 : ∀ o, o ∈ o1 → WFo nr nm o) (f2 : ∀ o, o ∈ o2 → WFo nr nm o) (w1 : RW σ 30 31 4 n1) (w2 : RW σ 32 33 4 n2) :
    ∃ σ', jx (d + 4) 57 0 [some (.ref 27), some (.ref r), some (.int (nI W)), none] [] σ = some (none, σ') ∧ FR [30, 31, 32, 33, 35, 36, 37] σ σ' ∧ (∀ k, k < 11 → jA σ' 37 k = 0) ∧ (∀ i, i < 4 → jA σ' 35 i = nI i) ∧ ∃ mv, RO σ' 30 31 4 ((o1.map (keepF W)).map (wrO W (jA σ' 35) mv)) ∧ RO σ' 32 33 4 ((o2.map (keepF W)).map (wrO W (jA σ' 35) mv)) ∧ (∀ i, i < nm → mv i = 0) := by
  have hC0 := hC
  obtain ⟨hU, hbig, h1, h2, e4, e5, e6, e0, htp⟩ := hC
  have br : 81 ≤ r := hbig r (by simp)
  have bq1 : 81 ≤ q1 := hbig q1 (by simp)
  have ba1 : 81 ≤ a1 := hbig a1 (by simp)
  have bq2 : 81 ≤ q2 := hbig q2 (by simp)
  have ba2 : 81 ≤ a2 := hbig a2 (by simp)
  have bt : 81 ≤ t := hbig t (by simp)
  have hN : wdN nr hc + nm ≤ 11 := by unfold wdN; cases hc <;> simp <;> omega
  have L : ∀ f n σ1, n + f = 11 → FR [37] σ σ1 → (∀ k, k < n → jA σ1 37 k = 0) → ∃ σ2, jx (d + 4) 57 2 [some (.ref 27), some (.ref r), some (.int (nI W)), some (.int (nI n))] [] σ1 = jx (d + 4) 57 24 [some (.ref 27), some (.ref r), some (.int (nI W)), some (.int (nI 11))] [] σ2 ∧ FR [37] σ σ2 ∧ ∀ k, k < 11 → jA σ2 37 k = 0 := by
    intro f
    induction f with
    | zero =>
      intro n σ1 hn F h
      have e : n = 11 := by omega
      subst e
      have hS1 := F.sh hS
      have rg : (jR σ1 516 27).getD 0 = 37 := by rw [sR_516_27 hS1]; rfl
      refine ⟨σ1, ?_, F, h⟩
      rw [k57_2 (sT_27 hS1) (by rw [sR_516_27 hS1]; exact fun z => nomatch z) (by rw [rg, sT_37 hS1]; decide), rg, sN_37 hS1, if_pos (show Int32.ofNat 11 ≤ nI 11 by decide)]
    | succ f ih =>
      intro n σ1 hn F h
      have hS1 := F.sh hS
      have rg : (jR σ1 516 27).getD 0 = 37 := by rw [sR_516_27 hS1]; rfl
      have rn : jR σ1 516 27 ≠ none := by rw [sR_516_27 hS1]; exact fun z => nomatch z
      have gt : ¬ Int32.ofNat 11 ≤ nI n := nI_ge (by omega) (by omega)
      obtain ⟨σ2, e2, F2, h2'⟩ := ih (n + 1) (jsA σ1 37 n 0) (by omega) (F.A (by simp)) (fun k hk => by
        rw [zA_A]
        by_cases q : k = n
        · rw [if_pos ⟨rfl, q⟩]
        · rw [if_neg (fun z => q z.2)]; exact h k (by omega))
      refine ⟨σ2, ?_, F2, h2'⟩
      rw [← e2, k57_2 (sT_27 hS1) rn (by rw [rg, sT_37 hS1]; decide), rg, sN_37 hS1, if_neg gt, k57_11 (sT_27 hS1) rn (by rw [rg]; exact sT_37 hS1) (by rw [rg, sN_37 hS1]; exact jin_n (by omega) (by decide)), rg, nI_clamp (by omega), ← nI_succ]
  obtain ⟨σ2, e2, F2, z2⟩ := L 11 0 σ rfl (FR.refl _ σ) (fun k hk => absurd hk (Nat.not_lt_zero k))
  have hS2 := F2.sh hS
  obtain ⟨σ3, e3, F3, z3⟩ := c58 (d := d + 3) (BD34 hS2) (by decide)
  have F23 : FR [35, 37] σ σ3 := (F2.mono (by decide)).trans (F3.mono (by decide))
  have hS3 := F23.sh hS
  have hQ3 := F23.st (by decide) (by decide) hQ
  have n37 : ∀ k, k < 11 → jA σ3 37 k = (fun _ => (0 : Int32)) k := fun k hk => by rw [(F3.2 37 (by decide)).2]; exact z2 k hk
  have C3 : CR σ3 W r q1 a1 q2 a2 t u nr nm hc o1 o2 tp := hC0.frame F23 (fun x hx => by simp at hx; simp; omega) (fun g _ _ => (F23.2 r (by simp; omega)).1 g)
  obtain ⟨hU3, _, h13, h23, e43, e53, e63, e03, htp3⟩ := C3
  obtain ⟨σ4, e4', F4, m4, R1, R2⟩ := c59 (d := d) (W := W) (wd := wdN nr hc) hS3 hQ3 hU3 hbig h13 h23 (map_op f1) (map_op f2) e53 e63 hnm hN (w1.frame F23 (by decide)) (w2.frame F23 (by decide)) n37
  have x35 : jA σ4 35 = jA σ3 35 := by funext i; exact (F4.2 35 (by decide)).2 i
  refine ⟨σ4, ?_, (F23.mono (by decide)).trans (F4.mono (by decide)), fun k hk => by rw [(F4.2 37 (by decide)).2]; exact n37 k hk, fun i hi => by rw [x35]; exact z3 i hi, jA σ4 36, by rw [x35]; exact R1, by rw [x35]; exact R2, m4⟩
  have e2' : jx (d + 4) 57 2 [some (.ref 27), some (.ref r), some (.int (nI W)), some (.int 0)] [] σ = _ := e2
  have rg5 : (jR σ2 515 27).getD 0 = 34 := by rw [sR_515_27 hS2]; rfl
  rw [k57_0, e2', k57_24 (sT_27 hS2) (by rw [sR_515_27 hS2]; exact fun z => nomatch z) (by rw [rg5]; exact sT_34 hS2), rg5, e3]
  simp only [Option.bind_some, Option.toList_none, List.nil_append]
  rw [k57_31 (sT_27 hS3), e4']
  simp only [Option.bind_some, Option.toList_none, List.nil_append]
  rw [k57_37]
theorem c56 {σ : jS} {r q1 a1 q2 a2 t u nr nm n1 n2 P : Nat} {hc : Bool} {o1 o2 : List (Nat → Int32)} {tp : Nat → Int32} (hW : W = 1 ∨ W = 2 ∨ W = 3) (hS : SH σ) (hQ : ST σ) (hC : CR σ W r q1 a1 q2 a2 t u nr nm hc o1 o2 tp) (hnr : nr ≤ 4) (hnm : nm ≤ 3) (f1 : ∀ o, o ∈ o1 → WFo nr nm o) (f2 : ∀ o, o ∈ o2 → WFo nr nm o) (w1 : RW σ 30 31 4 n1) (w2 : RW σ 32 33 4 n2) (e7 : jI σ 327 r = nI P) (hP : P < 2 ^ 31) (hV0 : VB W (wdN nr hc) (wdN nr hc + nm) tp (fun _ => 0)) :
    ∃ σ', jx (d + 5) 56 0 [some (.ref 27), some (.ref r), some (.int (nI W)), none, none, none] [] σ = some (none, σ') ∧ FR (trL r u) σ σ' ∧ (∀ g, g ≠ 328 → g ≠ 331 → jI σ' g r = jI σ g r) ∧ jI σ' 328 r = nI (cntL (lik W nr hc o1 o2) (odo tp (wdN nr hc + nm)) P (fun _ => 0)) ∧ (jI σ' 331 r = if cntL (lik W nr hc o1 o2) (odo tp (wdN nr hc + nm)) P (fun _ => 0) = P ∧ 0 < prcL o1 0 - prcL o2 0 then 1 else 0) ∧ ∃ m1 m2, RW σ' 30 31 4 m1 ∧ RW σ' 32 33 4 m2 := by
  have hC0 := hC
  obtain ⟨hU, hbig, h1, h2, e4, e5, e6, e0, htp⟩ := hC
  have br : 81 ≤ r := hbig r (by simp)
  have bq1 : 81 ≤ q1 := hbig q1 (by simp)
  have ba1 : 81 ≤ a1 := hbig a1 (by simp)
  have bq2 : 81 ≤ q2 := hbig q2 (by simp)
  have ba2 : 81 ≤ a2 := hbig a2 (by simp)
  have bt : 81 ≤ t := hbig t (by simp)
  have bu : 81 ≤ u := hbig u (by simp)
  have hN : wdN nr hc + nm ≤ 11 := by unfold wdN; cases hc <;> simp <;> omega
  have notin := trL_out hU.2.2.2.2.2.2.2.2.2 hbig
  -- one turn
  have loop : ∀ f n σ1 v A fl l5 mv, n + f = P → FR (trL r u) σ σ1 → (∀ g, g ≠ 328 → g ≠ 331 → jI σ1 g r = jI σ g r) → jI σ1 328 r = nI A → (∀ k, k < 11 → jA σ1 37 k = v k) → VB W (wdN nr hc) (wdN nr hc + nm) tp v → (∀ i, i < 4 → jA σ1 35 i = nI i) → RO σ1 30 31 4 ((o1.map (keepF W)).map (wrO W (jA σ1 35) mv)) → RO σ1 32 33 4 ((o2.map (keepF W)).map (wrO W (jA σ1 35) mv)) →
      ∃ σ' x3 l5' m1 m2, jx (d + 5) 56 16 [some (.ref 27), some (.ref r), some (.int (nI W)), some (.int (if fl = true then 1 else 0)), some (.int (nI n)), l5] [] σ1 = jx (d + 5) 56 122 [some (.ref 27), some (.ref r), some (.int (nI W)), some (.int x3), some (.int (nI P)), l5'] [] σ' ∧ (x3 = if fl = true ∨ ¬ cntL (lik W nr hc o1 o2) (odo tp (wdN nr hc + nm)) f v = f then 1 else 0) ∧ FR (trL r u) σ σ' ∧ (∀ g, g ≠ 328 → g ≠ 331 → jI σ' g r = jI σ g r) ∧ jI σ' 328 r = nI (A + cntL (lik W nr hc o1 o2) (odo tp (wdN nr hc + nm)) f v) ∧ RW σ' 30 31 4 m1 ∧ RW σ' 32 33 4 m2 := by
    intro f
    induction f with
    | zero =>
      intro n σ1 v A fl l5 mv hn F hg hA hv hV hid R1 R2
      have e : n = P := by omega
      subst e
      refine ⟨σ1, (if fl = true then 1 else 0), l5, ((o1.map (keepF W)).map (wrO W (jA σ1 35) mv)).length, ((o2.map (keepF W)).map (wrO W (jA σ1 35) mv)).length, ?_, ?_, F, hg, hA, R1.1, R2.1⟩
      · rw [k56_16 (by rw [F.1.1]; exact hU.1), hg 327 (by decide) (by decide), e7, if_pos (Int32.le_refl _)]
      · show (if fl = true then (1 : Int32) else 0) = if fl = true ∨ ¬ (0 : Nat) = 0 then 1 else 0
        by_cases q : fl = true
        · rw [if_pos q, if_pos (Or.inl q)]
        · rw [if_neg q, if_neg (fun z => z.elim q (fun w => w rfl))]
    | succ f ih =>
      intro n σ1 v A fl l5 mv hn F hg hA hv hV hid R1 R2
      have hS1 := F.sh hS
      have tr1 : jT σ1 r = 6 := by rw [F.1.1]; exact hU.1
      have C1 : CR σ1 W r q1 a1 q2 a2 t u nr nm hc o1 o2 tp := hC0.frame F notin hg
      have h1in : 1 ∉ trL r u := by simp [trL]; omega
      have h2in : 2 ∉ trL r u := by simp [trL]; omega
      have hQ1 := F.st h1in h2in hQ
      obtain ⟨hU1, _, g1, g2, i4, i5, i6, i0, itp⟩ := C1
      -- the rows for this assignment
      have rows : ∃ σ2 mv2, (jx (d + 5) 56 31 [some (.ref 27), some (.ref r), some (.int (nI W)), some (.int (if fl = true then 1 else 0)), some (.int (nI n)), l5] [.int (pkU W (w0F nr hc v) 8)] σ1 = jx (d + 5) 56 46 [some (.ref 27), some (.ref r), some (.int (nI W)), some (.int (if fl = true then 1 else 0)), some (.int (nI n)), some (.int (pkU W (w0F nr hc v) 8))] [] σ2) ∧ FR [30, 31, 32, 33, 36] σ1 σ2 ∧ (∀ i, i < nm → mv2 i = v (wdN nr hc + i)) ∧ RO σ2 30 31 4 ((o1.map (keepF W)).map (wrO W (jA σ1 35) mv2)) ∧ RO σ2 32 33 4 ((o2.map (keepF W)).map (wrO W (jA σ1 35) mv2)) := by
        by_cases h0 : nm = 0
        · refine ⟨σ1, mv, ?_, FR.refl _ σ1, fun i hi => by omega, R1, R2⟩
          have le : nI nm ≤ 0 := by rw [h0]; decide
          rw [k56_31 tr1, i5, if_pos le]
        · obtain ⟨σ2, e2, F2, m2, Q1, Q2⟩ := c59 (d := d + 1) (W := W) (wd := wdN nr hc) hS1 hQ1 hU1 hbig g1 g2 (map_op f1) (map_op f2) i5 i6 hnm hN R1.1 R2.1 hv
          refine ⟨σ2, jA σ2 36, ?_, F2, m2, Q1, Q2⟩
          have le : ¬ nI nm ≤ 0 := by
            rw [show (0 : Int32) = nI 0 from rfl, n31le (by omega) (by decide)]; omega
          rw [k56_31 tr1, i5, if_neg le, k56_40 (sT_27 hS1), e2]
          simp only [Option.bind_some, Option.toList_none, List.nil_append]
      obtain ⟨σ2, mv2, e2, F2, m2, Q1, Q2⟩ := rows
      have hS2 := F2.sh hS1
      obtain ⟨L1, P1⟩ := like1 hW hnr hnm hV hid m2 f1
      obtain ⟨L2, P2⟩ := like1 hW hnr hnm hV hid m2 f2
      obtain ⟨σ3, e3, F3⟩ := c69 (d := d + 2) (W := W) (M := 28) (m := 29) (sT_28 hS2) (sR_128_28 hS2) (sT_29 hS2) (sN_29 hS2) Q1 (by decide) (by decide) P1 hW (pkU W (w0F nr hc v) 8)
      have hS3 := F3.sh hS2
      obtain ⟨σ4, e4', F4⟩ := c69 (d := d + 2) (W := W) (M := 28) (m := 29) (sT_28 hS3) (sR_128_28 hS3) (sT_29 hS3) (sN_29 hS3) (Q2.frame F3 (by decide) (by decide)) (by decide) (by decide) P2 hW (pkU W (w0F nr hc v) 8)
      rw [L1] at e3
      rw [L2] at e4'
      have hS4 := F4.sh hS3
      have F14 : FR [29, 30, 31, 32, 33, 36] σ1 σ4 := ((F2.mono (by decide)).trans (F3.mono (by decide))).trans (F4.mono (by decide))
      have FA : FR (trL r u) σ σ4 := F.trans (F14.mono (by intro a ha; simp only [trL]; simp at ha; simp; omega))
      have gA : ∀ g, jI σ4 g r = jI σ1 g r := fun g => (F14.2 r (by simp; omega)).1 g
      have Q14 : RO σ4 30 31 4 ((o1.map (keepF W)).map (wrO W (jA σ1 35) mv2)) := (Q1.frame F3 (by decide) (by decide)).frame F4 (by decide) (by decide)
      have Q24 : RO σ4 32 33 4 ((o2.map (keepF W)).map (wrO W (jA σ1 35) mv2)) := (Q2.frame F3 (by decide) (by decide)).frame F4 (by decide) (by decide)
      have n4 : ∀ k, k < 11 → jA σ4 37 k = v k := fun k hk => by rw [(F14.2 37 (by decide)).2]; exact hv k hk
      have x35 : jA σ4 35 = jA σ1 35 := by funext i; exact (F14.2 35 (by decide)).2 i
      have rgm : ∀ {υ : jS}, SH υ → (jR υ 512 27).getD 0 = 28 := fun h => by rw [sR_512_27 h]; rfl
      have rg3 : (jR σ2 513 27).getD 0 = 30 := by rw [sR_513_27 hS2]; rfl
      have rg4 : (jR σ3 514 27).getD 0 = 32 := by rw [sR_514_27 hS3]; rfl
      have to74 : jx (d + 5) 56 16 [some (.ref 27), some (.ref r), some (.int (nI W)), some (.int (if fl = true then 1 else 0)), some (.int (nI n)), l5] [] σ1 = jx (d + 5) 56 74 [some (.ref 27), some (.ref r), some (.int (nI W)), some (.int (if fl = true then 1 else 0)), some (.int (nI n)), some (.int (pkU W (w0F nr hc v) 8))] [.int (pkU W (exS W nr hc o2 v) 8), .int (pkU W (exS W nr hc o1 v) 8)] σ4 := by
        rw [k56_16 tr1, hg 327 (by decide) (by decide), e7, if_neg (nI_ge (by omega) hP), k56_25 (sT_27 hS1), c68 (W := W) (nm := nm) hS1 tr1 i4 i0 hnr hv]
        simp only [Option.bind_some, Option.toList_some, List.cons_append, List.nil_append]
        rw [e2, k56_46 (sT_27 hS2) (by rw [sR_512_27 hS2]; exact fun z => nomatch z) (by rw [sR_513_27 hS2]; exact fun z => nomatch z) (by rw [rgm hS2]; exact sT_28 hS2), rgm hS2, rg3, e3]
        simp only [Option.bind_some, Option.toList_some, List.cons_append, List.nil_append]
        rw [k56_60 (sT_27 hS3) (by rw [sR_512_27 hS3]; exact fun z => nomatch z) (by rw [sR_514_27 hS3]; exact fun z => nomatch z) (by rw [rgm hS3]; exact sT_28 hS3), rgm hS3, rg4, e4']
        simp only [Option.bind_some, Option.toList_some, List.cons_append, List.nil_append]
      -- goOn from a state like σ4
      have go : ∀ υ, FR (trL r u) σ υ → FR (r :: u :: [37]) σ4 υ → (∀ k, k < 11 → jA υ 37 k = v k) → (∀ g, g ≠ 328 → jI υ g r = jI σ4 g r) → ∃ ω, jx (d + 4) 72 0 [some (.ref 27), some (.ref r), none] [] υ = some (none, ω) ∧ FR [37] υ ω ∧ (∀ k, k < 11 → jA ω 37 k = odo tp (wdN nr hc + nm) v k) := by
        intro υ Fυ F4υ nυ gυ
        have hSυ := Fυ.sh hS
        have tn : t ∉ trL r u := notin t (by simp)
        exact c72 (d := d + 3) (W := W) hSυ (by rw [Fυ.1.1]; exact hU.1) (by rw [Fυ.1.2.2.1]; exact hU.2.2.2.1) (by rw [Fυ.1.1]; exact hU.2.2.2.2.2.1) (by rw [Fυ.1.2.1]; exact hU.2.2.2.2.2.2.1) bt (by rw [gυ 326 (by decide), gA, hg 326 (by decide) (by decide)]; exact e6) hN (fun k hk => by rw [(Fυ.2 t tn).2]; exact htp k hk) br hV nυ
      have cons : ∀ υ ω A' fl', FR (trL r u) σ υ → FR (r :: u :: [37]) σ4 υ → FR [37] υ ω → (∀ k, k < 11 → jA ω 37 k = odo tp (wdN nr hc + nm) v k) → (∀ g, g ≠ 328 → jI υ g r = jI σ4 g r) → jI υ 328 r = nI A' →
          ∃ σ' x3 l5' m1 m2, jx (d + 5) 56 116 [some (.ref 27), some (.ref r), some (.int (nI W)), some (.int (if fl' = true then 1 else 0)), some (.int (nI n)), some (.int (pkU W (w0F nr hc v) 8))] [] ω = jx (d + 5) 56 122 [some (.ref 27), some (.ref r), some (.int (nI W)), some (.int x3), some (.int (nI P)), l5'] [] σ' ∧ (x3 = if fl' = true ∨ ¬ cntL (lik W nr hc o1 o2) (odo tp (wdN nr hc + nm)) f (odo tp (wdN nr hc + nm) v) = f then 1 else 0) ∧ FR (trL r u) σ σ' ∧ (∀ g, g ≠ 328 → g ≠ 331 → jI σ' g r = jI σ g r) ∧ jI σ' 328 r = nI (A' + cntL (lik W nr hc o1 o2) (odo tp (wdN nr hc + nm)) f (odo tp (wdN nr hc + nm) v)) ∧ RW σ' 30 31 4 m1 ∧ RW σ' 32 33 4 m2 := by
        intro υ ω A' fl' Fυ F4υ Fω nω gυ hA'
        have FF : FR (trL r u) σ ω := Fυ.trans (Fω.mono (by intro a ha; simp only [trL]; simp at ha; simp; omega))
        have F4ω : FR (r :: u :: [37]) σ4 ω := F4υ.trans (Fω.mono (by intro a ha; simp at ha; simp [ha]))
        have rω : ∀ g, jI ω g r = jI υ g r := fun g => (Fω.2 r (by simp; omega)).1 g
        have y35 : jA ω 35 = jA σ1 35 := by funext i; rw [(F4ω.2 35 (by simp; omega)).2, x35]
        obtain ⟨σ', x3, l5', m1, m2, z1, z2, z3, z4, z5, z6, z7⟩ := ih (n + 1) ω (odo tp (wdN nr hc + nm) v) A' fl' (some (.int (pkU W (w0F nr hc v) 8))) mv2 (by omega) FF (fun g a b => by rw [rω, gυ g a, gA, hg g a b]) (by rw [rω]; exact hA') nω (hV.odo _ _) (fun i hi => by rw [y35]; exact hid i hi) (by rw [y35]; exact Q14.frame F4ω (by simp; omega) (by simp; omega)) (by rw [y35]; exact Q24.frame F4ω (by simp; omega) (by simp; omega))
        exact ⟨σ', x3, l5', m1, m2, by rw [k56_116, ← nI_succ]; exact z1, z2, z3, z4, z5, z6, z7⟩
      have ec : cntL (lik W nr hc o1 o2) (odo tp (wdN nr hc + nm)) (f + 1) v = (if lik W nr hc o1 o2 v = true then 1 else 0) + cntL (lik W nr hc o1 o2) (odo tp (wdN nr hc + nm)) f (odo tp (wdN nr hc + nm) v) := rfl
      have cle := cntL_le (lik W nr hc o1 o2) (odo tp (wdN nr hc + nm)) f (odo tp (wdN nr hc + nm) v)
      by_cases hl : pkU W (exS W nr hc o1 v) 8 = pkU W (exS W nr hc o2 v) 8
      · have lt : lik W nr hc o1 o2 v = true := decide_eq_true hl
        rw [lt, if_pos rfl] at ec
        have Fυ : FR (trL r u) σ (jsI σ4 328 r (nI (A + 1))) := FA.I (by simp [trL])
        have F4υ : FR (r :: u :: [37]) σ4 (jsI σ4 328 r (nI (A + 1))) := (FR.refl _ σ4).I (by simp)
        have gυ : ∀ g, g ≠ 328 → jI (jsI σ4 328 r (nI (A + 1))) g r = jI σ4 g r := fun g q => by rw [zI_I, if_neg (fun w => q w.1)]
        obtain ⟨ω, eω, Fω, nω⟩ := go _ Fυ F4υ (fun k hk => by rw [zI_A]; exact n4 k hk) gυ
        obtain ⟨σ', x3, l5', m1, m2, z1, z2, z3, z4, z5, z6, z7⟩ := cons _ ω (A + 1) fl Fυ F4υ Fω nω gυ (by rw [zI_I, if_pos ⟨rfl, rfl⟩])
        refine ⟨σ', x3, l5', m1, m2, ?_, ?_, z3, z4, ?_, z6, z7⟩
        · rw [to74, k56_74, if_neg (fun z => z hl), k56_77 (by rw [FA.1.1]; exact hU.1) (sT_27 hS4), gA, hA, ← nI_succ, eω]
          simp only [Option.bind_some, Option.toList_none, List.nil_append]
          exact z1
        · rw [z2, ec]
          by_cases q : fl = true
          · rw [if_pos (Or.inl q), if_pos (Or.inl q)]
          · by_cases q2 : cntL (lik W nr hc o1 o2) (odo tp (wdN nr hc + nm)) f (odo tp (wdN nr hc + nm) v) = f
            · rw [if_neg (fun z => z.elim q (fun w => w q2)), if_neg (fun z => z.elim q (fun w => w (by omega)))]
            · rw [if_pos (Or.inr q2), if_pos (Or.inr (by omega))]
        · rw [z5, ec]; congr 1; omega
      · have lf : ¬ lik W nr hc o1 o2 v = true := fun z => hl (of_decide_eq_true z)
        rw [if_neg lf] at ec
        have x31 : ∀ g : Bool, (if g = true ∨ ¬ cntL (lik W nr hc o1 o2) (odo tp (wdN nr hc + nm)) (f + 1) v = f + 1 then (1 : Int32) else 0) = 1 := fun g => if_pos (Or.inr (by omega))
        have tk : ¬ (pkU W (exS W nr hc o1 v) 8 = pkU W (exS W nr hc o2 v) 8) := hl
        by_cases q : fl = true
        · have F4υ : FR (r :: u :: [37]) σ4 σ4 := FR.refl _ σ4
          obtain ⟨ω, eω, Fω, nω⟩ := go σ4 FA F4υ n4 (fun _ _ => rfl)
          obtain ⟨σ', x3, l5', m1, m2, z1, z2, z3, z4, z5, z6, z7⟩ := cons σ4 ω A fl FA F4υ Fω nω (fun _ _ => rfl) (by rw [gA]; exact hA)
          refine ⟨σ', x3, l5', m1, m2, ?_, ?_, z3, z4, ?_, z6, z7⟩
          · have f1' : ¬ ((if fl = true then (1 : Int32) else 0) = 0) := by rw [if_pos q]; decide
            rw [to74, k56_74, if_pos tk, k56_90, if_pos f1', k56_111 (sT_27 hS4), eω]
            simp only [Option.bind_some, Option.toList_none, List.nil_append]
            exact z1
          · rw [x31, z2, if_pos (Or.inl q)]
          · rw [z5, ec]; congr 1; omega
        · have ru : (jR σ4 323 r).getD 0 = u := by rw [FA.1.2.2.1, hU.2.2.2.2.1]; rfl
          have rn : (jR σ4 516 27).getD 0 = 37 := by rw [sR_516_27 hS4]; rfl
          have Fυ : FR (trL r u) σ (jcp σ4 37 0 u 0 11) := FA.C (by simp [trL])
          have F4υ : FR (r :: u :: [37]) σ4 (jcp σ4 37 0 u 0 11) := (FR.refl _ σ4).C (by simp)
          obtain ⟨ω, eω, Fω, nω⟩ := go _ Fυ F4υ (fun k hk => by rw [zC_A, if_neg (by omega)]; exact n4 k hk) (fun g _ => by rw [zC_I])
          obtain ⟨σ', x3, l5', m1, m2, z1, z2, z3, z4, z5, z6, z7⟩ := cons _ ω A true Fυ F4υ Fω nω (fun g _ => by rw [zC_I]) (by rw [zC_I, gA]; exact hA)
          refine ⟨σ', x3, l5', m1, m2, ?_, ?_, z3, z4, ?_, z6, z7⟩
          · have f1' : ¬ ¬ ((if fl = true then (1 : Int32) else 0) = 0) := by rw [if_neg q]; exact fun z => z rfl
            have tu : jT σ4 u = 20 := by rw [FA.1.1]; exact hU.2.2.2.2.2.2.2.1
            have nu : jN σ4 u = 11 := by rw [FA.1.2.1]; exact hU.2.2.2.2.2.2.2.2.1
            rw [to74, k56_74, if_pos tk, k56_90, if_neg f1', k56_94 (sT_27 hS4) (by rw [sR_516_27 hS4]; exact fun z => nomatch z) (by rw [FA.1.1]; exact hU.1) (by rw [FA.1.2.2.1, hU.2.2.2.2.1]; exact fun z => nomatch z) (by rw [rn]; exact sT_37 hS4) (by rw [ru]; exact tu) (by decide) (by rw [rn, sN_37 hS4]; decide) (by rw [ru, nu]; decide), rn, ru]
            have eω' : jx (d + 4) 72 0 [some (.ref 27), some (.ref r), none] [] (jcp σ4 37 (Int32.toNatClampNeg 0) u (Int32.toNatClampNeg 0) (Int32.toNatClampNeg 11)) = some (none, ω) := eω
            rw [eω']
            simp only [Option.bind_some, Option.toList_none, List.nil_append]
            exact z1
          · rw [x31, z2, if_pos (Or.inl rfl)]
          · rw [z5, ec]; congr 1; omega
  obtain ⟨σ2, e2, F2, z2, id2, mv, R1, R2, _⟩ := c57 (d := d) (W := W) hS hQ hC0 hnr hnm f1 f2 w1 w2
  have hS2 := F2.sh hS
  have F2t : FR (trL r u) σ σ2 := F2.mono (by intro a ha; simp only [trL]; simp at ha; simp; omega)
  have Fυ : FR (trL r u) σ (jsI σ2 328 r 0) := F2t.I (by simp [trL])
  have gr2 : ∀ g, jI σ2 g r = jI σ g r := fun g => (F2.2 r (by simp; omega)).1 g
  obtain ⟨σ', x3, l5', m1, m2, z1, z2', z3, z4, z5, z6, z7⟩ := loop P 0 (jsI σ2 328 r 0) (fun _ => 0) 0 false none mv (by omega) Fυ (fun g a b => by rw [zI_I, if_neg (fun w => a w.1)]; exact gr2 g) (by rw [zI_I, if_pos ⟨rfl, rfl⟩]; rfl) (fun k hk => by rw [zI_A]; exact z2 k hk) hV0 (fun i hi => by rw [zI_A]; exact id2 i hi) (R1.frame ((FR.refl [r] σ2).I (by simp)) (by simp; omega) (by simp; omega)) (R2.frame ((FR.refl [r] σ2).I (by simp)) (by simp; omega) (by simp; omega))
  have hS' := z3.sh hS
  have h1in : 1 ∉ trL r u := by simp [trL]; omega
  have h2in : 2 ∉ trL r u := by simp [trL]; omega
  have hQ' := z3.st h1in h2in hQ
  have C' : CR σ' W r q1 a1 q2 a2 t u nr nm hc o1 o2 tp := hC0.frame z3 notin z4
  obtain ⟨hU', _, g1', g2', _, _, _, _, _⟩ := C'
  have cg := c73 (d := d + 1) hS' hQ' hU' g1' g2' (map_op f1) (map_op f2)
  rw [prcL_keep, prcL_keep] at cg
  have tr' : jT σ' r = 6 := hU'.1
  have start : jx (d + 5) 56 0 [some (.ref 27), some (.ref r), some (.int (nI W)), none, none, none] [] σ = jx (d + 5) 56 122 [some (.ref 27), some (.ref r), some (.int (nI W)), some (.int x3), some (.int (nI P)), l5'] [] σ' := by
    rw [k56_0 (sT_27 hS), e2]
    simp only [Option.bind_some, Option.toList_none, List.nil_append]
    rw [k56_6 (by rw [F2.1.1]; exact hU.1)]
    exact z1
  obtain ⟨C, eC⟩ : ∃ C, cntL (lik W nr hc o1 o2) (odo tp (wdN nr hc + nm)) P (fun _ => 0) = C := ⟨_, rfl⟩
  rw [eC] at z2' z5 ⊢
  rw [Nat.zero_add] at z5
  have wr : ∀ x : Int32, jx (d + 5) 56 122 [some (.ref 27), some (.ref r), some (.int (nI W)), some (.int x3), some (.int (nI P)), l5'] [] σ' = some (none, jsI σ' 331 r x) → (x = if C = P ∧ 0 < prcL o1 0 - prcL o2 0 then 1 else 0) → ∃ σ', jx (d + 5) 56 0 [some (.ref 27), some (.ref r), some (.int (nI W)), none, none, none] [] σ = some (none, σ') ∧ FR (trL r u) σ σ' ∧ (∀ g, g ≠ 328 → g ≠ 331 → jI σ' g r = jI σ g r) ∧ jI σ' 328 r = nI C ∧ (jI σ' 331 r = if C = P ∧ 0 < prcL o1 0 - prcL o2 0 then 1 else 0) ∧ ∃ m1 m2, RW σ' 30 31 4 m1 ∧ RW σ' 32 33 4 m2 := by
    intro x ex vx
    refine ⟨jsI σ' 331 r x, start.trans ex, z3.I (by simp [trL]), fun g a b => by rw [zI_I, if_neg (fun w => b w.1)]; exact z4 g a b, by rw [zI_I, if_neg (fun w => absurd w.1 (by decide))]; exact z5, by rw [zI_I, if_pos ⟨rfl, rfl⟩]; exact vx, m1, m2, ?_, ?_⟩
    · exact z6.frame ((FR.refl [r] σ').I (by simp)) (by simp; omega)
    · exact z7.frame ((FR.refl [r] σ').I (by simp)) (by simp; omega)
  by_cases hCP : C = P
  · have x30 : x3 = 0 := by rw [z2']; exact if_neg (fun z => z.elim (by decide) (fun w => w hCP))
    by_cases hgn : 0 < prcL o1 0 - prcL o2 0
    · refine wr 1 ?_ (by rw [if_pos ⟨hCP, hgn⟩])
      rw [x30, k56_122, if_neg (fun z => z rfl), k56_127 tr', cg]
      simp only [Option.bind_some, Option.toList_some, List.cons_append, List.nil_append]
      rw [k56_131, if_neg (by rw [Int32.not_le]; exact hgn), k56_134 tr']
    · refine wr 0 ?_ (by rw [if_neg (fun z => hgn z.2)])
      rw [x30, k56_122, if_neg (fun z => z rfl), k56_127 tr', cg]
      simp only [Option.bind_some, Option.toList_some, List.cons_append, List.nil_append]
      rw [k56_131, if_pos (Int32.not_lt.mp hgn), k56_138 tr']
  · have x31 : x3 = 1 := by rw [z2']; exact if_pos (Or.inr hCP)
    refine wr 0 ?_ (by rw [if_neg (fun z => hCP z.1)])
    rw [x31, k56_122, if_pos (by decide), k56_138 tr']
end TRE
end S_71
section S_72
/-! the reference's trial: numbers and sides -/
/-- a rule of the reference as it stands -/
def MR (σ : jS) (r nr nm : Nat) (hc : Bool) (o1 o2 : List (Nat → Int32)) (rg : Nat → Int32) : Prop :=
  jA σ 50 (2 * r) = nI o1.length ∧ jA σ 50 (2 * r + 1) = nI o2.length ∧ o1.length ≤ 4 ∧ o2.length ≤ 4 ∧ jA σ 56 r = nI nr ∧ jA σ 57 r = nI nm ∧ (jA σ 59 r = if hc = true then 1 else 0) ∧ (∀ j, j < nm → jA σ 58 (3 * r + j) = rg j) ∧ (∀ i, i < o1.length → MO σ (8 * r + i) (o1.getD i (fun _ => 0))) ∧ (∀ i, i < o2.length → MO σ (8 * r + 4 + i) (o2.getD i (fun _ => 0)))
theorem MR.frame {σ σ' : jS} {l : List Nat} {r nr nm : Nat} {hc : Bool} {o1 o2 : List (Nat → Int32)} {rg : Nat → Int32} (h : MR σ r nr nm hc o1 o2 rg) (f : FR l σ σ') (hl : ∀ a, 50 ≤ a → a ≤ 59 → a ∉ l) : MR σ' r nr nm hc o1 o2 rg := by
  obtain ⟨h1, h2, h3, h4, h5, h6, h7, h8, h9, h10⟩ := h
  have e := fun a (x : 50 ≤ a) (y : a ≤ 59) => (f.2 a (hl a x y)).2
  refine ⟨by rw [e 50 (by decide) (by decide)]; exact h1, by rw [e 50 (by decide) (by decide)]; exact h2, h3, h4, by rw [e 56 (by decide) (by decide)]; exact h5, by rw [e 57 (by decide) (by decide)]; exact h6, by rw [e 59 (by decide) (by decide)]; exact h7, fun j hj => by rw [e 58 (by decide) (by decide)]; exact h8 j hj, fun i hi => (h9 i hi).fr f (fun a x y => hl a (by omega) (by omega)), fun i hi => (h10 i hi).fr f (fun a x y => hl a (by omega) (by omega))⟩
section TRM
variable {d : Nat} {W : Nat}
theorem c149 {σ : jS} {r nr nm : Nat} {hc : Bool} (hS : SH σ) (hr : r < 24) (e6 : jA σ 56 r = nI nr) (e7 : jA σ 57 r = nI nm) (e9 : jA σ 59 r = if hc = true then 1 else 0) : jx d 149 0 [some (.ref 47), some (.int (nI r))] [] σ = some (some (.int (nI (wdN nr hc + nm))), σ) := by
  have gr : jin 24 (nI r) := jin_n hr (by decide)
  have qr : (nI r).toNatClampNeg = r := nI_clamp (by omega)
  have r1 : (jR σ 651 47).getD 0 = 56 := by rw [sR_651_47 hS]; rfl
  have r2 : (jR σ 652 47).getD 0 = 57 := by rw [sR_652_47 hS]; rfl
  have r4 : (jR σ 654 47).getD 0 = 59 := by rw [sR_654_47 hS]; rfl
  rw [k149_0 (sT_47 hS) (by rw [sR_651_47 hS]; exact fun z => nomatch z) (by rw [r1]; exact Or.inl (sT_56 hS)) (by rw [r1, sN_56 hS]; exact gr) (by rw [sR_654_47 hS]; exact fun z => nomatch z) (by rw [r4]; exact Or.inr (sT_59 hS)) (by rw [r4, sN_59 hS]; exact gr), r1, r4, qr, e6, e9]
  have h2 : jR σ 652 47 ≠ none := by rw [sR_652_47 hS]; exact fun z => nomatch z
  have h3 : jT σ ((jR σ 652 47).getD 0) = 20 ∨ jT σ ((jR σ 652 47).getD 0) = 60 := by rw [r2]; exact Or.inl (sT_57 hS)
  have h4 : jin (jN σ ((jR σ 652 47).getD 0)) (nI r) := by rw [r2, sN_57 hS]; exact gr
  cases hc with
  | true =>
    have i1 : ¬ (if true = true then (1 : Int32) else 0) = 0 := by decide
    rw [if_neg i1, k149_15 (sT_47 hS) h2 h3 h4, r2, qr, e7, show (4 : Int32) = nI 4 from rfl, nadd, nadd]
    rfl
  | false =>
    have i1 : (if false = true then (1 : Int32) else 0) = 0 := rfl
    rw [if_pos i1, k149_19 (sT_47 hS) h2 h3 h4, r2, qr, e7, show (0 : Int32) = nI 0 from rfl, nadd, nadd]
    rfl
theorem c150 {σ : jS} {r nr nm : Nat} {hc : Bool} {rg : Nat → Int32} (hS : SH σ) (hr : r < 24) (hnr : nr ≤ 4) (hnm : nm ≤ 3) (hw : jI σ 640 47 = nI W) (e6 : jA σ 56 r = nI nr) (e9 : jA σ 59 r = if hc = true then 1 else 0) (e8 : ∀ j, j < nm → jA σ 58 (3 * r + j) = rg j) {k : Nat} (hk : k < wdN nr hc + nm) : jx d 150 0 [some (.ref 47), some (.int (nI r)), some (.int (nI k)), none] [] σ = some (some (.int ((if k < wdN nr hc then mkW W else rg (k - wdN nr hc)) + 1)), σ) := by
  have gr : jin 24 (nI r) := jin_n hr (by decide)
  have qr : (nI r).toNatClampNeg = r := nI_clamp (by omega)
  have r1 : (jR σ 651 47).getD 0 = 56 := by rw [sR_651_47 hS]; rfl
  have r3 : (jR σ 653 47).getD 0 = 58 := by rw [sR_653_47 hS]; rfl
  have r4 : (jR σ 654 47).getD 0 = 59 := by rw [sR_654_47 hS]; rfl
  have hwd : wdN nr hc ≤ 8 := by unfold wdN; cases hc <;> simp <;> omega
  have main : jx d 150 0 [some (.ref 47), some (.int (nI r)), some (.int (nI k)), none] [] σ = if nI (wdN nr hc) ≤ nI k then jx d 150 36 [some (.ref 47), some (.int (nI r)), some (.int (nI k)), some (.int (nI (wdN nr hc)))] [] σ else jx d 150 27 [some (.ref 47), some (.int (nI r)), some (.int (nI k)), some (.int (nI (wdN nr hc)))] [] σ := by
    rw [k150_0 (sT_47 hS) (by rw [sR_651_47 hS]; exact fun z => nomatch z) (by rw [r1]; exact Or.inl (sT_56 hS)) (by rw [r1, sN_56 hS]; exact gr) (by rw [sR_654_47 hS]; exact fun z => nomatch z) (by rw [r4]; exact Or.inr (sT_59 hS)) (by rw [r4, sN_59 hS]; exact gr), r1, r4, qr, e6, e9]
    cases hc with
    | true =>
      have i1 : ¬ (if true = true then (1 : Int32) else 0) = 0 := by decide
      have p4 : nI nr + 4 = nI (wdN nr true) := by rw [show (4 : Int32) = nI 4 from rfl, nadd]; rfl
      rw [if_neg i1, k150_15, p4]
    | false =>
      have i1 : (if false = true then (1 : Int32) else 0) = 0 := rfl
      have p4 : nI nr + 0 = nI (wdN nr false) := by rw [show (0 : Int32) = nI 0 from rfl, nadd]; rfl
      rw [if_pos i1, k150_19, p4]
  rw [main]
  by_cases h : k < wdN nr hc
  · have mk : ((1 : Int32) <<< (nI W &&& 31)) = mkW W + 1 := by unfold mkW; rw [Int32.sub_add_cancel]
    rw [if_neg (nI_ge h (by omega)), k150_27 (sT_47 hS), hw, mk, if_pos h]
  · have e3 : (3 : Int32) * nI r + nI k - nI (wdN nr hc) = nI (3 * r + (k - wdN nr hc)) := by
      rw [show (3 : Int32) = nI 3 from rfl, nmul, nadd, nsub (by omega)]
      congr 1
      omega
    rw [if_pos (nI_le (by omega) (by omega)), k150_36 (sT_47 hS) (by rw [sR_653_47 hS]; exact fun z => nomatch z) (by rw [r3]; exact Or.inl (sT_58 hS)) (by rw [r3, sN_58 hS, e3]; exact jin_n (by omega) (by decide)), r3, e3, nI_clamp (by omega), e8 (k - wdN nr hc) (by omega), if_neg h]
/-- the number of an order -/
theorem c154 {σ : jS} {k nr nm row fr N : Nat} {o : Nat → Int32} (hS : SH σ) (hW : W = 1 ∨ W = 2 ∨ W = 3) (hw : jI σ 640 47 = nI W) (hk : k < 192) (hO : MO σ k o) (ho : WFo nr nm o) (hnm : nm ≤ 3) (hn : numN (opO o) = true) (tr : jT σ row = 20) (nr' : jN σ row = N) (hN : fr + nm ≤ N) (hN2 : N < 1000) :
    jx (d + 2) 154 0 [some (.ref 47), some (.int (nI k)), some (.ref row), some (.int (nI fr)), none, none, none] [] σ = some (some (.int (numM W (fun i => jA σ row (fr + i)) o)), σ) := by
  obtain ⟨m1, m2, m3, m4, m5⟩ := hO
  have hop := ho.op
  obtain ⟨kk, k1, k2, k3, k4, k5⟩ := ho
  have ko : opO o = kk := by unfold opO; rw [k2]; exact nI_clamp (by omega)
  have m3 := m3 hn
  have k4 := k4 (by rw [← ko]; exact hn)
  have gk : jin 192 (nI k) := jin_n hk (by decide)
  have qk : (nI k).toNatClampNeg = k := nI_clamp (by omega)
  have e2 : (2 : Int32) * nI k = nI (2 * k) := by rw [show (2 : Int32) = nI 2 from rfl, nmul]
  have e21 : nI (2 * k) + 1 = nI (2 * k + 1) := (nI_succ _).symm
  have g2 : jin 384 (nI (2 * k)) := jin_n (by omega) (by decide)
  have g21 : jin 384 (nI (2 * k + 1)) := jin_n (by omega) (by decide)
  have q2 : (nI (2 * k)).toNatClampNeg = 2 * k := nI_clamp (by omega)
  have q21 : (nI (2 * k + 1)).toNatClampNeg = 2 * k + 1 := nI_clamp (by omega)
  have r46 : (jR σ 646 47).getD 0 = 51 := by rw [sR_646_47 hS]; rfl
  have r48 : (jR σ 648 47).getD 0 = 53 := by rw [sR_648_47 hS]; rfl
  have r49 : (jR σ 649 47).getD 0 = 54 := by rw [sR_649_47 hS]; rfl
  have r50 : (jR σ 650 47).getD 0 = 55 := by rw [sR_650_47 hS]; rfl
  have n46 : jR σ 646 47 ≠ none := by rw [sR_646_47 hS]; exact fun z => nomatch z
  have n48 : jR σ 648 47 ≠ none := by rw [sR_648_47 hS]; exact fun z => nomatch z
  have n49 : jR σ 649 47 ≠ none := by rw [sR_649_47 hS]; exact fun z => nomatch z
  have n50 : jR σ 650 47 ≠ none := by rw [sR_650_47 hS]; exact fun z => nomatch z
  have b50 : jin (jN σ ((jR σ 650 47).getD 0)) (nI k) := by rw [r50, sN_55 hS]; exact gk
  have t50 : jT σ ((jR σ 650 47).getD 0) = 20 ∨ jT σ ((jR σ 650 47).getD 0) = 60 := by rw [r50]; exact Or.inl (sT_55 hS)
  have t46 : jT σ ((jR σ 646 47).getD 0) = 20 ∨ jT σ ((jR σ 646 47).getD 0) = 60 := by rw [r46]; exact Or.inl (sT_51 hS)
  have b46 : jin (jN σ ((jR σ 646 47).getD 0)) (nI k) := by rw [r46, sN_51 hS]; exact gk
  have t49 : jT σ ((jR σ 649 47).getD 0) = 20 ∨ jT σ ((jR σ 649 47).getD 0) = 60 := by rw [r49]; exact Or.inl (sT_54 hS)
  have t47 := sT_47 hS
  obtain ⟨mv, emv⟩ : ∃ mv : Nat → Int32, (fun i => jA σ row (fr + i)) = mv := ⟨_, rfl⟩
  rw [emv]
  have rv : ∀ i, i < nm → jA σ row (fr + i) = mv i := fun i _ => by rw [← emv]
  -- the two terms
  have first : jx (d + 2) 154 0 [some (.ref 47), some (.int (nI k)), some (.ref row), some (.int (nI fr)), none, none, none] [] σ = if o 4 = 0 then jx (d + 2) 154 174 [some (.ref 47), some (.int (nI k)), some (.ref row), some (.int (nI fr)), some (.int (tvV mv (o 2))), some (.int (tvV mv (o 2))), none] [] σ else jx (d + 2) 154 49 [some (.ref 47), some (.int (nI k)), some (.ref row), some (.int (nI fr)), some (.int (tvV mv (o 2))), some (.int (tvV mv (o 2))), none] [] σ := by
    rw [k154_0 t47 n48 (by rw [r48]; exact Or.inr (sT_53 hS)) (by rw [r48, sN_53 hS, e2]; exact g2), r48, e2, q2]
    rcases k4 with ⟨u, hu, eu⟩ | ⟨i, hi, ei⟩
    · have lt : o 2 < 16 := by rw [eu, show (16 : Int32) = nI 16 from rfl, n31 (by omega) (by decide)]; exact hu
      obtain ⟨a, b⟩ := m3.1 lt
      have tv0 : tvV mv (o 2) = o 2 := if_neg (by rw [Int32.not_le]; exact lt)
      rw [a, if_pos rfl, k154_26 t47 n49 t49 (by rw [r49, sN_54 hS, e2]; exact g2) n50 t50 b50, r49, r50, e2, q2, qk, m4, b, tv0]
    · have v := i16n (i := i) (by omega)
      obtain ⟨a, b⟩ := m3.2 (by rw [ei]; exact v.1)
      rw [ei, v.2.2] at b
      have tv0 : tvV mv (o 2) = mv i := by
        unfold tvV nmV
        rw [ei, if_pos v.1, v.2.2, if_neg (fun z => z.elim (nn0 (by omega)) (nI_ge (b := 3) (by omega) (by omega))), nI_clamp (by omega)]
      rw [a, if_neg (by decide), k154_11 t47 n49 t49 (by rw [r49, sN_54 hS, e2]; exact g2) (Or.inl tr) (by rw [nr', r49, e2, q2, b, nadd]; exact jin_n (by omega) (by omega)) n50 t50 b50, r49, r50, e2, q2, qk, m4, b, nadd, nI_clamp (by omega), rv i hi, tv0]
  have ck := fun v => c155 (d := d) hS hW hw hop.1 v
  have b155 : ∀ v : Int32, jx (d + 1) 155 0 [some (.ref 47), some (.int (jA σ 51 k)), some (.int v), none] [] σ = some (some (.int (kpM W (opO o) v)), σ) := by
    intro v
    rw [m1, hop.2]
    exact ck v
  rw [first]
  by_cases h4 : o 4 = 0
  · have s0 : smV (o 4) (tvV mv (o 2)) (tvV mv (o 5)) = tvV mv (o 2) := by rw [h4]; rfl
    rw [if_pos h4, k154_174 t47 n46 t46 b46, r46, qk, b155]
    simp only [Option.bind_some, Option.toList_some, List.cons_append, List.nil_append]
    rw [k154_186]
    unfold numM
    rw [s0]
  · rw [if_neg h4]
    have k5 : isSg (o 4) ∧ WFt nm (o 5) := by
      rcases k5 with k5 | ⟨_, a, b⟩
      · exact absurd k5 h4
      · exact ⟨a, b⟩
    have m5 := m5 h4
    have second : jx (d + 2) 154 49 [some (.ref 47), some (.int (nI k)), some (.ref row), some (.int (nI fr)), some (.int (tvV mv (o 2))), some (.int (tvV mv (o 2))), none] [] σ = if ¬ o 4 = 43 then jx (d + 2) 154 110 [some (.ref 47), some (.int (nI k)), some (.ref row), some (.int (nI fr)), some (.int (tvV mv (o 2))), some (.int (tvV mv (o 2))), some (.int (tvV mv (o 5)))] [] σ else jx (d + 2) 154 102 [some (.ref 47), some (.int (nI k)), some (.ref row), some (.int (nI fr)), some (.int (tvV mv (o 2))), some (.int (tvV mv (o 2))), some (.int (tvV mv (o 5)))] [] σ := by
      rw [k154_49 t47 n48 (by rw [r48]; exact Or.inr (sT_53 hS)) (by rw [r48, sN_53 hS, e2, e21]; exact g21), r48, e2, e21, q21]
      rcases k5.2 with ⟨u, hu, eu⟩ | ⟨i, hi, ei⟩
      · have lt : o 5 < 16 := by rw [eu, show (16 : Int32) = nI 16 from rfl, n31 (by omega) (by decide)]; exact hu
        obtain ⟨a, b⟩ := m5.1 lt
        have tv0 : tvV mv (o 5) = o 5 := if_neg (by rw [Int32.not_le]; exact lt)
        rw [a, if_pos rfl, k154_79 t47 n49 t49 (by rw [r49, sN_54 hS, e2, e21]; exact g21) n50 t50 b50, r49, r50, e2, e21, q21, qk, m4, b, tv0]
      · have v := i16n (i := i) (by omega)
        obtain ⟨a, b⟩ := m5.2 (by rw [ei]; exact v.1)
        rw [ei, v.2.2] at b
        have tv0 : tvV mv (o 5) = mv i := by
          unfold tvV nmV
          rw [ei, if_pos v.1, v.2.2, if_neg (fun z => z.elim (nn0 (by omega)) (nI_ge (b := 3) (by omega) (by omega))), nI_clamp (by omega)]
        rw [a, if_neg (by decide), k154_62 t47 n49 t49 (by rw [r49, sN_54 hS, e2, e21]; exact g21) (Or.inl tr) (by rw [nr', r49, e2, e21, q21, b, nadd]; exact jin_n (by omega) (by omega)) n50 t50 b50, r49, r50, e2, e21, q21, qk, m4, b, nadd, nI_clamp (by omega), rv i hi, tv0]
    rw [second]
    unfold numM
    rcases k5.1 with h | h | h | h | h
    · rw [if_neg (fun z => z h), k154_102 t47 n46 t46 b46, r46, qk, b155]
      simp only [Option.bind_some, Option.toList_some, List.cons_append, List.nil_append]
      rw [k154_186, h]; rfl
    · rw [if_pos (by rw [h]; decide), k154_110 t47 n50 t50 b50, r50, qk, m4, if_neg (fun z => z h), k154_121 t47 n46 t46 b46, r46, qk, b155]
      simp only [Option.bind_some, Option.toList_some, List.cons_append, List.nil_append]
      rw [k154_186, h]; rfl
    · rw [if_pos (by rw [h]; decide), k154_110 t47 n50 t50 b50, r50, qk, m4, if_pos (by rw [h]; decide), k154_129 t47 n50 t50 b50, r50, qk, m4, if_neg (fun z => z h), k154_140 t47 n46 t46 b46, r46, qk, b155]
      simp only [Option.bind_some, Option.toList_some, List.cons_append, List.nil_append]
      rw [k154_186, h]; rfl
    · rw [if_pos (by rw [h]; decide), k154_110 t47 n50 t50 b50, r50, qk, m4, if_pos (by rw [h]; decide), k154_129 t47 n50 t50 b50, r50, qk, m4, if_pos (by rw [h]; decide), k154_148 t47 n50 t50 b50, r50, qk, m4, if_neg (fun z => z h), k154_159 t47 n46 t46 b46, r46, qk, b155]
      simp only [Option.bind_some, Option.toList_some, List.cons_append, List.nil_append]
      rw [k154_186, h]; rfl
    · rw [if_pos (by rw [h]; decide), k154_110 t47 n50 t50 b50, r50, qk, m4, if_pos (by rw [h]; decide), k154_129 t47 n50 t50 b50, r50, qk, m4, if_pos (by rw [h]; decide), k154_148 t47 n50 t50 b50, r50, qk, m4, if_pos (by rw [h]; decide), k154_167 t47 n46 t46 b46, r46, qk, b155]
      simp only [Option.bind_some, Option.toList_some, List.cons_append, List.nil_append]
      rw [k154_186, h]; rfl
end TRM
end S_72
