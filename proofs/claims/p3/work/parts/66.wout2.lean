/-! a side written out: the class, whole -/
theorem getDm {os : List (Nat → Int32)} {f : (Nat → Int32) → (Nat → Int32)} {i : Nat} (h : i < os.length) : (os.map f).getD i (fun _ => 0) = f (os.getD i (fun _ => 0)) := by
  have e : os.getD i (fun _ => 0) = os[i] := by rw [List.getD_eq_getElem?_getD, List.getElem?_eq_getElem h]; rfl
  rw [List.getD_eq_getElem?_getD, List.getElem?_map, List.getElem?_eq_getElem h, e]
  rfl
section WO2
variable {d : Nat} {W : Nat}
def CU (q a n : Nat) (σ0 σ : jS) (A g : Nat → Int32) : Prop := FR [q, a] σ0 σ ∧ RW σ q a 4 (n + 1) ∧ (∀ f, f ≠ 257 → jI σ f q = jI σ0 f q) ∧ (∀ i, i < 6 * n → jA σ a i = A i) ∧ (∀ j, j < 6 → jA σ a (6 * n + j) = g j)
theorem CU.put {q a n : Nat} {σ0 σ : jS} {A g : Nat → Int32} (h : CU q a n σ0 σ A g) (qa : ¬ q = a) {j : Nat} (hj : j < 6) (v : Int32) : CU q a n σ0 (jsA σ a (6 * n + j) v) A (up6 g j v) := by
  obtain ⟨h1, h2, h3, h4, h5⟩ := h
  refine ⟨h1.A (by simp), h2.frame ((FR.refl [a] σ).A (by simp)) (by simpa using qa), h3, fun i hi => by rw [zA_A, if_neg (fun w => by omega)]; exact h4 i hi, fun k hk => ?_⟩
  rw [zA_A]
  unfold up6
  by_cases e : k = j
  · rw [if_pos ⟨rfl, by omega⟩, if_pos e]
  · rw [if_neg (fun w => by omega), if_neg e]; exact h5 k hk
theorem c61 {σ : jS} {q a s as B br bn n0 : Nat} {os : List (Nat → Int32)} (hS : SH σ) (hQ : ST σ) (hD : RW σ q a 4 n0) (hR : RO σ s as 4 os) (hB : BD σ B br bn) (hk : ∀ o, o ∈ os → OPk o) (qa : ¬ q = a) (hn : ∀ x, x ∈ [1, 2, s, as, br, bn] → x ∉ [q, a]) :
    ∃ σ', jx (d + 2) 61 0 [some (.ref q), some (.ref s), some (.ref B), some (.int (nI W)), none, none, none, none] [] σ = some (none, σ') ∧ FR [q, a] σ σ' ∧ (∀ f, f ≠ 257 → jI σ' f q = jI σ f q) ∧ RO σ' q a 4 (os.map (wrO W (jA σ br) (jA σ bn))) := by
  have hsn := hn s (by simp)
  have hasn := hn as (by simp)
  have hbrn := hn br (by simp)
  have hbnn := hn bn (by simp)
  have h1n := hn 1 (by simp)
  have h2n := hn 2 (by simp)
  have hl4 : os.length ≤ 4 := hR.1.2.2.2.2.2.2.1
  have tS : jT σ s = 5 := hR.1.1
  have eS : jI σ 257 s = nI os.length := hR.1.2.2.2.2.2.1
  have loop : ∀ f n σ1 l5 l6 l7, n + f = os.length → FR [q, a] σ σ1 → RW σ1 q a 4 n → (∀ g, g ≠ 257 → jI σ1 g q = jI σ g q) → (∀ i j, i < n → j < 6 → jA σ1 a (6 * i + j) = wrO W (jA σ br) (jA σ bn) (os.getD i (fun _ => 0)) j) →
      ∃ σ', jx (d + 2) 61 8 [some (.ref q), some (.ref s), some (.ref B), some (.int (nI W)), some (.int (nI n)), l5, l6, l7] [] σ1 = some (none, σ') ∧ FR [q, a] σ σ' ∧ (∀ g, g ≠ 257 → jI σ' g q = jI σ g q) ∧ RW σ' q a 4 os.length ∧ (∀ i j, i < os.length → j < 6 → jA σ' a (6 * i + j) = wrO W (jA σ br) (jA σ bn) (os.getD i (fun _ => 0)) j) := by
    intro f
    induction f with
    | zero =>
      intro n σ1 l5 l6 l7 hnf F hW1 hg hc
      have e : n = os.length := by omega
      subst e
      refine ⟨σ1, ?_, F, hg, hW1, hc⟩
      rw [k61_8 (by rw [F.1.1]; exact tS), (F.2 s hsn).1, eS, if_pos (nI_le (Nat.le_refl _) (by omega)), k61_148]
    | succ f ih =>
      intro n σ1 l5 l6 l7 hnf F hW1 hg hc
      have hlt : n < os.length := by omega
      obtain ⟨o, eo⟩ : ∃ o, os.getD n (fun _ => 0) = o := ⟨_, rfl⟩
      have ho : OPk o := eo ▸ hk _ (mem_getD hlt)
      obtain ⟨ho1, ho2⟩ := ho
      obtain ⟨σ2, e2, F2, hW2, hg2, hA2, hz2⟩ := c62 (d := d + 1) hW1 (by omega) qa
      have C2 : CU q a n σ σ2 (jA σ1 a) (fun _ => 0) := ⟨F.trans F2, hW2, fun g hg' => by rw [hg2 g hg', hg g hg'], hA2, hz2⟩
      have src : ∀ {υ : jS} {g A : Nat → Int32}, CU q a n σ υ A g → ∀ j, j < 6 → jx (d + 1) 51 0 [some (.ref s), some (.int (nI n)), some (.int (nI j))] [] υ = some (some (.int (o j)), υ) := by
        intro υ g A hC j hj
        rw [← eo]
        exact c51 (hR.frame hC.1 hsn hasn) hlt hj
      have tq : ∀ {υ : jS} {g A : Nat → Int32}, CU q a n σ υ A g → jT υ q = 5 := fun hC => hC.2.1.1
      have ts : ∀ {υ : jS} {g A : Nat → Int32}, CU q a n σ υ A g → jT υ s = 5 := fun hC => by rw [hC.1.1.1]; exact tS
      have put : ∀ {υ : jS} {g A : Nat → Int32}, CU q a n σ υ A g → ∀ j v, j < 6 → jx (d + 1) 63 0 [some (.ref q), some (.int (nI n)), some (.int (nI j)), some (.int v)] [] υ = some (none, jsA υ a (6 * n + j) v) := by
        intro υ g A hC j v hj
        exact c63 hC.2.1 (Nat.lt_succ_self n) hj v
      -- the kind
      have C3 := C2.put qa (j := 0) (by decide) (o 0)
      have to45 : jx (d + 2) 61 8 [some (.ref q), some (.ref s), some (.ref B), some (.int (nI W)), some (.int (nI n)), l5, l6, l7] [] σ1 = jx (d + 2) 61 45 [some (.ref q), some (.ref s), some (.ref B), some (.int (nI W)), some (.int (nI n)), some (.int (nI (opO o))), some (.int (nI 1)), l7] [] (jsA σ2 a (6 * n + 0) (o 0)) := by
        rw [k61_8 (by rw [F.1.1]; exact tS), (F.2 s hsn).1, eS, if_neg (nI_ge (by omega) (by omega)), k61_17 hW1.1, e2]
        simp only [Option.bind_some, Option.toList_some, List.cons_append, List.nil_append]
        have s0 : jx (d + 1) 51 0 [some (.ref s), some (.int (nI n)), some (.int 0)] [] σ2 = some (some (.int (o 0)), σ2) := src C2 0 (by decide)
        have p0 : jx (d + 1) 63 0 [some (.ref q), some (.int (nI n)), some (.int 0), some (.int (o 0))] [] σ2 = some (none, jsA σ2 a (6 * n + 0) (o 0)) := put C2 0 (o 0) (by decide)
        rw [k61_21, if_neg (by decide), k61_24 (ts C2), s0]
        simp only [Option.bind_some, Option.toList_some, List.cons_append, List.nil_append]
        rw [k61_31 (tq C2), p0]
        simp only [Option.bind_some, Option.toList_none, List.nil_append]
        rw [k61_42, ← ho2]
        rfl
      -- the registers
      have regs : ∀ f2 j υ g, j + f2 = regN (opO o) → CU q a n σ υ (jA σ1 a) g → (∀ t, t < 6 → g t = if t = 0 then o 0 else if t ≤ j then rgV (jA σ br) (o t) else 0) → ∃ υ' g', jx (d + 2) 61 45 [some (.ref q), some (.ref s), some (.ref B), some (.int (nI W)), some (.int (nI n)), some (.int (nI (opO o))), some (.int (nI (j + 1))), l7] [] υ = jx (d + 2) 61 81 [some (.ref q), some (.ref s), some (.ref B), some (.int (nI W)), some (.int (nI n)), some (.int (nI (opO o))), some (.int (nI (regN (opO o) + 1))), l7] [] υ' ∧ CU q a n σ υ' (jA σ1 a) g' ∧ (∀ t, t < 6 → g' t = if t = 0 then o 0 else if t ≤ regN (opO o) then rgV (jA σ br) (o t) else 0) := by
        intro f2
        have hr3 := regN3 (opO o)
        induction f2 with
        | zero =>
          intro j υ g hj hC hgt
          have e : j = regN (opO o) := by omega
          subst e
          refine ⟨υ, g, ?_, hC, hgt⟩
          have hSu := hC.1.sh hS
          have hQu := hC.1.st h1n h2n hQ
          have lt : nI (regN (opO o)) < nI (regN (opO o) + 1) := by rw [n31 (by omega) (by omega)]; omega
          rw [k61_45, c34 hSu hQu ho1]
          simp only [Option.bind_some, Option.toList_some, List.cons_append, List.nil_append]
          rw [k61_52, if_pos lt]
        | succ f2 ih2 =>
          intro j υ g hj hC hgt
          have hSu := hC.1.sh hS
          have hQu := hC.1.st h1n h2n hQ
          have nlt : ¬ nI (regN (opO o)) < nI (j + 1) := by rw [n31 (by omega) (by omega)]; omega
          have hC' := hC.put qa (j := j + 1) (by omega) (rgV (jA σ br) (o (j + 1)))
          obtain ⟨υ', g', e', C', q'⟩ := ih2 (j + 1) _ _ (by omega) hC' (fun t ht => by
            unfold up6
            by_cases e : t = j + 1
            · rw [if_pos e, if_neg (by omega), if_pos (by omega), e]
            · rw [if_neg e, hgt t ht]
              by_cases e0 : t = 0
              · rw [if_pos e0, if_pos e0]
              · rw [if_neg e0, if_neg e0]
                by_cases ej : t ≤ j
                · rw [if_pos ej, if_pos (by omega)]
                · rw [if_neg ej, if_neg (by omega)])
          refine ⟨υ', g', ?_, C', q'⟩
          have hBu := hB.frame hC.1
          have er : rgV (jA υ br) (o (j + 1)) = rgV (jA σ br) (o (j + 1)) := by
            have : jA υ br = jA σ br := by funext i; exact (hC.1.2 br hbrn).2 i
            rw [this]
          rw [← e', k61_45, c34 hSu hQu ho1]
          simp only [Option.bind_some, Option.toList_some, List.cons_append, List.nil_append]
          rw [k61_52, if_neg nlt, k61_55 (ts hC), src hC (j + 1) (by omega)]
          simp only [Option.bind_some, Option.toList_some, List.cons_append, List.nil_append]
          rw [k61_69 hBu.1, c64 hBu, er]
          simp only [Option.bind_some, Option.toList_some, List.cons_append, List.nil_append]
          rw [k61_72 (tq hC), put hC (j + 1) _ (by omega)]
          simp only [Option.bind_some, Option.toList_none, List.nil_append]
          rw [k61_75, ← nI_succ]
      obtain ⟨υ3, g3, e3, C4, q3⟩ := regs (regN (opO o)) 0 _ _ (by omega) C3 (fun t ht => by
        unfold up6
        by_cases e : t = 0
        · rw [if_pos e, if_pos e]
        · rw [if_neg e, if_neg e, if_neg (by omega)])
      have S4 := C4.1.sh hS
      have nxt : ∀ υ g l5 l6 l7, CU q a n σ υ (jA σ1 a) g → (∀ t, t < 6 → g t = wrO W (jA σ br) (jA σ bn) o t) → ∃ σ', jx (d + 2) 61 8 [some (.ref q), some (.ref s), some (.ref B), some (.int (nI W)), some (.int (nI (n + 1))), l5, l6, l7] [] υ = some (none, σ') ∧ FR [q, a] σ σ' ∧ (∀ g, g ≠ 257 → jI σ' g q = jI σ g q) ∧ RW σ' q a 4 os.length ∧ (∀ i j, i < os.length → j < 6 → jA σ' a (6 * i + j) = wrO W (jA σ br) (jA σ bn) (os.getD i (fun _ => 0)) j) := by
        intro υ g l5 l6 l7 hC hgt
        refine ih (n + 1) υ l5 l6 l7 (by omega) hC.1 hC.2.1 hC.2.2.1 (fun i j hi hj => ?_)
        by_cases e : i = n
        · subst e
          rw [hC.2.2.2.2 j hj, hgt j hj, eo]
        · rw [hC.2.2.2.1 (6 * i + j) (by omega)]
          exact hc i j (by omega) hj
      by_cases hnum : numN (opO o) = true
      · have r1 := numN1 hnum
        have hB4 := hB.frame C4.1
        have en : jA υ3 bn = jA σ bn := by funext i; exact (C4.1.2 bn hbnn).2 i
        have C5 := C4.put qa (j := 2) (by decide) (numC W (jA σ bn) o)
        obtain ⟨σ', e', F', g', w', c'⟩ := nxt _ _ (some (.int (nI (opO o)))) (some (.int (tvV (jA σ bn) (o 2)))) (some (.int (tvV (jA σ bn) (o 5)))) C5 (fun t ht => by
          unfold up6 wrO
          by_cases e : t = 2
          · rw [if_pos e, if_neg (by omega), if_neg (by omega), if_pos ⟨e, hnum⟩]
          · rw [if_neg e, q3 t ht]
            by_cases e0 : t = 0
            · rw [if_pos e0, if_pos e0]
            · rw [if_neg e0, if_neg e0]
              by_cases ej : t ≤ regN (opO o)
              · rw [if_pos ej, if_pos ej]
              · rw [if_neg ej, if_neg ej, if_neg (fun w => e w.1)])
        refine ⟨σ', ?_, F', g', w', c'⟩
        have s2 : jx (d + 1) 51 0 [some (.ref s), some (.int (nI n)), some (.int 2)] [] υ3 = some (some (.int (o 2)), υ3) := src C4 2 (by decide)
        have s5 : jx (d + 1) 51 0 [some (.ref s), some (.int (nI n)), some (.int 5)] [] υ3 = some (some (.int (o 5)), υ3) := src C4 5 (by decide)
        have s4 : jx (d + 1) 51 0 [some (.ref s), some (.int (nI n)), some (.int 4)] [] υ3 = some (some (.int (o 4)), υ3) := src C4 4 (by decide)
        have p2 : jx (d + 1) 63 0 [some (.ref q), some (.int (nI n)), some (.int 2), some (.int (numC W (jA σ bn) o))] [] υ3 = some (none, jsA υ3 a (6 * n + 2) (numC W (jA σ bn) o)) := put C4 2 _ (by decide)
        rw [to45, e3, k61_81, c40 ho1, if_pos hnum]
        simp only [Option.bind_some, Option.toList_some, List.cons_append, List.nil_append]
        rw [k61_86, if_neg (by decide), k61_89 (ts C4), s2]
        simp only [Option.bind_some, Option.toList_some, List.cons_append, List.nil_append]
        rw [k61_97 hB4.1, c65 hB4, en]
        simp only [Option.bind_some, Option.toList_some, List.cons_append, List.nil_append]
        rw [k61_100 (ts C4), s5]
        simp only [Option.bind_some, Option.toList_some, List.cons_append, List.nil_append]
        rw [k61_110 hB4.1, c65 hB4, en]
        simp only [Option.bind_some, Option.toList_some, List.cons_append, List.nil_append]
        rw [k61_113 (ts C4), s4]
        simp only [Option.bind_some, Option.toList_some, List.cons_append, List.nil_append]
        rw [k61_130, c67]
        simp only [Option.bind_some, Option.toList_some, List.cons_append, List.nil_append]
        rw [k61_135, c46 ho1]
        simp only [Option.bind_some, Option.toList_some, List.cons_append, List.nil_append]
        have en2 : kptX W (opO o) (smV (o 4) (tvV (jA σ bn) (o 2)) (tvV (jA σ bn) (o 5))) = numC W (jA σ bn) o := rfl
        rw [en2, k61_139 (tq C4), p2]
        simp only [Option.bind_some, Option.toList_none, List.nil_append]
        rw [k61_142, ← nI_succ]
        exact e'
      · obtain ⟨σ', e', F', g', w', c'⟩ := nxt _ _ (some (.int (nI (opO o)))) (some (.int (nI (regN (opO o) + 1)))) l7 C4 (fun t ht => by
          unfold wrO
          rw [q3 t ht]
          by_cases e0 : t = 0
          · rw [if_pos e0, if_pos e0]
          · rw [if_neg e0, if_neg e0]
            by_cases ej : t ≤ regN (opO o)
            · rw [if_pos ej, if_pos ej]
            · rw [if_neg ej, if_neg ej, if_neg (fun w => hnum w.2)])
        refine ⟨σ', ?_, F', g', w', c'⟩
        rw [to45, e3, k61_81, c40 ho1, if_neg hnum]
        simp only [Option.bind_some, Option.toList_some, List.cons_append, List.nil_append]
        rw [k61_86, if_pos rfl, k61_142, ← nI_succ]
        exact e'
  have F0 : FR [q, a] σ (jsI σ 257 q 0) := (FR.refl _ σ).I (by simp)
  obtain ⟨r1, r2, r3, r4, r5, r6, r7, r8⟩ := hD
  obtain ⟨σ', e', F', g', w', c'⟩ := loop os.length 0 (jsI σ 257 q 0) none none none (by omega) F0 ⟨r1, r2, r3, r4, by rw [zI_I, if_neg (fun w => absurd w.1 (by decide))]; exact r5, by rw [zI_I, if_pos ⟨rfl, rfl⟩]; rfl, Nat.zero_le _, r8⟩ (fun g hg => by rw [zI_I, if_neg (fun w => hg w.1)]) (fun i j hi => absurd hi (Nat.not_lt_zero i))
  refine ⟨σ', ?_, F', g', ?_⟩
  · rw [k61_0 r1]; exact e'
  · have le : (os.map (wrO W (jA σ br) (jA σ bn))).length = os.length := List.length_map _
    refine ⟨by rw [le]; exact w', by rw [le]; exact w'.2.2.2.2.2.1, fun i j hi hj => ?_⟩
    rw [le] at hi
    rw [c' i j hi hj, getDm hi]
end WO2
