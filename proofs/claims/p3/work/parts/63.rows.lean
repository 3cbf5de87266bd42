/-! rows of the class: what stands there, cells, prices, the greatest number of a mark -/
def opO (o : Nat → Int32) : Nat := (o 0).toNatClampNeg
def OPk (o : Nat → Int32) : Prop := opO o < 19 ∧ o 0 = nI (opO o)
def prcL (os : List (Nat → Int32)) (a : Int32) : Int32 := os.foldl (fun a o => a + nI (priN (opO o))) a
theorem celO_op (o : Nat → Int32) : celO o = celN (opO o) := rfl
section ROW
variable {d : Nat} {σ : jS} {q a m : Nat} {os : List (Nat → Int32)}
theorem c52 (hR : RW σ q a m os.length) (x : Int32) : jx d 52 0 [some (.ref q), some (.int x)] [] σ = some (some (.int (if ¬ x < 0 ∧ x < nI os.length then 1 else 0)), σ) := by
  obtain ⟨r1, r2, r3, r4, r5, r6, r7, r8⟩ := hR
  rw [k52_0]
  by_cases h0 : x < 0
  · rw [if_pos h0, k52_24, if_neg (fun z => z.1 h0)]
  · rw [if_neg h0, k52_4 r1, r6]
    by_cases h1 : nI os.length ≤ x
    · rw [if_pos h1, k52_24, if_neg (fun z => absurd z.2 (Int32.not_lt.mpr h1))]
    · have h2 : x < nI os.length := Int32.not_le.mp h1
      have h3 : ¬ nI m ≤ x := by
        rw [Int32.not_le]
        refine Int32.lt_of_lt_of_le h2 ?_
        exact nI_le r7 (by omega)
      rw [if_neg h1, k52_12 r1, r5, if_neg h3, k52_20, if_pos ⟨h0, h2⟩]
theorem nn0 {k : Nat} (h : k < 2 ^ 31) : ¬ nI k < 0 := by
  rw [Int32.lt_iff_toInt_lt, nI_toInt h]
  have : (0 : Int32).toInt = 0 := rfl
  omega
theorem c51 (hR : RO σ q a m os) {i j : Nat} (hi : i < os.length) (hj : j < 6) : jx (d + 1) 51 0 [some (.ref q), some (.int (nI i)), some (.int (nI j))] [] σ = some (some (.int ((os.getD i (fun _ => 0)) j)), σ) := by
  obtain ⟨hR1, c1, c2⟩ := hR
  have hh := c52 (d := d) hR1 (nI i)
  obtain ⟨r1, r2, r3, r4, r5, r6, r7, r8⟩ := hR1
  rw [if_pos ⟨nn0 (by omega), by rw [n31 (by omega) (by omega)]; exact hi⟩] at hh
  have e6 : nI i * 6 + nI j = nI (6 * i + j) := by rw [show (6 : Int32) = nI 6 from rfl, nmul, nadd, Nat.mul_comm]
  have ra : (jR σ 258 q).getD 0 = a := by rw [r2]; rfl
  have j6 : ¬ (6 : Int32) ≤ nI j := nI_ge (b := 6) (by omega) (by omega)
  rw [k51_0 r1, hh]
  simp only [Option.bind_some, Option.toList_some, List.cons_append, List.nil_append]
  rw [k51_5, if_neg (by decide), k51_8, if_neg (nn0 (by omega)), k51_12, if_neg j6, k51_18 r1 (by rw [r2]; exact fun z => nomatch z) (by rw [ra]; exact Or.inl r3) (by rw [ra, r4, e6]; exact jin_n (by omega) (by omega)), ra, e6, nI_clamp (by omega), c2 i j hi hj]
theorem c50 (hR : RO σ q a m os) (hk : ∀ o, o ∈ os → OPk o) : jx (d + 2) 50 0 [some (.ref q), none, none] [] σ = some (some (.int (if os.any celO = true then 1 else 0)), σ) := by
  have hr := hR.1
  obtain ⟨r1, r2, r3, r4, r5, r6, r7, r8⟩ := hr
  have L : ∀ f n (v : Bool), n + f = os.length → jx (d + 2) 50 4 [some (.ref q), some (.int (if v = true then 1 else 0)), some (.int (nI n))] [] σ = some (some (.int (if (v || (os.drop n).any celO) = true then 1 else 0)), σ) := by
    intro f
    induction f with
    | zero =>
      intro n v hn
      have nn : n = os.length := by omega
      subst nn
      rw [k50_4 r1, r6, if_pos (nI_le (Nat.le_refl _) (by omega)), List.drop_length, List.any_nil, Bool.or_false]
      cases v with
      | true => rw [if_pos rfl, k50_40 (by decide)]
      | false => rw [if_neg (by decide), k50_40 (by decide)]
    | succ f ih =>
      intro n v hn
      have hlt : n < os.length := by omega
      have ho := hk _ (mem_getD hlt)
      have e := c51 (d := d) hR hlt (j := 0) (by decide)
      have e : jx (d + 1) 51 0 [some (.ref q), some (.int (nI n)), some (.int 0)] [] σ = some (some (.int ((os.getD n (fun _ => 0)) 0)), σ) := e
      rw [k50_4 r1, r6, if_neg (nI_ge (by omega) (by omega)), k50_12, drop_cons hlt, List.any_cons]
      cases v with
      | true =>
        have := ih (n + 1) true (by omega)
        rw [if_pos rfl] at this ⊢
        rw [if_pos (by decide), k50_28, ← nI_succ, this]
        rw [Bool.true_or, Bool.true_or]
      | false =>
        rw [if_neg (by decide : ¬ (false = true)), if_neg (fun z => z rfl), k50_16 r1, e]
        simp only [Option.bind_some, Option.toList_some, List.cons_append, List.nil_append]
        rw [k50_22, ho.2, c41 ho.1]
        simp only [Option.bind_some, Option.toList_some, List.cons_append, List.nil_append]
        rw [k50_25]
        have hc : celO (os.getD n (fun _ => 0)) = celN (opO (os.getD n (fun _ => 0))) := rfl
        by_cases hcl : celN (opO (os.getD n (fun _ => 0))) = true
        · have := ih (n + 1) true (by omega)
          rw [if_pos rfl] at this
          rw [if_pos hcl, if_neg (by decide), k50_28, ← nI_succ, this, hc, hcl, Bool.true_or]
          rfl
        · have := ih (n + 1) false (by omega)
          rw [if_neg (by decide : ¬ (false = true))] at this
          rw [if_neg hcl, if_pos rfl, k50_32, ← nI_succ, this, hc, Bool.eq_false_iff.mpr hcl, Bool.false_or, Bool.false_or]
  have := L os.length 0 false (by omega)
  rw [k50_0]
  rw [if_neg (by decide : ¬ (false = true)), List.drop_zero, Bool.false_or] at this
  exact this
theorem c74 (hR : RO σ q a m os) (hS : SH σ) (hQ : ST σ) (hk : ∀ o, o ∈ os → OPk o) : jx (d + 2) 74 0 [some (.ref q), none, none] [] σ = some (some (.int (prcL os 0)), σ) := by
  have hr := hR.1
  obtain ⟨r1, r2, r3, r4, r5, r6, r7, r8⟩ := hr
  have L : ∀ f n v, n + f = os.length → jx (d + 2) 74 4 [some (.ref q), some (.int v), some (.int (nI n))] [] σ = some (some (.int (prcL (os.drop n) v)), σ) := by
    intro f
    induction f with
    | zero =>
      intro n v hn
      have nn : n = os.length := by omega
      subst nn
      rw [k74_4 r1, r6, if_pos (nI_le (Nat.le_refl _) (by omega)), List.drop_length, k74_30]
      rfl
    | succ f ih =>
      intro n v hn
      have hlt : n < os.length := by omega
      have ho := hk _ (mem_getD hlt)
      have e := c51 (d := d) hR hlt (j := 0) (by decide)
      have e : jx (d + 1) 51 0 [some (.ref q), some (.int (nI n)), some (.int 0)] [] σ = some (some (.int ((os.getD n (fun _ => 0)) 0)), σ) := e
      rw [k74_4 r1, r6, if_neg (nI_ge (by omega) (by omega)), k74_12 r1, e]
      simp only [Option.bind_some, Option.toList_some, List.cons_append, List.nil_append]
      rw [k74_19, ho.2, c75 hS hQ ho.1]
      simp only [Option.bind_some, Option.toList_some, List.cons_append, List.nil_append]
      rw [k74_22, ← nI_succ, ih (n + 1) _ (by omega), drop_cons hlt]
      rfl
  rw [k74_0]
  have := L os.length 0 0 (by omega)
  rw [List.drop_zero] at this
  exact this
theorem c54 {k W : Nat} (hk : k < 19) : jx (d + 1) 54 0 [some (.int (nI k)), some (.int (nI W))] [] σ = some (some (.int (bdM W k)), σ) := by
  rw [k54_0]
  by_cases h0 : k = 0
  · subst h0
    rw [if_neg (fun z => z rfl), k54_4]
    rfl
  · have n0 : ¬ nI k = 0 := by rw [show (0 : Int32) = nI 0 from rfl, n31eq (by omega) (by decide)]; exact h0
    rw [if_pos n0, k54_10, c41 hk]
    simp only [Option.bind_some, Option.toList_some, List.cons_append, List.nil_append]
    rw [k54_14]
    have hc : celN k = true ↔ (k = 15 ∨ k = 16) := by unfold celN; simp
    by_cases h : k = 15 ∨ k = 16
    · have i : (if celN k = true then (1 : Int32) else 0) = 1 := if_pos (hc.mpr h)
      rw [i, if_neg (by decide), k54_17]
      unfold bdM
      rw [if_neg h0, if_pos h]
    · have i : (if celN k = true then (1 : Int32) else 0) = 0 := if_neg (fun z => h (hc.mp z))
      rw [i, if_pos rfl, k54_21]
      unfold bdM
      rw [if_neg h0, if_neg h]
theorem c53 {W r q1 : Nat} (tR : jT σ r = 6) (r1 : jR σ 320 r = some q1) (hR : RO σ q1 a m os) (hk : ∀ o, o ∈ os → OPk o) (j : Nat) : jx (d + 3) 53 0 [some (.ref r), some (.int (nI j)), some (.int (nI W)), none, none, none] [] σ = some (some (.int ((os.foldl (stepT W) (topI W)) j)), σ) := by
  have hr := hR.1
  obtain ⟨q1', q2, q3, q4, q5, q6, q7, q8⟩ := hr
  have rn : jR σ 320 r ≠ none := by rw [r1]; exact fun z => nomatch z
  have rg : (jR σ 320 r).getD 0 = q1 := by rw [r1]; rfl
  have L : ∀ f n (t : Nat → Int32) l5, n + f = os.length → jx (d + 3) 53 9 [some (.ref r), some (.int (nI j)), some (.int (nI W)), some (.int (t j)), some (.int (nI n)), l5] [] σ = some (some (.int (((os.drop n).foldl (stepT W) t) j)), σ) := by
    intro f
    induction f with
    | zero =>
      intro n t l5 hn
      have nn : n = os.length := by omega
      subst nn
      rw [k53_9 tR rn (by rw [rg]; exact q1'), rg, q6, if_pos (nI_le (Nat.le_refl _) (by omega)), List.drop_length, k53_75]
      rfl
    | succ f ih =>
      intro n t l5 hn
      have hlt : n < os.length := by omega
      have ho := hk _ (mem_getD hlt)
      have e0 : jx (d + 2) 51 0 [some (.ref q1), some (.int (nI n)), some (.int 0)] [] σ = some (some (.int ((os.getD n (fun _ => 0)) 0)), σ) := c51 (d := d + 1) hR hlt (j := 0) (by decide)
      have e2 : jx (d + 2) 51 0 [some (.ref q1), some (.int (nI n)), some (.int 2)] [] σ = some (some (.int ((os.getD n (fun _ => 0)) 2)), σ) := c51 (d := d + 1) hR hlt (j := 2) (by decide)
      have nx := ih (n + 1) (stepT W t (os.getD n (fun _ => 0))) (some (.int (nI (opO (os.getD n (fun _ => 0)))))) (by omega)
      rw [k53_9 tR rn (by rw [rg]; exact q1'), rg, q6, if_neg (nI_ge (by omega) (by omega)), k53_21 tR rn (by rw [rg]; exact q1'), rg, e0]
      simp only [Option.bind_some, Option.toList_some, List.cons_append, List.nil_append]
      rw [k53_31, ho.2, c40 ho.1]
      simp only [Option.bind_some, Option.toList_some, List.cons_append, List.nil_append]
      rw [k53_38, drop_cons hlt]
      rw [List.foldl_cons, ← nx]
      have st : stepT W t (os.getD n (fun _ => 0)) j = if numN (opO (os.getD n (fun _ => 0))) = true ∧ (os.getD n (fun _ => 0)) 2 = 16 + nI j then (if bdM W (opO (os.getD n (fun _ => 0))) < t j then bdM W (opO (os.getD n (fun _ => 0))) else t j) else t j := rfl
      by_cases hn' : numN (opO (os.getD n (fun _ => 0))) = true
      · rw [if_pos hn', if_neg (by decide), k53_41 tR rn (by rw [rg]; exact q1'), rg, e2]
        simp only [Option.bind_some, Option.toList_some, List.cons_append, List.nil_append]
        rw [k53_51]
        by_cases hm : (os.getD n (fun _ => 0)) 2 = 16 + nI j
        · rw [if_neg (fun z => z hm), k53_58, c54 ho.1]
          simp only [Option.bind_some, Option.toList_some, List.cons_append, List.nil_append]
          rw [k53_65, c5]
          simp only [Option.bind_some, Option.toList_some, List.cons_append, List.nil_append]
          rw [if_pos ⟨hn', hm⟩] at st
          rw [k53_68, ← nI_succ, st]
        · rw [if_pos hm, k53_69, ← nI_succ, st, if_neg (fun z => hm z.2)]
      · rw [if_neg hn', if_pos rfl, k53_69, ← nI_succ, st, if_neg (fun z => hn' z.1)]
  have := L os.length 0 (topI W) none (by omega)
  rw [k53_0]
  rw [List.drop_zero] at this
  exact this
end ROW
