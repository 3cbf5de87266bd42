section S_73
/-! the reference's trial: a side at work -/
section TRN
variable {d : Nat} {W : Nat}
theorem c153 {σ : jS} {r sd nr nm : Nat} {hc : Bool} {os : List (Nat → Int32)} {t v : Nat → Int32} (hS : SH σ) (hW : W = 1 ∨ W = 2 ∨ W = 3) (hw : jI σ 640 47 = nI W) (hr : r < 24) (hsd : sd = 0 ∨ sd = 1) (hnr : nr ≤ 4) (hnm : nm ≤ 3) (e6 : jA σ 56 r = nI nr) (e9 : jA σ 59 r = if hc = true then 1 else 0) (e50 : jA σ 50 (2 * r + sd) = nI os.length) (hl : os.length ≤ 4) (hM : ∀ i, i < os.length → MO σ (8 * r + 4 * sd + i) (os.getD i (fun _ => 0))) (hf : ∀ o, o ∈ os → WFo nr nm o) (hV : VB W (wdN nr hc) (wdN nr hc + nm) t v) (hv : ∀ k, k < 11 → jA σ 73 k = v k) :
    ∃ σ', jx (d + 3) 153 0 [some (.ref 47), some (.int (nI r)), some (.int (nI sd)), none, none, none, none, none, none] [] σ = some (none, σ') ∧ FR [49] σ σ' ∧ ∀ i, i < 8 → jA σ' 49 i = exS W nr hc os v i := by
  have gr : jin 24 (nI r) := jin_n hr (by decide)
  have qr : (nI r).toNatClampNeg = r := nI_clamp (by omega)
  have hwd : wdN nr hc + nm ≤ 11 := by unfold wdN; cases hc <;> simp <;> omega
  -- facts in states that differ in 49 alone
  have Sx : ∀ {υ : jS}, FR [49] σ υ → SH υ := fun F => F.sh hS
  have g651 : ∀ {υ : jS}, SH υ → (jR υ 651 47).getD 0 = 56 := fun h => by rw [sR_651_47 h]; rfl
  have g654 : ∀ {υ : jS}, SH υ → (jR υ 654 47).getD 0 = 59 := fun h => by rw [sR_654_47 h]; rfl
  have g643 : ∀ {υ : jS}, SH υ → (jR υ 643 47).getD 0 = 49 := fun h => by rw [sR_643_47 h]; rfl
  have g672 : ∀ {υ : jS}, SH υ → (jR υ 672 47).getD 0 = 73 := fun h => by rw [sR_672_47 h]; rfl
  have g645 : ∀ {υ : jS}, SH υ → (jR υ 645 47).getD 0 = 50 := fun h => by rw [sR_645_47 h]; rfl
  have g646 : ∀ {υ : jS}, SH υ → (jR υ 646 47).getD 0 = 51 := fun h => by rw [sR_646_47 h]; rfl
  have g647 : ∀ {υ : jS}, SH υ → (jR υ 647 47).getD 0 = 52 := fun h => by rw [sR_647_47 h]; rfl
  have n651 : ∀ {υ : jS}, SH υ → jR υ 651 47 ≠ none := fun h => by rw [sR_651_47 h]; exact fun z => nomatch z
  have n654 : ∀ {υ : jS}, SH υ → jR υ 654 47 ≠ none := fun h => by rw [sR_654_47 h]; exact fun z => nomatch z
  have n643 : ∀ {υ : jS}, SH υ → jR υ 643 47 ≠ none := fun h => by rw [sR_643_47 h]; exact fun z => nomatch z
  have n672 : ∀ {υ : jS}, SH υ → jR υ 672 47 ≠ none := fun h => by rw [sR_672_47 h]; exact fun z => nomatch z
  have n645 : ∀ {υ : jS}, SH υ → jR υ 645 47 ≠ none := fun h => by rw [sR_645_47 h]; exact fun z => nomatch z
  have n646 : ∀ {υ : jS}, SH υ → jR υ 646 47 ≠ none := fun h => by rw [sR_646_47 h]; exact fun z => nomatch z
  have n647 : ∀ {υ : jS}, SH υ → jR υ 647 47 ≠ none := fun h => by rw [sR_647_47 h]; exact fun z => nomatch z
  have start : jx (d + 3) 153 0 [some (.ref 47), some (.int (nI r)), some (.int (nI sd)), none, none, none, none, none, none] [] σ = jx (d + 3) 153 25 [some (.ref 47), some (.int (nI r)), some (.int (nI sd)), some (.int (nI (wdN nr hc))), some (.int (nI 0)), none, none, none, none] [] σ := by
    rw [k153_0 (sT_47 hS) (n651 hS) (by rw [g651 hS]; exact Or.inl (sT_56 hS)) (by rw [g651 hS, sN_56 hS]; exact gr) (n654 hS) (by rw [g654 hS]; exact Or.inr (sT_59 hS)) (by rw [g654 hS, sN_59 hS]; exact gr), g651 hS, g654 hS, qr, e6, e9]
    cases hc with
    | true =>
      have i1 : ¬ (if true = true then (1 : Int32) else 0) = 0 := by decide
      have p4 : nI nr + 4 = nI (wdN nr true) := by rw [show (4 : Int32) = nI 4 from rfl, nadd]; rfl
      rw [if_neg i1, k153_15, p4]; rfl
    | false =>
      have i1 : (if false = true then (1 : Int32) else 0) = 0 := rfl
      have p4 : nI nr + 0 = nI (wdN nr false) := by rw [show (0 : Int32) = nI 0 from rfl, nadd]; rfl
      rw [if_pos i1, k153_19, p4]; rfl
  have L1 : ∀ f n σ1, n + f = 4 → FR [49] σ σ1 → (∀ i, i < n → jA σ1 49 i = w0F nr hc v i ∧ jA σ1 49 (4 + i) = w0F nr hc v (4 + i)) → ∃ σ2, jx (d + 3) 153 25 [some (.ref 47), some (.int (nI r)), some (.int (nI sd)), some (.int (nI (wdN nr hc))), some (.int (nI n)), none, none, none, none] [] σ1 = jx (d + 3) 153 102 [some (.ref 47), some (.int (nI r)), some (.int (nI sd)), some (.int (nI (wdN nr hc))), some (.int (nI 4)), none, none, none, none] [] σ2 ∧ FR [49] σ σ2 ∧ ∀ i, i < 8 → jA σ2 49 i = w0F nr hc v i := by
    intro f
    induction f with
    | zero =>
      intro n σ1 hn F h
      have e : n = 4 := by omega
      subst e
      refine ⟨σ1, by rw [k153_25, if_pos (by decide)], F, fun i hi => ?_⟩
      by_cases q : i < 4
      · exact (h i q).1
      · have := (h (i - 4) (by omega)).2
        rw [show 4 + (i - 4) = i by omega] at this
        exact this
    | succ f ih =>
      intro n σ1 hn F h
      have h1 := Sx F
      have g4 : ¬ (4 : Int32) ≤ nI n := nI_ge (b := 4) (by omega) (by omega)
      have p4 : (4 : Int32) + nI n = nI (4 + n) := by rw [show (4 : Int32) = nI 4 from rfl, nadd]
      have q56 : jA σ1 56 r = nI nr := by rw [(F.2 56 (by decide)).2]; exact e6
      have q59 : jA σ1 59 r = if hc = true then 1 else 0 := by rw [(F.2 59 (by decide)).2]; exact e9
      have q73 : ∀ k, k < 11 → jA σ1 73 k = v k := fun k hk => by rw [(F.2 73 (by decide)).2]; exact hv k hk
      obtain ⟨σ2, e2, F2, h2⟩ := ih (n + 1) (jsA (jsA σ1 49 n (w0F nr hc v n)) 49 (4 + n) (w0F nr hc v (4 + n))) (by omega) ((F.A (by simp)).A (by simp)) (fun i hi => by
        rw [zA_A, zA_A, zA_A, zA_A]
        by_cases q : i = n
        · subst q
          rw [if_neg (fun z => by omega), if_pos ⟨rfl, rfl⟩, if_pos ⟨rfl, rfl⟩]
          exact ⟨rfl, rfl⟩
        · rw [if_neg (fun z => by omega), if_neg (fun z => q z.2), if_neg (fun z => by omega), if_neg (fun z => by omega)]
          exact h i (by omega))
      refine ⟨σ2, ?_, F2, h2⟩
      -- the register
      have a1 : jx (d + 3) 153 25 [some (.ref 47), some (.int (nI r)), some (.int (nI sd)), some (.int (nI (wdN nr hc))), some (.int (nI n)), none, none, none, none] [] σ1 = if hc = true then jx (d + 3) 153 77 [some (.ref 47), some (.int (nI r)), some (.int (nI sd)), some (.int (nI (wdN nr hc))), some (.int (nI n)), none, none, none, none] [.int (nI (4 + n)), .ref 49] (jsA σ1 49 n (w0F nr hc v n)) else jx (d + 3) 153 94 [some (.ref 47), some (.int (nI r)), some (.int (nI sd)), some (.int (nI (wdN nr hc))), some (.int (nI n)), none, none, none, none] [.int (nI (4 + n)), .ref 49] (jsA σ1 49 n (w0F nr hc v n)) := by
        have z59 : ∀ x : Int32, jA (jsA σ1 49 n x) 59 r = if hc = true then 1 else 0 := fun x => by rw [zA_A, if_neg (fun z => absurd z.1 (by decide))]; exact q59
        rw [k153_25, if_neg g4, k153_31 (sT_47 h1) (n643 h1) (n651 h1) (by rw [g651 h1]; exact Or.inl (sT_56 h1)) (by rw [g651 h1, sN_56 h1]; exact gr), g651 h1, g643 h1, qr, q56]
        by_cases hq : n < nr
        · have ew : w0F nr hc v n = v n := if_pos hq
          rw [if_neg (nI_ge hq (by omega)), k153_48 (sT_47 h1) (n672 h1) (by rw [g672 h1]; exact Or.inl (sT_73 h1)) (by rw [g672 h1, sN_73 h1]; exact jin_n (by omega) (by decide)) (sT_49 h1) (by rw [sN_49 h1]; exact jin_n (by omega) (by decide)) (n643 h1) (n654 h1) (by rw [g654 h1]; exact Or.inr (sT_59 h1)) (by rw [g654 h1, sN_59 h1]; exact gr), g672 h1, g654 h1, g643 h1, qr, nI_clamp (by omega), q73 n (by omega), z59, p4, ew]
          cases hc with
          | true => rw [if_neg (show ¬ (if true = true then (1 : Int32) else 0) = 0 by decide), if_pos rfl]
          | false => rw [if_pos (show (if false = true then (1 : Int32) else 0) = 0 from rfl), if_neg (by decide)]
        · have ew : w0F nr hc v n = 0 := by
            unfold w0F
            rw [if_neg hq, if_neg (fun z => by omega)]
          rw [if_pos (nI_le (by omega) (by omega)), k153_58 (sT_49 h1) (by rw [sN_49 h1]; exact jin_n (by omega) (by decide)) (sT_47 h1) (n643 h1) (n654 h1) (by rw [g654 h1]; exact Or.inr (sT_59 h1)) (by rw [g654 h1, sN_59 h1]; exact gr), g654 h1, g643 h1, qr, nI_clamp (by omega), z59, p4, ew]
          cases hc with
          | true => rw [if_neg (show ¬ (if true = true then (1 : Int32) else 0) = 0 by decide), if_pos rfl]
          | false => rw [if_pos (show (if false = true then (1 : Int32) else 0) = 0 from rfl), if_neg (by decide)]
      have hu : SH (jsA σ1 49 n (w0F nr hc v n)) := by rw [SH_A]; exact h1
      rw [a1, ← e2]
      by_cases hcb : hc = true
      · have u56 : jA (jsA σ1 49 n (w0F nr hc v n)) 56 r = nI nr := by rw [zA_A, if_neg (fun z => absurd z.1 (by decide))]; exact q56
        have u73 : jA (jsA σ1 49 n (w0F nr hc v n)) 73 (nr + n) = v (nr + n) := by rw [zA_A, if_neg (fun z => absurd z.1 (by decide))]; exact q73 _ (by omega)
        have ew : w0F nr hc v (4 + n) = v (nr + n) := by
          show (if 4 + n < nr then v (4 + n) else if 4 ≤ 4 + n ∧ hc = true then v (nr + (4 + n - 4)) else 0) = _
          rw [if_neg (by omega), if_pos ⟨by omega, hcb⟩]
          congr 1
          omega
        rw [if_pos hcb, k153_77 (sT_47 hu) (n672 hu) (n651 hu) (by rw [g651 hu]; exact Or.inl (sT_56 hu)) (by rw [g651 hu, sN_56 hu]; exact gr) (by rw [g672 hu]; exact Or.inl (sT_73 hu)) (by rw [g672 hu, g651 hu, sN_73 hu, qr, u56, nadd]; exact jin_n (by omega) (by decide)) (sT_49 hu) (by rw [sN_49 hu]; exact jin_n (by omega) (by decide)), g672 hu, g651 hu, qr, u56, nadd, nI_clamp (by omega), nI_clamp (by omega), u73, ← ew, ← nI_succ]
      · have ew : w0F nr hc v (4 + n) = 0 := by
          show (if 4 + n < nr then v (4 + n) else if 4 ≤ 4 + n ∧ hc = true then v (nr + (4 + n - 4)) else 0) = _
          rw [if_neg (by omega), if_neg (fun z => hcb z.2)]
        rw [if_neg hcb, k153_94 (sT_49 hu) (by rw [sN_49 hu]; exact jin_n (by omega) (by decide)), nI_clamp (by omega), ew, ← nI_succ]
  have L2 : ∀ f n σ1 w l5 l6 l7 l8, n + f = os.length → FR [49] σ σ1 → WD W w → (∀ i, i < 8 → jA σ1 49 i = w i) → ∃ σ2, jx (d + 3) 153 105 [some (.ref 47), some (.int (nI r)), some (.int (nI sd)), some (.int (nI (wdN nr hc))), some (.int (nI n)), l5, l6, l7, l8] [] σ1 = some (none, σ2) ∧ FR [49] σ σ2 ∧ ∀ i, i < 8 → jA σ2 49 i = exL W ((os.drop n).map (wrM W (mvF (wdN nr hc) v))) w i := by
    intro f
    induction f with
    | zero =>
      intro n σ1 w l5 l6 l7 l8 hn F hD h
      have e : n = os.length := by omega
      subst e
      have h1 := Sx F
      have e2 : (2 : Int32) * nI r + nI sd = nI (2 * r + sd) := by rw [show (2 : Int32) = nI 2 from rfl, nmul, nadd]
      refine ⟨σ1, ?_, F, fun i hi => by rw [List.drop_length]; exact h i hi⟩
      rw [k153_105 (sT_47 h1) (n645 h1) (by rw [g645 h1]; exact Or.inl (sT_50 h1)) (by rw [g645 h1, sN_50 h1, e2]; exact jin_n (by omega) (by decide)), g645 h1, e2, nI_clamp (by omega), (F.2 50 (by decide)).2, e50, if_pos (nI_le (Nat.le_refl _) (by omega)), k153_247]
    | succ f ih =>
      intro n σ1 w l5 l6 l7 l8 hn F hD h
      have hlt : n < os.length := by omega
      have h1 := Sx F
      have hw1 : jI σ1 640 47 = nI W := by rw [(F.2 47 (by decide)).1]; exact hw
      have e2 : (2 : Int32) * nI r + nI sd = nI (2 * r + sd) := by rw [show (2 : Int32) = nI 2 from rfl, nmul, nadd]
      obtain ⟨k, ek⟩ : ∃ k, 8 * r + 4 * sd + n = k := ⟨_, rfl⟩
      have hk : k < 192 := by omega
      have e8 : (8 : Int32) * nI r + 4 * nI sd + nI n = nI k := by rw [show (8 : Int32) = nI 8 from rfl, show (4 : Int32) = nI 4 from rfl, nmul, nmul, nadd, nadd, ek]
      have gk : jin 192 (nI k) := jin_n hk (by decide)
      have qk : (nI k).toNatClampNeg = k := nI_clamp (by omega)
      obtain ⟨o, eo⟩ : ∃ o, os.getD n (fun _ => 0) = o := ⟨_, rfl⟩
      have ho : WFo nr nm o := eo ▸ hf _ (mem_getD hlt)
      have hO : MO σ1 k o := by
        have := hM n hlt
        rw [ek, eo] at this
        exact this.fr F (fun a x y => by simp; omega)
      obtain ⟨op1, op2⟩ := ho.op
      have hm : MV nm (mvF (wdN nr hc) v) := hV.mv
      obtain ⟨kk, x, y, z, h8, p0, p1, p2, p3, _, _⟩ := wrM_PWF hW hnr hnm hm ho
      have D1 : WD W (jA σ1 49) := hD.cong h
      obtain ⟨σ2, c1, c2, c3⟩ := c157 (d := d + 2) h1 hW hw1 h8 D1
      rw [← p0, ← p1, ← p2, ← p3] at c1
      have F2 := F.trans c2
      have e51 : jA σ1 51 k = nI (opO o) := by rw [hO.1, op2]
      have w0' : wrM W (mvF (wdN nr hc) v) o 0 = nI (opO o) := op2
      have reg : ∀ j, j < regN (opO o) → jA σ1 52 (3 * k + j) = o (j + 1) := fun j hj => hO.2.1 j hj
      have e3 : ∀ j, (3 : Int32) * nI k + nI j = nI (3 * k + j) := fun j => by rw [show (3 : Int32) = nI 3 from rfl, nmul, nadd]
      have e30 : (3 : Int32) * nI k = nI (3 * k) := by rw [show (3 : Int32) = nI 3 from rfl, nmul]
      have hr3 := regN3 (opO o)
      have wv : ∀ j, wrM W (mvF (wdN nr hc) v) o j = if j = 0 then o 0 else if j ≤ regN (opO o) then o j else if j = 2 ∧ numN (opO o) = true then numM W (mvF (wdN nr hc) v) o else 0 := fun _ => rfl
      -- y is there: to the call
      have tail : ∀ yv : Int32, yv = wrM W (mvF (wdN nr hc) v) o 2 → (if nI (regN (opO o)) ≤ 0 then jx (d + 3) 153 214 [some (.ref 47), some (.int (nI r)), some (.int (nI sd)), some (.int (nI (wdN nr hc))), some (.int (nI n)), some (.int (nI k)), some (.int (nI (opO o))), some (.int (nI (regN (opO o)))), some (.int yv)] [.int (nI (opO o)), .ref 47] σ1 else jx (d + 3) 153 202 [some (.ref 47), some (.int (nI r)), some (.int (nI sd)), some (.int (nI (wdN nr hc))), some (.int (nI n)), some (.int (nI k)), some (.int (nI (opO o))), some (.int (nI (regN (opO o)))), some (.int yv)] [.int (nI (opO o)), .ref 47] σ1) = jx (d + 3) 153 241 [some (.ref 47), some (.int (nI r)), some (.int (nI sd)), some (.int (nI (wdN nr hc))), some (.int (nI n)), some (.int (nI k)), some (.int (nI (opO o))), some (.int (nI (regN (opO o)))), some (.int yv)] [] σ2 := by
        intro yv hy
        rw [hy]
        by_cases r0 : regN (opO o) = 0
        · have x1 : wrM W (mvF (wdN nr hc) v) o 1 = 0 := by rw [wv, if_neg (by decide), if_neg (by omega), if_neg (fun z => absurd z.1 (by decide))]
          have x3 : wrM W (mvF (wdN nr hc) v) o 3 = 0 := by rw [wv, if_neg (by decide), if_neg (by omega), if_neg (fun z => absurd z.1 (by decide))]
          rw [w0', x1, x3] at c1
          rw [if_pos (by rw [r0]; decide), k153_214, if_pos (by rw [r0]; decide), k153_237 (sT_47 h1), c1]
          rfl
        · have x1 : wrM W (mvF (wdN nr hc) v) o 1 = o 1 := by rw [wv, if_neg (by decide), if_pos (by omega)]
          have r52 : jA σ1 52 (3 * k) = o 1 := reg 0 (by omega)
          have n0 : ¬ nI (regN (opO o)) ≤ 0 := by rw [show (0 : Int32) = nI 0 from rfl, n31le (by omega) (by decide)]; omega
          rw [if_neg n0, k153_202 (sT_47 h1) (n647 h1) (by rw [g647 h1]; exact Or.inl (sT_52 h1)) (by rw [g647 h1, sN_52 h1, e30]; exact jin_n (by omega) (by decide)), g647 h1, e30, nI_clamp (by omega), r52]
          by_cases r3 : regN (opO o) ≤ 2
          · have x3 : wrM W (mvF (wdN nr hc) v) o 3 = 0 := by rw [wv, if_neg (by decide), if_neg (by omega), if_neg (fun z => absurd z.1 (by decide))]
            have le2 : nI (regN (opO o)) ≤ 2 := nI_le (b := 2) r3 (by decide)
            rw [w0', x1, x3] at c1
            rw [if_pos le2, k153_237 (sT_47 h1), c1]
            rfl
          · have x3 : wrM W (mvF (wdN nr hc) v) o 3 = o 3 := by rw [wv, if_neg (by decide), if_pos (by omega)]
            have le2 : ¬ nI (regN (opO o)) ≤ 2 := nI_ge (a := 2) (by omega) (by omega)
            have r52' : jA σ1 52 (3 * k + 2) = o 3 := reg 2 (by omega)
            rw [w0', x1, x3] at c1
            rw [if_neg le2, k153_223 (sT_47 h1) (n647 h1) (by rw [g647 h1]; exact Or.inl (sT_52 h1)) (by rw [g647 h1, sN_52 h1, show (2 : Int32) = nI 2 from rfl, e3 2]; exact jin_n (by omega) (by decide)) (sT_47 h1), g647 h1, show (3 : Int32) * nI k + 2 = nI (3 * k + 2) from e3 2, nI_clamp (by omega), r52', c1]
            rfl
      have go : ∃ yv : Int32, jx (d + 3) 153 105 [some (.ref 47), some (.int (nI r)), some (.int (nI sd)), some (.int (nI (wdN nr hc))), some (.int (nI n)), l5, l6, l7, l8] [] σ1 = jx (d + 3) 153 241 [some (.ref 47), some (.int (nI r)), some (.int (nI sd)), some (.int (nI (wdN nr hc))), some (.int (nI n)), some (.int (nI k)), some (.int (nI (opO o))), some (.int (nI (regN (opO o)))), some (.int yv)] [] σ2 := by
        refine ⟨wrM W (mvF (wdN nr hc) v) o 2, ?_⟩
        rw [← tail _ rfl]
        rw [k153_105 (sT_47 h1) (n645 h1) (by rw [g645 h1]; exact Or.inl (sT_50 h1)) (by rw [g645 h1, sN_50 h1, e2]; exact jin_n (by omega) (by decide)), g645 h1, e2, nI_clamp (by omega), (F.2 50 (by decide)).2, e50, if_neg (nI_ge (by omega) (by omega))]
        rw [k153_120 (sT_47 h1) (n646 h1) (by rw [g646 h1]; exact Or.inl (sT_51 h1)) (by rw [g646 h1, sN_51 h1, e8]; exact gk), g646 h1, e8, qk, e51, c137 op1]
        simp only [Option.bind_some, Option.toList_some, List.cons_append, List.nil_append]
        rw [k153_147, c143 op1]
        simp only [Option.bind_some, Option.toList_some, List.cons_append, List.nil_append]
        rw [k153_154]
        by_cases hn' : numN (opO o) = true
        · have r1 := numN1 hn'
          have x2 : wrM W (mvF (wdN nr hc) v) o 2 = numM W (mvF (wdN nr hc) v) o := by rw [wv, if_neg (by decide), if_neg (by omega), if_pos ⟨rfl, hn'⟩]
          have cn := c154 (d := d) (row := 73) (fr := wdN nr hc) (N := 11) h1 hW hw1 hk hO ho hnm hn' (sT_73 h1) (sN_73 h1) hwd (by decide)
          have me : ∀ i, i < nm → (fun i => jA σ1 73 (wdN nr hc + i)) i = mvF (wdN nr hc) v i := fun i hi => by
            show jA σ1 73 (wdN nr hc + i) = v (wdN nr hc + i)
            rw [(F.2 73 (by decide)).2]; exact hv _ (by omega)
          have nme : numM W (fun i => jA σ1 73 (wdN nr hc + i)) o = numM W (mvF (wdN nr hc) v) o := by
            have q := congrFun (wrM_mv (W := W) hnm me ho) 2
            have u1 : ∀ mv, wrM W mv o 2 = numM W mv o := fun mv => by
              show (if 2 = 0 then o 0 else if 2 ≤ regN (opO o) then o 2 else if 2 = 2 ∧ numN (opO o) = true then numM W mv o else 0) = _
              rw [if_neg (by decide), if_neg (by omega), if_pos ⟨rfl, hn'⟩]
            rw [u1, u1] at q
            exact q
          rw [nme] at cn
          rw [if_pos hn', if_neg (by decide), k153_157 (sT_47 h1) (n672 h1), g672 h1, cn]
          simp only [Option.bind_some, Option.toList_some, List.cons_append, List.nil_append]
          rw [k153_168, x2]
        · rw [if_neg hn', if_pos rfl, k153_171]
          by_cases r1 : regN (opO o) ≤ 1
          · have x2 : wrM W (mvF (wdN nr hc) v) o 2 = 0 := by rw [wv, if_neg (by decide), if_neg (by omega), if_neg (fun z => hn' z.2)]
            have le1 : nI (regN (opO o)) ≤ 1 := nI_le (b := 1) r1 (by decide)
            rw [if_pos le1, k153_191, x2]
          · have x2 : wrM W (mvF (wdN nr hc) v) o 2 = o 2 := by rw [wv, if_neg (by decide), if_pos (by omega)]
            have le1 : ¬ nI (regN (opO o)) ≤ 1 := nI_ge (a := 1) (by omega) (by omega)
            have r52' : jA σ1 52 (3 * k + 1) = o 2 := reg 1 (by omega)
            rw [if_neg le1, k153_177 (sT_47 h1) (n647 h1) (by rw [g647 h1]; exact Or.inl (sT_52 h1)) (by rw [g647 h1, sN_52 h1, show (1 : Int32) = nI 1 from rfl, e3 1]; exact jin_n (by omega) (by decide)), g647 h1, show (3 : Int32) * nI k + 1 = nI (3 * k + 1) from e3 1, nI_clamp (by omega), r52', x2]
      obtain ⟨yv, go⟩ := go
      have pw : PWF (wrM W (mvF (wdN nr hc) v) o) := ⟨kk, x, y, z, h8, p0, p1, p2, p3⟩
      obtain ⟨σ3, e4, F3, h3⟩ := ih (n + 1) σ2 (exO W w (wrM W (mvF (wdN nr hc) v) o)) (some (.int (nI k))) (some (.int (nI (opO o)))) (some (.int (nI (regN (opO o))))) (some (.int yv)) (by omega) F2 (hD.exO hW pw) (fun i hi => by
        rw [c3 i, exO_eq h8 p0 p1 p2 p3]
        exact exN_cong h8 h i hi)
      refine ⟨σ3, ?_, F3, fun i hi => ?_⟩
      · rw [go, k153_241, ← nI_succ]; exact e4
      · rw [drop_cons hlt, eo]; exact h3 i hi
  obtain ⟨σ2, e2, F2, h2⟩ := L1 4 0 σ rfl (FR.refl _ σ) (fun i hi => absurd hi (Nat.not_lt_zero i))
  obtain ⟨σ3, e3, F3, h3⟩ := L2 os.length 0 σ2 (w0F nr hc v) none none none none (by omega) F2 (hV.wd hnr) h2
  refine ⟨σ3, ?_, F3, fun i hi => by rw [h3 i hi, List.drop_zero]; rfl⟩
  rw [start, e2, k153_102]
  exact e3
end TRN
end S_73
section S_74
/-! the reference's trial whole -/
section TRO
variable {d : Nat} {W : Nat}
theorem c152 {σ : jS} {r nr nm : Nat} {hc : Bool} {o1 o2 : List (Nat → Int32)} {rg t v : Nat → Int32} (hS : SH σ) (hW : W = 1 ∨ W = 2 ∨ W = 3) (hw : jI σ 640 47 = nI W) (hr : r < 24) (hnr : nr ≤ 4) (hnm : nm ≤ 3) (hM : MR σ r nr nm hc o1 o2 rg) (f1 : ∀ o, o ∈ o1 → WFo nr nm o) (f2 : ∀ o, o ∈ o2 → WFo nr nm o) (hV : VB W (wdN nr hc) (wdN nr hc + nm) t v) (hv : ∀ k, k < 11 → jA σ 73 k = v k) :
    ∃ σ', jx (d + 4) 152 0 [some (.ref 47), some (.int (nI r)), none, none] [] σ = some (some (.int (if lik W nr hc o1 o2 v = true then 1 else 0)), σ') ∧ FR [49, 74] σ σ' := by
  have hM0 := hM
  obtain ⟨m1, m2, m3, m4, m5, m6, m7, m8, m9, m10⟩ := hM
  obtain ⟨σ1, e1, F1, h1⟩ := c153 (d := d) (W := W) (sd := 0) hS hW hw hr (Or.inl rfl) hnr hnm m5 m7 m1 m3 m9 f1 hV hv
  have hS1 := F1.sh hS
  have gr : jin 24 (nI r) := jin_n hr (by decide)
  have qr : (nI r).toNatClampNeg = r := nI_clamp (by omega)
  have g643 : ∀ {υ : jS}, SH υ → (jR υ 643 47).getD 0 = 49 := fun h => by rw [sR_643_47 h]; rfl
  have n643 : ∀ {υ : jS}, SH υ → jR υ 643 47 ≠ none := fun h => by rw [sR_643_47 h]; exact fun z => nomatch z
  have g673 : ∀ {υ : jS}, SH υ → (jR υ 673 47).getD 0 = 74 := fun h => by rw [sR_673_47 h]; rfl
  have n673 : ∀ {υ : jS}, SH υ → jR υ 673 47 ≠ none := fun h => by rw [sR_673_47 h]; exact fun z => nomatch z
  have L1 : ∀ f n σ2, n + f = 8 → FR [74] σ1 σ2 → (∀ i, i < n → jA σ2 74 i = jA σ1 49 i) → ∃ σ3, jx (d + 4) 152 8 [some (.ref 47), some (.int (nI r)), some (.int (nI n)), none] [] σ2 = jx (d + 4) 152 32 [some (.ref 47), some (.int (nI r)), some (.int (nI 8)), none] [] σ3 ∧ FR [74] σ1 σ3 ∧ ∀ i, i < 8 → jA σ3 74 i = jA σ1 49 i := by
    intro f
    induction f with
    | zero =>
      intro n σ2 hn F h
      have e : n = 8 := by omega
      subst e
      exact ⟨σ2, by rw [k152_8, if_pos (by decide)], F, h⟩
    | succ f ih =>
      intro n σ2 hn F h
      have hS2 := F.sh hS1
      have g8 : ¬ (8 : Int32) ≤ nI n := nI_ge (b := 8) (by omega) (by omega)
      obtain ⟨σ3, e3, F3, h3⟩ := ih (n + 1) (jsA σ2 74 n (jA σ1 49 n)) (by omega) (F.A (by simp)) (fun i hi => by
        rw [zA_A]
        by_cases q : i = n
        · rw [if_pos ⟨rfl, q⟩, q]
        · rw [if_neg (fun z => q z.2)]; exact h i (by omega))
      refine ⟨σ3, ?_, F3, h3⟩
      rw [← e3, k152_8, if_neg g8, k152_14 (sT_47 hS2) (n673 hS2) (n643 hS2) (by rw [g643 hS2]; exact Or.inl (sT_49 hS2)) (by rw [g643 hS2, sN_49 hS2]; exact jin_n (by omega) (by decide)) (by rw [g673 hS2]; exact sT_74 hS2) (by rw [g673 hS2, sN_74 hS2]; exact jin_n (by omega) (by decide)), g643 hS2, g673 hS2, nI_clamp (by omega), (F.2 49 (by decide)).2, ← nI_succ]
  obtain ⟨σ3, e3, F3, h3⟩ := L1 8 0 σ1 rfl (FR.refl _ σ1) (fun i hi => absurd hi (Nat.not_lt_zero i))
  have F13 : FR [49, 74] σ σ3 := (F1.mono (by decide)).trans (F3.mono (by decide))
  have hS3 := F13.sh hS
  have M3 : MR σ3 r nr nm hc o1 o2 rg := hM0.frame F13 (fun a x y => by simp; omega)
  obtain ⟨y1, y2, y3, y4, y5, y6, y7, y8, y9, y10⟩ := M3
  obtain ⟨σ4, e4, F4, h4⟩ := c153 (d := d) (W := W) (sd := 1) hS3 hW (by rw [(F13.2 47 (by decide)).1]; exact hw) hr (Or.inr rfl) hnr hnm y5 y7 y2 y4 y10 f2 hV (fun k hk => by rw [(F13.2 73 (by decide)).2]; exact hv k hk)
  have F14 : FR [49, 74] σ σ4 := F13.trans (F4.mono (by decide))
  have hS4 := F14.sh hS
  have lf : ∀ i, i < 8 → jA σ4 74 i = exS W nr hc o1 v i := fun i hi => by rw [(F4.2 74 (by decide)).2, h3 i hi, h1 i hi]
  have q56 : jA σ4 56 r = nI nr := by rw [(F4.2 56 (by decide)).2]; exact y5
  have g651 : (jR σ4 651 47).getD 0 = 56 := by rw [sR_651_47 hS4]; rfl
  have n651 : jR σ4 651 47 ≠ none := by rw [sR_651_47 hS4]; exact fun z => nomatch z
  have L2 : ∀ f n (x : Int32), n + f = 4 → (x = 0 ∨ x = 1) → ∃ y : Int32, jx (d + 4) 152 42 [some (.ref 47), some (.int (nI r)), some (.int x), some (.int (nI n))] [] σ4 = some (some (.int y), σ4) ∧ (y = 0 ∨ y = 1) ∧ (y = 1 ↔ (x = 1 ∧ ∀ i, n ≤ i → i < 4 → (nr ≤ i ∨ exS W nr hc o1 v i = exS W nr hc o2 v i) ∧ exS W nr hc o1 v (4 + i) = exS W nr hc o2 v (4 + i))) := by
    intro f
    induction f with
    | zero =>
      intro n x hn hx
      have e : n = 4 := by omega
      subst e
      refine ⟨x, ?_, hx, ⟨fun z => ⟨z, fun i a b => by omega⟩, fun z => z.1⟩⟩
      rw [k152_42, if_pos (by decide), k152_107 (by rcases hx with q | q <;> rw [q] <;> decide)]
    | succ f ih =>
      intro n x hn hx
      have g4 : ¬ (4 : Int32) ≤ nI n := nI_ge (b := 4) (by omega) (by omega)
      have p4 : (4 : Int32) + nI n = nI (4 + n) := by rw [show (4 : Int32) = nI 4 from rfl, nadd]
      have no : ∀ (hbad : ¬ (x = 1 ∧ (nr ≤ n ∨ exS W nr hc o1 v n = exS W nr hc o2 v n) ∧ exS W nr hc o1 v (4 + n) = exS W nr hc o2 v (4 + n))), jx (d + 4) 152 42 [some (.ref 47), some (.int (nI r)), some (.int x), some (.int (nI n))] [] σ4 = jx (d + 4) 152 99 [some (.ref 47), some (.int (nI r)), some (.int x), some (.int (nI n))] [] σ4 → ∃ y : Int32, jx (d + 4) 152 42 [some (.ref 47), some (.int (nI r)), some (.int x), some (.int (nI n))] [] σ4 = some (some (.int y), σ4) ∧ (y = 0 ∨ y = 1) ∧ (y = 1 ↔ (x = 1 ∧ ∀ i, n ≤ i → i < 4 → (nr ≤ i ∨ exS W nr hc o1 v i = exS W nr hc o2 v i) ∧ exS W nr hc o1 v (4 + i) = exS W nr hc o2 v (4 + i))) := by
        intro hbad e
        obtain ⟨y, y1, y2, y3⟩ := ih (n + 1) 0 (by omega) (Or.inl rfl)
        refine ⟨y, by rw [e, k152_99, ← nI_succ]; exact y1, y2, ⟨fun z => absurd (y3.mp z).1 (by decide), fun z => ?_⟩⟩
        exact absurd ⟨z.1, z.2 n (Nat.le_refl _) (by omega)⟩ hbad
      by_cases hx0 : x = 0
      · refine no (fun z => by rw [hx0] at z; exact absurd z.1 (by decide)) ?_
        rw [k152_42, if_neg g4, k152_47, if_pos hx0]
      · have hx1 : x = 1 := hx.resolve_left hx0
        have a1 : jx (d + 4) 152 42 [some (.ref 47), some (.int (nI r)), some (.int x), some (.int (nI n))] [] σ4 = if nI nr ≤ nI n then jx (d + 4) 152 76 [some (.ref 47), some (.int (nI r)), some (.int x), some (.int (nI n))] [] σ4 else jx (d + 4) 152 61 [some (.ref 47), some (.int (nI r)), some (.int x), some (.int (nI n))] [] σ4 := by
          rw [k152_42, if_neg g4, k152_47, if_neg hx0, k152_51 (sT_47 hS4) n651 (by rw [g651]; exact Or.inl (sT_56 hS4)) (by rw [g651, sN_56 hS4]; exact gr), g651, qr, q56]
        have a2 : ¬ nr ≤ n → jx (d + 4) 152 61 [some (.ref 47), some (.int (nI r)), some (.int x), some (.int (nI n))] [] σ4 = if ¬ exS W nr hc o1 v n = exS W nr hc o2 v n then jx (d + 4) 152 99 [some (.ref 47), some (.int (nI r)), some (.int x), some (.int (nI n))] [] σ4 else jx (d + 4) 152 76 [some (.ref 47), some (.int (nI r)), some (.int x), some (.int (nI n))] [] σ4 := by
          intro _
          rw [k152_61 (sT_47 hS4) (n673 hS4) (by rw [g673 hS4]; exact Or.inl (sT_74 hS4)) (by rw [g673 hS4, sN_74 hS4]; exact jin_n (by omega) (by decide)) (n643 hS4) (by rw [g643 hS4]; exact Or.inl (sT_49 hS4)) (by rw [g643 hS4, sN_49 hS4]; exact jin_n (by omega) (by decide)), g673 hS4, g643 hS4, nI_clamp (by omega), lf n (by omega), h4 n (by omega)]
        have a3 : jx (d + 4) 152 76 [some (.ref 47), some (.int (nI r)), some (.int x), some (.int (nI n))] [] σ4 = if ¬ exS W nr hc o1 v (4 + n) = exS W nr hc o2 v (4 + n) then jx (d + 4) 152 99 [some (.ref 47), some (.int (nI r)), some (.int x), some (.int (nI n))] [] σ4 else jx (d + 4) 152 95 [some (.ref 47), some (.int (nI r)), some (.int x), some (.int (nI n))] [] σ4 := by
          rw [k152_76 (sT_47 hS4) (n673 hS4) (by rw [g673 hS4]; exact Or.inl (sT_74 hS4)) (by rw [g673 hS4, sN_74 hS4, p4]; exact jin_n (by omega) (by decide)) (n643 hS4) (by rw [g643 hS4]; exact Or.inl (sT_49 hS4)) (by rw [g643 hS4, sN_49 hS4, p4]; exact jin_n (by omega) (by decide)), g673 hS4, g643 hS4, p4, nI_clamp (by omega), lf (4 + n) (by omega), h4 (4 + n) (by omega)]
        by_cases c2 : exS W nr hc o1 v (4 + n) = exS W nr hc o2 v (4 + n)
        · have yes : (nr ≤ n ∨ exS W nr hc o1 v n = exS W nr hc o2 v n) → jx (d + 4) 152 42 [some (.ref 47), some (.int (nI r)), some (.int x), some (.int (nI n))] [] σ4 = jx (d + 4) 152 95 [some (.ref 47), some (.int (nI r)), some (.int x), some (.int (nI n))] [] σ4 → ∃ y : Int32, jx (d + 4) 152 42 [some (.ref 47), some (.int (nI r)), some (.int x), some (.int (nI n))] [] σ4 = some (some (.int y), σ4) ∧ (y = 0 ∨ y = 1) ∧ (y = 1 ↔ (x = 1 ∧ ∀ i, n ≤ i → i < 4 → (nr ≤ i ∨ exS W nr hc o1 v i = exS W nr hc o2 v i) ∧ exS W nr hc o1 v (4 + i) = exS W nr hc o2 v (4 + i))) := by
            intro c1 e
            obtain ⟨y, y1, y2, y3⟩ := ih (n + 1) 1 (by omega) (Or.inr rfl)
            refine ⟨y, by rw [e, k152_95, ← nI_succ]; exact y1, y2, ⟨fun z => ⟨hx1, fun i a b => ?_⟩, fun z => y3.mpr ⟨rfl, fun i a b => z.2 i (by omega) b⟩⟩⟩
            by_cases q : i = n
            · rw [q]; exact ⟨c1, c2⟩
            · exact (y3.mp z).2 i (by omega) b
          by_cases cn : nr ≤ n
          · exact yes (Or.inl cn) (by rw [a1, if_pos (nI_le cn (by omega)), a3, if_neg (fun z => z c2)])
          · have lt : ¬ nI nr ≤ nI n := nI_ge (by omega) (by omega)
            by_cases c1 : exS W nr hc o1 v n = exS W nr hc o2 v n
            · exact yes (Or.inr c1) (by rw [a1, if_neg lt, a2 cn, if_neg (fun z => z c1), a3, if_neg (fun z => z c2)])
            · exact no (fun z => z.2.1.elim cn c1) (by rw [a1, if_neg lt, a2 cn, if_pos c1])
        · refine no (fun z => c2 z.2.2) ?_
          by_cases cn : nr ≤ n
          · rw [a1, if_pos (nI_le cn (by omega)), a3, if_pos c2]
          · have lt : ¬ nI nr ≤ nI n := nI_ge (by omega) (by omega)
            by_cases c1 : exS W nr hc o1 v n = exS W nr hc o2 v n
            · rw [a1, if_neg lt, a2 cn, if_neg (fun z => z c1), a3, if_pos c2]
            · rw [a1, if_neg lt, a2 cn, if_pos c1]
  obtain ⟨y, y1', y2', y3'⟩ := L2 4 0 1 rfl (Or.inr rfl)
  have ly : y = if lik W nr hc o1 o2 v = true then 1 else 0 := by
    by_cases q : lik W nr hc o1 o2 v = true
    · rw [if_pos q]
      exact y3'.mpr ⟨rfl, fun i _ b => (lik_iff hW hnr hnm hV f1 f2).mp q i b⟩
    · rw [if_neg q]
      rcases y2' with z | z
      · exact z
      · exact absurd ((lik_iff hW hnr hnm hV f1 f2).mpr (fun i b => (y3'.mp z).2 i (Nat.zero_le _) b)) q
  refine ⟨σ4, ?_, F14⟩
  have e1' : jx (d + 3) 153 0 [some (.ref 47), some (.int (nI r)), some (.int 0), none, none, none, none, none, none] [] σ = some (none, σ1) := e1
  have e3' : jx (d + 4) 152 8 [some (.ref 47), some (.int (nI r)), some (.int 0), none] [] σ1 = _ := e3
  have e4' : jx (d + 3) 153 0 [some (.ref 47), some (.int (nI r)), some (.int 1), none, none, none, none, none, none] [] σ3 = some (none, σ4) := e4
  rw [k152_0 (sT_47 hS), e1']
  simp only [Option.bind_some, Option.toList_none, List.nil_append]
  rw [k152_6, e3', k152_32 (sT_47 hS3), e4']
  simp only [Option.bind_some, Option.toList_none, List.nil_append]
  rw [k152_38, ← ly]
  exact y1'
end TRO
end S_74
section S_75
/-! the reference's trial: all assignments -/
section TRR
variable {d : Nat} {W : Nat}
theorem c151 {σ : jS} {r nr nm P : Nat} {hc : Bool} {o1 o2 : List (Nat → Int32)} {rg : Nat → Int32} (hS : SH σ) (hW : W = 1 ∨ W = 2 ∨ W = 3) (hw : jI σ 640 47 = nI W) (hr : r < 24) (hnr : nr ≤ 4) (hnm : nm ≤ 3) (hM : MR σ r nr nm hc o1 o2 rg) (f1 : ∀ o, o ∈ o1 → WFo nr nm o) (f2 : ∀ o, o ∈ o2 → WFo nr nm o) (e60 : jA σ 60 r = nI P) (hP : P < 2 ^ 31) {tp : Nat → Int32} (htp : ∀ k, k < wdN nr hc + nm → tp k = if k < wdN nr hc then mkW W else rg (k - wdN nr hc)) (hV0 : VB W (wdN nr hc) (wdN nr hc + nm) tp (fun _ => 0)) :
    ∃ σ', jx (d + 5) 151 0 [some (.ref 47), some (.int (nI r)), none, none, none, none] [] σ = some (none, σ') ∧ FR [49, 61, 62, 73, 74] σ σ' ∧ (∀ i, i ≠ r → jA σ' 61 i = jA σ 61 i) ∧ jA σ' 61 r = nI (cntL (lik W nr hc o1 o2) (odo tp (wdN nr hc + nm)) P (fun _ => 0)) := by
  have hM0 := hM
  obtain ⟨m1, m2, m3, m4, m5, m6, m7, m8, m9, m10⟩ := hM
  have gr : jin 24 (nI r) := jin_n hr (by decide)
  have qr : (nI r).toNatClampNeg = r := nI_clamp (by omega)
  obtain ⟨N, eN⟩ : ∃ N, wdN nr hc + nm = N := ⟨_, rfl⟩
  have hN : N ≤ 11 := by rw [← eN]; unfold wdN; cases hc <;> simp <;> omega
  have e11 : (11 : Int32) * nI r = nI (11 * r) := by rw [show (11 : Int32) = nI 11 from rfl, nmul]
  have g672 : ∀ {υ : jS}, SH υ → (jR υ 672 47).getD 0 = 73 := fun h => by rw [sR_672_47 h]; rfl
  have n672 : ∀ {υ : jS}, SH υ → jR υ 672 47 ≠ none := fun h => by rw [sR_672_47 h]; exact fun z => nomatch z
  have g656 : ∀ {υ : jS}, SH υ → (jR υ 656 47).getD 0 = 61 := fun h => by rw [sR_656_47 h]; rfl
  have n656 : ∀ {υ : jS}, SH υ → jR υ 656 47 ≠ none := fun h => by rw [sR_656_47 h]; exact fun z => nomatch z
  have g657 : ∀ {υ : jS}, SH υ → (jR υ 657 47).getD 0 = 62 := fun h => by rw [sR_657_47 h]; rfl
  have n657 : ∀ {υ : jS}, SH υ → jR υ 657 47 ≠ none := fun h => by rw [sR_657_47 h]; exact fun z => nomatch z
  have g655 : ∀ {υ : jS}, SH υ → (jR υ 655 47).getD 0 = 60 := fun h => by rw [sR_655_47 h]; rfl
  have n655 : ∀ {υ : jS}, SH υ → jR υ 655 47 ≠ none := fun h => by rw [sR_655_47 h]; exact fun z => nomatch z
  rw [eN] at htp hV0 ⊢
  -- the odometer
  have odoL : ∀ n w σ1 (x3 x4 : Int32), n ≤ N → FR [49, 61, 62, 73, 74] σ σ1 → VB W (wdN nr hc) N tp w → (∀ k, k < 11 → jA σ1 73 k = w k) → ∃ σ2 l5, jx (d + 5) 151 127 [some (.ref 47), some (.int (nI r)), some (.int (nI N)), some (.int x3), some (.int x4), some (.int (nI n - 1))] [] σ1 = jx (d + 5) 151 50 [some (.ref 47), some (.int (nI r)), some (.int (nI N)), some (.int x3), some (.int (x4 + 1)), l5] [] σ2 ∧ FR [73] σ1 σ2 ∧ ∀ k, k < 11 → jA σ2 73 k = odo tp n w k := by
    intro n
    induction n with
    | zero =>
      intro w σ1 x3 x4 hn F hVw hw1
      exact ⟨σ1, some (.int (nI 0 - 1)), by rw [k151_127, if_pos (by decide), k151_165, if_pos (by decide), k151_181], FR.refl _ σ1, hw1⟩
    | succ n ih =>
      intro w σ1 x3 x4 hn F hVw hw1
      have h1 := F.sh hS
      have e1 : nI (n + 1) - 1 = nI n := by rw [show (1 : Int32) = nI 1 from rfl, nsub (by omega)]; rfl
      have gn : jin 11 (nI n) := jin_n (by omega) (by decide)
      have qn : (nI n).toNatClampNeg = n := nI_clamp (by omega)
      have M1 : MR σ1 r nr nm hc o1 o2 rg := hM0.frame F (fun a x y => by simp; omega)
      obtain ⟨_, _, _, _, y5, y6, y7, y8, _, _⟩ := M1
      have cv := c150 (d := d + 4) (W := W) h1 hr hnr hnm (by rw [(F.2 47 (by decide)).1]; exact hw) y5 y7 y8 (k := n) (by omega)
      rw [← htp n (by omega)] at cv
      have st : ∀ x : Int32, ∀ k, k < 11 → jA (jsA σ1 73 n x) 73 k = up6 w n x k := by
        intro x k hk
        rw [zA_A]
        unfold up6
        by_cases q : k = n
        · rw [if_pos ⟨rfl, q⟩, if_pos q]
        · rw [if_neg (fun z => q z.2), if_neg q]; exact hw1 k hk
      have a1 : jx (d + 5) 151 127 [some (.ref 47), some (.int (nI r)), some (.int (nI N)), some (.int x3), some (.int x4), some (.int (nI n))] [] σ1 = if ¬ w n = tp n then jx (d + 5) 151 165 [some (.ref 47), some (.int (nI r)), some (.int (nI N)), some (.int x3), some (.int x4), some (.int (nI n))] [] σ1 else jx (d + 5) 151 151 [some (.ref 47), some (.int (nI r)), some (.int (nI N)), some (.int x3), some (.int x4), some (.int (nI n))] [] σ1 := by
        rw [k151_127, if_neg (nn0 (by omega)), k151_132 (sT_47 h1) (n672 h1) (by rw [g672 h1]; exact Or.inl (sT_73 h1)) (by rw [g672 h1, sN_73 h1]; exact gn), g672 h1, qn, hw1 n (by omega), cv]
        simp only [Option.bind_some, Option.toList_some, List.cons_append, List.nil_append]
        rw [k151_146, Int32.add_sub_cancel]
      rw [e1, a1]
      show ∃ σ2 l5, _ ∧ _ ∧ ∀ k, k < 11 → jA σ2 73 k = (if w n = tp n then odo tp n (up6 w n 0) else up6 w n (w n + 1)) k
      by_cases q : w n = tp n
      · obtain ⟨σ2, l5, e2, F2, h2⟩ := ih (up6 w n 0) (jsA σ1 73 n 0) x3 x4 (by omega) (F.A (by simp)) (hVw.up0 n) (st 0)
        have em : nI n + (-1) = nI n - 1 := by rw [Int32.sub_eq_add_neg]
        refine ⟨σ2, l5, ?_, ((FR.refl _ σ1).A (by simp)).trans F2, fun k hk => by rw [if_pos q]; exact h2 k hk⟩
        rw [if_neg (fun z => z q), k151_151 (sT_47 h1) (n672 h1) (by rw [g672 h1]; exact sT_73 h1) (by rw [g672 h1, sN_73 h1]; exact gn), g672 h1, qn, em]
        exact e2
      · refine ⟨jsA σ1 73 n (w n + 1), some (.int (nI n)), ?_, (FR.refl _ σ1).A (by simp), fun k hk => by rw [if_neg q]; exact st _ k hk⟩
        rw [if_pos q, k151_165, if_neg (nn0 (by omega)), k151_170 (sT_47 h1) (n672 h1) (by rw [g672 h1]; exact Or.inl (sT_73 h1)) (by rw [g672 h1, sN_73 h1]; exact gn) (by rw [g672 h1]; exact sT_73 h1), g672 h1, qn, hw1 n (by omega)]
  -- the first unlike one is kept
  have copyL : ∀ f n σ1 (x4 : Int32), n + f = N → FR [49, 61, 62, 73, 74] σ σ1 → ∃ σ2, jx (d + 5) 151 91 [some (.ref 47), some (.int (nI r)), some (.int (nI N)), some (.int 1), some (.int x4), some (.int (nI n))] [] σ1 = jx (d + 5) 151 122 [some (.ref 47), some (.int (nI r)), some (.int (nI N)), some (.int 1), some (.int x4), some (.int (nI N))] [] σ2 ∧ FR [62] σ1 σ2 := by
    intro f
    induction f with
    | zero =>
      intro n σ1 x4 hn F
      have e : n = N := by omega
      subst e
      exact ⟨σ1, by rw [k151_91, if_pos (nI_le (Nat.le_refl _) (by omega))], FR.refl _ σ1⟩
    | succ f ih =>
      intro n σ1 x4 hn F
      have h1 := F.sh hS
      have e112 : (11 : Int32) * nI r + nI n = nI (11 * r + n) := by rw [e11, nadd]
      obtain ⟨σ2, e2, F2⟩ := ih (n + 1) (jsA σ1 62 (11 * r + n) (jA σ1 73 n)) x4 (by omega) (F.A (by simp))
      refine ⟨σ2, ?_, ((FR.refl _ σ1).A (by simp)).trans F2⟩
      rw [k151_91, if_neg (nI_ge (by omega) (by omega)), k151_97 (sT_47 h1) (n657 h1) (n672 h1) (by rw [g672 h1]; exact Or.inl (sT_73 h1)) (by rw [g672 h1, sN_73 h1]; exact jin_n (by omega) (by decide)) (by rw [g657 h1]; exact sT_62 h1) (by rw [g657 h1, sN_62 h1, e112]; exact jin_n (by omega) (by decide)), g672 h1, g657 h1, e112, nI_clamp (by omega), nI_clamp (by omega), ← nI_succ]
      exact e2
  -- all of them
  have loop : ∀ f n σ1 v A (fl : Int32) l5, n + f = P → (fl = 0 ∨ fl = 1) → FR [49, 61, 62, 73, 74] σ σ1 → (∀ i, i ≠ r → jA σ1 61 i = jA σ 61 i) → jA σ1 61 r = nI A → (∀ k, k < 11 → jA σ1 73 k = v k) → VB W (wdN nr hc) N tp v → ∃ σ', jx (d + 5) 151 50 [some (.ref 47), some (.int (nI r)), some (.int (nI N)), some (.int fl), some (.int (nI n)), l5] [] σ1 = some (none, σ') ∧ FR [49, 61, 62, 73, 74] σ σ' ∧ (∀ i, i ≠ r → jA σ' 61 i = jA σ 61 i) ∧ jA σ' 61 r = nI (A + cntL (lik W nr hc o1 o2) (odo tp N) f v) := by
    intro f
    induction f with
    | zero =>
      intro n σ1 v A fl l5 hn hfl F hi hA hv hV
      have e : n = P := by omega
      subst e
      have h1 := F.sh hS
      refine ⟨σ1, ?_, F, hi, hA⟩
      rw [k151_50 (sT_47 h1) (n655 h1) (by rw [g655 h1]; exact Or.inl (sT_60 h1)) (by rw [g655 h1, sN_60 h1]; exact gr), g655 h1, qr, (F.2 60 (by decide)).2, e60, if_pos (Int32.le_refl _), k151_187]
    | succ f ih =>
      intro n σ1 v A fl l5 hn hfl F hi hA hv hV
      have h1 := F.sh hS
      have M1 : MR σ1 r nr nm hc o1 o2 rg := hM0.frame F (fun a x y => by simp; omega)
      have hV' : VB W (wdN nr hc) (wdN nr hc + nm) tp v := by rw [eN]; exact hV
      obtain ⟨σ2, e2, F2⟩ := c152 (d := d) (W := W) h1 hW (by rw [(F.2 47 (by decide)).1]; exact hw) hr hnr hnm M1 f1 f2 hV' hv
      have FF2 : FR [49, 61, 62, 73, 74] σ σ2 := F.trans (F2.mono (by decide))
      have h2 := FF2.sh hS
      have v2 : ∀ k, k < 11 → jA σ2 73 k = v k := fun k hk => by rw [(F2.2 73 (by decide)).2]; exact hv k hk
      have i2 : ∀ i, jA σ2 61 i = jA σ1 61 i := (F2.2 61 (by decide)).2
      have ec : cntL (lik W nr hc o1 o2) (odo tp N) (f + 1) v = (if lik W nr hc o1 o2 v = true then 1 else 0) + cntL (lik W nr hc o1 o2) (odo tp N) f (odo tp N v) := rfl
      have a1 : jx (d + 5) 151 50 [some (.ref 47), some (.int (nI r)), some (.int (nI N)), some (.int fl), some (.int (nI n)), l5] [] σ1 = jx (d + 5) 151 66 [some (.ref 47), some (.int (nI r)), some (.int (nI N)), some (.int fl), some (.int (nI n)), l5] [.int (if lik W nr hc o1 o2 v = true then 1 else 0)] σ2 := by
        rw [k151_50 (sT_47 h1) (n655 h1) (by rw [g655 h1]; exact Or.inl (sT_60 h1)) (by rw [g655 h1, sN_60 h1]; exact gr), g655 h1, qr, (F.2 60 (by decide)).2, e60, if_neg (nI_ge (by omega) hP), k151_61 (sT_47 h1), e2]
        rfl
      -- on from 127
      have on : ∀ υ A' (fl' : Int32), (fl' = 0 ∨ fl' = 1) → FR [49, 61, 62, 73, 74] σ υ → (∀ i, i ≠ r → jA υ 61 i = jA σ 61 i) → jA υ 61 r = nI A' → (∀ k, k < 11 → jA υ 73 k = v k) → ∃ σ', jx (d + 5) 151 127 [some (.ref 47), some (.int (nI r)), some (.int (nI N)), some (.int fl'), some (.int (nI n)), some (.int (nI N - 1))] [] υ = some (none, σ') ∧ FR [49, 61, 62, 73, 74] σ σ' ∧ (∀ i, i ≠ r → jA σ' 61 i = jA σ 61 i) ∧ jA σ' 61 r = nI (A' + cntL (lik W nr hc o1 o2) (odo tp N) f (odo tp N v)) := by
        intro υ A' fl' hfl' Fυ iυ hA' vυ
        obtain ⟨σ3, l5', e3, F3, h3⟩ := odoL N v υ fl' (nI n) (Nat.le_refl _) Fυ hV vυ
        obtain ⟨σ', e4, F4, i4, h4⟩ := ih (n + 1) σ3 (odo tp N v) A' fl' l5' (by omega) hfl' (Fυ.trans (F3.mono (by decide))) (fun i q => by rw [(F3.2 61 (by decide)).2]; exact iυ i q) (by rw [(F3.2 61 (by decide)).2]; exact hA') h3 (hV.odo _ _)
        refine ⟨σ', ?_, F4, i4, h4⟩
        rw [e3, ← nI_succ]
        exact e4
      have eN1 : nI N - 1 = nI N - 1 := rfl
      by_cases hl : lik W nr hc o1 o2 v = true
      · rw [if_pos hl] at ec a1
        have hu : FR [49, 61, 62, 73, 74] σ (jsA σ2 61 r (nI (A + 1))) := FF2.A (by simp)
        obtain ⟨σ', e3, F3, i3, h3⟩ := on (jsA σ2 61 r (nI (A + 1))) (A + 1) fl hfl hu (fun i q => by rw [zA_A, if_neg (fun z => q z.2), i2]; exact hi i q) (by rw [zA_A, if_pos ⟨rfl, rfl⟩]) (fun k hk => by rw [zA_A, if_neg (fun z => absurd z.1 (by decide))]; exact v2 k hk)
        refine ⟨σ', ?_, F3, i3, by rw [h3, ec]; congr 1; omega⟩
        rw [a1, k151_66, if_neg (by decide), k151_69 (sT_47 h2) (n656 h2) (by rw [g656 h2]; exact Or.inl (sT_61 h2)) (by rw [g656 h2, sN_61 h2]; exact gr) (by rw [g656 h2]; exact sT_61 h2), g656 h2, qr, i2, hA, ← nI_succ]
        exact e3
      · rw [if_neg hl] at ec a1
        by_cases q : fl = 0
        · obtain ⟨σ3, e3, F3⟩ := copyL N 0 σ2 (nI n) (by omega) FF2
          obtain ⟨σ', e4, F4, i4, h4⟩ := on σ3 A 1 (Or.inr rfl) (FF2.trans (F3.mono (by decide))) (fun i q => by rw [(F3.2 61 (by decide)).2, i2]; exact hi i q) (by rw [(F3.2 61 (by decide)).2, i2]; exact hA) (fun k hk => by rw [(F3.2 73 (by decide)).2]; exact v2 k hk)
          refine ⟨σ', ?_, F4, i4, by rw [h4, ec]; congr 1; omega⟩
          have e3' : jx (d + 5) 151 91 [some (.ref 47), some (.int (nI r)), some (.int (nI N)), some (.int 1), some (.int (nI n)), some (.int 0)] [] σ2 = _ := e3
          rw [a1, k151_66, if_pos rfl, k151_82, if_neg (fun z => z q), k151_86, e3', k151_122]
          exact e4
        · obtain ⟨σ', e4, F4, i4, h4⟩ := on σ2 A fl hfl FF2 (fun i q => by rw [i2]; exact hi i q) (by rw [i2]; exact hA) v2
          refine ⟨σ', ?_, F4, i4, by rw [h4, ec]; congr 1; omega⟩
          rw [a1, k151_66, if_pos rfl, k151_82, if_pos q, k151_122]
          exact e4
  -- the beginning
  obtain ⟨τ, eτ⟩ : ∃ τ, jsA (jsA σ 61 r 0) 62 (11 * r) (-4) = τ := ⟨_, rfl⟩
  have Fτ : FR [49, 61, 62, 73, 74] σ τ := eτ ▸ ((FR.refl _ σ).A (q := 61) (by decide)).A (by decide)
  have z61 : ∀ i, jA τ 61 i = if i = r then 0 else jA σ 61 i := fun i => by
    rw [← eτ, zA_A, if_neg (fun z => absurd z.1 (by decide)), zA_A]
    by_cases q : i = r
    · rw [if_pos ⟨rfl, q⟩, if_pos q]
    · rw [if_neg (fun z => q z.2), if_neg q]
  have zeroL : ∀ f n σ1, n + f = 11 → FR [73] τ σ1 → (∀ k, k < n → jA σ1 73 k = 0) → ∃ σ2, jx (d + 5) 151 26 [some (.ref 47), some (.int (nI r)), some (.int (nI N)), some (.int (nI n)), none, none] [] σ1 = jx (d + 5) 151 45 [some (.ref 47), some (.int (nI r)), some (.int (nI N)), some (.int (nI 11)), none, none] [] σ2 ∧ FR [73] τ σ2 ∧ ∀ k, k < 11 → jA σ2 73 k = 0 := by
    intro f
    induction f with
    | zero =>
      intro n σ1 hn F h
      have e : n = 11 := by omega
      subst e
      exact ⟨σ1, by rw [k151_26, if_pos (by decide)], F, h⟩
    | succ f ih =>
      intro n σ1 hn F h
      have h1 := F.sh (Fτ.sh hS)
      have g11 : ¬ (11 : Int32) ≤ nI n := nI_ge (b := 11) (by omega) (by omega)
      obtain ⟨σ2, e2, F2, h2⟩ := ih (n + 1) (jsA σ1 73 n 0) (by omega) (F.A (by simp)) (fun k hk => by
        rw [zA_A]
        by_cases q : k = n
        · rw [if_pos ⟨rfl, q⟩]
        · rw [if_neg (fun z => q z.2)]; exact h k (by omega))
      refine ⟨σ2, ?_, F2, h2⟩
      rw [← e2, k151_26, if_neg g11, k151_32 (sT_47 h1) (n672 h1) (by rw [g672 h1]; exact sT_73 h1) (by rw [g672 h1, sN_73 h1]; exact jin_n (by omega) (by decide)), g672 h1, nI_clamp (by omega), ← nI_succ]
  obtain ⟨σ2, e2, F2, h2⟩ := zeroL 11 0 τ rfl (FR.refl _ τ) (fun k hk => absurd hk (Nat.not_lt_zero k))
  obtain ⟨σ', e3, F3, i3, h3⟩ := loop P 0 σ2 (fun _ => 0) 0 0 none (by omega) (Or.inl rfl) (Fτ.trans (F2.mono (by decide))) (fun i q => by rw [(F2.2 61 (by decide)).2, z61, if_neg q]) (by rw [(F2.2 61 (by decide)).2, z61, if_pos rfl]; rfl) h2 hV0
  refine ⟨σ', ?_, F3, i3, by rw [h3, Nat.zero_add]⟩
  have cn := c149 (d := d + 4) hS hr m5 m6 m7
  rw [eN] at cn
  rw [k151_0 (sT_47 hS), cn]
  simp only [Option.bind_some, Option.toList_some, List.cons_append, List.nil_append]
  rw [k151_5 (sT_47 hS) (n656 hS) (by rw [g656 hS]; exact sT_61 hS) (by rw [g656 hS, sN_61 hS]; exact gr) (n657 hS) (by rw [g657 hS]; exact sT_62 hS) (by rw [g657 hS, sN_62 hS, e11]; exact jin_n (by omega) (by decide)), g656 hS, g657 hS, qr, e11, nI_clamp (by omega), eτ]
  have e2' : jx (d + 5) 151 26 [some (.ref 47), some (.int (nI r)), some (.int (nI N)), some (.int 0), none, none] [] τ = _ := e2
  rw [e2', k151_45]
  exact e3
end TRR
end S_75
section S_76
/-! what class and reference keep, and that it is the same -/
abbrev AR : Type := Nat × Nat × Bool × List (Nat → Int32) × List (Nat → Int32) × Nat × Nat × Int32 × Bool
def AR.nr (a : AR) : Nat := a.1
def AR.nm (a : AR) : Nat := a.2.1
def AR.hc (a : AR) : Bool := a.2.2.1
def AR.o1 (a : AR) : List (Nat → Int32) := a.2.2.2.1
def AR.o2 (a : AR) : List (Nat → Int32) := a.2.2.2.2.1
def AR.P (a : AR) : Nat := a.2.2.2.2.2.1
def AR.C (a : AR) : Nat := a.2.2.2.2.2.2.1
def AR.ch (a : AR) : Int32 := a.2.2.2.2.2.2.2.1
def AR.on (a : AR) : Bool := a.2.2.2.2.2.2.2.2
abbrev AS : Type := Nat × Nat × (Nat → Int32) × List AR × List (List (Nat → Int32)) × Nat × (Nat → Nat → Int32) × Int32
def AS.W (s : AS) : Nat := s.1
def AS.len (s : AS) : Nat := s.2.1
def AS.b (s : AS) : Nat → Int32 := s.2.2.1
def AS.rs (s : AS) : List AR := s.2.2.2.1
def AS.ps (s : AS) : List (List (Nat → Int32)) := s.2.2.2.2.1
def AS.ns (s : AS) : Nat := s.2.2.2.2.2.1
def AS.tl (s : AS) : Nat → Nat → Int32 := s.2.2.2.2.2.2.1
def AS.ap (s : AS) : Int32 := s.2.2.2.2.2.2.2
def ar0 : AR := ⟨0, 0, false, [], [], 0, 0, 0, false⟩
def gnA (a : AR) : Int32 := prcL a.o1 0 - prcL a.o2 0
abbrev sndA (a : AR) : Prop := a.C = a.P ∧ 0 < gnA a
/-- every register, every mark stands in the first side -/
def OCC (nr nm : Nat) (os : List (Nat → Int32)) : Prop := (∀ i, i < nr → ∃ o, o ∈ os ∧ ∃ j, j < regN (opO o) ∧ o (j + 1) = nI i) ∧ (∀ i, i < nm → ∃ o, o ∈ os ∧ numN (opO o) = true ∧ o 2 = 16 + nI i)
def WFr (a : AR) : Prop := (a.nr ≤ 4) ∧ (a.nm ≤ 3) ∧ (∀ o, o ∈ a.o1 → WFo a.nr a.nm o) ∧ (∀ o, o ∈ a.o2 → WFo a.nr a.nm o) ∧ (∀ o, o ∈ a.o1 → o 4 = 0) ∧ (1 ≤ a.o1.length) ∧ (a.o1.length ≤ 4) ∧ (a.o2.length ≤ 4) ∧ (1 ≤ a.P) ∧ (a.P ≤ 70000) ∧ (a.C ≤ a.P) ∧ OCC a.nr a.nm a.o1
theorem WFr.nr4 {a : AR} (h : WFr a) : a.nr ≤ 4 := h.1
theorem WFr.nm3 {a : AR} (h : WFr a) : a.nm ≤ 3 := h.2.1
theorem WFr.f1 {a : AR} (h : WFr a) : ∀ o, o ∈ a.o1 → WFo a.nr a.nm o := h.2.2.1
theorem WFr.f2 {a : AR} (h : WFr a) : ∀ o, o ∈ a.o2 → WFo a.nr a.nm o := h.2.2.2.1
theorem WFr.z4 {a : AR} (h : WFr a) : ∀ o, o ∈ a.o1 → o 4 = 0 := h.2.2.2.2.1
theorem WFr.l1 {a : AR} (h : WFr a) : 1 ≤ a.o1.length := h.2.2.2.2.2.1
theorem WFr.l4 {a : AR} (h : WFr a) : a.o1.length ≤ 4 := h.2.2.2.2.2.2.1
theorem WFr.m4 {a : AR} (h : WFr a) : a.o2.length ≤ 4 := h.2.2.2.2.2.2.2.1
theorem WFr.p1 {a : AR} (h : WFr a) : 1 ≤ a.P := h.2.2.2.2.2.2.2.2.1
theorem WFr.pm {a : AR} (h : WFr a) : a.P ≤ 70000 := h.2.2.2.2.2.2.2.2.2.1
theorem WFr.cp {a : AR} (h : WFr a) : a.C ≤ a.P := h.2.2.2.2.2.2.2.2.2.2.1
theorem WFr.oc {a : AR} (h : WFr a) : OCC a.nr a.nm a.o1 := h.2.2.2.2.2.2.2.2.2.2.2
def WFs (s : AS) : Prop := (s.W = 1 ∨ s.W = 2 ∨ s.W = 3) ∧ (s.len ≤ 400) ∧ (BY s.len s.b) ∧ (s.rs.length ≤ 24) ∧ (s.ps.length ≤ 16) ∧ (∀ a, a ∈ s.rs → WFr a) ∧ (∀ p, p ∈ s.ps → p.length ≤ 24 ∧ ∀ o, o ∈ p → PWF o) ∧ (s.ns ≤ 144)
theorem WFs.w {s : AS} (h : WFs s) : s.W = 1 ∨ s.W = 2 ∨ s.W = 3 := h.1
theorem WFs.l {s : AS} (h : WFs s) : s.len ≤ 400 := h.2.1
theorem WFs.byy {s : AS} (h : WFs s) : BY s.len s.b := h.2.2.1
theorem WFs.r24 {s : AS} (h : WFs s) : s.rs.length ≤ 24 := h.2.2.2.1
theorem WFs.p16 {s : AS} (h : WFs s) : s.ps.length ≤ 16 := h.2.2.2.2.1
theorem WFs.fr {s : AS} (h : WFs s) : ∀ a, a ∈ s.rs → WFr a := h.2.2.2.2.2.1
theorem WFs.fp {s : AS} (h : WFs s) : ∀ p, p ∈ s.ps → p.length ≤ 24 ∧ ∀ o, o ∈ p → PWF o := h.2.2.2.2.2.2.1
theorem WFs.n144 {s : AS} (h : WFs s) : s.ns ≤ 144 := h.2.2.2.2.2.2.2
/-- the cells of a rule's place, of a program's place -/
def RS (σ : jS) (q a m : Nat) : Prop := jT σ q = 5 ∧ jR σ 258 q = some a ∧ jT σ a = 20 ∧ jN σ a = 6 * m ∧ jI σ 256 q = nI m ∧ m ≤ 24
theorem RW.rs {σ : jS} {q a m n : Nat} (h : RW σ q a m n) : RS σ q a m := ⟨h.1, h.2.1, h.2.2.1, h.2.2.2.1, h.2.2.2.2.1, h.2.2.2.2.2.2.2⟩
theorem RS.frame {σ σ' : jS} {l : List Nat} {q a m : Nat} (h : RS σ q a m) (f : FR l σ σ') (hq : q ∉ l) : RS σ' q a m := by
  obtain ⟨r1, r2, r3, r4, r5, r6⟩ := h
  exact ⟨by rw [f.1.1]; exact r1, by rw [f.1.2.2.1]; exact r2, by rw [f.1.1]; exact r3, by rw [f.1.2.1]; exact r4, by rw [(f.2 q hq).1]; exact r5, r6⟩
theorem RS.fr256 {σ σ' : jS} {l : List Nat} {q a m : Nat} (h : RS σ q a m) (f : FR l σ σ') (hq : jI σ' 256 q = jI σ 256 q) : RS σ' q a m := by
  obtain ⟨r1, r2, r3, r4, r5, r6⟩ := h
  exact ⟨by rw [f.1.1]; exact r1, by rw [f.1.2.2.1]; exact r2, by rw [f.1.1]; exact r3, by rw [f.1.2.1]; exact r4, by rw [hq]; exact r5, r6⟩
def SLr (σ : jS) (q : Nat) : Prop := RU σ q (q + 1) (q + 2) (q + 3) (q + 4) (q + 5) (q + 6) ∧ RS σ (q + 1) (q + 2) 4 ∧ RS σ (q + 3) (q + 4) 4
def SLp (σ : jS) (q : Nat) : Prop := RS σ q (q + 1) 24
def DJ (cr cp : Nat) (qr qp : Nat → Nat) (nx : Nat) : Prop := (∀ i, i < cr → 81 ≤ qr i ∧ qr i + 7 ≤ nx) ∧ (∀ i, i < cp → 81 ≤ qp i ∧ qp i + 2 ≤ nx) ∧ (∀ i j, i < cr → j < cr → i ≠ j → qr i + 7 ≤ qr j ∨ qr j + 7 ≤ qr i) ∧ (∀ i j, i < cp → j < cp → i ≠ j → qp i + 2 ≤ qp j ∨ qp j + 2 ≤ qp i) ∧ (∀ i j, i < cr → j < cp → qr i + 7 ≤ qp j ∨ qp j + 2 ≤ qr i)
theorem DJ.r {cr cp : Nat} {qr qp : Nat → Nat} {nx : Nat} (h : DJ cr cp qr qp nx) : ∀ i, i < cr → 81 ≤ qr i ∧ qr i + 7 ≤ nx := h.1
theorem DJ.p {cr cp : Nat} {qr qp : Nat → Nat} {nx : Nat} (h : DJ cr cp qr qp nx) : ∀ i, i < cp → 81 ≤ qp i ∧ qp i + 2 ≤ nx := h.2.1
theorem DJ.rr {cr cp : Nat} {qr qp : Nat → Nat} {nx : Nat} (h : DJ cr cp qr qp nx) : ∀ i j, i < cr → j < cr → i ≠ j → qr i + 7 ≤ qr j ∨ qr j + 7 ≤ qr i := h.2.2.1
theorem DJ.pp {cr cp : Nat} {qr qp : Nat → Nat} {nx : Nat} (h : DJ cr cp qr qp nx) : ∀ i j, i < cp → j < cp → i ≠ j → qp i + 2 ≤ qp j ∨ qp j + 2 ≤ qp i := h.2.2.2.1
theorem DJ.rp {cr cp : Nat} {qr qp : Nat → Nat} {nx : Nat} (h : DJ cr cp qr qp nx) : ∀ i j, i < cr → j < cp → qr i + 7 ≤ qp j ∨ qp j + 2 ≤ qr i := h.2.2.2.2
/-- a rule of the class, tried -/
def CRr (σ : jS) (W q : Nat) (a : AR) : Prop := (∃ tp, CR σ W q (q + 1) (q + 2) (q + 3) (q + 4) (q + 5) (q + 6) a.nr a.nm a.hc a.o1 a.o2 tp) ∧ jI σ 327 q = nI a.P ∧ jI σ 328 q = nI a.C ∧ jI σ 329 q = a.ch ∧ (jI σ 331 q = if sndA a then 1 else 0) ∧ (jI σ 332 q = if a.on = true then 1 else 0)
/-- a rule of the reference, tried -/
def MRr (σ : jS) (r : Nat) (a : AR) : Prop := (∃ rg, MR σ r a.nr a.nm a.hc a.o1 a.o2 rg) ∧ jA σ 60 r = nI a.P ∧ jA σ 61 r = nI a.C ∧ (jA σ 63 r = if a.on = true then 1 else 0) ∧ jA σ 64 r = a.ch
def CX (s : AS) (cr cp : Nat) (qr qp : Nat → Nat) (σ : jS) : Prop := (ST σ) ∧ (jI σ 585 16 = nI s.rs.length) ∧ (jI σ 586 16 = nI s.ps.length) ∧ (jI σ 587 16 = nI s.W) ∧ (jI σ 589 16 = s.ap) ∧ (TX σ s.len s.b) ∧ (jI σ 385 43 = nI s.ns) ∧ (∀ k w, k < s.ns → w < 3 → jA σ 44 (3 * k + w) = s.tl k w) ∧ (∃ n, RW σ 30 31 4 n) ∧ (∃ n, RW σ 32 33 4 n) ∧ (∃ n, RW σ 41 42 4 n) ∧ (s.rs.length ≤ cr ∧ cr ≤ 24) ∧ (s.ps.length ≤ cp ∧ cp ≤ 16) ∧ (∀ i, i < cr → jG σ 45 i = some (qr i) ∧ SLr σ (qr i)) ∧ (∀ i, cr ≤ i → i < 24 → jG σ 45 i = none) ∧ (∀ i, i < cp → jG σ 46 i = some (qp i) ∧ SLp σ (qp i)) ∧ (∀ i, cp ≤ i → i < 16 → jG σ 46 i = none) ∧ (DJ cr cp qr qp (jnx σ)) ∧ (∀ i, i < s.rs.length → CRr σ s.W (qr i) (s.rs.getD i ar0)) ∧ (∀ i, i < s.ps.length → RO σ (qp i) (qp i + 1) 24 (s.ps.getD i []))
theorem CX.st {s : AS} {cr cp : Nat} {qr qp : Nat → Nat} {σ : jS} (h : CX s cr cp qr qp σ) : ST σ := h.1
theorem CX.nr {s : AS} {cr cp : Nat} {qr qp : Nat → Nat} {σ : jS} (h : CX s cr cp qr qp σ) : jI σ 585 16 = nI s.rs.length := h.2.1
theorem CX.np {s : AS} {cr cp : Nat} {qr qp : Nat → Nat} {σ : jS} (h : CX s cr cp qr qp σ) : jI σ 586 16 = nI s.ps.length := h.2.2.1
theorem CX.w {s : AS} {cr cp : Nat} {qr qp : Nat → Nat} {σ : jS} (h : CX s cr cp qr qp σ) : jI σ 587 16 = nI s.W := h.2.2.2.1
theorem CX.ap {s : AS} {cr cp : Nat} {qr qp : Nat → Nat} {σ : jS} (h : CX s cr cp qr qp σ) : jI σ 589 16 = s.ap := h.2.2.2.2.1
theorem CX.tx {s : AS} {cr cp : Nat} {qr qp : Nat → Nat} {σ : jS} (h : CX s cr cp qr qp σ) : TX σ s.len s.b := h.2.2.2.2.2.1
theorem CX.ns {s : AS} {cr cp : Nat} {qr qp : Nat → Nat} {σ : jS} (h : CX s cr cp qr qp σ) : jI σ 385 43 = nI s.ns := h.2.2.2.2.2.2.1
theorem CX.tl {s : AS} {cr cp : Nat} {qr qp : Nat → Nat} {σ : jS} (h : CX s cr cp qr qp σ) : ∀ k w, k < s.ns → w < 3 → jA σ 44 (3 * k + w) = s.tl k w := h.2.2.2.2.2.2.2.1
theorem CX.w1 {s : AS} {cr cp : Nat} {qr qp : Nat → Nat} {σ : jS} (h : CX s cr cp qr qp σ) : ∃ n, RW σ 30 31 4 n := h.2.2.2.2.2.2.2.2.1
theorem CX.w2 {s : AS} {cr cp : Nat} {qr qp : Nat → Nat} {σ : jS} (h : CX s cr cp qr qp σ) : ∃ n, RW σ 32 33 4 n := h.2.2.2.2.2.2.2.2.2.1
theorem CX.w3 {s : AS} {cr cp : Nat} {qr qp : Nat → Nat} {σ : jS} (h : CX s cr cp qr qp σ) : ∃ n, RW σ 41 42 4 n := h.2.2.2.2.2.2.2.2.2.2.1
theorem CX.lr {s : AS} {cr cp : Nat} {qr qp : Nat → Nat} {σ : jS} (h : CX s cr cp qr qp σ) : s.rs.length ≤ cr ∧ cr ≤ 24 := h.2.2.2.2.2.2.2.2.2.2.2.1
theorem CX.lp {s : AS} {cr cp : Nat} {qr qp : Nat → Nat} {σ : jS} (h : CX s cr cp qr qp σ) : s.ps.length ≤ cp ∧ cp ≤ 16 := h.2.2.2.2.2.2.2.2.2.2.2.2.1
theorem CX.gr {s : AS} {cr cp : Nat} {qr qp : Nat → Nat} {σ : jS} (h : CX s cr cp qr qp σ) : ∀ i, i < cr → jG σ 45 i = some (qr i) ∧ SLr σ (qr i) := h.2.2.2.2.2.2.2.2.2.2.2.2.2.1
theorem CX.gr0 {s : AS} {cr cp : Nat} {qr qp : Nat → Nat} {σ : jS} (h : CX s cr cp qr qp σ) : ∀ i, cr ≤ i → i < 24 → jG σ 45 i = none := h.2.2.2.2.2.2.2.2.2.2.2.2.2.2.1
theorem CX.gp {s : AS} {cr cp : Nat} {qr qp : Nat → Nat} {σ : jS} (h : CX s cr cp qr qp σ) : ∀ i, i < cp → jG σ 46 i = some (qp i) ∧ SLp σ (qp i) := h.2.2.2.2.2.2.2.2.2.2.2.2.2.2.2.1
theorem CX.gp0 {s : AS} {cr cp : Nat} {qr qp : Nat → Nat} {σ : jS} (h : CX s cr cp qr qp σ) : ∀ i, cp ≤ i → i < 16 → jG σ 46 i = none := h.2.2.2.2.2.2.2.2.2.2.2.2.2.2.2.2.1
theorem CX.dj {s : AS} {cr cp : Nat} {qr qp : Nat → Nat} {σ : jS} (h : CX s cr cp qr qp σ) : DJ cr cp qr qp (jnx σ) := h.2.2.2.2.2.2.2.2.2.2.2.2.2.2.2.2.2.1
theorem CX.rs {s : AS} {cr cp : Nat} {qr qp : Nat → Nat} {σ : jS} (h : CX s cr cp qr qp σ) : ∀ i, i < s.rs.length → CRr σ s.W (qr i) (s.rs.getD i ar0) := h.2.2.2.2.2.2.2.2.2.2.2.2.2.2.2.2.2.2.1
theorem CX.ps {s : AS} {cr cp : Nat} {qr qp : Nat → Nat} {σ : jS} (h : CX s cr cp qr qp σ) : ∀ i, i < s.ps.length → RO σ (qp i) (qp i + 1) 24 (s.ps.getD i []) := h.2.2.2.2.2.2.2.2.2.2.2.2.2.2.2.2.2.2.2
def CM (s : AS) (σ : jS) : Prop := (NV σ) ∧ (jI σ 644 47 = nI s.rs.length) ∧ (jI σ 660 47 = nI s.ps.length) ∧ (jI σ 640 47 = nI s.W) ∧ (jI σ 682 47 = s.ap) ∧ (TM σ s.len s.b) ∧ (jI σ 678 47 = nI s.ns) ∧ (∀ k w, k < s.ns → w < 3 → jA σ (78 + w) k = s.tl k w) ∧ (∀ i, i < s.rs.length → MRr σ i (s.rs.getD i ar0)) ∧ (∀ i, i < s.ps.length → PM σ i (s.ps.getD i []))
theorem CM.nv {s : AS} {σ : jS} (h : CM s σ) : NV σ := h.1
theorem CM.nr {s : AS} {σ : jS} (h : CM s σ) : jI σ 644 47 = nI s.rs.length := h.2.1
theorem CM.np {s : AS} {σ : jS} (h : CM s σ) : jI σ 660 47 = nI s.ps.length := h.2.2.1
theorem CM.w {s : AS} {σ : jS} (h : CM s σ) : jI σ 640 47 = nI s.W := h.2.2.2.1
theorem CM.ap {s : AS} {σ : jS} (h : CM s σ) : jI σ 682 47 = s.ap := h.2.2.2.2.1
theorem CM.tm {s : AS} {σ : jS} (h : CM s σ) : TM σ s.len s.b := h.2.2.2.2.2.1
theorem CM.ns {s : AS} {σ : jS} (h : CM s σ) : jI σ 678 47 = nI s.ns := h.2.2.2.2.2.2.1
theorem CM.tl {s : AS} {σ : jS} (h : CM s σ) : ∀ k w, k < s.ns → w < 3 → jA σ (78 + w) k = s.tl k w := h.2.2.2.2.2.2.2.1
theorem CM.rs {s : AS} {σ : jS} (h : CM s σ) : ∀ i, i < s.rs.length → MRr σ i (s.rs.getD i ar0) := h.2.2.2.2.2.2.2.2.1
theorem CM.ps {s : AS} {σ : jS} (h : CM s σ) : ∀ i, i < s.ps.length → PM σ i (s.ps.getD i []) := h.2.2.2.2.2.2.2.2.2
def sameM (σ σ' : jS) : Prop := (∀ g, jI σ' g 47 = jI σ g 47) ∧ ∀ a i, 48 ≤ a → a ≤ 80 → jA σ' a i = jA σ a i
theorem MT.sm {σ σ' : jS} {k : Nat} {v : Int32} (h : MT σ k v) (f : sameM σ σ') : MT σ' k v := h.frame (f.2 53 k (by decide) (by decide)) (f.2 54 k (by decide) (by decide))
theorem MO.sm {σ σ' : jS} {k : Nat} {o : Nat → Int32} (h : MO σ k o) (f : sameM σ σ') : MO σ' k o := by
  obtain ⟨h1, h2, h3, h4, h5⟩ := h
  exact ⟨by rw [f.2 51 k (by decide) (by decide)]; exact h1, fun j hj => by rw [f.2 52 _ (by decide) (by decide)]; exact h2 j hj, fun hn => (h3 hn).sm f, by rw [f.2 55 k (by decide) (by decide)]; exact h4, fun hn => (h5 hn).sm f⟩
theorem MR.sm {σ σ' : jS} {r nr nm : Nat} {hc : Bool} {o1 o2 : List (Nat → Int32)} {rg : Nat → Int32} (h : MR σ r nr nm hc o1 o2 rg) (f : sameM σ σ') : MR σ' r nr nm hc o1 o2 rg := by
  obtain ⟨h1, h2, h3, h4, h5, h6, h7, h8, h9, h10⟩ := h
  refine ⟨by rw [f.2 50 _ (by decide) (by decide)]; exact h1, by rw [f.2 50 _ (by decide) (by decide)]; exact h2, h3, h4, by rw [f.2 56 _ (by decide) (by decide)]; exact h5, by rw [f.2 57 _ (by decide) (by decide)]; exact h6, by rw [f.2 59 _ (by decide) (by decide)]; exact h7, fun j hj => by rw [f.2 58 _ (by decide) (by decide)]; exact h8 j hj, fun i hi => (h9 i hi).sm f, fun i hi => (h10 i hi).sm f⟩
theorem CM.sm {s : AS} {σ σ' : jS} (h : CM s σ) (f : sameM σ σ') : CM s σ' :=
  ⟨fun k hk => by rw [f.2 70 k (by decide) (by decide)]; exact h.nv k hk,
  by rw [f.1]; exact h.nr,
  by rw [f.1]; exact h.np,
  by rw [f.1]; exact h.w,
  by rw [f.1]; exact h.ap,
  ⟨by rw [f.1]; exact h.tm.1, h.tm.2.1, fun i hi => by rw [f.2 48 i (by decide) (by decide)]; exact h.tm.2.2 i hi⟩,
  by rw [f.1]; exact h.ns,
  fun k w hk hw => by rw [f.2 (78 + w) k (by omega) (by omega)]; exact h.tl k w hk hw,
  fun i hi => by
    obtain ⟨⟨rg, h1⟩, h2, h3, h4, h5⟩ := h.rs i hi
    exact ⟨⟨rg, h1.sm f⟩, by rw [f.2 60 i (by decide) (by decide)]; exact h2, by rw [f.2 61 i (by decide) (by decide)]; exact h3, by rw [f.2 63 i (by decide) (by decide)]; exact h4, by rw [f.2 64 i (by decide) (by decide)]; exact h5⟩,
  fun i hi => by
    obtain ⟨h1, h2, h3⟩ := h.ps i hi
    exact ⟨by rw [f.2 65 i (by decide) (by decide)]; exact h1, h2, fun k j hk hj => by rw [f.2 (66 + j) _ (by omega) (by omega)]; exact h3 k j hk hj⟩⟩
theorem FR.sm {l : List Nat} {σ σ' : jS} (f : FR l σ σ') (hl : ∀ a, 47 ≤ a → a ≤ 80 → a ∉ l) : sameM σ σ' := ⟨fun g => (f.2 47 (hl 47 (by decide) (by decide))).1 g, fun a i h1 h2 => (f.2 a (hl a (by omega) h2)).2 i⟩
/-- the class's cells stand as they stood -/
def sameC (σ σ' : jS) : Prop := jnx σ ≤ jnx σ' ∧ ∀ a, a < jnx σ → (a < 47 ∨ 80 < a) → jT σ' a = jT σ a ∧ jN σ' a = jN σ a ∧ (∀ g, jI σ' g a = jI σ g a) ∧ (∀ g, jR σ' g a = jR σ g a) ∧ (∀ i, jA σ' a i = jA σ a i) ∧ (∀ i, jG σ' a i = jG σ a i)
theorem RW.sc {σ σ' : jS} {q a m n : Nat} (h : RW σ q a m n) (f : sameC σ σ') (hq : q < jnx σ ∧ (q < 47 ∨ 80 < q)) (ha : a < jnx σ ∧ (a < 47 ∨ 80 < a)) : RW σ' q a m n := by
  obtain ⟨r1, r2, r3, r4, r5, r6, r7, r8⟩ := h
  have x := f.2 q hq.1 hq.2
  have y := f.2 a ha.1 ha.2
  exact ⟨by rw [x.1]; exact r1, by rw [x.2.2.2.1]; exact r2, by rw [y.1]; exact r3, by rw [y.2.1]; exact r4, by rw [x.2.2.1]; exact r5, by rw [x.2.2.1]; exact r6, r7, r8⟩
theorem RS.sc {σ σ' : jS} {q a m : Nat} (h : RS σ q a m) (f : sameC σ σ') (hq : q < jnx σ ∧ (q < 47 ∨ 80 < q)) (ha : a < jnx σ ∧ (a < 47 ∨ 80 < a)) : RS σ' q a m := by
  obtain ⟨r1, r2, r3, r4, r5, r6⟩ := h
  have x := f.2 q hq.1 hq.2
  have y := f.2 a ha.1 ha.2
  exact ⟨by rw [x.1]; exact r1, by rw [x.2.2.2.1]; exact r2, by rw [y.1]; exact r3, by rw [y.2.1]; exact r4, by rw [x.2.2.1]; exact r5, r6⟩
theorem RO.sc {σ σ' : jS} {q a m : Nat} {os : List (Nat → Int32)} (h : RO σ q a m os) (f : sameC σ σ') (hq : q < jnx σ ∧ (q < 47 ∨ 80 < q)) (ha : a < jnx σ ∧ (a < 47 ∨ 80 < a)) : RO σ' q a m os :=
  ⟨h.1.sc f hq ha, by rw [(f.2 q hq.1 hq.2).2.2.1]; exact h.2.1, fun i j hi hj => by rw [(f.2 a ha.1 ha.2).2.2.2.2.1]; exact h.2.2 i j hi hj⟩
theorem RU.sc {σ σ' : jS} {q : Nat} (h : RU σ q (q + 1) (q + 2) (q + 3) (q + 4) (q + 5) (q + 6)) (f : sameC σ σ') (h1 : 81 ≤ q) (h2 : q + 7 ≤ jnx σ) : RU σ' q (q + 1) (q + 2) (q + 3) (q + 4) (q + 5) (q + 6) := by
  obtain ⟨u1, u2, u3, u4, u5, u6, u7, u8, u9, u10⟩ := h
  have x := f.2 q (by omega) (by omega)
  have y := f.2 (q + 5) (by omega) (by omega)
  have z := f.2 (q + 6) (by omega) (by omega)
  exact ⟨by rw [x.1]; exact u1, by rw [x.2.2.2.1]; exact u2, by rw [x.2.2.2.1]; exact u3, by rw [x.2.2.2.1]; exact u4, by rw [x.2.2.2.1]; exact u5, by rw [y.1]; exact u6, by rw [y.2.1]; exact u7, by rw [z.1]; exact u8, by rw [z.2.1]; exact u9, u10⟩
theorem CRr.sc {σ σ' : jS} {W q : Nat} {a : AR} (h : CRr σ W q a) (f : sameC σ σ') (h1 : 81 ≤ q) (h2 : q + 7 ≤ jnx σ) : CRr σ' W q a := by
  obtain ⟨⟨tp, ⟨c1, c2, c3, c4, c5, c6, c7, c8, c9⟩⟩, e1, e2, e3, e4, e5⟩ := h
  have x := (f.2 q (by omega) (by omega)).2.2.1
  exact ⟨⟨tp, c1.sc f h1 h2, c2, c3.sc f (by omega) (by omega), c4.sc f (by omega) (by omega), by rw [x]; exact c5, by rw [x]; exact c6, by rw [x]; exact c7, by rw [x]; exact c8, fun k hk => by rw [(f.2 (q + 5) (by omega) (by omega)).2.2.2.2.1]; exact c9 k hk⟩, by rw [x]; exact e1, by rw [x]; exact e2, by rw [x]; exact e3, by rw [x]; exact e4, by rw [x]; exact e5⟩
theorem CX.sc {s : AS} {cr cp : Nat} {qr qp : Nat → Nat} {σ σ' : jS} (hx : 81 ≤ jnx σ) (h : CX s cr cp qr qp σ) (f : sameC σ σ') : CX s cr cp qr qp σ' := by
  have I := fun a (ha : a < 47) => (f.2 a (by omega) (Or.inl ha)).2.2.1
  have A := fun a (ha : a < 47) => (f.2 a (by omega) (Or.inl ha)).2.2.2.2.1
  have G := fun a (ha : a < 47) => (f.2 a (by omega) (Or.inl ha)).2.2.2.2.2
  have dj := h.dj
  have nx := f.1
  refine ⟨⟨fun i hi => by show jA σ' 1 i = _; rw [A 1 (by decide)]; exact h.st.1 i hi, fun i hi => by show jA σ' 2 i = _; rw [A 2 (by decide)]; exact h.st.2 i hi⟩, by rw [I 16 (by decide)]; exact h.nr, by rw [I 16 (by decide)]; exact h.np, by rw [I 16 (by decide)]; exact h.w, by rw [I 16 (by decide)]; exact h.ap, ⟨by rw [I 18 (by decide)]; exact h.tx.1, h.tx.2.1, fun i hi => by rw [A 19 (by decide)]; exact h.tx.2.2 i hi⟩, by rw [I 43 (by decide)]; exact h.ns, fun k w hk hw => by rw [A 44 (by decide)]; exact h.tl k w hk hw, ?_, ?_, ?_, h.lr, h.lp, fun i hi => ?_, fun i h1 h2 => by rw [G 45 (by decide)]; exact h.gr0 i h1 h2, fun i hi => ?_, fun i h1 h2 => by rw [G 46 (by decide)]; exact h.gp0 i h1 h2, ⟨fun i hi => ⟨(dj.r i hi).1, Nat.le_trans (dj.r i hi).2 nx⟩, fun i hi => ⟨(dj.p i hi).1, Nat.le_trans (dj.p i hi).2 nx⟩, dj.rr, dj.pp, dj.rp⟩, fun i hi => ?_, fun i hi => ?_⟩
  · obtain ⟨n, q⟩ := h.w1; exact ⟨n, q.sc f (by omega) (by omega)⟩
  · obtain ⟨n, q⟩ := h.w2; exact ⟨n, q.sc f (by omega) (by omega)⟩
  · obtain ⟨n, q⟩ := h.w3; exact ⟨n, q.sc f (by omega) (by omega)⟩
  · obtain ⟨g1, g2, g3, g4⟩ := h.gr i hi
    have b := dj.r i hi
    exact ⟨by rw [G 45 (by decide)]; exact g1, g2.sc f b.1 b.2, g3.sc f (by omega) (by omega), g4.sc f (by omega) (by omega)⟩
  · obtain ⟨g1, g2⟩ := h.gp i hi
    have b := dj.p i hi
    exact ⟨by rw [G 46 (by decide)]; exact g1, RS.sc g2 f (by omega) (by omega)⟩
  · have b := dj.r i (Nat.lt_of_lt_of_le hi h.lr.1)
    exact (h.rs i hi).sc f b.1 b.2
  · have b := dj.p i (Nat.lt_of_lt_of_le hi h.lp.1)
    exact (h.ps i hi).sc f (by omega) (by omega)
theorem FR.sc {l : List Nat} {σ σ' : jS} (f : FR l σ σ') (hl : ∀ a, a ∈ l → 47 ≤ a ∧ a ≤ 80) : sameC σ σ' := ⟨by rw [f.1.2.2.2.2.1]; exact Nat.le_refl _, fun a _ h => by
  have hn : a ∉ l := fun z => by have := hl a z; omega
  exact ⟨by rw [f.1.1], by rw [f.1.2.1], (f.2 a hn).1, fun g => by rw [f.1.2.2.1], (f.2 a hn).2, fun i => by rw [f.1.2.2.2.1.1]⟩⟩
theorem PF.sc {P : Nat → Nat → Prop} {σ σ' : jS} (f : PF P σ σ') (hP : ∀ a i, P a i → 47 ≤ a ∧ a ≤ 80) : sameC σ σ' := ⟨f.2.1, fun a ha h => by
  have x := f.2.2.2 a ha
  exact ⟨x.1, x.2.1, fun g => x.2.2.2.2.1 g (by omega), x.2.2.1, fun i => x.2.2.2.2.2 i (by omega) (fun z => by have := hP a i z; omega), x.2.2.2.1⟩⟩
end S_76
section S_77
/-! both keep step: what a call must show; calls that only read -/
def REL (s : AS) (cr cp : Nat) (qr qp : Nat → Nat) (σ : jS) : Prop := SH σ ∧ 81 ≤ jnx σ ∧ WFs s ∧ CX s cr cp qr qp σ ∧ CM s σ
def low (σ σ' : jS) : Prop := ∀ a, a < 16 → jT σ' a = jT σ a ∧ jN σ' a = jN σ a ∧ ∀ i, jA σ' a i = jA σ a i
def SimR (d Mx Mm : Nat) (Lx Lm : List (Option Value)) (eqv : Bool) (σ : jS) : Prop := ∃ a a' σ1 σ2 s' cr' cp' qr' qp', jx d Mx 0 (some (.ref 16) :: Lx) [] σ = some (some (.int a), σ1) ∧ jx d Mm 0 (some (.ref 47) :: Lm) [] σ1 = some (some (.int a'), σ2) ∧ REL s' cr' cp' qr' qp' σ2 ∧ jnx σ2 ≤ jnx σ + 40 ∧ jsl σ2 ≤ jsl σ + 600 ∧ low σ σ2 ∧ (eqv = true → a = a')
theorem low.refl (σ : jS) : low σ σ := fun _ _ => ⟨rfl, rfl, fun _ => rfl⟩
theorem low.trans {σ τ υ : jS} (h : low σ τ) (k : low τ υ) : low σ υ := fun a ha => ⟨(k a ha).1.trans (h a ha).1, (k a ha).2.1.trans (h a ha).2.1, fun i => ((k a ha).2.2 i).trans ((h a ha).2.2 i)⟩
theorem FR.low {l : List Nat} {σ σ' : jS} (f : FR l σ σ') (hl : ∀ a, a ∈ l → 16 ≤ a) : low σ σ' := fun a ha => ⟨by rw [f.1.1], by rw [f.1.2.1], (f.2 a (fun z => by have := hl a z; omega)).2⟩
theorem sameC.low {σ σ' : jS} (f : sameC σ σ') (hx : 81 ≤ jnx σ) : low σ σ' := fun a ha =>
  have x := f.2 a (by omega) (Or.inl (by omega))
  ⟨x.1, x.2.1, x.2.2.2.2.1⟩
theorem SimR.read {d Mx Mm : Nat} {Lx Lm : List (Option Value)} {eqv : Bool} {σ : jS} {s : AS} {cr cp : Nat} {qr qp : Nat → Nat} (hR : REL s cr cp qr qp σ) {a a' : Int32} (h1 : jx d Mx 0 (some (.ref 16) :: Lx) [] σ = some (some (.int a), σ)) (h2 : jx d Mm 0 (some (.ref 47) :: Lm) [] σ = some (some (.int a'), σ)) (e : eqv = true → a = a') : SimR d Mx Mm Lx Lm eqv σ :=
  ⟨a, a', σ, σ, s, cr, cp, qr, qp, h1, h2, hR, by omega, by omega, low.refl σ, e⟩
def inR (x : Int32) (n : Nat) : Prop := ¬ x < 0 ∧ x < nI n
theorem inR_nat {x : Int32} {n : Nat} (hn : n < 2 ^ 31) (h : inR x n) : ∃ k, k < n ∧ x = nI k := by
  have q := i32_nat (c := x) (n := n) hn h.1 (by rw [Int32.not_le]; exact h.2)
  exact ⟨x.toNatClampNeg, q.2, q.1⟩
theorem inR_k {k n : Nat} (hn : n < 2 ^ 31) (h : k < n) : inR (nI k) n := ⟨nn0 (by omega), by rw [n31 (by omega) hn]; exact h⟩
theorem rng_iff {x : Int32} {n : Nat} (hn : n < 2 ^ 31) : (0 ≤ x ∧ x ≤ nI n - 1) ↔ inR x n := by
  unfold inR
  rw [Int32.not_lt, Int32.le_iff_toInt_le, Int32.le_iff_toInt_le, Int32.lt_iff_toInt_lt, nI_toInt hn]
  have z : (0 : Int32).toInt = 0 := rfl
  by_cases h0 : n = 0
  · subst h0
    have e : (nI 0 - 1).toInt = -1 := rfl
    rw [e]
    omega
  · have e : nI n - 1 = nI (n - 1) := by rw [show (1 : Int32) = nI 1 from rfl, nsub (by omega)]
    rw [e, nI_toInt (by omega)]
    omega
section SIM
variable {d : Nat} {σ : jS} {s : AS} {cr cp : Nat} {qr qp : Nat → Nat}
theorem cin0 {x y : Int32} : jx d 123 0 [some (.long x.toInt64), none, some (.long 0), none, some (.long y.toInt64), none] [] σ = some (some (.int (if 0 ≤ x ∧ x ≤ y then 1 else 0)), σ) := c123 (b := 0)
theorem c162 (hS : SH σ) (hM : CM s σ) (hs : WFs s) (x : Int32) : ∃ v : Int32, jx (d + 1) 162 0 [some (.ref 47), some (.int x)] [] σ = some (some (.int v), σ) ∧ (v = 0 ∨ v = 1) ∧ (v = 1 ↔ inR x s.rs.length) := by
  have hl := hs.r24
  by_cases h : 0 ≤ x ∧ x ≤ nI s.rs.length - 1
  · refine ⟨1, ?_, Or.inr rfl, ⟨fun _ => (rng_iff (by omega)).mp h, fun _ => rfl⟩⟩
    rw [k162_0 (sT_47 hS), hM.nr, cin0, if_pos h]
    simp only [Option.bind_some, Option.toList_some, List.cons_append, List.nil_append]
    rw [k162_13 (by decide)]
  · refine ⟨0, ?_, Or.inl rfl, ⟨fun z => absurd z (by decide), fun z => absurd ((rng_iff (by omega)).mpr z) h⟩⟩
    rw [k162_0 (sT_47 hS), hM.nr, cin0, if_neg h]
    simp only [Option.bind_some, Option.toList_some, List.cons_append, List.nil_append]
    rw [k162_13 (by decide)]
theorem c170 (hS : SH σ) (hM : CM s σ) (hs : WFs s) (x : Int32) : ∃ v : Int32, jx (d + 1) 170 0 [some (.ref 47), some (.int x)] [] σ = some (some (.int v), σ) ∧ (v = 0 ∨ v = 1) ∧ (v = 1 ↔ inR x s.ps.length) := by
  have hl := hs.p16
  by_cases h : 0 ≤ x ∧ x ≤ nI s.ps.length - 1
  · refine ⟨1, ?_, Or.inr rfl, ⟨fun _ => (rng_iff (by omega)).mp h, fun _ => rfl⟩⟩
    rw [k170_0 (sT_47 hS), hM.np, cin0, if_pos h]
    simp only [Option.bind_some, Option.toList_some, List.cons_append, List.nil_append]
    rw [k170_13 (by decide)]
  · refine ⟨0, ?_, Or.inl rfl, ⟨fun z => absurd z (by decide), fun z => absurd ((rng_iff (by omega)).mpr z) h⟩⟩
    rw [k170_0 (sT_47 hS), hM.np, cin0, if_neg h]
    simp only [Option.bind_some, Option.toList_some, List.cons_append, List.nil_append]
    rw [k170_13 (by decide)]
/-- isRule and isProgram, told by cases -/
theorem c162y (hS : SH σ) (hM : CM s σ) (hs : WFs s) {x : Int32} (h : inR x s.rs.length) : jx (d + 1) 162 0 [some (.ref 47), some (.int x)] [] σ = some (some (.int 1), σ) := by
  obtain ⟨v, e, _, q⟩ := c162 (d := d) hS hM hs x
  rw [q.mpr h] at e; exact e
theorem c162n (hS : SH σ) (hM : CM s σ) (hs : WFs s) {x : Int32} (h : ¬ inR x s.rs.length) : jx (d + 1) 162 0 [some (.ref 47), some (.int x)] [] σ = some (some (.int 0), σ) := by
  obtain ⟨v, e, o, q⟩ := c162 (d := d) hS hM hs x
  rcases o with o | o
  · rw [o] at e; exact e
  · exact absurd (q.mp o) h
theorem c170y (hS : SH σ) (hM : CM s σ) (hs : WFs s) {x : Int32} (h : inR x s.ps.length) : jx (d + 1) 170 0 [some (.ref 47), some (.int x)] [] σ = some (some (.int 1), σ) := by
  obtain ⟨v, e, _, q⟩ := c170 (d := d) hS hM hs x
  rw [q.mpr h] at e; exact e
theorem c170n (hS : SH σ) (hM : CM s σ) (hs : WFs s) {x : Int32} (h : ¬ inR x s.ps.length) : jx (d + 1) 170 0 [some (.ref 47), some (.int x)] [] σ = some (some (.int 0), σ) := by
  obtain ⟨v, e, o, q⟩ := c170 (d := d) hS hM hs x
  rcases o with o | o
  · rw [o] at e; exact e
  · exact absurd (q.mp o) h
theorem c81y (hS : SH σ) (hC : CX s cr cp qr qp σ) (hs : WFs s) {k : Nat} (h : k < s.rs.length) : jx d 81 0 [some (.ref 16), some (.int (nI k))] [] σ = some (some (.ref (qr k)), σ) := by
  have hl := hs.r24
  have rg : (jR σ 583 16).getD 0 = 45 := by rw [sR_583_16 hS]; rfl
  have rn : jR σ 583 16 ≠ none := by rw [sR_583_16 hS]; exact fun z => nomatch z
  have g24 : ¬ Int32.ofNat 24 ≤ nI k := nI_ge (by omega) (by omega)
  have gg := (hC.gr k (Nat.lt_of_lt_of_le h hC.lr.1)).1
  rw [k81_0, if_neg (nn0 (by omega)), k81_4 (sT_16 hS), hC.nr, if_neg (nI_ge h (by omega)), k81_12 (sT_16 hS) rn (by rw [rg, sT_45 hS]; decide), rg, sN_45 hS, if_neg g24, k81_21 (sT_16 hS) rn (by rw [rg, sT_45 hS]; decide) (by rw [rg, sN_45 hS]; exact jin_n (by omega) (by decide)), rg, nI_clamp (by omega), gg]
  exact k81_27R
theorem c81n (hS : SH σ) (hC : CX s cr cp qr qp σ) {x : Int32} (h : ¬ inR x s.rs.length) : jx d 81 0 [some (.ref 16), some (.int x)] [] σ = some (some .null, σ) := by
  rw [k81_0]
  by_cases h0 : x < 0
  · rw [if_pos h0, k81_30]
  · have h1 : nI s.rs.length ≤ x := by rw [← Int32.not_lt]; exact fun z => h ⟨h0, z⟩
    rw [if_neg h0, k81_4 (sT_16 hS), hC.nr, if_pos h1, k81_30]
theorem c86y (hS : SH σ) (hC : CX s cr cp qr qp σ) (hs : WFs s) {k : Nat} (h : k < s.ps.length) : jx d 86 0 [some (.ref 16), some (.int (nI k))] [] σ = some (some (.ref (qp k)), σ) := by
  have hl := hs.p16
  have rg : (jR σ 584 16).getD 0 = 46 := by rw [sR_584_16 hS]; rfl
  have rn : jR σ 584 16 ≠ none := by rw [sR_584_16 hS]; exact fun z => nomatch z
  have g16 : ¬ Int32.ofNat 16 ≤ nI k := nI_ge (by omega) (by omega)
  have gg := (hC.gp k (Nat.lt_of_lt_of_le h hC.lp.1)).1
  rw [k86_0, if_neg (nn0 (by omega)), k86_4 (sT_16 hS), hC.np, if_neg (nI_ge h (by omega)), k86_12 (sT_16 hS) rn (by rw [rg, sT_46 hS]; decide), rg, sN_46 hS, if_neg g16, k86_21 (sT_16 hS) rn (by rw [rg, sT_46 hS]; decide) (by rw [rg, sN_46 hS]; exact jin_n (by omega) (by decide)), rg, nI_clamp (by omega), gg]
  exact k86_27R
theorem c86n (hS : SH σ) (hC : CX s cr cp qr qp σ) {x : Int32} (h : ¬ inR x s.ps.length) : jx d 86 0 [some (.ref 16), some (.int x)] [] σ = some (some .null, σ) := by
  rw [k86_0]
  by_cases h0 : x < 0
  · rw [if_pos h0, k86_30]
  · have h1 : nI s.ps.length ≤ x := by rw [← Int32.not_lt]; exact fun z => h ⟨h0, z⟩
    rw [if_neg h0, k86_4 (sT_16 hS), hC.np, if_pos h1, k86_30]
theorem sim_differs (hR : REL s cr cp qr qp σ) : SimR d 116 195 [] [] true σ := by
  have hR0 := hR
  obtain ⟨hS, hx, hs, hC, hM⟩ := hR
  exact SimR.read hR0 (by rw [k116_0 (sT_16 hS), hC.ap]) (by rw [k195_0 (sT_47 hS), hM.ap]) (fun _ => rfl)
theorem sim_step (hR : REL s cr cp qr qp σ) (x y : Int32) : SimR (d + 1) 110 190 [some (.int x), some (.int y)] [some (.int x), some (.int y)] true σ := by
  have hR0 := hR
  obtain ⟨hS, hx, hs, hC, hM⟩ := hR
  have hn := hs.n144
  have r1 : (jR σ 582 16).getD 0 = 43 := by rw [sR_582_16 hS]; rfl
  have n1 : jR σ 582 16 ≠ none := by rw [sR_582_16 hS]; exact fun z => nomatch z
  have r2 : (jR σ 384 43).getD 0 = 44 := by rw [sR_384_43 hS]; rfl
  have n2 : jR σ 384 43 ≠ none := by rw [sR_384_43 hS]; exact fun z => nomatch z
  by_cases h : inR x s.ns
  · obtain ⟨k, hk, ek⟩ := inR_nat (by omega) h
    have cq : ∀ y0 : Int32, jx (d + 1) 190 0 [some (.ref 47), some (.int x), some (.int y)] [] σ = jx (d + 1) 190 18 [some (.ref 47), some (.int x), some (.int y)] [] σ := fun _ => by
      rw [k190_0 (sT_47 hS), hM.ns, cin0, if_pos ((rng_iff (by omega)).mpr h)]
      simp only [Option.bind_some, Option.toList_some, List.cons_append, List.nil_append]
      rw [k190_13, if_pos (by decide)]
    have cc : jx (d + 1) 110 0 [some (.ref 16), some (.int x), some (.int y)] [] σ = jx (d + 1) 110 15 [some (.ref 16), some (.int x), some (.int y)] [] σ := by
      rw [k110_0, if_neg h.1, k110_4 (sT_16 hS) n1 (by rw [r1]; exact sT_43 hS), r1, hC.ns, if_neg (by rw [Int32.not_le]; exact h.2)]
    have rd : ∀ w, w < 3 → y = nI w → jx (d + 1) 110 15 [some (.ref 16), some (.int x), some (.int y)] [] σ = some (some (.int (s.tl k w)), σ) := by
      intro w hw ew
      have e3 : nI k * 3 + nI w = nI (3 * k + w) := by rw [show (3 : Int32) = nI 3 from rfl, nmul, nadd, Nat.mul_comm]
      have lt3 : nI w < (3 : Int32) := by rw [show (3 : Int32) = nI 3 from rfl, n31 (by omega) (by decide)]; exact hw
      rw [ek, ew, k110_15, if_neg (nn0 (by omega)), k110_19, if_pos lt3, k110_26 (sT_16 hS) n1 (by rw [r1]; exact sT_43 hS) (by rw [r1]; exact n2) (by rw [r1, r2]; exact Or.inl (sT_44 hS)) (by rw [r1, r2, sN_44 hS, e3]; exact jin_n (by omega) (by decide)), r1, r2, e3, nI_clamp (by omega), hC.tl k w hk hw]
    by_cases y0 : y = 0
    · have t := hM.tl k 0 hk (by decide)
      refine SimR.read hR0 (a := s.tl k 0) (a' := s.tl k 0) (cc.trans (rd 0 (by decide) y0)) ?_ (fun _ => rfl)
      have rg : (jR σ 679 47).getD 0 = 78 := by rw [sR_679_47 hS]; rfl
      show jx (d + 1) 190 0 [some (.ref 47), some (.int x), some (.int y)] [] σ = _
      rw [cq 0, k190_18, if_neg (fun z => z y0), ek, k190_22 (sT_47 hS) (by rw [sR_679_47 hS]; exact fun z => nomatch z) (by rw [rg]; exact Or.inl (sT_78 hS)) (by rw [rg, sN_78 hS]; exact jin_n (by omega) (by decide)), rg, nI_clamp (by omega), t]
    by_cases y1 : y = 1
    · have t := hM.tl k 1 hk (by decide)
      refine SimR.read hR0 (a := s.tl k 1) (a' := s.tl k 1) (cc.trans (rd 1 (by decide) y1)) ?_ (fun _ => rfl)
      have rg : (jR σ 680 47).getD 0 = 79 := by rw [sR_680_47 hS]; rfl
      show jx (d + 1) 190 0 [some (.ref 47), some (.int x), some (.int y)] [] σ = _
      rw [cq 0, k190_18, if_pos y0, k190_31, if_neg (fun z => z y1), ek, k190_36 (sT_47 hS) (by rw [sR_680_47 hS]; exact fun z => nomatch z) (by rw [rg]; exact Or.inl (sT_79 hS)) (by rw [rg, sN_79 hS]; exact jin_n (by omega) (by decide)), rg, nI_clamp (by omega), t]
    by_cases y2 : y = 2
    · have t := hM.tl k 2 hk (by decide)
      refine SimR.read hR0 (a := s.tl k 2) (a' := s.tl k 2) (cc.trans (rd 2 (by decide) y2)) ?_ (fun _ => rfl)
      have rg : (jR σ 681 47).getD 0 = 80 := by rw [sR_681_47 hS]; rfl
      show jx (d + 1) 190 0 [some (.ref 47), some (.int x), some (.int y)] [] σ = _
      rw [cq 0, k190_18, if_pos y0, k190_31, if_pos y1, k190_45, if_neg (fun z => z y2), ek, k190_50 (sT_47 hS) (by rw [sR_681_47 hS]; exact fun z => nomatch z) (by rw [rg]; exact Or.inl (sT_80 hS)) (by rw [rg, sN_80 hS]; exact jin_n (by omega) (by decide)), rg, nI_clamp (by omega), t]
    · refine SimR.read hR0 (a := -1) (a' := -1) ?_ ?_ (fun _ => rfl)
      · show jx (d + 1) 110 0 [some (.ref 16), some (.int x), some (.int y)] [] σ = _
        rw [cc, k110_15]
        by_cases n0 : y < 0
        · rw [if_pos n0, k110_24]
        · rw [if_neg n0, k110_19]
          by_cases l3 : y < 3
          · exfalso
            have q := i32_nat (c := y) (n := 3) (by decide) n0 (by rw [Int32.not_le]; exact l3)
            have : y.toNatClampNeg = 0 ∨ y.toNatClampNeg = 1 ∨ y.toNatClampNeg = 2 := by omega
            rcases this with e | e | e
            · rw [e] at q; exact y0 q.1
            · rw [e] at q; exact y1 q.1
            · rw [e] at q; exact y2 q.1
          · rw [if_neg l3, k110_24]
      · show jx (d + 1) 190 0 [some (.ref 47), some (.int x), some (.int y)] [] σ = _
        rw [cq 0, k190_18, if_pos y0, k190_31, if_pos y1, k190_45, if_pos y2, k190_59]
  · refine SimR.read hR0 (a := -1) (a' := -1) ?_ ?_ (fun _ => rfl)
    · show jx (d + 1) 110 0 [some (.ref 16), some (.int x), some (.int y)] [] σ = _
      rw [k110_0]
      by_cases h0 : x < 0
      · rw [if_pos h0, k110_24]
      · have h1 : nI s.ns ≤ x := by rw [← Int32.not_lt]; exact fun z => h ⟨h0, z⟩
        rw [if_neg h0, k110_4 (sT_16 hS) n1 (by rw [r1]; exact sT_43 hS), r1, hC.ns, if_pos h1, k110_24]
    · show jx (d + 1) 190 0 [some (.ref 47), some (.int x), some (.int y)] [] σ = _
      rw [k190_0 (sT_47 hS), hM.ns, cin0, if_neg (fun z => h ((rng_iff (by omega)).mp z))]
      simp only [Option.bind_some, Option.toList_some, List.cons_append, List.nil_append]
      rw [k190_13, if_neg (fun z => z rfl), k190_16]
end SIM
end S_77
