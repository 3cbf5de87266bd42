/-! the reference's trial: a side at work -/
section TRN
variable {d : Nat} {W : Nat}
theorem c153 {σ : jS} {r sd nr nm : Nat} {hc : Bool} {os : List (Nat → Int32)} {t v : Nat → Int32} (hS : SH σ) (hW : W = 1 ∨ W = 2 ∨ W = 3) (hw : jI σ 640 47 = nI W) (hr : r < 24) (hsd : sd = 0 ∨ sd = 1) (hnr : nr ≤ 4) (hnm : nm ≤ 3) (e6 : jA σ 56 r = nI nr) (e9 : jA σ 59 r = if hc = true then 1 else 0) (e50 : jA σ 50 (2 * r + sd) = nI os.length) (hl : os.length ≤ 4) (hM : ∀ i, i < os.length → MO σ (8 * r + 4 * sd + i) (os.getD i (fun _ => 0))) (hf : ∀ o, o ∈ os → WFo nr nm o) (hV : VB W (wdN nr hc) (wdN nr hc + nm) t v) (hv : ∀ k, k < 11 → jA σ 73 k = v k) :
    ∃ σ', jx (d + 3) 153 0 [some (.ref 47), some (.int (nI r)), some (.int (nI sd)), none, none, none, none, none, none] [] σ = some (none, σ') ∧ FR [49] σ σ' ∧ ∀ i, i < 8 → jA σ' 49 i = exS W nr hc os v i := by
  have gr : jin 24 (nI r) := jin_n hr (by decide)
  have qr : (nI r).toNatClampNeg = r := nI_clamp (by omega)
  have hwd : wdN nr hc + nm ≤ 11 := by unfold wdN; cases hc <;> simp <;> omega
  -- facts in states that differ in 49 alone
  have Sx : ∀ {υ : jS}, FR [49] σ υ → SH υ := fun F => F.sh hS
  have g651 : ∀ {υ : jS}, SH υ → (jR υ 651 47).getD 0 = 56 := fun h => by rw [sR_651_47 h]; rfl
  have g654 : ∀ {υ : jS}, SH υ → (jR υ 654 47).getD 0 = 59 := fun h => by rw [sR_654_47 h]; rfl
  have g643 : ∀ {υ : jS}, SH υ → (jR υ 643 47).getD 0 = 49 := fun h => by rw [sR_643_47 h]; rfl
  have g672 : ∀ {υ : jS}, SH υ → (jR υ 672 47).getD 0 = 73 := fun h => by rw [sR_672_47 h]; rfl
  have g645 : ∀ {υ : jS}, SH υ → (jR υ 645 47).getD 0 = 50 := fun h => by rw [sR_645_47 h]; rfl
  have g646 : ∀ {υ : jS}, SH υ → (jR υ 646 47).getD 0 = 51 := fun h => by rw [sR_646_47 h]; rfl
  have g647 : ∀ {υ : jS}, SH υ → (jR υ 647 47).getD 0 = 52 := fun h => by rw [sR_647_47 h]; rfl
  have n651 : ∀ {υ : jS}, SH υ → jR υ 651 47 ≠ none := fun h => by rw [sR_651_47 h]; exact fun z => nomatch z
  have n654 : ∀ {υ : jS}, SH υ → jR υ 654 47 ≠ none := fun h => by rw [sR_654_47 h]; exact fun z => nomatch z
  have n643 : ∀ {υ : jS}, SH υ → jR υ 643 47 ≠ none := fun h => by rw [sR_643_47 h]; exact fun z => nomatch z
  have n672 : ∀ {υ : jS}, SH υ → jR υ 672 47 ≠ none := fun h => by rw [sR_672_47 h]; exact fun z => nomatch z
  have n645 : ∀ {υ : jS}, SH υ → jR υ 645 47 ≠ none := fun h => by rw [sR_645_47 h]; exact fun z => nomatch z
  have n646 : ∀ {υ : jS}, SH υ → jR υ 646 47 ≠ none := fun h => by rw [sR_646_47 h]; exact fun z => nomatch z
  have n647 : ∀ {υ : jS}, SH υ → jR υ 647 47 ≠ none := fun h => by rw [sR_647_47 h]; exact fun z => nomatch z
  have start : jx (d + 3) 153 0 [some (.ref 47), some (.int (nI r)), some (.int (nI sd)), none, none, none, none, none, none] [] σ = jx (d + 3) 153 25 [some (.ref 47), some (.int (nI r)), some (.int (nI sd)), some (.int (nI (wdN nr hc))), some (.int (nI 0)), none, none, none, none] [] σ := by
    rw [k153_0 (sT_47 hS) (n651 hS) (by rw [g651 hS]; exact Or.inl (sT_56 hS)) (by rw [g651 hS, sN_56 hS]; exact gr) (n654 hS) (by rw [g654 hS]; exact Or.inr (sT_59 hS)) (by rw [g654 hS, sN_59 hS]; exact gr), g651 hS, g654 hS, qr, e6, e9]
    cases hc with
    | true =>
      have i1 : ¬ (if true = true then (1 : Int32) else 0) = 0 := by decide
      have p4 : nI nr + 4 = nI (wdN nr true) := by rw [show (4 : Int32) = nI 4 from rfl, nadd]; rfl
      rw [if_neg i1, k153_15, p4]; rfl
    | false =>
      have i1 : (if false = true then (1 : Int32) else 0) = 0 := rfl
      have p4 : nI nr + 0 = nI (wdN nr false) := by rw [show (0 : Int32) = nI 0 from rfl, nadd]; rfl
      rw [if_pos i1, k153_19, p4]; rfl
  have L1 : ∀ f n σ1, n + f = 4 → FR [49] σ σ1 → (∀ i, i < n → jA σ1 49 i = w0F nr hc v i ∧ jA σ1 49 (4 + i) = w0F nr hc v (4 + i)) → ∃ σ2, jx (d + 3) 153 25 [some (.ref 47), some (.int (nI r)), some (.int (nI sd)), some (.int (nI (wdN nr hc))), some (.int (nI n)), none, none, none, none] [] σ1 = jx (d + 3) 153 102 [some (.ref 47), some (.int (nI r)), some (.int (nI sd)), some (.int (nI (wdN nr hc))), some (.int (nI 4)), none, none, none, none] [] σ2 ∧ FR [49] σ σ2 ∧ ∀ i, i < 8 → jA σ2 49 i = w0F nr hc v i := by
    intro f
    induction f with
    | zero =>
      intro n σ1 hn F h
      have e : n = 4 := by omega
      subst e
      refine ⟨σ1, by rw [k153_25, if_pos (by decide)], F, fun i hi => ?_⟩
      by_cases q : i < 4
      · exact (h i q).1
      · have := (h (i - 4) (by omega)).2
        rw [show 4 + (i - 4) = i by omega] at this
        exact this
    | succ f ih =>
      intro n σ1 hn F h
      have h1 := Sx F
      have g4 : ¬ (4 : Int32) ≤ nI n := nI_ge (b := 4) (by omega) (by omega)
      have p4 : (4 : Int32) + nI n = nI (4 + n) := by rw [show (4 : Int32) = nI 4 from rfl, nadd]
      have q56 : jA σ1 56 r = nI nr := by rw [(F.2 56 (by decide)).2]; exact e6
      have q59 : jA σ1 59 r = if hc = true then 1 else 0 := by rw [(F.2 59 (by decide)).2]; exact e9
      have q73 : ∀ k, k < 11 → jA σ1 73 k = v k := fun k hk => by rw [(F.2 73 (by decide)).2]; exact hv k hk
      obtain ⟨σ2, e2, F2, h2⟩ := ih (n + 1) (jsA (jsA σ1 49 n (w0F nr hc v n)) 49 (4 + n) (w0F nr hc v (4 + n))) (by omega) ((F.A (by simp)).A (by simp)) (fun i hi => by
        rw [zA_A, zA_A, zA_A, zA_A]
        by_cases q : i = n
        · subst q
          rw [if_neg (fun z => by omega), if_pos ⟨rfl, rfl⟩, if_pos ⟨rfl, rfl⟩]
          exact ⟨rfl, rfl⟩
        · rw [if_neg (fun z => by omega), if_neg (fun z => q z.2), if_neg (fun z => by omega), if_neg (fun z => by omega)]
          exact h i (by omega))
      refine ⟨σ2, ?_, F2, h2⟩
      -- the register
      have a1 : jx (d + 3) 153 25 [some (.ref 47), some (.int (nI r)), some (.int (nI sd)), some (.int (nI (wdN nr hc))), some (.int (nI n)), none, none, none, none] [] σ1 = if hc = true then jx (d + 3) 153 77 [some (.ref 47), some (.int (nI r)), some (.int (nI sd)), some (.int (nI (wdN nr hc))), some (.int (nI n)), none, none, none, none] [.int (nI (4 + n)), .ref 49] (jsA σ1 49 n (w0F nr hc v n)) else jx (d + 3) 153 94 [some (.ref 47), some (.int (nI r)), some (.int (nI sd)), some (.int (nI (wdN nr hc))), some (.int (nI n)), none, none, none, none] [.int (nI (4 + n)), .ref 49] (jsA σ1 49 n (w0F nr hc v n)) := by
        have z59 : ∀ x : Int32, jA (jsA σ1 49 n x) 59 r = if hc = true then 1 else 0 := fun x => by rw [zA_A, if_neg (fun z => absurd z.1 (by decide))]; exact q59
        rw [k153_25, if_neg g4, k153_31 (sT_47 h1) (n643 h1) (n651 h1) (by rw [g651 h1]; exact Or.inl (sT_56 h1)) (by rw [g651 h1, sN_56 h1]; exact gr), g651 h1, g643 h1, qr, q56]
        by_cases hq : n < nr
        · have ew : w0F nr hc v n = v n := if_pos hq
          rw [if_neg (nI_ge hq (by omega)), k153_48 (sT_47 h1) (n672 h1) (by rw [g672 h1]; exact Or.inl (sT_73 h1)) (by rw [g672 h1, sN_73 h1]; exact jin_n (by omega) (by decide)) (sT_49 h1) (by rw [sN_49 h1]; exact jin_n (by omega) (by decide)) (n643 h1) (n654 h1) (by rw [g654 h1]; exact Or.inr (sT_59 h1)) (by rw [g654 h1, sN_59 h1]; exact gr), g672 h1, g654 h1, g643 h1, qr, nI_clamp (by omega), q73 n (by omega), z59, p4, ew]
          cases hc with
          | true => rw [if_neg (show ¬ (if true = true then (1 : Int32) else 0) = 0 by decide), if_pos rfl]
          | false => rw [if_pos (show (if false = true then (1 : Int32) else 0) = 0 from rfl), if_neg (by decide)]
        · have ew : w0F nr hc v n = 0 := by
            unfold w0F
            rw [if_neg hq, if_neg (fun z => by omega)]
          rw [if_pos (nI_le (by omega) (by omega)), k153_58 (sT_49 h1) (by rw [sN_49 h1]; exact jin_n (by omega) (by decide)) (sT_47 h1) (n643 h1) (n654 h1) (by rw [g654 h1]; exact Or.inr (sT_59 h1)) (by rw [g654 h1, sN_59 h1]; exact gr), g654 h1, g643 h1, qr, nI_clamp (by omega), z59, p4, ew]
          cases hc with
          | true => rw [if_neg (show ¬ (if true = true then (1 : Int32) else 0) = 0 by decide), if_pos rfl]
          | false => rw [if_pos (show (if false = true then (1 : Int32) else 0) = 0 from rfl), if_neg (by decide)]
      have hu : SH (jsA σ1 49 n (w0F nr hc v n)) := by rw [SH_A]; exact h1
      rw [a1, ← e2]
      by_cases hcb : hc = true
      · have u56 : jA (jsA σ1 49 n (w0F nr hc v n)) 56 r = nI nr := by rw [zA_A, if_neg (fun z => absurd z.1 (by decide))]; exact q56
        have u73 : jA (jsA σ1 49 n (w0F nr hc v n)) 73 (nr + n) = v (nr + n) := by rw [zA_A, if_neg (fun z => absurd z.1 (by decide))]; exact q73 _ (by omega)
        have ew : w0F nr hc v (4 + n) = v (nr + n) := by
          show (if 4 + n < nr then v (4 + n) else if 4 ≤ 4 + n ∧ hc = true then v (nr + (4 + n - 4)) else 0) = _
          rw [if_neg (by omega), if_pos ⟨by omega, hcb⟩]
          congr 1
          omega
        rw [if_pos hcb, k153_77 (sT_47 hu) (n672 hu) (n651 hu) (by rw [g651 hu]; exact Or.inl (sT_56 hu)) (by rw [g651 hu, sN_56 hu]; exact gr) (by rw [g672 hu]; exact Or.inl (sT_73 hu)) (by rw [g672 hu, g651 hu, sN_73 hu, qr, u56, nadd]; exact jin_n (by omega) (by decide)) (sT_49 hu) (by rw [sN_49 hu]; exact jin_n (by omega) (by decide)), g672 hu, g651 hu, qr, u56, nadd, nI_clamp (by omega), nI_clamp (by omega), u73, ← ew, ← nI_succ]
      · have ew : w0F nr hc v (4 + n) = 0 := by
          show (if 4 + n < nr then v (4 + n) else if 4 ≤ 4 + n ∧ hc = true then v (nr + (4 + n - 4)) else 0) = _
          rw [if_neg (by omega), if_neg (fun z => hcb z.2)]
        rw [if_neg hcb, k153_94 (sT_49 hu) (by rw [sN_49 hu]; exact jin_n (by omega) (by decide)), nI_clamp (by omega), ew, ← nI_succ]
  have L2 : ∀ f n σ1 w l5 l6 l7 l8, n + f = os.length → FR [49] σ σ1 → WD W w → (∀ i, i < 8 → jA σ1 49 i = w i) → ∃ σ2, jx (d + 3) 153 105 [some (.ref 47), some (.int (nI r)), some (.int (nI sd)), some (.int (nI (wdN nr hc))), some (.int (nI n)), l5, l6, l7, l8] [] σ1 = some (none, σ2) ∧ FR [49] σ σ2 ∧ ∀ i, i < 8 → jA σ2 49 i = exL W ((os.drop n).map (wrM W (mvF (wdN nr hc) v))) w i := by
    intro f
    induction f with
    | zero =>
      intro n σ1 w l5 l6 l7 l8 hn F hD h
      have e : n = os.length := by omega
      subst e
      have h1 := Sx F
      have e2 : (2 : Int32) * nI r + nI sd = nI (2 * r + sd) := by rw [show (2 : Int32) = nI 2 from rfl, nmul, nadd]
      refine ⟨σ1, ?_, F, fun i hi => by rw [List.drop_length]; exact h i hi⟩
      rw [k153_105 (sT_47 h1) (n645 h1) (by rw [g645 h1]; exact Or.inl (sT_50 h1)) (by rw [g645 h1, sN_50 h1, e2]; exact jin_n (by omega) (by decide)), g645 h1, e2, nI_clamp (by omega), (F.2 50 (by decide)).2, e50, if_pos (nI_le (Nat.le_refl _) (by omega)), k153_247]
    | succ f ih =>
      intro n σ1 w l5 l6 l7 l8 hn F hD h
      have hlt : n < os.length := by omega
      have h1 := Sx F
      have hw1 : jI σ1 640 47 = nI W := by rw [(F.2 47 (by decide)).1]; exact hw
      have e2 : (2 : Int32) * nI r + nI sd = nI (2 * r + sd) := by rw [show (2 : Int32) = nI 2 from rfl, nmul, nadd]
      obtain ⟨k, ek⟩ : ∃ k, 8 * r + 4 * sd + n = k := ⟨_, rfl⟩
      have hk : k < 192 := by omega
      have e8 : (8 : Int32) * nI r + 4 * nI sd + nI n = nI k := by rw [show (8 : Int32) = nI 8 from rfl, show (4 : Int32) = nI 4 from rfl, nmul, nmul, nadd, nadd, ek]
      have gk : jin 192 (nI k) := jin_n hk (by decide)
      have qk : (nI k).toNatClampNeg = k := nI_clamp (by omega)
      obtain ⟨o, eo⟩ : ∃ o, os.getD n (fun _ => 0) = o := ⟨_, rfl⟩
      have ho : WFo nr nm o := eo ▸ hf _ (mem_getD hlt)
      have hO : MO σ1 k o := by
        have := hM n hlt
        rw [ek, eo] at this
        exact this.fr F (fun a x y => by simp; omega)
      obtain ⟨op1, op2⟩ := ho.op
      have hm : MV nm (mvF (wdN nr hc) v) := hV.mv
      obtain ⟨kk, x, y, z, h8, p0, p1, p2, p3, _, _⟩ := wrM_PWF hW hnr hnm hm ho
      have D1 : WD W (jA σ1 49) := hD.cong h
      obtain ⟨σ2, c1, c2, c3⟩ := c157 (d := d + 2) h1 hW hw1 h8 D1
      rw [← p0, ← p1, ← p2, ← p3] at c1
      have F2 := F.trans c2
      have e51 : jA σ1 51 k = nI (opO o) := by rw [hO.1, op2]
      have w0' : wrM W (mvF (wdN nr hc) v) o 0 = nI (opO o) := op2
      have reg : ∀ j, j < regN (opO o) → jA σ1 52 (3 * k + j) = o (j + 1) := fun j hj => hO.2.1 j hj
      have e3 : ∀ j, (3 : Int32) * nI k + nI j = nI (3 * k + j) := fun j => by rw [show (3 : Int32) = nI 3 from rfl, nmul, nadd]
      have e30 : (3 : Int32) * nI k = nI (3 * k) := by rw [show (3 : Int32) = nI 3 from rfl, nmul]
      have hr3 := regN3 (opO o)
      have wv : ∀ j, wrM W (mvF (wdN nr hc) v) o j = if j = 0 then o 0 else if j ≤ regN (opO o) then o j else if j = 2 ∧ numN (opO o) = true then numM W (mvF (wdN nr hc) v) o else 0 := fun _ => rfl
      -- y is there: to the call
      have tail : ∀ yv : Int32, yv = wrM W (mvF (wdN nr hc) v) o 2 → (if nI (regN (opO o)) ≤ 0 then jx (d + 3) 153 214 [some (.ref 47), some (.int (nI r)), some (.int (nI sd)), some (.int (nI (wdN nr hc))), some (.int (nI n)), some (.int (nI k)), some (.int (nI (opO o))), some (.int (nI (regN (opO o)))), some (.int yv)] [.int (nI (opO o)), .ref 47] σ1 else jx (d + 3) 153 202 [some (.ref 47), some (.int (nI r)), some (.int (nI sd)), some (.int (nI (wdN nr hc))), some (.int (nI n)), some (.int (nI k)), some (.int (nI (opO o))), some (.int (nI (regN (opO o)))), some (.int yv)] [.int (nI (opO o)), .ref 47] σ1) = jx (d + 3) 153 241 [some (.ref 47), some (.int (nI r)), some (.int (nI sd)), some (.int (nI (wdN nr hc))), some (.int (nI n)), some (.int (nI k)), some (.int (nI (opO o))), some (.int (nI (regN (opO o)))), some (.int yv)] [] σ2 := by
        intro yv hy
        rw [hy]
        by_cases r0 : regN (opO o) = 0
        · have x1 : wrM W (mvF (wdN nr hc) v) o 1 = 0 := by rw [wv, if_neg (by decide), if_neg (by omega), if_neg (fun z => absurd z.1 (by decide))]
          have x3 : wrM W (mvF (wdN nr hc) v) o 3 = 0 := by rw [wv, if_neg (by decide), if_neg (by omega), if_neg (fun z => absurd z.1 (by decide))]
          rw [w0', x1, x3] at c1
          rw [if_pos (by rw [r0]; decide), k153_214, if_pos (by rw [r0]; decide), k153_237 (sT_47 h1), c1]
          rfl
        · have x1 : wrM W (mvF (wdN nr hc) v) o 1 = o 1 := by rw [wv, if_neg (by decide), if_pos (by omega)]
          have r52 : jA σ1 52 (3 * k) = o 1 := reg 0 (by omega)
          have n0 : ¬ nI (regN (opO o)) ≤ 0 := by rw [show (0 : Int32) = nI 0 from rfl, n31le (by omega) (by decide)]; omega
          rw [if_neg n0, k153_202 (sT_47 h1) (n647 h1) (by rw [g647 h1]; exact Or.inl (sT_52 h1)) (by rw [g647 h1, sN_52 h1, e30]; exact jin_n (by omega) (by decide)), g647 h1, e30, nI_clamp (by omega), r52]
          by_cases r3 : regN (opO o) ≤ 2
          · have x3 : wrM W (mvF (wdN nr hc) v) o 3 = 0 := by rw [wv, if_neg (by decide), if_neg (by omega), if_neg (fun z => absurd z.1 (by decide))]
            have le2 : nI (regN (opO o)) ≤ 2 := nI_le (b := 2) r3 (by decide)
            rw [w0', x1, x3] at c1
            rw [if_pos le2, k153_237 (sT_47 h1), c1]
            rfl
          · have x3 : wrM W (mvF (wdN nr hc) v) o 3 = o 3 := by rw [wv, if_neg (by decide), if_pos (by omega)]
            have le2 : ¬ nI (regN (opO o)) ≤ 2 := nI_ge (a := 2) (by omega) (by omega)
            have r52' : jA σ1 52 (3 * k + 2) = o 3 := reg 2 (by omega)
            rw [w0', x1, x3] at c1
            rw [if_neg le2, k153_223 (sT_47 h1) (n647 h1) (by rw [g647 h1]; exact Or.inl (sT_52 h1)) (by rw [g647 h1, sN_52 h1, show (2 : Int32) = nI 2 from rfl, e3 2]; exact jin_n (by omega) (by decide)) (sT_47 h1), g647 h1, show (3 : Int32) * nI k + 2 = nI (3 * k + 2) from e3 2, nI_clamp (by omega), r52', c1]
            rfl
      have go : ∃ yv : Int32, jx (d + 3) 153 105 [some (.ref 47), some (.int (nI r)), some (.int (nI sd)), some (.int (nI (wdN nr hc))), some (.int (nI n)), l5, l6, l7, l8] [] σ1 = jx (d + 3) 153 241 [some (.ref 47), some (.int (nI r)), some (.int (nI sd)), some (.int (nI (wdN nr hc))), some (.int (nI n)), some (.int (nI k)), some (.int (nI (opO o))), some (.int (nI (regN (opO o)))), some (.int yv)] [] σ2 := by
        refine ⟨wrM W (mvF (wdN nr hc) v) o 2, ?_⟩
        rw [← tail _ rfl]
        rw [k153_105 (sT_47 h1) (n645 h1) (by rw [g645 h1]; exact Or.inl (sT_50 h1)) (by rw [g645 h1, sN_50 h1, e2]; exact jin_n (by omega) (by decide)), g645 h1, e2, nI_clamp (by omega), (F.2 50 (by decide)).2, e50, if_neg (nI_ge (by omega) (by omega))]
        rw [k153_120 (sT_47 h1) (n646 h1) (by rw [g646 h1]; exact Or.inl (sT_51 h1)) (by rw [g646 h1, sN_51 h1, e8]; exact gk), g646 h1, e8, qk, e51, c137 op1]
        simp only [Option.bind_some, Option.toList_some, List.cons_append, List.nil_append]
        rw [k153_147, c143 op1]
        simp only [Option.bind_some, Option.toList_some, List.cons_append, List.nil_append]
        rw [k153_154]
        by_cases hn' : numN (opO o) = true
        · have r1 := numN1 hn'
          have x2 : wrM W (mvF (wdN nr hc) v) o 2 = numM W (mvF (wdN nr hc) v) o := by rw [wv, if_neg (by decide), if_neg (by omega), if_pos ⟨rfl, hn'⟩]
          have cn := c154 (d := d) (row := 73) (fr := wdN nr hc) (N := 11) h1 hW hw1 hk hO ho hnm hn' (sT_73 h1) (sN_73 h1) hwd (by decide)
          have me : ∀ i, i < nm → (fun i => jA σ1 73 (wdN nr hc + i)) i = mvF (wdN nr hc) v i := fun i hi => by
            show jA σ1 73 (wdN nr hc + i) = v (wdN nr hc + i)
            rw [(F.2 73 (by decide)).2]; exact hv _ (by omega)
          have nme : numM W (fun i => jA σ1 73 (wdN nr hc + i)) o = numM W (mvF (wdN nr hc) v) o := by
            have q := congrFun (wrM_mv (W := W) hnm me ho) 2
            have u1 : ∀ mv, wrM W mv o 2 = numM W mv o := fun mv => by
              show (if 2 = 0 then o 0 else if 2 ≤ regN (opO o) then o 2 else if 2 = 2 ∧ numN (opO o) = true then numM W mv o else 0) = _
              rw [if_neg (by decide), if_neg (by omega), if_pos ⟨rfl, hn'⟩]
            rw [u1, u1] at q
            exact q
          rw [nme] at cn
          rw [if_pos hn', if_neg (by decide), k153_157 (sT_47 h1) (n672 h1), g672 h1, cn]
          simp only [Option.bind_some, Option.toList_some, List.cons_append, List.nil_append]
          rw [k153_168, x2]
        · rw [if_neg hn', if_pos rfl, k153_171]
          by_cases r1 : regN (opO o) ≤ 1
          · have x2 : wrM W (mvF (wdN nr hc) v) o 2 = 0 := by rw [wv, if_neg (by decide), if_neg (by omega), if_neg (fun z => hn' z.2)]
            have le1 : nI (regN (opO o)) ≤ 1 := nI_le (b := 1) r1 (by decide)
            rw [if_pos le1, k153_191, x2]
          · have x2 : wrM W (mvF (wdN nr hc) v) o 2 = o 2 := by rw [wv, if_neg (by decide), if_pos (by omega)]
            have le1 : ¬ nI (regN (opO o)) ≤ 1 := nI_ge (a := 1) (by omega) (by omega)
            have r52' : jA σ1 52 (3 * k + 1) = o 2 := reg 1 (by omega)
            rw [if_neg le1, k153_177 (sT_47 h1) (n647 h1) (by rw [g647 h1]; exact Or.inl (sT_52 h1)) (by rw [g647 h1, sN_52 h1, show (1 : Int32) = nI 1 from rfl, e3 1]; exact jin_n (by omega) (by decide)), g647 h1, show (3 : Int32) * nI k + 1 = nI (3 * k + 1) from e3 1, nI_clamp (by omega), r52', x2]
      obtain ⟨yv, go⟩ := go
      have pw : PWF (wrM W (mvF (wdN nr hc) v) o) := ⟨kk, x, y, z, h8, p0, p1, p2, p3⟩
      obtain ⟨σ3, e4, F3, h3⟩ := ih (n + 1) σ2 (exO W w (wrM W (mvF (wdN nr hc) v) o)) (some (.int (nI k))) (some (.int (nI (opO o)))) (some (.int (nI (regN (opO o))))) (some (.int yv)) (by omega) F2 (hD.exO hW pw) (fun i hi => by
        rw [c3 i, exO_eq h8 p0 p1 p2 p3]
        exact exN_cong h8 h i hi)
      refine ⟨σ3, ?_, F3, fun i hi => ?_⟩
      · rw [go, k153_241, ← nI_succ]; exact e4
      · rw [drop_cons hlt, eo]; exact h3 i hi
  obtain ⟨σ2, e2, F2, h2⟩ := L1 4 0 σ rfl (FR.refl _ σ) (fun i hi => absurd hi (Nat.not_lt_zero i))
  obtain ⟨σ3, e3, F3, h3⟩ := L2 os.length 0 σ2 (w0F nr hc v) none none none none (by omega) F2 (hV.wd hnr) h2
  refine ⟨σ3, ?_, F3, fun i hi => by rw [h3 i hi, List.drop_zero]; rfl⟩
  rw [start, e2, k153_102]
  exact e3
end TRN
