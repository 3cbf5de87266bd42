/-! the reference's trial: numbers and sides -/
/-- a rule of the reference as it stands -/
def MR (σ : jS) (r nr nm : Nat) (hc : Bool) (o1 o2 : List (Nat → Int32)) (rg : Nat → Int32) : Prop :=
  jA σ 50 (2 * r) = nI o1.length ∧ jA σ 50 (2 * r + 1) = nI o2.length ∧ o1.length ≤ 4 ∧ o2.length ≤ 4 ∧ jA σ 56 r = nI nr ∧ jA σ 57 r = nI nm ∧ (jA σ 59 r = if hc = true then 1 else 0) ∧ (∀ j, j < nm → jA σ 58 (3 * r + j) = rg j) ∧ (∀ i, i < o1.length → MO σ (8 * r + i) (o1.getD i (fun _ => 0))) ∧ (∀ i, i < o2.length → MO σ (8 * r + 4 + i) (o2.getD i (fun _ => 0)))
theorem MR.frame {σ σ' : jS} {l : List Nat} {r nr nm : Nat} {hc : Bool} {o1 o2 : List (Nat → Int32)} {rg : Nat → Int32} (h : MR σ r nr nm hc o1 o2 rg) (f : FR l σ σ') (hl : ∀ a, 50 ≤ a → a ≤ 59 → a ∉ l) : MR σ' r nr nm hc o1 o2 rg := by
  obtain ⟨h1, h2, h3, h4, h5, h6, h7, h8, h9, h10⟩ := h
  have e := fun a (x : 50 ≤ a) (y : a ≤ 59) => (f.2 a (hl a x y)).2
  refine ⟨by rw [e 50 (by decide) (by decide)]; exact h1, by rw [e 50 (by decide) (by decide)]; exact h2, h3, h4, by rw [e 56 (by decide) (by decide)]; exact h5, by rw [e 57 (by decide) (by decide)]; exact h6, by rw [e 59 (by decide) (by decide)]; exact h7, fun j hj => by rw [e 58 (by decide) (by decide)]; exact h8 j hj, fun i hi => (h9 i hi).fr f (fun a x y => hl a (by omega) (by omega)), fun i hi => (h10 i hi).fr f (fun a x y => hl a (by omega) (by omega))⟩
section TRM
variable {d : Nat} {W : Nat}
theorem c149 {σ : jS} {r nr nm : Nat} {hc : Bool} (hS : SH σ) (hr : r < 24) (e6 : jA σ 56 r = nI nr) (e7 : jA σ 57 r = nI nm) (e9 : jA σ 59 r = if hc = true then 1 else 0) : jx d 149 0 [some (.ref 47), some (.int (nI r))] [] σ = some (some (.int (nI (wdN nr hc + nm))), σ) := by
  have gr : jin 24 (nI r) := jin_n hr (by decide)
  have qr : (nI r).toNatClampNeg = r := nI_clamp (by omega)
  have r1 : (jR σ 651 47).getD 0 = 56 := by rw [sR_651_47 hS]; rfl
  have r2 : (jR σ 652 47).getD 0 = 57 := by rw [sR_652_47 hS]; rfl
  have r4 : (jR σ 654 47).getD 0 = 59 := by rw [sR_654_47 hS]; rfl
  rw [k149_0 (sT_47 hS) (by rw [sR_651_47 hS]; exact fun z => nomatch z) (by rw [r1]; exact Or.inl (sT_56 hS)) (by rw [r1, sN_56 hS]; exact gr) (by rw [sR_654_47 hS]; exact fun z => nomatch z) (by rw [r4]; exact Or.inr (sT_59 hS)) (by rw [r4, sN_59 hS]; exact gr), r1, r4, qr, e6, e9]
  have h2 : jR σ 652 47 ≠ none := by rw [sR_652_47 hS]; exact fun z => nomatch z
  have h3 : jT σ ((jR σ 652 47).getD 0) = 20 ∨ jT σ ((jR σ 652 47).getD 0) = 60 := by rw [r2]; exact Or.inl (sT_57 hS)
  have h4 : jin (jN σ ((jR σ 652 47).getD 0)) (nI r) := by rw [r2, sN_57 hS]; exact gr
  cases hc with
  | true =>
    have i1 : ¬ (if true = true then (1 : Int32) else 0) = 0 := by decide
    rw [if_neg i1, k149_15 (sT_47 hS) h2 h3 h4, r2, qr, e7, show (4 : Int32) = nI 4 from rfl, nadd, nadd]
    rfl
  | false =>
    have i1 : (if false = true then (1 : Int32) else 0) = 0 := rfl
    rw [if_pos i1, k149_19 (sT_47 hS) h2 h3 h4, r2, qr, e7, show (0 : Int32) = nI 0 from rfl, nadd, nadd]
    rfl
theorem c150 {σ : jS} {r nr nm : Nat} {hc : Bool} {rg : Nat → Int32} (hS : SH σ) (hr : r < 24) (hnr : nr ≤ 4) (hnm : nm ≤ 3) (hw : jI σ 640 47 = nI W) (e6 : jA σ 56 r = nI nr) (e9 : jA σ 59 r = if hc = true then 1 else 0) (e8 : ∀ j, j < nm → jA σ 58 (3 * r + j) = rg j) {k : Nat} (hk : k < wdN nr hc + nm) : jx d 150 0 [some (.ref 47), some (.int (nI r)), some (.int (nI k)), none] [] σ = some (some (.int ((if k < wdN nr hc then mkW W else rg (k - wdN nr hc)) + 1)), σ) := by
  have gr : jin 24 (nI r) := jin_n hr (by decide)
  have qr : (nI r).toNatClampNeg = r := nI_clamp (by omega)
  have r1 : (jR σ 651 47).getD 0 = 56 := by rw [sR_651_47 hS]; rfl
  have r3 : (jR σ 653 47).getD 0 = 58 := by rw [sR_653_47 hS]; rfl
  have r4 : (jR σ 654 47).getD 0 = 59 := by rw [sR_654_47 hS]; rfl
  have hwd : wdN nr hc ≤ 8 := by unfold wdN; cases hc <;> simp <;> omega
  have main : jx d 150 0 [some (.ref 47), some (.int (nI r)), some (.int (nI k)), none] [] σ = if nI (wdN nr hc) ≤ nI k then jx d 150 36 [some (.ref 47), some (.int (nI r)), some (.int (nI k)), some (.int (nI (wdN nr hc)))] [] σ else jx d 150 27 [some (.ref 47), some (.int (nI r)), some (.int (nI k)), some (.int (nI (wdN nr hc)))] [] σ := by
    rw [k150_0 (sT_47 hS) (by rw [sR_651_47 hS]; exact fun z => nomatch z) (by rw [r1]; exact Or.inl (sT_56 hS)) (by rw [r1, sN_56 hS]; exact gr) (by rw [sR_654_47 hS]; exact fun z => nomatch z) (by rw [r4]; exact Or.inr (sT_59 hS)) (by rw [r4, sN_59 hS]; exact gr), r1, r4, qr, e6, e9]
    cases hc with
    | true =>
      have i1 : ¬ (if true = true then (1 : Int32) else 0) = 0 := by decide
      have p4 : nI nr + 4 = nI (wdN nr true) := by rw [show (4 : Int32) = nI 4 from rfl, nadd]; rfl
      rw [if_neg i1, k150_15, p4]
    | false =>
      have i1 : (if false = true then (1 : Int32) else 0) = 0 := rfl
      have p4 : nI nr + 0 = nI (wdN nr false) := by rw [show (0 : Int32) = nI 0 from rfl, nadd]; rfl
      rw [if_pos i1, k150_19, p4]
  rw [main]
  by_cases h : k < wdN nr hc
  · have mk : ((1 : Int32) <<< (nI W &&& 31)) = mkW W + 1 := by unfold mkW; rw [Int32.sub_add_cancel]
    rw [if_neg (nI_ge h (by omega)), k150_27 (sT_47 hS), hw, mk, if_pos h]
  · have e3 : (3 : Int32) * nI r + nI k - nI (wdN nr hc) = nI (3 * r + (k - wdN nr hc)) := by
      rw [show (3 : Int32) = nI 3 from rfl, nmul, nadd, nsub (by omega)]
      congr 1
      omega
    rw [if_pos (nI_le (by omega) (by omega)), k150_36 (sT_47 hS) (by rw [sR_653_47 hS]; exact fun z => nomatch z) (by rw [r3]; exact Or.inl (sT_58 hS)) (by rw [r3, sN_58 hS, e3]; exact jin_n (by omega) (by decide)), r3, e3, nI_clamp (by omega), e8 (k - wdN nr hc) (by omega), if_neg h]
/-- the number of an order -/
theorem c154 {σ : jS} {k nr nm row fr N : Nat} {o : Nat → Int32} (hS : SH σ) (hW : W = 1 ∨ W = 2 ∨ W = 3) (hw : jI σ 640 47 = nI W) (hk : k < 192) (hO : MO σ k o) (ho : WFo nr nm o) (hnm : nm ≤ 3) (hn : numN (opO o) = true) (tr : jT σ row = 20) (nr' : jN σ row = N) (hN : fr + nm ≤ N) (hN2 : N < 1000) :
    jx (d + 2) 154 0 [some (.ref 47), some (.int (nI k)), some (.ref row), some (.int (nI fr)), none, none, none] [] σ = some (some (.int (numM W (fun i => jA σ row (fr + i)) o)), σ) := by
  obtain ⟨m1, m2, m3, m4, m5⟩ := hO
  have hop := ho.op
  obtain ⟨kk, k1, k2, k3, k4, k5⟩ := ho
  have ko : opO o = kk := by unfold opO; rw [k2]; exact nI_clamp (by omega)
  have m3 := m3 hn
  have k4 := k4 (by rw [← ko]; exact hn)
  have gk : jin 192 (nI k) := jin_n hk (by decide)
  have qk : (nI k).toNatClampNeg = k := nI_clamp (by omega)
  have e2 : (2 : Int32) * nI k = nI (2 * k) := by rw [show (2 : Int32) = nI 2 from rfl, nmul]
  have e21 : nI (2 * k) + 1 = nI (2 * k + 1) := (nI_succ _).symm
  have g2 : jin 384 (nI (2 * k)) := jin_n (by omega) (by decide)
  have g21 : jin 384 (nI (2 * k + 1)) := jin_n (by omega) (by decide)
  have q2 : (nI (2 * k)).toNatClampNeg = 2 * k := nI_clamp (by omega)
  have q21 : (nI (2 * k + 1)).toNatClampNeg = 2 * k + 1 := nI_clamp (by omega)
  have r46 : (jR σ 646 47).getD 0 = 51 := by rw [sR_646_47 hS]; rfl
  have r48 : (jR σ 648 47).getD 0 = 53 := by rw [sR_648_47 hS]; rfl
  have r49 : (jR σ 649 47).getD 0 = 54 := by rw [sR_649_47 hS]; rfl
  have r50 : (jR σ 650 47).getD 0 = 55 := by rw [sR_650_47 hS]; rfl
  have n46 : jR σ 646 47 ≠ none := by rw [sR_646_47 hS]; exact fun z => nomatch z
  have n48 : jR σ 648 47 ≠ none := by rw [sR_648_47 hS]; exact fun z => nomatch z
  have n49 : jR σ 649 47 ≠ none := by rw [sR_649_47 hS]; exact fun z => nomatch z
  have n50 : jR σ 650 47 ≠ none := by rw [sR_650_47 hS]; exact fun z => nomatch z
  have b50 : jin (jN σ ((jR σ 650 47).getD 0)) (nI k) := by rw [r50, sN_55 hS]; exact gk
  have t50 : jT σ ((jR σ 650 47).getD 0) = 20 ∨ jT σ ((jR σ 650 47).getD 0) = 60 := by rw [r50]; exact Or.inl (sT_55 hS)
  have t46 : jT σ ((jR σ 646 47).getD 0) = 20 ∨ jT σ ((jR σ 646 47).getD 0) = 60 := by rw [r46]; exact Or.inl (sT_51 hS)
  have b46 : jin (jN σ ((jR σ 646 47).getD 0)) (nI k) := by rw [r46, sN_51 hS]; exact gk
  have t49 : jT σ ((jR σ 649 47).getD 0) = 20 ∨ jT σ ((jR σ 649 47).getD 0) = 60 := by rw [r49]; exact Or.inl (sT_54 hS)
  have t47 := sT_47 hS
  obtain ⟨mv, emv⟩ : ∃ mv : Nat → Int32, (fun i => jA σ row (fr + i)) = mv := ⟨_, rfl⟩
  rw [emv]
  have rv : ∀ i, i < nm → jA σ row (fr + i) = mv i := fun i _ => by rw [← emv]
  -- the two terms
  have first : jx (d + 2) 154 0 [some (.ref 47), some (.int (nI k)), some (.ref row), some (.int (nI fr)), none, none, none] [] σ = if o 4 = 0 then jx (d + 2) 154 174 [some (.ref 47), some (.int (nI k)), some (.ref row), some (.int (nI fr)), some (.int (tvV mv (o 2))), some (.int (tvV mv (o 2))), none] [] σ else jx (d + 2) 154 49 [some (.ref 47), some (.int (nI k)), some (.ref row), some (.int (nI fr)), some (.int (tvV mv (o 2))), some (.int (tvV mv (o 2))), none] [] σ := by
    rw [k154_0 t47 n48 (by rw [r48]; exact Or.inr (sT_53 hS)) (by rw [r48, sN_53 hS, e2]; exact g2), r48, e2, q2]
    rcases k4 with ⟨u, hu, eu⟩ | ⟨i, hi, ei⟩
    · have lt : o 2 < 16 := by rw [eu, show (16 : Int32) = nI 16 from rfl, n31 (by omega) (by decide)]; exact hu
      obtain ⟨a, b⟩ := m3.1 lt
      have tv0 : tvV mv (o 2) = o 2 := if_neg (by rw [Int32.not_le]; exact lt)
      rw [a, if_pos rfl, k154_26 t47 n49 t49 (by rw [r49, sN_54 hS, e2]; exact g2) n50 t50 b50, r49, r50, e2, q2, qk, m4, b, tv0]
    · have v := i16n (i := i) (by omega)
      obtain ⟨a, b⟩ := m3.2 (by rw [ei]; exact v.1)
      rw [ei, v.2.2] at b
      have tv0 : tvV mv (o 2) = mv i := by
        unfold tvV nmV
        rw [ei, if_pos v.1, v.2.2, if_neg (fun z => z.elim (nn0 (by omega)) (nI_ge (b := 3) (by omega) (by omega))), nI_clamp (by omega)]
      rw [a, if_neg (by decide), k154_11 t47 n49 t49 (by rw [r49, sN_54 hS, e2]; exact g2) (Or.inl tr) (by rw [nr', r49, e2, q2, b, nadd]; exact jin_n (by omega) (by omega)) n50 t50 b50, r49, r50, e2, q2, qk, m4, b, nadd, nI_clamp (by omega), rv i hi, tv0]
  have ck := fun v => c155 (d := d) hS hW hw hop.1 v
  have b155 : ∀ v : Int32, jx (d + 1) 155 0 [some (.ref 47), some (.int (jA σ 51 k)), some (.int v), none] [] σ = some (some (.int (kpM W (opO o) v)), σ) := by
    intro v
    rw [m1, hop.2]
    exact ck v
  rw [first]
  by_cases h4 : o 4 = 0
  · have s0 : smV (o 4) (tvV mv (o 2)) (tvV mv (o 5)) = tvV mv (o 2) := by rw [h4]; rfl
    rw [if_pos h4, k154_174 t47 n46 t46 b46, r46, qk, b155]
    simp only [Option.bind_some, Option.toList_some, List.cons_append, List.nil_append]
    rw [k154_186]
    unfold numM
    rw [s0]
  · rw [if_neg h4]
    have k5 : isSg (o 4) ∧ WFt nm (o 5) := by
      rcases k5 with k5 | ⟨_, a, b⟩
      · exact absurd k5 h4
      · exact ⟨a, b⟩
    have m5 := m5 h4
    have second : jx (d + 2) 154 49 [some (.ref 47), some (.int (nI k)), some (.ref row), some (.int (nI fr)), some (.int (tvV mv (o 2))), some (.int (tvV mv (o 2))), none] [] σ = if ¬ o 4 = 43 then jx (d + 2) 154 110 [some (.ref 47), some (.int (nI k)), some (.ref row), some (.int (nI fr)), some (.int (tvV mv (o 2))), some (.int (tvV mv (o 2))), some (.int (tvV mv (o 5)))] [] σ else jx (d + 2) 154 102 [some (.ref 47), some (.int (nI k)), some (.ref row), some (.int (nI fr)), some (.int (tvV mv (o 2))), some (.int (tvV mv (o 2))), some (.int (tvV mv (o 5)))] [] σ := by
      rw [k154_49 t47 n48 (by rw [r48]; exact Or.inr (sT_53 hS)) (by rw [r48, sN_53 hS, e2, e21]; exact g21), r48, e2, e21, q21]
      rcases k5.2 with ⟨u, hu, eu⟩ | ⟨i, hi, ei⟩
      · have lt : o 5 < 16 := by rw [eu, show (16 : Int32) = nI 16 from rfl, n31 (by omega) (by decide)]; exact hu
        obtain ⟨a, b⟩ := m5.1 lt
        have tv0 : tvV mv (o 5) = o 5 := if_neg (by rw [Int32.not_le]; exact lt)
        rw [a, if_pos rfl, k154_79 t47 n49 t49 (by rw [r49, sN_54 hS, e2, e21]; exact g21) n50 t50 b50, r49, r50, e2, e21, q21, qk, m4, b, tv0]
      · have v := i16n (i := i) (by omega)
        obtain ⟨a, b⟩ := m5.2 (by rw [ei]; exact v.1)
        rw [ei, v.2.2] at b
        have tv0 : tvV mv (o 5) = mv i := by
          unfold tvV nmV
          rw [ei, if_pos v.1, v.2.2, if_neg (fun z => z.elim (nn0 (by omega)) (nI_ge (b := 3) (by omega) (by omega))), nI_clamp (by omega)]
        rw [a, if_neg (by decide), k154_62 t47 n49 t49 (by rw [r49, sN_54 hS, e2, e21]; exact g21) (Or.inl tr) (by rw [nr', r49, e2, e21, q21, b, nadd]; exact jin_n (by omega) (by omega)) n50 t50 b50, r49, r50, e2, e21, q21, qk, m4, b, nadd, nI_clamp (by omega), rv i hi, tv0]
    rw [second]
    unfold numM
    rcases k5.1 with h | h | h | h | h
    · rw [if_neg (fun z => z h), k154_102 t47 n46 t46 b46, r46, qk, b155]
      simp only [Option.bind_some, Option.toList_some, List.cons_append, List.nil_append]
      rw [k154_186, h]; rfl
    · rw [if_pos (by rw [h]; decide), k154_110 t47 n50 t50 b50, r50, qk, m4, if_neg (fun z => z h), k154_121 t47 n46 t46 b46, r46, qk, b155]
      simp only [Option.bind_some, Option.toList_some, List.cons_append, List.nil_append]
      rw [k154_186, h]; rfl
    · rw [if_pos (by rw [h]; decide), k154_110 t47 n50 t50 b50, r50, qk, m4, if_pos (by rw [h]; decide), k154_129 t47 n50 t50 b50, r50, qk, m4, if_neg (fun z => z h), k154_140 t47 n46 t46 b46, r46, qk, b155]
      simp only [Option.bind_some, Option.toList_some, List.cons_append, List.nil_append]
      rw [k154_186, h]; rfl
    · rw [if_pos (by rw [h]; decide), k154_110 t47 n50 t50 b50, r50, qk, m4, if_pos (by rw [h]; decide), k154_129 t47 n50 t50 b50, r50, qk, m4, if_pos (by rw [h]; decide), k154_148 t47 n50 t50 b50, r50, qk, m4, if_neg (fun z => z h), k154_159 t47 n46 t46 b46, r46, qk, b155]
      simp only [Option.bind_some, Option.toList_some, List.cons_append, List.nil_append]
      rw [k154_186, h]; rfl
    · rw [if_pos (by rw [h]; decide), k154_110 t47 n50 t50 b50, r50, qk, m4, if_pos (by rw [h]; decide), k154_129 t47 n50 t50 b50, r50, qk, m4, if_pos (by rw [h]; decide), k154_148 t47 n50 t50 b50, r50, qk, m4, if_pos (by rw [h]; decide), k154_167 t47 n46 t46 b46, r46, qk, b155]
      simp only [Option.bind_some, Option.toList_some, List.cons_append, List.nil_append]
      rw [k154_186, h]; rfl
end TRM
