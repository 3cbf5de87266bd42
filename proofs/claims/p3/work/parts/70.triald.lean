/-! the class's trial: words, goOn, gain -/
theorem pkU_zero {W : Nat} {w : Nat → Int32} {n : Nat} : ∀ m, (∀ i, n ≤ i → i < n + m → w i = 0) → pkU W w (n + m) = pkU W w n := by
  intro m
  induction m with
  | zero => intro _; rfl
  | succ m ih =>
    intro h
    show pkU W w (n + m) ||| (w (n + m) <<< _) = _
    rw [ih (fun i h1 h2 => h i h1 (by omega)), h (n + m) (by omega) (by omega), Int32.zero_shiftLeft, Int32.or_zero]
theorem prcL_keep {W : Nat} : ∀ (os : List (Nat → Int32)) (a : Int32), prcL (os.map (keepF W)) a = prcL os a := by
  intro os
  induction os with
  | nil => intro a; rfl
  | cons o os ih =>
    intro a
    show prcL (os.map (keepF W)) (a + nI (priN (opO (keepF W o)))) = prcL os (a + nI (priN (opO o)))
    rw [(keep_op W o).2.1]
    exact ih _
section TRD
variable {d : Nat} {W : Nat}
theorem c68 {σ : jS} {r nr nm : Nat} {hc : Bool} {v : Nat → Int32} (hS : SH σ) (tr : jT σ r = 6) (e4 : jI σ 324 r = nI nr) (e0 : jI σ 330 r = if hc = true then 1 else 0) (hnr : nr ≤ 4) (hv : ∀ k, k < 11 → jA σ 37 k = v k) :
    jx d 68 0 [some (.ref 27), some (.ref r), some (.int (nI W)), none, none] [] σ = some (some (.int (pkU W (w0F nr hc v) 8)), σ) := by
  have rg : (jR σ 516 27).getD 0 = 37 := by rw [sR_516_27 hS]; rfl
  have rn : jR σ 516 27 ≠ none := by rw [sR_516_27 hS]; exact fun z => nomatch z
  have L1 : ∀ f n, n + f = nr → jx d 68 5 [some (.ref 27), some (.ref r), some (.int (nI W)), some (.int (pkU W (w0F nr hc v) n)), some (.int (nI n))] [] σ = jx d 68 41 [some (.ref 27), some (.ref r), some (.int (nI W)), some (.int (pkU W (w0F nr hc v) nr)), some (.int (nI nr))] [] σ := by
    intro f
    induction f with
    | zero =>
      intro n hn
      have e : n = nr := by omega
      subst e
      rw [k68_5 tr, e4, if_pos (nI_le (Nat.le_refl _) (by omega))]
    | succ f ih =>
      intro n hn
      have g4 : ¬ (4 : Int32) ≤ nI n := nI_ge (b := 4) (by omega) (by omega)
      have ew : w0F nr hc v n = v n := if_pos (by omega)
      rw [k68_5 tr, e4, if_neg (nI_ge (by omega) (by omega)), k68_14, if_neg g4, k68_20 (sT_27 hS) rn (by rw [rg]; exact Or.inl (sT_37 hS)) (by rw [rg, sN_37 hS]; exact jin_n (by omega) (by decide)), rg, nI_clamp (by omega), hv n (by omega), ← ew, ← nI_succ]
      exact ih (n + 1) (by omega)
  have z4 : pkU W (w0F nr hc v) 4 = pkU W (w0F nr hc v) nr := by
    have := pkU_zero (W := W) (w := w0F nr hc v) (n := nr) (4 - nr) (fun i h1 h2 => by
      unfold w0F
      rw [if_neg (by omega), if_neg (fun z => by omega)])
    rw [show nr + (4 - nr) = 4 by omega] at this
    exact this
  have s1 := L1 nr 0 (by omega)
  have s1' : jx d 68 5 [some (.ref 27), some (.ref r), some (.int (nI W)), some (.int 0), some (.int 0)] [] σ = _ := s1
  rw [k68_0, s1', k68_41, ← z4]
  cases hc with
  | false =>
    have e0' : jI σ 330 r = 0 := e0
    have z8 : pkU W (w0F nr false v) 8 = pkU W (w0F nr false v) 4 := pkU_zero (n := 4) 4 (fun i h1 h2 => by
      unfold w0F
      rw [if_neg (by omega), if_neg (fun z => absurd z.2 (by decide))])
    rw [k68_44 tr, e0', if_pos rfl, k68_100, z8]
  | true =>
    have e0' : jI σ 330 r = 1 := e0
    have L2 : ∀ f n, n + f = 4 → jx d 68 44 [some (.ref 27), some (.ref r), some (.int (nI W)), some (.int (pkU W (w0F nr true v) (4 + n))), some (.int (nI n))] [] σ = some (some (.int (pkU W (w0F nr true v) 8)), σ) := by
      intro f
      induction f with
      | zero =>
        intro n hn
        have e : n = 4 := by omega
        subst e
        rw [k68_44 tr, e0', if_neg (by decide), k68_51, if_pos (show (4 : Int32) ≤ nI 4 by decide), k68_100]
      | succ f ih =>
        intro n hn
        have g4 : ¬ (4 : Int32) ≤ nI n := nI_ge (b := 4) (by omega) (by omega)
        have g11 : ¬ Int32.ofNat 11 ≤ nI (nr + n) := nI_ge (by omega) (by omega)
        have ew : w0F nr true v (4 + n) = v (nr + n) := by
          unfold w0F
          rw [if_neg (by omega), if_pos ⟨by omega, rfl⟩]
          congr 1
          omega
        have p4 : (4 : Int32) + nI n = nI (4 + n) := by rw [show (4 : Int32) = nI 4 from rfl, nadd]
        rw [k68_44 tr, e0', if_neg (by decide), k68_51, if_neg g4, k68_57 tr (sT_27 hS) rn (by rw [rg, sT_37 hS]; decide), rg, sN_37 hS, e4, nadd, if_neg g11]
        rw [k68_72 (sT_27 hS) rn tr (by rw [rg]; exact Or.inl (sT_37 hS)) (by rw [rg, sN_37 hS, e4, nadd]; exact jin_n (by omega) (by decide)), rg, e4, nadd, nI_clamp (by omega), hv (nr + n) (by omega), ← ew, ← nI_succ, p4]
        exact ih (n + 1) (by omega)
    exact L2 4 0 rfl
theorem c72 {σ : jS} {r t wd N : Nat} {tp v : Nat → Int32} (hS : SH σ) (tr : jT σ r = 6) (rt : jR σ 322 r = some t) (tt : jT σ t = 20) (nt : jN σ t = 11) (ht : 81 ≤ t) (e6 : jI σ 326 r = nI N) (hN : N ≤ 11) (htp : ∀ k, k < N → jA σ t k = tp k) (hr : 81 ≤ r) (hV : VB W wd N tp v) (hv : ∀ k, k < 11 → jA σ 37 k = v k) :
    ∃ σ', jx (d + 1) 72 0 [some (.ref 27), some (.ref r), none] [] σ = some (none, σ') ∧ FR [37] σ σ' ∧ ∀ k, k < 11 → jA σ' 37 k = odo tp N v k := by
  have L : ∀ n w σ1, n ≤ N → FR [37] σ σ1 → VB W wd N tp w → (∀ k, k < 11 → jA σ1 37 k = w k) → ∃ σ', jx (d + 1) 72 15 [some (.ref 27), some (.ref r), some (.int (nI n - 1))] [] σ1 = some (none, σ') ∧ FR [37] σ σ' ∧ ∀ k, k < 11 → jA σ' 37 k = odo tp n w k := by
    intro n
    induction n with
    | zero =>
      intro w σ1 hn F hVw hw
      refine ⟨σ1, ?_, F, hw⟩
      rw [k72_15, if_pos (by decide), k72_58]
    | succ n ih =>
      intro w σ1 hn F hVw hw
      have hS1 := F.sh hS
      have rg : (jR σ1 516 27).getD 0 = 37 := by rw [sR_516_27 hS1]; rfl
      have rn : jR σ1 516 27 ≠ none := by rw [sR_516_27 hS1]; exact fun z => nomatch z
      have rg2 : (jR σ1 322 r).getD 0 = t := by rw [F.1.2.2.1, rt]; rfl
      have rn2 : jR σ1 322 r ≠ none := by rw [F.1.2.2.1, rt]; exact fun z => nomatch z
      have e1 : nI (n + 1) - 1 = nI n := by rw [show (1 : Int32) = nI 1 from rfl, nsub (by omega)]; rfl
      have tn : jA σ1 t n = tp n := by rw [(F.2 t (by simp; omega)).2]; exact htp n (by omega)
      have wn : jA σ1 37 n = w n := hw n (by omega)
      have gn : jin 11 (nI n) := jin_n (by omega) (by decide)
      have qn : (nI n).toNatClampNeg = n := nI_clamp (by omega)
      have st : ∀ x : Int32, ∀ k, k < 11 → jA (jsA σ1 37 n x) 37 k = up6 w n x k := by
        intro x k hk
        rw [zA_A]
        unfold up6
        by_cases q : k = n
        · rw [if_pos ⟨rfl, q⟩, if_pos q]
        · rw [if_neg (fun z => q z.2), if_neg q]; exact hw k hk
      rw [e1, k72_15, if_neg (nn0 (by omega)), k72_19 (sT_27 hS1) rn (by rw [rg]; exact Or.inl (sT_37 hS1)) (by rw [rg, sN_37 hS1]; exact gn) (by rw [F.1.1]; exact tr) rn2 (by rw [rg2, F.1.1]; exact Or.inl tt) (by rw [rg2, F.1.2.1, nt]; exact gn), rg, rg2, qn, tn, wn]
      show ∃ σ', _ ∧ _ ∧ ∀ k, k < 11 → jA σ' 37 k = (if w n = tp n then odo tp n (up6 w n 0) else up6 w n (w n + 1)) k
      by_cases q : w n = tp n
      · have le : tp n ≤ w n := (hVw.le (by omega)).mpr q
        obtain ⟨σ', e', F', h'⟩ := ih (up6 w n 0) (jsA σ1 37 n 0) (by omega) (F.A (by simp)) (hVw.up0 n) (st 0)
        refine ⟨σ', ?_, F', fun k hk => by rw [if_pos q]; exact h' k hk⟩
        have em : nI n + (-1) = nI n - 1 := by rw [Int32.sub_eq_add_neg]
        rw [if_pos le, k72_45 (sT_27 hS1) rn (by rw [rg]; exact sT_37 hS1) (by rw [rg, sN_37 hS1]; exact gn), rg, qn, em]
        exact e'
      · have le : ¬ tp n ≤ w n := fun z => q ((hVw.le (by omega)).mp z)
        refine ⟨jsA σ1 37 n (w n + 1), ?_, F.A (by simp), fun k hk => by rw [if_neg q]; exact st _ k hk⟩
        rw [if_neg le, k72_34 (sT_27 hS1) rn (by rw [rg]; exact Or.inl (sT_37 hS1)) (by rw [rg, sN_37 hS1]; exact gn) (by rw [rg]; exact sT_37 hS1), rg, qn, wn]
  obtain ⟨σ', e', F', h'⟩ := L N v σ (Nat.le_refl _) (FR.refl _ σ) hV hv
  have rg : (jR σ 516 27).getD 0 = 37 := by rw [sR_516_27 hS]; rfl
  have mn : (if Int32.ofNat 11 < nI N then Int32.ofNat 11 else nI N) = nI N := if_neg (by rw [show Int32.ofNat 11 = nI 11 from rfl, n31 (by decide) (by omega)]; omega)
  refine ⟨σ', ?_, F', h'⟩
  rw [k72_0 tr (sT_27 hS) (by rw [sR_516_27 hS]; exact fun z => nomatch z) (by rw [rg, sT_37 hS]; decide), rg, sN_37 hS, e6, c5, mn]
  simp only [Option.bind_some, Option.toList_some, List.cons_append, List.nil_append]
  rw [k72_12]
  exact e'
theorem c73 {σ : jS} {r q1 a1 q2 a2 t u : Nat} {c1 c2 : List (Nat → Int32)} (hS : SH σ) (hQ : ST σ) (hU : RU σ r q1 a1 q2 a2 t u) (h1 : RO σ q1 a1 4 c1) (h2 : RO σ q2 a2 4 c2) (k1 : ∀ o, o ∈ c1 → OPk o) (k2 : ∀ o, o ∈ c2 → OPk o) : jx (d + 3) 73 0 [some (.ref r)] [] σ = some (some (.int (prcL c1 0 - prcL c2 0)), σ) := by
  have r1 : (jR σ 320 r).getD 0 = q1 := by rw [hU.2.1]; rfl
  have r2 : (jR σ 321 r).getD 0 = q2 := by rw [hU.2.2.1]; rfl
  rw [k73_0 hU.1 (by rw [hU.2.1]; exact fun z => nomatch z) (by rw [r1]; exact h1.1.1), r1, c74 h1 hS hQ k1]
  simp only [Option.bind_some, Option.toList_some, List.cons_append, List.nil_append]
  rw [k73_7 hU.1 (by rw [hU.2.2.1]; exact fun z => nomatch z) (by rw [r2]; exact h2.1.1), r2, c74 h2 hS hQ k2]
  simp only [Option.bind_some, Option.toList_some, List.cons_append, List.nil_append]
  rw [k73_14]
end TRD
