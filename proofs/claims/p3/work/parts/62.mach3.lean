/-! the machine: outcome and ran -/
def RO (σ : jS) (q a m : Nat) (os : List (Nat → Int32)) : Prop := RW σ q a m os.length ∧ RC σ q a os
/-- the reference's rows hold this program at p -/
def PM (σ : jS) (p : Nat) (os : List (Nat → Int32)) : Prop := jA σ 65 p = nI os.length ∧ os.length ≤ 24 ∧ ∀ i j, i < os.length → j < 4 → jA σ (66 + j) (24 * p + i) = (os.getD i (fun _ => 0)) j
theorem RO.frame {σ σ' : jS} {l : List Nat} {q a m : Nat} {os : List (Nat → Int32)} (h : RO σ q a m os) (f : FR l σ σ') (hq : q ∉ l) (ha : a ∉ l) : RO σ' q a m os := ⟨h.1.frame f hq, h.2.frame f hq ha⟩
theorem drop_cons {os : List (Nat → Int32)} {n : Nat} (h : n < os.length) : os.drop n = os.getD n (fun _ => 0) :: os.drop (n + 1) := by
  rw [List.drop_eq_getElem_cons h, List.getD_eq_getElem?_getD, List.getElem?_eq_getElem h]
  rfl
theorem mem_getD {os : List (Nat → Int32)} {n : Nat} (h : n < os.length) : os.getD n (fun _ => 0) ∈ os := by
  rw [List.getD_eq_getElem?_getD, List.getElem?_eq_getElem h]
  exact List.getElem_mem h
section MA3
variable {d : Nat} {W : Nat}
theorem c69 {σ : jS} {M m q a most : Nat} {os : List (Nat → Int32)} (tM : jT σ M = 3) (rM : jR σ 128 M = some m) (tm : jT σ m = 20) (nm : jN σ m = 8) (hR : RO σ q a most os) (qm : ¬ q = m) (am : ¬ a = m) (hp : ∀ o, o ∈ os → PWF o) (hW : W = 1 ∨ W = 2 ∨ W = 3) (bits : Int32) :
    ∃ σ', jx (d + 2) 69 0 [some (.ref M), some (.ref q), some (.int bits), some (.int (nI W)), none, none, none, none] [] σ = some (some (.int (pkU W (exL W os (unp W bits)) 8)), σ') ∧ FR [m] σ σ' := by
  obtain ⟨⟨r1, r2, r3, r4, r5, r6, r7, r8⟩, c1, c2⟩ := hR
  have L1 : ∀ f n σ1, n + f = 8 → FR [m] σ σ1 → (∀ i, i < n → jA σ1 m i = unp W bits i) → ∃ σ2, jx (d + 2) 69 10 [some (.ref M), some (.ref q), some (.int bits), some (.int (nI W)), some (.int (mkW W)), some (.int (nI n)), none, none] [] σ1 = jx (d + 2) 69 42 [some (.ref M), some (.ref q), some (.int bits), some (.int (nI W)), some (.int (mkW W)), some (.int (nI 8)), none, none] [] σ2 ∧ FR [m] σ σ2 ∧ ∀ i, i < 8 → jA σ2 m i = unp W bits i := by
    intro f
    induction f with
    | zero =>
      intro n σ1 hn F h
      have n8 : n = 8 := by omega
      subst n8
      refine ⟨σ1, ?_, F, h⟩
      have rg : (jR σ1 128 M).getD 0 = m := by rw [F.1.2.2.1, rM]; rfl
      rw [k69_10 (by rw [F.1.1]; exact tM) (by rw [F.1.2.2.1, rM]; exact fun z => nomatch z) (by rw [rg, F.1.1, tm]; decide), rg, F.1.2.1, nm, if_pos (show Int32.ofNat 8 ≤ nI 8 by decide)]
    | succ f ih =>
      intro n σ1 hn F h
      have rg : (jR σ1 128 M).getD 0 = m := by rw [F.1.2.2.1, rM]; rfl
      have rn : jR σ1 128 M ≠ none := by rw [F.1.2.2.1, rM]; exact fun z => nomatch z
      have tM1 : jT σ1 M = 3 := by rw [F.1.1]; exact tM
      have gt : ¬ Int32.ofNat 8 ≤ nI n := nI_ge (by omega) (by omega)
      obtain ⟨σ2, e2, F2, h2⟩ := ih (n + 1) (jsA σ1 m n (unp W bits n)) (by omega) (F.A (by simp)) (fun i hi => by
        rw [zA_A]
        by_cases e : i = n
        · rw [if_pos ⟨rfl, e⟩, e]
        · rw [if_neg (fun w => e w.2)]; exact h i (by omega))
      refine ⟨σ2, ?_, F2, h2⟩
      rw [← e2, k69_10 tM1 rn (by rw [rg, F.1.1, tm]; decide), rg, F.1.2.1, nm, if_neg gt]
      rw [k69_20 tM1 rn (by rw [rg, F.1.1]; exact tm) (by rw [rg, F.1.2.1, nm]; exact jin_n (by omega) (by decide)), rg, nI_clamp (by omega), ← nI_succ]
      rfl
  have L2 : ∀ f n σ1 w, n + f = os.length → FR [m] σ σ1 → (∀ i, i < 8 → jA σ1 m i = w i) → ∃ σ2, jx (d + 2) 69 61 [some (.ref M), some (.ref q), some (.int bits), some (.int (nI W)), some (.int (mkW W)), some (.int (nI (6 * os.length))), some (.int (nI (6 * n))), none] [] σ1 = jx (d + 2) 69 86 [some (.ref M), some (.ref q), some (.int bits), some (.int (nI W)), some (.int (mkW W)), some (.int (nI (6 * os.length))), some (.int (nI (6 * os.length))), none] [] σ2 ∧ FR [m] σ σ2 ∧ ∀ i, i < 8 → jA σ2 m i = exL W (os.drop n) w i := by
    intro f
    induction f with
    | zero =>
      intro n σ1 w hn F h
      have nn : n = os.length := by omega
      subst nn
      refine ⟨σ1, ?_, F, fun i hi => ?_⟩
      · rw [k69_61, if_pos (nI_le (Nat.le_refl _) (by omega))]
      · rw [List.drop_length]; exact h i hi
    | succ f ih =>
      intro n σ1 w hn F h
      have hlt : n < os.length := by omega
      have hqn : q ∉ [m] := by simpa using qm
      have han : a ∉ [m] := by simpa using am
      obtain ⟨k, x, y, z, h8, e0, e1, e2, e3⟩ := hp _ (mem_getD hlt)
      have rd : ∀ j, j < 6 → jA σ1 a (6 * n + j) = (os.getD n (fun _ => 0)) j := fun j hj => by rw [(F.2 a han).2]; exact c2 n j hlt hj
      obtain ⟨σ2, g1, g2, g3⟩ := c70 (d := d) (σ := σ1) (W := W) (M := M) (m := m) (a := a) (N := 6 * most) (F := 6 * n) (by rw [F.1.1]; exact tM) (by rw [F.1.2.2.1]; exact rM) (by rw [F.1.1]; exact tm) (by rw [F.1.2.1]; exact nm) (by rw [F.1.1]; exact r3) (by rw [F.1.2.1]; exact r4) (by omega) (by omega) am h8 ((rd 0 (by decide)).trans e0) (by rw [rd 1 (by decide), e1]) (by rw [rd 2 (by decide), e2]) (fun _ => by rw [rd 3 (by decide), e3])
      have F2 := F.trans g2
      obtain ⟨σ3, e4, F3, h3⟩ := ih (n + 1) σ2 (exO W w (os.getD n (fun _ => 0))) (by omega) F2 (fun i hi => by
        rw [g3 i, exO_eq h8 e0 e1 e2 e3]
        exact exN_cong h8 h i hi)
      refine ⟨σ3, ?_, F3, fun i hi => ?_⟩
      · rw [← e4, k69_61, if_neg (nI_ge (by omega) (by omega)), k69_68 (by rw [F.1.1]; exact r1) (by rw [F.1.2.2.1, r2]; exact fun z => nomatch z) (by rw [F.1.1]; exact tM)]
        have ra : (jR σ1 258 q).getD 0 = a := by rw [F.1.2.2.1, r2]; rfl
        rw [ra, g1]
        simp only [Option.bind_some, Option.toList_none, List.nil_append]
        rw [k69_80]
        have p6 : nI (6 * n) + 6 = nI (6 * (n + 1)) := by rw [show (6 : Int32) = nI 6 from rfl, nadd]; congr 1
        rw [p6]
      · rw [drop_cons hlt]; exact h3 i hi
  have L3 : ∀ f n σ2, n + f = 8 → FR [m] σ σ2 → jx (d + 2) 69 92 [some (.ref M), some (.ref q), some (.int bits), some (.int (nI W)), some (.int (mkW W)), some (.int (nI (6 * os.length))), some (.int (pkU W (jA σ2 m) n)), some (.int (nI n))] [] σ2 = some (some (.int (pkU W (jA σ2 m) 8)), σ2) := by
    intro f
    induction f with
    | zero =>
      intro n σ2 hn F
      have n8 : n = 8 := by omega
      subst n8
      have rg : (jR σ2 128 M).getD 0 = m := by rw [F.1.2.2.1, rM]; rfl
      rw [k69_92 (by rw [F.1.1]; exact tM) (by rw [F.1.2.2.1, rM]; exact fun z => nomatch z) (by rw [rg, F.1.1, tm]; decide), rg, F.1.2.1, nm, if_pos (show Int32.ofNat 8 ≤ nI 8 by decide), k69_125]
    | succ f ih =>
      intro n σ2 hn F
      have rg : (jR σ2 128 M).getD 0 = m := by rw [F.1.2.2.1, rM]; rfl
      have rn : jR σ2 128 M ≠ none := by rw [F.1.2.2.1, rM]; exact fun z => nomatch z
      have tM1 : jT σ2 M = 3 := by rw [F.1.1]; exact tM
      have gt : ¬ Int32.ofNat 8 ≤ nI n := nI_ge (by omega) (by omega)
      rw [k69_92 tM1 rn (by rw [rg, F.1.1, tm]; decide), rg, F.1.2.1, nm, if_neg gt]
      rw [k69_102 tM1 rn (by rw [rg, F.1.1]; exact Or.inl tm) (by rw [rg, F.1.2.1, nm]; exact jin_n (by omega) (by decide)), rg, nI_clamp (by omega), ← nI_succ]
      exact ih (n + 1) σ2 (by omega) F
  obtain ⟨σ1, e1, F1, h1⟩ := L1 8 0 σ rfl (FR.refl _ σ) (fun i hi => absurd hi (Nat.not_lt_zero i))
  obtain ⟨σ2, e2, F2, h2⟩ := L2 os.length 0 σ1 (unp W bits) (by omega) F1 h1
  have e3 := L3 8 0 σ2 rfl F2
  have hqn : q ∉ [m] := by simpa using qm
  have hmin : (if nI most < nI os.length then nI most else nI os.length) = nI os.length := if_neg (by rw [n31 (by omega) (by omega)]; omega)
  refine ⟨σ2, ?_, F2⟩
  have k1 : jx (d + 2) 69 0 [some (.ref M), some (.ref q), some (.int bits), some (.int (nI W)), none, none, none, none] [] σ = jx (d + 2) 69 42 [some (.ref M), some (.ref q), some (.int bits), some (.int (nI W)), some (.int (mkW W)), some (.int (nI 8)), none, none] [] σ1 := by
    rw [k69_0]; exact e1
  rw [k1, k69_42 (by rw [F1.1.1]; exact r1), (F1.2 q hqn).1, (F1.2 q hqn).1, r6, r5, c5, hmin]
  simp only [Option.bind_some, Option.toList_some, List.cons_append, List.nil_append]
  have m6 : nI os.length * 6 = nI (6 * os.length) := by rw [show (6 : Int32) = nI 6 from rfl, nmul, Nat.mul_comm]
  rw [k69_53, m6]
  have e2' : jx (d + 2) 69 61 [some (.ref M), some (.ref q), some (.int bits), some (.int (nI W)), some (.int (mkW W)), some (.int (nI (6 * os.length))), some (.int 0), none] [] σ1 = jx (d + 2) 69 86 [some (.ref M), some (.ref q), some (.int bits), some (.int (nI W)), some (.int (mkW W)), some (.int (nI (6 * os.length))), some (.int (nI (6 * os.length))), none] [] σ2 := e2
  rw [e2', k69_86]
  have e3' : jx (d + 2) 69 92 [some (.ref M), some (.ref q), some (.int bits), some (.int (nI W)), some (.int (mkW W)), some (.int (nI (6 * os.length))), some (.int 0), some (.int 0)] [] σ2 = some (some (.int (pkU W (jA σ2 m) 8)), σ2) := e3
  rw [e3', pkU_cong 8 h2, List.drop_zero]
theorem c193 {σ : jS} (hS : SH σ) (hW : W = 1 ∨ W = 2 ∨ W = 3) (hw : jI σ 640 47 = nI W) {p : Nat} (hp16 : p < 16) {os : List (Nat → Int32)} (hP : PM σ p os) (hp : ∀ o, o ∈ os → PWF o) (bits : Int32) :
    ∃ σ', jx (d + 1) 193 0 [some (.ref 47), some (.int (nI p)), some (.int bits), none, none, none] [] σ = some (some (.int (pkU W (exL W os (unp W bits)) 8)), σ') ∧ FR [49] σ σ' := by
  obtain ⟨c0, c1, c2⟩ := hP
  have S1 : ∀ σ1, FR [49] σ σ1 → SH σ1 ∧ jI σ1 640 47 = nI W := fun σ1 F => ⟨F.sh hS, by rw [(F.2 47 (by decide)).1]; exact hw⟩
  have L1 : ∀ f n σ1, n + f = 8 → FR [49] σ σ1 → (∀ i, i < n → jA σ1 49 i = unp W bits i) → ∃ σ2, jx (d + 1) 193 12 [some (.ref 47), some (.int (nI p)), some (.int bits), some (.int (mkW W)), some (.int (nI n)), none] [] σ1 = jx (d + 1) 193 43 [some (.ref 47), some (.int (nI p)), some (.int bits), some (.int (mkW W)), some (.int (nI 8)), none] [] σ2 ∧ FR [49] σ σ2 ∧ ∀ i, i < 8 → jA σ2 49 i = unp W bits i := by
    intro f
    induction f with
    | zero =>
      intro n σ1 hn F h
      have n8 : n = 8 := by omega
      subst n8
      exact ⟨σ1, by rw [k193_12, if_pos (by decide)], F, h⟩
    | succ f ih =>
      intro n σ1 hn F h
      obtain ⟨hS1, hw1⟩ := S1 σ1 F
      have rg : (jR σ1 643 47).getD 0 = 49 := by rw [sR_643_47 hS1]; rfl
      have gt : ¬ (8 : Int32) ≤ nI n := nI_ge (b := 8) (by omega) (by omega)
      obtain ⟨σ2, e2, F2, h2⟩ := ih (n + 1) (jsA σ1 49 n (unp W bits n)) (by omega) (F.A (by decide)) (fun i hi => by
        rw [zA_A]
        by_cases e : i = n
        · rw [if_pos ⟨rfl, e⟩, e]
        · rw [if_neg (fun w => e w.2)]; exact h i (by omega))
      refine ⟨σ2, ?_, F2, h2⟩
      rw [← e2, k193_12, if_neg gt, k193_19 (sT_47 hS1) (by rw [sR_643_47 hS1]; exact fun z => nomatch z) (by rw [rg]; exact sT_49 hS1) (by rw [rg, sN_49 hS1]; exact jin_n (by omega) (by decide)), rg, nI_clamp (by omega), ← nI_succ, hw1]
      rfl
  have L2 : ∀ f n σ1 w l5, n + f = os.length → FR [49] σ σ1 → WD W w → (∀ i, i < 8 → jA σ1 49 i = w i) → ∃ σ2 v5, jx (d + 1) 193 46 [some (.ref 47), some (.int (nI p)), some (.int bits), some (.int (mkW W)), some (.int (nI n)), l5] [] σ1 = jx (d + 1) 193 104 [some (.ref 47), some (.int (nI p)), some (.int bits), some (.int (mkW W)), some (.int (nI os.length)), v5] [] σ2 ∧ FR [49] σ σ2 ∧ ∀ i, i < 8 → jA σ2 49 i = exL W (os.drop n) w i := by
    intro f
    induction f with
    | zero =>
      intro n σ1 w l5 hn F hD h
      have nn : n = os.length := by omega
      subst nn
      obtain ⟨hS1, hw1⟩ := S1 σ1 F
      have rg : (jR σ1 661 47).getD 0 = 65 := by rw [sR_661_47 hS1]; rfl
      refine ⟨σ1, l5, ?_, F, fun i hi => ?_⟩
      · rw [k193_46 (sT_47 hS1) (by rw [sR_661_47 hS1]; exact fun z => nomatch z) (by rw [rg]; exact Or.inl (sT_65 hS1)) (by rw [rg, sN_65 hS1]; exact jin_n hp16 (by decide)), rg, nI_clamp (by omega), (F.2 65 (by decide)).2, c0, if_pos (nI_le (Nat.le_refl _) (by omega))]
      · rw [List.drop_length]; exact h i hi
    | succ f ih =>
      intro n σ1 w l5 hn F hD h
      have hlt : n < os.length := by omega
      obtain ⟨hS1, hw1⟩ := S1 σ1 F
      have rg : (jR σ1 661 47).getD 0 = 65 := by rw [sR_661_47 hS1]; rfl
      obtain ⟨k, x, y, z, h8, e0, e1, e2, e3⟩ := hp _ (mem_getD hlt)
      have rd : ∀ j, j < 4 → jA σ1 (66 + j) (24 * p + n) = (os.getD n (fun _ => 0)) j := fun j hj => by rw [(F.2 (66 + j) (by simp; omega)).2]; exact c2 n j hlt hj
      have hk24 : (24 : Int32) * nI p + nI n = nI (24 * p + n) := by rw [show (24 : Int32) = nI 24 from rfl, nmul, nadd]
      have g24 : jin 384 (nI (24 * p + n)) := jin_n (by omega) (by decide)
      have q24 : (nI (24 * p + n)).toNatClampNeg = 24 * p + n := nI_clamp (by omega)
      have D1 : WD W (jA σ1 49) := hD.cong h
      obtain ⟨σ2, g1, g2, g3⟩ := c157 (d := d) hS1 hW hw1 h8 D1
      have F2 := F.trans g2
      obtain ⟨σ3, v5, e4, F3, h3⟩ := ih (n + 1) σ2 (exO W w (os.getD n (fun _ => 0))) (some (.int (nI (24 * p + n)))) (by omega) F2 (hD.exO hW (hp _ (mem_getD hlt))) (fun i hi => by
        rw [g3 i, exO_eq h8 e0 e1 e2 e3]
        exact exN_cong h8 h i hi)
      refine ⟨σ3, v5, ?_, F3, fun i hi => ?_⟩
      · rw [← e4, k193_46 (sT_47 hS1) (by rw [sR_661_47 hS1]; exact fun z => nomatch z) (by rw [rg]; exact Or.inl (sT_65 hS1)) (by rw [rg, sN_65 hS1]; exact jin_n hp16 (by decide)), rg, nI_clamp (by omega), (F.2 65 (by decide)).2, c0, if_neg (nI_ge (by omega) (by omega))]
        have r66 : (jR σ1 662 47).getD 0 = 66 := by rw [sR_662_47 hS1]; rfl
        have r67 : (jR σ1 663 47).getD 0 = 67 := by rw [sR_663_47 hS1]; rfl
        have r68 : (jR σ1 664 47).getD 0 = 68 := by rw [sR_664_47 hS1]; rfl
        have r69 : (jR σ1 665 47).getD 0 = 69 := by rw [sR_665_47 hS1]; rfl
        rw [k193_57 (sT_47 hS1) (by rw [sR_662_47 hS1]; exact fun z => nomatch z) (by rw [r66]; exact Or.inl (sT_66 hS1)) (by rw [r66, sN_66 hS1, hk24]; exact g24) (by rw [sR_663_47 hS1]; exact fun z => nomatch z) (by rw [r67]; exact Or.inl (sT_67 hS1)) (by rw [r67, sN_67 hS1, hk24]; exact g24) (by rw [sR_664_47 hS1]; exact fun z => nomatch z) (by rw [r68]; exact Or.inl (sT_68 hS1)) (by rw [r68, sN_68 hS1, hk24]; exact g24) (by rw [sR_665_47 hS1]; exact fun z => nomatch z) (by rw [r69]; exact Or.inl (sT_69 hS1)) (by rw [r69, sN_69 hS1, hk24]; exact g24)]
        rw [r66, r67, r68, r69, hk24, q24, rd 0 (by decide), rd 1 (by decide), rd 2 (by decide), rd 3 (by decide), e0, e1, e2, e3, g1]
        simp only [Option.bind_some, Option.toList_none, List.nil_append]
        rw [k193_98, ← nI_succ]
      · rw [drop_cons hlt]; exact h3 i hi
  have L3 : ∀ f n σ2 v4, n + f = 8 → FR [49] σ σ2 → v4 = pkD W (jA σ2 49) n → jx (d + 1) 193 111 [some (.ref 47), some (.int (nI p)), some (.int bits), some (.int (mkW W)), some (.int v4), some (.int (7 - nI n))] [] σ2 = some (some (.int (pkD W (jA σ2 49) 8)), σ2) := by
    intro f
    induction f with
    | zero =>
      intro n σ2 v4 hn F e
      have n8 : n = 8 := by omega
      subst n8
      rw [k193_111, if_pos (by decide), k193_139, e]
    | succ f ih =>
      intro n σ2 v4 hn F e
      obtain ⟨hS1, hw1⟩ := S1 σ2 F
      have rg : (jR σ2 643 47).getD 0 = 49 := by rw [sR_643_47 hS1]; rfl
      have s7 : (7 : Int32) - nI n = nI (7 - n) := by rw [show (7 : Int32) = nI 7 from rfl, nsub (by omega)]
      have ng : ¬ nI (7 - n) < 0 := by
        rw [Int32.lt_iff_toInt_lt, nI_toInt (by omega)]
        have : (0 : Int32).toInt = 0 := rfl
        omega
      have nx : nI (7 - n) + (-1) = 7 - nI (n + 1) := by
        rw [← s7, nI_succ]
        rw [Int32.sub_eq_add_neg, Int32.sub_eq_add_neg, Int32.neg_add, Int32.add_assoc, Int32.sub_eq_add_neg]
      rw [s7, k193_111, if_neg ng, k193_116 (sT_47 hS1) (by rw [sR_643_47 hS1]; exact fun z => nomatch z) (by rw [rg]; exact Or.inl (sT_49 hS1)) (by rw [rg, sN_49 hS1]; exact jin_n (by omega) (by decide)), rg, nI_clamp (by omega), hw1, nx]
      refine ih (n + 1) σ2 _ (by omega) F ?_
      rw [e]
      rfl
  obtain ⟨σ1, e1, F1, h1⟩ := L1 8 0 σ rfl (FR.refl _ σ) (fun i hi => absurd hi (Nat.not_lt_zero i))
  obtain ⟨σ2, v5, e2, F2, h2⟩ := L2 os.length 0 σ1 (unp W bits) none (by omega) F1 (unp_WD hW bits) h1
  have e3 := L3 8 0 σ2 0 rfl F2 rfl
  refine ⟨σ2, ?_, F2⟩
  have k1 : jx (d + 1) 193 0 [some (.ref 47), some (.int (nI p)), some (.int bits), none, none, none] [] σ = jx (d + 1) 193 43 [some (.ref 47), some (.int (nI p)), some (.int bits), some (.int (mkW W)), some (.int (nI 8)), none] [] σ1 := by
    rw [k193_0 (sT_47 hS), hw]; exact e1
  have D2 : WD W (jA σ2 49) := (WD.exL hW os _ (unp_WD hW bits) hp).cong (fun i hi => by rw [h2 i hi, List.drop_zero])
  rw [k1, k193_43]
  have e2' : jx (d + 1) 193 46 [some (.ref 47), some (.int (nI p)), some (.int bits), some (.int (mkW W)), some (.int 0), none] [] σ1 = jx (d + 1) 193 104 [some (.ref 47), some (.int (nI p)), some (.int bits), some (.int (mkW W)), some (.int (nI os.length)), v5] [] σ2 := e2
  rw [e2', k193_104]
  have e3' : jx (d + 1) 193 111 [some (.ref 47), some (.int (nI p)), some (.int bits), some (.int (mkW W)), some (.int 0), some (.int 7)] [] σ2 = some (some (.int (pkD W (jA σ2 49) 8)), σ2) := e3
  rw [e3', ← pk_same hW D2, pkU_cong 8 h2, List.drop_zero]
end MA3
