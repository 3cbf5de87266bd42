/-! how many assignments a rule has: the class -/
def prL (t : Nat → Int32) : Nat → Int64
  | 0 => 1
  | n + 1 => prL t n * (t n + 1).toInt64
def wdN (nr : Nat) (hc : Bool) : Nat := nr + (if hc = true then 4 else 0)
def tpF (W nr : Nat) (hc : Bool) (os : List (Nat → Int32)) : Nat → Int32 := fun k => if k < wdN nr hc then mkW W else (os.foldl (stepT W) (topI W)) (k - wdN nr hc)
/-- the cells of a rule -/
def RU (σ : jS) (r q1 a1 q2 a2 t u : Nat) : Prop := jT σ r = 6 ∧ jR σ 320 r = some q1 ∧ jR σ 321 r = some q2 ∧ jR σ 322 r = some t ∧ jR σ 323 r = some u ∧ jT σ t = 20 ∧ jN σ t = 11 ∧ jT σ u = 20 ∧ jN σ u = 11 ∧ [r, q1, a1, q2, a2, t, u].Nodup
theorem RU.frame {σ σ' : jS} {l : List Nat} {r q1 a1 q2 a2 t u : Nat} (h : RU σ r q1 a1 q2 a2 t u) (f : FR l σ σ') : RU σ' r q1 a1 q2 a2 t u := by
  obtain ⟨h1, h2, h3, h4, h5, h6, h7, h8, h9, h10⟩ := h
  refine ⟨by rw [f.1.1]; exact h1, by rw [f.1.2.2.1]; exact h2, by rw [f.1.2.2.1]; exact h3, by rw [f.1.2.2.1]; exact h4, by rw [f.1.2.2.1]; exact h5, by rw [f.1.1]; exact h6, by rw [f.1.2.1]; exact h7, by rw [f.1.1]; exact h8, by rw [f.1.2.1]; exact h9, h10⟩
section MEA
variable {d : Nat} {σ : jS} {W : Nat}
theorem c49 {r q1 a1 q2 a2 t u nr nm : Nat} {o1 o2 : List (Nat → Int32)} (hU : RU σ r q1 a1 q2 a2 t u) (h1 : RO σ q1 a1 4 o1) (h2 : RO σ q2 a2 4 o2) (k1 : ∀ o, o ∈ o1 → OPk o) (k2 : ∀ o, o ∈ o2 → OPk o) (hnr : nr ≤ 4) (hnm : nm ≤ 3) (e4 : jI σ 324 r = nI nr) (e5 : jI σ 325 r = nI nm) :
    ∃ σ', jx (d + 4) 49 0 [some (.ref r), some (.int (nI W)), none, none, none, none, none] [] σ = some (some (.long (prL (tpF W nr (o1.any celO || o2.any celO) o1) (wdN nr (o1.any celO || o2.any celO) + nm))), σ') ∧ FR [r, t] σ σ' ∧ (∀ g, g ≠ 330 → g ≠ 326 → g ≠ 327 → jI σ' g r = jI σ g r) ∧ (jI σ' 330 r = if (o1.any celO || o2.any celO) = true then 1 else 0) ∧ jI σ' 326 r = nI (wdN nr (o1.any celO || o2.any celO) + nm) ∧ (∀ k, k < wdN nr (o1.any celO || o2.any celO) + nm → jA σ' t k = tpF W nr (o1.any celO || o2.any celO) o1 k) ∧ (jI σ' 327 r = Int64.toInt32 (if (70001 : Int64) < prL (tpF W nr (o1.any celO || o2.any celO) o1) (wdN nr (o1.any celO || o2.any celO) + nm) then 70001 else prL (tpF W nr (o1.any celO || o2.any celO) o1) (wdN nr (o1.any celO || o2.any celO) + nm))) := by
  obtain ⟨u1, u2, u3, u4, u5, u6, u7, u8, u9, u10⟩ := hU
  simp only [List.nodup_cons, List.mem_cons, List.not_mem_nil, or_false, not_or, List.nodup_nil, not_false_eq_true, and_true] at u10
  obtain ⟨⟨n1, n2, n3, n4, n5, n6⟩, ⟨n7, n8, n9, n10, n11⟩, ⟨n12, n13, n14, n15⟩, ⟨n16, n17, n18⟩, ⟨n19, n20⟩, n21⟩ := u10
  obtain ⟨hc, ehc⟩ : ∃ hc, (o1.any celO || o2.any celO) = hc := ⟨_, rfl⟩
  rw [ehc]
  have rn1 : jR σ 320 r ≠ none := by rw [u2]; exact fun z => nomatch z
  have rg1 : (jR σ 320 r).getD 0 = q1 := by rw [u2]; rfl
  have rn2 : jR σ 321 r ≠ none := by rw [u3]; exact fun z => nomatch z
  have rg2 : (jR σ 321 r).getD 0 = q2 := by rw [u3]; rfl
  have t1 : jT σ q1 = 5 := h1.1.1
  have t2 : jT σ q2 = 5 := h2.1.1
  have b1 := c50 (d := d + 1) h1 k1
  have b2 := c50 (d := d + 1) h2 k2
  obtain ⟨σ1, eσ1⟩ : ∃ σ1, jsI σ 330 r (if hc = true then 1 else 0) = σ1 := ⟨_, rfl⟩
  have F1 : FR [r, t] σ σ1 := eσ1 ▸ (FR.refl _ σ).I (by simp)
  have v1 : ∀ g, jI σ1 g r = if g = 330 then (if hc = true then 1 else 0) else jI σ g r := fun g => by
    rw [← eσ1, zI_I]
    by_cases h : g = 330
    · rw [if_pos ⟨h, rfl⟩, if_pos h]
    · rw [if_neg (fun w => h w.1), if_neg h]
  have e41 : jI σ1 324 r = nI nr := by rw [v1, if_neg (by decide)]; exact e4
  have e51 : jI σ1 325 r = nI nm := by rw [v1, if_neg (by decide)]; exact e5
  have mk : ((1 : Int32) <<< (nI W &&& 31)) - 1 = mkW W := rfl
  have to65 : jx (d + 4) 49 0 [some (.ref r), some (.int (nI W)), none, none, none, none, none] [] σ = jx (d + 4) 49 65 [some (.ref r), some (.int (nI W)), some (.int (mkW W)), some (.int (nI (wdN nr hc))), none, none, none] [.int (nI (wdN nr hc + nm)), .ref r] σ1 := by
    have dn : wdN nr hc + nm ≤ 11 := by unfold wdN; cases hc <;> simp <;> omega
    have hmin : (if (11 : Int32) < nI (wdN nr hc + nm) then 11 else nI (wdN nr hc + nm)) = nI (wdN nr hc + nm) := if_neg (by rw [show (11 : Int32) = nI 11 from rfl, n31 (by decide) (by omega)]; omega)
    have toS : jx (d + 4) 49 0 [some (.ref r), some (.int (nI W)), none, none, none, none, none] [] σ = if hc = true then jx (d + 4) 49 27 [some (.ref r), some (.int (nI W)), some (.int (mkW W)), none, none, none, none] [.ref r] σ else jx (d + 4) 49 31 [some (.ref r), some (.int (nI W)), some (.int (mkW W)), none, none, none, none] [.ref r] σ := by
      rw [k49_0 u1 rn1 (by rw [rg1]; exact t1), rg1, b1, mk]
      simp only [Option.bind_some, Option.toList_some, List.cons_append, List.nil_append]
      rw [k49_14]
      by_cases ha : o1.any celO = true
      · have : hc = true := by rw [← ehc, ha]; rfl
        rw [if_pos ha, if_pos (by decide), if_pos this]
      · rw [if_neg ha, if_neg (fun z => z rfl), k49_17 u1 rn2 (by rw [rg2]; exact t2), rg2, b2]
        simp only [Option.bind_some, Option.toList_some, List.cons_append, List.nil_append]
        rw [k49_24]
        have e2 : hc = o2.any celO := by rw [← ehc, Bool.eq_false_iff.mpr ha, Bool.false_or]
        by_cases hb : o2.any celO = true
        · rw [if_pos hb, if_neg (by decide), if_pos (by rw [e2]; exact hb)]
        · rw [if_neg hb, if_pos rfl, if_neg (by rw [e2]; exact hb)]
    rw [toS]
    cases hc with
    | true =>
      have s1 : jsI σ 330 r 1 = σ1 := eσ1
      have w1 : wdN nr true = nr + 4 := rfl
      have p4 : nI nr + 4 = nI (wdN nr true) := by rw [show (4 : Int32) = nI 4 from rfl, nadd, w1]
      have e330 : jI σ1 330 r = 1 := by rw [v1, if_pos rfl]; rfl
      rw [if_pos rfl, k49_27 u1 u1, s1, e330, if_neg (by decide), k49_46 (by rw [F1.1.1]; exact u1), e4, e51, p4, nadd, c5, hmin]
      rfl
    | false =>
      have s1 : jsI σ 330 r 0 = σ1 := eσ1
      have w1 : wdN nr false = nr := rfl
      have p4 : nI nr + 0 = nI (wdN nr false) := by rw [show (0 : Int32) = nI 0 from rfl, nadd, w1]; rfl
      have e330 : jI σ1 330 r = 0 := by rw [v1, if_pos rfl]; rfl
      rw [if_neg (by decide), k49_31 u1 u1, s1, e330, if_pos rfl, k49_50 (by rw [F1.1.1]; exact u1), e4, e51, p4, nadd, c5, hmin]
      rfl
  obtain ⟨N, eN⟩ : ∃ N, wdN nr hc + nm = N := ⟨_, rfl⟩
  have N11 : N ≤ 11 := by rw [← eN]; unfold wdN; cases hc <;> simp <;> omega
  rw [eN] at to65 ⊢
  obtain ⟨σ2, eσ2⟩ : ∃ σ2, jsI σ1 326 r (nI N) = σ2 := ⟨_, rfl⟩
  have F2 : FR [r, t] σ σ2 := eσ2 ▸ F1.I (by simp)
  have v2 : ∀ g, jI σ2 g r = if g = 326 then nI N else jI σ1 g r := fun g => by
    rw [← eσ2, zI_I]
    by_cases h : g = 326
    · rw [if_pos ⟨h, rfl⟩, if_pos h]
    · rw [if_neg (fun w => h w.1), if_neg h]
  have L : ∀ f n σ3, n + f = N → FR [r, t] σ σ3 → (∀ g, jI σ3 g r = jI σ2 g r) → (∀ k, k < n → jA σ3 t k = tpF W nr hc o1 k) → ∃ σ4, jx (d + 4) 49 74 [some (.ref r), some (.int (nI W)), some (.int (mkW W)), some (.int (nI (wdN nr hc))), some (.long (prL (tpF W nr hc o1) n)), none, some (.int (nI n))] [] σ3 = jx (d + 4) 49 130 [some (.ref r), some (.int (nI W)), some (.int (mkW W)), some (.int (nI (wdN nr hc))), some (.long (prL (tpF W nr hc o1) N)), none, some (.int (nI N))] [] σ4 ∧ FR [r, t] σ σ4 ∧ (∀ g, jI σ4 g r = jI σ2 g r) ∧ (∀ k, k < N → jA σ4 t k = tpF W nr hc o1 k) := by
    intro f
    induction f with
    | zero =>
      intro n σ3 hn F v h
      have nn : n = N := by omega
      subst nn
      refine ⟨σ3, ?_, F, v, h⟩
      rw [k49_74 (by rw [F.1.1]; exact u1), v 326, v2 326, if_pos rfl, if_pos (nI_le (Nat.le_refl _) (by omega))]
    | succ f ih =>
      intro n σ3 hn F v h
      have tr3 : jT σ3 r = 6 := by rw [F.1.1]; exact u1
      have tt3 : jT σ3 t = 20 := by rw [F.1.1]; exact u6
      have nt3 : jN σ3 t = 11 := by rw [F.1.2.1]; exact u7
      have rn3 : jR σ3 322 r ≠ none := by rw [F.1.2.2.1, u4]; exact fun z => nomatch z
      have rg3 : (jR σ3 322 r).getD 0 = t := by rw [F.1.2.2.1, u4]; rfl
      have gn : jin 11 (nI n) := jin_n (by omega) (by decide)
      have qn : (nI n).toNatClampNeg = n := nI_clamp (by omega)
      obtain ⟨σ4, e4', F4, v4, h4⟩ := ih (n + 1) (jsA σ3 t n (tpF W nr hc o1 n)) (by omega) (F.A (by simp)) (fun g => by rw [zA_I]; exact v g) (fun k hk => by
        rw [zA_A]
        by_cases e : k = n
        · rw [if_pos ⟨rfl, e⟩, e]
        · rw [if_neg (fun w => e w.2)]; exact h k (by omega))
      refine ⟨σ4, ?_, F4, v4, h4⟩
      rw [← e4', k49_74 tr3, v 326, v2 326, if_pos rfl, if_neg (nI_ge (by omega) (by omega)), k49_83 tr3 rn3, rg3]
      by_cases hw : n < wdN nr hc
      · have tv' : tpF W nr hc o1 n = mkW W := if_pos hw
        rw [if_neg (nI_ge hw (by omega)), k49_95 tt3 (by rw [nt3]; exact gn) tr3 rn3 (by rw [rg3]; exact Or.inl tt3) (by rw [rg3, nt3]; exact gn), rg3, qn, zA_A, if_pos ⟨rfl, rfl⟩, ← nI_succ, ← tv']
        rfl
      · have tv' : tpF W nr hc o1 n = (o1.foldl (stepT W) (topI W)) (n - wdN nr hc) := if_neg hw
        have R3 : RO σ3 q1 a1 4 o1 := h1.frame F (by simp; exact ⟨fun e => n1 e.symm, n10⟩) (by simp; exact ⟨fun e => n2 e.symm, n14⟩)
        have cm := c53 (d := d) (σ := σ3) (W := W) tr3 (by rw [F.1.2.2.1]; exact u2) R3 k1 (n - wdN nr hc)
        rw [if_pos (nI_le (by omega) (by omega)), k49_99 tr3, nsub (by omega), cm]
        simp only [Option.bind_some, Option.toList_some, List.cons_append, List.nil_append]
        rw [k49_108 tt3 (by rw [nt3]; exact gn) tr3 rn3 (by rw [rg3]; exact Or.inl tt3) (by rw [rg3, nt3]; exact gn), rg3, qn, zA_A, if_pos ⟨rfl, rfl⟩, ← nI_succ, ← tv']
        rfl
  obtain ⟨σ4, e4', F4, v4, h4⟩ := L N 0 σ2 (by omega) F2 (fun _ => rfl) (fun k hk => absurd hk (Nat.not_lt_zero k))
  have c55 : ∀ (P : Int64), jx (d + 3) 55 0 [some (.long P), none, some (.long 70001), none] [] σ4 = some (some (.long (if (70001 : Int64) < P then 70001 else P)), σ4) := by
    intro P
    rw [k55_0]
    by_cases h : (70001 : Int64) < P
    · rw [if_pos (by rw [lgg]; exact h), if_pos h, k55_10]
    · rw [if_neg (by rw [lgg]; exact h), if_neg h, k55_6]
  refine ⟨jsI σ4 327 r (Int64.toInt32 (if (70001 : Int64) < prL (tpF W nr hc o1) N then 70001 else prL (tpF W nr hc o1) N)), ?_, F4.I (by simp), fun g g1 g2 g3 => ?_, ?_, ?_, h4, ?_⟩
  · rw [to65, k49_65 (by rw [F1.1.1]; exact u1), eσ2]
    have e4'' : jx (d + 4) 49 74 [some (.ref r), some (.int (nI W)), some (.int (mkW W)), some (.int (nI (wdN nr hc))), some (.long 1), none, some (.int 0)] [] σ2 = _ := e4'
    rw [e4'', k49_130, c55]
    simp only [Option.bind_some, Option.toList_some, List.cons_append, List.nil_append]
    rw [k49_139 (by rw [F4.1.1]; exact u1)]
  · rw [zI_I, if_neg (fun w => g3 w.1), v4, v2, if_neg g2, v1, if_neg g1]
  · rw [zI_I, if_neg (fun w => absurd w.1 (by decide)), v4, v2, if_neg (by decide), v1, if_pos rfl]
  · rw [zI_I, if_neg (fun w => absurd w.1 (by decide)), v4, v2, if_pos rfl]
  · rw [zI_I, if_pos ⟨rfl, rfl⟩]
end MEA
