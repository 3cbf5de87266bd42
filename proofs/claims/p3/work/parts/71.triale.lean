/-! the class's trial whole -/
/-- a rule of the class as it stands, before its trial -/
def CR (σ : jS) (W r q1 a1 q2 a2 t u nr nm : Nat) (hc : Bool) (o1 o2 : List (Nat → Int32)) (tp : Nat → Int32) : Prop :=
  RU σ r q1 a1 q2 a2 t u ∧ (∀ x, x ∈ [r, q1, a1, q2, a2, t, u] → 81 ≤ x) ∧ RO σ q1 a1 4 (o1.map (keepF W)) ∧ RO σ q2 a2 4 (o2.map (keepF W)) ∧ jI σ 324 r = nI nr ∧ jI σ 325 r = nI nm ∧ jI σ 326 r = nI (wdN nr hc + nm) ∧ (jI σ 330 r = if hc = true then 1 else 0) ∧ (∀ k, k < wdN nr hc + nm → jA σ t k = tp k)
theorem CR.frame {σ σ' : jS} {l : List Nat} {W r q1 a1 q2 a2 t u nr nm : Nat} {hc : Bool} {o1 o2 : List (Nat → Int32)} {tp : Nat → Int32} (h : CR σ W r q1 a1 q2 a2 t u nr nm hc o1 o2 tp) (f : FR l σ σ') (hn : ∀ x, x ∈ [q1, a1, q2, a2, t] → x ∉ l) (hr : ∀ g, g ≠ 328 → g ≠ 331 → jI σ' g r = jI σ g r) : CR σ' W r q1 a1 q2 a2 t u nr nm hc o1 o2 tp := by
  obtain ⟨h1, h2, h3, h4, h5, h6, h7, h8, h9⟩ := h
  exact ⟨h1.frame f, h2, h3.frame f (hn q1 (by simp)) (hn a1 (by simp)), h4.frame f (hn q2 (by simp)) (hn a2 (by simp)), by rw [hr 324 (by decide) (by decide)]; exact h5, by rw [hr 325 (by decide) (by decide)]; exact h6, by rw [hr 326 (by decide) (by decide)]; exact h7, by rw [hr 330 (by decide) (by decide)]; exact h8, fun k hk => by rw [(f.2 t (hn t (by simp))).2]; exact h9 k hk⟩
theorem map_op {W nr nm : Nat} {os : List (Nat → Int32)} (h : ∀ o, o ∈ os → WFo nr nm o) : ∀ c, c ∈ os.map (keepF W) → OPk c := by
  intro c hc
  obtain ⟨o, ho, eo⟩ := List.mem_map.mp hc
  have q := (h o ho).op
  have k := keep_op W o
  rw [← eo]
  exact ⟨by rw [k.2.1]; exact q.1, by rw [k.1, k.2.1]; exact q.2⟩
def trL (r u : Nat) : List Nat := [r, u, 29, 30, 31, 32, 33, 35, 36, 37]
theorem trL_out {r q1 a1 q2 a2 t u : Nat} (h : [r, q1, a1, q2, a2, t, u].Nodup) (hbig : ∀ x, x ∈ [r, q1, a1, q2, a2, t, u] → 81 ≤ x) : ∀ x, x ∈ [q1, a1, q2, a2, t] → x ∉ trL r u := by
  intro x hx
  have hb : 81 ≤ x := hbig x (by simp at hx; simp; omega)
  have hne : x ≠ r ∧ x ≠ u := by
    simp only [List.nodup_cons, List.mem_cons, List.not_mem_nil, or_false, not_or, List.nodup_nil, not_false_eq_true, and_true] at h
    obtain ⟨⟨d1, d2, d3, d4, d5, d6⟩, ⟨d7, d8, d9, d10, d11⟩, ⟨d12, d13, d14, d15⟩, ⟨d16, d17, d18⟩, ⟨d19, d20⟩, d21⟩ := h
    simp only [List.mem_cons, List.not_mem_nil, or_false] at hx
    rcases hx with e | e | e | e | e
    · rw [e]; exact ⟨fun z => d1 z.symm, d11⟩
    · rw [e]; exact ⟨fun z => d2 z.symm, d15⟩
    · rw [e]; exact ⟨fun z => d3 z.symm, d18⟩
    · rw [e]; exact ⟨fun z => d4 z.symm, d20⟩
    · rw [e]; exact ⟨fun z => d5 z.symm, d21⟩
  simp only [trL, List.mem_cons, List.not_mem_nil, or_false, not_or]
  refine ⟨hne.1, hne.2, ?_⟩
  omega
section TRE
variable {d : Nat} {W : Nat}
theorem c57 {σ : jS} {r q1 a1 q2 a2 t u nr nm n1 n2 : Nat} {hc : Bool} {o1 o2 : List (Nat → Int32)} {tp : Nat → Int32} (hS : SH σ) (hQ : ST σ) (hC : CR σ W r q1 a1 q2 a2 t u nr nm hc o1 o2 tp) (hnr : nr ≤ 4) (hnm : nm ≤ 3) (f1 : ∀ o, o ∈ o1 → WFo nr nm o) (f2 : ∀ o, o ∈ o2 → WFo nr nm o) (w1 : RW σ 30 31 4 n1) (w2 : RW σ 32 33 4 n2) :
    ∃ σ', jx (d + 4) 57 0 [some (.ref 27), some (.ref r), some (.int (nI W)), none] [] σ = some (none, σ') ∧ FR [30, 31, 32, 33, 35, 36, 37] σ σ' ∧ (∀ k, k < 11 → jA σ' 37 k = 0) ∧ (∀ i, i < 4 → jA σ' 35 i = nI i) ∧ ∃ mv, RO σ' 30 31 4 ((o1.map (keepF W)).map (wrO W (jA σ' 35) mv)) ∧ RO σ' 32 33 4 ((o2.map (keepF W)).map (wrO W (jA σ' 35) mv)) ∧ (∀ i, i < nm → mv i = 0) := by
  have hC0 := hC
  obtain ⟨hU, hbig, h1, h2, e4, e5, e6, e0, htp⟩ := hC
  have br : 81 ≤ r := hbig r (by simp)
  have bq1 : 81 ≤ q1 := hbig q1 (by simp)
  have ba1 : 81 ≤ a1 := hbig a1 (by simp)
  have bq2 : 81 ≤ q2 := hbig q2 (by simp)
  have ba2 : 81 ≤ a2 := hbig a2 (by simp)
  have bt : 81 ≤ t := hbig t (by simp)
  have hN : wdN nr hc + nm ≤ 11 := by unfold wdN; cases hc <;> simp <;> omega
  have L : ∀ f n σ1, n + f = 11 → FR [37] σ σ1 → (∀ k, k < n → jA σ1 37 k = 0) → ∃ σ2, jx (d + 4) 57 2 [some (.ref 27), some (.ref r), some (.int (nI W)), some (.int (nI n))] [] σ1 = jx (d + 4) 57 24 [some (.ref 27), some (.ref r), some (.int (nI W)), some (.int (nI 11))] [] σ2 ∧ FR [37] σ σ2 ∧ ∀ k, k < 11 → jA σ2 37 k = 0 := by
    intro f
    induction f with
    | zero =>
      intro n σ1 hn F h
      have e : n = 11 := by omega
      subst e
      have hS1 := F.sh hS
      have rg : (jR σ1 516 27).getD 0 = 37 := by rw [sR_516_27 hS1]; rfl
      refine ⟨σ1, ?_, F, h⟩
      rw [k57_2 (sT_27 hS1) (by rw [sR_516_27 hS1]; exact fun z => nomatch z) (by rw [rg, sT_37 hS1]; decide), rg, sN_37 hS1, if_pos (show Int32.ofNat 11 ≤ nI 11 by decide)]
    | succ f ih =>
      intro n σ1 hn F h
      have hS1 := F.sh hS
      have rg : (jR σ1 516 27).getD 0 = 37 := by rw [sR_516_27 hS1]; rfl
      have rn : jR σ1 516 27 ≠ none := by rw [sR_516_27 hS1]; exact fun z => nomatch z
      have gt : ¬ Int32.ofNat 11 ≤ nI n := nI_ge (by omega) (by omega)
      obtain ⟨σ2, e2, F2, h2'⟩ := ih (n + 1) (jsA σ1 37 n 0) (by omega) (F.A (by simp)) (fun k hk => by
        rw [zA_A]
        by_cases q : k = n
        · rw [if_pos ⟨rfl, q⟩]
        · rw [if_neg (fun z => q z.2)]; exact h k (by omega))
      refine ⟨σ2, ?_, F2, h2'⟩
      rw [← e2, k57_2 (sT_27 hS1) rn (by rw [rg, sT_37 hS1]; decide), rg, sN_37 hS1, if_neg gt, k57_11 (sT_27 hS1) rn (by rw [rg]; exact sT_37 hS1) (by rw [rg, sN_37 hS1]; exact jin_n (by omega) (by decide)), rg, nI_clamp (by omega), ← nI_succ]
  obtain ⟨σ2, e2, F2, z2⟩ := L 11 0 σ rfl (FR.refl _ σ) (fun k hk => absurd hk (Nat.not_lt_zero k))
  have hS2 := F2.sh hS
  obtain ⟨σ3, e3, F3, z3⟩ := c58 (d := d + 3) (BD34 hS2) (by decide)
  have F23 : FR [35, 37] σ σ3 := (F2.mono (by decide)).trans (F3.mono (by decide))
  have hS3 := F23.sh hS
  have hQ3 := F23.st (by decide) (by decide) hQ
  have n37 : ∀ k, k < 11 → jA σ3 37 k = (fun _ => (0 : Int32)) k := fun k hk => by rw [(F3.2 37 (by decide)).2]; exact z2 k hk
  have C3 : CR σ3 W r q1 a1 q2 a2 t u nr nm hc o1 o2 tp := hC0.frame F23 (fun x hx => by simp at hx; simp; omega) (fun g _ _ => (F23.2 r (by simp; omega)).1 g)
  obtain ⟨hU3, _, h13, h23, e43, e53, e63, e03, htp3⟩ := C3
  obtain ⟨σ4, e4', F4, m4, R1, R2⟩ := c59 (d := d) (W := W) (wd := wdN nr hc) hS3 hQ3 hU3 hbig h13 h23 (map_op f1) (map_op f2) e53 e63 hnm hN (w1.frame F23 (by decide)) (w2.frame F23 (by decide)) n37
  have x35 : jA σ4 35 = jA σ3 35 := by funext i; exact (F4.2 35 (by decide)).2 i
  refine ⟨σ4, ?_, (F23.mono (by decide)).trans (F4.mono (by decide)), fun k hk => by rw [(F4.2 37 (by decide)).2]; exact n37 k hk, fun i hi => by rw [x35]; exact z3 i hi, jA σ4 36, by rw [x35]; exact R1, by rw [x35]; exact R2, m4⟩
  have e2' : jx (d + 4) 57 2 [some (.ref 27), some (.ref r), some (.int (nI W)), some (.int 0)] [] σ = _ := e2
  have rg5 : (jR σ2 515 27).getD 0 = 34 := by rw [sR_515_27 hS2]; rfl
  rw [k57_0, e2', k57_24 (sT_27 hS2) (by rw [sR_515_27 hS2]; exact fun z => nomatch z) (by rw [rg5]; exact sT_34 hS2), rg5, e3]
  simp only [Option.bind_some, Option.toList_none, List.nil_append]
  rw [k57_31 (sT_27 hS3), e4']
  simp only [Option.bind_some, Option.toList_none, List.nil_append]
  rw [k57_37]
theorem c56 {σ : jS} {r q1 a1 q2 a2 t u nr nm n1 n2 P : Nat} {hc : Bool} {o1 o2 : List (Nat → Int32)} {tp : Nat → Int32} (hW : W = 1 ∨ W = 2 ∨ W = 3) (hS : SH σ) (hQ : ST σ) (hC : CR σ W r q1 a1 q2 a2 t u nr nm hc o1 o2 tp) (hnr : nr ≤ 4) (hnm : nm ≤ 3) (f1 : ∀ o, o ∈ o1 → WFo nr nm o) (f2 : ∀ o, o ∈ o2 → WFo nr nm o) (w1 : RW σ 30 31 4 n1) (w2 : RW σ 32 33 4 n2) (e7 : jI σ 327 r = nI P) (hP : P < 2 ^ 31) (hV0 : VB W (wdN nr hc) (wdN nr hc + nm) tp (fun _ => 0)) :
    ∃ σ', jx (d + 5) 56 0 [some (.ref 27), some (.ref r), some (.int (nI W)), none, none, none] [] σ = some (none, σ') ∧ FR (trL r u) σ σ' ∧ (∀ g, g ≠ 328 → g ≠ 331 → jI σ' g r = jI σ g r) ∧ jI σ' 328 r = nI (cntL (lik W nr hc o1 o2) (odo tp (wdN nr hc + nm)) P (fun _ => 0)) ∧ (jI σ' 331 r = if cntL (lik W nr hc o1 o2) (odo tp (wdN nr hc + nm)) P (fun _ => 0) = P ∧ 0 < prcL o1 0 - prcL o2 0 then 1 else 0) ∧ ∃ m1 m2, RW σ' 30 31 4 m1 ∧ RW σ' 32 33 4 m2 := by
  have hC0 := hC
  obtain ⟨hU, hbig, h1, h2, e4, e5, e6, e0, htp⟩ := hC
  have br : 81 ≤ r := hbig r (by simp)
  have bq1 : 81 ≤ q1 := hbig q1 (by simp)
  have ba1 : 81 ≤ a1 := hbig a1 (by simp)
  have bq2 : 81 ≤ q2 := hbig q2 (by simp)
  have ba2 : 81 ≤ a2 := hbig a2 (by simp)
  have bt : 81 ≤ t := hbig t (by simp)
  have bu : 81 ≤ u := hbig u (by simp)
  have hN : wdN nr hc + nm ≤ 11 := by unfold wdN; cases hc <;> simp <;> omega
  have notin := trL_out hU.2.2.2.2.2.2.2.2.2 hbig
  -- one turn
  have loop : ∀ f n σ1 v A fl l5 mv, n + f = P → FR (trL r u) σ σ1 → (∀ g, g ≠ 328 → g ≠ 331 → jI σ1 g r = jI σ g r) → jI σ1 328 r = nI A → (∀ k, k < 11 → jA σ1 37 k = v k) → VB W (wdN nr hc) (wdN nr hc + nm) tp v → (∀ i, i < 4 → jA σ1 35 i = nI i) → RO σ1 30 31 4 ((o1.map (keepF W)).map (wrO W (jA σ1 35) mv)) → RO σ1 32 33 4 ((o2.map (keepF W)).map (wrO W (jA σ1 35) mv)) →
      ∃ σ' x3 l5' m1 m2, jx (d + 5) 56 16 [some (.ref 27), some (.ref r), some (.int (nI W)), some (.int (if fl = true then 1 else 0)), some (.int (nI n)), l5] [] σ1 = jx (d + 5) 56 122 [some (.ref 27), some (.ref r), some (.int (nI W)), some (.int x3), some (.int (nI P)), l5'] [] σ' ∧ (x3 = if fl = true ∨ ¬ cntL (lik W nr hc o1 o2) (odo tp (wdN nr hc + nm)) f v = f then 1 else 0) ∧ FR (trL r u) σ σ' ∧ (∀ g, g ≠ 328 → g ≠ 331 → jI σ' g r = jI σ g r) ∧ jI σ' 328 r = nI (A + cntL (lik W nr hc o1 o2) (odo tp (wdN nr hc + nm)) f v) ∧ RW σ' 30 31 4 m1 ∧ RW σ' 32 33 4 m2 := by
    intro f
    induction f with
    | zero =>
      intro n σ1 v A fl l5 mv hn F hg hA hv hV hid R1 R2
      have e : n = P := by omega
      subst e
      refine ⟨σ1, (if fl = true then 1 else 0), l5, ((o1.map (keepF W)).map (wrO W (jA σ1 35) mv)).length, ((o2.map (keepF W)).map (wrO W (jA σ1 35) mv)).length, ?_, ?_, F, hg, hA, R1.1, R2.1⟩
      · rw [k56_16 (by rw [F.1.1]; exact hU.1), hg 327 (by decide) (by decide), e7, if_pos (Int32.le_refl _)]
      · show (if fl = true then (1 : Int32) else 0) = if fl = true ∨ ¬ (0 : Nat) = 0 then 1 else 0
        by_cases q : fl = true
        · rw [if_pos q, if_pos (Or.inl q)]
        · rw [if_neg q, if_neg (fun z => z.elim q (fun w => w rfl))]
    | succ f ih =>
      intro n σ1 v A fl l5 mv hn F hg hA hv hV hid R1 R2
      have hS1 := F.sh hS
      have tr1 : jT σ1 r = 6 := by rw [F.1.1]; exact hU.1
      have C1 : CR σ1 W r q1 a1 q2 a2 t u nr nm hc o1 o2 tp := hC0.frame F notin hg
      have h1in : 1 ∉ trL r u := by simp [trL]; omega
      have h2in : 2 ∉ trL r u := by simp [trL]; omega
      have hQ1 := F.st h1in h2in hQ
      obtain ⟨hU1, _, g1, g2, i4, i5, i6, i0, itp⟩ := C1
      -- the rows for this assignment
      have rows : ∃ σ2 mv2, (jx (d + 5) 56 31 [some (.ref 27), some (.ref r), some (.int (nI W)), some (.int (if fl = true then 1 else 0)), some (.int (nI n)), l5] [.int (pkU W (w0F nr hc v) 8)] σ1 = jx (d + 5) 56 46 [some (.ref 27), some (.ref r), some (.int (nI W)), some (.int (if fl = true then 1 else 0)), some (.int (nI n)), some (.int (pkU W (w0F nr hc v) 8))] [] σ2) ∧ FR [30, 31, 32, 33, 36] σ1 σ2 ∧ (∀ i, i < nm → mv2 i = v (wdN nr hc + i)) ∧ RO σ2 30 31 4 ((o1.map (keepF W)).map (wrO W (jA σ1 35) mv2)) ∧ RO σ2 32 33 4 ((o2.map (keepF W)).map (wrO W (jA σ1 35) mv2)) := by
        by_cases h0 : nm = 0
        · refine ⟨σ1, mv, ?_, FR.refl _ σ1, fun i hi => by omega, R1, R2⟩
          have le : nI nm ≤ 0 := by rw [h0]; decide
          rw [k56_31 tr1, i5, if_pos le]
        · obtain ⟨σ2, e2, F2, m2, Q1, Q2⟩ := c59 (d := d + 1) (W := W) (wd := wdN nr hc) hS1 hQ1 hU1 hbig g1 g2 (map_op f1) (map_op f2) i5 i6 hnm hN R1.1 R2.1 hv
          refine ⟨σ2, jA σ2 36, ?_, F2, m2, Q1, Q2⟩
          have le : ¬ nI nm ≤ 0 := by
            rw [show (0 : Int32) = nI 0 from rfl, n31le (by omega) (by decide)]; omega
          rw [k56_31 tr1, i5, if_neg le, k56_40 (sT_27 hS1), e2]
          simp only [Option.bind_some, Option.toList_none, List.nil_append]
      obtain ⟨σ2, mv2, e2, F2, m2, Q1, Q2⟩ := rows
      have hS2 := F2.sh hS1
      obtain ⟨L1, P1⟩ := like1 hW hnr hnm hV hid m2 f1
      obtain ⟨L2, P2⟩ := like1 hW hnr hnm hV hid m2 f2
      obtain ⟨σ3, e3, F3⟩ := c69 (d := d + 2) (W := W) (M := 28) (m := 29) (sT_28 hS2) (sR_128_28 hS2) (sT_29 hS2) (sN_29 hS2) Q1 (by decide) (by decide) P1 hW (pkU W (w0F nr hc v) 8)
      have hS3 := F3.sh hS2
      obtain ⟨σ4, e4', F4⟩ := c69 (d := d + 2) (W := W) (M := 28) (m := 29) (sT_28 hS3) (sR_128_28 hS3) (sT_29 hS3) (sN_29 hS3) (Q2.frame F3 (by decide) (by decide)) (by decide) (by decide) P2 hW (pkU W (w0F nr hc v) 8)
      rw [L1] at e3
      rw [L2] at e4'
      have hS4 := F4.sh hS3
      have F14 : FR [29, 30, 31, 32, 33, 36] σ1 σ4 := ((F2.mono (by decide)).trans (F3.mono (by decide))).trans (F4.mono (by decide))
      have FA : FR (trL r u) σ σ4 := F.trans (F14.mono (by intro a ha; simp only [trL]; simp at ha; simp; omega))
      have gA : ∀ g, jI σ4 g r = jI σ1 g r := fun g => (F14.2 r (by simp; omega)).1 g
      have Q14 : RO σ4 30 31 4 ((o1.map (keepF W)).map (wrO W (jA σ1 35) mv2)) := (Q1.frame F3 (by decide) (by decide)).frame F4 (by decide) (by decide)
      have Q24 : RO σ4 32 33 4 ((o2.map (keepF W)).map (wrO W (jA σ1 35) mv2)) := (Q2.frame F3 (by decide) (by decide)).frame F4 (by decide) (by decide)
      have n4 : ∀ k, k < 11 → jA σ4 37 k = v k := fun k hk => by rw [(F14.2 37 (by decide)).2]; exact hv k hk
      have x35 : jA σ4 35 = jA σ1 35 := by funext i; exact (F14.2 35 (by decide)).2 i
      have rgm : ∀ {υ : jS}, SH υ → (jR υ 512 27).getD 0 = 28 := fun h => by rw [sR_512_27 h]; rfl
      have rg3 : (jR σ2 513 27).getD 0 = 30 := by rw [sR_513_27 hS2]; rfl
      have rg4 : (jR σ3 514 27).getD 0 = 32 := by rw [sR_514_27 hS3]; rfl
      have to74 : jx (d + 5) 56 16 [some (.ref 27), some (.ref r), some (.int (nI W)), some (.int (if fl = true then 1 else 0)), some (.int (nI n)), l5] [] σ1 = jx (d + 5) 56 74 [some (.ref 27), some (.ref r), some (.int (nI W)), some (.int (if fl = true then 1 else 0)), some (.int (nI n)), some (.int (pkU W (w0F nr hc v) 8))] [.int (pkU W (exS W nr hc o2 v) 8), .int (pkU W (exS W nr hc o1 v) 8)] σ4 := by
        rw [k56_16 tr1, hg 327 (by decide) (by decide), e7, if_neg (nI_ge (by omega) hP), k56_25 (sT_27 hS1), c68 (W := W) (nm := nm) hS1 tr1 i4 i0 hnr hv]
        simp only [Option.bind_some, Option.toList_some, List.cons_append, List.nil_append]
        rw [e2, k56_46 (sT_27 hS2) (by rw [sR_512_27 hS2]; exact fun z => nomatch z) (by rw [sR_513_27 hS2]; exact fun z => nomatch z) (by rw [rgm hS2]; exact sT_28 hS2), rgm hS2, rg3, e3]
        simp only [Option.bind_some, Option.toList_some, List.cons_append, List.nil_append]
        rw [k56_60 (sT_27 hS3) (by rw [sR_512_27 hS3]; exact fun z => nomatch z) (by rw [sR_514_27 hS3]; exact fun z => nomatch z) (by rw [rgm hS3]; exact sT_28 hS3), rgm hS3, rg4, e4']
        simp only [Option.bind_some, Option.toList_some, List.cons_append, List.nil_append]
      -- goOn from a state like σ4
      have go : ∀ υ, FR (trL r u) σ υ → FR (r :: u :: [37]) σ4 υ → (∀ k, k < 11 → jA υ 37 k = v k) → (∀ g, g ≠ 328 → jI υ g r = jI σ4 g r) → ∃ ω, jx (d + 4) 72 0 [some (.ref 27), some (.ref r), none] [] υ = some (none, ω) ∧ FR [37] υ ω ∧ (∀ k, k < 11 → jA ω 37 k = odo tp (wdN nr hc + nm) v k) := by
        intro υ Fυ F4υ nυ gυ
        have hSυ := Fυ.sh hS
        have tn : t ∉ trL r u := notin t (by simp)
        exact c72 (d := d + 3) (W := W) hSυ (by rw [Fυ.1.1]; exact hU.1) (by rw [Fυ.1.2.2.1]; exact hU.2.2.2.1) (by rw [Fυ.1.1]; exact hU.2.2.2.2.2.1) (by rw [Fυ.1.2.1]; exact hU.2.2.2.2.2.2.1) bt (by rw [gυ 326 (by decide), gA, hg 326 (by decide) (by decide)]; exact e6) hN (fun k hk => by rw [(Fυ.2 t tn).2]; exact htp k hk) br hV nυ
      have cons : ∀ υ ω A' fl', FR (trL r u) σ υ → FR (r :: u :: [37]) σ4 υ → FR [37] υ ω → (∀ k, k < 11 → jA ω 37 k = odo tp (wdN nr hc + nm) v k) → (∀ g, g ≠ 328 → jI υ g r = jI σ4 g r) → jI υ 328 r = nI A' →
          ∃ σ' x3 l5' m1 m2, jx (d + 5) 56 116 [some (.ref 27), some (.ref r), some (.int (nI W)), some (.int (if fl' = true then 1 else 0)), some (.int (nI n)), some (.int (pkU W (w0F nr hc v) 8))] [] ω = jx (d + 5) 56 122 [some (.ref 27), some (.ref r), some (.int (nI W)), some (.int x3), some (.int (nI P)), l5'] [] σ' ∧ (x3 = if fl' = true ∨ ¬ cntL (lik W nr hc o1 o2) (odo tp (wdN nr hc + nm)) f (odo tp (wdN nr hc + nm) v) = f then 1 else 0) ∧ FR (trL r u) σ σ' ∧ (∀ g, g ≠ 328 → g ≠ 331 → jI σ' g r = jI σ g r) ∧ jI σ' 328 r = nI (A' + cntL (lik W nr hc o1 o2) (odo tp (wdN nr hc + nm)) f (odo tp (wdN nr hc + nm) v)) ∧ RW σ' 30 31 4 m1 ∧ RW σ' 32 33 4 m2 := by
        intro υ ω A' fl' Fυ F4υ Fω nω gυ hA'
        have FF : FR (trL r u) σ ω := Fυ.trans (Fω.mono (by intro a ha; simp only [trL]; simp at ha; simp; omega))
        have F4ω : FR (r :: u :: [37]) σ4 ω := F4υ.trans (Fω.mono (by intro a ha; simp at ha; simp [ha]))
        have rω : ∀ g, jI ω g r = jI υ g r := fun g => (Fω.2 r (by simp; omega)).1 g
        have y35 : jA ω 35 = jA σ1 35 := by funext i; rw [(F4ω.2 35 (by simp; omega)).2, x35]
        obtain ⟨σ', x3, l5', m1, m2, z1, z2, z3, z4, z5, z6, z7⟩ := ih (n + 1) ω (odo tp (wdN nr hc + nm) v) A' fl' (some (.int (pkU W (w0F nr hc v) 8))) mv2 (by omega) FF (fun g a b => by rw [rω, gυ g a, gA, hg g a b]) (by rw [rω]; exact hA') nω (hV.odo _ _) (fun i hi => by rw [y35]; exact hid i hi) (by rw [y35]; exact Q14.frame F4ω (by simp; omega) (by simp; omega)) (by rw [y35]; exact Q24.frame F4ω (by simp; omega) (by simp; omega))
        exact ⟨σ', x3, l5', m1, m2, by rw [k56_116, ← nI_succ]; exact z1, z2, z3, z4, z5, z6, z7⟩
      have ec : cntL (lik W nr hc o1 o2) (odo tp (wdN nr hc + nm)) (f + 1) v = (if lik W nr hc o1 o2 v = true then 1 else 0) + cntL (lik W nr hc o1 o2) (odo tp (wdN nr hc + nm)) f (odo tp (wdN nr hc + nm) v) := rfl
      have cle := cntL_le (lik W nr hc o1 o2) (odo tp (wdN nr hc + nm)) f (odo tp (wdN nr hc + nm) v)
      by_cases hl : pkU W (exS W nr hc o1 v) 8 = pkU W (exS W nr hc o2 v) 8
      · have lt : lik W nr hc o1 o2 v = true := decide_eq_true hl
        rw [lt, if_pos rfl] at ec
        have Fυ : FR (trL r u) σ (jsI σ4 328 r (nI (A + 1))) := FA.I (by simp [trL])
        have F4υ : FR (r :: u :: [37]) σ4 (jsI σ4 328 r (nI (A + 1))) := (FR.refl _ σ4).I (by simp)
        have gυ : ∀ g, g ≠ 328 → jI (jsI σ4 328 r (nI (A + 1))) g r = jI σ4 g r := fun g q => by rw [zI_I, if_neg (fun w => q w.1)]
        obtain ⟨ω, eω, Fω, nω⟩ := go _ Fυ F4υ (fun k hk => by rw [zI_A]; exact n4 k hk) gυ
        obtain ⟨σ', x3, l5', m1, m2, z1, z2, z3, z4, z5, z6, z7⟩ := cons _ ω (A + 1) fl Fυ F4υ Fω nω gυ (by rw [zI_I, if_pos ⟨rfl, rfl⟩])
        refine ⟨σ', x3, l5', m1, m2, ?_, ?_, z3, z4, ?_, z6, z7⟩
        · rw [to74, k56_74, if_neg (fun z => z hl), k56_77 (by rw [FA.1.1]; exact hU.1) (sT_27 hS4), gA, hA, ← nI_succ, eω]
          simp only [Option.bind_some, Option.toList_none, List.nil_append]
          exact z1
        · rw [z2, ec]
          by_cases q : fl = true
          · rw [if_pos (Or.inl q), if_pos (Or.inl q)]
          · by_cases q2 : cntL (lik W nr hc o1 o2) (odo tp (wdN nr hc + nm)) f (odo tp (wdN nr hc + nm) v) = f
            · rw [if_neg (fun z => z.elim q (fun w => w q2)), if_neg (fun z => z.elim q (fun w => w (by omega)))]
            · rw [if_pos (Or.inr q2), if_pos (Or.inr (by omega))]
        · rw [z5, ec]; congr 1; omega
      · have lf : ¬ lik W nr hc o1 o2 v = true := fun z => hl (of_decide_eq_true z)
        rw [if_neg lf] at ec
        have x31 : ∀ g : Bool, (if g = true ∨ ¬ cntL (lik W nr hc o1 o2) (odo tp (wdN nr hc + nm)) (f + 1) v = f + 1 then (1 : Int32) else 0) = 1 := fun g => if_pos (Or.inr (by omega))
        have tk : ¬ (pkU W (exS W nr hc o1 v) 8 = pkU W (exS W nr hc o2 v) 8) := hl
        by_cases q : fl = true
        · have F4υ : FR (r :: u :: [37]) σ4 σ4 := FR.refl _ σ4
          obtain ⟨ω, eω, Fω, nω⟩ := go σ4 FA F4υ n4 (fun _ _ => rfl)
          obtain ⟨σ', x3, l5', m1, m2, z1, z2, z3, z4, z5, z6, z7⟩ := cons σ4 ω A fl FA F4υ Fω nω (fun _ _ => rfl) (by rw [gA]; exact hA)
          refine ⟨σ', x3, l5', m1, m2, ?_, ?_, z3, z4, ?_, z6, z7⟩
          · have f1' : ¬ ((if fl = true then (1 : Int32) else 0) = 0) := by rw [if_pos q]; decide
            rw [to74, k56_74, if_pos tk, k56_90, if_pos f1', k56_111 (sT_27 hS4), eω]
            simp only [Option.bind_some, Option.toList_none, List.nil_append]
            exact z1
          · rw [x31, z2, if_pos (Or.inl q)]
          · rw [z5, ec]; congr 1; omega
        · have ru : (jR σ4 323 r).getD 0 = u := by rw [FA.1.2.2.1, hU.2.2.2.2.1]; rfl
          have rn : (jR σ4 516 27).getD 0 = 37 := by rw [sR_516_27 hS4]; rfl
          have Fυ : FR (trL r u) σ (jcp σ4 37 0 u 0 11) := FA.C (by simp [trL])
          have F4υ : FR (r :: u :: [37]) σ4 (jcp σ4 37 0 u 0 11) := (FR.refl _ σ4).C (by simp)
          obtain ⟨ω, eω, Fω, nω⟩ := go _ Fυ F4υ (fun k hk => by rw [zC_A, if_neg (by omega)]; exact n4 k hk) (fun g _ => by rw [zC_I])
          obtain ⟨σ', x3, l5', m1, m2, z1, z2, z3, z4, z5, z6, z7⟩ := cons _ ω A true Fυ F4υ Fω nω (fun g _ => by rw [zC_I]) (by rw [zC_I, gA]; exact hA)
          refine ⟨σ', x3, l5', m1, m2, ?_, ?_, z3, z4, ?_, z6, z7⟩
          · have f1' : ¬ ¬ ((if fl = true then (1 : Int32) else 0) = 0) := by rw [if_neg q]; exact fun z => z rfl
            have tu : jT σ4 u = 20 := by rw [FA.1.1]; exact hU.2.2.2.2.2.2.2.1
            have nu : jN σ4 u = 11 := by rw [FA.1.2.1]; exact hU.2.2.2.2.2.2.2.2.1
            rw [to74, k56_74, if_pos tk, k56_90, if_neg f1', k56_94 (sT_27 hS4) (by rw [sR_516_27 hS4]; exact fun z => nomatch z) (by rw [FA.1.1]; exact hU.1) (by rw [FA.1.2.2.1, hU.2.2.2.2.1]; exact fun z => nomatch z) (by rw [rn]; exact sT_37 hS4) (by rw [ru]; exact tu) (by decide) (by rw [rn, sN_37 hS4]; decide) (by rw [ru, nu]; decide), rn, ru]
            have eω' : jx (d + 4) 72 0 [some (.ref 27), some (.ref r), none] [] (jcp σ4 37 (Int32.toNatClampNeg 0) u (Int32.toNatClampNeg 0) (Int32.toNatClampNeg 11)) = some (none, ω) := eω
            rw [eω']
            simp only [Option.bind_some, Option.toList_none, List.nil_append]
            exact z1
          · rw [x31, z2, if_pos (Or.inl rfl)]
          · rw [z5, ec]; congr 1; omega
  obtain ⟨σ2, e2, F2, z2, id2, mv, R1, R2, _⟩ := c57 (d := d) (W := W) hS hQ hC0 hnr hnm f1 f2 w1 w2
  have hS2 := F2.sh hS
  have F2t : FR (trL r u) σ σ2 := F2.mono (by intro a ha; simp only [trL]; simp at ha; simp; omega)
  have Fυ : FR (trL r u) σ (jsI σ2 328 r 0) := F2t.I (by simp [trL])
  have gr2 : ∀ g, jI σ2 g r = jI σ g r := fun g => (F2.2 r (by simp; omega)).1 g
  obtain ⟨σ', x3, l5', m1, m2, z1, z2', z3, z4, z5, z6, z7⟩ := loop P 0 (jsI σ2 328 r 0) (fun _ => 0) 0 false none mv (by omega) Fυ (fun g a b => by rw [zI_I, if_neg (fun w => a w.1)]; exact gr2 g) (by rw [zI_I, if_pos ⟨rfl, rfl⟩]; rfl) (fun k hk => by rw [zI_A]; exact z2 k hk) hV0 (fun i hi => by rw [zI_A]; exact id2 i hi) (R1.frame ((FR.refl [r] σ2).I (by simp)) (by simp; omega) (by simp; omega)) (R2.frame ((FR.refl [r] σ2).I (by simp)) (by simp; omega) (by simp; omega))
  have hS' := z3.sh hS
  have h1in : 1 ∉ trL r u := by simp [trL]; omega
  have h2in : 2 ∉ trL r u := by simp [trL]; omega
  have hQ' := z3.st h1in h2in hQ
  have C' : CR σ' W r q1 a1 q2 a2 t u nr nm hc o1 o2 tp := hC0.frame z3 notin z4
  obtain ⟨hU', _, g1', g2', _, _, _, _, _⟩ := C'
  have cg := c73 (d := d + 1) hS' hQ' hU' g1' g2' (map_op f1) (map_op f2)
  rw [prcL_keep, prcL_keep] at cg
  have tr' : jT σ' r = 6 := hU'.1
  have start : jx (d + 5) 56 0 [some (.ref 27), some (.ref r), some (.int (nI W)), none, none, none] [] σ = jx (d + 5) 56 122 [some (.ref 27), some (.ref r), some (.int (nI W)), some (.int x3), some (.int (nI P)), l5'] [] σ' := by
    rw [k56_0 (sT_27 hS), e2]
    simp only [Option.bind_some, Option.toList_none, List.nil_append]
    rw [k56_6 (by rw [F2.1.1]; exact hU.1)]
    exact z1
  obtain ⟨C, eC⟩ : ∃ C, cntL (lik W nr hc o1 o2) (odo tp (wdN nr hc + nm)) P (fun _ => 0) = C := ⟨_, rfl⟩
  rw [eC] at z2' z5 ⊢
  rw [Nat.zero_add] at z5
  have wr : ∀ x : Int32, jx (d + 5) 56 122 [some (.ref 27), some (.ref r), some (.int (nI W)), some (.int x3), some (.int (nI P)), l5'] [] σ' = some (none, jsI σ' 331 r x) → (x = if C = P ∧ 0 < prcL o1 0 - prcL o2 0 then 1 else 0) → ∃ σ', jx (d + 5) 56 0 [some (.ref 27), some (.ref r), some (.int (nI W)), none, none, none] [] σ = some (none, σ') ∧ FR (trL r u) σ σ' ∧ (∀ g, g ≠ 328 → g ≠ 331 → jI σ' g r = jI σ g r) ∧ jI σ' 328 r = nI C ∧ (jI σ' 331 r = if C = P ∧ 0 < prcL o1 0 - prcL o2 0 then 1 else 0) ∧ ∃ m1 m2, RW σ' 30 31 4 m1 ∧ RW σ' 32 33 4 m2 := by
    intro x ex vx
    refine ⟨jsI σ' 331 r x, start.trans ex, z3.I (by simp [trL]), fun g a b => by rw [zI_I, if_neg (fun w => b w.1)]; exact z4 g a b, by rw [zI_I, if_neg (fun w => absurd w.1 (by decide))]; exact z5, by rw [zI_I, if_pos ⟨rfl, rfl⟩]; exact vx, m1, m2, ?_, ?_⟩
    · exact z6.frame ((FR.refl [r] σ').I (by simp)) (by simp; omega)
    · exact z7.frame ((FR.refl [r] σ').I (by simp)) (by simp; omega)
  by_cases hCP : C = P
  · have x30 : x3 = 0 := by rw [z2']; exact if_neg (fun z => z.elim (by decide) (fun w => w hCP))
    by_cases hgn : 0 < prcL o1 0 - prcL o2 0
    · refine wr 1 ?_ (by rw [if_pos ⟨hCP, hgn⟩])
      rw [x30, k56_122, if_neg (fun z => z rfl), k56_127 tr', cg]
      simp only [Option.bind_some, Option.toList_some, List.cons_append, List.nil_append]
      rw [k56_131, if_neg (by rw [Int32.not_le]; exact hgn), k56_134 tr']
    · refine wr 0 ?_ (by rw [if_neg (fun z => hgn z.2)])
      rw [x30, k56_122, if_neg (fun z => z rfl), k56_127 tr', cg]
      simp only [Option.bind_some, Option.toList_some, List.cons_append, List.nil_append]
      rw [k56_131, if_pos (Int32.not_lt.mp hgn), k56_138 tr']
  · have x31 : x3 = 1 := by rw [z2']; exact if_pos (Or.inr hCP)
    refine wr 0 ?_ (by rw [if_neg (fun z => hCP z.1)])
    rw [x31, k56_122, if_pos (by decide), k56_138 tr']
end TRE
