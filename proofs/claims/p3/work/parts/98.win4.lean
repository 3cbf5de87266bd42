/-! windows: the reference -/
abbrev w12 (p pl r n : Nat) (is : Int32) (i : Nat) (l7 l8 l9 l10 l11 : Option Value) : List (Option Value) := [some (.ref 47), some (.int (nI p)), some (.int (nI pl)), some (.int (nI r)), some (.int (nI n)), some (.int is), some (.int (nI i)), l7, l8, l9, l10, l11]
theorem mod3n : ∀ k, k < 4 → nI k - nI k / 3 * 3 = nI (k % 3) := by decide
section WI4
variable {d : Nat} {σ : jS} {s : AS}
theorem c182 (hS : SH σ) (hs : WFs s) (hM : CM s σ) {p r pl : Nat} (hp : p < s.ps.length) (hr : r < s.rs.length) (hpl : pl ≤ 24) : ∃ σ', jx (d + 2) 182 0 [some (.ref 47), some (.int (nI p)), some (.int (nI pl)), some (.int (nI r)), none, none, none, none, none, none, none, none] [] σ = some (some (.int (if (winF s.W (s.rs.getD r ar0).o1 (s.rs.getD r ar0).o2.length (s.ps.getD p []) pl).isSome then 1 else 0)), σ') ∧ FR [76, 77] σ σ' ∧ (∀ x, winF s.W (s.rs.getD r ar0).o1 (s.rs.getD r ar0).o2.length (s.ps.getD p []) pl = some x → RB (-4) σ' 76 77 x ∧ IB x.1 ∧ IC x.2) := by
  obtain ⟨a, ea⟩ : ∃ a, s.rs.getD r ar0 = a := ⟨_, rfl⟩
  obtain ⟨A, eA⟩ : ∃ A, s.ps.getD p [] = A := ⟨_, rfl⟩
  have mr := hM.rs r hr
  have fr := hs.fr _ (mem_rs hr)
  have pa := hM.ps p hp
  have fA := hs.fp _ (mem_ps hp)
  have hr24 := hs.r24
  have hp16 := hs.p16
  rw [ea] at mr fr
  rw [eA] at pa fA
  rw [ea, eA]
  obtain ⟨⟨rg, m1, m2, m3, m4, m5, m6, m7, m8, m9, m10⟩, -⟩ := mr
  have z24 := fA.1
  have R : ∀ {υ : jS} {g a : Nat}, jR υ g 47 = some a → (jR υ g 47).getD 0 = a ∧ jR υ g 47 ≠ none := fun h => by rw [h]; exact ⟨rfl, fun z => nomatch z⟩
  have c2r : (2 : Int32) * nI r = nI (2 * r) := by rw [show (2 : Int32) = nI 2 from rfl, nmul]
  have c2r1 : (2 : Int32) * nI r + 1 = nI (2 * r + 1) := by rw [c2r, ← nI_succ]
  have q0 := R (sR_645_47 hS)
  have q1 := R (sR_661_47 hS)
  have st : jx (d + 2) 182 0 [some (.ref 47), some (.int (nI p)), some (.int (nI pl)), some (.int (nI r)), none, none, none, none, none, none, none, none] [] σ = if nI A.length < nI pl + nI a.o1.length then some (some (.int 0), σ) else if nI A.length - nI a.o1.length + nI a.o2.length ≤ 24 then jx (d + 2) 182 53 [some (.ref 47), some (.int (nI p)), some (.int (nI pl)), some (.int (nI r)), some (.int (nI a.o1.length)), some (.int (nI 0)), none, none, none, none, none, none] [] σ else some (some (.int 0), σ) := by
    rw [k182_0 (sT_47 hS) q0.2 (by rw [q0.1]; exact Or.inl (sT_50 hS)) (by rw [q0.1, sN_50 hS, c2r]; exact jin_n (by omega) (by decide)) q1.2 (by rw [q1.1]; exact Or.inl (sT_65 hS)) (by rw [q1.1, sN_65 hS]; exact jin_n (by omega) (by decide)), q0.1, q1.1, c2r, nI_clamp (by omega), nI_clamp (by omega), m1, pa.1]
    by_cases w : nI A.length < nI pl + nI a.o1.length
    · rw [if_pos w, if_pos w, k182_48]
    · rw [if_neg w, if_neg w, k182_23 (sT_47 hS) q1.2 (by rw [q1.1]; exact Or.inl (sT_65 hS)) (by rw [q1.1, sN_65 hS]; exact jin_n (by omega) (by decide)) q0.2 (by rw [q0.1]; exact Or.inl (sT_50 hS)) (by rw [q0.1, sN_50 hS, c2r1]; exact jin_n (by omega) (by decide)), q0.1, q1.1, c2r1, nI_clamp (by omega), nI_clamp (by omega), m2, pa.1]
      by_cases w2 : nI A.length - nI a.o1.length + nI a.o2.length ≤ 24
      · rw [if_pos w2, if_pos w2, k182_50]; rfl
      · rw [if_neg w2, if_neg w2, k182_48]
  by_cases c1 : pl + a.o1.length ≤ A.length
  · have w1 : ¬ nI A.length < nI pl + nI a.o1.length := by rw [nadd, n31 (by omega) (by omega)]; omega
    by_cases c2 : A.length - a.o1.length + a.o2.length ≤ 24
    · have w2 : nI A.length - nI a.o1.length + nI a.o2.length ≤ 24 := by
        rw [nsub (by omega), nadd]; exact nI_le (b := 24) (by omega) (by decide)
      have wf : winF s.W a.o1 a.o2.length A pl = tkW s.W a.o1 A pl a.o1.length := if_pos ⟨c1, c2⟩
      rw [wf]
      -- all forgotten
      have L0 : ∀ f n υ, n + f = 4 → FR [76, 77] σ υ → (∀ k, k < n → jA υ 76 k = -4) → (∀ k, k < n → k < 3 → jA υ 77 k = -4) → ∃ υ', jx (d + 2) 182 53 [some (.ref 47), some (.int (nI p)), some (.int (nI pl)), some (.int (nI r)), some (.int (nI a.o1.length)), some (.int (nI n)), none, none, none, none, none, none] [] υ = jx (d + 2) 182 91 (w12 p pl r a.o1.length 1 0 none none none none none) [] υ' ∧ FR [76, 77] σ υ' ∧ RB (-4) υ' 76 77 (fun _ => none, fun _ => none) := by
        intro f
        induction f with
        | zero =>
          intro n υ hn F h1 h2
          have e : n = 4 := by omega
          subst e
          refine ⟨υ, ?_, F, h1, fun k hk => h2 k (by omega) hk⟩
          rw [k182_53, if_pos (by decide), k182_85]
          rfl
        | succ f ih =>
          intro n υ hn F h1 h2
          have hSu := F.sh hS
          have r6 := R (sR_676_47 hSu)
          have r7 := R (sR_677_47 hSu)
          have g4 : ¬ (4 : Int32) ≤ nI n := nI_ge (b := 4) (by omega) (by omega)
          have em := mod3n n (by omega)
          obtain ⟨υ', e', F', r'⟩ := ih (n + 1) (jsA (jsA υ 76 n (-4)) 77 (n % 3) (-4)) (by omega) ((F.A (by simp)).A (by simp)) (fun k hk => by
            rw [zA_A, if_neg (fun z => absurd z.1 (by decide)), zA_A]
            by_cases e : k = n
            · rw [if_pos ⟨rfl, e⟩]
            · rw [if_neg (fun z => e z.2)]; exact h1 k (by omega)) (fun k hk h3 => by
            rw [zA_A]
            by_cases e : k = n % 3
            · rw [if_pos ⟨rfl, e⟩]
            · rw [if_neg (fun z => e z.2), zA_A, if_neg (fun z => absurd z.1 (by decide))]; exact h2 k (by omega) h3)
          refine ⟨υ', ?_, F', r'⟩
          rw [← e', k182_53, if_neg g4, k182_59 (sT_47 hSu) r6.2 (by rw [r6.1]; exact sT_76 hSu) (by rw [r6.1, sN_76 hSu]; exact jin_n (by omega) (by decide)) r7.2 (by rw [r7.1]; exact sT_77 hSu) (by rw [r7.1, sN_77 hSu, em]; exact jin_n (by omega) (by decide)), r6.1, r7.1, em, nI_clamp (by omega), nI_clamp (by omega), ← nI_succ]
      obtain ⟨σ1, e1, F1, rb1⟩ := L0 4 0 σ rfl (FR.refl _ σ) (fun k hk => absurd hk (Nat.not_lt_zero k)) (fun k hk => absurd hk (Nat.not_lt_zero k))
      have no91 : ∀ {υ : jS} {i : Nat} {l7 l8 l9 l10 l11 : Option Value}, jx (d + 2) 182 91 (w12 p pl r a.o1.length 0 i l7 l8 l9 l10 l11) [] υ = some (some (.int 0), υ) := fun {υ i l7 l8 l9 l10 l11} => by
        rw [k182_91]
        by_cases q : nI a.o1.length ≤ nI i
        · rw [if_pos q, k182_329 (by decide)]
        · rw [if_neg q, k182_98, if_pos rfl, k182_329 (by decide)]
      have no239 : ∀ {υ : jS} {i : Nat} {l7 l8 l9 l10 l11 : Option Value}, jx (d + 2) 182 239 (w12 p pl r a.o1.length 0 i l7 l8 l9 l10 l11) [] υ = some (some (.int 0), υ) := fun {υ i l7 l8 l9 l10 l11} => by
        rw [k182_239, if_pos rfl, k182_323, ← nI_succ]
        exact no91
      have no161 : ∀ {υ : jS} {i : Nat} {l7 l8 l9 : Option Value} {x y : Nat}, jx (d + 2) 182 161 (w12 p pl r a.o1.length 0 i l7 l8 l9 (some (.int (nI x))) (some (.int (nI y)))) [] υ = some (some (.int 0), υ) := fun {υ i l7 l8 l9 x y} => by
        rw [k182_161]
        by_cases q : nI x ≤ nI y
        · rw [if_pos q]; exact no239
        · rw [if_neg q, k182_168, if_pos rfl]; exact no239
      have L : ∀ f n υ x l7 l8 l9 l10 l11, n + f = a.o1.length → FR [76, 77] σ υ → tkW s.W a.o1 A pl n = some x → RB (-4) υ 76 77 x → IB x.1 → IC x.2 → ∃ σ', jx (d + 2) 182 91 (w12 p pl r a.o1.length 1 n l7 l8 l9 l10 l11) [] υ = some (some (.int (if (tkW s.W a.o1 A pl a.o1.length).isSome then 1 else 0)), σ') ∧ FR [76, 77] σ σ' ∧ (∀ x', tkW s.W a.o1 A pl a.o1.length = some x' → RB (-4) σ' 76 77 x' ∧ IB x'.1 ∧ IC x'.2) := by
        intro f
        induction f with
        | zero =>
          intro n υ x l7 l8 l9 l10 l11 hn F ht hrb ib ic
          have e : n = a.o1.length := by omega
          subst e
          refine ⟨υ, ?_, F, fun x' hx' => by rw [ht, Option.some_inj] at hx'; subst hx'; exact ⟨hrb, ib, ic⟩⟩
          rw [k182_91, if_pos (nI_le (Nat.le_refl _) (by omega)), k182_329 (by decide), ht]
          rfl
        | succ f ih =>
          intro n υ x l7 l8 l9 l10 l11 hn F ht hrb ib ic
          have hlt : n < a.o1.length := by omega
          obtain ⟨o, eo⟩ : ∃ o, a.o1.getD n (fun _ => 0) = o := ⟨_, rfl⟩
          obtain ⟨q, eq⟩ : ∃ q, A.getD (pl + n) (fun _ => 0) = q := ⟨_, rfl⟩
          have wo := fr.f1 _ (mem_getD hlt)
          have wz := fr.z4 _ (mem_getD hlt)
          have wq := fA.2 _ (mem_getD (os := A) (n := pl + n) (by omega))
          have mo := m9 n hlt
          have pq := fun j (hj : j < 4) => pa.2.2 (pl + n) j (by omega) hj
          rw [eo] at wo wz mo
          rw [eq] at wq pq
          have nr4 := fr.nr4
          have nm3 := fr.nm3
          obtain ⟨ok1, ok2⟩ := wo.op
          obtain ⟨k1, k2, k3, k4, k5⟩ := mo
          have r3 := regN3 (opO o)
          have tj : tkW s.W a.o1 A pl (n + 1) = tkO s.W x o q := by
            show (tkW s.W a.o1 A pl n).bind _ = _
            rw [ht, eo, eq]; rfl
          have hSu := F.sh hS
          have wu : jI υ 640 47 = nI s.W := by rw [(F.2 47 (by decide)).1]; exact hM.w
          have AA : ∀ {τ : jS}, FR [76, 77] σ τ → ∀ z i, z ≠ 76 → z ≠ 77 → jA τ z i = jA σ z i := fun G z i h1 h2 => (G.2 z (by simp; omega)).2 i
          have e8 : (8 : Int32) * nI r + nI n = nI (8 * r + n) := by rw [show (8 : Int32) = nI 8 from rfl, nmul, nadd]
          have e24 : (24 : Int32) * nI p + nI pl + nI n = nI (24 * p + (pl + n)) := by rw [show (24 : Int32) = nI 24 from rfl, nmul, nadd, nadd, Nat.add_assoc]
          have s6 := R (sR_646_47 hSu)
          have s62 := R (sR_662_47 hSu)
          have a51 : jA υ 51 (8 * r + n) = nI (opO o) := by rw [AA F 51 _ (by decide) (by decide), k1]; exact ok2
          have a66 : jA υ 66 (24 * p + (pl + n)) = q 0 := by rw [AA F 66 _ (by decide) (by decide)]; exact pq 0 (by decide)
          have to137 : jx (d + 2) 182 91 (w12 p pl r a.o1.length 1 n l7 l8 l9 l10 l11) [] υ = if ¬ (q 0 = nI (opO o)) then jx (d + 2) 182 155 (w12 p pl r a.o1.length 1 n (some (.int (nI (8 * r + n)))) (some (.int (nI (24 * p + (pl + n))))) (some (.int (nI (opO o)))) (some (.int (nI (regN (opO o))))) l11) [] υ else jx (d + 2) 182 151 (w12 p pl r a.o1.length 1 n (some (.int (nI (8 * r + n)))) (some (.int (nI (24 * p + (pl + n))))) (some (.int (nI (opO o)))) (some (.int (nI (regN (opO o))))) l11) [] υ := by
            rw [k182_91, if_neg (nI_ge (by omega) (by omega)), k182_98, if_neg (by decide), k182_103 (sT_47 hSu) s6.2 (by rw [s6.1]; exact Or.inl (sT_51 hSu)) (by rw [s6.1, sN_51 hSu, e8]; exact jin_n (by omega) (by decide)), s6.1, e8, e24, nI_clamp (by omega), a51, c137 ok1]
            simp only [Option.bind_some, Option.toList_some, List.cons_append, List.nil_append]
            rw [k182_137 (sT_47 hSu) s62.2 (by rw [s62.1]; exact Or.inl (sT_66 hSu)) (by rw [s62.1, sN_66 hSu]; exact jin_n (by omega) (by decide)), s62.1, nI_clamp (by omega), a66]
          have fin : ∀ {υ' : jS}, FR [76, 77] σ υ' → tkO s.W x o q = none → jx (d + 2) 182 91 (w12 p pl r a.o1.length 1 n l7 l8 l9 l10 l11) [] υ = some (some (.int 0), υ') → ∃ σ', jx (d + 2) 182 91 (w12 p pl r a.o1.length 1 n l7 l8 l9 l10 l11) [] υ = some (some (.int (if (tkW s.W a.o1 A pl a.o1.length).isSome then 1 else 0)), σ') ∧ FR [76, 77] σ σ' ∧ (∀ x', tkW s.W a.o1 A pl a.o1.length = some x' → RB (-4) σ' 76 77 x' ∧ IB x'.1 ∧ IC x'.2) := fun {υ'} G hn' he => by
            have tn := tkW_none (tj.trans hn') a.o1.length (by omega)
            refine ⟨υ', ?_, G, fun x' hx' => by rw [tn] at hx'; cases hx'⟩
            rw [he, tn]
            rfl
          by_cases hk0 : q 0 = o 0
          · have opp : opO q = opO o := by unfold opO; rw [hk0]
            have preg : ∀ j, j < regN (opO o) → ∃ u, u < 4 ∧ q (j + 1) = nI u := fun j hj => wq.reg (by omega) (by rw [opp]; omega)
            have oreg : ∀ j, j < regN (opO o) → ∃ u, u < 4 ∧ o (j + 1) = nI u := fun j hj => by
              obtain ⟨K, v1, v2, v3, v4, v5⟩ := wo
              have ko : opO o = K := by unfold opO; rw [v2]; exact nI_clamp (by omega)
              obtain ⟨u, u1, u2⟩ := v3 j (by rw [← ko]; exact hj)
              exact ⟨u, by omega, u2⟩
            have LR : ∀ g j τ bj, j + g = regN (opO o) → FR [76, 77] σ τ → tkL x.1 o q j = some bj → RB (-4) τ 76 77 (bj, x.2) → IB bj → ∃ τ', FR [76, 77] σ τ' ∧ (match tkL x.1 o q (regN (opO o)) with | some b' => (jx (d + 2) 182 161 (w12 p pl r a.o1.length 1 n (some (.int (nI (8 * r + n)))) (some (.int (nI (24 * p + (pl + n))))) (some (.int (nI (opO o)))) (some (.int (nI (regN (opO o))))) (some (.int (nI j)))) [] τ = jx (d + 2) 182 239 (w12 p pl r a.o1.length 1 n (some (.int (nI (8 * r + n)))) (some (.int (nI (24 * p + (pl + n))))) (some (.int (nI (opO o)))) (some (.int (nI (regN (opO o))))) (some (.int (nI (regN (opO o)))))) [] τ') ∧ RB (-4) τ' 76 77 (b', x.2) ∧ IB b' | none => jx (d + 2) 182 161 (w12 p pl r a.o1.length 1 n (some (.int (nI (8 * r + n)))) (some (.int (nI (24 * p + (pl + n))))) (some (.int (nI (opO o)))) (some (.int (nI (regN (opO o))))) (some (.int (nI j)))) [] τ = some (some (.int 0), τ')) := by
              intro g
              induction g with
              | zero =>
                intro j τ bj hj G ht' hrb' hib
                have e : j = regN (opO o) := by omega
                subst e
                refine ⟨τ, G, ?_⟩
                rw [ht']
                refine ⟨?_, hrb', hib⟩
                rw [k182_161, if_pos (nI_le (Nat.le_refl _) (by omega))]
              | succ g ihg =>
                intro j τ bj hj G ht' hrb' hib
                obtain ⟨w, w4, w2⟩ := oreg j (by omega)
                obtain ⟨v, v4, v1⟩ := preg j (by omega)
                have hSt := G.sh hS
                have t76 := R (sR_676_47 hSt)
                have t47 := R (sR_647_47 hSt)
                have e3k : (3 : Int32) * nI (8 * r + n) + nI j = nI (3 * (8 * r + n) + j) := by rw [show (3 : Int32) = nI 3 from rfl, nmul, nadd]
                have a52 : jA τ 52 (3 * (8 * r + n) + j) = nI w := by
                  rw [AA G 52 _ (by decide) (by decide), k2 j (by show j < regN (opO o); omega)]; exact w2
                obtain ⟨τ1, e2, G2, g2⟩ := c183r (d := d + 1) (sT_76 hSt) (sN_76 hSt) hrb'.1 hib w4 v4
                have G2' : FR [76, 77] τ τ1 := G2.mono (fun a ha => by simp at ha; simp [ha])
                have aj : jA τ (66 + (j + 1)) (24 * p + (pl + n)) = nI v := by
                  rw [AA G _ _ (by omega) (by omega), pq (j + 1) (by omega)]; exact v1
                have i384 : jin 384 (nI (24 * p + (pl + n))) := jin_n (by omega) (by decide)
                have c384 : (nI (24 * p + (pl + n))).toNatClampNeg = 24 * p + (pl + n) := nI_clamp (by omega)
                have stp : jx (d + 2) 182 161 (w12 p pl r a.o1.length 1 n (some (.int (nI (8 * r + n)))) (some (.int (nI (24 * p + (pl + n))))) (some (.int (nI (opO o)))) (some (.int (nI (regN (opO o))))) (some (.int (nI j)))) [] τ = jx (d + 2) 182 161 (w12 p pl r a.o1.length (if (tkR bj w v).isSome then 1 else 0) n (some (.int (nI (8 * r + n)))) (some (.int (nI (24 * p + (pl + n))))) (some (.int (nI (opO o)))) (some (.int (nI (regN (opO o))))) (some (.int (nI (j + 1))))) [] τ1 := by
                  rw [k182_161, if_neg (nI_ge (by omega) (by omega)), k182_168, if_neg (by decide), k182_173 (sT_47 hSt) t76.2 t47.2 (by rw [t47.1]; exact Or.inl (sT_52 hSt)) (by rw [t47.1, sN_52 hSt, e3k]; exact jin_n (by omega) (by decide)), t47.1, t76.1, e3k, nI_clamp (by omega), a52]
                  rcases (show j = 0 ∨ j = 1 ∨ j = 2 by omega) with h | h | h
                  · subst h
                    have t := R (sR_663_47 hSt)
                    rw [if_neg (fun z => z rfl), k182_194 (sT_47 hSt) t.2 (by rw [t.1]; exact Or.inl (sT_67 hSt)) (by rw [t.1, sN_67 hSt]; exact i384), t.1, c384, aj, e2]
                    simp only [Option.bind_some, Option.toList_some, List.cons_append, List.nil_append]
                    rw [k182_231, ← nI_succ]
                  · subst h
                    have t := R (sR_664_47 hSt)
                    rw [if_pos (by decide), k182_204, if_neg (fun z => z rfl), k182_210 (sT_47 hSt) t.2 (by rw [t.1]; exact Or.inl (sT_68 hSt)) (by rw [t.1, sN_68 hSt]; exact i384), t.1, c384, aj, e2]
                    simp only [Option.bind_some, Option.toList_some, List.cons_append, List.nil_append]
                    rw [k182_231, ← nI_succ]
                  · subst h
                    have t := R (sR_665_47 hSt)
                    rw [if_pos (by decide), k182_204, if_pos (by decide), k182_220 (sT_47 hSt) t.2 (by rw [t.1]; exact Or.inl (sT_69 hSt)) (by rw [t.1, sN_69 hSt]; exact i384), t.1, c384, aj, e2]
                    simp only [Option.bind_some, Option.toList_some, List.cons_append, List.nil_append]
                    rw [k182_231, ← nI_succ]
                have tjj : tkL x.1 o q (j + 1) = tkR bj w v := by
                  show (tkL x.1 o q j).bind _ = _
                  rw [ht']
                  show tkR bj (o (j + 1)).toNatClampNeg (q (j + 1)).toNatClampNeg = _
                  rw [w2, v1, nI_clamp (by omega), nI_clamp (by omega)]
                cases hT : tkR bj w v with
                | none =>
                  rw [hT] at tjj stp
                  have tn := tkL_none tjj (regN (opO o)) (by omega)
                  refine ⟨τ1, G.trans G2', ?_⟩
                  rw [tn]
                  exact stp.trans no161
                | some b1 =>
                  rw [hT] at tjj stp
                  obtain ⟨τ', G', r'⟩ := ihg (j + 1) τ1 b1 (by omega) (G.trans G2') tjj ⟨g2 b1 hT, fun k hk => by rw [(G2.2 77 (by decide)).2]; exact hrb'.2 k hk⟩ (tkR_iv v4 hib hT)
                  refine ⟨τ', G', ?_⟩
                  have stp' : jx (d + 2) 182 161 (w12 p pl r a.o1.length 1 n (some (.int (nI (8 * r + n)))) (some (.int (nI (24 * p + (pl + n))))) (some (.int (nI (opO o)))) (some (.int (nI (regN (opO o))))) (some (.int (nI j)))) [] τ = jx (d + 2) 182 161 (w12 p pl r a.o1.length 1 n (some (.int (nI (8 * r + n)))) (some (.int (nI (24 * p + (pl + n))))) (some (.int (nI (opO o)))) (some (.int (nI (regN (opO o))))) (some (.int (nI (j + 1))))) [] τ1 := stp
                  rw [stp']
                  exact r'
            obtain ⟨τ1, G1, r1⟩ := LR (regN (opO o)) 0 υ x.1 (by omega) F rfl hrb ib
            have to161 : jx (d + 2) 182 91 (w12 p pl r a.o1.length 1 n l7 l8 l9 l10 l11) [] υ = jx (d + 2) 182 161 (w12 p pl r a.o1.length 1 n (some (.int (nI (8 * r + n)))) (some (.int (nI (24 * p + (pl + n))))) (some (.int (nI (opO o)))) (some (.int (nI (regN (opO o))))) (some (.int (nI 0)))) [] υ := by
              rw [to137, if_neg (fun z => z (by rw [hk0, ok2])), k182_151]
              rfl
            cases hL : tkL x.1 o q (regN (opO o)) with
            | none =>
              rw [hL] at r1
              have tn : tkO s.W x o q = none := by unfold tkO; rw [if_pos hk0, hL]; rfl
              exact fin G1 tn (to161.trans r1)
            | some b1 =>
              rw [hL] at r1
              obtain ⟨e2, hrb1, ib1⟩ := r1
              have hS1 := G1.sh hS
              have cn := c143 (d := d + 1) (σ := τ1) ok1
              by_cases hnum : numN (opO o) = true
              · obtain ⟨v, v8, ev⟩ := wq.y
                have tn : tkO s.W x o q = (tkN s.W (opO o) x.2 (o 2) (nI v)).map (fun c' => (b1, c')) := by
                  unfold tkO
                  rw [if_pos hk0, hL]
                  show (if numN (opO o) = true then _ else _) = _
                  rw [if_pos hnum, ev]
                have mt := k3 hnum
                have e2k : (2 : Int32) * nI (8 * r + n) = nI (2 * (8 * r + n)) := by rw [show (2 : Int32) = nI 2 from rfl, nmul]
                have t48 := R (sR_648_47 hS1)
                have t49 := R (sR_649_47 hS1)
                have t64 := R (sR_664_47 hS1)
                have t77 := R (sR_677_47 hS1)
                have i384 : jin 384 (nI (2 * (8 * r + n))) := jin_n (by omega) (by decide)
                have c384 : (nI (2 * (8 * r + n))).toNatClampNeg = 2 * (8 * r + n) := nI_clamp (by omega)
                have j384 : jin 384 (nI (24 * p + (pl + n))) := jin_n (by omega) (by decide)
                have d384 : (nI (24 * p + (pl + n))).toNatClampNeg = 24 * p + (pl + n) := nI_clamp (by omega)
                have a68 : jA τ1 68 (24 * p + (pl + n)) = nI v := by rw [AA G1 68 _ (by decide) (by decide), ← ev]; exact pq 2 (by decide)
                have to252 : jx (d + 2) 182 91 (w12 p pl r a.o1.length 1 n l7 l8 l9 l10 l11) [] υ = if jA τ1 53 (2 * (8 * r + n)) = 0 then jx (d + 2) 182 291 (w12 p pl r a.o1.length 1 n (some (.int (nI (8 * r + n)))) (some (.int (nI (24 * p + (pl + n))))) (some (.int (nI (opO o)))) (some (.int (nI (regN (opO o))))) (some (.int (nI (regN (opO o)))))) [] τ1 else jx (d + 2) 182 264 (w12 p pl r a.o1.length 1 n (some (.int (nI (8 * r + n)))) (some (.int (nI (24 * p + (pl + n))))) (some (.int (nI (opO o)))) (some (.int (nI (regN (opO o))))) (some (.int (nI (regN (opO o)))))) [] τ1 := by
                  rw [to161, e2, k182_239, if_neg (by decide), k182_244, cn, if_pos hnum]
                  simp only [Option.bind_some, Option.toList_some, List.cons_append, List.nil_append]
                  rw [k182_249, if_neg (by decide), k182_252 (sT_47 hS1) t48.2 (by rw [t48.1]; exact Or.inr (sT_53 hS1)) (by rw [t48.1, sN_53 hS1, e2k]; exact i384), t48.1, e2k, c384]
                rcases keep2 hs.w nm3 wo wz hnum with ⟨i, hi, ei, _⟩ | ⟨u, hu, nu, _, eu⟩
                · have q16 := i16n (i := i) (by omega)
                  have mt1 := mt.2 (by rw [ei]; exact q16.1)
                  rw [ei, q16.2.2] at mt1
                  have a53 : jA τ1 53 (2 * (8 * r + n)) = 1 := by rw [AA G1 53 _ (by decide) (by decide)]; exact mt1.1
                  have a54 : jA τ1 54 (2 * (8 * r + n)) = nI i := by rw [AA G1 54 _ (by decide) (by decide)]; exact mt1.2
                  have tnm : tkN s.W (opO o) x.2 (o 2) (nI v) = tkM x.2 i v := by
                    unfold tkN
                    rw [ei, if_pos q16.1, q16.2.2, nI_clamp (by omega), nI_clamp (by omega)]
                  rw [tnm] at tn
                  obtain ⟨τ2, e3, G3, g3⟩ := c183m (d := d + 1) (sT_77 hS1) (sN_77 hS1) hrb1.2 ic (w := i) (by omega) v8
                  have G3' : FR [76, 77] τ1 τ2 := G3.mono (fun a ha => by simp at ha; simp [ha])
                  have stp : jx (d + 2) 182 91 (w12 p pl r a.o1.length 1 n l7 l8 l9 l10 l11) [] υ = jx (d + 2) 182 91 (w12 p pl r a.o1.length (if (tkM x.2 i v).isSome then 1 else 0) (n + 1) (some (.int (nI (8 * r + n)))) (some (.int (nI (24 * p + (pl + n))))) (some (.int (nI (opO o)))) (some (.int (nI (regN (opO o))))) (some (.int (nI (regN (opO o)))))) [] τ2 := by
                    rw [to252, a53, if_neg (by decide), k182_264 (sT_47 hS1) t77.2 t49.2 (by rw [t49.1]; exact Or.inl (sT_54 hS1)) (by rw [t49.1, sN_54 hS1, e2k]; exact i384) t64.2 (by rw [t64.1]; exact Or.inl (sT_68 hS1)) (by rw [t64.1, sN_68 hS1]; exact j384), t77.1, t49.1, t64.1, e2k, c384, d384, a54, a68, e3]
                    simp only [Option.bind_some, Option.toList_some, List.cons_append, List.nil_append]
                    rw [k182_288, ← nI_succ]
                  cases hT : tkM x.2 i v with
                  | none =>
                    rw [hT] at stp tn
                    exact fin (G1.trans G3') tn (stp.trans no91)
                  | some c1 =>
                    rw [hT] at stp tn
                    obtain ⟨σ', e4, F4, r4⟩ := ih (n + 1) τ2 (b1, c1) _ _ _ _ _ (by omega) (G1.trans G3') (tj.trans tn) ⟨fun k hk => by rw [(G3.2 76 (by decide)).2]; exact hrb1.1 k hk, g3 c1 hT⟩ ib1 (tkM_iv v8 ic hT)
                    exact ⟨σ', stp.trans e4, F4, r4⟩
                · have mt0 := mt.1 (by rw [← Int32.not_le]; exact nu)
                  have a53 : jA τ1 53 (2 * (8 * r + n)) = 0 := by rw [AA G1 53 _ (by decide) (by decide)]; exact mt0.1
                  have a54 : jA τ1 54 (2 * (8 * r + n)) = o 2 := by rw [AA G1 54 _ (by decide) (by decide)]; exact mt0.2
                  have w1' : jI τ1 640 47 = nI s.W := by rw [(G1.2 47 (by decide)).1]; exact hM.w
                  have c5 := c155 (d := d) hS1 hs.w w1' ok1 (o 2)
                  rw [eu] at c5
                  have tnm : tkN s.W (opO o) x.2 (o 2) (nI v) = if u = v then some x.2 else none := by
                    unfold tkN
                    rw [if_neg nu, eu]
                    by_cases e : u = v
                    · rw [if_pos (by rw [e]), if_pos e]
                    · rw [if_neg (by rw [n31eq (by omega) (by omega)]; exact e), if_neg e]
                  have to306 : jx (d + 2) 182 91 (w12 p pl r a.o1.length 1 n l7 l8 l9 l10 l11) [] υ = if ¬ (nI u = nI v) then jx (d + 2) 182 320 (w12 p pl r a.o1.length 1 n (some (.int (nI (8 * r + n)))) (some (.int (nI (24 * p + (pl + n))))) (some (.int (nI (opO o)))) (some (.int (nI (regN (opO o))))) (some (.int (nI (regN (opO o)))))) [] τ1 else jx (d + 2) 182 316 (w12 p pl r a.o1.length 1 n (some (.int (nI (8 * r + n)))) (some (.int (nI (24 * p + (pl + n))))) (some (.int (nI (opO o)))) (some (.int (nI (regN (opO o))))) (some (.int (nI (regN (opO o)))))) [] τ1 := by
                    rw [to252, a53, if_pos rfl, k182_291 (sT_47 hS1) t49.2 (by rw [t49.1]; exact Or.inl (sT_54 hS1)) (by rw [t49.1, sN_54 hS1, e2k]; exact i384), t49.1, e2k, c384, a54, c5]
                    simp only [Option.bind_some, Option.toList_some, List.cons_append, List.nil_append]
                    rw [k182_306 (sT_47 hS1) t64.2 (by rw [t64.1]; exact Or.inl (sT_68 hS1)) (by rw [t64.1, sN_68 hS1]; exact j384), t64.1, d384, a68]
                  by_cases e : u = v
                  · rw [tnm, if_pos e] at tn
                    obtain ⟨σ', e4, F4, r4⟩ := ih (n + 1) τ1 (b1, x.2) _ _ _ _ _ (by omega) G1 (tj.trans tn) hrb1 ib1 ic
                    refine ⟨σ', ?_, F4, r4⟩
                    rw [to306, if_neg (fun z => z (by rw [e])), k182_316, ← nI_succ]
                    exact e4
                  · rw [tnm, if_neg e] at tn
                    refine fin G1 tn ?_
                    rw [to306, if_pos (by rw [n31eq (by omega) (by omega)]; exact e), k182_320, ← nI_succ]
                    exact no91
              · have tn : tkO s.W x o q = some (b1, x.2) := by
                  unfold tkO
                  rw [if_pos hk0, hL]
                  show (if numN (opO o) = true then _ else _) = _
                  rw [if_neg hnum]
                obtain ⟨σ', e4, F4, r4⟩ := ih (n + 1) τ1 (b1, x.2) _ _ _ _ _ (by omega) G1 (tj.trans tn) hrb1 ib1 ic
                refine ⟨σ', ?_, F4, r4⟩
                rw [to161, e2, k182_239, if_neg (by decide), k182_244, cn, if_neg hnum]
                simp only [Option.bind_some, Option.toList_some, List.cons_append, List.nil_append]
                rw [k182_249, if_pos rfl, k182_323, ← nI_succ]
                exact e4
          · have tn : tkO s.W x o q = none := by unfold tkO; rw [if_neg hk0]
            refine fin F tn ?_
            rw [to137, if_pos (fun z => hk0 (by rw [z, ok2])), k182_155]
            exact no161 (y := 0)
      obtain ⟨σ', e3, F3, r3⟩ := L a.o1.length 0 σ1 _ none none none none none (by omega) F1 rfl rb1 ⟨(fun i v _ h => nomatch h), (fun i j v _ _ h => nomatch h)⟩ (fun i v _ h => nomatch h)
      refine ⟨σ', ?_, F3, r3⟩
      rw [st, if_neg w1, if_pos w2, e1]
      exact e3
    · have w2 : ¬ nI A.length - nI a.o1.length + nI a.o2.length ≤ 24 := by
        have := fr.m4
        rw [nsub (by omega), nadd, show (24 : Int32) = nI 24 from rfl, n31le (by omega) (by decide)]; omega
      have wf : winF s.W a.o1 a.o2.length A pl = none := if_neg (fun z => c2 z.2)
      refine ⟨σ, ?_, FR.refl _ σ, fun x hx => by rw [wf] at hx; cases hx⟩
      rw [st, if_neg w1, if_neg w2, wf]
      rfl
  · have w1 : nI A.length < nI pl + nI a.o1.length := by rw [nadd, n31 (by omega) (by omega)]; omega
    have wf : winF s.W a.o1 a.o2.length A pl = none := if_neg (fun z => c1 z.1)
    refine ⟨σ, ?_, FR.refl _ σ, fun x hx => by rw [wf] at hx; cases hx⟩
    rw [st, if_pos w1, wf]
    rfl
end WI4
