/-! run, same: whole -/
section SMC
variable {d : Nat} {σ : jS} {s : AS} {cr cp : Nat} {qr qp : Nat → Nat}
theorem top_n {W : Nat} (hW : W = 1 ∨ W = 2 ∨ W = 3) : (1 : Int32) <<< ((8 * nI W) &&& 31) = nI (2 ^ (8 * W)) := by
  rcases hW with h | h | h <;> subst h <;> decide
theorem tw {W : Nat} (hW : W = 1 ∨ W = 2 ∨ W = 3) : 2 ^ (8 * W) ≤ 2 ^ 24 := Nat.pow_le_pow_right (by decide) (by omega)
/-- the class's run of a program of the bench -/
theorem cls_out (hS : SH σ) (hs : WFs s) (hC : CX s cr cp qr qp σ) {p : Nat} (hp : p < s.ps.length) (bits : Int32) : ∃ σ', jx (d + 2) 69 0 [some (.ref 25), some (.ref (qp p)), some (.int bits), some (.int (nI s.W)), none, none, none, none] [] σ = some (some (.int (pkU s.W (exL s.W (s.ps.getD p []) (unp s.W bits)) 8)), σ') ∧ FR [26] σ σ' := by
  have b := hC.dj.p p (by have := hC.lp.1; omega)
  exact c69 (d := d) (sT_25 hS) (sR_128_25 hS) (sT_26 hS) (sN_26 hS) (hC.ps p hp) (by omega) (by omega) (hs.fp _ (mem_ps hp)).2 hs.w bits
theorem sim_run (hR : REL s cr cp qr qp σ) (x y : Int32) : SimR (d + 3) 112 192 [some (.int x), some (.int y), none] [some (.int x), some (.int y)] true σ := by
  have hR0 := hR
  obtain ⟨hS, hx, hs, hC, hM⟩ := hR
  have hl := hs.p16
  have t24 := tw hs.w
  have rd : ∀ v : Int32, jx (d + 3) 112 0 [some (.ref 16), some (.int x), some (.int y), none] [] σ = some (some (.int v), σ) → jx (d + 3) 192 0 [some (.ref 47), some (.int x), some (.int y)] [] σ = some (some (.int v), σ) → SimR (d + 3) 112 192 [some (.int x), some (.int y), none] [some (.int x), some (.int y)] true σ := fun v h1 h2 => SimR.read hR0 h1 h2 (fun _ => rfl)
  have r7 : (jR σ 578 16).getD 0 = 25 := by rw [sR_578_16 hS]; rfl
  have n7 : jR σ 578 16 ≠ none := by rw [sR_578_16 hS]; exact fun z => nomatch z
  have wc := hC.w
  have wm := hM.w
  have tp := top_n hs.w
  by_cases h : inR x s.ps.length
  · have a2 := c170y (d := d + 1) hS hM hs h
    obtain ⟨p, hp, ep⟩ := inR_nat (by omega) h
    have a1 := c86y (d := d + 2) hS hC hs hp
    rw [← ep] at a1
    by_cases h2 : inR y (2 ^ (8 * s.W))
    · obtain ⟨σ1, e1, F1⟩ := cls_out (d := d) hS hs hC hp y
      have hS1 := F1.sh hS
      have hC1 : CX s cr cp qr qp σ1 := hC.scr F1 (by decide)
      have hM1 := hM.sm (F1.sm (fun a h1 h2 => by simp; omega))
      obtain ⟨σ2, e2, F2⟩ := c193 (d := d + 1) hS1 hs.w hM1.w (p := p) (by omega) (hM1.ps p hp) (hs.fp _ (mem_ps hp)).2 y
      have hM2 : CM s σ2 := hM1.ar hs (P := fun a _ => a = 49) (fun g _ _ _ => (F2.2 47 (by decide)).1 g) (fun a i h1 h2 hn => (F2.2 a (by simpa using hn)).2 i) (fun a i hp => by unfold PSF; omega)
      have sc2 := F2.sc (fun a ha => by simp at ha; omega)
      have a2' := c170y (d := d + 1) hS1 hM1 hs h
      rw [← ep] at e2
      have nx1 : jnx σ1 = jnx σ := F1.1.2.2.2.2.1
      have nx2 : jnx σ2 = jnx σ1 := F2.1.2.2.2.2.1
      have sl1 : jsl σ1 = jsl σ := F1.1.2.2.2.2.2
      have sl2 : jsl σ2 = jsl σ1 := F2.1.2.2.2.2.2
      refine ⟨pkU s.W (exL s.W (s.ps.getD p []) (unp s.W y)) 8, pkU s.W (exL s.W (s.ps.getD p []) (unp s.W y)) 8, σ1, σ2, s, cr, cp, qr, qp, ?_, ?_, ⟨F2.sh hS1, by omega, hs, CX.sc (by omega) hC1 sc2, hM2⟩, by omega, by omega, (F1.low (by simp)).trans (sc2.low (by omega)), fun _ => rfl⟩
      · rw [k112_0 (sT_16 hS), a1]
        simp only [Option.bind_some, Option.toList_some, List.cons_append, List.nil_append]
        rw [k112_5R, if_neg h2.1, k112_14 (sT_16 hS), wc, tp, if_pos h2.2, k112_29R (sT_16 hS) n7 (by rw [r7]; exact sT_25 hS), r7, wc, e1]
        simp only [Option.bind_some, Option.toList_some, List.cons_append, List.nil_append]
        rw [k112_42]
      · rw [k192_0 (sT_47 hS1), a2']
        simp only [Option.bind_some, Option.toList_some, List.cons_append, List.nil_append]
        rw [k192_5, if_neg (by decide), k192_8 (sT_47 hS1), hM1.w, tp, cin0, if_pos ((rng_iff (by omega)).mpr h2)]
        simp only [Option.bind_some, Option.toList_some, List.cons_append, List.nil_append]
        rw [k192_26, if_pos (by decide), k192_31 (sT_47 hS1), e2]
        simp only [Option.bind_some, Option.toList_some, List.cons_append, List.nil_append]
        rw [k192_37]
    · refine rd (-1) ?_ ?_
      · rw [k112_0 (sT_16 hS), a1]
        simp only [Option.bind_some, Option.toList_some, List.cons_append, List.nil_append]
        rw [k112_5R]
        by_cases h0 : y < 0
        · rw [if_pos h0, k112_27]
        · rw [if_neg h0, k112_14 (sT_16 hS), wc, tp, if_neg (fun z => h2 ⟨h0, z⟩), k112_27]
      · rw [k192_0 (sT_47 hS), a2]
        simp only [Option.bind_some, Option.toList_some, List.cons_append, List.nil_append]
        rw [k192_5, if_neg (by decide), k192_8 (sT_47 hS), wm, tp, cin0, if_neg (fun z => h2 ((rng_iff (by omega)).mp z))]
        simp only [Option.bind_some, Option.toList_some, List.cons_append, List.nil_append]
        rw [k192_26, if_neg (fun z => z rfl), k192_29]
  · have a1 := c86n (d := d + 2) hS hC h
    have a2 := c170n (d := d + 1) hS hM hs h
    refine rd (-1) ?_ ?_
    · rw [k112_0 (sT_16 hS), a1]
      simp only [Option.bind_some, Option.toList_some, List.cons_append, List.nil_append]
      rw [k112_5N]
    · rw [k192_0 (sT_47 hS), a2]
      simp only [Option.bind_some, Option.toList_some, List.cons_append, List.nil_append]
      rw [k192_5, if_pos rfl, k192_29]
theorem PWF.opk {o : Nat → Int32} (h : PWF o) : OPk o := by
  obtain ⟨K, x, y, z, ⟨b1, b2, b3, b4, b5⟩, e0, e1, e2, e3⟩ := h
  have ek : opO o = K := by unfold opO; rw [e0]; exact nI_clamp (by omega)
  exact ⟨by rw [ek]; exact b1, by rw [ek]; exact e0⟩
theorem c115 {q a m W : Nat} {os : List (Nat → Int32)} (hR : RO σ q a m os) (hS : SH σ) (hQ : ST σ) (hk : ∀ o, o ∈ os → PWF o) : jx (d + 2) 115 0 [some (.ref q), some (.int (nI W)), none, none, none, none, none] [] σ = some (some (.int (nmL W os 0)), σ) := by
  have tq := hR.1.1
  have ln : jI σ 257 q = nI os.length := hR.1.2.2.2.2.2.1
  have l24 : os.length ≤ 24 := Nat.le_trans hR.1.2.2.2.2.2.2.1 hR.1.2.2.2.2.2.2.2
  have L : ∀ f n c l5 l6, n + f = os.length → jx (d + 2) 115 11 [some (.ref q), some (.int (nI W)), some (.int (mkW W)), some (.int c), some (.int (nI n)), l5, l6] [] σ = some (some (.int (nmL W (os.drop n) c)), σ) := by
    intro f
    induction f with
    | zero =>
      intro n c l5 l6 hn
      have e : n = os.length := by omega
      subst e
      rw [k115_11 tq, ln, if_pos (nI_le (Nat.le_refl _) (by omega)), k115_93, List.drop_length]
      rfl
    | succ f ih =>
      intro n c l5 l6 hn
      have hlt : n < os.length := by omega
      obtain ⟨o, eo⟩ : ∃ o, os.getD n (fun _ => 0) = o := ⟨_, rfl⟩
      have hpo := hk _ (mem_getD hlt)
      rw [eo] at hpo
      obtain ⟨ok1, ok2⟩ := hpo.opk
      have c0 := c51 (d := d) hR hlt (j := 0) (by decide)
      rw [eo, ok2] at c0
      have dr : os.drop n = o :: os.drop (n + 1) := by
        rw [List.drop_eq_getElem_cons hlt, ← eo, List.getD_eq_getElem?_getD, List.getElem?_eq_getElem hlt]; rfl
      have rg3 := regN3 (opO o)
      have I : ∀ g j, j + g = regN (opO o) → jx (d + 2) 115 32 [some (.ref q), some (.int (nI W)), some (.int (mkW W)), some (.int (nmS W o j c)), some (.int (nI n)), some (.int (nI (opO o))), some (.int (nI (j + 1)))] [] σ = jx (d + 2) 115 63 [some (.ref q), some (.int (nI W)), some (.int (mkW W)), some (.int (nmS W o (regN (opO o)) c)), some (.int (nI n)), some (.int (nI (opO o))), some (.int (nI (regN (opO o) + 1)))] [] σ := by
        intro g
        induction g with
        | zero =>
          intro j hj
          have e : j = regN (opO o) := by omega
          subst e
          rw [k115_32, c34 hS hQ ok1]
          simp only [Option.bind_some, Option.toList_some, List.cons_append, List.nil_append]
          rw [k115_39, if_pos (by rw [n31 (by omega) (by omega)]; omega)]
        | succ g ihg =>
          intro j hj
          have cj := c51 (d := d) hR hlt (j := j + 1) (by omega)
          rw [eo] at cj
          rw [k115_32, c34 hS hQ ok1]
          simp only [Option.bind_some, Option.toList_some, List.cons_append, List.nil_append]
          rw [k115_39, if_neg (by rw [n31 (by omega) (by omega)]; omega), k115_42 tq, cj]
          simp only [Option.bind_some, Option.toList_some, List.cons_append, List.nil_append]
          rw [k115_52, ← nI_succ]
          exact ihg (j + 1) (by omega)
      have I0 := I (regN (opO o)) 0 (by omega)
      have I0' : jx (d + 2) 115 32 [some (.ref q), some (.int (nI W)), some (.int (mkW W)), some (.int c), some (.int (nI n)), some (.int (nI (opO o))), some (.int 1)] [] σ = _ := I0
      rw [k115_11 tq, ln, if_neg (nI_ge (by omega) (by omega)), k115_20 tq]
      have c0' : jx (d + 1) 51 0 [some (.ref q), some (.int (nI n)), some (.int 0)] [] σ = _ := c0
      rw [c0']
      simp only [Option.bind_some, Option.toList_some, List.cons_append, List.nil_append]
      rw [k115_27, I0', k115_63, c41 ok1]
      simp only [Option.bind_some, Option.toList_some, List.cons_append, List.nil_append]
      rw [k115_68, dr]
      have st : nmL W (o :: os.drop (n + 1)) c = nmL W (os.drop (n + 1)) (nmA W c o) := rfl
      rw [st]
      by_cases hc : celN (opO o) = true
      · have c2 := c51 (d := d) hR hlt (j := 2) (by decide)
        rw [eo] at c2
        have c2' : jx (d + 1) 51 0 [some (.ref q), some (.int (nI n)), some (.int 2)] [] σ = _ := c2
        have e : nmA W c o = nmS W o (regN (opO o)) c ||| (mkW W <<< (((4 + o 2) * nI W) &&& 31)) := if_pos hc
        rw [if_pos hc, if_neg (by decide), k115_71 tq, c2']
        simp only [Option.bind_some, Option.toList_some, List.cons_append, List.nil_append]
        rw [k115_81, ← nI_succ, ih (n + 1) _ _ _ (by omega), e]
      · have e : nmA W c o = nmS W o (regN (opO o)) c := if_neg hc
        rw [if_neg hc, if_pos rfl, k115_87, ← nI_succ, ih (n + 1) _ _ _ (by omega), e]
  have := L os.length 0 0 none none (by omega)
  rw [List.drop_zero] at this
  rw [k115_0]
  exact this
end SMC
