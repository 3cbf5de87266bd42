/-! both keep step: what a call must show; calls that only read -/
def REL (s : AS) (cr cp : Nat) (qr qp : Nat → Nat) (σ : jS) : Prop := SH σ ∧ 81 ≤ jnx σ ∧ WFs s ∧ CX s cr cp qr qp σ ∧ CM s σ
def low (σ σ' : jS) : Prop := ∀ a, a < 16 → jT σ' a = jT σ a ∧ jN σ' a = jN σ a ∧ ∀ i, jA σ' a i = jA σ a i
def SimR (d Mx Mm : Nat) (Lx Lm : List (Option Value)) (eqv : Bool) (σ : jS) : Prop := ∃ a a' σ1 σ2 s' cr' cp' qr' qp', jx d Mx 0 (some (.ref 16) :: Lx) [] σ = some (some (.int a), σ1) ∧ jx d Mm 0 (some (.ref 47) :: Lm) [] σ1 = some (some (.int a'), σ2) ∧ REL s' cr' cp' qr' qp' σ2 ∧ jnx σ2 ≤ jnx σ + 40 ∧ jsl σ2 ≤ jsl σ + 600 ∧ low σ σ2 ∧ (eqv = true → a = a')
theorem low.refl (σ : jS) : low σ σ := fun _ _ => ⟨rfl, rfl, fun _ => rfl⟩
theorem low.trans {σ τ υ : jS} (h : low σ τ) (k : low τ υ) : low σ υ := fun a ha => ⟨(k a ha).1.trans (h a ha).1, (k a ha).2.1.trans (h a ha).2.1, fun i => ((k a ha).2.2 i).trans ((h a ha).2.2 i)⟩
theorem FR.low {l : List Nat} {σ σ' : jS} (f : FR l σ σ') (hl : ∀ a, a ∈ l → 16 ≤ a) : low σ σ' := fun a ha => ⟨by rw [f.1.1], by rw [f.1.2.1], (f.2 a (fun z => by have := hl a z; omega)).2⟩
theorem sameC.low {σ σ' : jS} (f : sameC σ σ') (hx : 81 ≤ jnx σ) : low σ σ' := fun a ha =>
  have x := f.2 a (by omega) (Or.inl (by omega))
  ⟨x.1, x.2.1, x.2.2.2.2.1⟩
theorem SimR.read {d Mx Mm : Nat} {Lx Lm : List (Option Value)} {eqv : Bool} {σ : jS} {s : AS} {cr cp : Nat} {qr qp : Nat → Nat} (hR : REL s cr cp qr qp σ) {a a' : Int32} (h1 : jx d Mx 0 (some (.ref 16) :: Lx) [] σ = some (some (.int a), σ)) (h2 : jx d Mm 0 (some (.ref 47) :: Lm) [] σ = some (some (.int a'), σ)) (e : eqv = true → a = a') : SimR d Mx Mm Lx Lm eqv σ :=
  ⟨a, a', σ, σ, s, cr, cp, qr, qp, h1, h2, hR, by omega, by omega, low.refl σ, e⟩
def inR (x : Int32) (n : Nat) : Prop := ¬ x < 0 ∧ x < nI n
theorem inR_nat {x : Int32} {n : Nat} (hn : n < 2 ^ 31) (h : inR x n) : ∃ k, k < n ∧ x = nI k := by
  have q := i32_nat (c := x) (n := n) hn h.1 (by rw [Int32.not_le]; exact h.2)
  exact ⟨x.toNatClampNeg, q.2, q.1⟩
theorem inR_k {k n : Nat} (hn : n < 2 ^ 31) (h : k < n) : inR (nI k) n := ⟨nn0 (by omega), by rw [n31 (by omega) hn]; exact h⟩
theorem rng_iff {x : Int32} {n : Nat} (hn : n < 2 ^ 31) : (0 ≤ x ∧ x ≤ nI n - 1) ↔ inR x n := by
  unfold inR
  rw [Int32.not_lt, Int32.le_iff_toInt_le, Int32.le_iff_toInt_le, Int32.lt_iff_toInt_lt, nI_toInt hn]
  have z : (0 : Int32).toInt = 0 := rfl
  by_cases h0 : n = 0
  · subst h0
    have e : (nI 0 - 1).toInt = -1 := rfl
    rw [e]
    omega
  · have e : nI n - 1 = nI (n - 1) := by rw [show (1 : Int32) = nI 1 from rfl, nsub (by omega)]
    rw [e, nI_toInt (by omega)]
    omega
section SIM
variable {d : Nat} {σ : jS} {s : AS} {cr cp : Nat} {qr qp : Nat → Nat}
theorem cin0 {x y : Int32} : jx d 123 0 [some (.long x.toInt64), none, some (.long 0), none, some (.long y.toInt64), none] [] σ = some (some (.int (if 0 ≤ x ∧ x ≤ y then 1 else 0)), σ) := c123 (b := 0)
theorem c162 (hS : SH σ) (hM : CM s σ) (hs : WFs s) (x : Int32) : ∃ v : Int32, jx (d + 1) 162 0 [some (.ref 47), some (.int x)] [] σ = some (some (.int v), σ) ∧ (v = 0 ∨ v = 1) ∧ (v = 1 ↔ inR x s.rs.length) := by
  have hl := hs.r24
  by_cases h : 0 ≤ x ∧ x ≤ nI s.rs.length - 1
  · refine ⟨1, ?_, Or.inr rfl, ⟨fun _ => (rng_iff (by omega)).mp h, fun _ => rfl⟩⟩
    rw [k162_0 (sT_47 hS), hM.nr, cin0, if_pos h]
    simp only [Option.bind_some, Option.toList_some, List.cons_append, List.nil_append]
    rw [k162_13 (by decide)]
  · refine ⟨0, ?_, Or.inl rfl, ⟨fun z => absurd z (by decide), fun z => absurd ((rng_iff (by omega)).mpr z) h⟩⟩
    rw [k162_0 (sT_47 hS), hM.nr, cin0, if_neg h]
    simp only [Option.bind_some, Option.toList_some, List.cons_append, List.nil_append]
    rw [k162_13 (by decide)]
theorem c170 (hS : SH σ) (hM : CM s σ) (hs : WFs s) (x : Int32) : ∃ v : Int32, jx (d + 1) 170 0 [some (.ref 47), some (.int x)] [] σ = some (some (.int v), σ) ∧ (v = 0 ∨ v = 1) ∧ (v = 1 ↔ inR x s.ps.length) := by
  have hl := hs.p16
  by_cases h : 0 ≤ x ∧ x ≤ nI s.ps.length - 1
  · refine ⟨1, ?_, Or.inr rfl, ⟨fun _ => (rng_iff (by omega)).mp h, fun _ => rfl⟩⟩
    rw [k170_0 (sT_47 hS), hM.np, cin0, if_pos h]
    simp only [Option.bind_some, Option.toList_some, List.cons_append, List.nil_append]
    rw [k170_13 (by decide)]
  · refine ⟨0, ?_, Or.inl rfl, ⟨fun z => absurd z (by decide), fun z => absurd ((rng_iff (by omega)).mpr z) h⟩⟩
    rw [k170_0 (sT_47 hS), hM.np, cin0, if_neg h]
    simp only [Option.bind_some, Option.toList_some, List.cons_append, List.nil_append]
    rw [k170_13 (by decide)]
/-- isRule and isProgram, told by cases -/
theorem c162y (hS : SH σ) (hM : CM s σ) (hs : WFs s) {x : Int32} (h : inR x s.rs.length) : jx (d + 1) 162 0 [some (.ref 47), some (.int x)] [] σ = some (some (.int 1), σ) := by
  obtain ⟨v, e, _, q⟩ := c162 (d := d) hS hM hs x
  rw [q.mpr h] at e; exact e
theorem c162n (hS : SH σ) (hM : CM s σ) (hs : WFs s) {x : Int32} (h : ¬ inR x s.rs.length) : jx (d + 1) 162 0 [some (.ref 47), some (.int x)] [] σ = some (some (.int 0), σ) := by
  obtain ⟨v, e, o, q⟩ := c162 (d := d) hS hM hs x
  rcases o with o | o
  · rw [o] at e; exact e
  · exact absurd (q.mp o) h
theorem c170y (hS : SH σ) (hM : CM s σ) (hs : WFs s) {x : Int32} (h : inR x s.ps.length) : jx (d + 1) 170 0 [some (.ref 47), some (.int x)] [] σ = some (some (.int 1), σ) := by
  obtain ⟨v, e, _, q⟩ := c170 (d := d) hS hM hs x
  rw [q.mpr h] at e; exact e
theorem c170n (hS : SH σ) (hM : CM s σ) (hs : WFs s) {x : Int32} (h : ¬ inR x s.ps.length) : jx (d + 1) 170 0 [some (.ref 47), some (.int x)] [] σ = some (some (.int 0), σ) := by
  obtain ⟨v, e, o, q⟩ := c170 (d := d) hS hM hs x
  rcases o with o | o
  · rw [o] at e; exact e
  · exact absurd (q.mp o) h
theorem c81y (hS : SH σ) (hC : CX s cr cp qr qp σ) (hs : WFs s) {k : Nat} (h : k < s.rs.length) : jx d 81 0 [some (.ref 16), some (.int (nI k))] [] σ = some (some (.ref (qr k)), σ) := by
  have hl := hs.r24
  have rg : (jR σ 583 16).getD 0 = 45 := by rw [sR_583_16 hS]; rfl
  have rn : jR σ 583 16 ≠ none := by rw [sR_583_16 hS]; exact fun z => nomatch z
  have g24 : ¬ Int32.ofNat 24 ≤ nI k := nI_ge (by omega) (by omega)
  have gg := (hC.gr k (Nat.lt_of_lt_of_le h hC.lr.1)).1
  rw [k81_0, if_neg (nn0 (by omega)), k81_4 (sT_16 hS), hC.nr, if_neg (nI_ge h (by omega)), k81_12 (sT_16 hS) rn (by rw [rg, sT_45 hS]; decide), rg, sN_45 hS, if_neg g24, k81_21 (sT_16 hS) rn (by rw [rg, sT_45 hS]; decide) (by rw [rg, sN_45 hS]; exact jin_n (by omega) (by decide)), rg, nI_clamp (by omega), gg]
  exact k81_27R
theorem c81n (hS : SH σ) (hC : CX s cr cp qr qp σ) {x : Int32} (h : ¬ inR x s.rs.length) : jx d 81 0 [some (.ref 16), some (.int x)] [] σ = some (some .null, σ) := by
  rw [k81_0]
  by_cases h0 : x < 0
  · rw [if_pos h0, k81_30]
  · have h1 : nI s.rs.length ≤ x := by rw [← Int32.not_lt]; exact fun z => h ⟨h0, z⟩
    rw [if_neg h0, k81_4 (sT_16 hS), hC.nr, if_pos h1, k81_30]
theorem c86y (hS : SH σ) (hC : CX s cr cp qr qp σ) (hs : WFs s) {k : Nat} (h : k < s.ps.length) : jx d 86 0 [some (.ref 16), some (.int (nI k))] [] σ = some (some (.ref (qp k)), σ) := by
  have hl := hs.p16
  have rg : (jR σ 584 16).getD 0 = 46 := by rw [sR_584_16 hS]; rfl
  have rn : jR σ 584 16 ≠ none := by rw [sR_584_16 hS]; exact fun z => nomatch z
  have g16 : ¬ Int32.ofNat 16 ≤ nI k := nI_ge (by omega) (by omega)
  have gg := (hC.gp k (Nat.lt_of_lt_of_le h hC.lp.1)).1
  rw [k86_0, if_neg (nn0 (by omega)), k86_4 (sT_16 hS), hC.np, if_neg (nI_ge h (by omega)), k86_12 (sT_16 hS) rn (by rw [rg, sT_46 hS]; decide), rg, sN_46 hS, if_neg g16, k86_21 (sT_16 hS) rn (by rw [rg, sT_46 hS]; decide) (by rw [rg, sN_46 hS]; exact jin_n (by omega) (by decide)), rg, nI_clamp (by omega), gg]
  exact k86_27R
theorem c86n (hS : SH σ) (hC : CX s cr cp qr qp σ) {x : Int32} (h : ¬ inR x s.ps.length) : jx d 86 0 [some (.ref 16), some (.int x)] [] σ = some (some .null, σ) := by
  rw [k86_0]
  by_cases h0 : x < 0
  · rw [if_pos h0, k86_30]
  · have h1 : nI s.ps.length ≤ x := by rw [← Int32.not_lt]; exact fun z => h ⟨h0, z⟩
    rw [if_neg h0, k86_4 (sT_16 hS), hC.np, if_pos h1, k86_30]
theorem sim_differs (hR : REL s cr cp qr qp σ) : SimR d 116 195 [] [] true σ := by
  have hR0 := hR
  obtain ⟨hS, hx, hs, hC, hM⟩ := hR
  exact SimR.read hR0 (by rw [k116_0 (sT_16 hS), hC.ap]) (by rw [k195_0 (sT_47 hS), hM.ap]) (fun _ => rfl)
theorem sim_step (hR : REL s cr cp qr qp σ) (x y : Int32) : SimR (d + 1) 110 190 [some (.int x), some (.int y)] [some (.int x), some (.int y)] true σ := by
  have hR0 := hR
  obtain ⟨hS, hx, hs, hC, hM⟩ := hR
  have hn := hs.n144
  have r1 : (jR σ 582 16).getD 0 = 43 := by rw [sR_582_16 hS]; rfl
  have n1 : jR σ 582 16 ≠ none := by rw [sR_582_16 hS]; exact fun z => nomatch z
  have r2 : (jR σ 384 43).getD 0 = 44 := by rw [sR_384_43 hS]; rfl
  have n2 : jR σ 384 43 ≠ none := by rw [sR_384_43 hS]; exact fun z => nomatch z
  by_cases h : inR x s.ns
  · obtain ⟨k, hk, ek⟩ := inR_nat (by omega) h
    have cq : ∀ y0 : Int32, jx (d + 1) 190 0 [some (.ref 47), some (.int x), some (.int y)] [] σ = jx (d + 1) 190 18 [some (.ref 47), some (.int x), some (.int y)] [] σ := fun _ => by
      rw [k190_0 (sT_47 hS), hM.ns, cin0, if_pos ((rng_iff (by omega)).mpr h)]
      simp only [Option.bind_some, Option.toList_some, List.cons_append, List.nil_append]
      rw [k190_13, if_pos (by decide)]
    have cc : jx (d + 1) 110 0 [some (.ref 16), some (.int x), some (.int y)] [] σ = jx (d + 1) 110 15 [some (.ref 16), some (.int x), some (.int y)] [] σ := by
      rw [k110_0, if_neg h.1, k110_4 (sT_16 hS) n1 (by rw [r1]; exact sT_43 hS), r1, hC.ns, if_neg (by rw [Int32.not_le]; exact h.2)]
    have rd : ∀ w, w < 3 → y = nI w → jx (d + 1) 110 15 [some (.ref 16), some (.int x), some (.int y)] [] σ = some (some (.int (s.tl k w)), σ) := by
      intro w hw ew
      have e3 : nI k * 3 + nI w = nI (3 * k + w) := by rw [show (3 : Int32) = nI 3 from rfl, nmul, nadd, Nat.mul_comm]
      have lt3 : nI w < (3 : Int32) := by rw [show (3 : Int32) = nI 3 from rfl, n31 (by omega) (by decide)]; exact hw
      rw [ek, ew, k110_15, if_neg (nn0 (by omega)), k110_19, if_pos lt3, k110_26 (sT_16 hS) n1 (by rw [r1]; exact sT_43 hS) (by rw [r1]; exact n2) (by rw [r1, r2]; exact Or.inl (sT_44 hS)) (by rw [r1, r2, sN_44 hS, e3]; exact jin_n (by omega) (by decide)), r1, r2, e3, nI_clamp (by omega), hC.tl k w hk hw]
    by_cases y0 : y = 0
    · have t := hM.tl k 0 hk (by decide)
      refine SimR.read hR0 (a := s.tl k 0) (a' := s.tl k 0) (cc.trans (rd 0 (by decide) y0)) ?_ (fun _ => rfl)
      have rg : (jR σ 679 47).getD 0 = 78 := by rw [sR_679_47 hS]; rfl
      show jx (d + 1) 190 0 [some (.ref 47), some (.int x), some (.int y)] [] σ = _
      rw [cq 0, k190_18, if_neg (fun z => z y0), ek, k190_22 (sT_47 hS) (by rw [sR_679_47 hS]; exact fun z => nomatch z) (by rw [rg]; exact Or.inl (sT_78 hS)) (by rw [rg, sN_78 hS]; exact jin_n (by omega) (by decide)), rg, nI_clamp (by omega), t]
    by_cases y1 : y = 1
    · have t := hM.tl k 1 hk (by decide)
      refine SimR.read hR0 (a := s.tl k 1) (a' := s.tl k 1) (cc.trans (rd 1 (by decide) y1)) ?_ (fun _ => rfl)
      have rg : (jR σ 680 47).getD 0 = 79 := by rw [sR_680_47 hS]; rfl
      show jx (d + 1) 190 0 [some (.ref 47), some (.int x), some (.int y)] [] σ = _
      rw [cq 0, k190_18, if_pos y0, k190_31, if_neg (fun z => z y1), ek, k190_36 (sT_47 hS) (by rw [sR_680_47 hS]; exact fun z => nomatch z) (by rw [rg]; exact Or.inl (sT_79 hS)) (by rw [rg, sN_79 hS]; exact jin_n (by omega) (by decide)), rg, nI_clamp (by omega), t]
    by_cases y2 : y = 2
    · have t := hM.tl k 2 hk (by decide)
      refine SimR.read hR0 (a := s.tl k 2) (a' := s.tl k 2) (cc.trans (rd 2 (by decide) y2)) ?_ (fun _ => rfl)
      have rg : (jR σ 681 47).getD 0 = 80 := by rw [sR_681_47 hS]; rfl
      show jx (d + 1) 190 0 [some (.ref 47), some (.int x), some (.int y)] [] σ = _
      rw [cq 0, k190_18, if_pos y0, k190_31, if_pos y1, k190_45, if_neg (fun z => z y2), ek, k190_50 (sT_47 hS) (by rw [sR_681_47 hS]; exact fun z => nomatch z) (by rw [rg]; exact Or.inl (sT_80 hS)) (by rw [rg, sN_80 hS]; exact jin_n (by omega) (by decide)), rg, nI_clamp (by omega), t]
    · refine SimR.read hR0 (a := -1) (a' := -1) ?_ ?_ (fun _ => rfl)
      · show jx (d + 1) 110 0 [some (.ref 16), some (.int x), some (.int y)] [] σ = _
        rw [cc, k110_15]
        by_cases n0 : y < 0
        · rw [if_pos n0, k110_24]
        · rw [if_neg n0, k110_19]
          by_cases l3 : y < 3
          · exfalso
            have q := i32_nat (c := y) (n := 3) (by decide) n0 (by rw [Int32.not_le]; exact l3)
            have : y.toNatClampNeg = 0 ∨ y.toNatClampNeg = 1 ∨ y.toNatClampNeg = 2 := by omega
            rcases this with e | e | e
            · rw [e] at q; exact y0 q.1
            · rw [e] at q; exact y1 q.1
            · rw [e] at q; exact y2 q.1
          · rw [if_neg l3, k110_24]
      · show jx (d + 1) 190 0 [some (.ref 47), some (.int x), some (.int y)] [] σ = _
        rw [cq 0, k190_18, if_pos y0, k190_31, if_pos y1, k190_45, if_pos y2, k190_59]
  · refine SimR.read hR0 (a := -1) (a' := -1) ?_ ?_ (fun _ => rfl)
    · show jx (d + 1) 110 0 [some (.ref 16), some (.int x), some (.int y)] [] σ = _
      rw [k110_0]
      by_cases h0 : x < 0
      · rw [if_pos h0, k110_24]
      · have h1 : nI s.ns ≤ x := by rw [← Int32.not_lt]; exact fun z => h ⟨h0, z⟩
        rw [if_neg h0, k110_4 (sT_16 hS) n1 (by rw [r1]; exact sT_43 hS), r1, hC.ns, if_pos h1, k110_24]
    · show jx (d + 1) 190 0 [some (.ref 47), some (.int x), some (.int y)] [] σ = _
      rw [k190_0 (sT_47 hS), hM.ns, cin0, if_neg (fun z => h ((rng_iff (by omega)).mp z))]
      simp only [Option.bind_some, Option.toList_some, List.cons_append, List.nil_append]
      rw [k190_13, if_neg (fun z => z rfl), k190_16]
end SIM
