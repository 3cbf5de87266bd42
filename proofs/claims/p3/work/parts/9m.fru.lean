/-! a rule's place, made or used again -/
theorem RW.js {σ σ' : jS} {q a m n : Nat} (h : RW σ q a m n) (x : jsm σ σ' q) (y : jsm σ σ' a) : RW σ' q a m n := by
  obtain ⟨r1, r2, r3, r4, r5, r6, r7, r8⟩ := h
  exact ⟨by rw [x.1]; exact r1, by rw [x.2.2.2.1]; exact r2, by rw [y.1]; exact r3, by rw [y.2.1]; exact r4, by rw [x.2.2.1]; exact r5, by rw [x.2.2.1]; exact r6, r7, r8⟩
section FRU
variable {d : Nat} {σ : jS} {s : AS} {cr cp : Nat} {qr qp : Nat → Nat}
theorem c19 {q : Nat} (tq : jT σ q = 6) (hq : q + 1 = jnx σ) (hb : 81 ≤ q) : ∃ σ', jx (d + 2) 19 0 [some (.ref q)] [] σ = some (none, σ') ∧ jnx σ' = q + 7 ∧ jsl σ' = jsl σ + 76 ∧ (∀ a, a < q → jsm σ σ' a) ∧ RU σ' q (q + 1) (q + 2) (q + 3) (q + 4) (q + 5) (q + 6) ∧ RW σ' (q + 1) (q + 2) 4 0 ∧ RW σ' (q + 3) (q + 4) 4 0 := by
  obtain ⟨τ1, e1⟩ : ∃ τ, jnO σ 4 3 = τ := ⟨_, rfl⟩
  have t1 : jT τ1 (q + 1) = 5 := by rw [← e1, zO_T, if_pos hq]
  have n1 : jnx τ1 = q + 2 := by rw [← e1, zO_nx, ← hq]
  have j1 : ∀ a, a < q + 1 → jsm σ τ1 a := fun a ha => e1 ▸ jsm_O (by omega)
  obtain ⟨υ1, c1, n2, l2, j2, w2, _⟩ := c9 (d := d) (σ := τ1) (q := q + 1) (m := 4) t1 (by omega) (by decide)
  rw [n1] at w2 n2 j2
  obtain ⟨τ3, e3⟩ : ∃ τ, jsR υ1 320 q (some (q + 1)) = τ := ⟨_, rfl⟩
  have j3 : ∀ a, a ≠ q → jsm υ1 τ3 a := fun a ha => e3 ▸ jsm_R ha
  have n3 : jnx τ3 = q + 3 := by rw [← e3, zR_nx, n2]
  obtain ⟨τ4, e4⟩ : ∃ τ, jnO τ3 4 3 = τ := ⟨_, rfl⟩
  have t4 : jT τ4 (q + 3) = 5 := by rw [← e4, zO_T, if_pos n3.symm]
  have n4 : jnx τ4 = q + 4 := by rw [← e4, zO_nx, n3]
  have j4 : ∀ a, a < q + 3 → jsm τ3 τ4 a := fun a ha => e4 ▸ jsm_O (by omega)
  obtain ⟨υ2, c2, n5, l5, j5, w5, _⟩ := c9 (d := d) (σ := τ4) (q := q + 3) (m := 4) t4 (by omega) (by decide)
  rw [n4] at w5 n5 j5
  obtain ⟨τ6, e6⟩ : ∃ τ, jsR υ2 321 q (some (q + 3)) = τ := ⟨_, rfl⟩
  have j6 : ∀ a, a ≠ q → jsm υ2 τ6 a := fun a ha => e6 ▸ jsm_R ha
  have n6 : jnx τ6 = q + 5 := by rw [← e6, zR_nx, n5]
  obtain ⟨τ7, e7⟩ : ∃ τ, jnA τ6 0 11 = τ := ⟨_, rfl⟩
  have n7 : jnx τ7 = q + 6 := by rw [← e7, zB_nx, n6]
  have j7 : ∀ a, a < q + 5 → jsm τ6 τ7 a := fun a ha => e7 ▸ jsm_B (by omega)
  obtain ⟨τ8, e8⟩ : ∃ τ, jsR τ7 322 q (some (q + 5)) = τ := ⟨_, rfl⟩
  have j8 : ∀ a, a ≠ q → jsm τ7 τ8 a := fun a ha => e8 ▸ jsm_R ha
  have n8 : jnx τ8 = q + 6 := by rw [← e8, zR_nx, n7]
  obtain ⟨τ9, e9⟩ : ∃ τ, jnA τ8 0 11 = τ := ⟨_, rfl⟩
  have n9 : jnx τ9 = q + 7 := by rw [← e9, zB_nx, n8]
  have j9 : ∀ a, a < q + 6 → jsm τ8 τ9 a := fun a ha => e9 ▸ jsm_B (by omega)
  obtain ⟨ω, eω⟩ : ∃ τ, jsR τ9 323 q (some (q + 6)) = τ := ⟨_, rfl⟩
  have jω : ∀ a, a ≠ q → jsm τ9 ω a := fun a ha => eω ▸ jsm_R ha
  have nω : jnx ω = q + 7 := by rw [← eω, zR_nx, n9]
  have lω : jsl ω = jsl σ + 76 := by rw [← eω, zR_sl, ← e9, zB_sl, ← e8, zR_sl, ← e7, zB_sl, ← e6, zR_sl, l5, ← e4, zO_sl, ← e3, zR_sl, l2, ← e1, zO_sl]
  -- the type of q all along
  have tq1 : jT τ1 q = 6 := by rw [(j1 q (by omega)).1]; exact tq
  have tq2 : jT υ1 q = 6 := by rw [(j2 q (by omega) (by omega)).1]; exact tq1
  have tq3 : jT τ3 q = 6 := by rw [← e3, zR_T]; exact tq2
  have tq4 : jT τ4 q = 6 := by rw [(j4 q (by omega)).1]; exact tq3
  have tq5 : jT υ2 q = 6 := by rw [(j5 q (by omega) (by omega)).1]; exact tq4
  have tq6 : jT τ6 q = 6 := by rw [← e6, zR_T]; exact tq5
  have tq7 : jT τ7 q = 6 := by rw [(j7 q (by omega)).1]; exact tq6
  have tq8 : jT τ8 q = 6 := by rw [← e8, zR_T]; exact tq7
  have tq9 : jT τ9 q = 6 := by rw [(j9 q (by omega)).1]; exact tq8
  have up : ∀ a, a < q + 5 → a ≠ q → jsm υ2 ω a := fun a ha hq => ((((j6 a hq).trans (j7 a ha)).trans (j8 a hq)).trans (j9 a (by omega))).trans (jω a hq)
  have up1 : ∀ a, a < q + 3 → a ≠ q → jsm υ1 ω a := fun a ha hq => (((j3 a hq).trans (j4 a ha)).trans (j5 a (by omega) (by omega))).trans (up a (by omega) hq)
  refine ⟨ω, ?_, nω, lω, fun a ha => ((j1 a (by omega)).trans (j2 a (by omega) (by omega))).trans (up1 a (by omega) (by omega)), ?_, w2.js (up1 _ (by omega) (by omega)) (up1 _ (by omega) (by omega)), w5.js (up _ (by omega) (by omega)) (up _ (by omega) (by omega))⟩
  · have c1' : jx (d + 1) 9 0 [some (.ref (q + 1)), some (.int 4)] [] τ1 = some (none, υ1) := c1
    have c2' : jx (d + 1) 9 0 [some (.ref (q + 3)), some (.int 4)] [] τ4 = some (none, υ2) := c2
    have k11 : (11 : Int32).toNatClampNeg = 11 := rfl
    rw [k19_0 (by rw [e1, ← hq]; exact t1), e1, ← hq, c1']
    simp only [Option.bind_some, Option.toList_none, List.nil_append]
    rw [k19_13 tq2 (by rw [e3, e4, n2]; exact t4), e3, e4, n2, c2']
    simp only [Option.bind_some, Option.toList_none, List.nil_append]
    rw [k19_25 tq5 (by rw [k11, e6, e7]; exact tq7) (by rw [k11, e6, e7, n5, e8, e9]; exact tq9), k11, e6, e7, n5, e8, e9, n7, eω]
  · have T : ∀ {α β : jS} {a : Nat}, jsm α β a → jT β a = jT α a := fun h => h.1
    have N : ∀ {α β : jS} {a : Nat}, jsm α β a → jN β a = jN α a := fun h => h.2.1
    have t5 : jT τ7 (q + 5) = 20 := by rw [← e7, zB_T, if_pos n6.symm]
    have m5 : jN τ7 (q + 5) = 11 := by rw [← e7, zB_N, if_pos n6.symm]
    have t6 : jT τ9 (q + 6) = 20 := by rw [← e9, zB_T, if_pos n8.symm]
    have m6 : jN τ9 (q + 6) = 11 := by rw [← e9, zB_N, if_pos n8.symm]
    have s5 : jsm τ7 ω (q + 5) := ((j8 _ (by omega)).trans (j9 _ (by omega))).trans (jω _ (by omega))
    have s6 : jsm τ9 ω (q + 6) := jω _ (by omega)
    have R9 : ∀ g, jR τ9 g q = jR τ8 g q := (j9 q (by omega)).2.2.2.1
    have R7 : ∀ g, jR τ7 g q = jR τ6 g q := (j7 q (by omega)).2.2.2.1
    have R5 : ∀ g, jR υ2 g q = jR τ4 g q := (j5 q (by omega) (by omega)).2.2.2.1
    have R4 : ∀ g, jR τ4 g q = jR τ3 g q := (j4 q (by omega)).2.2.2.1
    refine ⟨by rw [← eω, zR_T]; exact tq9, ?_, ?_, ?_, ?_, by rw [T s5]; exact t5, by rw [N s5]; exact m5, by rw [T s6]; exact t6, by rw [N s6]; exact m6, ?_⟩
    · rw [← eω, zR_R, if_neg (fun z => absurd z.1 (by decide)), R9, ← e8, zR_R, if_neg (fun z => absurd z.1 (by decide)), R7, ← e6, zR_R, if_neg (fun z => absurd z.1 (by decide)), R5, R4, ← e3, zR_R, if_pos ⟨rfl, rfl⟩]
    · rw [← eω, zR_R, if_neg (fun z => absurd z.1 (by decide)), R9, ← e8, zR_R, if_neg (fun z => absurd z.1 (by decide)), R7, ← e6, zR_R, if_pos ⟨rfl, rfl⟩]
    · rw [← eω, zR_R, if_neg (fun z => absurd z.1 (by decide)), R9, ← e8, zR_R, if_pos ⟨rfl, rfl⟩]
    · rw [← eω, zR_R, if_pos ⟨rfl, rfl⟩]
    · simp
/-- the class has worked in the free place of a rule and in its scratch -/
theorem CX.freeR {σ' : jS} {l : List Nat} (hC : CX s cr cp qr qp σ) (hc : s.rs.length < cr) (f : FR l σ σ') (hl : ∀ x : Nat, x ∈ l → (qr s.rs.length ≤ x ∧ x < qr s.rs.length + 7) ∨ x ∈ rdl ∨ x ∈ [29, 30, 31, 32, 33, 35, 36, 37]) (h1 : jI σ' 256 (qr s.rs.length + 1) = jI σ 256 (qr s.rs.length + 1)) (h3 : jI σ' 256 (qr s.rs.length + 3) = jI σ 256 (qr s.rs.length + 3)) (w1 : ∃ n, RW σ' 30 31 4 n) (w2 : ∃ n, RW σ' 32 33 4 n) : CX s cr cp qr qp σ' := by
  have bq := hC.dj.r s.rs.length hc
  have small : ∀ x : Nat, x ∈ rdl ∨ x ∈ [29, 30, 31, 32, 33, 35, 36, 37] → x < 81 ∧ x ∈ scr2 := fun x hx => by
    rcases hx with q | q
    · exact (by decide : ∀ x : Nat, x ∈ rdl → x < 81 ∧ x ∈ scr2) x q
    · exact (by decide : ∀ x : Nat, x ∈ [29, 30, 31, 32, 33, 35, 36, 37] → x < 81 ∧ x ∈ scr2) x q
  have nl : ∀ x, x < 81 → x ∉ rdl → x ∉ [29, 30, 31, 32, 33, 35, 36, 37] → x ∉ l := fun x h1 h2 h3 z => by
    rcases hl x z with q | q | q
    · omega
    · exact h2 q
    · exact h3 q
  have out : ∀ i, i < cr → i ≠ s.rs.length → ∀ z, qr i ≤ z → z < qr i + 7 → z ∉ l := fun i hi hik z h1 h2 hz => by
    have := hC.dj.rr i s.rs.length hi hc hik
    have := hC.dj.r i hi
    rcases hl z hz with q | q
    · omega
    · have := (small z q).1; omega
  have outp : ∀ i, i < cp → ∀ z, qp i ≤ z → z < qp i + 2 → z ∉ l := fun i hi z h1 h2 hz => by
    have := hC.dj.rp s.rs.length i hc hi
    have := hC.dj.p i hi
    rcases hl z hz with q | q
    · omega
    · have := (small z q).1; omega
  have i16 := (f.2 16 (nl 16 (by decide) (by decide) (by decide))).1
  refine hC.gen f (fun z hz => ?_) (by rw [i16]; exact hC.nr) (by rw [i16]; exact hC.np) (by rw [i16]; exact hC.w) (by rw [i16]; exact hC.ap) rfl rfl (by rw [(f.2 43 (nl 43 (by decide) (by decide) (by decide))).1]; exact hC.ns) (fun j v hj hv => by rw [(f.2 44 (nl 44 (by decide) (by decide) (by decide))).2]; exact hC.tl j v hj hv) w1 w2 ?_ hC.lr.1 hC.lp.1 (fun i hi => ?_) (fun i hi => ?_) (fun i hi => ?_) (fun i hi => ?_)
  · rcases hl z hz with q | q
    · exact Or.inr (by omega)
    · exact Or.inl (small z q).2
  · obtain ⟨n, w⟩ := hC.w3; exact ⟨n, w.frame f (nl 41 (by decide) (by decide) (by decide))⟩
  · by_cases e : i = s.rs.length
    · rw [e]
      obtain ⟨a, b, c⟩ := (hC.gr _ hc).2
      exact ⟨a.frame f, RS.fr256 b f h1, RS.fr256 c f h3⟩
    · exact (hC.gr i hi).2.fr f (out i hi e _ (by omega) (by omega)) (out i hi e _ (by omega) (by omega))
  · exact (hC.gp i hi).2.fr f (outp i hi _ (by omega) (by omega))
  · have := hC.lr.1
    exact (hC.rs i hi).fr f (out i (by omega) (by omega))
  · have := hC.lp.1
    exact (hC.ps i hi).frame f (outp i (by omega) _ (by omega) (by omega)) (outp i (by omega) _ (by omega) (by omega))
theorem c20 {q : Nat} (hU : RU σ q (q + 1) (q + 2) (q + 3) (q + 4) (q + 5) (q + 6)) (h1 : RS σ (q + 1) (q + 2) 4) (h3 : RS σ (q + 3) (q + 4) 4) (hq : 81 ≤ q) : ∃ σ', jx d 20 0 [some (.ref q)] [] σ = some (none, σ') ∧ FR [q, q + 1, q + 3] σ σ' ∧ RW σ' (q + 1) (q + 2) 4 0 ∧ RW σ' (q + 3) (q + 4) 4 0 ∧ (jI σ' 328 q = 0 ∧ jI σ' 329 q = 0 ∧ jI σ' 332 q = 1) ∧ jI σ' 256 (q + 1) = jI σ 256 (q + 1) ∧ jI σ' 256 (q + 3) = jI σ 256 (q + 3) := by
  have hU0 := hU
  obtain ⟨u1, u2, u3, -⟩ := hU
  have r1 : (jR σ 320 q).getD 0 = q + 1 := by rw [u2]; rfl
  have r2 : (jR σ 321 q).getD 0 = q + 3 := by rw [u3]; rfl
  obtain ⟨τ, eτ⟩ : ∃ τ, jsI (jsI (jsI (jsI (jsI (jsI (jsI (jsI (jsI (jsI (jsI σ 257 (q + 1) 0) 257 (q + 3) 0) 324 q 0) 325 q 0) 326 q 0) 327 q 0) 328 q 0) 329 q 0) 330 q 0) 331 q 0) 332 q 1 = τ := ⟨_, rfl⟩
  have F : FR [q, q + 1, q + 3] σ τ := by
    rw [← eτ]
    exact (((((((((((FR.refl _ σ).I (by simp) (by omega)).I (by simp) (by omega)).I (by simp) (by omega)).I (by simp) (by omega)).I (by simp) (by omega)).I (by simp) (by omega)).I (by simp) (by omega)).I (by simp) (by omega)).I (by simp) (by omega)).I (by simp) (by omega)).I (by simp) (by omega)
  have I : ∀ g a, jI τ g a = if g = 332 ∧ a = q then 1 else if g = 331 ∧ a = q then 0 else if g = 330 ∧ a = q then 0 else if g = 329 ∧ a = q then 0 else if g = 328 ∧ a = q then 0 else if g = 327 ∧ a = q then 0 else if g = 326 ∧ a = q then 0 else if g = 325 ∧ a = q then 0 else if g = 324 ∧ a = q then 0 else if g = 257 ∧ a = q + 3 then 0 else if g = 257 ∧ a = q + 1 then 0 else jI σ g a := fun g a => by
    rw [← eτ, zI_I, zI_I, zI_I, zI_I, zI_I, zI_I, zI_I, zI_I, zI_I, zI_I, zI_I]
  have n1 : ¬ q + 1 = q := by omega
  have n3 : ¬ q + 3 = q := by omega
  have n13 : ¬ q + 1 = q + 3 := by omega
  have a1 : jI τ 256 (q + 1) = jI σ 256 (q + 1) := by rw [I]; simp only [n1, and_false, ↓reduceIte, false_and, show ¬ (256 : Nat) = 257 by decide]
  have a3 : jI τ 256 (q + 3) = jI σ 256 (q + 3) := by rw [I]; simp only [n3, and_false, ↓reduceIte, false_and, show ¬ (256 : Nat) = 257 by decide]
  have b1 : jI τ 257 (q + 1) = 0 := by rw [I]; simp only [n1, n13, and_false, ↓reduceIte, and_self]
  have b3 : jI τ 257 (q + 3) = 0 := by rw [I]; simp only [n3, and_false, ↓reduceIte, and_self]
  refine ⟨τ, ?_, F, ?_, ?_, ⟨?_, ?_, ?_⟩, a1, a3⟩
  · rw [k20_0 u1 (by rw [u2]; exact fun z => nomatch z) (by rw [r1]; exact h1.1) (by rw [u3]; exact fun z => nomatch z) (by rw [r2]; exact h3.1), r1, r2, eτ]
  · obtain ⟨s1, s2, s3, s4, s5, s6⟩ := h1
    exact ⟨by rw [F.1.1]; exact s1, by rw [F.1.2.2.1]; exact s2, by rw [F.1.1]; exact s3, by rw [F.1.2.1]; exact s4, by rw [a1]; exact s5, b1, Nat.zero_le _, s6⟩
  · obtain ⟨s1, s2, s3, s4, s5, s6⟩ := h3
    exact ⟨by rw [F.1.1]; exact s1, by rw [F.1.2.2.1]; exact s2, by rw [F.1.1]; exact s3, by rw [F.1.2.1]; exact s4, by rw [a3]; exact s5, b3, Nat.zero_le _, s6⟩
  · rw [I]; simp (decide := true) only [↓reduceIte, false_and, and_self]
  · rw [I]; simp (decide := true) only [↓reduceIte, false_and, and_self]
  · rw [I]; simp (decide := true) only [↓reduceIte, and_self]
end FRU
