/-! a program's place, made or used again -/
theorem jsG_self (σ : jS) (a i : Nat) {v : Option Nat} (hv : jG σ a i = v) : jsG σ a i v = σ := by
  subst hv
  have e : ju2 (jG σ) a i (jG σ a i) = jG σ := by
    funext a' i'
    unfold ju2
    by_cases h : a' = a ∧ i' = i
    · rw [if_pos h, h.1, h.2]
    · rw [if_neg h]
  exact congrArg (fun G => ((jT σ, jN σ, jI σ, jR σ, jA σ, G, jnx σ, jsl σ) : jS)) e
def exC (σ σ' : jS) : Prop := jnx σ ≤ jnx σ' ∧ ∀ a, a < jnx σ → jsm σ σ' a
theorem exC.refl (σ : jS) : exC σ σ := ⟨Nat.le_refl _, fun a _ => jsm.refl σ a⟩
theorem exC.trans {σ τ υ : jS} (h : exC σ τ) (k : exC τ υ) : exC σ υ := ⟨Nat.le_trans h.1 k.1, fun a ha => (h.2 a ha).trans (k.2 a (Nat.lt_of_lt_of_le ha h.1))⟩
theorem exC.sc {σ σ' : jS} (h : exC σ σ') : sameC σ σ' := ⟨h.1, fun a ha _ => h.2 a ha⟩
theorem exC.sm {σ σ' : jS} (h : exC σ σ') (hx : 81 ≤ jnx σ) : sameM σ σ' := ⟨fun g => (h.2 47 (by omega)).2.2.1 g, fun a i _ h2 => (h.2 a (by omega)).2.2.2.2.1 i⟩
theorem exC.low {σ σ' : jS} (h : exC σ σ') (hx : 81 ≤ jnx σ) : low σ σ' := fun a ha => ⟨(h.2 a (by omega)).1, (h.2 a (by omega)).2.1, (h.2 a (by omega)).2.2.2.2.1⟩
theorem exC.sh {σ σ' : jS} (h : exC σ σ') (hx : 81 ≤ jnx σ) (hS : SH σ) : SH σ' := by
  have e : SH σ' = SH σ := SHc_of (fun a ha => (h.2 a (by omega)).1) (fun a ha => (h.2 a (by omega)).2.1) (fun g a ha => (h.2 a (by omega)).2.2.2.1 g)
  rw [e]; exact hS
theorem k6_0 {d : Nat} {σ : jS} {x0 : Int32} {x1 : Int32} : jx d 6 0 [some (.int x0), some (.int x1)] [] σ = if x0 < x1 then jx d 6 9 [some (.int x0), some (.int x1)] [] σ else jx d 6 5 [some (.int x0), some (.int x1)] [] σ := (jx_iload rfl rfl).trans ((jx_iload rfl rfl).trans (jx_iclt rfl))
theorem k6_5 {d : Nat} {σ : jS} {x0 : Int32} {l1 : Option Value} : jx d 6 5 [some (.int x0), l1] [] σ = some (some (.int x0), σ) := (jx_iload rfl rfl).trans ((jx_goto rfl).trans (jx_iret rfl))
theorem k6_9 {d : Nat} {σ : jS} {l0 : Option Value} {x1 : Int32} : jx d 6 9 [l0, some (.int x1)] [] σ = some (some (.int x1), σ) := (jx_iload rfl rfl).trans (jx_iret rfl)

section FRS
variable {d : Nat} {σ : jS} {s : AS} {cr cp : Nat} {qr qp : Nat → Nat}
theorem c6 (a b : Int32) : jx d 6 0 [some (.int a), some (.int b)] [] σ = some (some (.int (if a < b then b else a)), σ) := by
  rw [k6_0]
  by_cases h : a < b
  · rw [if_pos h, if_pos h, k6_9]
  · rw [if_neg h, if_neg h, k6_5]
/-- a new row of m orders at q -/
theorem c9 {q m : Nat} (tq : jT σ q = 5) (hq : q < jnx σ) (hm : m ≤ 24) : ∃ σ', jx (d + 1) 9 0 [some (.ref q), some (.int (nI m))] [] σ = some (none, σ') ∧ jnx σ' = jnx σ + 1 ∧ jsl σ' = jsl σ + 6 * m ∧ (∀ a, a < jnx σ → a ≠ q → jsm σ σ' a) ∧ RW σ' q (jnx σ) m 0 ∧ (∀ g, g ≠ 256 → g ≠ 257 → jI σ' g q = jI σ g q) := by
  have m24 : (if (24 : Int32) < nI m then 24 else nI m) = nI m := if_neg (by rw [show (24 : Int32) = nI 24 from rfl, n31 (by decide) (by omega)]; omega)
  have mx : (if (0 : Int32) < nI m then nI m else 0) = nI m := by
    by_cases h : (0 : Int32) < nI m
    · rw [if_pos h]
    · rw [if_neg h]
      have : m = 0 := by
        rw [show (0 : Int32) = nI 0 from rfl, n31 (by decide) (by omega)] at h
        omega
      rw [this]; rfl
  obtain ⟨τ, eτ⟩ : ∃ τ, jsI (jsI σ 257 q 0) 256 q (nI m) = τ := ⟨_, rfl⟩
  have e256 : jI τ 256 q = nI m := by rw [← eτ, zI_I, if_pos ⟨rfl, rfl⟩]
  have e6 : nI m * 6 = nI (6 * m) := by rw [show (6 : Int32) = nI 6 from rfl, nmul, Nat.mul_comm]
  have c6m : (nI (6 * m)).toNatClampNeg = 6 * m := nI_clamp (by omega)
  have nxτ : jnx τ = jnx σ := by rw [← eτ]; rfl
  have slτ : jsl τ = jsl σ := by rw [← eτ]; rfl
  have tτ : jT τ = jT σ := by rw [← eτ]; rfl
  have qn : ¬ q = jnx σ := by omega
  refine ⟨jsR (jnA τ 0 (6 * m)) 258 q (some (jnx σ)), ?_, ?_, ?_, fun a ha hne => ?_, ?_, fun g h1 h2 => ?_⟩
  · have tq1 : jT (jsI σ 257 q 0) q = 5 := tq
    have k3 : jx (d + 1) 9 20 [some (.ref q), some (.int (nI m))] [.int (nI m), .ref q] (jsI σ 257 q 0) = some (none, jsR (jnA τ 0 (6 * m)) 258 q (some (jnx σ))) := by
      have b1 : ¬ ((jI τ 256 q * 6) < 0 ∨ 1000000 < Int32.toNatClampNeg (jI τ 256 q * 6)) := by
        rw [e256, e6, c6m]
        intro z
        rcases z with z | z
        · exact nn0 (by omega) z
        · omega
      have b2 : jT (jnA τ 0 (Int32.toNatClampNeg (jI τ 256 q * 6))) q = 5 := by rw [zB_T, if_neg (by rw [nxτ]; exact qn), tτ]; exact tq
      rw [← eτ] at b1 b2
      rw [k9_20 tq1 tq1 b1 b2, eτ, e256, e6, c6m]
      rfl
    rw [k9_0 tq, c5, m24]
    simp only [Option.bind_some, Option.toList_some, List.cons_append, List.nil_append]
    rw [k9_17, c6, mx]
    simp only [Option.bind_some, Option.toList_some, List.cons_append, List.nil_append]
    exact k3
  · rw [zR_nx, zB_nx, nxτ]
  · rw [zR_sl, zB_sl, slτ]
  · have n2 : a ≠ jnx τ := by rw [nxτ]; omega
    have j1 : jsm σ τ a := eτ ▸ (jsm_I hne).trans (jsm_I hne)
    exact (j1.trans (jsm_B n2)).trans (jsm_R hne)
  · refine ⟨?_, ?_, ?_, ?_, ?_, ?_, Nat.zero_le _, hm⟩
    · rw [zR_T, zB_T, if_neg (by rw [nxτ]; exact qn), tτ]; exact tq
    · rw [zR_R, if_pos ⟨rfl, rfl⟩]
    · rw [zR_T, zB_T, if_pos nxτ.symm]
    · rw [zR_N, zB_N, if_pos nxτ.symm]
    · rw [zR_I, zB_I]; exact e256
    · rw [zR_I, zB_I, ← eτ, zI_I, if_neg (fun z => absurd z.1 (by decide)), zI_I, if_pos ⟨rfl, rfl⟩]; rfl
  · rw [zR_I, zB_I, ← eτ, zI_I, if_neg (fun z => h1 z.1), zI_I, if_neg (fun z => h2 z.1)]
theorem c77q (hS : SH σ) (hx : 81 ≤ jnx σ) (hC : CX s cr cp qr qp σ) (hn : s.ps.length < 16) : ∃ σ' q cp' qp', jx (d + 2) 77 0 [some (.ref 16), none] [] σ = some (some (.ref q), σ') ∧ CX s cr cp' qr qp' σ' ∧ qp' s.ps.length = q ∧ s.ps.length < cp' ∧ RW σ' q (q + 1) 24 0 ∧ SH σ' ∧ sameM σ σ' ∧ low σ σ' ∧ jnx σ ≤ jnx σ' ∧ jnx σ' ≤ jnx σ + 2 ∧ jsl σ' ≤ jsl σ + 147 ∧ (∀ i, i < s.ps.length → qp' i = qp i) := by
  have rg : ∀ {υ : jS}, SH υ → (jR υ 584 16).getD 0 = 46 := fun h => by rw [sR_584_16 h]; rfl
  have rn : ∀ {υ : jS}, SH υ → jR υ 584 16 ≠ none := fun h => by rw [sR_584_16 h]; exact fun z => nomatch z
  have g16 : ¬ Int32.ofNat 16 ≤ nI s.ps.length := nI_ge (by omega) (by omega)
  have gn : jin 16 (nI s.ps.length) := jin_n hn (by decide)
  have qn : (nI s.ps.length).toNatClampNeg = s.ps.length := nI_clamp (by omega)
  have start : jx (d + 2) 77 0 [some (.ref 16), none] [] σ = jx (d + 2) 77 21 [some (.ref 16), none] [va_rf (jG σ 46 s.ps.length)] σ := by
    rw [k77_0 (sT_16 hS) (rn hS) (by rw [rg hS, sT_46 hS]; decide), rg hS, sN_46 hS, hC.np, if_neg g16, k77_12 (sT_16 hS) (rn hS) (by rw [rg hS, sT_46 hS]; decide) (by rw [rg hS, sN_46 hS, hC.np]; exact gn), rg hS, hC.np, qn]
  by_cases hc : s.ps.length < cp
  · obtain ⟨g1, w⟩ := hC.gp s.ps.length hc
    obtain ⟨q, eq⟩ : ∃ q, qp s.ps.length = q := ⟨_, rfl⟩
    rw [eq] at g1 w
    have bq := hC.dj.p s.ps.length hc
    rw [eq] at bq
    have F : FR [q] σ (jsI σ 257 q 0) := (FR.refl _ σ).I (by simp) (by omega)
    have out : ∀ i, i < cp → i ≠ s.ps.length → ∀ z, qp i ≤ z → z < qp i + 2 → z ∉ [q] := fun i hi hik z h1 h2 => by
      have := hC.dj.pp i s.ps.length hi hc hik
      simp; omega
    have outr : ∀ i, i < cr → ∀ z, qr i ≤ z → z < qr i + 7 → z ∉ [q] := fun i hi z h1 h2 => by
      have := hC.dj.rp i s.ps.length hi hc
      simp; omega
    have o16 : 16 ∉ [q] := by simp; omega
    have rw0 : RW (jsI σ 257 q 0) q (q + 1) 24 0 := by
      obtain ⟨r1, r2, r3, r4, r5, r8⟩ := w
      exact ⟨r1, r2, r3, r4, by rw [zI_I, if_neg (fun z => absurd z.1 (by decide))]; exact r5, by rw [zI_I, if_pos ⟨rfl, rfl⟩]; rfl, Nat.zero_le _, r8⟩
    have hC1 : CX s cr cp qr qp (jsI σ 257 q 0) := by
      refine hC.gen F (fun z hz => by simp at hz; exact Or.inr (by omega)) (by rw [(F.2 16 o16).1]; exact hC.nr) (by rw [(F.2 16 o16).1]; exact hC.np) (by rw [(F.2 16 o16).1]; exact hC.w) (by rw [(F.2 16 o16).1]; exact hC.ap) rfl rfl (by rw [(F.2 43 (by simp; omega)).1]; exact hC.ns) (fun j v hj hv => by rw [(F.2 44 (by simp; omega)).2]; exact hC.tl j v hj hv) ?_ ?_ ?_ hC.lr.1 hC.lp.1 (fun i hi => ?_) (fun i hi => ?_) (fun i hi => ?_) (fun i hi => ?_)
      · obtain ⟨n, w⟩ := hC.w1; exact ⟨n, w.frame F (by simp; omega)⟩
      · obtain ⟨n, w⟩ := hC.w2; exact ⟨n, w.frame F (by simp; omega)⟩
      · obtain ⟨n, w⟩ := hC.w3; exact ⟨n, w.frame F (by simp; omega)⟩
      · exact (hC.gr i hi).2.fr F (outr i hi _ (by omega) (by omega)) (outr i hi _ (by omega) (by omega))
      · by_cases e : i = s.ps.length
        · rw [e, eq]; exact rw0.rs
        · exact (hC.gp i hi).2.fr F (out i hi e _ (by omega) (by omega))
      · have := hC.lr.1
        exact (hC.rs i hi).fr F (outr i (by omega))
      · have := hC.lp.1
        exact (hC.ps i hi).frame F (out i (by omega) (by omega) _ (by omega) (by omega)) (out i (by omega) (by omega) _ (by omega) (by omega))
    refine ⟨jsI σ 257 q 0, q, cp, qp, ?_, hC1, eq, hc, rw0, by rw [SH_I]; exact hS, F.sm (fun a h1 h2 => by simp; omega), F.low (fun a ha => by simp at ha; omega), Nat.le_refl _, by show jnx σ ≤ _; omega, by show jsl σ ≤ _; omega, fun _ _ => rfl⟩
    have tq : jT σ q = 5 := w.1
    have sg : jsG σ 46 s.ps.length (some q) = σ := jsG_self σ 46 s.ps.length g1
    rw [start, g1]
    show jx (d + 2) 77 21 [some (.ref 16), none] [.ref q] σ = _
    rw [k77_21R (sT_16 hS) (rn hS) (by rw [rg hS, sT_46 hS]; decide), rg hS, sN_46 hS, hC.np, if_neg g16, k77_52R (sT_16 hS) (rn hS) (by rw [rg hS, sT_46 hS, tq]) (by rw [rg hS, sT_46 hS]; decide) (by rw [rg hS, sN_46 hS, hC.np]; exact gn) tq, rg hS, hC.np, qn, sg]
  · have ec : s.ps.length = cp := by have := hC.lp.1; omega
    have g0 := hC.gp0 s.ps.length (by omega) hn
    obtain ⟨q, eq⟩ : ∃ q, jnx σ = q := ⟨_, rfl⟩
    obtain ⟨τ, eτ⟩ : ∃ τ, jnO σ 4 3 = τ := ⟨_, rfl⟩
    have tτ : jT τ q = 5 := by rw [← eτ, zO_T, if_pos eq.symm]
    have nτ : jnx τ = q + 1 := by rw [← eτ, zO_nx, eq]
    have exτ : ∀ a, a < q → jsm σ τ a := fun a ha => eτ ▸ jsm_O (by omega)
    obtain ⟨υ, e9, n9, s9, j9, w9, _⟩ := c9 (d := d) (σ := τ) (q := q) (m := 24) tτ (by omega) (by decide)
    rw [nτ] at w9 n9 j9
    have ex : exC σ υ := ⟨by omega, fun a ha => (exτ a (by omega)).trans (j9 a (by omega) (by omega))⟩
    have hSυ := ex.sh hx hS
    have hC1 := CX.sc hx hC ex.sc
    have nsl : jsl υ = jsl σ + 147 := by rw [s9, ← eτ, zO_sl]
    obtain ⟨ω, eω⟩ : ∃ ω, jsI (jsG υ 46 s.ps.length (some q)) 257 q 0 = ω := ⟨_, rfl⟩
    have q257 : jI υ 257 q = 0 := w9.2.2.2.2.2.1
    have eω2 : jsI (jsG υ 46 s.ps.length (some q)) 257 q 0 = jsG υ 46 s.ps.length (some q) := jsI_self _ 257 q (by rw [zG_I]; exact q257)
    have eω3 : ω = jsG υ 46 s.ps.length (some q) := by rw [← eω, eω2]
    let qp' : Nat → Nat := fun i => if i = s.ps.length then q else qp i
    have qo : ∀ i, i < cp → qp' i = qp i := fun i hi => if_neg (by omega)
    have dj := hC.dj
    have nxω : jnx ω = q + 2 := by rw [eω3, zG_nx, n9]
    have hC2 : CX s cr (cp + 1) qr qp' ω := by
      rw [eω3]
      refine ⟨hC1.st, hC1.nr, hC1.np, hC1.w, hC1.ap, hC1.tx, hC1.ns, hC1.tl, hC1.w1, hC1.w2, hC1.w3, hC1.lr, ⟨by omega, by omega⟩, fun i hi => ⟨by rw [zG_G, if_neg (fun z => absurd z.1 (by decide))]; exact (hC1.gr i hi).1, (hC1.gr i hi).2⟩, fun i h1 h2 => by rw [zG_G, if_neg (fun z => absurd z.1 (by decide))]; exact hC1.gr0 i h1 h2, fun i hi => ?_, fun i h1 h2 => by rw [zG_G, if_neg (fun z => by omega)]; exact hC1.gp0 i (by omega) h2, ⟨fun i hi => ?_, fun i hi => ?_, dj.rr, fun i j hi hj hij => ?_, fun i j hi hj => ?_⟩, hC1.rs, fun i hi => ?_⟩
      · by_cases e : i = s.ps.length
        · refine ⟨by rw [zG_G, if_pos ⟨rfl, e⟩]; show some q = some (if i = s.ps.length then q else qp i); rw [if_pos e], ?_⟩
          show SLp _ (if i = s.ps.length then q else qp i)
          rw [if_pos e]
          exact w9.rs
        · have hi' : i < cp := by omega
          refine ⟨by rw [zG_G, if_neg (fun z => e z.2), qo i hi']; exact (hC1.gp i hi').1, ?_⟩
          rw [qo i hi']
          exact (hC1.gp i hi').2
      · have := dj.r i hi
        rw [zG_nx, n9]
        exact ⟨this.1, by omega⟩
      · rw [zG_nx, n9]
        by_cases e : i = s.ps.length
        · show 81 ≤ (if i = s.ps.length then q else qp i) ∧ (if i = s.ps.length then q else qp i) + 2 ≤ _
          rw [if_pos e]; omega
        · have := dj.p i (by omega)
          rw [qo i (by omega)]; omega
      · by_cases e : i = s.ps.length
        · have hj' : j < cp := by omega
          have := dj.p j hj'
          rw [qo j hj']
          show (if i = s.ps.length then q else qp i) + 2 ≤ _ ∨ _ ≤ (if i = s.ps.length then q else qp i)
          rw [if_pos e]; right; omega
        · have hi' : i < cp := by omega
          have := dj.p i hi'
          rw [qo i hi']
          by_cases f : j = s.ps.length
          · show _ ≤ (if j = s.ps.length then q else qp j) ∨ (if j = s.ps.length then q else qp j) + 2 ≤ _
            rw [if_pos f]; left; omega
          · rw [qo j (by omega)]; exact dj.pp i j hi' (by omega) hij
      · have := dj.r i hi
        by_cases f : j = s.ps.length
        · show _ ≤ (if j = s.ps.length then q else qp j) ∨ (if j = s.ps.length then q else qp j) + 2 ≤ _
          rw [if_pos f]; left; omega
        · rw [qo j (by omega)]; exact dj.rp i j hi (by omega)
      · rw [qo i (by omega)]; exact hC1.ps i hi
    refine ⟨ω, q, cp + 1, qp', ?_, hC2, if_pos rfl, by omega, by rw [eω3]; exact w9, by rw [eω3, SH_G]; exact hSυ, ?_, ?_, by omega, by omega, by rw [eω3, zG_sl, nsl]; omega, fun i hi => qo i (by omega)⟩
    · rw [start, g0]
      show jx (d + 2) 77 21 [some (.ref 16), none] [.null] σ = _
      have e9' : jx (d + 1) 9 0 [some (.ref q), some (.int 24)] [] τ = some (none, υ) := e9
      rw [k77_21N (by rw [zO_T, if_pos rfl]), eτ, eq, e9']
      simp only [Option.bind_some, Option.toList_none, List.nil_append]
      have npυ : jI υ 586 16 = nI s.ps.length := hC1.np
      rw [k77_39 (sT_16 hSυ) (rn hSυ) (by rw [rg hSυ, sT_46 hSυ]; decide), rg hSυ, sN_46 hSυ, npυ, if_neg g16, k77_52R (sT_16 hSυ) (rn hSυ) (by rw [rg hSυ, sT_46 hSυ, w9.1]) (by rw [rg hSυ, sT_46 hSυ]; decide) (by rw [rg hSυ, sN_46 hSυ, npυ]; exact gn) w9.1, rg hSυ, npυ, qn, eω]
    · have := ex.sm hx
      rw [eω3]
      exact ⟨fun g => by rw [zG_I]; exact this.1 g, fun a i h1 h2 => by rw [zG_A]; exact this.2 a i h1 h2⟩
    · have := ex.low hx
      rw [eω3]
      exact fun a ha => ⟨by rw [zG_T]; exact (this a ha).1, by rw [zG_N]; exact (this a ha).2.1, fun i => by rw [zG_A]; exact (this a ha).2.2 i⟩
theorem c77 (hS : SH σ) (hx : 81 ≤ jnx σ) (hC : CX s cr cp qr qp σ) (hn : s.ps.length < 16) : ∃ σ' q cp' qp', jx (d + 2) 77 0 [some (.ref 16), none] [] σ = some (some (.ref q), σ') ∧ CX s cr cp' qr qp' σ' ∧ qp' s.ps.length = q ∧ s.ps.length < cp' ∧ RW σ' q (q + 1) 24 0 ∧ SH σ' ∧ sameM σ σ' ∧ low σ σ' ∧ jnx σ ≤ jnx σ' ∧ jnx σ' ≤ jnx σ + 2 ∧ jsl σ' ≤ jsl σ + 147 := by
  obtain ⟨σ', q, cp', qp', h1, h2, h3, h4, h5, h6, h7, h8, h9, h10, h11, _⟩ := c77q (d := d) hS hx hC hn
  exact ⟨σ', q, cp', qp', h1, h2, h3, h4, h5, h6, h7, h8, h9, h10, h11⟩
end FRS
