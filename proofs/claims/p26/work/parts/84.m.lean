section S_84
/-! a program's place, made or used again -/
theorem jsG_self (σ : jS) (a i : Nat) {v : Option Nat} (hv : jG σ a i = v) : jsG σ a i v = σ := by
  subst hv
  have e : ju2 (jG σ) a i (jG σ a i) = jG σ := by
    funext a' i'
    unfold ju2
    by_cases h : a' = a ∧ i' = i
    · rw [if_pos h, h.1, h.2]
    · rw [if_neg h]
  exact congrArg (fun G => ((jT σ, jN σ, jI σ, jR σ, jA σ, G, jnx σ, jsl σ) : jS)) e
def exC (σ σ' : jS) : Prop := jnx σ ≤ jnx σ' ∧ ∀ a, a < jnx σ → jsm σ σ' a
theorem exC.refl (σ : jS) : exC σ σ := ⟨Nat.le_refl _, fun a _ => jsm.refl σ a⟩
theorem exC.trans {σ τ υ : jS} (h : exC σ τ) (k : exC τ υ) : exC σ υ := ⟨Nat.le_trans h.1 k.1, fun a ha => (h.2 a ha).trans (k.2 a (Nat.lt_of_lt_of_le ha h.1))⟩
theorem exC.sc {σ σ' : jS} (h : exC σ σ') : sameC σ σ' := ⟨h.1, fun a ha _ => h.2 a ha⟩
theorem exC.sm {σ σ' : jS} (h : exC σ σ') (hx : 81 ≤ jnx σ) : sameM σ σ' := ⟨fun g => (h.2 47 (by omega)).2.2.1 g, fun a i _ h2 => (h.2 a (by omega)).2.2.2.2.1 i⟩
theorem exC.low {σ σ' : jS} (h : exC σ σ') (hx : 81 ≤ jnx σ) : low σ σ' := fun a ha => ⟨(h.2 a (by omega)).1, (h.2 a (by omega)).2.1, (h.2 a (by omega)).2.2.2.2.1⟩
theorem exC.sh {σ σ' : jS} (h : exC σ σ') (hx : 81 ≤ jnx σ) (hS : SH σ) : SH σ' := by
  have e : SH σ' = SH σ := SHc_of (fun a ha => (h.2 a (by omega)).1) (fun a ha => (h.2 a (by omega)).2.1) (fun g a ha => (h.2 a (by omega)).2.2.2.1 g)
  rw [e]; exact hS
theorem jf_6_0 : jcode 6 0 = (1, 0, 0, 0, 1) ∧ jcode 6 1 = (1, 1, 0, 0, 2) ∧ jcode 6 2 = (20, 2, 9, 0, 5) ∧ jcode 6 5 = (1, 0, 0, 0, 6) ∧ jcode 6 6 = (21, 0, 10, 0, 9) := by decide +kernel
theorem jf_6_1 : jcode 6 9 = (1, 1, 0, 0, 10) ∧ jcode 6 10 = (46, 0, 0, 0, 11) := by decide +kernel
theorem k6_0 {d : Nat} {σ : jS} {x0 : Int32} {x1 : Int32} : jx d 6 0 [some (.int x0), some (.int x1)] [] σ = if x0 < x1 then jx d 6 9 [some (.int x0), some (.int x1)] [] σ else jx d 6 5 [some (.int x0), some (.int x1)] [] σ := (jx_iload jf_6_0.1 rfl).trans ((jx_iload jf_6_0.2.1 rfl).trans (jx_iclt jf_6_0.2.2.1))
theorem k6_5 {d : Nat} {σ : jS} {x0 : Int32} {l1 : Option Value} : jx d 6 5 [some (.int x0), l1] [] σ = some (some (.int x0), σ) := (jx_iload jf_6_0.2.2.2.1 rfl).trans ((jx_goto jf_6_0.2.2.2.2).trans (jx_iret jf_6_1.2))
theorem k6_9 {d : Nat} {σ : jS} {l0 : Option Value} {x1 : Int32} : jx d 6 9 [l0, some (.int x1)] [] σ = some (some (.int x1), σ) := (jx_iload jf_6_1.1 rfl).trans (jx_iret jf_6_1.2)

section FRS
variable {d : Nat} {σ : jS} {s : AS} {cr cp : Nat} {qr qp : Nat → Nat}
theorem c6 (a b : Int32) : jx d 6 0 [some (.int a), some (.int b)] [] σ = some (some (.int (if a < b then b else a)), σ) := by
  rw [k6_0]
  by_cases h : a < b
  · rw [if_pos h, if_pos h, k6_9]
  · rw [if_neg h, if_neg h, k6_5]
/-- a new row of m orders at q -/
theorem c9 {q m : Nat} (tq : jT σ q = 5) (hq : q < jnx σ) (hm : m ≤ 24) : ∃ σ', jx (d + 1) 9 0 [some (.ref q), some (.int (nI m))] [] σ = some (none, σ') ∧ jnx σ' = jnx σ + 1 ∧ jsl σ' = jsl σ + 6 * m ∧ (∀ a, a < jnx σ → a ≠ q → jsm σ σ' a) ∧ RW σ' q (jnx σ) m 0 ∧ (∀ g, g ≠ 256 → g ≠ 257 → jI σ' g q = jI σ g q) := by
  have m24 : (if (24 : Int32) < nI m then 24 else nI m) = nI m := if_neg (by rw [show (24 : Int32) = nI 24 from rfl, n31 (by decide) (by omega)]; omega)
  have mx : (if (0 : Int32) < nI m then nI m else 0) = nI m := by
    by_cases h : (0 : Int32) < nI m
    · rw [if_pos h]
    · rw [if_neg h]
      have : m = 0 := by
        rw [show (0 : Int32) = nI 0 from rfl, n31 (by decide) (by omega)] at h
        omega
      rw [this]; rfl
  obtain ⟨τ, eτ⟩ : ∃ τ, jsI (jsI σ 257 q 0) 256 q (nI m) = τ := ⟨_, rfl⟩
  have e256 : jI τ 256 q = nI m := by rw [← eτ, zI_I, if_pos ⟨rfl, rfl⟩]
  have e6 : nI m * 6 = nI (6 * m) := by rw [show (6 : Int32) = nI 6 from rfl, nmul, Nat.mul_comm]
  have c6m : (nI (6 * m)).toNatClampNeg = 6 * m := nI_clamp (by omega)
  have nxτ : jnx τ = jnx σ := by rw [← eτ]; rfl
  have slτ : jsl τ = jsl σ := by rw [← eτ]; rfl
  have tτ : jT τ = jT σ := by rw [← eτ]; rfl
  have qn : ¬ q = jnx σ := by omega
  refine ⟨jsR (jnA τ 0 (6 * m)) 258 q (some (jnx σ)), ?_, ?_, ?_, fun a ha hne => ?_, ?_, fun g h1 h2 => ?_⟩
  · have tq1 : jT (jsI σ 257 q 0) q = 5 := tq
    have k3 : jx (d + 1) 9 20 [some (.ref q), some (.int (nI m))] [.int (nI m), .ref q] (jsI σ 257 q 0) = some (none, jsR (jnA τ 0 (6 * m)) 258 q (some (jnx σ))) := by
      have b1 : ¬ ((jI τ 256 q * 6) < 0 ∨ 1000000 < Int32.toNatClampNeg (jI τ 256 q * 6)) := by
        rw [e256, e6, c6m]
        intro z
        rcases z with z | z
        · exact nn0 (by omega) z
        · omega
      have b2 : jT (jnA τ 0 (Int32.toNatClampNeg (jI τ 256 q * 6))) q = 5 := by rw [zB_T, if_neg (by rw [nxτ]; exact qn), tτ]; exact tq
      rw [← eτ] at b1 b2
      rw [k9_20 tq1 tq1 b1 b2, eτ, e256, e6, c6m]
      rfl
    rw [k9_0 tq, c5, m24]
    simp only [Option.bind_some, Option.toList_some, List.cons_append, List.nil_append]
    rw [k9_17, c6, mx]
    simp only [Option.bind_some, Option.toList_some, List.cons_append, List.nil_append]
    exact k3
  · rw [zR_nx, zB_nx, nxτ]
  · rw [zR_sl, zB_sl, slτ]
  · have n2 : a ≠ jnx τ := by rw [nxτ]; omega
    have j1 : jsm σ τ a := eτ ▸ (jsm_I hne).trans (jsm_I hne)
    exact (j1.trans (jsm_B n2)).trans (jsm_R hne)
  · refine ⟨?_, ?_, ?_, ?_, ?_, ?_, Nat.zero_le _, hm⟩
    · rw [zR_T, zB_T, if_neg (by rw [nxτ]; exact qn), tτ]; exact tq
    · rw [zR_R, if_pos ⟨rfl, rfl⟩]
    · rw [zR_T, zB_T, if_pos nxτ.symm]
    · rw [zR_N, zB_N, if_pos nxτ.symm]
    · rw [zR_I, zB_I]; exact e256
    · rw [zR_I, zB_I, ← eτ, zI_I, if_neg (fun z => absurd z.1 (by decide)), zI_I, if_pos ⟨rfl, rfl⟩]; rfl
  · rw [zR_I, zB_I, ← eτ, zI_I, if_neg (fun z => h1 z.1), zI_I, if_neg (fun z => h2 z.1)]
theorem c77q (hS : SH σ) (hx : 81 ≤ jnx σ) (hC : CX s cr cp qr qp σ) (hn : s.ps.length < 16) : ∃ σ' q cp' qp', jx (d + 2) 77 0 [some (.ref 16), none] [] σ = some (some (.ref q), σ') ∧ CX s cr cp' qr qp' σ' ∧ qp' s.ps.length = q ∧ s.ps.length < cp' ∧ RW σ' q (q + 1) 24 0 ∧ SH σ' ∧ sameM σ σ' ∧ low σ σ' ∧ jnx σ ≤ jnx σ' ∧ jnx σ' ≤ jnx σ + 2 ∧ jsl σ' ≤ jsl σ + 147 ∧ (∀ i, i < s.ps.length → qp' i = qp i) := by
  have rg : ∀ {υ : jS}, SH υ → (jR υ 584 16).getD 0 = 46 := fun h => by rw [sR_584_16 h]; rfl
  have rn : ∀ {υ : jS}, SH υ → jR υ 584 16 ≠ none := fun h => by rw [sR_584_16 h]; exact fun z => nomatch z
  have g16 : ¬ Int32.ofNat 16 ≤ nI s.ps.length := nI_ge (by omega) (by omega)
  have gn : jin 16 (nI s.ps.length) := jin_n hn (by decide)
  have qn : (nI s.ps.length).toNatClampNeg = s.ps.length := nI_clamp (by omega)
  have start : jx (d + 2) 77 0 [some (.ref 16), none] [] σ = jx (d + 2) 77 21 [some (.ref 16), none] [va_rf (jG σ 46 s.ps.length)] σ := by
    rw [k77_0 (sT_16 hS) (rn hS) (by rw [rg hS, sT_46 hS]; decide), rg hS, sN_46 hS, hC.np, if_neg g16, k77_12 (sT_16 hS) (rn hS) (by rw [rg hS, sT_46 hS]; decide) (by rw [rg hS, sN_46 hS, hC.np]; exact gn), rg hS, hC.np, qn]
  by_cases hc : s.ps.length < cp
  · obtain ⟨g1, w⟩ := hC.gp s.ps.length hc
    obtain ⟨q, eq⟩ : ∃ q, qp s.ps.length = q := ⟨_, rfl⟩
    rw [eq] at g1 w
    have bq := hC.dj.p s.ps.length hc
    rw [eq] at bq
    have F : FR [q] σ (jsI σ 257 q 0) := (FR.refl _ σ).I (by simp) (by omega)
    have out : ∀ i, i < cp → i ≠ s.ps.length → ∀ z, qp i ≤ z → z < qp i + 2 → z ∉ [q] := fun i hi hik z h1 h2 => by
      have := hC.dj.pp i s.ps.length hi hc hik
      simp; omega
    have outr : ∀ i, i < cr → ∀ z, qr i ≤ z → z < qr i + 7 → z ∉ [q] := fun i hi z h1 h2 => by
      have := hC.dj.rp i s.ps.length hi hc
      simp; omega
    have o16 : 16 ∉ [q] := by simp; omega
    have rw0 : RW (jsI σ 257 q 0) q (q + 1) 24 0 := by
      obtain ⟨r1, r2, r3, r4, r5, r8⟩ := w
      exact ⟨r1, r2, r3, r4, by rw [zI_I, if_neg (fun z => absurd z.1 (by decide))]; exact r5, by rw [zI_I, if_pos ⟨rfl, rfl⟩]; rfl, Nat.zero_le _, r8⟩
    have hC1 : CX s cr cp qr qp (jsI σ 257 q 0) := by
      refine hC.gen F (fun z hz => by simp at hz; exact Or.inr (by omega)) (by rw [(F.2 16 o16).1]; exact hC.nr) (by rw [(F.2 16 o16).1]; exact hC.np) (by rw [(F.2 16 o16).1]; exact hC.w) (by rw [(F.2 16 o16).1]; exact hC.ap) rfl rfl (by rw [(F.2 43 (by simp; omega)).1]; exact hC.ns) (fun j v hj hv => by rw [(F.2 44 (by simp; omega)).2]; exact hC.tl j v hj hv) ?_ ?_ ?_ hC.lr.1 hC.lp.1 (fun i hi => ?_) (fun i hi => ?_) (fun i hi => ?_) (fun i hi => ?_)
      · obtain ⟨n, w⟩ := hC.w1; exact ⟨n, w.frame F (by simp; omega)⟩
      · obtain ⟨n, w⟩ := hC.w2; exact ⟨n, w.frame F (by simp; omega)⟩
      · obtain ⟨n, w⟩ := hC.w3; exact ⟨n, w.frame F (by simp; omega)⟩
      · exact (hC.gr i hi).2.fr F (outr i hi _ (by omega) (by omega)) (outr i hi _ (by omega) (by omega))
      · by_cases e : i = s.ps.length
        · rw [e, eq]; exact rw0.rs
        · exact (hC.gp i hi).2.fr F (out i hi e _ (by omega) (by omega))
      · have := hC.lr.1
        exact (hC.rs i hi).fr F (outr i (by omega))
      · have := hC.lp.1
        exact (hC.ps i hi).frame F (out i (by omega) (by omega) _ (by omega) (by omega)) (out i (by omega) (by omega) _ (by omega) (by omega))
    refine ⟨jsI σ 257 q 0, q, cp, qp, ?_, hC1, eq, hc, rw0, by rw [SH_I]; exact hS, F.sm (fun a h1 h2 => by simp; omega), F.low (fun a ha => by simp at ha; omega), Nat.le_refl _, by show jnx σ ≤ _; omega, by show jsl σ ≤ _; omega, fun _ _ => rfl⟩
    have tq : jT σ q = 5 := w.1
    have sg : jsG σ 46 s.ps.length (some q) = σ := jsG_self σ 46 s.ps.length g1
    rw [start, g1]
    show jx (d + 2) 77 21 [some (.ref 16), none] [.ref q] σ = _
    rw [k77_21R (sT_16 hS) (rn hS) (by rw [rg hS, sT_46 hS]; decide), rg hS, sN_46 hS, hC.np, if_neg g16, k77_52R (sT_16 hS) (rn hS) (by rw [rg hS, sT_46 hS, tq]) (by rw [rg hS, sT_46 hS]; decide) (by rw [rg hS, sN_46 hS, hC.np]; exact gn) tq, rg hS, hC.np, qn, sg]
  · have ec : s.ps.length = cp := by have := hC.lp.1; omega
    have g0 := hC.gp0 s.ps.length (by omega) hn
    obtain ⟨q, eq⟩ : ∃ q, jnx σ = q := ⟨_, rfl⟩
    obtain ⟨τ, eτ⟩ : ∃ τ, jnO σ 4 3 = τ := ⟨_, rfl⟩
    have tτ : jT τ q = 5 := by rw [← eτ, zO_T, if_pos eq.symm]
    have nτ : jnx τ = q + 1 := by rw [← eτ, zO_nx, eq]
    have exτ : ∀ a, a < q → jsm σ τ a := fun a ha => eτ ▸ jsm_O (by omega)
    obtain ⟨υ, e9, n9, s9, j9, w9, _⟩ := c9 (d := d) (σ := τ) (q := q) (m := 24) tτ (by omega) (by decide)
    rw [nτ] at w9 n9 j9
    have ex : exC σ υ := ⟨by omega, fun a ha => (exτ a (by omega)).trans (j9 a (by omega) (by omega))⟩
    have hSυ := ex.sh hx hS
    have hC1 := CX.sc hx hC ex.sc
    have nsl : jsl υ = jsl σ + 147 := by rw [s9, ← eτ, zO_sl]
    obtain ⟨ω, eω⟩ : ∃ ω, jsI (jsG υ 46 s.ps.length (some q)) 257 q 0 = ω := ⟨_, rfl⟩
    have q257 : jI υ 257 q = 0 := w9.2.2.2.2.2.1
    have eω2 : jsI (jsG υ 46 s.ps.length (some q)) 257 q 0 = jsG υ 46 s.ps.length (some q) := jsI_self _ 257 q (by rw [zG_I]; exact q257)
    have eω3 : ω = jsG υ 46 s.ps.length (some q) := by rw [← eω, eω2]
    let qp' : Nat → Nat := fun i => if i = s.ps.length then q else qp i
    have qo : ∀ i, i < cp → qp' i = qp i := fun i hi => if_neg (by omega)
    have dj := hC.dj
    have nxω : jnx ω = q + 2 := by rw [eω3, zG_nx, n9]
    have hC2 : CX s cr (cp + 1) qr qp' ω := by
      rw [eω3]
      refine ⟨hC1.st, hC1.nr, hC1.np, hC1.w, hC1.ap, hC1.tx, hC1.ns, hC1.tl, hC1.w1, hC1.w2, hC1.w3, hC1.lr, ⟨by omega, by omega⟩, fun i hi => ⟨by rw [zG_G, if_neg (fun z => absurd z.1 (by decide))]; exact (hC1.gr i hi).1, (hC1.gr i hi).2⟩, fun i h1 h2 => by rw [zG_G, if_neg (fun z => absurd z.1 (by decide))]; exact hC1.gr0 i h1 h2, fun i hi => ?_, fun i h1 h2 => by rw [zG_G, if_neg (fun z => by omega)]; exact hC1.gp0 i (by omega) h2, ⟨fun i hi => ?_, fun i hi => ?_, dj.rr, fun i j hi hj hij => ?_, fun i j hi hj => ?_⟩, hC1.rs, fun i hi => ?_⟩
      · by_cases e : i = s.ps.length
        · refine ⟨by rw [zG_G, if_pos ⟨rfl, e⟩]; show some q = some (if i = s.ps.length then q else qp i); rw [if_pos e], ?_⟩
          show SLp _ (if i = s.ps.length then q else qp i)
          rw [if_pos e]
          exact w9.rs
        · have hi' : i < cp := by omega
          refine ⟨by rw [zG_G, if_neg (fun z => e z.2), qo i hi']; exact (hC1.gp i hi').1, ?_⟩
          rw [qo i hi']
          exact (hC1.gp i hi').2
      · have := dj.r i hi
        rw [zG_nx, n9]
        exact ⟨this.1, by omega⟩
      · rw [zG_nx, n9]
        by_cases e : i = s.ps.length
        · show 81 ≤ (if i = s.ps.length then q else qp i) ∧ (if i = s.ps.length then q else qp i) + 2 ≤ _
          rw [if_pos e]; omega
        · have := dj.p i (by omega)
          rw [qo i (by omega)]; omega
      · by_cases e : i = s.ps.length
        · have hj' : j < cp := by omega
          have := dj.p j hj'
          rw [qo j hj']
          show (if i = s.ps.length then q else qp i) + 2 ≤ _ ∨ _ ≤ (if i = s.ps.length then q else qp i)
          rw [if_pos e]; right; omega
        · have hi' : i < cp := by omega
          have := dj.p i hi'
          rw [qo i hi']
          by_cases f : j = s.ps.length
          · show _ ≤ (if j = s.ps.length then q else qp j) ∨ (if j = s.ps.length then q else qp j) + 2 ≤ _
            rw [if_pos f]; left; omega
          · rw [qo j (by omega)]; exact dj.pp i j hi' (by omega) hij
      · have := dj.r i hi
        by_cases f : j = s.ps.length
        · show _ ≤ (if j = s.ps.length then q else qp j) ∨ (if j = s.ps.length then q else qp j) + 2 ≤ _
          rw [if_pos f]; left; omega
        · rw [qo j (by omega)]; exact dj.rp i j hi (by omega)
      · rw [qo i (by omega)]; exact hC1.ps i hi
    refine ⟨ω, q, cp + 1, qp', ?_, hC2, if_pos rfl, by omega, by rw [eω3]; exact w9, by rw [eω3, SH_G]; exact hSυ, ?_, ?_, by omega, by omega, by rw [eω3, zG_sl, nsl]; omega, fun i hi => qo i (by omega)⟩
    · rw [start, g0]
      show jx (d + 2) 77 21 [some (.ref 16), none] [.null] σ = _
      have e9' : jx (d + 1) 9 0 [some (.ref q), some (.int 24)] [] τ = some (none, υ) := e9
      rw [k77_21N (by rw [zO_T, if_pos rfl]), eτ, eq, e9']
      simp only [Option.bind_some, Option.toList_none, List.nil_append]
      have npυ : jI υ 586 16 = nI s.ps.length := hC1.np
      rw [k77_39 (sT_16 hSυ) (rn hSυ) (by rw [rg hSυ, sT_46 hSυ]; decide), rg hSυ, sN_46 hSυ, npυ, if_neg g16, k77_52R (sT_16 hSυ) (rn hSυ) (by rw [rg hSυ, sT_46 hSυ, w9.1]) (by rw [rg hSυ, sT_46 hSυ]; decide) (by rw [rg hSυ, sN_46 hSυ, npυ]; exact gn) w9.1, rg hSυ, npυ, qn, eω]
    · have := ex.sm hx
      rw [eω3]
      exact ⟨fun g => by rw [zG_I]; exact this.1 g, fun a i h1 h2 => by rw [zG_A]; exact this.2 a i h1 h2⟩
    · have := ex.low hx
      rw [eω3]
      exact fun a ha => ⟨by rw [zG_T]; exact (this a ha).1, by rw [zG_N]; exact (this a ha).2.1, fun i => by rw [zG_A]; exact (this a ha).2.2 i⟩
theorem c77 (hS : SH σ) (hx : 81 ≤ jnx σ) (hC : CX s cr cp qr qp σ) (hn : s.ps.length < 16) : ∃ σ' q cp' qp', jx (d + 2) 77 0 [some (.ref 16), none] [] σ = some (some (.ref q), σ') ∧ CX s cr cp' qr qp' σ' ∧ qp' s.ps.length = q ∧ s.ps.length < cp' ∧ RW σ' q (q + 1) 24 0 ∧ SH σ' ∧ sameM σ σ' ∧ low σ σ' ∧ jnx σ ≤ jnx σ' ∧ jnx σ' ≤ jnx σ + 2 ∧ jsl σ' ≤ jsl σ + 147 := by
  obtain ⟨σ', q, cp', qp', h1, h2, h3, h4, h5, h6, h7, h8, h9, h10, h11, _⟩ := c77q (d := d) hS hx hC hn
  exact ⟨σ', q, cp', qp', h1, h2, h3, h4, h5, h6, h7, h8, h9, h10, h11⟩
end FRS
end S_84
section S_85
/-! program -/
def PSF (R N a i : Nat) : Prop := a ≠ 48 ∧ a ≠ 70 ∧ a < 78 ∧ (a = 50 → 2 * R ≤ i) ∧ (a = 51 ∨ a = 55 → 8 * R ≤ i) ∧ (a = 52 → 24 * R ≤ i) ∧ (a = 53 ∨ a = 54 → 16 * R ≤ i) ∧ (a = 56 ∨ a = 57 ∨ a = 59 ∨ a = 60 ∨ a = 61 ∨ a = 63 ∨ a = 64 → R ≤ i) ∧ (a = 58 → 3 * R ≤ i) ∧ (a = 65 → N ≤ i) ∧ (66 ≤ a ∧ a ≤ 69 → 24 * N ≤ i)
theorem MO.ps {σ σ' : jS} {k : Nat} {o : Nat → Int32} (h : MO σ k o) (e : ∀ a i, (a = 51 ∨ a = 55 → i = k) → (a = 52 → 3 * k ≤ i ∧ i < 3 * k + 3) → (a = 53 ∨ a = 54 → i = 2 * k ∨ i = 2 * k + 1) → 51 ≤ a → a ≤ 55 → jA σ' a i = jA σ a i) : MO σ' k o := by
  obtain ⟨h1, h2, h3, h4, h5⟩ := h
  have r3 := regN3 (o 0).toNatClampNeg
  refine ⟨by rw [e 51 k (fun _ => rfl) (fun z => by omega) (fun z => by omega) (by decide) (by decide)]; exact h1, fun j hj => by rw [e 52 (3 * k + j) (fun z => by omega) (fun _ => by omega) (fun z => by omega) (by decide) (by decide)]; exact h2 j hj, fun hn => (h3 hn).frame (e 53 _ (fun z => by omega) (fun z => by omega) (fun _ => Or.inl rfl) (by decide) (by decide)) (e 54 _ (fun z => by omega) (fun z => by omega) (fun _ => Or.inl rfl) (by decide) (by decide)), by rw [e 55 k (fun _ => rfl) (fun z => by omega) (fun z => by omega) (by decide) (by decide)]; exact h4, fun hn => (h5 hn).frame (e 53 _ (fun z => by omega) (fun z => by omega) (fun _ => Or.inr rfl) (by decide) (by decide)) (e 54 _ (fun z => by omega) (fun z => by omega) (fun _ => Or.inr rfl) (by decide) (by decide))⟩
theorem CM.ar {s : AS} {σ σ' : jS} {P : Nat → Nat → Prop} (hs : WFs s) (h : CM s σ) (hI : ∀ g, g ≠ 666 → g ≠ 667 → g ≠ 668 → jI σ' g 47 = jI σ g 47) (hA : ∀ a i, 48 ≤ a → a ≤ 80 → ¬ P a i → jA σ' a i = jA σ a i) (hP : ∀ a i, P a i → PSF s.rs.length s.ps.length a i) : CM s σ' := by
  have A : ∀ a i, 48 ≤ a → a ≤ 80 → ¬ PSF s.rs.length s.ps.length a i → jA σ' a i = jA σ a i := fun a i h1 h2 hn => hA a i h1 h2 (fun z => hn (hP a i z))
  refine ⟨fun k hk => by rw [A 70 k (by decide) (by decide) (fun z => z.2.1 rfl)]; exact h.nv k hk, by rw [hI 644 (by decide) (by decide) (by decide)]; exact h.nr, by rw [hI 660 (by decide) (by decide) (by decide)]; exact h.np, by rw [hI 640 (by decide) (by decide) (by decide)]; exact h.w, by rw [hI 682 (by decide) (by decide) (by decide)]; exact h.ap, ⟨by rw [hI 642 (by decide) (by decide) (by decide)]; exact h.tm.1, h.tm.2.1, fun i hi => by rw [A 48 i (by decide) (by decide) (fun z => z.1 rfl)]; exact h.tm.2.2 i hi⟩, by rw [hI 678 (by decide) (by decide) (by decide)]; exact h.ns, fun k w hk hw => by rw [A (78 + w) k (by omega) (by omega) (fun z => by have := z.2.2.1; omega)]; exact h.tl k w hk hw, fun i hi => ?_, fun i hi => ?_⟩
  · obtain ⟨⟨rg, m1, m2, m3, m4, m5, m6, m7, m8, m9, m10⟩, e1, e2, e3, e4⟩ := h.rs i hi
    have one : ∀ a, a = 56 ∨ a = 57 ∨ a = 59 ∨ a = 60 ∨ a = 61 ∨ a = 63 ∨ a = 64 → jA σ' a i = jA σ a i := fun a ha => A a i (by omega) (by omega) (fun z => by have := z.2.2.2.2.2.2.2.1 ha; omega)
    have mo : ∀ k o, 8 * i ≤ k → k < 8 * i + 8 → MO σ k o → MO σ' k o := fun k o h1 h2 hm => hm.ps (fun a j z1 z2 z3 h3 h4 => A a j (by omega) (by omega) (fun z => by
      obtain ⟨_, _, _, _, q1, q2, q3, _⟩ := z
      rcases (show a = 51 ∨ a = 52 ∨ a = 53 ∨ a = 54 ∨ a = 55 by omega) with e | e | e | e | e
      · have := q1 (Or.inl e); have := z1 (Or.inl e); omega
      · have := q2 e; have := z2 e; omega
      · have := q3 (Or.inl e); have := z3 (Or.inl e); omega
      · have := q3 (Or.inr e); have := z3 (Or.inr e); omega
      · have := q1 (Or.inr e); have := z1 (Or.inr e); omega))
    refine ⟨⟨rg, ?_, ?_, m3, m4, by rw [one 56 (by omega)]; exact m5, by rw [one 57 (by omega)]; exact m6, by rw [one 59 (by omega)]; exact m7, fun j hj => ?_, fun j hj => mo _ _ (by omega) (by omega) (m9 j hj), fun j hj => mo _ _ (by omega) (by omega) (m10 j hj)⟩, by rw [one 60 (by omega)]; exact e1, by rw [one 61 (by omega)]; exact e2, by rw [one 63 (by omega)]; exact e3, by rw [one 64 (by omega)]; exact e4⟩
    · rw [A 50 (2 * i) (by decide) (by decide) (fun z => by have := z.2.2.2.1 rfl; omega)]; exact m1
    · rw [A 50 (2 * i + 1) (by decide) (by decide) (fun z => by have := z.2.2.2.1 rfl; omega)]; exact m2
    · have h3 := (hs.fr _ (mem_rs hi)).nm3
      rw [A 58 (3 * i + j) (by decide) (by decide) (fun z => by have := z.2.2.2.2.2.2.2.2.1 rfl; omega)]; exact m8 j hj
  · obtain ⟨p1, p2, p3⟩ := h.ps i hi
    refine ⟨by rw [A 65 i (by decide) (by decide) (fun z => by have := z.2.2.2.2.2.2.2.2.2.1 rfl; omega)]; exact p1, p2, fun k j hk hj => ?_⟩
    rw [A (66 + j) (24 * i + k) (by omega) (by omega) (fun z => by have := z.2.2.2.2.2.2.2.2.2.2 ⟨by omega, by omega⟩; omega)]
    exact p3 k j hk hj
theorem mRegsP_wf {len : Nat} {b : Nat → Int32} : ∀ (f j p : Nat) (g : Nat → Int32) (z : Nat × (Nat → Int32)), (∀ i, i < 3 → ∃ u, u < 4 ∧ g i = nI u) → mRegsP len b f j p g = some z → ∀ i, i < 3 → ∃ u, u < 4 ∧ z.2 i = nI u := by
  intro f
  induction f with
  | zero => intro j p g z hg h; cases h; exact hg
  | succ f ih =>
    intro j p g z hg h
    obtain ⟨p1, _, h2⟩ := Option.bind_eq_some_iff.mp h
    obtain ⟨y, h3, h4⟩ := Option.bind_eq_some_iff.mp h2
    obtain ⟨l, hl, el⟩ := mLet_val (X := 97) (Y := 4) (by decide) (by decide) h3
    refine ih _ _ _ _ (fun i hi => ?_) h4
    unfold up6
    by_cases e : i = j
    · exact ⟨l, hl, by rw [if_pos e]; exact el⟩
    · rw [if_neg e]; exact hg i hi
theorem mOrd_wf {len W n p : Nat} {b : Nat → Int32} (hW : W = 1 ∨ W = 2 ∨ W = 3) {z : Nat × Nat × (Nat → Int32)} (h : mOrd len b W n p = some z) : PWF (mFn z.1 z.2.2) := by
  unfold mOrd at h
  obtain ⟨x, h1, h2⟩ := Option.bind_eq_some_iff.mp h
  obtain ⟨y, h3, h4⟩ := Option.bind_eq_some_iff.mp h2
  obtain ⟨w, h5, h6⟩ := Option.map_eq_some_iff.mp h4
  obtain ⟨⟨k, hk, zk⟩, -, -, -⟩ := mName_ok h1
  have kc : x.1.toNatClampNeg = k := by rw [zk]; exact nI_clamp (by omega)
  rw [kc] at h3 h5 h6
  have R := mRegsP_wf _ _ _ _ _ (fun i _ => ⟨0, by decide, rfl⟩) h3
  subst h6
  have V : ∀ i, i < 3 → ∃ u, u < 8 ∧ w.2 i = nI u ∧ (¬ (k = 0 ∧ i = 1) → u < 4) := by
    intro i hi
    unfold mNumP at h5
    by_cases hn : numN k = true
    · rw [if_pos hn] at h5
      obtain ⟨p1, _, h7⟩ := Option.bind_eq_some_iff.mp h5
      obtain ⟨v, h8, h9⟩ := Option.map_eq_some_iff.mp h7
      obtain ⟨u, hu, eu⟩ := mNum_nat h8
      subst h9
      show ∃ t, t < 8 ∧ (if i = 1 then kpM W k v.1 else y.2 i) = nI t ∧ _
      by_cases e : i = 1
      · obtain ⟨t, t1, t2, t3⟩ := kp_bnd hW hn (i := u + 15) (by omega)
        have ev : nI (u + 15) - 15 = v.1 := by rw [eu, show (15 : Int32) = nI 15 from rfl, nsub (by omega)]; congr 1
        rw [ev] at t3
        exact ⟨t, t1, by rw [if_pos e]; exact t3, fun q => t2 (fun z => q ⟨z, e⟩)⟩
      · obtain ⟨t, t1, t2⟩ := R i hi
        exact ⟨t, by omega, by rw [if_neg e]; exact t2, fun _ => t1⟩
    · rw [if_neg hn] at h5
      cases h5
      obtain ⟨t, t1, t2⟩ := R i hi
      exact ⟨t, by omega, t2, fun _ => t1⟩
  obtain ⟨a, a1, a2, a3⟩ := V 0 (by decide)
  obtain ⟨c, c1, c2, c3⟩ := V 1 (by decide)
  obtain ⟨e, e1, e2, e3⟩ := V 2 (by decide)
  exact ⟨k, a, c, e, ⟨hk, a3 (fun q => absurd q.2 (by decide)), e3 (fun q => absurd q.2 (by decide)), c1, fun q => c3 (fun z => q z.1)⟩, rfl, a2, c2, e2⟩
theorem mOrds_wf {len W : Nat} {b : Nat → Int32} (hW : W = 1 ∨ W = 2 ∨ W = 3) : ∀ (f n p : Nat) (os : List (Nat → Int32)), mOrds len b W f n p = some os → ∀ o, o ∈ os → PWF o := by
  intro f
  induction f with
  | zero => intro n p os h; cases h
  | succ f ih =>
    intro n p os h
    unfold mOrds at h
    obtain ⟨z, h1, h2⟩ := Option.bind_eq_some_iff.mp h
    have w := mOrd_wf hW h1
    split at h2
    · obtain ⟨w', h3, h4⟩ := Option.map_eq_some_iff.mp h2
      subst h4
      intro o ho
      rcases List.mem_cons.mp ho with e | e
      · rw [e]; exact w
      · exact ih _ _ _ h3 o e
    · split at h2
      · cases h2
        intro o ho
        rw [List.mem_singleton] at ho
        rw [ho]; exact w
      · cases h2
theorem mProg_wf {len W : Nat} {b : Nat → Int32} (hW : W = 1 ∨ W = 2 ∨ W = 3) {os : List (Nat → Int32)} (h : mProg len b W = some os) : ∀ o, o ∈ os → PWF o := by
  unfold mProg at h
  split at h
  · cases h; intro o ho; exact absurd ho (List.not_mem_nil)
  · exact mOrds_wf hW _ _ _ _ h
theorem PWF_of {zs os : List (Nat → Int32)} (hl : zs.length = os.length) (h : ∀ i j, i < os.length → j < 4 → (zs.getD i (fun _ => 0)) j = (os.getD i (fun _ => 0)) j) (hp : ∀ o, o ∈ os → PWF o) : ∀ o, o ∈ zs → PWF o := by
  intro o ho
  obtain ⟨i, hi, e⟩ := List.mem_iff_getElem.mp ho
  have eo : zs.getD i (fun _ => 0) = o := by rw [List.getD_eq_getElem?_getD, List.getElem?_eq_getElem hi, ← e]; rfl
  have hi' : i < os.length := by omega
  obtain ⟨k, x, y, z, h8, q0, q1, q2, q3⟩ := hp _ (mem_getD hi')
  have g := fun j (hj : j < 4) => h i j hi' hj
  rw [eo] at g
  exact ⟨k, x, y, z, h8, by rw [g 0 (by decide)]; exact q0, by rw [g 1 (by decide)]; exact q1, by rw [g 2 (by decide)]; exact q2, by rw [g 3 (by decide)]; exact q3⟩
theorem app_ps {ps : List (List (Nat → Int32))} {z : List (Nat → Int32)} {i : Nat} (h : i < ps.length + 1) : (ps ++ [z]).getD i [] = if i = ps.length then z else ps.getD i [] := by
  rw [List.getD_eq_getElem?_getD, List.getD_eq_getElem?_getD]
  by_cases e : i = ps.length
  · rw [if_pos e, List.getElem?_append_right (by omega), e, Nat.sub_self]
    rfl
  · rw [if_neg e, List.getElem?_append_left (by omega)]
end S_85
section S_86
/-! program, whole -/
section SM8
variable {d : Nat} {σ : jS} {s : AS} {cr cp : Nat} {qr qp : Nat → Nat}
/-- the class has read into the free place n; what it kept is as it was -/
theorem CX.free {cp' : Nat} {qp' : Nat → Nat} {σ' : jS} {l : List Nat} (hC : CX s cr cp' qr qp' σ) (hc : s.ps.length < cp') (f : FR l σ σ') (hl : ∀ x, x ∈ l → x = qp' s.ps.length ∨ x = qp' s.ps.length + 1 ∨ (x ∈ rdl)) (h256 : jI σ' 256 (qp' s.ps.length) = jI σ 256 (qp' s.ps.length)) : CX s cr cp' qr qp' σ' := by
  have bq := hC.dj.p s.ps.length hc
  have nl : ∀ x, x < 81 → x ∉ rdl → x ∉ l := fun x h1 h2 z => by
    rcases hl x z with q | q | q
    · omega
    · omega
    · exact h2 q
  have rdb : ∀ x, x ∈ rdl → x < 81 := by decide
  have out : ∀ i, i < cp' → i ≠ s.ps.length → ∀ z, qp' i ≤ z → z < qp' i + 2 → z ∉ l := fun i hi hik z h1 h2 hz => by
    have := hC.dj.pp i s.ps.length hi hc hik
    have := hC.dj.p i hi
    rcases hl z hz with q | q | q
    · omega
    · omega
    · have := rdb z q; omega
  have outr : ∀ i, i < cr → ∀ z, qr i ≤ z → z < qr i + 7 → z ∉ l := fun i hi z h1 h2 hz => by
    have := hC.dj.rp i s.ps.length hi hc
    have := hC.dj.r i hi
    rcases hl z hz with q | q | q
    · omega
    · omega
    · have := rdb z q; omega
  have i16 := (f.2 16 (nl 16 (by decide) (by decide))).1
  refine hC.gen f (fun z hz => ?_) (by rw [i16]; exact hC.nr) (by rw [i16]; exact hC.np) (by rw [i16]; exact hC.w) (by rw [i16]; exact hC.ap) rfl rfl (by rw [(f.2 43 (nl 43 (by decide) (by decide))).1]; exact hC.ns) (fun j v hj hv => by rw [(f.2 44 (nl 44 (by decide) (by decide))).2]; exact hC.tl j v hj hv) ?_ ?_ ?_ hC.lr.1 hC.lp.1 (fun i hi => ?_) (fun i hi => ?_) (fun i hi => ?_) (fun i hi => ?_)
  · rcases hl z hz with q | q | q
    · exact Or.inr (by omega)
    · exact Or.inr (by omega)
    · exact Or.inl ((by decide : ∀ x, x ∈ rdl → x ∈ scr2) z q)
  · obtain ⟨n, w⟩ := hC.w1; exact ⟨n, w.frame f (nl 30 (by decide) (by decide))⟩
  · obtain ⟨n, w⟩ := hC.w2; exact ⟨n, w.frame f (nl 32 (by decide) (by decide))⟩
  · obtain ⟨n, w⟩ := hC.w3; exact ⟨n, w.frame f (nl 41 (by decide) (by decide))⟩
  · exact (hC.gr i hi).2.fr f (outr i hi _ (by omega) (by omega)) (outr i hi _ (by omega) (by omega))
  · by_cases e : i = s.ps.length
    · rw [e]; exact RS.fr256 (hC.gp _ hc).2 f h256
    · exact (hC.gp i hi).2.fr f (out i hi e _ (by omega) (by omega))
  · have := hC.lr.1
    exact (hC.rs i hi).fr f (outr i (by omega))
  · have := hC.lp.1
    exact (hC.ps i hi).frame f (out i (by omega) (by omega) _ (by omega) (by omega)) (out i (by omega) (by omega) _ (by omega) (by omega))
theorem mOrds_len {len W : Nat} {b : Nat → Int32} : ∀ (f n p : Nat) (os : List (Nat → Int32)), n ≤ 24 → mOrds len b W f n p = some os → n + os.length ≤ 24 := by
  intro f
  induction f with
  | zero => intro n p os _ h; cases h
  | succ f ih =>
    intro n p os hn h
    unfold mOrds at h
    obtain ⟨z, h1, h2⟩ := Option.bind_eq_some_iff.mp h
    have n24 : n < 24 := by
      unfold mOrd at h1
      obtain ⟨y, hy, _⟩ := Option.bind_eq_some_iff.mp h1
      have := (mName_ok hy).2.2.2
      have : n ≠ 24 := fun e => this (by rw [e]; rfl)
      omega
    split at h2
    · obtain ⟨w', h3, h4⟩ := Option.map_eq_some_iff.mp h2
      have := ih _ _ _ (by omega) h3
      subst h4
      show n + (w'.length + 1) ≤ 24
      omega
    · split at h2
      · cases h2; show n + 1 ≤ 24; omega
      · cases h2
theorem mProg_len {len W : Nat} {b : Nat → Int32} {os : List (Nat → Int32)} (h : mProg len b W = some os) : os.length ≤ 24 := by
  unfold mProg at h
  split at h
  · cases h; exact Nat.zero_le _
  · have := mOrds_len _ _ _ _ (by decide) h; omega
def sLen0 (s : AS) : AS := (s.W, 0, s.b, s.rs, s.ps, s.ns, s.tl, s.ap)
def sAdd (s : AS) (z : List (Nat → Int32)) : AS := (s.W, 0, s.b, s.rs, s.ps ++ [z], s.ns, s.tl, s.ap)
theorem sameC.trans {σ τ υ : jS} (h : sameC σ τ) (k : sameC τ υ) : sameC σ υ := ⟨Nat.le_trans h.1 k.1, fun a ha hb => by
  have x := h.2 a ha hb
  have y := k.2 a (Nat.lt_of_lt_of_le ha h.1) hb
  exact ⟨y.1.trans x.1, y.2.1.trans x.2.1, fun g => (y.2.2.1 g).trans (x.2.2.1 g), fun g => (y.2.2.2.1 g).trans (x.2.2.2.1 g), fun i => (y.2.2.2.2.1 i).trans (x.2.2.2.2.1 i), fun i => (y.2.2.2.2.2 i).trans (x.2.2.2.2.2 i)⟩⟩
theorem sameM.trans {σ τ υ : jS} (h : sameM σ τ) (k : sameM τ υ) : sameM σ υ := ⟨fun g => (k.1 g).trans (h.1 g), fun a i h1 h2 => (k.2 a i h1 h2).trans (h.2 a i h1 h2)⟩
/-- the reference's program() -/
theorem ref_program {α : jS} (hS : SH α) (hx : 81 ≤ jnx α) (hs : WFs s) (hM : CM s α) (hn : s.ps.length < 16) : ∃ β a', jx (d + 4) 158 0 [some (.ref 47)] [] α = some (some (.int a'), β) ∧ sameC α β ∧ SH β ∧ jnx β ≤ jnx α + 25 ∧ jsl β ≤ jsl α + 75 ∧ (match mProg s.len s.b s.W with | some os => ∀ z : List (Nat → Int32), z.length = os.length → (∀ i j, i < os.length → j < 4 → (z.getD i (fun _ => 0)) j = (os.getD i (fun _ => 0)) j) → CM (sAdd s z) β | none => CM (sLen0 s) β) := by
  obtain ⟨τ, eτ⟩ : ∃ τ, jsI α 667 47 0 = τ := ⟨_, rfl⟩
  have hMτ : CM s τ := by
    rw [← eτ]
    exact hM.I47 (by rw [zI_I, if_neg (by decide)]; exact hM.nr) (by rw [zI_I, if_neg (by decide)]; exact hM.np) (by rw [zI_I, if_neg (by decide)]; exact hM.w) (by rw [zI_I, if_neg (by decide)]; exact hM.ap) (by rw [TM_I (by decide)]; exact hM.tm) (by rw [zI_I, if_neg (by decide)]; exact hM.ns) hM.tl hM.rs hM.ps
  have hSτ : SH τ := by rw [← eτ, SH_I]; exact hS
  have nxτ : jnx τ = jnx α := by rw [← eτ]; rfl
  have slτ : jsl τ = jsl α := by rw [← eτ]; rfl
  have hxτ : 81 ≤ jnx τ := by omega
  have z0τ : jI τ 667 47 = 0 := by rw [← eτ, zI_I, if_pos ⟨rfl, rfl⟩]
  obtain ⟨β, e5, f5, nx5, sl5, r5⟩ := c159 (d := d) (W := s.W) (P := s.ps.length) hn hs.w hxτ hSτ hMτ.nv hMτ.tm z0τ hMτ.w
  have hSβ := f5.sh hxτ hSτ
  have hMβ : CM s β := hMτ.ar hs (fun g a b c => f5.f47 hxτ ⟨a, b, c⟩) (fun a i h1 h2 hp => f5.ar hxτ (by omega) i hp (by omega)) (fun a i hp => by
    unfold PP at hp
    unfold PSF
    omega)
  have scβ : sameC α β := (eτ ▸ i47sc 667 0 : sameC α τ).trans (f5.sc (fun a i hp => by unfold PP at hp; omega))
  have n16 : ¬ nI s.ps.length = 16 := by rw [show (16 : Int32) = nI 16 from rfl, n31eq (by omega) (by decide)]; omega
  have to25 : jx (d + 4) 158 0 [some (.ref 47)] [] α = if jI β 667 47 ≤ 0 then jx (d + 4) 158 45 [some (.ref 47)] [] (jsI β 642 47 0) else jx (d + 4) 158 37 [some (.ref 47)] [] (jsI β 642 47 0) := by
    rw [k158_0 (sT_47 hS), hM.np, if_pos n16, k158_12 (sT_47 hS), hM.np, eτ, e5]
    simp only [Option.bind_some, Option.toList_none, List.nil_append]
    rw [k158_25 (sT_47 hSβ)]
  have hS6 : SH (jsI β 642 47 0) := by rw [SH_I]; exact hSβ
  have sc6 : sameC α (jsI β 642 47 0) := scβ.trans (i47sc 642 0)
  have M6 : ∀ s' : AS, s'.W = s.W → s'.len = 0 → s'.rs = s.rs → s'.ps = s.ps → s'.ns = s.ns → s'.tl = s.tl → s'.ap = s.ap → CM s' (jsI β 642 47 0) := by
    intro s' h1 h2 h3 h4 h5 h6 h7
    exact hMβ.I47 (by rw [zI_I, if_neg (by decide), h3]; exact hMβ.nr) (by rw [zI_I, if_neg (by decide), h4]; exact hMβ.np) (by rw [zI_I, if_neg (by decide), h1]; exact hMβ.w) (by rw [zI_I, if_neg (by decide), h7]; exact hMβ.ap) ⟨by rw [zI_I, if_pos ⟨rfl, rfl⟩, h2]; rfl, by rw [h2]; exact Nat.zero_le _, fun i hi => by rw [h2] at hi; exact absurd hi (Nat.not_lt_zero i)⟩ (by rw [zI_I, if_neg (by decide), h5]; exact hMβ.ns) (by rw [h5, h6]; exact hMβ.tl) (by rw [h3]; exact hMβ.rs) (by rw [h4]; exact hMβ.ps)
  cases hP : mProg s.len s.b s.W with
  | none =>
    rw [hP] at r5
    have r5 : ¬ jI β 667 47 = 0 := r5
    have pos : 0 < jI β 667 47 := by
      rcases f5.1 with q | q
      · rw [z0τ] at q; exact absurd q r5
      · exact q
    refine ⟨jsI β 642 47 0, (-10) - jI (jsI β 642 47 0) 668 47, ?_, sc6, hS6, by show jnx β ≤ _; omega, by show jsl β ≤ _; omega, M6 (sLen0 s) rfl rfl rfl rfl rfl rfl rfl⟩
    rw [to25, if_neg (by rw [Int32.not_le]; exact pos), k158_37 (sT_47 hS6)]
  | some os =>
    rw [hP] at r5
    obtain ⟨q1, q2, q3, q4⟩ := r5
    have hM6 := M6 (sLen0 s) rfl rfl rfl rfl rfl rfl rfl
    have np6 : jI (jsI β 642 47 0) 660 47 = nI s.ps.length := hM6.np
    refine ⟨jsI (jsI β 642 47 0) 660 47 (nI (s.ps.length + 1)), jI (jsI (jsI β 642 47 0) 660 47 (nI (s.ps.length + 1))) 660 47 - 1, ?_, sc6.trans (i47sc 660 _), by rw [SH_I]; exact hS6, by show jnx β ≤ _; omega, by show jsl β ≤ _; omega, fun z hz hj => ?_⟩
    · have le : jI β 667 47 ≤ 0 := by rw [q3]; decide
      rw [to25, if_pos le, k158_45 (sT_47 hS6), np6, ← nI_succ]
    · have elen : (sAdd s z).ps.length = s.ps.length + 1 := by show (s.ps ++ [z]).length = _; rw [List.length_append]; rfl
      refine hM6.I47 (by rw [zI_I, if_neg (by decide)]; exact hM6.nr) (by rw [zI_I, if_pos ⟨rfl, rfl⟩, elen]) (by rw [zI_I, if_neg (by decide)]; exact hM6.w) (by rw [zI_I, if_neg (by decide)]; exact hM6.ap) (by rw [TM_I (by decide)]; exact hM6.tm) (by rw [zI_I, if_neg (by decide)]; exact hM6.ns) hM6.tl hM6.rs (fun i hi => ?_)
      rw [elen] at hi
      show PM _ i ((s.ps ++ [z]).getD i [])
      rw [app_ps hi]
      by_cases e : i = s.ps.length
      · rw [if_pos e, e]
        exact ⟨by rw [hz]; exact q1, by omega, fun k j hk hj' => by rw [hj k j (by omega) hj']; exact q4 k j (by omega) hj'⟩
      · rw [if_neg e]; exact hM6.ps i (by show i < s.ps.length; omega)
/-- the class's program() -/
theorem cls_program (hS : SH σ) (hx : 81 ≤ jnx σ) (hs : WFs s) (hC : CX s cr cp qr qp σ) (hn : s.ps.length < 16) (h24 : ∀ z, sProg s.len s.b s.W = some z → z.length ≤ 24) : ∃ σ' a cp' qp', jx (d + 8) 76 0 [some (.ref 16), none] [] σ = some (some (.int a), σ') ∧ SH σ' ∧ sameM σ σ' ∧ low σ σ' ∧ jnx σ ≤ jnx σ' ∧ jnx σ' ≤ jnx σ + 2 ∧ jsl σ' ≤ jsl σ + 147 ∧ (match sProg s.len s.b s.W with | some z => CX (sAdd s z) cr cp' qr qp' σ' | none => CX (sLen0 s) cr cp' qr qp' σ') := by
  obtain ⟨σ1, q, cp', qp', e1, hC1, eq, hc, w1, hS1, sm1, lo1, nx1, nx1', sl1⟩ := c77 (d := d + 5) hS hx hC hn
  have bq := hC1.dj.p s.ps.length hc
  rw [eq] at bq
  have nin : ∀ x, 81 ≤ x → x ∉ [1, 2, 17, 18, 19, 20, 21, 22, 23, 24] := fun x h => by simp; omega
  obtain ⟨σ2, e2, f2, g2, r2⟩ := c78 (d := d) (W := s.W) hS1 hC1.st hC1.tx (q := q) (a := q + 1) (by omega) (nin q (by omega)) (nin (q + 1) (by omega)) w1
  have hS2 := f2.sh hS1
  have hC2 : CX s cr cp' qr qp' σ2 := hC1.free hc f2 (fun x hx => by rw [eq]; simpa using hx) (by rw [eq]; exact g2 256 (by decide))
  obtain ⟨v, ev⟩ : ∃ v, jI σ2 192 17 = v := ⟨_, rfl⟩
  obtain ⟨σ3, eσ3⟩ : ∃ σ3, jsI σ2 449 18 0 = σ3 := ⟨_, rfl⟩
  obtain ⟨σ4, eσ4⟩ : ∃ σ4, jsI σ3 588 16 v = σ4 := ⟨_, rfl⟩
  have F3 : FR [18] σ2 σ3 := eσ3 ▸ (FR.refl _ σ2).I (by decide)
  have F4 : FR [16] σ3 σ4 := eσ4 ▸ (FR.refl _ σ3).I (by decide)
  have hS3 := F3.sh hS2
  have hS4 := F4.sh hS3
  have hC3 : CX (sLen0 s) cr cp' qr qp' σ3 := hC2.tape F3 (by simp) rfl rfl rfl rfl rfl rfl ⟨by rw [← eσ3, zI_I, if_pos ⟨rfl, rfl⟩]; rfl, Nat.zero_le _, fun i hi => absurd hi (Nat.not_lt_zero i)⟩
  have i4 : ∀ g, g ≠ 588 → jI σ4 g 16 = jI σ3 g 16 := fun g hg => by rw [← eσ4, zI_I, if_neg (fun z => hg z.1)]
  have hC4 : CX (sLen0 s) cr cp' qr qp' σ4 := hC3.fr F4 (by decide) (by rw [i4 585 (by decide)]; exact hC3.nr) (by rw [i4 586 (by decide)]; exact hC3.np) (by rw [i4 587 (by decide)]; exact hC3.w) (by rw [i4 589 (by decide)]; exact hC3.ap) rfl rfl rfl rfl hC3.lr.1 hC3.lp.1 hC3.rs hC3.ps
  have nx2 : jnx σ4 = jnx σ1 := by rw [F4.1.2.2.2.2.1, F3.1.2.2.2.2.1, f2.1.2.2.2.2.1]
  have sl2 : jsl σ4 = jsl σ1 := by rw [F4.1.2.2.2.2.2, F3.1.2.2.2.2.2, f2.1.2.2.2.2.2]
  have big : ∀ x : Nat, x ∈ (q :: (q + 1) :: rdl) → 16 ≤ x ∧ (x < 47 ∨ 80 < x) := fun x hx => by
    simp only [List.mem_cons] at hx
    rcases hx with h | h | h
    · rw [h]; exact ⟨by omega, Or.inr (by omega)⟩
    · rw [h]; exact ⟨by omega, Or.inr (by omega)⟩
    · exact (by decide : ∀ x : Nat, x ∈ rdl → 16 ≤ x ∧ (x < 47 ∨ 80 < x)) x h
  have smf : ∀ {l : List Nat} {α β : jS}, FR l α β → (∀ x : Nat, x ∈ l → 16 ≤ x ∧ (x < 47 ∨ 80 < x)) → sameM α β := fun f h => f.sm (fun a h1 h2 z => by have := h a z; omega)
  have sm4 : sameM σ σ4 := ((sm1.trans (smf f2 big)).trans (smf F3 (by simp))).trans (smf F4 (by simp))
  have lo4 : low σ σ4 := ((lo1.trans (f2.low (fun x hx => (big x hx).1))).trans (F3.low (by simp))).trans (F4.low (by simp))
  have r6 : ∀ {υ : jS}, SH υ → (jR υ 576 16).getD 0 = 17 := fun h => by rw [sR_576_16 h]; rfl
  have n6 : ∀ {υ : jS}, SH υ → jR υ 576 16 ≠ none := fun h => by rw [sR_576_16 h]; exact fun z => nomatch z
  have to4 : jx (d + 8) 76 0 [some (.ref 16), none] [] σ = if v = 0 then jx (d + 8) 76 66 [some (.ref 16), some (.ref q)] [] σ4 else jx (d + 8) 76 55 [some (.ref 16), some (.ref q)] [] σ4 := by
    have lt : nI s.ps.length < (16 : Int32) := by rw [show (16 : Int32) = nI 16 from rfl, n31 (by omega) (by decide)]; exact hn
    have r7 : ∀ {υ : jS}, SH υ → (jR υ 577 16).getD 0 = 18 := fun h => by rw [sR_577_16 h]; rfl
    have n7 : ∀ {υ : jS}, SH υ → jR υ 577 16 ≠ none := fun h => by rw [sR_577_16 h]; exact fun z => nomatch z
    have e588 : jI σ4 588 16 = v := by rw [← eσ4, zI_I, if_pos ⟨rfl, rfl⟩]
    rw [k76_0 (sT_16 hS), hC.np, if_pos lt, k76_12 (sT_16 hS), e1]
    simp only [Option.bind_some, Option.toList_some, List.cons_append, List.nil_append]
    rw [k76_16 (sT_16 hS1) (n6 hS1) (by rw [r6 hS1]; exact sT_17 hS1), r6 hS1, hC1.w, e2]
    simp only [Option.bind_some, Option.toList_none, List.nil_append]
    rw [k76_29 (sT_16 hS2) (n7 hS2) (by rw [r7 hS2]; exact sT_18 hS2) (n6 hS2) (by rw [r6 hS2]; exact sT_17 hS2), r7 hS2, r6 hS2, ev, eσ3, eσ4, e588]
  cases hP : sProg s.len s.b s.W with
  | none =>
    rw [hP] at r2
    have r2 : ¬ jI σ2 192 17 = 0 := r2
    rw [ev] at r2
    refine ⟨σ4, (-10) - jI σ4 193 17, cp', qp', ?_, hS4, sm4, lo4, by omega, by omega, by omega, hC4⟩
    rw [to4, if_neg r2, k76_55 (sT_16 hS4) (n6 hS4) (by rw [r6 hS4]; exact sT_17 hS4), r6 hS4]
  | some z =>
    rw [hP] at r2
    obtain ⟨r20, rc⟩ := r2
    rw [ev] at r20
    have np4 : jI σ4 586 16 = nI s.ps.length := hC4.np
    have F5 : FR [16] σ4 (jsI σ4 586 16 (nI (s.ps.length + 1))) := (FR.refl _ σ4).I (by decide)
    have elen : (sAdd s z).ps.length = s.ps.length + 1 := by show (s.ps ++ [z]).length = _; rw [List.length_append]; rfl
    have z24 := h24 z hP
    have roq : RO σ4 q (q + 1) 24 z := by
      have n18 : ∀ {l : List Nat}, (∀ x, x ∈ l → x < 81) → q ∉ l ∧ q + 1 ∉ l := fun h => ⟨fun w => by have := h _ w; omega, fun w => by have := h _ w; omega⟩
      have rs2 : RS σ2 q (q + 1) 24 := RS.fr256 w1.rs f2 (g2 256 (by decide))
      have rw2 : RW σ2 q (q + 1) 24 z.length := ⟨rs2.1, rs2.2.1, rs2.2.2.1, rs2.2.2.2.1, rs2.2.2.2.2.1, rc.1, z24, by decide⟩
      have ro2 : RO σ2 q (q + 1) 24 z := ⟨rw2, rc⟩
      exact (ro2.frame F3 (n18 (by simp)).1 (n18 (by simp)).2).frame F4 (n18 (by simp)).1 (n18 (by simp)).2
    refine ⟨jsI σ4 586 16 (nI (s.ps.length + 1)), jI (jsI σ4 586 16 (nI (s.ps.length + 1))) 586 16 - 1, cp', qp', ?_, by rw [SH_I]; exact hS4, sm4.trans (smf F5 (by simp)), lo4.trans (F5.low (by simp)), by show _ ≤ jnx σ4; omega, by show jnx σ4 ≤ _; omega, by show jsl σ4 ≤ _; omega, ?_⟩
    · rw [to4, if_pos r20, k76_66 (sT_16 hS4), np4, ← nI_succ]
    · refine hC4.fr F5 (by decide) (by rw [zI_I, if_neg (by decide)]; exact hC4.nr) (by rw [zI_I, if_pos ⟨rfl, rfl⟩, elen]) (by rw [zI_I, if_neg (by decide)]; exact hC4.w) (by rw [zI_I, if_neg (by decide)]; exact hC4.ap) rfl rfl rfl rfl hC4.lr.1 (by rw [elen]; omega) hC4.rs (fun i hi => ?_)
      rw [elen] at hi
      show RO _ _ _ _ ((s.ps ++ [z]).getD i [])
      rw [app_ps hi]
      by_cases e : i = s.ps.length
      · rw [if_pos e, e, eq]; exact roq
      · rw [if_neg e]; exact hC4.ps i (by show i < s.ps.length; omega)
theorem sim_program (hR : REL s cr cp qr qp σ) : SimR (d + 8) 76 158 [none] [] false σ := by
  have hR0 := hR
  obtain ⟨hS, hx, hs, hC, hM⟩ := hR
  have hl := hs.p16
  by_cases hn : s.ps.length < 16
  · have same := progs_same (len := s.len) (W := s.W) (b := s.b) hs.byy hs.w
    obtain ⟨σ1, a, cp', qp', e1, hS1, sm1, lo1, nx1, nx1', sl1, r1⟩ := cls_program (d := d) hS hx hs hC hn (fun z hz => by
      rw [hz] at same
      cases hP : mProg s.len s.b s.W with
      | none => rw [hP] at same; exact same.elim
      | some os => rw [hP] at same; rw [same.1]; exact mProg_len hP)
    have hM1 := hM.sm sm1
    obtain ⟨σ2, a', e2, sc2, hS2, nx2, sl2, r2⟩ := ref_program (d := d + 4) hS1 (by omega) hs hM1 hn
    have fin : ∀ s', WFs s' → CX s' cr cp' qr qp' σ1 → CM s' σ2 → SimR (d + 8) 76 158 [none] [] false σ := fun s' w c m => ⟨a, a', σ1, σ2, s', cr, cp', qr, qp', e1, e2, ⟨hS2, by have := sc2.1; omega, w, CX.sc (by omega) c sc2, m⟩, by omega, by omega, lo1.trans (sc2.low (by omega)), fun z => absurd z (by decide)⟩
    cases hP : sProg s.len s.b s.W with
    | none =>
      cases hQ : mProg s.len s.b s.W with
      | none =>
        rw [hP] at r1
        rw [hQ] at r2
        exact fin (sLen0 s) ⟨hs.w, Nat.zero_le _, fun i hi => absurd hi (Nat.not_lt_zero i), hs.r24, hs.p16, hs.fr, hs.fp, hs.n144⟩ r1 r2
      | some os => rw [hP, hQ] at same; exact same.elim
    | some z =>
      cases hQ : mProg s.len s.b s.W with
      | none => rw [hP, hQ] at same; exact same.elim
      | some os =>
        rw [hP] at r1
        rw [hQ] at r2
        rw [hP, hQ] at same
        have elen : (sAdd s z).ps.length = s.ps.length + 1 := by show (s.ps ++ [z]).length = _; rw [List.length_append]; rfl
        refine fin (sAdd s z) ⟨hs.w, Nat.zero_le _, fun i hi => absurd hi (Nat.not_lt_zero i), hs.r24, by rw [elen]; omega, hs.fr, fun p hp => ?_, hs.n144⟩ r1 (r2 z same.1 same.2)
        rcases List.mem_append.mp hp with q | q
        · exact hs.fp p q
        · rw [List.mem_singleton] at q
          rw [q]
          exact ⟨by rw [same.1]; exact mProg_len hQ, PWF_of same.1 same.2 (mProg_wf hs.w hQ)⟩
  · have e16 : s.ps.length = 16 := by omega
    refine SimR.read hR0 (a := -3) (a' := -3) ?_ ?_ (fun _ => rfl)
    · have lt : ¬ nI s.ps.length < (16 : Int32) := by rw [e16]; decide
      show jx (d + 8) 76 0 [some (.ref 16), none] [] σ = _
      rw [k76_0 (sT_16 hS), hC.np, if_neg lt, k76_9]
    · have q : nI s.ps.length = 16 := by rw [e16]; rfl
      show jx (d + 8) 158 0 [some (.ref 47)] [] σ = _
      rw [k158_0 (sT_47 hS), hM.np, if_neg (fun z => z q), k158_9]
end SM8
end S_86
section S_87
/-! orders copied -/
theorem getD_app {ds es : List (Nat → Int32)} {i : Nat} : (ds ++ es).getD i (fun _ => 0) = if i < ds.length then ds.getD i (fun _ => 0) else es.getD (i - ds.length) (fun _ => 0) := by
  rw [List.getD_eq_getElem?_getD, List.getD_eq_getElem?_getD, List.getD_eq_getElem?_getD]
  by_cases h : i < ds.length
  · rw [if_pos h, List.getElem?_append_left h]
  · rw [if_neg h, List.getElem?_append_right (by omega)]
section JOI
variable {d : Nat}
theorem c94 {σ : jS} {q a m s as ms i : Nat} {ds ss : List (Nat → Int32)} (hD : RO σ q a m ds) (hm : ds.length < m) (hR : RO σ s as ms ss) (hi : i < ss.length) (qa : ¬ q = a) (hs : s ∉ [q, a]) (has : as ∉ [q, a]) : ∃ σ', jx (d + 2) 94 0 [some (.ref q), some (.ref s), some (.int (nI i)), none] [] σ = some (none, σ') ∧ FR [q, a] σ σ' ∧ (∀ g, g ≠ 257 → jI σ' g q = jI σ g q) ∧ RO σ' q a m (ds ++ [ss.getD i (fun _ => 0)]) := by
  obtain ⟨σ2, e2, F2, hW2, hg2, hA2, hz2⟩ := c62 (d := d + 1) hD.1 hm qa
  have m24 : m ≤ 24 := hD.1.2.2.2.2.2.2.2
  have s24 : ss.length ≤ ms ∧ ms ≤ 24 := ⟨hR.1.2.2.2.2.2.2.1, hR.1.2.2.2.2.2.2.2⟩
  obtain ⟨o, eo⟩ : ∃ o, ss.getD i (fun _ => 0) = o := ⟨_, rfl⟩
  rw [eo]
  have L : ∀ f j υ, j + f = 6 → FR [q, a] σ υ → RW υ q a m (ds.length + 1) → (∀ g, g ≠ 257 → jI υ g q = jI σ g q) → (∀ k, k < 6 * ds.length → jA υ a k = jA σ a k) → (∀ k, k < j → jA υ a (6 * ds.length + k) = o k) → ∃ σ', jx (d + 2) 94 9 [some (.ref q), some (.ref s), some (.int (nI i)), some (.int (nI j))] [] υ = some (none, σ') ∧ FR [q, a] σ σ' ∧ RW σ' q a m (ds.length + 1) ∧ (∀ g, g ≠ 257 → jI σ' g q = jI σ g q) ∧ (∀ k, k < 6 * ds.length → jA σ' a k = jA σ a k) ∧ (∀ k, k < 6 → jA σ' a (6 * ds.length + k) = o k) := by
    intro f
    induction f with
    | zero =>
      intro j υ hj F w g h1 h2
      have e : j = 6 := by omega
      subst e
      exact ⟨υ, by rw [k94_9, if_pos (by decide), k94_38], F, w, g, h1, h2⟩
    | succ f ih =>
      intro j υ hj F w g h1 h2
      have j6 : ¬ (6 : Int32) ≤ nI j := nI_ge (b := 6) (by omega) (by omega)
      have c1 := c51 (d := d) (hR.frame F hs has) hi (j := j) (by omega)
      rw [eo] at c1
      have c2 := c63 (d := d) w (i := ds.length) (Nat.lt_succ_self _) (j := j) (by omega) (o j)
      have e257 : jI υ 257 q - 1 = nI ds.length := by rw [w.2.2.2.2.2.1, show (1 : Int32) = nI 1 from rfl, nsub (by omega)]; rfl
      obtain ⟨σ', e', F', w', g', h1', h2'⟩ := ih (j + 1) (jsA υ a (6 * ds.length + j) (o j)) (by omega) (F.A (by simp)) (w.frame ((FR.refl [a] υ).A (by simp)) (by simpa using qa)) (fun x hx => by rw [zA_I]; exact g x hx) (fun k hk => by rw [zA_A, if_neg (fun z => by omega)]; exact h1 k hk) (fun k hk => by
        rw [zA_A]
        by_cases e : k = j
        · rw [if_pos ⟨rfl, by omega⟩, e]
        · rw [if_neg (fun z => by omega)]; exact h2 k (by omega))
      refine ⟨σ', ?_, F', w', g', h1', h2'⟩
      rw [← e', k94_9, if_neg j6, k94_15 w.1 (by rw [F.1.1]; exact hR.1.1), c1, e257]
      simp only [Option.bind_some, Option.toList_some, List.cons_append, List.nil_append]
      rw [k94_29 w.1, c2]
      simp only [Option.bind_some, Option.toList_none, List.nil_append]
      rw [k94_32, ← nI_succ]
  obtain ⟨σ', e', F', w', g', h1', h2'⟩ := L 6 0 σ2 rfl F2 hW2 hg2 hA2 (fun k hk => absurd hk (Nat.not_lt_zero k))
  have le : (ds ++ [o]).length = ds.length + 1 := by rw [List.length_append]; rfl
  refine ⟨σ', ?_, F', g', by rw [le]; exact w', by rw [le]; exact w'.2.2.2.2.2.1, fun k j hk hj => ?_⟩
  · rw [k94_0 hD.1.1, e2]
    simp only [Option.bind_some, Option.toList_some, List.cons_append, List.nil_append]
    rw [k94_4, if_neg (by decide), k94_7]
    exact e'
  · rw [getD_app]
    by_cases h : k < ds.length
    · rw [if_pos h, h1' _ (by omega)]; exact hD.2.2 k j h hj
    · have e : k = ds.length := by omega
      rw [if_neg h, e, Nat.sub_self, h2' j hj]
      rfl
/-- the orders fr to t of ss -/
def sub (ss : List (Nat → Int32)) (fr t : Nat) : List (Nat → Int32) := (ss.take t).drop fr
theorem sub_len {ss : List (Nat → Int32)} {fr t : Nat} (h : t ≤ ss.length) : (sub ss fr t).length = t - fr := by
  unfold sub
  rw [List.length_drop, List.length_take, Nat.min_eq_left h]
theorem sub_get {ss : List (Nat → Int32)} {fr t i : Nat} (ht : t ≤ ss.length) (h : i < t - fr) : (sub ss fr t).getD i (fun _ => 0) = ss.getD (fr + i) (fun _ => 0) := by
  unfold sub
  rw [List.getD_eq_getElem?_getD, List.getElem?_drop, List.getElem?_take_of_lt (by omega), List.getD_eq_getElem?_getD]
theorem sub_succ {ss : List (Nat → Int32)} {fr t : Nat} (h : fr < t) (ht : t ≤ ss.length) : sub ss fr t = ss.getD fr (fun _ => 0) :: sub ss (fr + 1) t := by
  unfold sub
  have hl : fr < (ss.take t).length := by rw [List.length_take, Nat.min_eq_left ht]; exact h
  rw [List.drop_eq_getElem_cons hl, List.getElem_take, List.getD_eq_getElem?_getD, List.getElem?_eq_getElem (by omega)]
  rfl
theorem c93 {σ : jS} {q a m s as ms fr t : Nat} {ds ss : List (Nat → Int32)} (hD : RO σ q a m ds) (ht : t ≤ ss.length) (hft : fr ≤ t) (hm : ds.length + (t - fr) ≤ m) (hR : RO σ s as ms ss) (qa : ¬ q = a) (hs : s ∉ [q, a]) (has : as ∉ [q, a]) : ∃ σ', jx (d + 3) 93 0 [some (.ref q), some (.ref s), some (.int (nI fr)), some (.int (nI t)), none] [] σ = some (none, σ') ∧ FR [q, a] σ σ' ∧ (∀ g, g ≠ 257 → jI σ' g q = jI σ g q) ∧ RO σ' q a m (ds ++ sub ss fr t) := by
  have s24 : ss.length ≤ ms ∧ ms ≤ 24 := ⟨hR.1.2.2.2.2.2.2.1, hR.1.2.2.2.2.2.2.2⟩
  have L : ∀ f i υ es, i + f = t → FR [q, a] σ υ → (∀ g, g ≠ 257 → jI υ g q = jI σ g q) → RO υ q a m es → es.length + f ≤ m → ∃ σ', jx (d + 3) 93 3 [some (.ref q), some (.ref s), some (.int (nI fr)), some (.int (nI t)), some (.int (nI i))] [] υ = some (none, σ') ∧ FR [q, a] σ σ' ∧ (∀ g, g ≠ 257 → jI σ' g q = jI σ g q) ∧ RO σ' q a m (es ++ sub ss i t) := by
    intro f
    induction f with
    | zero =>
      intro i υ es hi F g ro _
      have e : i = t := by omega
      subst e
      have z : sub ss i i = [] := List.eq_nil_of_length_eq_zero (by rw [sub_len ht]; omega)
      refine ⟨υ, by rw [k93_3, if_pos (nI_le (Nat.le_refl _) (by omega)), k93_22], F, g, ?_⟩
      rw [z, List.append_nil]
      exact ro
    | succ f ih =>
      intro i υ es hi F g ro hl
      have hlt : i < ss.length := by omega
      obtain ⟨υ', e1, F1, g1, r1⟩ := c94 (d := d) ro (by omega) (hR.frame F hs has) hlt qa hs has
      have le : (es ++ [ss.getD i (fun _ => 0)]).length = es.length + 1 := by rw [List.length_append]; rfl
      obtain ⟨σ', e2, F2, g2, r2⟩ := ih (i + 1) υ' (es ++ [ss.getD i (fun _ => 0)]) (by omega) (F.trans F1) (fun x hx => by rw [g1 x hx, g x hx]) r1 (by omega)
      refine ⟨σ', ?_, F2, g2, ?_⟩
      · rw [k93_3, if_neg (nI_ge (by omega) (by omega)), k93_9 ro.1.1, e1]
        simp only [Option.bind_some, Option.toList_none, List.nil_append]
        rw [k93_16, ← nI_succ]
        exact e2
      · rw [List.append_assoc] at r2
        rw [sub_succ (by omega) ht]
        exact r2
  rw [k93_0]
  exact L (t - fr) fr σ ds (by omega) (FR.refl _ σ) (fun _ _ => rfl) hD hm
theorem c178 {σ : jS} (hS : SH σ) {x y : Nat} (hx : x < 384) (hy : y < 384) : ∃ σ', jx d 178 0 [some (.ref 47), some (.int (nI x)), some (.int (nI y))] [] σ = some (none, σ') ∧ FR [66, 67, 68, 69] σ σ' ∧ ∀ j i, j < 4 → jA σ' (66 + j) i = if i = y then jA σ (66 + j) x else jA σ (66 + j) i := by
  have gx : jin 384 (nI x) := jin_n hx (by decide)
  have gy : jin 384 (nI y) := jin_n hy (by decide)
  have cx : (nI x).toNatClampNeg = x := nI_clamp (by omega)
  have cy : (nI y).toNatClampNeg = y := nI_clamp (by omega)
  have b1 : jA (jsA σ 66 y (jA σ 66 x)) 67 x = jA σ 67 x := by rw [zA_A, if_neg (fun z => absurd z.1 (by decide))]
  have b2 : jA (jsA (jsA σ 66 y (jA σ 66 x)) 67 y (jA σ 67 x)) 68 x = jA σ 68 x := by rw [zA_A, if_neg (fun z => absurd z.1 (by decide)), zA_A, if_neg (fun z => absurd z.1 (by decide))]
  have b3 : jA (jsA (jsA (jsA σ 66 y (jA σ 66 x)) 67 y (jA σ 67 x)) 68 y (jA σ 68 x)) 69 x = jA σ 69 x := by rw [zA_A, if_neg (fun z => absurd z.1 (by decide)), zA_A, if_neg (fun z => absurd z.1 (by decide)), zA_A, if_neg (fun z => absurd z.1 (by decide))]
  refine ⟨jsA (jsA (jsA (jsA σ 66 y (jA σ 66 x)) 67 y (jA σ 67 x)) 68 y (jA σ 68 x)) 69 y (jA σ 69 x), ?_, ((((FR.refl _ σ).A (q := 66) (by decide)).A (q := 67) (by decide)).A (q := 68) (by decide)).A (by decide), fun j i hj => ?_⟩
  · simp (decide := true) only [k178_0, sT_1, sT_2, sT_3, sT_16, sT_17, sT_18, sT_19, sT_20, sT_21, sT_22, sT_23, sT_24, sT_25, sT_26, sT_27, sT_28, sT_29, sT_30, sT_31, sT_32, sT_33, sT_34, sT_35, sT_36, sT_37, sT_38, sT_39, sT_40, sT_41, sT_42, sT_43, sT_44, sT_45, sT_46, sT_47, sT_48, sT_49, sT_50, sT_51, sT_52, sT_53, sT_54, sT_55, sT_56, sT_57, sT_58, sT_59, sT_60, sT_61, sT_62, sT_63, sT_64, sT_65, sT_66, sT_67, sT_68, sT_69, sT_70, sT_71, sT_72, sT_73, sT_74, sT_75, sT_76, sT_77, sT_78, sT_79, sT_80, sN_1, sN_2, sN_19, sN_21, sN_23, sN_24, sN_26, sN_29, sN_31, sN_33, sN_35, sN_36, sN_37, sN_39, sN_40, sN_42, sN_44, sN_45, sN_46, sN_48, sN_49, sN_50, sN_51, sN_52, sN_53, sN_54, sN_55, sN_56, sN_57, sN_58, sN_59, sN_60, sN_61, sN_62, sN_63, sN_64, sN_65, sN_66, sN_67, sN_68, sN_69, sN_70, sN_71, sN_72, sN_73, sN_74, sN_75, sN_76, sN_77, sN_78, sN_79, sN_80, sR_0_34, sR_0_38, sR_1_34, sR_1_38, sR_64_20, sR_64_22, sR_128_25, sR_128_28, sR_194_17, sR_195_17, sR_196_17, sR_197_17, sR_258_30, sR_258_32, sR_258_41, sR_384_43, sR_448_18, sR_512_27, sR_513_27, sR_514_27, sR_515_27, sR_516_27, sR_576_16, sR_577_16, sR_578_16, sR_579_16, sR_580_16, sR_581_16, sR_582_16, sR_583_16, sR_584_16, sR_641_47, sR_643_47, sR_645_47, sR_646_47, sR_647_47, sR_648_47, sR_649_47, sR_650_47, sR_651_47, sR_652_47, sR_653_47, sR_654_47, sR_655_47, sR_656_47, sR_657_47, sR_658_47, sR_659_47, sR_661_47, sR_662_47, sR_663_47, sR_664_47, sR_665_47, sR_669_47, sR_670_47, sR_671_47, sR_672_47, sR_673_47, sR_674_47, sR_676_47, sR_677_47, sR_679_47, sR_680_47, sR_681_47, SH_I, SH_A, SH_G, SH_C, hS, gx, gy, cx, cy, b1, b2, b3, Option.getD_some, ne_eq, reduceCtorEq, not_false_eq_true, not_true_eq_false, Option.bind_some, Option.toList_none, Option.toList_some, List.nil_append, List.cons_append, List.append_nil, ↓reduceIte, and_self, true_and, and_true, false_and, and_false, or_true, true_or, or_false, false_or, Nat.reduceEqDiff, Nat.reduceAdd, Int32.reduceMul, Int32.reduceAdd, Int32.reduceSub, Int32.reduceToNatClampNeg, Int32.reduceOfNat, Int32.reduceLT, Int32.reduceLE, va_rf]
  · rcases jnf4 hj with h | h | h | h <;> subst h <;> by_cases e : i = y
    · subst e; simp (decide := true) only [zA_A, ↓reduceIte, and_self, and_true, true_and]
    · simp (decide := true) only [zA_A, e, ↓reduceIte, and_false]
    · subst e; simp (decide := true) only [zA_A, ↓reduceIte, and_self, and_true, true_and]
    · simp (decide := true) only [zA_A, e, ↓reduceIte, and_false]
    · subst e; simp (decide := true) only [zA_A, ↓reduceIte, and_self, and_true, true_and]
    · simp (decide := true) only [zA_A, e, ↓reduceIte, and_false]
    · subst e; simp (decide := true) only [zA_A, ↓reduceIte, and_self, and_true, true_and]
    · simp (decide := true) only [zA_A, e, ↓reduceIte, and_false]
end JOI
end S_87
section S_88
/-! joined, part -/
def sApp (s : AS) (z : List (Nat → Int32)) : AS := (s.W, s.len, s.b, s.rs, s.ps ++ [z], s.ns, s.tl, s.ap)
theorem sApp_len {s : AS} {z : List (Nat → Int32)} : (sApp s z).ps.length = s.ps.length + 1 := by
  show (s.ps ++ [z]).length = _
  rw [List.length_append]; rfl
theorem sApp_wf {s : AS} {z : List (Nat → Int32)} (hs : WFs s) (hn : s.ps.length < 16) (hz : z.length ≤ 24 ∧ ∀ o, o ∈ z → PWF o) : WFs (sApp s z) := ⟨hs.w, hs.l, hs.byy, hs.r24, by rw [sApp_len]; omega, hs.fr, fun p hp => by
  rcases List.mem_append.mp hp with q | q
  · exact hs.fp p q
  · rw [List.mem_singleton] at q
    rw [q]; exact hz, hs.n144⟩
theorem sub_mem {ss : List (Nat → Int32)} {fr t : Nat} {o : Nat → Int32} (h : o ∈ sub ss fr t) : o ∈ ss := List.mem_of_mem_take (List.mem_of_mem_drop h)
theorem sub_all {ss : List (Nat → Int32)} : sub ss 0 ss.length = ss := by
  unfold sub
  rw [List.take_length, List.drop_zero]
section SM9
variable {d : Nat} {σ : jS} {s : AS} {cr cp : Nat} {qr qp : Nat → Nat}
theorem cls_app {z : List (Nat → Int32)} (hS : SH σ) (hC : CX s cr cp qr qp σ) (hc : s.ps.length < cp) (ro : RO σ (qp s.ps.length) (qp s.ps.length + 1) 24 z) : CX (sApp s z) cr cp qr qp (jsI σ 586 16 (nI (s.ps.length + 1))) := by
  refine hC.fr (i16FR 586 _) (by decide) (by rw [zI_I, if_neg (by decide)]; exact hC.nr) (by rw [zI_I, if_pos ⟨rfl, rfl⟩, sApp_len]) (by rw [zI_I, if_neg (by decide)]; exact hC.w) (by rw [zI_I, if_neg (by decide)]; exact hC.ap) rfl rfl rfl rfl hC.lr.1 (by rw [sApp_len]; omega) hC.rs (fun i hi => ?_)
  rw [sApp_len] at hi
  show RO _ _ _ _ ((s.ps ++ [z]).getD i [])
  rw [app_ps hi]
  by_cases e : i = s.ps.length
  · rw [if_pos e, e]; exact ro
  · rw [if_neg e]; exact hC.ps i (by omega)
theorem ref_app {z : List (Nat → Int32)} (hM : CM s σ) (pm : PM σ s.ps.length z) : CM (sApp s z) (jsI σ 660 47 (nI (s.ps.length + 1))) := by
  refine hM.I47 (by rw [zI_I, if_neg (by decide)]; exact hM.nr) (by rw [zI_I, if_pos ⟨rfl, rfl⟩, sApp_len]) (by rw [zI_I, if_neg (by decide)]; exact hM.w) (by rw [zI_I, if_neg (by decide)]; exact hM.ap) (by rw [TM_I (by decide)]; exact hM.tm) (by rw [zI_I, if_neg (by decide)]; exact hM.ns) hM.tl hM.rs (fun i hi => ?_)
  rw [sApp_len] at hi
  show PM _ _ ((s.ps ++ [z]).getD i [])
  rw [app_ps hi]
  by_cases e : i = s.ps.length
  · rw [if_pos e, e]; exact pm
  · rw [if_neg e]; exact hM.ps i (by omega)
/-- the reference copies into the free place -/
theorem CM.cop {σ' : jS} (hs : WFs s) (hM : CM s σ) (hI : ∀ g, jI σ' g 47 = jI σ g 47) (hA : ∀ a i, 48 ≤ a → a ≤ 80 → ¬ ((a = 65 ∧ i = s.ps.length) ∨ (66 ≤ a ∧ a ≤ 69 ∧ 24 * s.ps.length ≤ i)) → jA σ' a i = jA σ a i) : CM s σ' :=
  hM.ar hs (P := fun a i => (a = 65 ∧ i = s.ps.length) ∨ (66 ≤ a ∧ a ≤ 69 ∧ 24 * s.ps.length ≤ i)) (fun g _ _ _ => hI g) hA (fun a i hp => by
    unfold PSF
    omega)
/-- what the class does for joined, part: two appends into a fresh place -/
theorem cls_new (hS : SH σ) (hx : 81 ≤ jnx σ) (hC : CX s cr cp qr qp σ) (hn : s.ps.length < 16) : ∃ σ' cp' qp', jx (d + 2) 77 0 [some (.ref 16), none] [] σ = some (some (.ref (qp' s.ps.length)), σ') ∧ CX s cr cp' qr qp' σ' ∧ s.ps.length < cp' ∧ RO σ' (qp' s.ps.length) (qp' s.ps.length + 1) 24 [] ∧ SH σ' ∧ sameM σ σ' ∧ low σ σ' ∧ jnx σ ≤ jnx σ' ∧ jnx σ' ≤ jnx σ + 2 ∧ jsl σ' ≤ jsl σ + 147 ∧ (∀ i, i < s.ps.length → qp' i = qp i) := by
  obtain ⟨σ', q, cp', qp', h1, h2, h3, h4, h5, h6, h7, h8, h9, h10, h11, h12⟩ := c77q (d := d) hS hx hC hn
  subst h3
  exact ⟨σ', cp', qp', h1, h2, h4, ⟨h5, h5.2.2.2.2.2.1, fun i j hi _ => absurd hi (Nat.not_lt_zero i)⟩, h6, h7, h8, h9, h10, h11, h12⟩
theorem cls_put {k fr t : Nat} {ds : List (Nat → Int32)} (hS : SH σ) (hC : CX s cr cp qr qp σ) (hc : s.ps.length < cp) (ro : RO σ (qp s.ps.length) (qp s.ps.length + 1) 24 ds) (hk : k < s.ps.length) (hft : fr ≤ t) (ht : t ≤ (s.ps.getD k []).length) (hm : ds.length + (t - fr) ≤ 24) : ∃ σ', jx (d + 3) 93 0 [some (.ref (qp s.ps.length)), some (.ref (qp k)), some (.int (nI fr)), some (.int (nI t)), none] [] σ = some (none, σ') ∧ CX s cr cp qr qp σ' ∧ RO σ' (qp s.ps.length) (qp s.ps.length + 1) 24 (ds ++ sub (s.ps.getD k []) fr t) ∧ SH σ' ∧ sameM σ σ' ∧ low σ σ' ∧ jnx σ' = jnx σ ∧ jsl σ' = jsl σ := by
  have dj := hC.dj
  have bq := dj.p s.ps.length hc
  have b2 := dj.pp k s.ps.length (by omega) hc (by omega)
  obtain ⟨σ', e, F, g, r⟩ := c93 (d := d) ro ht hft hm (hC.ps k hk) (by omega) (by simp; omega) (by simp; omega)
  refine ⟨σ', e, hC.free hc F (fun x hx => by simp at hx; omega) (g 256 (by decide)), r, F.sh hS, F.sm (fun a h1 h2 z => by simp at z; omega), F.low (fun a z => by simp at z; omega), F.1.2.2.2.2.1, F.1.2.2.2.2.2⟩
end SM9
end S_88
section S_89
/-! joined, part: whole -/
section SMA
variable {d : Nat} {σ : jS} {s : AS} {cr cp : Nat} {qr qp : Nat → Nat}
def RIc (σ υ : jS) (N n : Nat) (z : List (Nat → Int32)) : Prop := FR [66, 67, 68, 69] σ υ ∧ ∀ j i, j < 4 → jA υ (66 + j) i = if 24 * N ≤ i ∧ i < 24 * N + n then (z.getD (i - 24 * N) (fun _ => 0)) j else jA σ (66 + j) i
theorem RIc.zero {N : Nat} {z : List (Nat → Int32)} : RIc σ σ N 0 z := ⟨FR.refl _ σ, fun j i _ => by rw [if_neg (by omega)]⟩
theorem RIc.step {υ : jS} {N n x : Nat} {z : List (Nat → Int32)} (hS : SH σ) (h : RIc σ υ N n z) (hN : N < 16) (hn : n < 24) (hx : x < 24 * N) (hv : ∀ j, j < 4 → jA σ (66 + j) x = (z.getD n (fun _ => 0)) j) : ∃ υ', jx d 178 0 [some (.ref 47), some (.int (nI x)), some (.int (nI (24 * N + n)))] [] υ = some (none, υ') ∧ RIc σ υ' N (n + 1) z := by
  obtain ⟨υ', e, F, g⟩ := c178 (d := d) (h.1.sh hS) (x := x) (y := 24 * N + n) (by omega) (by omega)
  refine ⟨υ', e, h.1.trans F, fun j i hj => ?_⟩
  rw [g j i hj]
  by_cases e : i = 24 * N + n
  · rw [if_pos e, if_pos (by omega), h.2 j x hj, if_neg (by omega), hv j hj, e, Nat.add_sub_cancel_left]
  · rw [if_neg e, h.2 j i hj]
    by_cases b : 24 * N ≤ i ∧ i < 24 * N + n
    · rw [if_pos b, if_pos (by omega)]
    · rw [if_neg b, if_neg (by omega)]
/-- the size is put, the place counts -/
theorem RIc.fin {υ : jS} {n : Nat} {z : List (Nat → Int32)} (hs : WFs s) (hS : SH σ) (hM : CM s σ) (h : RIc σ υ s.ps.length n z) (en : z.length = n) (h24 : n ≤ 24) : CM (sApp s z) (jsI (jsA υ 65 s.ps.length (nI n)) 660 47 (nI (s.ps.length + 1))) ∧ SH (jsI (jsA υ 65 s.ps.length (nI n)) 660 47 (nI (s.ps.length + 1))) ∧ sameC σ (jsI (jsA υ 65 s.ps.length (nI n)) 660 47 (nI (s.ps.length + 1))) ∧ jnx (jsI (jsA υ 65 s.ps.length (nI n)) 660 47 (nI (s.ps.length + 1))) = jnx σ ∧ jsl (jsI (jsA υ 65 s.ps.length (nI n)) 660 47 (nI (s.ps.length + 1))) = jsl σ := by
  have F : FR [65, 66, 67, 68, 69] σ (jsA υ 65 s.ps.length (nI n)) := (h.1.mono (fun a ha => List.mem_cons_of_mem _ ha)).A (by decide)
  have hM1 : CM s (jsA υ 65 s.ps.length (nI n)) := by
    refine hM.cop hs (fun g => (F.2 47 (by decide)).1 g) (fun a i h1 h2 hp => ?_)
    rw [zA_A, if_neg (fun w => hp (Or.inl w))]
    by_cases e : 66 ≤ a ∧ a ≤ 69
    · have q := h.2 (a - 66) i (by omega)
      rw [show 66 + (a - 66) = a by omega] at q
      rw [q, if_neg (by omega)]
    · exact (h.1.2 a (by simp; omega)).2 i
  refine ⟨ref_app hM1 ⟨by rw [zA_A, if_pos ⟨rfl, rfl⟩, en], by omega, fun i j hi hj => ?_⟩, by rw [SH_I]; exact F.sh hS, (F.sc (fun a ha => by simp at ha; omega)).trans (i47sc 660 _), F.1.2.2.2.2.1, F.1.2.2.2.2.2⟩
  rw [zA_A, if_neg (fun w => by omega), h.2 j _ hj, if_pos (by omega), Nat.add_sub_cancel_left]
theorem ref_joined {p q : Nat} (hS : SH σ) (hs : WFs s) (hM : CM s σ) (hp : p < s.ps.length) (hq : q < s.ps.length) (hn : s.ps.length < 16) (h24 : (s.ps.getD p []).length + (s.ps.getD q []).length ≤ 24) : ∃ σ', jx (d + 2) 177 0 [some (.ref 47), some (.int (nI p)), some (.int (nI q)), none] [] σ = some (some (.int (nI s.ps.length)), σ') ∧ CM (sApp s (s.ps.getD p [] ++ s.ps.getD q [])) σ' ∧ SH σ' ∧ sameC σ σ' ∧ jnx σ' = jnx σ ∧ jsl σ' = jsl σ := by
  obtain ⟨A, eA⟩ : ∃ A, s.ps.getD p [] = A := ⟨_, rfl⟩
  obtain ⟨B, eB⟩ : ∃ B, s.ps.getD q [] = B := ⟨_, rfl⟩
  have pA := hM.ps p hp
  have pB := hM.ps q hq
  rw [eA] at pA h24
  rw [eB] at pB h24
  rw [eA, eB]
  have lz : (A ++ B).length = A.length + B.length := List.length_append
  have rg : ∀ {υ : jS}, SH υ → (jR υ 661 47).getD 0 = 65 := fun h => by rw [sR_661_47 h]; rfl
  have rn : ∀ {υ : jS}, SH υ → jR υ 661 47 ≠ none := fun h => by rw [sR_661_47 h]; exact fun z => nomatch z
  have tt : ∀ {υ : jS}, SH υ → jT υ ((jR υ 661 47).getD 0) = 20 := fun h => by rw [rg h]; exact sT_65 h
  have jj : ∀ {υ : jS} {k : Nat}, SH υ → k < 16 → jin (jN υ ((jR υ 661 47).getD 0)) (nI k) := fun h hk => by rw [rg h, sN_65 h]; exact jin_n hk (by decide)
  have cc : ∀ {k : Nat}, k < 16 → (nI k).toNatClampNeg = k := fun hk => nI_clamp (by omega)
  have c1 := c170y (d := d) hS hM hs (x := nI p) (inR_k (by omega) hp)
  have c2 := c170y (d := d) hS hM hs (x := nI q) (inR_k (by omega) hq)
  have L : ∀ f n υ, n + f = A.length + B.length → RIc σ υ s.ps.length n (A ++ B) → ∃ υ', jx (d + 2) 177 50 [some (.ref 47), some (.int (nI p)), some (.int (nI q)), some (.int (nI n))] [] υ = some (some (.int (nI s.ps.length)), jsI (jsA υ' 65 s.ps.length (nI (A.length + B.length))) 660 47 (nI (s.ps.length + 1))) ∧ RIc σ υ' s.ps.length (A.length + B.length) (A ++ B) := by
    intro f
    induction f with
    | zero =>
      intro n υ hf h
      have e : n = A.length + B.length := by omega
      subst e
      have hSυ := h.1.sh hS
      have a65 : ∀ k, jA υ 65 k = jA σ 65 k := (h.1.2 65 (by decide)).2
      have n660 : jI υ 660 47 = nI s.ps.length := by rw [(h.1.2 47 (by decide)).1]; exact hM.np
      refine ⟨υ, ?_, h⟩
      rw [k177_50 (sT_47 hSυ) (rn hSυ) (Or.inl (tt hSυ)) (jj hSυ (by omega)) (jj hSυ (by omega)), rg hSυ, cc (by omega), cc (by omega), a65, a65, pA.1, pB.1, nadd, if_pos (nI_le (Nat.le_refl _) (by omega)), k177_118 (sT_47 hSυ) (rn hSυ) (Or.inl (tt hSυ)) (jj hSυ (by omega)) (jj hSυ (by omega)) (tt hSυ) (by rw [n660]; exact jj hSυ (by omega)), rg hSυ, cc (by omega), cc (by omega), a65, a65, pA.1, pB.1, nadd, n660, cc (by omega), zI_I, if_pos ⟨rfl, rfl⟩, ← nI_succ, show (1 : Int32) = nI 1 from rfl, nsub (by omega), Nat.add_sub_cancel]
    | succ f ih =>
      intro n υ hf h
      have hSυ := h.1.sh hS
      have a65 : ∀ k, jA υ 65 k = jA σ 65 k := (h.1.2 65 (by decide)).2
      have n660 : jI υ 660 47 = nI s.ps.length := by rw [(h.1.2 47 (by decide)).1]; exact hM.np
      have ety : (24 : Int32) * nI s.ps.length + nI n = nI (24 * s.ps.length + n) := by rw [show (24 : Int32) = nI 24 from rfl, nmul, nadd]
      rw [k177_50 (sT_47 hSυ) (rn hSυ) (Or.inl (tt hSυ)) (jj hSυ (by omega)) (jj hSυ (by omega)), rg hSυ, cc (by omega), cc (by omega), a65, a65, pA.1, pB.1, nadd, if_neg (nI_ge (by omega) (by omega)), k177_67 (sT_47 hSυ) (rn hSυ) (Or.inl (tt hSυ)) (jj hSυ (by omega)), rg hSυ, cc (by omega), a65, pA.1]
      by_cases hlt : n < A.length
      · obtain ⟨υ1, e1, h1⟩ := h.step (d := d + 1) hS (x := 24 * p + n) hn (by omega) (by omega) (fun j hj => by rw [pA.2.2 n j hlt hj, getD_app, if_pos hlt])
        obtain ⟨υ', e', r⟩ := ih (n + 1) υ1 (by omega) h1
        refine ⟨υ', ?_, r⟩
        have etx : (24 : Int32) * nI p + nI n = nI (24 * p + n) := by rw [show (24 : Int32) = nI 24 from rfl, nmul, nadd]
        rw [if_neg (nI_ge (by omega) (by omega)), k177_78 (sT_47 hSυ), n660, ety, etx, e1]
        simp only [Option.bind_some, Option.toList_none, List.nil_append]
        rw [k177_112, ← nI_succ, e']
        exact sT_47 hSυ
      · obtain ⟨υ1, e1, h1⟩ := h.step (d := d + 1) hS (x := 24 * q + (n - A.length)) hn (by omega) (by omega) (fun j hj => by rw [pB.2.2 (n - A.length) j (by omega) hj, getD_app, if_neg hlt])
        obtain ⟨υ', e', r⟩ := ih (n + 1) υ1 (by omega) h1
        refine ⟨υ', ?_, r⟩
        have etx : (24 : Int32) * nI q + nI n - nI A.length = nI (24 * q + (n - A.length)) := by rw [show (24 : Int32) = nI 24 from rfl, nmul, nadd, nsub (by omega)]; congr 1; omega
        rw [if_pos (nI_le (by omega) (by omega)), k177_87 (sT_47 hSυ) (rn hSυ) (Or.inl (tt hSυ)) (jj hSυ (by omega)), rg hSυ, cc (by omega), a65, pA.1, n660, ety, etx, e1]
        simp only [Option.bind_some, Option.toList_none, List.nil_append]
        rw [k177_112, ← nI_succ, e']
        exact sT_47 hSυ
  obtain ⟨υ', e', r⟩ := L (A.length + B.length) 0 σ (by omega) RIc.zero
  obtain ⟨m1, m2, m3, m4, m5⟩ := r.fin hs hS hM lz h24
  refine ⟨_, ?_, m1, m2, m3, m4, m5⟩
  rw [← e', k177_0 (sT_47 hS), c1]
  simp only [Option.bind_some, Option.toList_some, List.cons_append, List.nil_append]
  rw [k177_5, if_neg (by decide), k177_8 (sT_47 hS), c2]
  simp only [Option.bind_some, Option.toList_some, List.cons_append, List.nil_append]
  have n16 : ¬ nI s.ps.length = 16 := by rw [show (16 : Int32) = nI 16 from rfl, n31eq (by omega) (by decide)]; omega
  have l24 : nI (A.length + B.length) ≤ 24 := nI_le (b := 24) h24 (by decide)
  rw [k177_13, if_pos (by decide), k177_18 (sT_47 hS), hM.np, if_neg n16, k177_27 (sT_47 hS) (rn hS) (Or.inl (tt hS)) (jj hS (by omega)) (jj hS (by omega)), rg hS, cc (by omega), cc (by omega), pA.1, pB.1, nadd, if_pos l24, k177_48]
  rfl
theorem ref_part {p fr t : Nat} (hS : SH σ) (hs : WFs s) (hM : CM s σ) (hp : p < s.ps.length) (hn : s.ps.length < 16) (hft : fr ≤ t) (ht : t ≤ (s.ps.getD p []).length) : ∃ σ', jx (d + 2) 179 0 [some (.ref 47), some (.int (nI p)), some (.int (nI fr)), some (.int (nI t)), none] [] σ = some (some (.int (nI s.ps.length)), σ') ∧ CM (sApp s (sub (s.ps.getD p []) fr t)) σ' ∧ SH σ' ∧ sameC σ σ' ∧ jnx σ' = jnx σ ∧ jsl σ' = jsl σ := by
  obtain ⟨A, eA⟩ : ∃ A, s.ps.getD p [] = A := ⟨_, rfl⟩
  have pA := hM.ps p hp
  rw [eA] at pA ht
  rw [eA]
  have h24 := pA.2.1
  have rg : ∀ {υ : jS}, SH υ → (jR υ 661 47).getD 0 = 65 := fun h => by rw [sR_661_47 h]; rfl
  have rn : ∀ {υ : jS}, SH υ → jR υ 661 47 ≠ none := fun h => by rw [sR_661_47 h]; exact fun z => nomatch z
  have tt : ∀ {υ : jS}, SH υ → jT υ ((jR υ 661 47).getD 0) = 20 := fun h => by rw [rg h]; exact sT_65 h
  have jj : ∀ {υ : jS} {k : Nat}, SH υ → k < 16 → jin (jN υ ((jR υ 661 47).getD 0)) (nI k) := fun h hk => by rw [rg h, sN_65 h]; exact jin_n hk (by decide)
  have cc : ∀ {k : Nat}, k < 16 → (nI k).toNatClampNeg = k := fun hk => nI_clamp (by omega)
  have c1 := c170y (d := d) hS hM hs (x := nI p) (inR_k (by omega) hp)
  have L : ∀ f n υ, fr + n + f = t → RIc σ υ s.ps.length n (sub A fr t) → ∃ υ', jx (d + 2) 179 44 [some (.ref 47), some (.int (nI p)), some (.int (nI fr)), some (.int (nI t)), some (.int (nI (fr + n)))] [] υ = some (some (.int (nI s.ps.length)), jsI (jsA υ' 65 s.ps.length (nI (t - fr))) 660 47 (nI (s.ps.length + 1))) ∧ RIc σ υ' s.ps.length (t - fr) (sub A fr t) := by
    intro f
    induction f with
    | zero =>
      intro n υ hf h
      have e : n = t - fr := by omega
      subst e
      have hSυ := h.1.sh hS
      have n660 : jI υ 660 47 = nI s.ps.length := by rw [(h.1.2 47 (by decide)).1]; exact hM.np
      refine ⟨υ, ?_, h⟩
      rw [k179_44, if_pos (nI_le (by omega) (by omega)), k179_79 (sT_47 hSυ) (rn hSυ) (tt hSυ) (by rw [n660]; exact jj hSυ (by omega)), rg hSυ, n660, cc (by omega), nsub hft, zI_I, if_pos ⟨rfl, rfl⟩, ← nI_succ, show (1 : Int32) = nI 1 from rfl, nsub (by omega), Nat.add_sub_cancel]
    | succ f ih =>
      intro n υ hf h
      have hSυ := h.1.sh hS
      have n660 : jI υ 660 47 = nI s.ps.length := by rw [(h.1.2 47 (by decide)).1]; exact hM.np
      have ety : (24 : Int32) * nI s.ps.length + nI (fr + n) - nI fr = nI (24 * s.ps.length + n) := by rw [show (24 : Int32) = nI 24 from rfl, nmul, nadd, nsub (by omega)]; congr 1; omega
      have etx : (24 : Int32) * nI p + nI (fr + n) = nI (24 * p + (fr + n)) := by rw [show (24 : Int32) = nI 24 from rfl, nmul, nadd]
      obtain ⟨υ1, e1, h1⟩ := h.step (d := d + 1) hS (x := 24 * p + (fr + n)) hn (by omega) (by omega) (fun j hj => by rw [pA.2.2 (fr + n) j (by omega) hj, sub_get ht (by omega)])
      obtain ⟨υ', e', r⟩ := ih (n + 1) υ1 (by omega) h1
      refine ⟨υ', ?_, r⟩
      rw [k179_44, if_neg (nI_ge (by omega) (by omega)), k179_50 (sT_47 hSυ), n660, ety, etx, e1]
      simp only [Option.bind_some, Option.toList_none, List.nil_append]
      rw [k179_73, ← nI_succ]
      exact e'
  obtain ⟨υ', e', r⟩ := L (t - fr) 0 σ (by omega) RIc.zero
  obtain ⟨m1, m2, m3, m4, m5⟩ := r.fin hs hS hM (sub_len ht) (by omega)
  refine ⟨_, ?_, m1, m2, m3, m4, m5⟩
  rw [← e', k179_0 (sT_47 hS), c1]
  simp only [Option.bind_some, Option.toList_some, List.cons_append, List.nil_append]
  have n16 : ¬ nI s.ps.length = 16 := by rw [show (16 : Int32) = nI 16 from rfl, n31eq (by omega) (by decide)]; omega
  have nlt : ¬ nI t < nI fr := by rw [n31 (by omega) (by omega)]; omega
  rw [k179_5, if_neg (by decide), k179_8, if_neg (nn0 (by omega)), k179_12, if_neg nlt, k179_17 (sT_47 hS) (rn hS) (Or.inl (tt hS)) (jj hS (by omega)), rg hS, cc (by omega), pA.1, if_pos (nI_le ht (by omega)), k179_29 (sT_47 hS), hM.np, if_pos n16, k179_41]
  rfl
end SMA
end S_89
section S_90
/-! joined, part: both -/
section SMB
variable {d : Nat} {σ : jS} {s : AS} {cr cp : Nat} {qr qp : Nat → Nat}
theorem cls_joined {p q : Nat} (hS : SH σ) (hx : 81 ≤ jnx σ) (hs : WFs s) (hC : CX s cr cp qr qp σ) (hp : p < s.ps.length) (hq : q < s.ps.length) (hn : s.ps.length < 16) (h24 : (s.ps.getD p []).length + (s.ps.getD q []).length ≤ 24) : ∃ σ' cp' qp', jx (d + 4) 92 0 [some (.ref 16), some (.int (nI p)), some (.int (nI q)), none, none, none] [] σ = some (some (.int (nI s.ps.length)), σ') ∧ CX (sApp s (s.ps.getD p [] ++ s.ps.getD q [])) cr cp' qr qp' σ' ∧ SH σ' ∧ sameM σ σ' ∧ low σ σ' ∧ jnx σ ≤ jnx σ' ∧ jnx σ' ≤ jnx σ + 2 ∧ jsl σ' ≤ jsl σ + 147 := by
  obtain ⟨A, eA⟩ : ∃ A, s.ps.getD p [] = A := ⟨_, rfl⟩
  obtain ⟨B, eB⟩ : ∃ B, s.ps.getD q [] = B := ⟨_, rfl⟩
  have c1 := c86y (d := d + 3) hS hC hs hp
  have c2 := c86y (d := d + 3) hS hC hs hq
  have rA := hC.ps p hp
  have rB := hC.ps q hq
  rw [eA] at rA h24
  rw [eB] at rB h24
  rw [eA, eB]
  have lA : jI σ 257 (qp p) = nI A.length := rA.1.2.2.2.2.2.1
  have lB : jI σ 257 (qp q) = nI B.length := rB.1.2.2.2.2.2.1
  obtain ⟨σ1, cp', qp', e1, hC1, hc, r1, hS1, sm1, lo1, nx1, nx1', sl1, qs⟩ := cls_new (d := d + 1) hS hx hC hn
  have rA1 := hC1.ps p hp
  rw [eA] at rA1
  have rB1 := hC1.ps q hq
  rw [eB] at rB1
  obtain ⟨σ2, e2, hC2, r2, hS2, sm2, lo2, nx2, sl2⟩ := cls_put (d := d) hS1 hC1 hc r1 hp (Nat.zero_le _) (Nat.le_refl _) (by rw [eA]; show 0 + _ ≤ 24; omega)
  rw [eA, sub_all, List.nil_append] at r2
  rw [eA] at e2
  obtain ⟨σ3, e3, hC3, r3, hS3, sm3, lo3, nx3, sl3⟩ := cls_put (d := d) hS2 hC2 hc r2 hq (Nat.zero_le _) (Nat.le_refl _) (by rw [eB]; omega)
  rw [eB, sub_all] at r3
  rw [eB] at e3
  have rB2 := hC2.ps q hq
  rw [eB] at rB2
  have F := i16FR (σ := σ3) 586 (nI (s.ps.length + 1))
  refine ⟨jsI σ3 586 16 (nI (s.ps.length + 1)), cp', qp', ?_, cls_app hS3 hC3 hc r3, by rw [SH_I]; exact hS3, ((sm1.trans sm2).trans sm3).trans (F.sm (fun a h1 h2 => by simp; omega)), ((lo1.trans lo2).trans lo3).trans (F.low (by simp)), by show _ ≤ jnx σ3; omega, by show jnx σ3 ≤ _; omega, by show jsl σ3 ≤ _; omega⟩
  have n16 : ¬ (16 : Int32) ≤ nI s.ps.length := nI_ge (b := 16) (by omega) (by decide)
  have l24 : nI (A.length + B.length) ≤ 24 := nI_le (b := 24) h24 (by decide)
  have e2' : jx (d + 3) 93 0 [some (.ref (qp' s.ps.length)), some (.ref (qp p)), some (.int 0), some (.int (nI A.length)), none] [] σ1 = some (none, σ2) := by rw [← qs p hp]; exact e2
  have e3' : jx (d + 3) 93 0 [some (.ref (qp' s.ps.length)), some (.ref (qp q)), some (.int 0), some (.int (nI B.length)), none] [] σ2 = some (none, σ3) := by rw [← qs q hq]; exact e3
  have lA1 : jI σ1 257 (qp p) = nI A.length := by rw [← qs p hp]; exact rA1.1.2.2.2.2.2.1
  have lB2 : jI σ2 257 (qp q) = nI B.length := by rw [← qs q hq]; exact rB2.1.2.2.2.2.2.1
  have tA1 : jT σ1 (qp p) = 5 := by rw [← qs p hp]; exact rA1.1.1
  have tB1 : jT σ1 (qp q) = 5 := by rw [← qs q hq]; exact rB1.1.1
  have tB2 : jT σ2 (qp q) = 5 := by rw [← qs q hq]; exact rB2.1.1
  have np3 : jI σ3 586 16 = nI s.ps.length := hC3.np
  rw [k92_0 (sT_16 hS), c1]
  simp only [Option.bind_some, Option.toList_some, List.cons_append, List.nil_append]
  rw [k92_5R (sT_16 hS), c2]
  simp only [Option.bind_some, Option.toList_some, List.cons_append, List.nil_append]
  rw [k92_11RR (sT_16 hS), hC.np, if_neg n16, k92_33RR rA.1.1 rB.1.1, lA, lB, nadd, if_pos l24, k92_51 (sT_16 hS), e1]
  simp only [Option.bind_some, Option.toList_some, List.cons_append, List.nil_append]
  rw [k92_55RR tA1 r1.1.1, lA1, e2']
  simp only [Option.bind_some, Option.toList_none, List.nil_append]
  rw [k92_68R tB2 r2.1.1, lB2, e3']
  simp only [Option.bind_some, Option.toList_none, List.nil_append]
  rw [k92_81 (sT_16 hS3), np3, zI_I, if_pos ⟨rfl, rfl⟩, ← nI_succ, show (1 : Int32) = nI 1 from rfl, nsub (by omega), Nat.add_sub_cancel]
theorem sim_joined (hR : REL s cr cp qr qp σ) (x y : Int32) : SimR (d + 4) 92 177 [some (.int x), some (.int y), none, none, none] [some (.int x), some (.int y), none] true σ := by
  have hR0 := hR
  obtain ⟨hS, hx, hs, hC, hM⟩ := hR
  have hl := hs.p16
  have rd : ∀ v : Int32, jx (d + 4) 92 0 [some (.ref 16), some (.int x), some (.int y), none, none, none] [] σ = some (some (.int v), σ) → jx (d + 4) 177 0 [some (.ref 47), some (.int x), some (.int y), none] [] σ = some (some (.int v), σ) → SimR (d + 4) 92 177 [some (.int x), some (.int y), none, none, none] [some (.int x), some (.int y), none] true σ := fun v h1 h2 => SimR.read hR0 h1 h2 (fun _ => rfl)
  by_cases h : inR x s.ps.length
  · have a2 := c170y (d := d + 2) hS hM hs h
    obtain ⟨p, hp, ep⟩ := inR_nat (by omega) h
    have a1 := c86y (d := d + 3) hS hC hs hp
    rw [← ep] at a1
    by_cases h' : inR y s.ps.length
    · have b2 := c170y (d := d + 2) hS hM hs h'
      obtain ⟨q, hq, eq⟩ := inR_nat (by omega) h'
      have b1 := c86y (d := d + 3) hS hC hs hq
      rw [← eq] at b1
      have pA := hM.ps p hp
      have pB := hM.ps q hq
      have rA := hC.ps p hp
      have rB := hC.ps q hq
      obtain ⟨A, eA⟩ : ∃ A, s.ps.getD p [] = A := ⟨_, rfl⟩
      obtain ⟨B, eB⟩ : ∃ B, s.ps.getD q [] = B := ⟨_, rfl⟩
      have fA := hs.fp _ (mem_ps hp)
      have fB := hs.fp _ (mem_ps hq)
      rw [eA] at pA rA fA
      rw [eB] at pB rB fB
      by_cases hn : s.ps.length < 16
      · by_cases h24 : A.length + B.length ≤ 24
        · obtain ⟨σ1, cp', qp', e1, hC1, hS1, sm1, lo1, nx1, nx1', sl1⟩ := cls_joined (d := d) hS hx hs hC hp hq hn (by rw [eA, eB]; exact h24)
          obtain ⟨σ2, e2, hM2, hS2, sc2, nx2, sl2⟩ := ref_joined (d := d + 2) hS1 hs (hM.sm sm1) hp hq hn (by rw [eA, eB]; exact h24)
          rw [ep, eq]
          refine ⟨_, _, σ1, σ2, _, cr, cp', qr, qp', e1, e2, ⟨hS2, by omega, sApp_wf hs hn ⟨by rw [eA, eB, List.length_append]; exact h24, fun o ho => ?_⟩, CX.sc (by omega) hC1 sc2, hM2⟩, by omega, by omega, lo1.trans (sc2.low (by omega)), fun _ => rfl⟩
          rw [eA, eB] at ho
          rcases List.mem_append.mp ho with z | z
          · exact fA.2 o z
          · exact fB.2 o z
        · have g1 : ¬ nI (A.length + B.length) ≤ 24 := by rw [show (24 : Int32) = nI 24 from rfl, n31le (by omega) (by decide)]; omega
          have g2 : ¬ (16 : Int32) ≤ nI s.ps.length := nI_ge (b := 16) (by omega) (by decide)
          have g3 : ¬ nI s.ps.length = 16 := by rw [show (16 : Int32) = nI 16 from rfl, n31eq (by omega) (by decide)]; omega
          have lA : jI σ 257 (qp p) = nI A.length := rA.1.2.2.2.2.2.1
          have lB : jI σ 257 (qp q) = nI B.length := rB.1.2.2.2.2.2.1
          have rg : (jR σ 661 47).getD 0 = 65 := by rw [sR_661_47 hS]; rfl
          have rn : jR σ 661 47 ≠ none := by rw [sR_661_47 hS]; exact fun z => nomatch z
          refine rd (-3) ?_ ?_
          · rw [k92_0 (sT_16 hS), a1]
            simp only [Option.bind_some, Option.toList_some, List.cons_append, List.nil_append]
            rw [k92_5R (sT_16 hS), b1]
            simp only [Option.bind_some, Option.toList_some, List.cons_append, List.nil_append]
            rw [k92_11RR (sT_16 hS), hC.np, if_neg g2, k92_33RR rA.1.1 rB.1.1, lA, lB, nadd, if_neg g1, k92_48]
          · rw [k177_0 (sT_47 hS), a2]
            simp only [Option.bind_some, Option.toList_some, List.cons_append, List.nil_append]
            rw [k177_5, if_neg (by decide), k177_8 (sT_47 hS), b2]
            simp only [Option.bind_some, Option.toList_some, List.cons_append, List.nil_append]
            rw [k177_13, if_pos (by decide), k177_18 (sT_47 hS), hM.np, if_neg g3, ep, eq, k177_27 (sT_47 hS) rn (by rw [rg]; exact Or.inl (sT_65 hS)) (by rw [rg, sN_65 hS]; exact jin_n (by omega) (by decide)) (by rw [rg, sN_65 hS]; exact jin_n (by omega) (by decide)), rg, nI_clamp (by omega), nI_clamp (by omega), pA.1, pB.1, nadd, if_neg g1, k177_45]
      · have e16 : nI s.ps.length = 16 := by rw [show s.ps.length = 16 by omega]; rfl
        refine rd (-3) ?_ ?_
        · rw [k92_0 (sT_16 hS), a1]
          simp only [Option.bind_some, Option.toList_some, List.cons_append, List.nil_append]
          rw [k92_5R (sT_16 hS), b1]
          simp only [Option.bind_some, Option.toList_some, List.cons_append, List.nil_append]
          rw [k92_11RR (sT_16 hS), hC.np, e16, if_pos (by decide), k92_48]
        · rw [k177_0 (sT_47 hS), a2]
          simp only [Option.bind_some, Option.toList_some, List.cons_append, List.nil_append]
          rw [k177_5, if_neg (by decide), k177_8 (sT_47 hS), b2]
          simp only [Option.bind_some, Option.toList_some, List.cons_append, List.nil_append]
          rw [k177_13, if_pos (by decide), k177_18 (sT_47 hS), hM.np, if_pos e16, k177_45]
    · have b1 := c86n (d := d + 3) hS hC h'
      have b2 := c170n (d := d + 2) hS hM hs h'
      refine rd (-1) ?_ ?_
      · simp (decide := true) only [k92_0, k92_5R, k92_5N, k92_11RR, k92_11RN, k92_11NR, k92_11NN, k92_17R, k92_17N, k92_22, k92_24, k92_33RR, k92_48, k92_51, k92_55RR, k92_55NR, k92_68R, k92_81, a1, b1, sT_1, sT_2, sT_3, sT_16, sT_17, sT_18, sT_19, sT_20, sT_21, sT_22, sT_23, sT_24, sT_25, sT_26, sT_27, sT_28, sT_29, sT_30, sT_31, sT_32, sT_33, sT_34, sT_35, sT_36, sT_37, sT_38, sT_39, sT_40, sT_41, sT_42, sT_43, sT_44, sT_45, sT_46, sT_47, sT_48, sT_49, sT_50, sT_51, sT_52, sT_53, sT_54, sT_55, sT_56, sT_57, sT_58, sT_59, sT_60, sT_61, sT_62, sT_63, sT_64, sT_65, sT_66, sT_67, sT_68, sT_69, sT_70, sT_71, sT_72, sT_73, sT_74, sT_75, sT_76, sT_77, sT_78, sT_79, sT_80, sN_1, sN_2, sN_19, sN_21, sN_23, sN_24, sN_26, sN_29, sN_31, sN_33, sN_35, sN_36, sN_37, sN_39, sN_40, sN_42, sN_44, sN_45, sN_46, sN_48, sN_49, sN_50, sN_51, sN_52, sN_53, sN_54, sN_55, sN_56, sN_57, sN_58, sN_59, sN_60, sN_61, sN_62, sN_63, sN_64, sN_65, sN_66, sN_67, sN_68, sN_69, sN_70, sN_71, sN_72, sN_73, sN_74, sN_75, sN_76, sN_77, sN_78, sN_79, sN_80, sR_0_34, sR_0_38, sR_1_34, sR_1_38, sR_64_20, sR_64_22, sR_128_25, sR_128_28, sR_194_17, sR_195_17, sR_196_17, sR_197_17, sR_258_30, sR_258_32, sR_258_41, sR_384_43, sR_448_18, sR_512_27, sR_513_27, sR_514_27, sR_515_27, sR_516_27, sR_576_16, sR_577_16, sR_578_16, sR_579_16, sR_580_16, sR_581_16, sR_582_16, sR_583_16, sR_584_16, sR_641_47, sR_643_47, sR_645_47, sR_646_47, sR_647_47, sR_648_47, sR_649_47, sR_650_47, sR_651_47, sR_652_47, sR_653_47, sR_654_47, sR_655_47, sR_656_47, sR_657_47, sR_658_47, sR_659_47, sR_661_47, sR_662_47, sR_663_47, sR_664_47, sR_665_47, sR_669_47, sR_670_47, sR_671_47, sR_672_47, sR_673_47, sR_674_47, sR_676_47, sR_677_47, sR_679_47, sR_680_47, sR_681_47, SH_I, SH_A, SH_G, SH_C, hS, Option.getD_some, ne_eq, reduceCtorEq, not_false_eq_true, not_true_eq_false, Option.bind_some, Option.toList_none, Option.toList_some, List.nil_append, List.cons_append, List.append_nil, ↓reduceIte, and_self, true_and, and_true, false_and, and_false, or_true, true_or, or_false, false_or, Nat.reduceEqDiff, Nat.reduceAdd, Int32.reduceMul, Int32.reduceAdd, Int32.reduceSub, Int32.reduceToNatClampNeg, Int32.reduceOfNat, Int32.reduceLT, Int32.reduceLE, va_rf]
      · simp (decide := true) only [k177_0, k177_5, k177_8, k177_13, k177_16, a2, b2, sT_1, sT_2, sT_3, sT_16, sT_17, sT_18, sT_19, sT_20, sT_21, sT_22, sT_23, sT_24, sT_25, sT_26, sT_27, sT_28, sT_29, sT_30, sT_31, sT_32, sT_33, sT_34, sT_35, sT_36, sT_37, sT_38, sT_39, sT_40, sT_41, sT_42, sT_43, sT_44, sT_45, sT_46, sT_47, sT_48, sT_49, sT_50, sT_51, sT_52, sT_53, sT_54, sT_55, sT_56, sT_57, sT_58, sT_59, sT_60, sT_61, sT_62, sT_63, sT_64, sT_65, sT_66, sT_67, sT_68, sT_69, sT_70, sT_71, sT_72, sT_73, sT_74, sT_75, sT_76, sT_77, sT_78, sT_79, sT_80, sN_1, sN_2, sN_19, sN_21, sN_23, sN_24, sN_26, sN_29, sN_31, sN_33, sN_35, sN_36, sN_37, sN_39, sN_40, sN_42, sN_44, sN_45, sN_46, sN_48, sN_49, sN_50, sN_51, sN_52, sN_53, sN_54, sN_55, sN_56, sN_57, sN_58, sN_59, sN_60, sN_61, sN_62, sN_63, sN_64, sN_65, sN_66, sN_67, sN_68, sN_69, sN_70, sN_71, sN_72, sN_73, sN_74, sN_75, sN_76, sN_77, sN_78, sN_79, sN_80, sR_0_34, sR_0_38, sR_1_34, sR_1_38, sR_64_20, sR_64_22, sR_128_25, sR_128_28, sR_194_17, sR_195_17, sR_196_17, sR_197_17, sR_258_30, sR_258_32, sR_258_41, sR_384_43, sR_448_18, sR_512_27, sR_513_27, sR_514_27, sR_515_27, sR_516_27, sR_576_16, sR_577_16, sR_578_16, sR_579_16, sR_580_16, sR_581_16, sR_582_16, sR_583_16, sR_584_16, sR_641_47, sR_643_47, sR_645_47, sR_646_47, sR_647_47, sR_648_47, sR_649_47, sR_650_47, sR_651_47, sR_652_47, sR_653_47, sR_654_47, sR_655_47, sR_656_47, sR_657_47, sR_658_47, sR_659_47, sR_661_47, sR_662_47, sR_663_47, sR_664_47, sR_665_47, sR_669_47, sR_670_47, sR_671_47, sR_672_47, sR_673_47, sR_674_47, sR_676_47, sR_677_47, sR_679_47, sR_680_47, sR_681_47, SH_I, SH_A, SH_G, SH_C, hS, Option.getD_some, ne_eq, reduceCtorEq, not_false_eq_true, not_true_eq_false, Option.bind_some, Option.toList_none, Option.toList_some, List.nil_append, List.cons_append, List.append_nil, ↓reduceIte, and_self, true_and, and_true, false_and, and_false, or_true, true_or, or_false, false_or, Nat.reduceEqDiff, Nat.reduceAdd, Int32.reduceMul, Int32.reduceAdd, Int32.reduceSub, Int32.reduceToNatClampNeg, Int32.reduceOfNat, Int32.reduceLT, Int32.reduceLE, va_rf]
  · have a1 := c86n (d := d + 3) hS hC h
    have a2 := c170n (d := d + 2) hS hM hs h
    refine rd (-1) ?_ ?_
    · by_cases h' : inR y s.ps.length
      · obtain ⟨q, hq, eq⟩ := inR_nat (by omega) h'
        have b1 := c86y (d := d + 3) hS hC hs hq
        rw [← eq] at b1
        simp (decide := true) only [k92_0, k92_5R, k92_5N, k92_11RR, k92_11RN, k92_11NR, k92_11NN, k92_17R, k92_17N, k92_22, k92_24, k92_33RR, k92_48, k92_51, k92_55RR, k92_55NR, k92_68R, k92_81, a1, b1, sT_1, sT_2, sT_3, sT_16, sT_17, sT_18, sT_19, sT_20, sT_21, sT_22, sT_23, sT_24, sT_25, sT_26, sT_27, sT_28, sT_29, sT_30, sT_31, sT_32, sT_33, sT_34, sT_35, sT_36, sT_37, sT_38, sT_39, sT_40, sT_41, sT_42, sT_43, sT_44, sT_45, sT_46, sT_47, sT_48, sT_49, sT_50, sT_51, sT_52, sT_53, sT_54, sT_55, sT_56, sT_57, sT_58, sT_59, sT_60, sT_61, sT_62, sT_63, sT_64, sT_65, sT_66, sT_67, sT_68, sT_69, sT_70, sT_71, sT_72, sT_73, sT_74, sT_75, sT_76, sT_77, sT_78, sT_79, sT_80, sN_1, sN_2, sN_19, sN_21, sN_23, sN_24, sN_26, sN_29, sN_31, sN_33, sN_35, sN_36, sN_37, sN_39, sN_40, sN_42, sN_44, sN_45, sN_46, sN_48, sN_49, sN_50, sN_51, sN_52, sN_53, sN_54, sN_55, sN_56, sN_57, sN_58, sN_59, sN_60, sN_61, sN_62, sN_63, sN_64, sN_65, sN_66, sN_67, sN_68, sN_69, sN_70, sN_71, sN_72, sN_73, sN_74, sN_75, sN_76, sN_77, sN_78, sN_79, sN_80, sR_0_34, sR_0_38, sR_1_34, sR_1_38, sR_64_20, sR_64_22, sR_128_25, sR_128_28, sR_194_17, sR_195_17, sR_196_17, sR_197_17, sR_258_30, sR_258_32, sR_258_41, sR_384_43, sR_448_18, sR_512_27, sR_513_27, sR_514_27, sR_515_27, sR_516_27, sR_576_16, sR_577_16, sR_578_16, sR_579_16, sR_580_16, sR_581_16, sR_582_16, sR_583_16, sR_584_16, sR_641_47, sR_643_47, sR_645_47, sR_646_47, sR_647_47, sR_648_47, sR_649_47, sR_650_47, sR_651_47, sR_652_47, sR_653_47, sR_654_47, sR_655_47, sR_656_47, sR_657_47, sR_658_47, sR_659_47, sR_661_47, sR_662_47, sR_663_47, sR_664_47, sR_665_47, sR_669_47, sR_670_47, sR_671_47, sR_672_47, sR_673_47, sR_674_47, sR_676_47, sR_677_47, sR_679_47, sR_680_47, sR_681_47, SH_I, SH_A, SH_G, SH_C, hS, Option.getD_some, ne_eq, reduceCtorEq, not_false_eq_true, not_true_eq_false, Option.bind_some, Option.toList_none, Option.toList_some, List.nil_append, List.cons_append, List.append_nil, ↓reduceIte, and_self, true_and, and_true, false_and, and_false, or_true, true_or, or_false, false_or, Nat.reduceEqDiff, Nat.reduceAdd, Int32.reduceMul, Int32.reduceAdd, Int32.reduceSub, Int32.reduceToNatClampNeg, Int32.reduceOfNat, Int32.reduceLT, Int32.reduceLE, va_rf]
      · have b1 := c86n (d := d + 3) hS hC h'
        simp (decide := true) only [k92_0, k92_5R, k92_5N, k92_11RR, k92_11RN, k92_11NR, k92_11NN, k92_17R, k92_17N, k92_22, k92_24, k92_33RR, k92_48, k92_51, k92_55RR, k92_55NR, k92_68R, k92_81, a1, b1, sT_1, sT_2, sT_3, sT_16, sT_17, sT_18, sT_19, sT_20, sT_21, sT_22, sT_23, sT_24, sT_25, sT_26, sT_27, sT_28, sT_29, sT_30, sT_31, sT_32, sT_33, sT_34, sT_35, sT_36, sT_37, sT_38, sT_39, sT_40, sT_41, sT_42, sT_43, sT_44, sT_45, sT_46, sT_47, sT_48, sT_49, sT_50, sT_51, sT_52, sT_53, sT_54, sT_55, sT_56, sT_57, sT_58, sT_59, sT_60, sT_61, sT_62, sT_63, sT_64, sT_65, sT_66, sT_67, sT_68, sT_69, sT_70, sT_71, sT_72, sT_73, sT_74, sT_75, sT_76, sT_77, sT_78, sT_79, sT_80, sN_1, sN_2, sN_19, sN_21, sN_23, sN_24, sN_26, sN_29, sN_31, sN_33, sN_35, sN_36, sN_37, sN_39, sN_40, sN_42, sN_44, sN_45, sN_46, sN_48, sN_49, sN_50, sN_51, sN_52, sN_53, sN_54, sN_55, sN_56, sN_57, sN_58, sN_59, sN_60, sN_61, sN_62, sN_63, sN_64, sN_65, sN_66, sN_67, sN_68, sN_69, sN_70, sN_71, sN_72, sN_73, sN_74, sN_75, sN_76, sN_77, sN_78, sN_79, sN_80, sR_0_34, sR_0_38, sR_1_34, sR_1_38, sR_64_20, sR_64_22, sR_128_25, sR_128_28, sR_194_17, sR_195_17, sR_196_17, sR_197_17, sR_258_30, sR_258_32, sR_258_41, sR_384_43, sR_448_18, sR_512_27, sR_513_27, sR_514_27, sR_515_27, sR_516_27, sR_576_16, sR_577_16, sR_578_16, sR_579_16, sR_580_16, sR_581_16, sR_582_16, sR_583_16, sR_584_16, sR_641_47, sR_643_47, sR_645_47, sR_646_47, sR_647_47, sR_648_47, sR_649_47, sR_650_47, sR_651_47, sR_652_47, sR_653_47, sR_654_47, sR_655_47, sR_656_47, sR_657_47, sR_658_47, sR_659_47, sR_661_47, sR_662_47, sR_663_47, sR_664_47, sR_665_47, sR_669_47, sR_670_47, sR_671_47, sR_672_47, sR_673_47, sR_674_47, sR_676_47, sR_677_47, sR_679_47, sR_680_47, sR_681_47, SH_I, SH_A, SH_G, SH_C, hS, Option.getD_some, ne_eq, reduceCtorEq, not_false_eq_true, not_true_eq_false, Option.bind_some, Option.toList_none, Option.toList_some, List.nil_append, List.cons_append, List.append_nil, ↓reduceIte, and_self, true_and, and_true, false_and, and_false, or_true, true_or, or_false, false_or, Nat.reduceEqDiff, Nat.reduceAdd, Int32.reduceMul, Int32.reduceAdd, Int32.reduceSub, Int32.reduceToNatClampNeg, Int32.reduceOfNat, Int32.reduceLT, Int32.reduceLE, va_rf]
    · simp (decide := true) only [k177_0, k177_5, k177_16, a2, sT_1, sT_2, sT_3, sT_16, sT_17, sT_18, sT_19, sT_20, sT_21, sT_22, sT_23, sT_24, sT_25, sT_26, sT_27, sT_28, sT_29, sT_30, sT_31, sT_32, sT_33, sT_34, sT_35, sT_36, sT_37, sT_38, sT_39, sT_40, sT_41, sT_42, sT_43, sT_44, sT_45, sT_46, sT_47, sT_48, sT_49, sT_50, sT_51, sT_52, sT_53, sT_54, sT_55, sT_56, sT_57, sT_58, sT_59, sT_60, sT_61, sT_62, sT_63, sT_64, sT_65, sT_66, sT_67, sT_68, sT_69, sT_70, sT_71, sT_72, sT_73, sT_74, sT_75, sT_76, sT_77, sT_78, sT_79, sT_80, sN_1, sN_2, sN_19, sN_21, sN_23, sN_24, sN_26, sN_29, sN_31, sN_33, sN_35, sN_36, sN_37, sN_39, sN_40, sN_42, sN_44, sN_45, sN_46, sN_48, sN_49, sN_50, sN_51, sN_52, sN_53, sN_54, sN_55, sN_56, sN_57, sN_58, sN_59, sN_60, sN_61, sN_62, sN_63, sN_64, sN_65, sN_66, sN_67, sN_68, sN_69, sN_70, sN_71, sN_72, sN_73, sN_74, sN_75, sN_76, sN_77, sN_78, sN_79, sN_80, sR_0_34, sR_0_38, sR_1_34, sR_1_38, sR_64_20, sR_64_22, sR_128_25, sR_128_28, sR_194_17, sR_195_17, sR_196_17, sR_197_17, sR_258_30, sR_258_32, sR_258_41, sR_384_43, sR_448_18, sR_512_27, sR_513_27, sR_514_27, sR_515_27, sR_516_27, sR_576_16, sR_577_16, sR_578_16, sR_579_16, sR_580_16, sR_581_16, sR_582_16, sR_583_16, sR_584_16, sR_641_47, sR_643_47, sR_645_47, sR_646_47, sR_647_47, sR_648_47, sR_649_47, sR_650_47, sR_651_47, sR_652_47, sR_653_47, sR_654_47, sR_655_47, sR_656_47, sR_657_47, sR_658_47, sR_659_47, sR_661_47, sR_662_47, sR_663_47, sR_664_47, sR_665_47, sR_669_47, sR_670_47, sR_671_47, sR_672_47, sR_673_47, sR_674_47, sR_676_47, sR_677_47, sR_679_47, sR_680_47, sR_681_47, SH_I, SH_A, SH_G, SH_C, hS, Option.getD_some, ne_eq, reduceCtorEq, not_false_eq_true, not_true_eq_false, Option.bind_some, Option.toList_none, Option.toList_some, List.nil_append, List.cons_append, List.append_nil, ↓reduceIte, and_self, true_and, and_true, false_and, and_false, or_true, true_or, or_false, false_or, Nat.reduceEqDiff, Nat.reduceAdd, Int32.reduceMul, Int32.reduceAdd, Int32.reduceSub, Int32.reduceToNatClampNeg, Int32.reduceOfNat, Int32.reduceLT, Int32.reduceLE, va_rf]
theorem cls_part {p fr t : Nat} (hS : SH σ) (hx : 81 ≤ jnx σ) (hs : WFs s) (hC : CX s cr cp qr qp σ) (hp : p < s.ps.length) (hn : s.ps.length < 16) (hft : fr ≤ t) (ht : t ≤ (s.ps.getD p []).length) : ∃ σ' cp' qp', jx (d + 4) 95 0 [some (.ref 16), some (.int (nI p)), some (.int (nI fr)), some (.int (nI t)), none] [] σ = some (some (.int (nI s.ps.length)), σ') ∧ CX (sApp s (sub (s.ps.getD p []) fr t)) cr cp' qr qp' σ' ∧ SH σ' ∧ sameM σ σ' ∧ low σ σ' ∧ jnx σ ≤ jnx σ' ∧ jnx σ' ≤ jnx σ + 2 ∧ jsl σ' ≤ jsl σ + 147 := by
  have c1 := c86y (d := d + 3) hS hC hs hp
  have rA := hC.ps p hp
  have f24 := (hs.fp _ (mem_ps hp)).1
  have lA : jI σ 257 (qp p) = nI (s.ps.getD p []).length := rA.1.2.2.2.2.2.1
  obtain ⟨σ1, cp', qp', e1, hC1, hc, r1, hS1, sm1, lo1, nx1, nx1', sl1, qs⟩ := cls_new (d := d + 1) hS hx hC hn
  have rA1 := hC1.ps p hp
  obtain ⟨σ3, e3, hC3, r3, hS3, sm3, lo3, nx3, sl3⟩ := cls_put (d := d) hS1 hC1 hc r1 hp hft ht (by show 0 + _ ≤ 24; omega)
  rw [List.nil_append] at r3
  have F := i16FR (σ := σ3) 586 (nI (s.ps.length + 1))
  refine ⟨jsI σ3 586 16 (nI (s.ps.length + 1)), cp', qp', ?_, cls_app hS3 hC3 hc r3, by rw [SH_I]; exact hS3, (sm1.trans sm3).trans (F.sm (fun a h1 h2 => by simp; omega)), (lo1.trans lo3).trans (F.low (by simp)), by show _ ≤ jnx σ3; omega, by show jnx σ3 ≤ _; omega, by show jsl σ3 ≤ _; omega⟩
  have n16 : nI s.ps.length < (16 : Int32) := by rw [show (16 : Int32) = nI 16 from rfl, n31 (by omega) (by decide)]; exact hn
  have e3' : jx (d + 3) 93 0 [some (.ref (qp' s.ps.length)), some (.ref (qp p)), some (.int (nI fr)), some (.int (nI t)), none] [] σ1 = some (none, σ3) := by rw [← qs p hp]; exact e3
  have tA1 : jT σ1 (qp p) = 5 := by rw [← qs p hp]; exact rA1.1.1
  have np3 : jI σ3 586 16 = nI s.ps.length := hC3.np
  have nlt : ¬ nI t < nI fr := by rw [n31 (by omega) (by omega)]; omega
  rw [k95_0 (sT_16 hS), c1]
  simp only [Option.bind_some, Option.toList_some, List.cons_append, List.nil_append]
  rw [k95_5R, if_neg (nn0 (by omega)), k95_16, if_neg nlt, k95_21R rA.1.1, lA, if_pos (nI_le ht (by omega)), k95_32 (sT_16 hS), hC.np, if_pos n16, k95_44 (sT_16 hS), e1]
  simp only [Option.bind_some, Option.toList_some, List.cons_append, List.nil_append]
  rw [k95_48R r1.1.1, e3']
  simp only [Option.bind_some, Option.toList_none, List.nil_append]
  rw [k95_55 (sT_16 hS3), np3, zI_I, if_pos ⟨rfl, rfl⟩, ← nI_succ, show (1 : Int32) = nI 1 from rfl, nsub (by omega), Nat.add_sub_cancel]
theorem sim_part (hR : REL s cr cp qr qp σ) (x y z : Int32) : SimR (d + 4) 95 179 [some (.int x), some (.int y), some (.int z), none] [some (.int x), some (.int y), some (.int z), none] true σ := by
  have hR0 := hR
  obtain ⟨hS, hx, hs, hC, hM⟩ := hR
  have hl := hs.p16
  have rd : ∀ v : Int32, jx (d + 4) 95 0 [some (.ref 16), some (.int x), some (.int y), some (.int z), none] [] σ = some (some (.int v), σ) → jx (d + 4) 179 0 [some (.ref 47), some (.int x), some (.int y), some (.int z), none] [] σ = some (some (.int v), σ) → SimR (d + 4) 95 179 [some (.int x), some (.int y), some (.int z), none] [some (.int x), some (.int y), some (.int z), none] true σ := fun v h1 h2 => SimR.read hR0 h1 h2 (fun _ => rfl)
  by_cases h : inR x s.ps.length
  · have a2 := c170y (d := d + 2) hS hM hs h
    obtain ⟨p, hp, ep⟩ := inR_nat (by omega) h
    have a1 := c86y (d := d + 3) hS hC hs hp
    rw [← ep] at a1
    have pA := hM.ps p hp
    have rA := hC.ps p hp
    have lA : jI σ 257 (qp p) = nI (s.ps.getD p []).length := rA.1.2.2.2.2.2.1
    have fA := hs.fp _ (mem_ps hp)
    have tA := rA.1.1
    have rg : (jR σ 661 47).getD 0 = 65 := by rw [sR_661_47 hS]; rfl
    have rn : jR σ 661 47 ≠ none := by rw [sR_661_47 hS]; exact fun z => nomatch z
    have g17 : jx (d + 4) 179 17 [some (.ref 47), some (.int x), some (.int y), some (.int z), none] [] σ = if z ≤ nI (s.ps.getD p []).length then jx (d + 4) 179 29 [some (.ref 47), some (.int x), some (.int y), some (.int z), none] [] σ else jx (d + 4) 179 27 [some (.ref 47), some (.int x), some (.int y), some (.int z), none] [] σ := by
      rw [ep, k179_17 (sT_47 hS) rn (by rw [rg]; exact Or.inl (sT_65 hS)) (by rw [rg, sN_65 hS]; exact jin_n (by omega) (by decide)), rg, nI_clamp (by omega), pA.1]
    have g5 : ∀ w, jx (d + 4) 179 5 w [.int 1] σ = jx (d + 4) 179 5 w [.int 1] σ := fun _ => rfl
    have s1 : jx (d + 4) 95 0 [some (.ref 16), some (.int x), some (.int y), some (.int z), none] [] σ = if y < 0 then jx (d + 4) 95 30 [some (.ref 16), some (.int x), some (.int y), some (.int z), some (.ref (qp p))] [] σ else jx (d + 4) 95 16 [some (.ref 16), some (.int x), some (.int y), some (.int z), some (.ref (qp p))] [] σ := by
      rw [k95_0 (sT_16 hS), a1]
      simp only [Option.bind_some, Option.toList_some, List.cons_append, List.nil_append]
      rw [k95_5R]
    have s2 : jx (d + 4) 179 0 [some (.ref 47), some (.int x), some (.int y), some (.int z), none] [] σ = jx (d + 4) 179 8 [some (.ref 47), some (.int x), some (.int y), some (.int z), none] [] σ := by
      rw [k179_0 (sT_47 hS), a2]
      simp only [Option.bind_some, Option.toList_some, List.cons_append, List.nil_append]
      rw [k179_5, if_neg (by decide)]
    by_cases h0 : y < 0
    · exact rd (-1) (by rw [s1, if_pos h0, k95_30]) (by rw [s2, k179_8, if_pos h0, k179_27])
    by_cases h1 : z < y
    · exact rd (-1) (by rw [s1, if_neg h0, k95_16, if_pos h1, k95_30]) (by rw [s2, k179_8, if_neg h0, k179_12, if_pos h1, k179_27])
    by_cases h2 : z ≤ nI (s.ps.getD p []).length
    · have z0 : ¬ z < 0 := fun w => h1 (Int32.lt_of_lt_of_le w (Int32.not_lt.mp h0))
      have qz := i32_nat (c := z) (n := 25) (by decide) z0 (by rw [Int32.not_le]; exact Int32.lt_of_le_of_lt h2 (by rw [n31 (by omega) (by decide)]; omega))
      have qy := i32_nat (c := y) (n := 25) (by decide) h0 (by rw [Int32.not_le]; exact Int32.lt_of_le_of_lt (Int32.not_lt.mp h1) (Int32.lt_of_le_of_lt h2 (by rw [n31 (by omega) (by decide)]; omega)))
      obtain ⟨t, et⟩ : ∃ t, z.toNatClampNeg = t := ⟨_, rfl⟩
      obtain ⟨fr, efr⟩ : ∃ t, y.toNatClampNeg = t := ⟨_, rfl⟩
      rw [et] at qz
      rw [efr] at qy
      have hft : fr ≤ t := by
        have := h1
        rw [qz.1, qy.1, n31 (by omega) (by omega)] at this
        omega
      have ht : t ≤ (s.ps.getD p []).length := by
        have := h2
        rw [qz.1, n31le (by omega) (by omega)] at this
        exact this
      by_cases hn : s.ps.length < 16
      · obtain ⟨σ1, cp', qp', e1, hC1, hS1, sm1, lo1, nx1, nx1', sl1⟩ := cls_part (d := d) hS hx hs hC hp hn hft ht
        obtain ⟨σ2, e2, hM2, hS2, sc2, nx2, sl2⟩ := ref_part (d := d + 2) hS1 hs (hM.sm sm1) hp hn hft ht
        rw [ep, qz.1, qy.1]
        exact ⟨_, _, σ1, σ2, _, cr, cp', qr, qp', e1, e2, ⟨hS2, by omega, sApp_wf hs hn ⟨by rw [sub_len ht]; omega, fun o ho => fA.2 o (sub_mem ho)⟩, CX.sc (by omega) hC1 sc2, hM2⟩, by omega, by omega, lo1.trans (sc2.low (by omega)), fun _ => rfl⟩
      · have e16 : nI s.ps.length = 16 := by rw [show s.ps.length = 16 by omega]; rfl
        exact rd (-3) (by rw [s1, if_neg h0, k95_16, if_neg h1, k95_21R tA, lA, if_pos h2, k95_32 (sT_16 hS), hC.np, e16, if_neg (by decide), k95_41]) (by rw [s2, k179_8, if_neg h0, k179_12, if_neg h1, g17, if_pos h2, k179_29 (sT_47 hS), hM.np, if_neg (fun w => w e16), k179_38])
    · exact rd (-1) (by rw [s1, if_neg h0, k95_16, if_neg h1, k95_21R tA, lA, if_neg h2, k95_30]) (by rw [s2, k179_8, if_neg h0, k179_12, if_neg h1, g17, if_neg h2, k179_27])
  · have a1 := c86n (d := d + 3) hS hC h
    have a2 := c170n (d := d + 2) hS hM hs h
    refine rd (-1) ?_ ?_
    · rw [k95_0 (sT_16 hS), a1]
      simp only [Option.bind_some, Option.toList_some, List.cons_append, List.nil_append]
      rw [k95_5N]
    · rw [k179_0 (sT_47 hS), a2]
      simp only [Option.bind_some, Option.toList_some, List.cons_append, List.nil_append]
      rw [k179_5, if_pos rfl, k179_27]
end SMB
end S_90
