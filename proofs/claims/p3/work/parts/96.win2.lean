/-! windows: the class -/
def RB (e : Int32) (σ : jS) (r m : Nat) (x : BN × BN) : Prop := (∀ k, k < 4 → jA σ r k = encB e x.1 k) ∧ (∀ k, k < 3 → jA σ m k = encB e x.2 k)
theorem keep2 {W nr nm : Nat} (hW : W = 1 ∨ W = 2 ∨ W = 3) (hnm : nm ≤ 3) {o : Nat → Int32} (h : WFo nr nm o) (h4 : o 4 = 0) (hn : numN (opO o) = true) : (∃ i, i < nm ∧ o 2 = 16 + nI i ∧ (keepF W o) 2 = 16 + nI i) ∨ (∃ u, u < 8 ∧ ¬ 16 ≤ o 2 ∧ (keepF W o) 2 = nI u ∧ kpM W (opO o) (o 2) = nI u) := by
  obtain ⟨k, k1, k2, k3, k4, k5⟩ := h
  have ko : opO o = k := by unfold opO; rw [k2]; exact nI_clamp (by omega)
  rcases k4 (by rw [← ko]; exact hn) with ⟨u, hu, eu⟩ | ⟨i, hi, ei⟩
  · have n16' : ¬ 16 ≤ o 2 := by rw [eu]; exact nI_ge (b := 16) (by omega) (by omega)
    have kf : (keepF W o) 2 = kptX W (opO o) (o 2) := by
      unfold keepF
      rw [if_pos ⟨hn, h4, n16'⟩]
      rfl
    obtain ⟨t, t1, t2, t3⟩ := kp_bnd hW hn (i := u + 15) (by omega)
    have ev : nI (u + 15) - 15 = o 2 := by rw [eu, show (15 : Int32) = nI 15 from rfl, nsub (by omega)]; congr 1
    have ek := kpM_kptX hW hn (i := u + 15) (by omega)
    rw [ev] at t3 ek
    exact Or.inr ⟨t, t1, n16', by rw [kf, ← ek, t3], t3⟩
  · have y16 : 16 ≤ o 2 := by rw [ei]; exact (i16n (by omega)).1
    refine Or.inl ⟨i, hi, ei, ?_⟩
    unfold keepF
    rw [if_neg (fun z => z.2.2 y16)]
    exact ei
section WI2
variable {d : Nat} {σ : jS}
theorem c98 {B br bn : Nat} (hB : BD σ B br bn) (rm : ¬ br = bn) : ∃ σ', jx d 98 0 [some (.ref B), none] [] σ = some (none, σ') ∧ FR [br, bn] σ σ' ∧ RB (-1) σ' br bn (fun _ => none, fun _ => none) := by
  have hB0 := hB
  have L1 : ∀ f n υ, n + f = 4 → FR [br, bn] σ υ → (∀ k, k < n → jA υ br k = -1) → ∃ υ', jx d 98 2 [some (.ref B), some (.int (nI n))] [] υ = jx d 98 26 [some (.ref B), some (.int (nI 0))] [] υ' ∧ FR [br, bn] σ υ' ∧ (∀ k, k < 4 → jA υ' br k = -1) := by
    intro f
    induction f with
    | zero =>
      intro n υ hn F h
      have e : n = 4 := by omega
      subst e
      obtain ⟨h1, h2, h3, h4, h5, h6, h7⟩ := hB0.frame F
      have rn : jR υ 0 B ≠ none := by rw [h2]; exact fun z => nomatch z
      have rg : (jR υ 0 B).getD 0 = br := by rw [h2]; rfl
      refine ⟨υ, ?_, F, h⟩
      rw [k98_2 h1 rn (by rw [rg, h4]; decide), rg, h5, if_pos (by decide), k98_24]
      rfl
    | succ f ih =>
      intro n υ hn F h
      obtain ⟨h1, h2, h3, h4, h5, h6, h7⟩ := hB0.frame F
      have rn : jR υ 0 B ≠ none := by rw [h2]; exact fun z => nomatch z
      have rg : (jR υ 0 B).getD 0 = br := by rw [h2]; rfl
      have g4 : ¬ Int32.ofNat 4 ≤ nI n := nI_ge (by omega) (by omega)
      obtain ⟨υ', e', F', h'⟩ := ih (n + 1) (jsA υ br n (-1)) (by omega) (F.A (by simp)) (fun k hk => by
        rw [zA_A]
        by_cases e : k = n
        · rw [if_pos ⟨rfl, e⟩]
        · rw [if_neg (fun z => e z.2)]; exact h k (by omega))
      refine ⟨υ', ?_, F', h'⟩
      rw [← e', k98_2 h1 rn (by rw [rg, h4]; decide), rg, h5, if_neg g4, k98_11 h1 rn (by rw [rg]; exact h4) (by rw [rg, h5]; exact jin_n (by omega) (by decide)), rg, nI_clamp (by omega), ← nI_succ]
  have L2 : ∀ f n υ, n + f = 3 → FR [br, bn] σ υ → (∀ k, k < 4 → jA υ br k = -1) → (∀ k, k < n → jA υ bn k = -1) → ∃ υ', jx d 98 26 [some (.ref B), some (.int (nI n))] [] υ = some (none, υ') ∧ FR [br, bn] σ υ' ∧ (∀ k, k < 4 → jA υ' br k = -1) ∧ (∀ k, k < 3 → jA υ' bn k = -1) := by
    intro f
    induction f with
    | zero =>
      intro n υ hn F h h'
      have e : n = 3 := by omega
      subst e
      obtain ⟨h1, h2, h3, h4, h5, h6, h7⟩ := hB0.frame F
      have rn : jR υ 1 B ≠ none := by rw [h3]; exact fun z => nomatch z
      have rg : (jR υ 1 B).getD 0 = bn := by rw [h3]; rfl
      refine ⟨υ, ?_, F, h, h'⟩
      rw [k98_26 h1 rn (by rw [rg, h6]; decide), rg, h7, if_pos (by decide), k98_48]
    | succ f ih =>
      intro n υ hn F h h'
      obtain ⟨h1, h2, h3, h4, h5, h6, h7⟩ := hB0.frame F
      have rn : jR υ 1 B ≠ none := by rw [h3]; exact fun z => nomatch z
      have rg : (jR υ 1 B).getD 0 = bn := by rw [h3]; rfl
      have g4 : ¬ Int32.ofNat 3 ≤ nI n := nI_ge (by omega) (by omega)
      obtain ⟨υ', e', F', h''⟩ := ih (n + 1) (jsA υ bn n (-1)) (by omega) (F.A (by simp)) (fun k hk => by rw [zA_A, if_neg (fun z => rm z.1)]; exact h k hk) (fun k hk => by
        rw [zA_A]
        by_cases e : k = n
        · rw [if_pos ⟨rfl, e⟩]
        · rw [if_neg (fun z => e z.2)]; exact h' k (by omega))
      refine ⟨υ', ?_, F', h''⟩
      rw [← e', k98_26 h1 rn (by rw [rg, h6]; decide), rg, h7, if_neg g4, k98_35 h1 rn (by rw [rg]; exact h6) (by rw [rg, h7]; exact jin_n (by omega) (by decide)), rg, nI_clamp (by omega), ← nI_succ]
  obtain ⟨υ1, e1, F1, h1⟩ := L1 4 0 σ rfl (FR.refl _ σ) (fun k hk => absurd hk (Nat.not_lt_zero k))
  obtain ⟨υ2, e2, F2, h2, h3⟩ := L2 3 0 υ1 rfl F1 h1 (fun k hk => absurd hk (Nat.not_lt_zero k))
  refine ⟨υ2, ?_, F2, h2, h3⟩
  rw [k98_0]
  exact e1.trans e2
theorem c101 {B br bn v W : Nat} {c : BN} {o : Nat → Int32} {t : Int32} (hB : BD σ B br bn) (hc : ∀ k, k < 3 → jA σ bn k = encB (-1) c k) (ic : IC c) (hv : v < 8) (ht : (∃ i, i < 3 ∧ o 2 = 16 + nI i ∧ t = 16 + nI i) ∨ (∃ u, u < 8 ∧ ¬ 16 ≤ o 2 ∧ t = nI u ∧ kpM W (opO o) (o 2) = nI u)) : ∃ σ', jx (d + 2) 101 0 [some (.ref B), some (.int t), some (.int (nI v)), none] [] σ = some (some (.int (if (tkN W (opO o) c (o 2) (nI v)).isSome then 1 else 0)), σ') ∧ FR [bn] σ σ' ∧ (∀ c', tkN W (opO o) c (o 2) (nI v) = some c' → (∀ k, k < 3 → jA σ' bn k = encB (-1) c' k) ∧ IC c') := by
  have cv : (nI v).toNatClampNeg = v := nI_clamp (by omega)
  rcases ht with ⟨i, hi, eo, et⟩ | ⟨u, hu, eo, et, ek⟩
  · have q16 := i16n (i := i) hi
    have t16 : t - 16 = nI i := by rw [et]; exact q16.2.2
    have n0 : ¬ nI i < 0 := nn0 (by omega)
    have tn : tkN W (opO o) c (o 2) (nI v) = tkM c i v := by
      unfold tkN
      rw [eo, if_pos q16.1, q16.2.2, nI_clamp (by omega), cv]
    have c8 : ∀ u, c i = some u → u < 8 := fun u hu => ic i u hi hu
    have nv : ∀ {m : Nat → Int32}, nmV m (nI i) = m i := fun {m} => by
      unfold nmV
      rw [if_neg (fun z => by
        rcases z with z | z
        · exact n0 z
        · exact nI_ge (b := 3) hi (by omega) z), nI_clamp (by omega)]
    have tvi : ∀ {m : Nat → Int32}, tvV m t = m i := fun {m} => by
      unfold tvV
      rw [et, if_pos q16.1, q16.2.2, nv]
    rw [tn]
    cases hm : c i with
    | none =>
      have tm : tkM c i v = some (upB c i v) := by unfold tkM; rw [hm]
      have hneg : ¬ (0 : Int32) ≤ jA σ bn i := by
        rw [hc i hi, enc_neg c8, hm]
        exact fun ⟨u, z⟩ => nomatch z
      have hB2 : BD (jsA σ bn i (nI v)) B br bn := hB
      refine ⟨jsA σ bn i (nI v), ?_, (FR.refl _ σ).A (by simp), fun c' hc' => ?_⟩
      · rw [k101_0, t16, if_neg n0, k101_9 hB.1, c66 hB, nv]
        simp only [Option.bind_some, Option.toList_some, List.cons_append, List.nil_append]
        rw [k101_14, if_neg hneg, k101_17 hB.1, c60 hB hi]
        simp only [Option.bind_some, Option.toList_none, List.nil_append]
        rw [k101_23 hB2.1, c65 hB2, tvi]
        simp only [Option.bind_some, Option.toList_some, List.cons_append, List.nil_append]
        rw [k101_28, if_neg (fun z => z (by rw [zA_A, if_pos ⟨rfl, rfl⟩])), k101_32, tm]
        rfl
      · have e := hc'
        rw [tm, Option.some_inj] at hc'
        refine ⟨fun k hk => ?_, tkM_iv hv ic e⟩
        rw [← hc', enc_up, zA_A]
        by_cases e : k = i
        · rw [if_pos ⟨rfl, e⟩, if_pos e]
        · rw [if_neg (fun z => e z.2), if_neg e]; exact hc k hk
    | some u =>
      have hp : (0 : Int32) ≤ jA σ bn i := by rw [hc i hi, enc_neg c8]; exact ⟨u, hm⟩
      have eu : jA σ bn i = nI u := by rw [hc i hi]; unfold encB; rw [hm]
      have u8 := c8 u hm
      have tm : tkM c i v = if u = v then some c else none := by unfold tkM; rw [hm]
      refine ⟨σ, ?_, FR.refl _ σ, fun c' hc' => ?_⟩
      · rw [k101_0, t16, if_neg n0, k101_9 hB.1, c66 hB, nv]
        simp only [Option.bind_some, Option.toList_some, List.cons_append, List.nil_append]
        rw [k101_14, if_pos hp, k101_23 hB.1, c65 hB, tvi, eu]
        simp only [Option.bind_some, Option.toList_some, List.cons_append, List.nil_append]
        rw [k101_28, tm]
        by_cases e : u = v
        · rw [if_neg (fun z => z (by rw [e])), k101_32, if_pos e]; rfl
        · rw [if_pos (by rw [n31eq (by omega) (by omega)]; exact e), k101_36, if_neg e]; rfl
      · refine ⟨?_, tkM_iv hv ic hc'⟩
        rw [tm] at hc'
        split at hc'
        · cases hc'; exact hc
        · cases hc'
  · have tn : tkN W (opO o) c (o 2) (nI v) = if u = v then some c else none := by
      unfold tkN
      rw [if_neg eo, ek]
      by_cases e : u = v
      · rw [if_pos (by rw [e]), if_pos e]
      · rw [if_neg (by rw [n31eq (by omega) (by omega)]; exact e), if_neg e]
    have neg : t - 16 < 0 := by
      rw [et]
      exact (by decide : ∀ u, u < 8 → nI u - 16 < 0) u hu
    have n16' : ¬ (16 : Int32) ≤ nI u := nI_ge (b := 16) (by omega) (by omega)
    have tvi : ∀ {m : Nat → Int32}, tvV m t = nI u := fun {m} => by
      unfold tvV
      rw [et, if_neg n16']
    refine ⟨σ, ?_, FR.refl _ σ, fun c' hc' => ?_⟩
    · rw [k101_0, if_pos neg, k101_23 hB.1, c65 hB, tvi]
      simp only [Option.bind_some, Option.toList_some, List.cons_append, List.nil_append]
      rw [k101_28, tn]
      by_cases e : u = v
      · rw [if_neg (fun z => z (by rw [e])), k101_32, if_pos e]; rfl
      · rw [if_pos (by rw [n31eq (by omega) (by omega)]; exact e), k101_36, if_neg e]; rfl
    · rw [tn] at hc'
      split at hc'
      · cases hc'; exact ⟨hc, ic⟩
      · cases hc'
theorem PWF.y {o : Nat → Int32} (h : PWF o) : ∃ u, u < 8 ∧ o 2 = nI u := by
  obtain ⟨K, x, y, z, ⟨b1, b2, b3, b4, b5⟩, e0, e1, e2, e3⟩ := h
  exact ⟨y, b4, e2⟩
theorem c99 {B br bn W q1 a1 m1 qp ap m2 k i nr nm : Nat} {x : BN × BN} {os ps : List (Nat → Int32)} {o p : Nat → Int32} (hS : SH σ) (hQ : ST σ) (hW : W = 1 ∨ W = 2 ∨ W = 3) (hB : BD σ B br bn) (rm : ¬ br = bn) (hx : RB (-1) σ br bn x) (iv : IB x.1) (ic : IC x.2) (hD : RO σ q1 a1 m1 os) (hk : k < os.length) (eo : os.getD k (fun _ => 0) = keepF W o) (ho : WFo nr nm o) (h4 : o 4 = 0) (hnr : nr ≤ 4) (hnm : nm ≤ 3) (hP : RO σ qp ap m2 ps) (hi : i < ps.length) (ep : ps.getD i (fun _ => 0) = p) (hp : PWF p) (hn : ∀ z : Nat, z ∈ [1, 2, q1, a1, qp, ap] → z ≠ br ∧ z ≠ bn) :
    ∃ σ', jx (d + 3) 99 0 [some (.ref B), some (.ref q1), some (.int (nI k)), some (.ref qp), some (.int (nI i)), none, none, none] [] σ = some (some (.int (if (tkO W x o p).isSome then 1 else 0)), σ') ∧ FR [br, bn] σ σ' ∧ (∀ x', tkO W x o p = some x' → RB (-1) σ' br bn x' ∧ IB x'.1 ∧ IC x'.2) := by
  obtain ⟨ok1, ok2⟩ := ho.op
  obtain ⟨kf0, kf1, kfj⟩ := keep_op W o
  have nin : ∀ z : Nat, z ∈ [1, 2, q1, a1, qp, ap] → z ∉ [br, bn] := fun z hz w => by
    have := hn z hz
    simp at w
    omega
  have gD : ∀ {υ : jS}, FR [br, bn] σ υ → ∀ j, j < 6 → jx (d + 2) 51 0 [some (.ref q1), some (.int (nI k)), some (.int (nI j))] [] υ = some (some (.int (keepF W o j)), υ) := fun F j hj => by
    have := c51 (d := d + 1) (hD.frame F (nin q1 (by simp)) (nin a1 (by simp))) hk hj
    rw [eo] at this
    exact this
  have gP : ∀ {υ : jS}, FR [br, bn] σ υ → ∀ j, j < 6 → jx (d + 2) 51 0 [some (.ref qp), some (.int (nI i)), some (.int (nI j))] [] υ = some (some (.int (p j)), υ) := fun F j hj => by
    have := c51 (d := d + 1) (hP.frame F (nin qp (by simp)) (nin ap (by simp))) hi hj
    rw [ep] at this
    exact this
  have tD : ∀ {υ : jS}, FR [br, bn] σ υ → jT υ q1 = 5 := fun F => by rw [F.1.1]; exact hD.1.1
  have tP : ∀ {υ : jS}, FR [br, bn] σ υ → jT υ qp = 5 := fun F => by rw [F.1.1]; exact hP.1.1
  have d0 := gD (FR.refl _ σ) 0 (by decide)
  rw [kf0, ok2] at d0
  have d0 : jx (d + 2) 51 0 [some (.ref q1), some (.int (nI k)), some (.int 0)] [] σ = some (some (.int (nI (opO o))), σ) := d0
  have p0 : jx (d + 2) 51 0 [some (.ref qp), some (.int (nI i)), some (.int 0)] [] σ = some (some (.int (p 0)), σ) := gP (FR.refl _ σ) 0 (by decide)
  have to15 : jx (d + 3) 99 0 [some (.ref B), some (.ref q1), some (.int (nI k)), some (.ref qp), some (.int (nI i)), none, none, none] [] σ = jx (d + 3) 99 15 [some (.ref B), some (.ref q1), some (.int (nI k)), some (.ref qp), some (.int (nI i)), some (.int (nI (opO o))), none, none] [.int (p 0)] σ := by
    rw [k99_0 hD.1.1, d0]
    simp only [Option.bind_some, Option.toList_some, List.cons_append, List.nil_append]
    rw [k99_6 hP.1.1, p0]
    simp only [Option.bind_some, Option.toList_some, List.cons_append, List.nil_append]
  have r3 := regN3 (opO o)
  -- a refusal goes to the end
  have no : ∀ {υ : jS} {j : Nat}, FR [br, bn] σ υ → jx (d + 3) 99 30 [some (.ref B), some (.ref q1), some (.int (nI k)), some (.ref qp), some (.int (nI i)), some (.int (nI (opO o))), some (.int 0), some (.int (nI j))] [] υ = some (some (.int 0), υ) := fun {υ j} F => by
    have hSu := F.sh hS
    have hQu := F.st (nin 1 (by simp)) (nin 2 (by simp)) hQ
    rw [k99_30, c34 hSu hQu ok1]
    simp only [Option.bind_some, Option.toList_some, List.cons_append, List.nil_append]
    rw [k99_37]
    by_cases q : nI (regN (opO o)) < nI j
    · rw [if_pos q, k99_72, if_pos rfl, k99_104 (by decide)]
    · rw [if_neg q, k99_40, if_pos rfl, k99_72, if_pos rfl, k99_104 (by decide)]
  by_cases hk0 : p 0 = o 0
  · have opp : opO p = opO o := by unfold opO; rw [hk0]
    have preg : ∀ j, j < regN (opO o) → ∃ u, u < 4 ∧ p (j + 1) = nI u := fun j hj => hp.reg (by omega) (by rw [opp]; omega)
    have oreg : ∀ j, j < regN (opO o) → ∃ u, u < 4 ∧ keepF W o (j + 1) = nI u ∧ o (j + 1) = nI u := fun j hj => by
      obtain ⟨K, w1, w2, w3, w4, w5⟩ := ho
      have ko : opO o = K := by unfold opO; rw [w2]; exact nI_clamp (by omega)
      obtain ⟨u, u1, u2⟩ := w3 j (by rw [← ko]; exact hj)
      refine ⟨u, by omega, ?_, u2⟩
      by_cases j2 : j + 1 = 2
      · have nn : ¬ numN (opO o) = true := fun z => by have := numN1 z; omega
        have : keepF W o = o := by unfold keepF; rw [if_neg (fun z => nn z.1)]
        rw [this]; exact u2
      · rw [kfj _ j2]; exact u2
    have L : ∀ f j υ bj, j + f = regN (opO o) → FR [br, bn] σ υ → tkL x.1 o p j = some bj → RB (-1) υ br bn (bj, x.2) → IB bj → ∃ υ', FR [br, bn] σ υ' ∧ (match tkL x.1 o p (regN (opO o)) with | some b' => (jx (d + 3) 99 30 [some (.ref B), some (.ref q1), some (.int (nI k)), some (.ref qp), some (.int (nI i)), some (.int (nI (opO o))), some (.int 1), some (.int (nI (j + 1)))] [] υ = jx (d + 3) 99 77 [some (.ref B), some (.ref q1), some (.int (nI k)), some (.ref qp), some (.int (nI i)), some (.int (nI (opO o))), some (.int 1), some (.int (nI (regN (opO o) + 1)))] [] υ') ∧ RB (-1) υ' br bn (b', x.2) ∧ IB b' | none => jx (d + 3) 99 30 [some (.ref B), some (.ref q1), some (.int (nI k)), some (.ref qp), some (.int (nI i)), some (.int (nI (opO o))), some (.int 1), some (.int (nI (j + 1)))] [] υ = some (some (.int 0), υ')) := by
      intro f
      induction f with
      | zero =>
        intro j υ bj hj F ht hr hib
        have e : j = regN (opO o) := by omega
        subst e
        refine ⟨υ, F, ?_⟩
        rw [ht]
        refine ⟨?_, hr, hib⟩
        rw [k99_30, c34 (F.sh hS) (F.st (nin 1 (by simp)) (nin 2 (by simp)) hQ) ok1]
        simp only [Option.bind_some, Option.toList_some, List.cons_append, List.nil_append]
        rw [k99_37, if_pos (by rw [n31 (by omega) (by omega)]; omega), k99_72, if_neg (by decide)]
      | succ f ih =>
        intro j υ bj hj F ht hr hib
        obtain ⟨w, w4, w1, w2⟩ := oreg j (by omega)
        obtain ⟨v, v4, v1⟩ := preg j (by omega)
        have dj := gD F (j + 1) (by omega)
        have pj := gP F (j + 1) (by omega)
        rw [w1] at dj
        rw [v1] at pj
        obtain ⟨υ1, e1, F1, g1⟩ := c100 (d := d + 2) (hB.frame F) hr.1 hib w4 v4
        have F1' : FR [br, bn] υ υ1 := F1.mono (fun a ha => by simp at ha; simp [ha])
        have st : jx (d + 3) 99 30 [some (.ref B), some (.ref q1), some (.int (nI k)), some (.ref qp), some (.int (nI i)), some (.int (nI (opO o))), some (.int 1), some (.int (nI (j + 1)))] [] υ = jx (d + 3) 99 30 [some (.ref B), some (.ref q1), some (.int (nI k)), some (.ref qp), some (.int (nI i)), some (.int (nI (opO o))), some (.int (if (tkR bj w v).isSome then 1 else 0)), some (.int (nI (j + 2)))] [] υ1 := by
          rw [k99_30, c34 (F.sh hS) (F.st (nin 1 (by simp)) (nin 2 (by simp)) hQ) ok1]
          simp only [Option.bind_some, Option.toList_some, List.cons_append, List.nil_append]
          rw [k99_37, if_neg (by rw [n31 (by omega) (by omega)]; omega), k99_40, if_neg (by decide), k99_45 (tD F), dj]
          simp only [Option.bind_some, Option.toList_some, List.cons_append, List.nil_append]
          rw [k99_53 (tP F), pj]
          simp only [Option.bind_some, Option.toList_some, List.cons_append, List.nil_append]
          rw [k99_61 (hB.frame F).1, e1]
          simp only [Option.bind_some, Option.toList_some, List.cons_append, List.nil_append]
          rw [k99_64, ← nI_succ]
        have tj : tkL x.1 o p (j + 1) = tkR bj w v := by
          show (tkL x.1 o p j).bind _ = _
          rw [ht]
          show tkR bj (o (j + 1)).toNatClampNeg (p (j + 1)).toNatClampNeg = _
          rw [w2, v1, nI_clamp (by omega), nI_clamp (by omega)]
        cases hT : tkR bj w v with
        | none =>
          rw [hT] at tj st
          have tn := tkL_none tj (regN (opO o)) (by omega)
          refine ⟨υ1, F.trans F1', ?_⟩
          rw [tn]
          show jx _ _ _ _ _ _ = _
          rw [st]
          exact no (F.trans F1')
        | some b1 =>
          rw [hT] at tj st
          obtain ⟨υ', F', r⟩ := ih (j + 1) υ1 b1 (by omega) (F.trans F1') tj ⟨g1 b1 hT, fun k hk => by rw [(F1.2 bn (by simp; exact fun z => rm z.symm)).2]; exact hr.2 k hk⟩ (tkR_iv v4 hib hT)
          refine ⟨υ', F', ?_⟩
          have st' : jx (d + 3) 99 30 [some (.ref B), some (.ref q1), some (.int (nI k)), some (.ref qp), some (.int (nI i)), some (.int (nI (opO o))), some (.int 1), some (.int (nI (j + 1)))] [] υ = jx (d + 3) 99 30 [some (.ref B), some (.ref q1), some (.int (nI k)), some (.ref qp), some (.int (nI i)), some (.int (nI (opO o))), some (.int 1), some (.int (nI (j + 1 + 1)))] [] υ1 := st
          rw [st']
          exact r
    obtain ⟨υ1, F1, r1⟩ := L (regN (opO o)) 0 σ x.1 (by omega) (FR.refl _ σ) rfl hx iv
    have to30 : jx (d + 3) 99 0 [some (.ref B), some (.ref q1), some (.int (nI k)), some (.ref qp), some (.int (nI i)), none, none, none] [] σ = jx (d + 3) 99 30 [some (.ref B), some (.ref q1), some (.int (nI k)), some (.ref qp), some (.int (nI i)), some (.int (nI (opO o))), some (.int 1), some (.int (nI (0 + 1)))] [] σ := by
      rw [to15, k99_15, if_neg (fun z => z (by rw [hk0, ok2])), k99_20]
      rfl
    cases hL : tkL x.1 o p (regN (opO o)) with
    | none =>
      rw [hL] at r1
      have tn : tkO W x o p = none := by unfold tkO; rw [if_pos hk0, hL]; rfl
      refine ⟨υ1, ?_, F1, fun x' hx' => by rw [tn] at hx'; cases hx'⟩
      rw [to30, tn]
      exact r1
    | some b1 =>
      rw [hL] at r1
      obtain ⟨e1, hr1, ib1⟩ := r1
      have cn := c40 (d := d + 1) (σ := υ1) ok1
      by_cases hnum : numN (opO o) = true
      · obtain ⟨v, v8, ev⟩ := hp.y
        have tn : tkO W x o p = (tkN W (opO o) x.2 (o 2) (nI v)).map (fun c' => (b1, c')) := by
          unfold tkO
          rw [if_pos hk0, hL]
          show (if numN (opO o) = true then _ else _) = _
          rw [if_pos hnum, ev]
        have d2 : jx (d + 2) 51 0 [some (.ref q1), some (.int (nI k)), some (.int 2)] [] υ1 = some (some (.int (keepF W o 2)), υ1) := gD F1 2 (by decide)
        have p2 : jx (d + 2) 51 0 [some (.ref qp), some (.int (nI i)), some (.int 2)] [] υ1 = some (some (.int (p 2)), υ1) := gP F1 2 (by decide)
        rw [ev] at p2
        obtain ⟨υ2, e2, F2, g2⟩ := c101 (d := d) (W := W) (o := o) (t := keepF W o 2) (hB.frame F1) hr1.2 ic v8 (by
          rcases keep2 hW hnm ho h4 hnum with ⟨u, h1, h2, h3⟩ | q
          · exact Or.inl ⟨u, by omega, h2, h3⟩
          · exact Or.inr q)
        have F2' : FR [br, bn] υ1 υ2 := F2.mono (fun a ha => by simp at ha; simp [ha])
        refine ⟨υ2, ?_, F1.trans F2', fun x' hx' => ?_⟩
        · rw [to30, e1, k99_77, cn, if_pos hnum]
          simp only [Option.bind_some, Option.toList_some, List.cons_append, List.nil_append]
          rw [k99_82, if_neg (by decide), k99_85 (tD F1), d2]
          simp only [Option.bind_some, Option.toList_some, List.cons_append, List.nil_append]
          rw [k99_92 (tP F1), p2]
          simp only [Option.bind_some, Option.toList_some, List.cons_append, List.nil_append]
          rw [k99_99 (hB.frame F1).1, e2]
          simp only [Option.bind_some, Option.toList_some, List.cons_append, List.nil_append]
          rw [tn, Option.isSome_map]
          rw [k99_102 (by cases (tkN W (opO o) x.2 (o 2) (nI v)).isSome <;> decide)]
        · rw [tn] at hx'
          obtain ⟨c', h1, h2⟩ := Option.map_eq_some_iff.mp hx'
          subst h2
          obtain ⟨g3, g4⟩ := g2 c' h1
          exact ⟨⟨fun k hk => by rw [(F2.2 br (by simp; exact rm)).2]; exact hr1.1 k hk, g3⟩, ib1, g4⟩
      · have tn : tkO W x o p = some (b1, x.2) := by
          unfold tkO
          rw [if_pos hk0, hL]
          show (if numN (opO o) = true then _ else _) = _
          rw [if_neg hnum]
        refine ⟨υ1, ?_, F1, fun x' hx' => ?_⟩
        · rw [to30, e1, k99_77, cn, if_neg hnum]
          simp only [Option.bind_some, Option.toList_some, List.cons_append, List.nil_append]
          rw [k99_82, if_pos rfl, k99_104 (by decide), tn]
          rfl
        · rw [tn, Option.some_inj] at hx'
          subst hx'
          exact ⟨hr1, ib1, ic⟩
  · have tn : tkO W x o p = none := by unfold tkO; rw [if_neg hk0]
    refine ⟨σ, ?_, FR.refl _ σ, fun x' hx' => by rw [tn] at hx'; cases hx'⟩
    rw [to15, k99_15, if_pos (fun z => hk0 (by rw [z, ok2])), k99_24, tn]
    exact no (j := 1) (FR.refl _ σ)
end WI2
