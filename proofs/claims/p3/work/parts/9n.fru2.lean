/-! a rule's place: freshRule -/
section FR2
variable {d : Nat} {σ : jS} {s : AS} {cr cp : Nat} {qr qp : Nat → Nat}
theorem c18 (hS : SH σ) (hx : 81 ≤ jnx σ) (hC : CX s cr cp qr qp σ) (hn : s.rs.length < 24) : ∃ σ' cr' qr', jx (d + 3) 18 0 [some (.ref 16), none] [] σ = some (some (.ref (qr' s.rs.length)), σ') ∧ CX s cr' cp qr' qp σ' ∧ s.rs.length < cr' ∧ RW σ' (qr' s.rs.length + 1) (qr' s.rs.length + 2) 4 0 ∧ RW σ' (qr' s.rs.length + 3) (qr' s.rs.length + 4) 4 0 ∧ (jI σ' 328 (qr' s.rs.length) = 0 ∧ jI σ' 329 (qr' s.rs.length) = 0 ∧ jI σ' 332 (qr' s.rs.length) = 1) ∧ SH σ' ∧ sameM σ σ' ∧ low σ σ' ∧ jnx σ ≤ jnx σ' ∧ jnx σ' ≤ jnx σ + 7 ∧ jsl σ' ≤ jsl σ + 89 := by
  have rg : ∀ {υ : jS}, SH υ → (jR υ 583 16).getD 0 = 45 := fun h => by rw [sR_583_16 h]; rfl
  have rn : ∀ {υ : jS}, SH υ → jR υ 583 16 ≠ none := fun h => by rw [sR_583_16 h]; exact fun z => nomatch z
  have g24 : ¬ Int32.ofNat 24 ≤ nI s.rs.length := nI_ge (by omega) (by omega)
  have gn : jin 24 (nI s.rs.length) := jin_n hn (by decide)
  have qn : (nI s.rs.length).toNatClampNeg = s.rs.length := nI_clamp (by omega)
  have start : jx (d + 3) 18 0 [some (.ref 16), none] [] σ = jx (d + 3) 18 21 [some (.ref 16), none] [va_rf (jG σ 45 s.rs.length)] σ := by
    rw [k18_0 (sT_16 hS) (rn hS) (by rw [rg hS, sT_45 hS]; decide), rg hS, sN_45 hS, hC.nr, if_neg g24, k18_12 (sT_16 hS) (rn hS) (by rw [rg hS, sT_45 hS]; decide) (by rw [rg hS, sN_45 hS, hC.nr]; exact gn), rg hS, hC.nr, qn]
  -- what is left: the place is there, now it is cleared
  have fin : ∀ (τ : jS) (cr' : Nat) (qr' : Nat → Nat), jx (d + 3) 18 0 [some (.ref 16), none] [] σ = (jx (d + 2) 20 0 [some (.ref (qr' s.rs.length))] [] τ).bind (fun z => jx (d + 3) 18 64 [some (.ref 16), some (.ref (qr' s.rs.length))] (z.1.toList ++ []) z.2) → CX s cr' cp qr' qp τ → s.rs.length < cr' → SH τ → sameM σ τ → low σ τ → jnx σ ≤ jnx τ → jnx τ ≤ jnx σ + 7 → jsl τ ≤ jsl σ + 89 → ∃ σ' cr' qr', jx (d + 3) 18 0 [some (.ref 16), none] [] σ = some (some (.ref (qr' s.rs.length)), σ') ∧ CX s cr' cp qr' qp σ' ∧ s.rs.length < cr' ∧ RW σ' (qr' s.rs.length + 1) (qr' s.rs.length + 2) 4 0 ∧ RW σ' (qr' s.rs.length + 3) (qr' s.rs.length + 4) 4 0 ∧ (jI σ' 328 (qr' s.rs.length) = 0 ∧ jI σ' 329 (qr' s.rs.length) = 0 ∧ jI σ' 332 (qr' s.rs.length) = 1) ∧ SH σ' ∧ sameM σ σ' ∧ low σ σ' ∧ jnx σ ≤ jnx σ' ∧ jnx σ' ≤ jnx σ + 7 ∧ jsl σ' ≤ jsl σ + 89 := by
    intro τ cr' qr' e hCτ hc hSτ sm lo n1 n2 l1
    have bq := hCτ.dj.r s.rs.length hc
    obtain ⟨hU, r1, r3⟩ := (hCτ.gr s.rs.length hc).2
    obtain ⟨σ', e', F, w1, w3, ff, a1, a3⟩ := c20 (d := d + 2) hU r1 r3 bq.1
    obtain ⟨m1, x1⟩ := hCτ.w1
    obtain ⟨m2, x2⟩ := hCτ.w2
    refine ⟨σ', cr', qr', ?_, hCτ.freeR hc F (fun x hx => by simp at hx; omega) a1 a3 ⟨m1, x1.frame F (by simp; omega)⟩ ⟨m2, x2.frame F (by simp; omega)⟩, hc, w1, w3, ff, F.sh hSτ, sm.trans (F.sm (fun a h1 h2 => by simp; omega)), lo.trans (F.low (fun a ha => by simp at ha; omega)), by rw [F.1.2.2.2.2.1]; exact n1, by rw [F.1.2.2.2.2.1]; exact n2, by rw [F.1.2.2.2.2.2]; exact l1⟩
    rw [e, e']
    simp only [Option.bind_some, Option.toList_none, List.nil_append]
    rw [k18_64R]
  by_cases hc : s.rs.length < cr
  · obtain ⟨g1, w⟩ := hC.gr s.rs.length hc
    refine fin σ cr qr ?_ hC hc hS ⟨fun _ => rfl, fun _ _ _ _ => rfl⟩ (low.refl σ) (Nat.le_refl _) (by omega) (by omega)
    have tq : jT σ (qr s.rs.length) = 6 := w.1.1
    have sg : jsG σ 45 s.rs.length (some (qr s.rs.length)) = σ := jsG_self σ 45 s.rs.length g1
    rw [start, g1]
    show jx (d + 3) 18 21 [some (.ref 16), none] [.ref (qr s.rs.length)] σ = _
    rw [k18_21R (sT_16 hS) (rn hS) (by rw [rg hS, sT_45 hS]; decide), rg hS, sN_45 hS, hC.nr, if_neg g24, k18_50R (sT_16 hS) (rn hS) (by rw [rg hS, sT_45 hS, tq]) (by rw [rg hS, sT_45 hS]; decide) (by rw [rg hS, sN_45 hS, hC.nr]; exact gn) tq, rg hS, hC.nr, qn, sg]
  · have ec : s.rs.length = cr := by have := hC.lr.1; omega
    have g0 := hC.gr0 s.rs.length (by omega) hn
    obtain ⟨q, eq⟩ : ∃ q, jnx σ = q := ⟨_, rfl⟩
    obtain ⟨τ, eτ⟩ : ∃ τ, jnO σ 5 13 = τ := ⟨_, rfl⟩
    have tτ : jT τ q = 6 := by rw [← eτ, zO_T, if_pos eq.symm]
    have nτ : jnx τ = q + 1 := by rw [← eτ, zO_nx, eq]
    have exτ : ∀ a, a < q → jsm σ τ a := fun a ha => eτ ▸ jsm_O (by omega)
    obtain ⟨υ, e9, n9, s9, j9, u9, w91, w93⟩ := c19 (d := d) (σ := τ) (q := q) tτ nτ.symm (by omega)
    have ex : exC σ υ := ⟨by omega, fun a ha => (exτ a (by omega)).trans (j9 a (by omega))⟩
    have hSυ := ex.sh hx hS
    have hC1 := CX.sc hx hC ex.sc
    have nsl : jsl υ = jsl σ + 89 := by rw [s9, ← eτ, zO_sl]
    let qr' : Nat → Nat := fun i => if i = s.rs.length then q else qr i
    have qo : ∀ i, i < cr → qr' i = qr i := fun i hi => if_neg (by omega)
    have qq : qr' s.rs.length = q := if_pos rfl
    have dj := hC.dj
    obtain ⟨ω, eω⟩ : ∃ ω, jsG υ 45 s.rs.length (some q) = ω := ⟨_, rfl⟩
    have nxω : jnx ω = q + 7 := by rw [← eω, zG_nx, n9]
    have jω : ∀ a, a ≠ 45 → jsm υ ω a := fun a ha => eω ▸ jsm_G ha
    have slω : ∀ {z : Nat}, RU υ z (z + 1) (z + 2) (z + 3) (z + 4) (z + 5) (z + 6) → RU ω z (z + 1) (z + 2) (z + 3) (z + 4) (z + 5) (z + 6) := fun {z} h => by rw [← eω]; exact h
    have hC2 : CX s (cr + 1) cp qr' qp ω := by
      rw [← eω]
      refine ⟨hC1.st, hC1.nr, hC1.np, hC1.w, hC1.ap, hC1.tx, hC1.ns, hC1.tl, hC1.w1, hC1.w2, hC1.w3, ⟨by omega, by omega⟩, hC1.lp, fun i hi => ?_, fun i h1 h2 => by rw [zG_G, if_neg (fun z => by omega)]; exact hC1.gr0 i (by omega) h2, fun i hi => ⟨by rw [zG_G, if_neg (fun z => absurd z.1 (by decide))]; exact (hC1.gp i hi).1, (hC1.gp i hi).2⟩, fun i h1 h2 => by rw [zG_G, if_neg (fun z => absurd z.1 (by decide))]; exact hC1.gp0 i h1 h2, ⟨fun i hi => ?_, fun i hi => ?_, fun i j hi hj hij => ?_, dj.pp, fun i j hi hj => ?_⟩, fun i hi => ?_, hC1.ps⟩
      · by_cases e : i = s.rs.length
        · refine ⟨by rw [zG_G, if_pos ⟨rfl, e⟩]; show some q = some (if i = s.rs.length then q else qr i); rw [if_pos e], ?_⟩
          show SLr _ (if i = s.rs.length then q else qr i)
          rw [if_pos e]
          exact ⟨u9, w91.rs, w93.rs⟩
        · have hi' : i < cr := by omega
          refine ⟨by rw [zG_G, if_neg (fun z => e z.2), qo i hi']; exact (hC1.gr i hi').1, ?_⟩
          rw [qo i hi']
          exact (hC1.gr i hi').2
      · rw [zG_nx, n9]
        by_cases e : i = s.rs.length
        · show 81 ≤ (if i = s.rs.length then q else qr i) ∧ (if i = s.rs.length then q else qr i) + 7 ≤ _
          rw [if_pos e]; omega
        · have := dj.r i (by omega)
          rw [qo i (by omega)]; omega
      · have := dj.p i hi
        rw [zG_nx, n9]
        exact ⟨this.1, by omega⟩
      · by_cases e : i = s.rs.length
        · have hj' : j < cr := by omega
          have := dj.r j hj'
          rw [qo j hj']
          show (if i = s.rs.length then q else qr i) + 7 ≤ _ ∨ _ ≤ (if i = s.rs.length then q else qr i)
          rw [if_pos e]; right; omega
        · have hi' : i < cr := by omega
          have := dj.r i hi'
          rw [qo i hi']
          by_cases f : j = s.rs.length
          · show _ ≤ (if j = s.rs.length then q else qr j) ∨ (if j = s.rs.length then q else qr j) + 7 ≤ _
            rw [if_pos f]; left; omega
          · rw [qo j (by omega)]; exact dj.rr i j hi' (by omega) hij
      · have := dj.p j hj
        by_cases f : i = s.rs.length
        · show (if i = s.rs.length then q else qr i) + 7 ≤ _ ∨ _ ≤ (if i = s.rs.length then q else qr i)
          rw [if_pos f]; right; omega
        · rw [qo i (by omega)]; exact dj.rp i j (by omega) hj
      · rw [qo i (by omega)]; exact hC1.rs i hi
    refine fin ω (cr + 1) qr' ?_ hC2 (by omega) (by rw [← eω, SH_G]; exact hSυ) ?_ ?_ (by omega) (by omega) (by rw [← eω, zG_sl, nsl]; omega)
    · rw [start, g0, qq]
      show jx (d + 3) 18 21 [some (.ref 16), none] [.null] σ = _
      have nrυ : jI υ 585 16 = nI s.rs.length := hC1.nr
      have tqυ : jT υ q = 6 := u9.1
      rw [k18_21N (by rw [zO_T, if_pos rfl]), eτ, eq, e9]
      simp only [Option.bind_some, Option.toList_none, List.nil_append]
      rw [k18_37 (sT_16 hSυ) (rn hSυ) (by rw [rg hSυ, sT_45 hSυ]; decide), rg hSυ, sN_45 hSυ, nrυ, if_neg g24, k18_50R (sT_16 hSυ) (rn hSυ) (by rw [rg hSυ, sT_45 hSυ, tqυ]) (by rw [rg hSυ, sT_45 hSυ]; decide) (by rw [rg hSυ, sN_45 hSυ, nrυ]; exact gn) tqυ, rg hSυ, nrυ, qn, eω]
    · have := ex.sm hx
      rw [← eω]
      exact ⟨fun g => by rw [zG_I]; exact this.1 g, fun a i h1 h2 => by rw [zG_A]; exact this.2 a i h1 h2⟩
    · have := ex.low hx
      rw [← eω]
      exact fun a ha => ⟨by rw [zG_T]; exact (this a ha).1, by rw [zG_N]; exact (this a ha).2.1, fun i => by rw [zG_A]; exact (this a ha).2.2 i⟩
end FR2
/-! the greatest numbers of an assignment, class and reference -/
theorem stepT_keep {W nr nm : Nat} (hW : W = 1 ∨ W = 2 ∨ W = 3) (hnm : nm ≤ 3) {o : Nat → Int32} (h : WFo nr nm o) (h4 : o 4 = 0) (a : Nat → Int32) {j : Nat} (hj : j < 3) : stepT W a (keepF W o) j = stepT W a o j := by
  obtain ⟨k0, k1, _⟩ := keep_op W o
  unfold stepT
  rw [k0]
  by_cases hn : numN (opO o) = true
  · have hn' : numN (o 0).toNatClampNeg = true := hn
    rcases keep2 hW hnm h h4 hn with ⟨i, hi, e1, e2⟩ | ⟨u, hu, e1, e2, _⟩
    · rw [e2, e1]
    · have n1 : ¬ (keepF W o) 2 = 16 + nI j := by rw [e2]; exact n16 u (by omega) j hj
      have n2 : ¬ o 2 = 16 + nI j := fun z => e1 (by rw [z]; exact (i16n hj).1)
      rw [if_neg (fun z => n1 z.2), if_neg (fun z => n2 z.2)]
  · have hn' : ¬ numN (o 0).toNatClampNeg = true := hn
    rw [if_neg (fun z => hn' z.1), if_neg (fun z => hn' z.1)]
theorem foldT_keep {W nr nm : Nat} (hW : W = 1 ∨ W = 2 ∨ W = 3) (hnm : nm ≤ 3) : ∀ (os : List (Nat → Int32)) (a b : Nat → Int32), (∀ o, o ∈ os → WFo nr nm o) → (∀ o, o ∈ os → o 4 = 0) → (∀ j, j < 3 → a j = b j) → ∀ j, j < 3 → ((os.map (keepF W)).foldl (stepT W) a) j = (os.foldl (stepT W) b) j := by
  intro os
  induction os with
  | nil => intro a b _ _ e; exact e
  | cons o os ih =>
    intro a b h h4 e
    refine ih (stepT W a (keepF W o)) (stepT W b o) (fun p hp => h p (List.mem_cons_of_mem _ hp)) (fun p hp => h4 p (List.mem_cons_of_mem _ hp)) (fun j hj => ?_)
    rw [stepT_keep hW hnm (h o List.mem_cons_self) (h4 o List.mem_cons_self) a hj]
    unfold stepT
    rw [e j hj]
theorem bd7 {W k : Nat} (hW : W = 1 ∨ W = 2 ∨ W = 3) (hn : numN k = true) : ∃ v, v ≤ 7 ∧ bdM W k = nI v := by
  have H : ∀ W, W ∈ [1, 2, 3] → ∀ k, k ∈ [0, 12, 13, 15, 16] → (bdM W k).toNatClampNeg ≤ 7 ∧ bdM W k = nI (bdM W k).toNatClampNeg := by decide
  exact ⟨_, H W (by simpa using hW) k (by simpa [numN, or_assoc] using hn)⟩
theorem foldT_bd {W : Nat} (hW : W = 1 ∨ W = 2 ∨ W = 3) {j : Nat} : ∀ (os : List (Nat → Int32)) (a : Nat → Int32), (∃ v, v ≤ 12 ∧ a j = nI v ∧ ((∃ o, o ∈ os ∧ numN (opO o) = true ∧ o 2 = 16 + nI j) ∨ v ≤ 7)) → ∃ v, v ≤ 7 ∧ (os.foldl (stepT W) a) j = nI v := by
  intro os
  induction os with
  | nil =>
    rintro a ⟨v, h1, h2, h3⟩
    rcases h3 with ⟨o, ho, _⟩ | h3
    · exact absurd ho (List.not_mem_nil)
    · exact ⟨v, h3, h2⟩
  | cons o os ih =>
    rintro a ⟨v, h1, h2, h3⟩
    refine ih (stepT W a o) ?_
    by_cases c : numN (o 0).toNatClampNeg = true ∧ o 2 = 16 + nI j
    · obtain ⟨b, b1, b2⟩ := bd7 hW c.1
      have e : stepT W a o j = if bdM W (o 0).toNatClampNeg < a j then bdM W (o 0).toNatClampNeg else a j := by unfold stepT; rw [if_pos c]
      by_cases lt : bdM W (o 0).toNatClampNeg < a j
      · exact ⟨b, by omega, by rw [e, if_pos lt, b2], Or.inr b1⟩
      · have : v ≤ 7 := by
          rw [b2, h2, n31 (by omega) (by omega)] at lt
          omega
        exact ⟨v, by omega, by rw [e, if_neg lt, h2], Or.inr this⟩
    · have e : stepT W a o j = a j := by unfold stepT; rw [if_neg c]
      refine ⟨v, h1, by rw [e, h2], ?_⟩
      rcases h3 with ⟨p, hp, q⟩ | h3
      · rcases List.mem_cons.mp hp with z | z
        · rw [z] at q; exact absurd q c
        · exact Or.inl ⟨p, z, q⟩
      · exact Or.inr h3
theorem topI_n {W : Nat} (hW : W = 1 ∨ W = 2 ∨ W = 3) (j : Nat) : ∃ v, v ≤ 12 ∧ topI W j = nI v := by
  refine ⟨4 + 2 ^ W, ?_, ?_⟩
  · rcases hW with h | h | h <;> subst h <;> decide
  · unfold topI
    rcases hW with h | h | h <;> subst h <;> decide
theorem mkW_n {W : Nat} (hW : W = 1 ∨ W = 2 ∨ W = 3) : mkW W = nI (2 ^ W - 1) := by
  rcases hW with h | h | h <;> subst h <;> decide
/-- the numbers of an assignment begin at 0 and have small tops -/
theorem tops_vb {W nr nm : Nat} (hW : W = 1 ∨ W = 2 ∨ W = 3) (hnm : nm ≤ 3) {hc : Bool} {os : List (Nat → Int32)} (hO : ∀ i, i < nm → ∃ o, o ∈ os ∧ numN (opO o) = true ∧ o 2 = 16 + nI i) : VB W (wdN nr hc) (wdN nr hc + nm) (tpF W nr hc os) (fun _ => 0) := by
  intro k hk
  have p8' := p8 hW
  have p2 : 2 ≤ 2 ^ W := by rcases hW with h | h | h <;> subst h <;> decide
  unfold tpF
  by_cases h : k < wdN nr hc
  · rw [if_pos h]
    exact ⟨0, 2 ^ W - 1, Nat.zero_le _, by omega, rfl, mkW_n hW, fun _ => by omega⟩
  · rw [if_neg h]
    obtain ⟨v, v1, v2⟩ := topI_n hW (k - wdN nr hc)
    obtain ⟨w, w1, w2⟩ := foldT_bd hW (j := k - wdN nr hc) os (topI W) ⟨v, v1, v2, Or.inl (hO _ (by omega))⟩
    exact ⟨0, w, Nat.zero_le _, w1, rfl, w2, fun z => absurd z h⟩
theorem any_keep {W : Nat} (os : List (Nat → Int32)) : (os.map (keepF W)).any celO = os.any celO := by
  rw [List.any_map]
  congr 1
  funext o
  show celO (keepF W o) = celO o
  unfold celO
  rw [(keep_op W o).1]
theorem prc_keep {W : Nat} (os : List (Nat → Int32)) : prcL (os.map (keepF W)) 0 = prcL os 0 := by
  rw [show (0 : Int32) = nI 0 from rfl, prcL_n, prcL_n]
  congr 2
  apply priS_map
  rw [List.map_map]
  apply List.map_congr_left
  intro o _
  exact (keep_op W o).2.1
