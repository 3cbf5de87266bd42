section S_50
/-! the reference's reader: a side -/
def RG (r k1 k2 a i : Nat) : Prop := ((a = 56 ∨ a = 57 ∨ a = 59) ∧ i = r) ∨ (a = 58 ∧ 3 * r ≤ i ∧ i < 3 * r + 3) ∨ a = 71 ∨ a = 72 ∨ ((a = 51 ∨ a = 55) ∧ k1 ≤ i ∧ i < k2) ∨ (a = 52 ∧ 3 * k1 ≤ i ∧ i < 3 * k2) ∨ ((a = 53 ∨ a = 54) ∧ 2 * k1 ≤ i ∧ i < 2 * k2)
theorem RG.wide {r k1 k2 j1 j2 a i : Nat} (h1 : j1 ≤ k1) (h2 : k2 ≤ j2) (h : RG r k1 k2 a i) : RG r j1 j2 a i := by
  unfold RG at h ⊢
  omega
/-- the reference's rows hold this order at k -/
def MO (σ : jS) (k : Nat) (o : Nat → Int32) : Prop := jA σ 51 k = o 0 ∧ (∀ j, j < regN (o 0).toNatClampNeg → jA σ 52 (3 * k + j) = o (j + 1)) ∧ (numN (o 0).toNatClampNeg = true → MT σ (2 * k) (o 2)) ∧ jA σ 55 k = o 4 ∧ (¬ o 4 = 0 → MT σ (2 * k + 1) (o 5))
theorem regN3 (k : Nat) : regN k ≤ 3 := by
  by_cases hk : k < 19
  · rcases k19 hk with h | h | h | h | h | h | h | h | h | h | h | h | h | h | h | h | h | h | h <;> (subst h; decide)
  · unfold regN
    rw [List.getD_eq_getElem?_getD, List.getElem?_eq_none (by simp; omega)]
    decide
theorem numN1 {k : Nat} (h : numN k = true) : regN k = 1 := by
  by_cases hk : k < 19
  · rcases k19 hk with q | q | q | q | q | q | q | q | q | q | q | q | q | q | q | q | q | q | q <;> subst q <;> revert h <;> decide
  · unfold numN at h
    simp at h
    omega
theorem MO.frame {σ σ' : jS} {r k k1 k2 : Nat} {o : Nat → Int32} (h : MO σ k o) (f : PF (RG r k1 k2) σ σ') (hx : 81 ≤ jnx σ) (hk : k < k1) : MO σ' k o := by
  obtain ⟨h1, h2, h3, h4, h5⟩ := h
  have e53 : ∀ i, i < 2 * k1 → jA σ' 53 i = jA σ 53 i := fun i hi => f.ar hx (by decide) i (fun z => by unfold RG at z; omega)
  have e54 : ∀ i, i < 2 * k1 → jA σ' 54 i = jA σ 54 i := fun i hi => f.ar hx (by decide) i (fun z => by unfold RG at z; omega)
  refine ⟨?_, fun j hj => ?_, fun hn => (h3 hn).frame (e53 _ (by omega)) (e54 _ (by omega)), ?_, fun hn => (h5 hn).frame (e53 _ (by omega)) (e54 _ (by omega))⟩
  · rw [f.ar hx (by decide) k (fun z => by unfold RG at z; omega)]; exact h1
  · have := regN3 (o 0).toNatClampNeg
    rw [f.ar hx (by decide) (3 * k + j) (fun z => by unfold RG at z; omega)]; exact h2 j hj
  · rw [f.ar hx (by decide) k (fun z => by unfold RG at z; omega)]; exact h4
theorem mNumR_keep {len : Nat} {b : Nat → Int32} {W sd op : Nat} {s : jPS} {rg : Nat → Int32} {y : jPS × (Nat → Int32)} (h : mNumR len b W sd op s rg = some y) : y.1.2.1 = s.2.1 ∧ (∀ t, (t = 0 ∨ t = 1 ∨ t = 3 ∨ ¬ numN op = true) → y.1.2.2.2 t = s.2.2.2 t) := by
  unfold mNumR at h
  split at h
  · rename_i hn
    obtain ⟨p1, h1, h2⟩ := Option.bind_eq_some_iff.mp h
    obtain ⟨z, h3, h4⟩ := Option.bind_eq_some_iff.mp h2
    have q : ∀ t, (t = 0 ∨ t = 1 ∨ t = 3 ∨ ¬ numN op = true) → ¬ t = 2 ∧ ¬ t = 4 ∧ ¬ t = 5 := fun t ht => by
      rcases ht with ht | ht | ht | ht
      · omega
      · omega
      · omega
      · exact absurd hn ht
    split at h4
    · obtain ⟨x, h5, h6⟩ := Option.map_eq_some_iff.mp h4
      subst h6
      refine ⟨rfl, fun t ht => ?_⟩
      show (if t = 5 then _ else if t = 4 then _ else if t = 2 then _ else _) = _
      rw [if_neg (q t ht).2.2, if_neg (q t ht).2.1, if_neg (q t ht).1]
    · cases h4
      refine ⟨rfl, fun t ht => ?_⟩
      show (if t = 2 then _ else _) = _
      rw [if_neg (q t ht).1]
  · cases h; exact ⟨rfl, fun _ _ => rfl⟩
def mOrdS (len : Nat) (b : Nat → Int32) (W sd n : Nat) (s : jPS) (rg : Nat → Int32) : Option (jPS × (Nat → Int32)) :=
  (mName len b (nI n = 4) s.1).bind (fun z => (mRegsR len b (sd == 0) (regN z.1.toNatClampNeg) 0 (z.2, s.2.1, s.2.2.1, fun j => if j = 0 then z.1 else 0)).bind (fun s2 => mNumR len b W sd z.1.toNatClampNeg s2 rg))
section MS3
variable {d : Nat} {len W : Nat} {b : Nat → Int32}
theorem c131a {σ : jS} {s : jPS} {rg : Nat → Int32} (hx : 81 ≤ jnx σ) (hA : rdA σ W len b s.1) {r n : Nat} (hr : r < 24) (hB : rdB σ r s.2.1) (hC : rdC σ r s.2.2.1 rg) {sd : Nat} (hsd : sd = 0 ∨ sd = 1) (hn : n < 5) {x5 x6 x7 x8 : Option Value} :
    ∃ σ', PF (RG r (8 * r + 4 * sd + n) (8 * r + 4 * sd + n + 1)) σ σ' ∧ jnx σ' = jnx σ ∧ jsl σ' = jsl σ ∧ jA σ' 59 r = jA σ 59 r ∧ (match mOrdS len b W sd n s rg with
      | some y => (∃ op v7 v8, op < 19 ∧ y.1.2.2.2 0 = nI op ∧ n < 4 ∧ jx (d + 4) 131 24 [some (.ref 47), some (.int (nI r)), some (.int (nI sd)), some (.int (nI n)), some (.int 1), x5, x6, x7, x8] [] σ = jx (d + 4) 131 256 [some (.ref 47), some (.int (nI r)), some (.int (nI sd)), some (.int (nI n)), some (.int 1), some (.int (nI op)), some (.int (nI (8 * r + 4 * sd + n))), v7, v8] [] σ') ∧ rdA σ' W len b y.1.1 ∧ rdB σ' r y.1.2.1 ∧ rdC σ' r y.1.2.2.1 y.2 ∧ MO σ' (8 * r + 4 * sd + n) y.1.2.2.2
      | none => jx (d + 4) 131 24 [some (.ref 47), some (.int (nI r)), some (.int (nI sd)), some (.int (nI n)), some (.int 1), x5, x6, x7, x8] [] σ = some (some (.int (nI n)), σ') ∧ ¬ jI σ' 667 47 = 0) := by
  have hA0 := hA
  obtain ⟨hS, hN, hT, hp, hat, h0, hw⟩ := hA
  obtain ⟨k, ek⟩ : ∃ k, 8 * r + 4 * sd + n = k := ⟨_, rfl⟩
  have hk8 : (8 : Int32) * nI r + 4 * nI sd + nI n = nI k := by rw [show (8 : Int32) = nI 8 from rfl, show (4 : Int32) = nI 4 from rfl, nmul, nmul, nadd, nadd, ek]
  rw [ek]
  have fin : ∀ (υ : jS), SH υ → ¬ jI υ 667 47 = 0 → ∀ y5 y6 y7 y8 : Option Value, jx (d + 4) 131 256 [some (.ref 47), some (.int (nI r)), some (.int (nI sd)), some (.int (nI n)), some (.int 1), y5, y6, y7, y8] [] υ = some (some (.int (nI n)), υ) := by
    intro υ hSu hf y5 y6 y7 y8
    rw [k131_256 (sT_47 hSu), if_pos hf, k131_314, k131_24, if_neg (by decide), k131_29 (sT_47 hSu), if_pos hf, k131_317]
  have stop : ∀ (υ : jS), SH υ → ¬ jI υ 667 47 = 0 → ∀ y5 y6 y7 y8 : Option Value, jx (d + 4) 131 129 [some (.ref 47), some (.int (nI r)), some (.int (nI sd)), some (.int (nI n)), some (.int 1), y5, y6, y7, y8] [] υ = some (some (.int (nI n)), υ) := by
    intro υ hSu hf y5 y6 y7 y8
    rw [k131_129 (sT_47 hSu), if_pos hf, k131_153 (sT_47 hSu), if_pos hf]
    exact fin υ hSu hf _ _ _ _
  obtain ⟨w, σ1, e1, f1, r1⟩ := c132 (d := d + 1) hS hN hT hp hat h0 (nI n) 4
  have hS1 := f1.1.sh hS
  have F1 : PF (RG r k (k + 1)) σ σ1 := (PF.refl _ σ).mf f1
  have nx1 : jnx σ1 = jnx σ := f1.1.1.2.2.2.2.1
  have sl1 : jsl σ1 = jsl σ := f1.1.1.2.2.2.2.2
  have start : jx (d + 4) 131 24 [some (.ref 47), some (.int (nI r)), some (.int (nI sd)), some (.int (nI n)), some (.int 1), x5, x6, x7, x8] [] σ = if ¬ jI σ1 667 47 = 0 then jx (d + 4) 131 71 [some (.ref 47), some (.int (nI r)), some (.int (nI sd)), some (.int (nI n)), some (.int 1), some (.int w), some (.int (nI k)), x7, x8] [] σ1 else jx (d + 4) 131 63 [some (.ref 47), some (.int (nI r)), some (.int (nI sd)), some (.int (nI n)), some (.int 1), some (.int w), some (.int (nI k)), x7, x8] [] σ1 := by
    rw [k131_24, if_neg (by decide), k131_29 (sT_47 hS), if_neg (fun z => z h0), k131_36 (sT_47 hS), e1]
    simp only [Option.bind_some, Option.toList_some, List.cons_append, List.nil_append]
    rw [k131_42 (sT_47 hS1), hk8]
  unfold mOrdS
  cases hM : mName len b (nI n = 4) s.1 with
  | none =>
    rw [hM] at r1
    have r1 : ¬ jI σ1 667 47 = 0 := r1
    refine ⟨σ1, F1, nx1, sl1, (f1.1.2 59 (by decide)).2 r, ?_, r1⟩
    rw [start, if_pos r1, k131_71, k131_77, if_pos (by decide)]
    exact stop σ1 hS1 r1 _ _ _ _
  | some z =>
    rw [hM] at r1
    obtain ⟨w1, a1, z1⟩ := r1
    obtain ⟨⟨op, ho, zk⟩, -, -, h4⟩ := mName_ok hM
    have hn4 : n < 4 := by
      have : n ≠ 4 := fun e => h4 (by rw [e]; rfl)
      omega
    have hk : k < 192 := by omega
    have hp1 := mName_le hp hM
    have wk : w = nI op := w1.trans zk
    have kc : z.1.toNatClampNeg = op := by rw [zk]; exact nI_clamp (by omega)
    have hr3 := regN3 op
    have hA1 : rdA σ1 W len b z.2 := hA0.frame f1.1 f1.2 (by decide) (by decide) hp1 a1 z1
    have hB1 : rdB σ1 r s.2.1 := hB.frame f1.1 (by decide) (by decide)
    have hC1 : rdC σ1 r s.2.2.1 rg := hC.frame f1.1 (by decide) (by decide) (by decide)
    obtain ⟨σ2, v8, e2, f2, g2, q56, q52, r2⟩ := c131r (d := d) (len := len) (W := W) (b := b) hr hk hr3 hsd (x3 := some (.int (nI n))) (x4 := some (.int 1)) (x5 := some (.int (nI op))) (regN op) 0 (z.2, s.2.1, s.2.2.1, fun j => if j = 0 then z.1 else 0) σ1 (by omega) hA1 hB1
    have hS2 := f2.sh hS1
    have F2 : PF (RG r k (k + 1)) σ σ2 := F1.F f2 g2 (fun a ha => by
      simp at ha
      rcases ha with ha | ha | ha | ha
      · exact Or.inl ha
      · exact Or.inr (Or.inr ⟨by omega, fun i hi => absurd (Or.inr (Or.inr (Or.inl ha))) hi⟩)
      · refine Or.inr (Or.inr ⟨by omega, fun i hi => ?_⟩)
        subst ha
        exact q56 i (fun e => hi (Or.inl ⟨Or.inl rfl, e⟩))
      · refine Or.inr (Or.inr ⟨by omega, fun i hi => ?_⟩)
        subst ha
        exact q52 i (fun e => hi (by unfold RG; omega)))
    have nx2 : jnx σ2 = jnx σ := by rw [f2.1.2.2.2.2.1]; exact nx1
    have sl2 : jsl σ2 = jsl σ := by rw [f2.1.2.2.2.2.2]; exact sl1
    have h59 : jA σ2 59 r = jA σ 59 r := by rw [(f2.2 59 (by decide)).2, (f1.1.2 59 (by decide)).2]
    have to129 : jx (d + 4) 131 24 [some (.ref 47), some (.int (nI r)), some (.int (nI sd)), some (.int (nI n)), some (.int 1), x5, x6, x7, x8] [] σ = jx (d + 4) 131 129 [some (.ref 47), some (.int (nI r)), some (.int (nI sd)), some (.int (nI n)), some (.int 1), some (.int (nI op)), some (.int (nI k)), some (.int (nI (regN op))), v8] [] σ2 := by
      rw [start, if_neg (fun y => y z1), wk, k131_63, c137 ho]
      simp only [Option.bind_some, Option.toList_some, List.cons_append, List.nil_append]
      rw [k131_68]
      exact e2
    rw [Option.bind_some, kc]
    cases hR : mRegsR len b (sd == 0) (regN op) 0 (z.2, s.2.1, s.2.2.1, fun j => if j = 0 then z.1 else 0) with
    | none =>
      rw [hR] at r2
      have r2 : ¬ jI σ2 667 47 = 0 := r2
      refine ⟨σ2, F2, nx2, sl2, h59, ?_, r2⟩
      rw [to129]
      exact stop σ2 hS2 r2 _ _ _ _
    | some s2 =>
      rw [hR] at r2
      obtain ⟨hA2, hB2, hR2⟩ := r2
      obtain ⟨km, kf⟩ := mRegsR_keep _ _ _ _ hR
      have km' : s2.2.2.1 = s.2.2.1 := km
      have kf0 : s2.2.2.2 0 = z.1 := kf 0 (Or.inl (Nat.le_refl 0))
      have kf4 : s2.2.2.2 4 = 0 := kf 4 (Or.inr (by omega))
      have hC2 : rdC σ2 r s2.2.2.1 rg := by rw [km']; exact hC1.frame f2 (by decide) (by decide) (by decide)
      obtain ⟨σ3, e3, f3, g3, q57, q58, q534, q515, r3⟩ := c131n (d := d) hA2 hr hk ho hC2 hsd kf4 (x3 := some (.int (nI n))) (x4 := some (.int 1)) (x7 := some (.int (nI (regN op)))) (x8 := v8)
      have hS3 := f3.sh hS2
      have F3 : PF (RG r k (k + 1)) σ σ3 := F2.F f3 g3 (fun a ha => by
        simp at ha
        rcases ha with ha | ha | ha | ha | ha | ha | ha | ha
        · exact Or.inl ha
        · exact Or.inr (Or.inr ⟨by omega, fun i hi => absurd (Or.inr (Or.inr (Or.inr (Or.inl ha)))) hi⟩)
        · refine Or.inr (Or.inr ⟨by omega, fun i hi => ?_⟩)
          subst ha
          exact q57 i (fun e => hi (Or.inl ⟨Or.inr (Or.inl rfl), e⟩))
        · refine Or.inr (Or.inr ⟨by omega, fun i hi => ?_⟩)
          subst ha
          exact q58 i (fun e => hi (Or.inr (Or.inl ⟨rfl, e⟩)))
        · refine Or.inr (Or.inr ⟨by omega, fun i hi => ?_⟩)
          subst ha
          exact (q534 i (fun e => hi (by unfold RG; omega))).1
        · refine Or.inr (Or.inr ⟨by omega, fun i hi => ?_⟩)
          subst ha
          exact (q534 i (fun e => hi (by unfold RG; omega))).2
        · refine Or.inr (Or.inr ⟨by omega, fun i hi => ?_⟩)
          subst ha
          exact (q515 i (fun e => hi (by unfold RG; omega))).1
        · refine Or.inr (Or.inr ⟨by omega, fun i hi => ?_⟩)
          subst ha
          exact (q515 i (fun e => hi (by unfold RG; omega))).2)
      refine ⟨σ3, F3, by rw [f3.1.2.2.2.2.1]; exact nx2, by rw [f3.1.2.2.2.2.2]; exact sl2, by rw [(f3.2 59 (by decide)).2]; exact h59, ?_⟩
      rw [Option.bind_some]
      cases hO : mNumR len b W sd op s2 rg with
      | none =>
        rw [hO] at r3
        have r3 : ¬ jI σ3 667 47 = 0 := r3
        refine ⟨?_, r3⟩
        rw [to129, e3]
        exact fin σ3 hS3 r3 _ _ _ _
      | some y =>
        rw [hO] at r3
        obtain ⟨hA3, hC3, o51, oM, o55, oM2⟩ := r3
        obtain ⟨kr, kt⟩ := mNumR_keep hO
        have y0 : y.1.2.2.2 0 = nI op := by rw [kt 0 (Or.inl rfl), kf0, zk]
        have yc : (y.1.2.2.2 0).toNatClampNeg = op := by rw [y0]; exact nI_clamp (by omega)
        refine ⟨⟨op, _, _, ho, y0, hn4, to129.trans e3⟩, hA3, ?_, hC3, ?_⟩
        · rw [kr]; exact hB2.frame f3 (by decide) (by decide)
        · refine ⟨by rw [o51, y0], fun j hj => ?_, fun hn' => ?_, o55, oM2⟩
          · rw [yc] at hj
            rw [(f3.2 52 (by decide)).2, hR2 j (Nat.zero_le j) hj]
            by_cases hnn : numN op = true
            · have := numN1 hnn
              rw [kt (j + 1) (Or.inr (Or.inl (by omega)))]
            · rw [kt (j + 1) (Or.inr (Or.inr (Or.inr hnn)))]
          · rw [yc] at hn'
            exact oM hn'
theorem c131e {σ : jS} {p : Nat} (hA : rdA σ W len b p) {r op n k : Nat} (hr : r < 24) (ho : op < 19) {sd : Nat} {hc : Bool} (h59 : jA σ 59 r = if hc = true then 1 else 0) {x7 x8 : Option Value} :
    ∃ x4, jx (d + 4) 131 256 [some (.ref 47), some (.int (nI r)), some (.int (nI sd)), some (.int (nI n)), some (.int 1), some (.int (nI op)), some (.int (nI k)), x7, x8] [] σ = jx (d + 4) 131 24 [some (.ref 47), some (.int (nI r)), some (.int (nI sd)), some (.int (nI (n + 1))), some (.int x4), some (.int (nI op)), some (.int (nI k)), x7, x8] [] (jsI (jsA σ 59 r (if (hc || celN op) = true then 1 else 0)) 666 47 (nI (if tv len b (sk len b p) = 59 then sk len b (sk len b p + 1) else sk len b p))) ∧ x4 = if tv len b (sk len b p) = 59 then 1 else 0 := by
  have hA0 := hA
  obtain ⟨hS, hN, hT, hp, hat, h0, hw⟩ := hA
  have gr : jin 24 (nI r) := jin_n hr (by decide)
  have cr : (nI r).toNatClampNeg = r := nI_clamp (by omega)
  have a1 : ((1 : Int32) &&& 1) = 1 := rfl
  have a0 : ((0 : Int32) &&& 1) = 0 := rfl
  have main : jx (d + 4) 131 256 [some (.ref 47), some (.int (nI r)), some (.int (nI sd)), some (.int (nI n)), some (.int 1), some (.int (nI op)), some (.int (nI k)), x7, x8] [] σ = (jx (d + 3) 148 0 [some (.ref 47)] [] (jsA σ 59 r (if (hc || celN op) = true then 1 else 0))).bind (fun z => jx (d + 4) 131 304 [some (.ref 47), some (.int (nI r)), some (.int (nI sd)), some (.int (nI (n + 1))), some (.int 1), some (.int (nI op)), some (.int (nI k)), x7, x8] (z.1.toList ++ []) z.2) := by
    cases hc with
    | true =>
      have e : (if (true || celN op) = true then (1 : Int32) else 0) = 1 := rfl
      have h59' : jA σ 59 r = 1 := h59
      rw [e]
      simp (decide := true) only [k131_256, k131_263, k131_291N, sT_1, sT_2, sT_3, sT_16, sT_17, sT_18, sT_19, sT_20, sT_21, sT_22, sT_23, sT_24, sT_25, sT_26, sT_27, sT_28, sT_29, sT_30, sT_31, sT_32, sT_33, sT_34, sT_35, sT_36, sT_37, sT_38, sT_39, sT_40, sT_41, sT_42, sT_43, sT_44, sT_45, sT_46, sT_47, sT_48, sT_49, sT_50, sT_51, sT_52, sT_53, sT_54, sT_55, sT_56, sT_57, sT_58, sT_59, sT_60, sT_61, sT_62, sT_63, sT_64, sT_65, sT_66, sT_67, sT_68, sT_69, sT_70, sT_71, sT_72, sT_73, sT_74, sT_75, sT_76, sT_77, sT_78, sT_79, sT_80, sN_1, sN_2, sN_19, sN_21, sN_23, sN_24, sN_26, sN_29, sN_31, sN_33, sN_35, sN_36, sN_37, sN_39, sN_40, sN_42, sN_44, sN_45, sN_46, sN_48, sN_49, sN_50, sN_51, sN_52, sN_53, sN_54, sN_55, sN_56, sN_57, sN_58, sN_59, sN_60, sN_61, sN_62, sN_63, sN_64, sN_65, sN_66, sN_67, sN_68, sN_69, sN_70, sN_71, sN_72, sN_73, sN_74, sN_75, sN_76, sN_77, sN_78, sN_79, sN_80, sR_0_34, sR_0_38, sR_1_34, sR_1_38, sR_64_20, sR_64_22, sR_128_25, sR_128_28, sR_194_17, sR_195_17, sR_196_17, sR_197_17, sR_258_30, sR_258_32, sR_258_41, sR_384_43, sR_448_18, sR_512_27, sR_513_27, sR_514_27, sR_515_27, sR_516_27, sR_576_16, sR_577_16, sR_578_16, sR_579_16, sR_580_16, sR_581_16, sR_582_16, sR_583_16, sR_584_16, sR_641_47, sR_643_47, sR_645_47, sR_646_47, sR_647_47, sR_648_47, sR_649_47, sR_650_47, sR_651_47, sR_652_47, sR_653_47, sR_654_47, sR_655_47, sR_656_47, sR_657_47, sR_658_47, sR_659_47, sR_661_47, sR_662_47, sR_663_47, sR_664_47, sR_665_47, sR_669_47, sR_670_47, sR_671_47, sR_672_47, sR_673_47, sR_674_47, sR_676_47, sR_677_47, sR_679_47, sR_680_47, sR_681_47, SH_I, SH_A, SH_G, SH_C, hS, h0, gr, cr, a1, h59', nI_succ, Option.getD_some, ne_eq, reduceCtorEq, not_false_eq_true, not_true_eq_false, Option.bind_some, Option.toList_none, Option.toList_some, List.nil_append, List.cons_append, List.append_nil, ↓reduceIte, and_self, true_and, and_true, false_and, and_false, or_true, true_or, or_false, false_or, Nat.reduceEqDiff, Nat.reduceAdd, Int32.reduceMul, Int32.reduceAdd, Int32.reduceSub, Int32.reduceToNatClampNeg, Int32.reduceOfNat, Int32.reduceLT, Int32.reduceLE, va_rf]
    | false =>
      have h59' : jA σ 59 r = 0 := h59
      have i15 : nI op = 15 ↔ op = 15 := by rw [show (15 : Int32) = nI 15 from rfl, n31eq (by omega) (by omega)]
      have i16 : nI op = 16 ↔ op = 16 := by rw [show (16 : Int32) = nI 16 from rfl, n31eq (by omega) (by omega)]
      by_cases h15 : op = 15
      · subst h15
        have e : (if (false || celN 15) = true then (1 : Int32) else 0) = 1 := rfl
        have f15 : nI 15 = (15 : Int32) := rfl
        rw [e]
        simp (decide := true) only [k131_256, k131_263, k131_277, k131_291N, sT_1, sT_2, sT_3, sT_16, sT_17, sT_18, sT_19, sT_20, sT_21, sT_22, sT_23, sT_24, sT_25, sT_26, sT_27, sT_28, sT_29, sT_30, sT_31, sT_32, sT_33, sT_34, sT_35, sT_36, sT_37, sT_38, sT_39, sT_40, sT_41, sT_42, sT_43, sT_44, sT_45, sT_46, sT_47, sT_48, sT_49, sT_50, sT_51, sT_52, sT_53, sT_54, sT_55, sT_56, sT_57, sT_58, sT_59, sT_60, sT_61, sT_62, sT_63, sT_64, sT_65, sT_66, sT_67, sT_68, sT_69, sT_70, sT_71, sT_72, sT_73, sT_74, sT_75, sT_76, sT_77, sT_78, sT_79, sT_80, sN_1, sN_2, sN_19, sN_21, sN_23, sN_24, sN_26, sN_29, sN_31, sN_33, sN_35, sN_36, sN_37, sN_39, sN_40, sN_42, sN_44, sN_45, sN_46, sN_48, sN_49, sN_50, sN_51, sN_52, sN_53, sN_54, sN_55, sN_56, sN_57, sN_58, sN_59, sN_60, sN_61, sN_62, sN_63, sN_64, sN_65, sN_66, sN_67, sN_68, sN_69, sN_70, sN_71, sN_72, sN_73, sN_74, sN_75, sN_76, sN_77, sN_78, sN_79, sN_80, sR_0_34, sR_0_38, sR_1_34, sR_1_38, sR_64_20, sR_64_22, sR_128_25, sR_128_28, sR_194_17, sR_195_17, sR_196_17, sR_197_17, sR_258_30, sR_258_32, sR_258_41, sR_384_43, sR_448_18, sR_512_27, sR_513_27, sR_514_27, sR_515_27, sR_516_27, sR_576_16, sR_577_16, sR_578_16, sR_579_16, sR_580_16, sR_581_16, sR_582_16, sR_583_16, sR_584_16, sR_641_47, sR_643_47, sR_645_47, sR_646_47, sR_647_47, sR_648_47, sR_649_47, sR_650_47, sR_651_47, sR_652_47, sR_653_47, sR_654_47, sR_655_47, sR_656_47, sR_657_47, sR_658_47, sR_659_47, sR_661_47, sR_662_47, sR_663_47, sR_664_47, sR_665_47, sR_669_47, sR_670_47, sR_671_47, sR_672_47, sR_673_47, sR_674_47, sR_676_47, sR_677_47, sR_679_47, sR_680_47, sR_681_47, SH_I, SH_A, SH_G, SH_C, hS, h0, gr, cr, a1, h59', nI_succ, f15, Option.getD_some, ne_eq, reduceCtorEq, not_false_eq_true, not_true_eq_false, Option.bind_some, Option.toList_none, Option.toList_some, List.nil_append, List.cons_append, List.append_nil, ↓reduceIte, and_self, true_and, and_true, false_and, and_false, or_true, true_or, or_false, false_or, Nat.reduceEqDiff, Nat.reduceAdd, Int32.reduceMul, Int32.reduceAdd, Int32.reduceSub, Int32.reduceToNatClampNeg, Int32.reduceOfNat, Int32.reduceLT, Int32.reduceLE, va_rf]
      · have g15 : ¬ nI op = 15 := fun z => h15 (i15.mp z)
        by_cases h16 : op = 16
        · subst h16
          have e : (if (false || celN 16) = true then (1 : Int32) else 0) = 1 := rfl
          have f16 : nI 16 = (16 : Int32) := rfl
          rw [e]
          simp (decide := true) only [k131_256, k131_263, k131_277, k131_284, k131_291N, sT_1, sT_2, sT_3, sT_16, sT_17, sT_18, sT_19, sT_20, sT_21, sT_22, sT_23, sT_24, sT_25, sT_26, sT_27, sT_28, sT_29, sT_30, sT_31, sT_32, sT_33, sT_34, sT_35, sT_36, sT_37, sT_38, sT_39, sT_40, sT_41, sT_42, sT_43, sT_44, sT_45, sT_46, sT_47, sT_48, sT_49, sT_50, sT_51, sT_52, sT_53, sT_54, sT_55, sT_56, sT_57, sT_58, sT_59, sT_60, sT_61, sT_62, sT_63, sT_64, sT_65, sT_66, sT_67, sT_68, sT_69, sT_70, sT_71, sT_72, sT_73, sT_74, sT_75, sT_76, sT_77, sT_78, sT_79, sT_80, sN_1, sN_2, sN_19, sN_21, sN_23, sN_24, sN_26, sN_29, sN_31, sN_33, sN_35, sN_36, sN_37, sN_39, sN_40, sN_42, sN_44, sN_45, sN_46, sN_48, sN_49, sN_50, sN_51, sN_52, sN_53, sN_54, sN_55, sN_56, sN_57, sN_58, sN_59, sN_60, sN_61, sN_62, sN_63, sN_64, sN_65, sN_66, sN_67, sN_68, sN_69, sN_70, sN_71, sN_72, sN_73, sN_74, sN_75, sN_76, sN_77, sN_78, sN_79, sN_80, sR_0_34, sR_0_38, sR_1_34, sR_1_38, sR_64_20, sR_64_22, sR_128_25, sR_128_28, sR_194_17, sR_195_17, sR_196_17, sR_197_17, sR_258_30, sR_258_32, sR_258_41, sR_384_43, sR_448_18, sR_512_27, sR_513_27, sR_514_27, sR_515_27, sR_516_27, sR_576_16, sR_577_16, sR_578_16, sR_579_16, sR_580_16, sR_581_16, sR_582_16, sR_583_16, sR_584_16, sR_641_47, sR_643_47, sR_645_47, sR_646_47, sR_647_47, sR_648_47, sR_649_47, sR_650_47, sR_651_47, sR_652_47, sR_653_47, sR_654_47, sR_655_47, sR_656_47, sR_657_47, sR_658_47, sR_659_47, sR_661_47, sR_662_47, sR_663_47, sR_664_47, sR_665_47, sR_669_47, sR_670_47, sR_671_47, sR_672_47, sR_673_47, sR_674_47, sR_676_47, sR_677_47, sR_679_47, sR_680_47, sR_681_47, SH_I, SH_A, SH_G, SH_C, hS, h0, gr, cr, a1, h59', nI_succ, f16, Option.getD_some, ne_eq, reduceCtorEq, not_false_eq_true, not_true_eq_false, Option.bind_some, Option.toList_none, Option.toList_some, List.nil_append, List.cons_append, List.append_nil, ↓reduceIte, and_self, true_and, and_true, false_and, and_false, or_true, true_or, or_false, false_or, Nat.reduceEqDiff, Nat.reduceAdd, Int32.reduceMul, Int32.reduceAdd, Int32.reduceSub, Int32.reduceToNatClampNeg, Int32.reduceOfNat, Int32.reduceLT, Int32.reduceLE, va_rf]
        · have g16 : ¬ nI op = 16 := fun z => h16 (i16.mp z)
          have e : (if (false || celN op) = true then (1 : Int32) else 0) = 0 := by
            unfold celN
            rw [if_neg]
            simp [h15, h16]
          rw [e]
          simp (decide := true) only [k131_256, k131_263, k131_277, k131_284, k131_295N, sT_1, sT_2, sT_3, sT_16, sT_17, sT_18, sT_19, sT_20, sT_21, sT_22, sT_23, sT_24, sT_25, sT_26, sT_27, sT_28, sT_29, sT_30, sT_31, sT_32, sT_33, sT_34, sT_35, sT_36, sT_37, sT_38, sT_39, sT_40, sT_41, sT_42, sT_43, sT_44, sT_45, sT_46, sT_47, sT_48, sT_49, sT_50, sT_51, sT_52, sT_53, sT_54, sT_55, sT_56, sT_57, sT_58, sT_59, sT_60, sT_61, sT_62, sT_63, sT_64, sT_65, sT_66, sT_67, sT_68, sT_69, sT_70, sT_71, sT_72, sT_73, sT_74, sT_75, sT_76, sT_77, sT_78, sT_79, sT_80, sN_1, sN_2, sN_19, sN_21, sN_23, sN_24, sN_26, sN_29, sN_31, sN_33, sN_35, sN_36, sN_37, sN_39, sN_40, sN_42, sN_44, sN_45, sN_46, sN_48, sN_49, sN_50, sN_51, sN_52, sN_53, sN_54, sN_55, sN_56, sN_57, sN_58, sN_59, sN_60, sN_61, sN_62, sN_63, sN_64, sN_65, sN_66, sN_67, sN_68, sN_69, sN_70, sN_71, sN_72, sN_73, sN_74, sN_75, sN_76, sN_77, sN_78, sN_79, sN_80, sR_0_34, sR_0_38, sR_1_34, sR_1_38, sR_64_20, sR_64_22, sR_128_25, sR_128_28, sR_194_17, sR_195_17, sR_196_17, sR_197_17, sR_258_30, sR_258_32, sR_258_41, sR_384_43, sR_448_18, sR_512_27, sR_513_27, sR_514_27, sR_515_27, sR_516_27, sR_576_16, sR_577_16, sR_578_16, sR_579_16, sR_580_16, sR_581_16, sR_582_16, sR_583_16, sR_584_16, sR_641_47, sR_643_47, sR_645_47, sR_646_47, sR_647_47, sR_648_47, sR_649_47, sR_650_47, sR_651_47, sR_652_47, sR_653_47, sR_654_47, sR_655_47, sR_656_47, sR_657_47, sR_658_47, sR_659_47, sR_661_47, sR_662_47, sR_663_47, sR_664_47, sR_665_47, sR_669_47, sR_670_47, sR_671_47, sR_672_47, sR_673_47, sR_674_47, sR_676_47, sR_677_47, sR_679_47, sR_680_47, sR_681_47, SH_I, SH_A, SH_G, SH_C, hS, h0, gr, cr, a0, h59', g15, g16, nI_succ, Option.getD_some, ne_eq, reduceCtorEq, not_false_eq_true, not_true_eq_false, Option.bind_some, Option.toList_none, Option.toList_some, List.nil_append, List.cons_append, List.append_nil, ↓reduceIte, and_self, true_and, and_true, false_and, and_false, or_true, true_or, or_false, false_or, Nat.reduceEqDiff, Nat.reduceAdd, Int32.reduceMul, Int32.reduceAdd, Int32.reduceSub, Int32.reduceToNatClampNeg, Int32.reduceOfNat, Int32.reduceLT, Int32.reduceLE, va_rf]
  have hSτ : SH (jsA σ 59 r (if (hc || celN op) = true then 1 else 0)) := by rw [SH_A]; exact hS
  have hTτ : TM (jsA σ 59 r (if (hc || celN op) = true then 1 else 0)) len b := by rw [TM_A (by decide)]; exact hT
  have c := c148 (d := d + 1) hSτ hTτ hp (by rw [zA_I]; exact hat)
  rw [main, c]
  by_cases h : tv len b (sk len b p) = 59
  · refine ⟨1, ?_, by rw [if_pos h]⟩
    rw [if_pos h, if_pos h]
    simp only [Option.bind_some, Option.toList_some, List.cons_append, List.nil_append]
    rw [k131_304, if_neg (fun z => z rfl), k131_307]
  · refine ⟨0, ?_, by rw [if_neg h]⟩
    rw [if_neg h, if_neg h]
    simp only [Option.bind_some, Option.toList_some, List.cons_append, List.nil_append]
    rw [k131_304, if_pos (by decide), k131_311]
end MS3
end S_50
section S_51
/-! the reference's reader: a side and a rule whole -/
def mSide (len : Nat) (b : Nat → Int32) (W sd : Nat) : Nat → Nat → jPS → (Nat → Int32) → Option (List (Nat → Int32) × jPS × (Nat → Int32))
  | 0, _, _, _ => none
  | f + 1, n, s, rg => (mOrdS len b W sd n s rg).bind (fun y => if tv len b (sk len b y.1.1) = 59 then (mSide len b W sd f (n + 1) (sk len b (sk len b y.1.1 + 1), y.1.2) y.2).map (fun z => (y.1.2.2.2 :: z.1, z.2)) else some ([y.1.2.2.2], (sk len b y.1.1, y.1.2), y.2))
def celO (o : Nat → Int32) : Bool := celN (o 0).toNatClampNeg
theorem MO.fr {σ σ' : jS} {l : List Nat} {k : Nat} {o : Nat → Int32} (h : MO σ k o) (f : FR l σ σ') (hl : ∀ a, 51 ≤ a → a ≤ 55 → a ∉ l) : MO σ' k o := by
  obtain ⟨h1, h2, h3, h4, h5⟩ := h
  have e := fun a (x : 51 ≤ a) (y : a ≤ 55) => (f.2 a (hl a x y)).2
  exact ⟨by rw [e 51 (by decide) (by decide)]; exact h1, fun j hj => by rw [e 52 (by decide) (by decide)]; exact h2 j hj, fun hn => (h3 hn).frame (e 53 (by decide) (by decide) _) (e 54 (by decide) (by decide) _), by rw [e 55 (by decide) (by decide)]; exact h4, fun hn => (h5 hn).frame (e 53 (by decide) (by decide) _) (e 54 (by decide) (by decide) _)⟩
section MU1
variable {d : Nat} {len W : Nat} {b : Nat → Int32}
theorem c131o {r : Nat} (hr : r < 24) {sd : Nat} (hsd : sd = 0 ∨ sd = 1) : ∀ (f n : Nat) (s : jPS) (rg : Nat → Int32) (hc : Bool) (σ : jS) (x5 x6 x7 x8 : Option Value), n + f = 5 → 1 ≤ f → 81 ≤ jnx σ → rdA σ W len b s.1 → rdB σ r s.2.1 → rdC σ r s.2.2.1 rg → (jA σ 59 r = if hc = true then 1 else 0) →
    ∃ σ' n', jx (d + 4) 131 24 [some (.ref 47), some (.int (nI r)), some (.int (nI sd)), some (.int (nI n)), some (.int 1), x5, x6, x7, x8] [] σ = some (some (.int (nI n')), σ') ∧ PF (RG r (8 * r + 4 * sd + n) (8 * r + 4 * sd + 5)) σ σ' ∧ jnx σ' = jnx σ ∧ jsl σ' = jsl σ ∧ (match mSide len b W sd f n s rg with
      | some z => n' = n + z.1.length ∧ n' ≤ 4 ∧ rdA σ' W len b z.2.1.1 ∧ rdB σ' r z.2.1.2.1 ∧ rdC σ' r z.2.1.2.2.1 z.2.2 ∧ (jA σ' 59 r = if (hc || z.1.any celO) = true then 1 else 0) ∧ ∀ i, i < z.1.length → MO σ' (8 * r + 4 * sd + n + i) (z.1.getD i (fun _ => 0))
      | none => ¬ jI σ' 667 47 = 0) := by
  intro f
  induction f with
  | zero => intro n s rg hc σ x5 x6 x7 x8 _ h; exact absurd h (by decide)
  | succ f ih =>
    intro n s rg hc σ x5 x6 x7 x8 hn _ hx hA hB hC h59
    obtain ⟨σ1, F1, nx1, sl1, k59, r1⟩ := c131a (d := d) hx hA hr hB hC hsd (n := n) (by omega) (x5 := x5) (x6 := x6) (x7 := x7) (x8 := x8)
    have G1 : PF (RG r (8 * r + 4 * sd + n) (8 * r + 4 * sd + 5)) σ σ1 := F1.mono (fun a i z => z.wide (Nat.le_refl _) (by omega))
    unfold mSide
    cases hO : mOrdS len b W sd n s rg with
    | none =>
      rw [hO] at r1
      exact ⟨σ1, n, r1.1, G1, nx1, sl1, r1.2⟩
    | some y =>
      rw [hO] at r1
      obtain ⟨⟨op, v7, v8, ho, y0, hn4, e1⟩, hA1, hB1, hC1, hM1⟩ := r1
      obtain ⟨x4, e2, ex4⟩ := c131e (d := d) hA1 (op := op) (n := n) (k := 8 * r + 4 * sd + n) hr ho (sd := sd) (hc := hc) (by rw [k59]; exact h59) (x7 := v7) (x8 := v8)
      obtain ⟨σ2, eσ2⟩ : ∃ σ2, jsI (jsA σ1 59 r (if (hc || celN op) = true then 1 else 0)) 666 47 (nI (if tv len b (sk len b y.1.1) = 59 then sk len b (sk len b y.1.1 + 1) else sk len b y.1.1)) = σ2 := ⟨_, rfl⟩
      rw [eσ2] at e2
      have f2 : FR [47, 59] σ1 σ2 := eσ2 ▸ ((FR.refl _ σ1).A (q := 59) (by decide)).I (by decide)
      have g2 : ∀ g, g ≠ 666 → g ≠ 667 → g ≠ 668 → jI σ2 g 47 = jI σ1 g 47 := fun g x y z => by rw [← eσ2, zI_I, if_neg (fun q => x q.1), zA_I]
      have G2 : PF (RG r (8 * r + 4 * sd + n) (8 * r + 4 * sd + 5)) σ σ2 := by
        rw [← eσ2]
        exact (G1.A (Or.inl (Or.inl ⟨Or.inr (Or.inr rfl), rfl⟩))).I (Or.inl rfl)
      have z2 : jI σ2 667 47 = 0 := by rw [← eσ2, zI_I, if_neg (by decide), zA_I]; exact hA1.2.2.2.2.2.1
      have a2 : jI σ2 666 47 = nI (if tv len b (sk len b y.1.1) = 59 then sk len b (sk len b y.1.1 + 1) else sk len b y.1.1) := by rw [← eσ2, zI_I, if_pos ⟨rfl, rfl⟩]
      have q59 : jA σ2 59 r = if (hc || celN op) = true then 1 else 0 := by rw [← eσ2, zI_A, zA_A, if_pos ⟨rfl, rfl⟩]
      have nx2 : jnx σ2 = jnx σ := by rw [f2.1.2.2.2.2.1]; exact nx1
      have sl2 : jsl σ2 = jsl σ := by rw [f2.1.2.2.2.2.2]; exact sl1
      have hB2 : rdB σ2 r y.1.2.1 := hB1.frame f2 (by decide) (by decide)
      have hC2 : rdC σ2 r y.1.2.2.1 y.2 := hC1.frame f2 (by decide) (by decide) (by decide)
      have hM2 : MO σ2 (8 * r + 4 * sd + n) y.1.2.2.2 := hM1.fr f2 (fun a h1 h2 => by simp; omega)
      have hp1 := hA1.2.2.2.1
      have pk := sk_le (b := b) hp1
      have co : celO y.1.2.2.2 = celN op := by unfold celO; rw [y0, nI_clamp (by omega)]
      rw [Option.bind_some]
      by_cases h : tv len b (sk len b y.1.1) = 59
      · rw [if_pos h] at a2 ex4 ⊢
        have plt : sk len b y.1.1 < len := tv_lit h (by decide)
        have pk2 := sk_le (b := b) (p := sk len b y.1.1 + 1) plt
        have hA2 : rdA σ2 W len b (sk len b (sk len b y.1.1 + 1)) := hA1.frame f2 g2 (by decide) (by decide) pk2.2 a2 z2
        obtain ⟨σ3, n', e3, F3, nx3, sl3, r3⟩ := ih (n + 1) (sk len b (sk len b y.1.1 + 1), y.1.2) y.2 (hc || celN op) σ2 (some (.int (nI op))) (some (.int (nI (8 * r + 4 * sd + n)))) v7 v8 (by omega) (by omega) (by omega) hA2 hB2 hC2 q59
        refine ⟨σ3, n', by rw [e1, e2, ex4]; exact e3, G2.trans (F3.mono (fun a i z => z.wide (by omega) (Nat.le_refl _))), by omega, by omega, ?_⟩
        cases hR : mSide len b W sd f (n + 1) (sk len b (sk len b y.1.1 + 1), y.1.2) y.2 with
        | none => rw [hR] at r3; exact r3
        | some z =>
          rw [hR] at r3
          obtain ⟨q1, q2, q3, q4, q5, q6, q7⟩ := r3
          refine ⟨by show n' = n + (z.1.length + 1); omega, q2, q3, q4, q5, ?_, fun i hi => ?_⟩
          · rw [q6]
            show _ = if (hc || (celO y.1.2.2.2 || z.1.any celO)) = true then _ else _
            rw [co, Bool.or_assoc]
          · cases i with
            | zero => exact hM2.frame F3 (by omega) (by omega)
            | succ i =>
              have := q7 i (by have : i + 1 < z.1.length + 1 := hi; omega)
              rw [show 8 * r + 4 * sd + n + (i + 1) = 8 * r + 4 * sd + (n + 1) + i by omega]
              exact this
      · rw [if_neg h] at a2 ex4 ⊢
        have hA2 : rdA σ2 W len b (sk len b y.1.1) := hA1.frame f2 g2 (by decide) (by decide) pk.2 a2 z2
        refine ⟨σ2, n + 1, by rw [e1, e2, ex4, k131_24, if_pos rfl, k131_317], G2, nx2, sl2, rfl, by omega, hA2, hB2, hC2, ?_, fun i hi => ?_⟩
        · rw [q59]
          show _ = if (hc || (celO y.1.2.2.2 || false)) = true then _ else _
          rw [co, Bool.or_false]
        · have i0 : i = 0 := by have : i < 1 := hi; omega
          subst i0
          exact hM2
def mSideR (len : Nat) (b : Nat → Int32) (W sd : Nat) (s : jPS) (rg : Nat → Int32) : Option (List (Nat → Int32) × jPS × (Nat → Int32)) := if sd = 1 ∧ len ≤ s.1 then some ([], s, rg) else mSide len b W sd 5 0 s rg
theorem c131 {r : Nat} (hr : r < 24) {sd : Nat} (hsd : sd = 0 ∨ sd = 1) (s : jPS) (rg : Nat → Int32) (hc : Bool) (σ : jS) (hx : 81 ≤ jnx σ) (hA : rdA σ W len b s.1) (hB : rdB σ r s.2.1) (hC : rdC σ r s.2.2.1 rg) (h59 : jA σ 59 r = if hc = true then 1 else 0) :
    ∃ σ' n', jx (d + 4) 131 0 [some (.ref 47), some (.int (nI r)), some (.int (nI sd)), none, none, none, none, none, none] [] σ = some (some (.int (nI n')), σ') ∧ PF (RG r (8 * r + 4 * sd) (8 * r + 4 * sd + 5)) σ σ' ∧ jnx σ' = jnx σ ∧ jsl σ' = jsl σ ∧ (match mSideR len b W sd s rg with
      | some z => n' = z.1.length ∧ n' ≤ 4 ∧ rdA σ' W len b z.2.1.1 ∧ rdB σ' r z.2.1.2.1 ∧ rdC σ' r z.2.1.2.2.1 z.2.2 ∧ (jA σ' 59 r = if (hc || z.1.any celO) = true then 1 else 0) ∧ ∀ i, i < z.1.length → MO σ' (8 * r + 4 * sd + i) (z.1.getD i (fun _ => 0))
      | none => ¬ jI σ' 667 47 = 0) := by
  have hl : len ≤ 400 := hA.2.2.1.2.1
  have hp := hA.2.2.2.1
  obtain ⟨σ', n', e, F, nx, sl, q⟩ := c131o (d := d) (len := len) (W := W) (b := b) hr hsd 5 0 s rg hc σ none none none none rfl (by decide) hx hA hB hC h59
  have go : ¬ (sd = 1 ∧ len ≤ s.1) → jx (d + 4) 131 0 [some (.ref 47), some (.int (nI r)), some (.int (nI sd)), none, none, none, none, none, none] [] σ = jx (d + 4) 131 24 [some (.ref 47), some (.int (nI r)), some (.int (nI sd)), some (.int (nI 0)), some (.int 1), none, none, none, none] [] σ := by
    intro h
    rcases hsd with h0 | h0
    · subst h0
      rw [k131_0, if_pos (show nI 0 = 0 from rfl), k131_17]; rfl
    · subst h0
      have h2 : ¬ nI len ≤ nI s.1 := nI_ge (by omega) (by omega)
      rw [k131_0, if_neg (by decide), k131_6 (sT_47 hA.1), hA.2.2.1.1, hA.2.2.2.2.1, if_neg h2, k131_17]; rfl
  unfold mSideR
  by_cases h : sd = 1 ∧ len ≤ s.1
  · rw [if_pos h]
    have h1 := h.1
    subst h1
    have h2 : nI len ≤ nI s.1 := nI_le h.2 (by omega)
    refine ⟨σ, 0, ?_, PF.refl _ σ, rfl, rfl, rfl, by decide, hA, hB, hC, ?_, fun i hi => absurd hi (Nat.not_lt_zero i)⟩
    · rw [k131_0, if_neg (by decide), k131_6 (sT_47 hA.1), hA.2.2.1.1, hA.2.2.2.2.1, if_pos h2, k131_21, k131_24, if_pos rfl, k131_317]
      rfl
    · rw [h59, List.any_nil, Bool.or_false]
  · rw [if_neg h]
    refine ⟨σ', n', (go h).trans e, F, nx, sl, ?_⟩
    cases hR : mSide len b W sd 5 0 s rg with
    | none => rw [hR] at q; exact q
    | some z =>
      rw [hR] at q
      obtain ⟨q1, q2⟩ := q
      exact ⟨by rw [q1, Nat.zero_add], q2⟩
end MU1
end S_51
section S_52
/-! the reference's reader: a rule -/
def RRg (r a i : Nat) : Prop := RG r (8 * r) (8 * r + 9) a i ∨ (a = 50 ∧ (i = 2 * r ∨ i = 2 * r + 1))
def mRule (len : Nat) (b : Nat → Int32) (W : Nat) (rg : Nat → Int32) : Option (List (Nat → Int32) × List (Nat → Int32) × List Nat × List Nat × (Nat → Int32)) :=
  (mSideR len b W 0 (sk len b 0, [], [], fun _ => 0) rg).bind (fun z => if tv len b z.2.1.1 = 61 ∧ tv len b (z.2.1.1 + 1) = 62 then (mSideR len b W 1 (sk len b (z.2.1.1 + 2), z.2.1.2) z.2.2).bind (fun y => if len ≤ y.2.1.1 then some (z.1, y.1, y.2.1.2.1, y.2.1.2.2.1, y.2.2) else none) else none)
section MU2
variable {d : Nat} {len W : Nat} {b : Nat → Int32}
theorem c128 {r : Nat} (hr : r < 24) (σ : jS) (hx : 81 ≤ jnx σ) (hS : SH σ) (hN : NV σ) (hT : TM σ len b) (h0 : jI σ 667 47 = 0) (hw : jI σ 640 47 = nI W) :
    ∃ σ', jx (d + 5) 128 0 [some (.ref 47), some (.int (nI r))] [] σ = some (none, σ') ∧ PF (RRg r) σ σ' ∧ jnx σ' = jnx σ ∧ jsl σ' = jsl σ ∧ (match mRule len b W (fun j => jA σ 58 (3 * r + j)) with
      | some (o1, o2, rs, ms, rg) => jI σ' 667 47 = 0 ∧ jA σ' 50 (2 * r) = nI o1.length ∧ jA σ' 50 (2 * r + 1) = nI o2.length ∧ o1.length ≤ 4 ∧ o2.length ≤ 4 ∧ rdB σ' r rs ∧ rdC σ' r ms rg ∧ (jA σ' 59 r = if (o1.any celO || o2.any celO) = true then 1 else 0) ∧ (∀ i, i < o1.length → MO σ' (8 * r + i) (o1.getD i (fun _ => 0))) ∧ (∀ i, i < o2.length → MO σ' (8 * r + 4 + i) (o2.getD i (fun _ => 0)))
      | none => ¬ jI σ' 667 47 = 0) := by
  have hl : len ≤ 400 := hT.2.1
  have gr : jin 24 (nI r) := jin_n hr (by decide)
  have cr : (nI r).toNatClampNeg = r := nI_clamp (by omega)
  have a0 : ((0 : Int32) &&& 1) = 0 := rfl
  have pk := sk_le (b := b) (Nat.zero_le len)
  obtain ⟨τ, eτ⟩ : ∃ τ, jsA (jsA (jsA (jsI σ 666 47 0) 56 r 0) 57 r 0) 59 r 0 = τ := ⟨_, rfl⟩
  have Fτ : FR [47, 56, 57, 59] σ τ := eτ ▸ ((((FR.refl [47, 56, 57, 59] σ).I (q := 47) (by decide)).A (q := 56) (by decide)).A (q := 57) (by decide)).A (by decide)
  have Gτ : ∀ g, g ≠ 666 → jI τ g 47 = jI σ g 47 := fun g hg => by rw [← eτ, zA_I, zA_I, zA_I, zI_I, if_neg (fun z => hg z.1)]
  have Pτ : PF (RRg r) σ τ := by
    rw [← eτ]
    exact ((((PF.refl _ σ).I (Or.inl rfl)).A (Or.inl (Or.inl (Or.inl ⟨Or.inl rfl, rfl⟩)))).A (Or.inl (Or.inl (Or.inl ⟨Or.inr (Or.inl rfl), rfl⟩)))).A (Or.inl (Or.inl (Or.inl ⟨Or.inr (Or.inr rfl), rfl⟩)))
  have hSτ := Fτ.sh hS
  have hTτ : TM τ len b := Pτ.tm hx (fun i z => by unfold RRg RG at z; omega) hT
  have at0 : jI τ 666 47 = nI 0 := by rw [← eτ, zA_I, zA_I, zA_I, zI_I, if_pos ⟨rfl, rfl⟩]; rfl
  have c := c129 (d := d + 3) hSτ hTτ (p := 0) (Nat.zero_le _) at0
  obtain ⟨σ1, eσ1⟩ : ∃ σ1, jsI τ 666 47 (nI (sk len b 0)) = σ1 := ⟨_, rfl⟩
  have P1 : PF (RRg r) σ σ1 := eσ1 ▸ Pτ.I (Or.inl rfl)
  have nx1 : jnx σ1 = jnx σ := by rw [← eσ1, zI_nx]; exact Fτ.1.2.2.2.2.1
  have sl1 : jsl σ1 = jsl σ := by rw [← eσ1, zI_sl]; exact Fτ.1.2.2.2.2.2
  have hS1 := P1.sh hx hS
  have hA1 : rdA σ1 W len b (sk len b 0) := by
    refine ⟨hS1, P1.nv hx (fun i z => by unfold RRg RG at z; omega) hN, P1.tm hx (fun i z => by unfold RRg RG at z; omega) hT, pk.2, ?_, ?_, by rw [P1.f47 hx (by decide)]; exact hw⟩
    · rw [← eσ1, zI_I, if_pos ⟨rfl, rfl⟩]
    · rw [← eσ1, zI_I, if_neg (by decide), Gτ 667 (by decide)]; exact h0
  have ar1 : ∀ a i, jA σ1 a i = jA τ a i := fun a i => by rw [← eσ1, zI_A]
  have hB1 : rdB σ1 r [] := ⟨fun i hi => absurd hi (Nat.not_lt_zero i), List.nodup_nil, fun x hx => absurd hx (List.not_mem_nil), by rw [ar1, ← eτ, zA_A, if_neg (fun y => absurd y.1 (by decide)), zA_A, if_neg (fun y => absurd y.1 (by decide)), zA_A, if_pos ⟨rfl, rfl⟩]; rfl⟩
  have hC1 : rdC σ1 r [] (fun j => jA σ 58 (3 * r + j)) := ⟨fun i hi => absurd hi (Nat.not_lt_zero i), List.nodup_nil, fun x hx => absurd hx (List.not_mem_nil), by rw [ar1, ← eτ, zA_A, if_neg (fun y => absurd y.1 (by decide)), zA_A, if_pos ⟨rfl, rfl⟩]; rfl, fun j _ => by rw [ar1, (Fτ.2 58 (by decide)).2]⟩
  have h591 : jA σ1 59 r = if false = true then 1 else 0 := by rw [ar1, ← eτ, zA_A, if_pos ⟨rfl, rfl⟩]; rfl
  obtain ⟨σ2, n1, e2, F2, nx2, sl2, r2⟩ := c131 (d := d) hr (sd := 0) (Or.inl rfl) (sk len b 0, [], [], fun _ => 0) (fun j => jA σ 58 (3 * r + j)) false σ1 (by omega) hA1 hB1 hC1 h591
  have P2 : PF (RRg r) σ σ2 := P1.trans (F2.mono (fun a i z => Or.inl (z.wide (by omega) (by omega))))
  have hS2 := P2.sh hx hS
  have hr2 : (2 : Int32) * nI r = nI (2 * r) := by rw [show (2 : Int32) = nI 2 from rfl, nmul]
  have hr21 : nI (2 * r) + 1 = nI (2 * r + 1) := (nI_succ _).symm
  have g2 : jin 48 (nI (2 * r)) := jin_n (by omega) (by decide)
  have g21 : jin 48 (nI (2 * r + 1)) := jin_n (by omega) (by decide)
  have c2 : (nI (2 * r)).toNatClampNeg = 2 * r := nI_clamp (by omega)
  have c21 : (nI (2 * r + 1)).toNatClampNeg = 2 * r + 1 := nI_clamp (by omega)
  obtain ⟨υ, eυ⟩ : ∃ υ, jsA σ2 50 (2 * r) (nI n1) = υ := ⟨_, rfl⟩
  have Fυ : FR [50] σ2 υ := eυ ▸ (FR.refl _ σ2).A (by decide)
  have Pυ : PF (RRg r) σ υ := eυ ▸ P2.A (Or.inl (Or.inr ⟨rfl, Or.inl rfl⟩))
  have hSυ := Pυ.sh hx hS
  have Iυ : jI υ = jI σ2 := by rw [← eυ, zA_I]
  have nxυ : jnx υ = jnx σ := by rw [Fυ.1.2.2.2.2.1, nx2]; exact nx1
  have slυ : jsl υ = jsl σ := by rw [Fυ.1.2.2.2.2.2, sl2]; exact sl1
  have to43 : jx (d + 5) 128 0 [some (.ref 47), some (.int (nI r))] [] σ = if ¬ jI υ 667 47 = 0 then jx (d + 5) 128 158 [some (.ref 47), some (.int (nI r))] [] υ else jx (d + 5) 128 51 [some (.ref 47), some (.int (nI r))] [] υ := by
    have b1 : jx (d + 5) 128 0 [some (.ref 47), some (.int (nI r))] [] σ = (jx (d + 4) 129 0 [some (.ref 47)] [] τ).bind (fun z => jx (d + 5) 128 30 [some (.ref 47), some (.int (nI r))] (z.1.toList ++ []) z.2) := by
      rw [← eτ]
      simp (decide := true) only [k128_0N, sT_1, sT_2, sT_3, sT_16, sT_17, sT_18, sT_19, sT_20, sT_21, sT_22, sT_23, sT_24, sT_25, sT_26, sT_27, sT_28, sT_29, sT_30, sT_31, sT_32, sT_33, sT_34, sT_35, sT_36, sT_37, sT_38, sT_39, sT_40, sT_41, sT_42, sT_43, sT_44, sT_45, sT_46, sT_47, sT_48, sT_49, sT_50, sT_51, sT_52, sT_53, sT_54, sT_55, sT_56, sT_57, sT_58, sT_59, sT_60, sT_61, sT_62, sT_63, sT_64, sT_65, sT_66, sT_67, sT_68, sT_69, sT_70, sT_71, sT_72, sT_73, sT_74, sT_75, sT_76, sT_77, sT_78, sT_79, sT_80, sN_1, sN_2, sN_19, sN_21, sN_23, sN_24, sN_26, sN_29, sN_31, sN_33, sN_35, sN_36, sN_37, sN_39, sN_40, sN_42, sN_44, sN_45, sN_46, sN_48, sN_49, sN_50, sN_51, sN_52, sN_53, sN_54, sN_55, sN_56, sN_57, sN_58, sN_59, sN_60, sN_61, sN_62, sN_63, sN_64, sN_65, sN_66, sN_67, sN_68, sN_69, sN_70, sN_71, sN_72, sN_73, sN_74, sN_75, sN_76, sN_77, sN_78, sN_79, sN_80, sR_0_34, sR_0_38, sR_1_34, sR_1_38, sR_64_20, sR_64_22, sR_128_25, sR_128_28, sR_194_17, sR_195_17, sR_196_17, sR_197_17, sR_258_30, sR_258_32, sR_258_41, sR_384_43, sR_448_18, sR_512_27, sR_513_27, sR_514_27, sR_515_27, sR_516_27, sR_576_16, sR_577_16, sR_578_16, sR_579_16, sR_580_16, sR_581_16, sR_582_16, sR_583_16, sR_584_16, sR_641_47, sR_643_47, sR_645_47, sR_646_47, sR_647_47, sR_648_47, sR_649_47, sR_650_47, sR_651_47, sR_652_47, sR_653_47, sR_654_47, sR_655_47, sR_656_47, sR_657_47, sR_658_47, sR_659_47, sR_661_47, sR_662_47, sR_663_47, sR_664_47, sR_665_47, sR_669_47, sR_670_47, sR_671_47, sR_672_47, sR_673_47, sR_674_47, sR_676_47, sR_677_47, sR_679_47, sR_680_47, sR_681_47, SH_I, SH_A, SH_G, SH_C, hS, gr, cr, a0, Option.getD_some, ne_eq, reduceCtorEq, not_false_eq_true, not_true_eq_false, Option.bind_some, Option.toList_none, Option.toList_some, List.nil_append, List.cons_append, List.append_nil, ↓reduceIte, and_self, true_and, and_true, false_and, and_false, or_true, true_or, or_false, false_or, Nat.reduceEqDiff, Nat.reduceAdd, Int32.reduceMul, Int32.reduceAdd, Int32.reduceSub, Int32.reduceToNatClampNeg, Int32.reduceOfNat, Int32.reduceLT, Int32.reduceLE, va_rf]
    rw [b1, c, eσ1]
    simp only [Option.bind_some, Option.toList_none, List.nil_append]
    rw [k128_30 (sT_47 hS1) (by rw [sR_645_47 hS1]; exact fun z => nomatch z), sR_645_47 hS1, hr2]
    have e2' : jx (d + 4) 131 0 [some (.ref 47), some (.int (nI r)), some (.int 0), none, none, none, none, none, none] [] σ1 = some (some (.int (nI n1)), σ2) := e2
    rw [e2']
    simp only [Option.bind_some, Option.toList_some, List.cons_append, List.nil_append, Option.getD_some]
    rw [k128_43 (sT_50 hS2) (by rw [sN_50 hS2]; exact g2) (sT_47 hS2), c2, eυ, Iυ]
  have failU : ∀ (ω : jS), SH ω → jI ω 667 47 = 0 → ∃ ω', jx (d + 5) 128 149 [some (.ref 47), some (.int (nI r))] [] ω = some (none, ω') ∧ MF ω ω' ∧ ¬ jI ω' 667 47 = 0 := by
    intro ω hSw hzw
    obtain ⟨ω', e, f, q⟩ := c136x (d := d + 4) (σ := ω) hSw hzw (c := 1) (by decide) (jI ω 666 47)
    refine ⟨ω', ?_, f, q⟩
    rw [k128_149 (sT_47 hSw), e]
    simp only [Option.bind_some, Option.toList_none, List.nil_append]
    rw [k128_158]
  unfold mRule
  cases hZ : mSideR len b W 0 (sk len b 0, [], [], fun _ => 0) (fun j => jA σ 58 (3 * r + j)) with
  | none =>
    rw [hZ] at r2
    have r2 : ¬ jI σ2 667 47 = 0 := r2
    refine ⟨υ, ?_, Pυ, nxυ, slυ, by rw [Iυ]; exact r2⟩
    rw [to43, Iυ, if_pos r2, k128_158]
  | some z =>
    rw [hZ] at r2
    obtain ⟨q1, q2, hA2, hB2, hC2, q59, qM⟩ := r2
    have hAυ : rdA υ W len b z.2.1.1 := hA2.frame Fυ (fun g _ _ _ => by rw [Iυ]) (by decide) (by decide) hA2.2.2.2.1 (by rw [Iυ]; exact hA2.2.2.2.2.1) (by rw [Iυ]; exact hA2.2.2.2.2.2.1)
    have hBυ : rdB υ r z.2.1.2.1 := hB2.frame Fυ (by decide) (by decide)
    have hCυ : rdC υ r z.2.1.2.2.1 z.2.2 := hC2.frame Fυ (by decide) (by decide) (by decide)
    have zυ := hAυ.2.2.2.2.2.1
    have hpz := hAυ.2.2.2.1
    have cl := c130 (d := d + 4) hSυ hAυ.2.2.1 (p := z.2.1.1) (by omega) hAυ.2.2.2.2.1
    have to55 : jx (d + 5) 128 0 [some (.ref 47), some (.int (nI r))] [] σ = jx (d + 5) 128 55 [some (.ref 47), some (.int (nI r))] [.int (tv len b z.2.1.1)] υ := by
      rw [to43, if_neg (fun y => y zυ), k128_51 (sT_47 hSυ), cl]
      rfl
    have bad : jx (d + 5) 128 0 [some (.ref 47), some (.int (nI r))] [] σ = jx (d + 5) 128 149 [some (.ref 47), some (.int (nI r))] [] υ → ∃ σ', jx (d + 5) 128 0 [some (.ref 47), some (.int (nI r))] [] σ = some (none, σ') ∧ PF (RRg r) σ σ' ∧ jnx σ' = jnx σ ∧ jsl σ' = jsl σ ∧ ¬ jI σ' 667 47 = 0 := by
      intro e
      obtain ⟨ω, e1, f1, q⟩ := failU υ hSυ zυ
      exact ⟨ω, e.trans e1, Pυ.mf f1, by rw [f1.1.1.2.2.2.2.1]; exact nxυ, by rw [f1.1.1.2.2.2.2.2]; exact slυ, q⟩
    rw [Option.bind_some]
    have p1 : nI z.2.1.1 + 1 = nI (z.2.1.1 + 1) := (nI_succ _).symm
    by_cases h61 : tv len b z.2.1.1 = 61
    · have hlt : z.2.1.1 < len := tv_lit h61 (by decide)
      by_cases h62 : tv len b (z.2.1.1 + 1) = 62
      · rw [if_pos ⟨h61, h62⟩]
        have hlt2 : z.2.1.1 + 1 < len := tv_lit h62 (by decide)
        have g1 : ¬ nI len ≤ nI (z.2.1.1 + 1) := nI_ge (by omega) (by omega)
        have gj : jin 400 (nI (z.2.1.1 + 1)) := jin_n (by omega) (by decide)
        have cj : (nI (z.2.1.1 + 1)).toNatClampNeg = z.2.1.1 + 1 := nI_clamp (by omega)
        have bv : jA υ 48 (z.2.1.1 + 1) = 62 := by
          rw [hAυ.2.2.1.2.2 _ hlt2, ← h62]; unfold tv; rw [if_pos hlt2]
        have p2 : nI z.2.1.1 + 2 = nI (z.2.1.1 + 2) := by rw [show (2 : Int32) = nI 2 from rfl, nadd]
        have hA3' : rdA (jsI υ 666 47 (nI (z.2.1.1 + 2))) W len b (z.2.1.1 + 2) := hAυ.frame ((FR.refl [47] υ).I (by decide)) (fun g x _ _ => by rw [zI_I, if_neg (fun q => x q.1)]) (by decide) (by decide) hlt2 (by rw [zI_I, if_pos ⟨rfl, rfl⟩]) (by rw [zI_I, if_neg (by decide)]; exact zυ)
        have cb := c129 (d := d + 3) hA3'.1 hA3'.2.2.1 hA3'.2.2.2.1 hA3'.2.2.2.2.1
        rw [jsI_jsI] at cb
        have pk2 := sk_le (b := b) (p := z.2.1.1 + 2) hlt2
        obtain ⟨σ3, eσ3⟩ : ∃ σ3, jsI υ 666 47 (nI (sk len b (z.2.1.1 + 2))) = σ3 := ⟨_, rfl⟩
        rw [eσ3] at cb
        have F3 : FR [47] υ σ3 := eσ3 ▸ (FR.refl [47] υ).I (by decide)
        have hA3 : rdA σ3 W len b (sk len b (z.2.1.1 + 2)) := by
          rw [← eσ3]
          exact hAυ.frame ((FR.refl [47] υ).I (by decide)) (fun g x _ _ => by rw [zI_I, if_neg (fun q => x q.1)]) (by decide) (by decide) pk2.2 (by rw [zI_I, if_pos ⟨rfl, rfl⟩]) (by rw [zI_I, if_neg (by decide)]; exact zυ)
        have P3 : PF (RRg r) σ σ3 := eσ3 ▸ Pυ.I (Or.inl rfl)
        have hS3 := hA3.1
        have hB3 : rdB σ3 r z.2.1.2.1 := hBυ.frame F3 (by decide) (by decide)
        have hC3 : rdC σ3 r z.2.1.2.2.1 z.2.2 := hCυ.frame F3 (by decide) (by decide) (by decide)
        have h593 : jA σ3 59 r = if z.1.any celO = true then 1 else 0 := by
          rw [(F3.2 59 (by decide)).2, (Fυ.2 59 (by decide)).2, q59, Bool.false_or]
        have nx3 : jnx σ3 = jnx σ := by rw [F3.1.2.2.2.2.1]; exact nxυ
        have sl3 : jsl σ3 = jsl σ := by rw [F3.1.2.2.2.2.2]; exact slυ
        obtain ⟨σ4, n2, e4, F4, nx4, sl4, r4⟩ := c131 (d := d) hr (sd := 1) (Or.inr rfl) (sk len b (z.2.1.1 + 2), z.2.1.2) z.2.2 (z.1.any celO) σ3 (by omega) hA3 hB3 hC3 h593
        have P4 : PF (RRg r) σ σ4 := P3.trans (F4.mono (fun a i z => Or.inl (z.wide (by omega) (by omega))))
        have hS4 := P4.sh hx hS
        obtain ⟨ω, eω⟩ : ∃ ω, jsA σ4 50 (2 * r + 1) (nI n2) = ω := ⟨_, rfl⟩
        have Fω : FR [50] σ4 ω := eω ▸ (FR.refl _ σ4).A (by decide)
        have Pω : PF (RRg r) σ ω := eω ▸ P4.A (Or.inl (Or.inr ⟨rfl, Or.inr rfl⟩))
        have hSω := Pω.sh hx hS
        have Iω : jI ω = jI σ4 := by rw [← eω, zA_I]
        have nxω : jnx ω = jnx σ := by rw [Fω.1.2.2.2.2.1, nx4]; exact nx3
        have slω : jsl ω = jsl σ := by rw [Fω.1.2.2.2.2.2, sl4]; exact sl3
        have to118 : jx (d + 5) 128 0 [some (.ref 47), some (.int (nI r))] [] σ = if ¬ jI ω 667 47 = 0 then jx (d + 5) 128 158 [some (.ref 47), some (.int (nI r))] [] ω else jx (d + 5) 128 126 [some (.ref 47), some (.int (nI r))] [] ω := by
          rw [to55, k128_55, if_neg (fun y => y h61), k128_60 (sT_47 hSυ), hAυ.2.2.1.1, hAυ.2.2.2.2.1, p1, if_neg g1]
          rw [k128_73 (sT_47 hSυ) (by rw [sR_641_47 hSυ]; exact fun z => nomatch z) (by rw [sR_641_47 hSυ]; exact Or.inl (sT_48 hSυ)) (by rw [sR_641_47 hSυ]; show jin (jN υ 48) _; rw [sN_48 hSυ, hAυ.2.2.2.2.1, p1]; exact gj)]
          rw [sR_641_47 hSυ, hAυ.2.2.2.2.1, p1, cj]
          show (if ¬ jA υ 48 (z.2.1.1 + 1) = 62 then _ else _) = _
          rw [bv, if_neg (fun y => y rfl), k128_89 (sT_47 hSυ), hAυ.2.2.2.2.1, p2, cb]
          simp only [Option.bind_some, Option.toList_none, List.nil_append]
          rw [k128_103 (sT_47 hS3) (by rw [sR_645_47 hS3]; exact fun z => nomatch z), sR_645_47 hS3, hr2, hr21]
          have e4' : jx (d + 4) 131 0 [some (.ref 47), some (.int (nI r)), some (.int 1), none, none, none, none, none, none] [] σ3 = some (some (.int (nI n2)), σ4) := e4
          rw [e4']
          simp only [Option.bind_some, Option.toList_some, List.cons_append, List.nil_append, Option.getD_some]
          rw [k128_118 (sT_50 hS4) (by rw [sN_50 hS4]; exact g21) (sT_47 hS4), c21, eω, Iω]
        cases hY : mSideR len b W 1 (sk len b (z.2.1.1 + 2), z.2.1.2) z.2.2 with
        | none =>
          rw [hY] at r4
          have r4 : ¬ jI σ4 667 47 = 0 := r4
          refine ⟨ω, ?_, Pω, nxω, slω, by rw [Iω]; exact r4⟩
          rw [to118, Iω, if_pos r4, k128_158]
        | some y =>
          rw [hY] at r4
          obtain ⟨u1, u2, hA4, hB4, hC4, u59, uM⟩ := r4
          have zω : jI ω 667 47 = 0 := by rw [Iω]; exact hA4.2.2.2.2.2.1
          have aω : jI ω 666 47 = nI y.2.1.1 := by rw [Iω]; exact hA4.2.2.2.2.1
          have lω : jI ω 642 47 = nI len := by rw [Iω]; exact hA4.2.2.1.1
          have hpy := hA4.2.2.2.1
          rw [Option.bind_some]
          by_cases he : len ≤ y.2.1.1
          · rw [if_pos he]
            have hle : nI len ≤ nI y.2.1.1 := nI_le he (by omega)
            have v50 : jA ω 50 (2 * r) = nI z.1.length := by
              rw [← eω, zA_A, if_neg (fun y => absurd y.2 (by omega)), F4.ar (by omega) (by decide) _ (fun z => by unfold RG at z; omega), (F3.2 50 (by decide)).2, ← eυ, zA_A, if_pos ⟨rfl, rfl⟩, q1]
            refine ⟨ω, ?_, Pω, nxω, slω, zω, v50, ?_, by omega, by omega, hB4.frame Fω (by decide) (by decide), hC4.frame Fω (by decide) (by decide) (by decide), ?_, fun i hi => ?_, fun i hi => ?_⟩
            · rw [to118, if_neg (fun y => y zω), k128_126 (sT_47 hSω), lω, aω, if_pos hle, k128_158]
            · rw [← eω, zA_A, if_pos ⟨rfl, rfl⟩, u1]
            · rw [(Fω.2 59 (by decide)).2]; exact u59
            · have m1 := (qM i hi).fr Fυ (fun a h1 h2 => by simp; omega)
              have m2 := m1.fr F3 (fun a h1 h2 => by simp; omega)
              have m3 := m2.frame F4 (by omega) (by omega)
              exact m3.fr Fω (fun a h1 h2 => by simp; omega)
            · exact (uM i hi).fr Fω (fun a h1 h2 => by simp; omega)
          · rw [if_neg he]
            have hle : ¬ nI len ≤ nI y.2.1.1 := nI_ge (by omega) (by omega)
            obtain ⟨ω', e5, f5, q5⟩ := c136x (d := d + 4) (σ := ω) hSω zω (c := 1) (by decide) (jI ω 666 47)
            refine ⟨ω', ?_, Pω.mf f5, by rw [f5.1.1.2.2.2.2.1]; exact nxω, by rw [f5.1.1.2.2.2.2.2]; exact slω, q5⟩
            have hle' : ¬ jI ω 642 47 ≤ jI ω 666 47 := by rw [lω, aω]; exact hle
            rw [to118, if_neg (fun y => y zω), k128_126 (sT_47 hSω), if_neg hle', k128_137 (sT_47 hSω), e5]
            simp only [Option.bind_some, Option.toList_none, List.nil_append]
            rw [k128_146]
      · rw [if_neg (fun y => h62 y.2)]
        refine bad ?_
        rw [to55, k128_55, if_neg (fun y => y h61), k128_60 (sT_47 hSυ), hAυ.2.2.1.1, hAυ.2.2.2.2.1, p1]
        by_cases hlt2 : z.2.1.1 + 1 < len
        · have g1 : ¬ nI len ≤ nI (z.2.1.1 + 1) := nI_ge (by omega) (by omega)
          have gj : jin 400 (nI (z.2.1.1 + 1)) := jin_n (by omega) (by decide)
          have cj : (nI (z.2.1.1 + 1)).toNatClampNeg = z.2.1.1 + 1 := nI_clamp (by omega)
          have bv : ¬ jA υ 48 (z.2.1.1 + 1) = 62 := by
            rw [hAυ.2.2.1.2.2 _ hlt2]
            intro e
            refine h62 ?_
            unfold tv; rw [if_pos hlt2]; exact e
          rw [if_neg g1, k128_73 (sT_47 hSυ) (by rw [sR_641_47 hSυ]; exact fun z => nomatch z) (by rw [sR_641_47 hSυ]; exact Or.inl (sT_48 hSυ)) (by rw [sR_641_47 hSυ]; show jin (jN υ 48) _; rw [sN_48 hSυ, hAυ.2.2.2.2.1, p1]; exact gj)]
          rw [sR_641_47 hSυ, hAυ.2.2.2.2.1, p1, cj]
          show (if ¬ jA υ 48 (z.2.1.1 + 1) = 62 then _ else _) = _
          rw [if_pos bv]
        · have g1 : nI len ≤ nI (z.2.1.1 + 1) := nI_le (by omega) (by omega)
          rw [if_pos g1]
    · rw [if_neg (fun y => h61 y.1)]
      refine bad ?_
      rw [to55, k128_55, if_pos h61]
end MU2
end S_52
section S_53
/-! both readers accept alike: words and letters -/
def bad (t : Int32) : Prop := isUp t ∨ isFg t
theorem bad_ne {t : Int32} (h : bad t) : t ≠ 32 ∧ t ≠ 59 ∧ t ≠ 61 ∧ ¬ isSg t ∧ t ≠ -1 := by
  refine ⟨?_, ?_, ?_, ?_, ?_⟩
  · intro e; rw [e] at h; rcases h with h | h <;> exact absurd h (by decide)
  · intro e; rw [e] at h; rcases h with h | h <;> exact absurd h (by decide)
  · intro e; rw [e] at h; rcases h with h | h <;> exact absurd h (by decide)
  · intro e
    rcases e with e | e | e | e | e <;> (rw [e] at h; rcases h with h | h <;> exact absurd h (by decide))
  · intro e; rw [e] at h; rcases h with h | h <;> exact absurd h (by decide)
def agr {α β : Type} (t : Nat → Int32) (pa : α → Nat) (pb : β → Nat) (R : α → β → Prop) : Option α → Option β → Prop
  | some a, some c => R a c
  | none, none => True
  | some a, none => bad (t (pa a))
  | none, some c => bad (t (pb c))
theorem agr.bind {α β α' β' : Type} {t : Nat → Int32} {pa : α → Nat} {pb : β → Nat} {R : α → β → Prop} {pa' : α' → Nat} {pb' : β' → Nat} {R' : α' → β' → Prop} {x : Option α} {y : Option β} {F : α → Option α'} {G : β → Option β'} (h : agr t pa pb R x y)
    (hR : ∀ a c, R a c → agr t pa' pb' R' (F a) (G c)) (hF : ∀ a, bad (t (pa a)) → F a = none ∨ ∃ a', F a = some a' ∧ pa' a' = pa a) (hG : ∀ c, bad (t (pb c)) → G c = none ∨ ∃ c', G c = some c' ∧ pb' c' = pb c) : agr t pa' pb' R' (x.bind F) (y.bind G) := by
  cases x with
  | none =>
    cases y with
    | none => trivial
    | some c =>
      have hb : bad (t (pb c)) := h
      rw [Option.bind_none, Option.bind_some]
      rcases hG c hb with e | ⟨c', e, q⟩
      · rw [e]; trivial
      · rw [e]; show bad (t (pb' c')); rw [q]; exact hb
  | some a =>
    cases y with
    | none =>
      have hb : bad (t (pa a)) := h
      rw [Option.bind_none, Option.bind_some]
      rcases hF a hb with e | ⟨a', e, q⟩
      · rw [e]; trivial
      · rw [e]; show bad (t (pa' a')); rw [q]; exact hb
    | some c => exact hR a c h
theorem wl_lw (t : Nat → Int32) : ∀ f p, wlF t f p = lwF t f p ∨ (lwF t f p < wlF t f p ∧ isUp (t (p + lwF t f p))) := by
  intro f
  induction f with
  | zero => intro p; exact Or.inl rfl
  | succ f ih =>
    intro p
    by_cases hl : isLo (t p)
    · have e1 : wlF t (f + 1) p = wlF t f (p + 1) + 1 := if_pos (Or.inl hl)
      have e2 : lwF t (f + 1) p = lwF t f (p + 1) + 1 := if_pos hl
      rw [e1, e2]
      rcases ih (p + 1) with h | ⟨h1, h2⟩
      · exact Or.inl (by rw [h])
      · refine Or.inr ⟨by omega, ?_⟩
        rw [show p + (lwF t f (p + 1) + 1) = p + 1 + lwF t f (p + 1) by omega]
        exact h2
    · have e2 : lwF t (f + 1) p = 0 := if_neg hl
      rw [e2]
      by_cases hu : isUp (t p)
      · have e1 : wlF t (f + 1) p = wlF t f (p + 1) + 1 := if_pos (Or.inr hu)
        exact Or.inr ⟨by rw [e1]; omega, hu⟩
      · exact Or.inl (if_neg (fun z => z.elim hl hu))
theorem lw_all (t : Nat → Int32) : ∀ f p j, j < lwF t f p → isLo (t (p + j)) := by
  intro f
  induction f with
  | zero => intro p j h; exact absurd h (Nat.not_lt_zero j)
  | succ f ih =>
    intro p j h
    by_cases hl : isLo (t p)
    · have e2 : lwF t (f + 1) p = lwF t f (p + 1) + 1 := if_pos hl
      cases j with
      | zero => exact hl
      | succ j =>
        rw [show p + (j + 1) = p + 1 + j by omega]
        exact ih (p + 1) j (by omega)
    · have e2 : lwF t (f + 1) p = 0 := if_neg hl
      omega
theorem nmb_lo : ∀ k, k < 19 → ∀ j, j < nlnN k → isLo (jnmb (3 * k + j)) := by decide
theorem nln23 : ∀ k, k < 19 → 2 ≤ nlnN k := by decide
theorem kn_up {t : Nat → Int32} {p L j : Nat} (hj : j < L) (hn : ¬ isLo (t (p + j))) : knF t p L 19 0 = -1 := by
  rcases knF_ok t p L 19 0 (by decide) with h | ⟨k, hk, _, h2, h3⟩
  · exact h
  · have := (nmD_iff.mp h3) j hj
    rw [← this] at hn
    exact absurd (nmb_lo k hk j (by omega)) hn
theorem kn_zero {t : Nat → Int32} {p : Nat} : knF t p 0 19 0 = -1 := by
  rcases knF_ok t p 0 19 0 (by decide) with h | ⟨k, hk, _, h2, h3⟩
  · exact h
  · have := nln23 k hk
    omega
theorem name_agr {len : Nat} {b : Nat → Int32} {s : jPS} {tm : Bool} {tp : Prop} [Decidable tp] (ht : tm = true ↔ tp) :
    agr (tv len b) (fun x : jPS => x.1) (fun z : Int32 × Nat => z.2) (fun x z => x = (z.2, s.2.1, s.2.2.1, fun j => if j = 0 then z.1 else 0)) (sName len b tm s) (mName len b tp s.1) := by
  have kneg : knF (tv len b) s.1 (wl len b s.1) 19 0 = -1 → sName len b tm s = none := fun e => by
    unfold sName
    rw [if_pos (by rw [e]; decide)]
  rcases wl_lw (tv len b) (len - s.1) s.1 with h | ⟨h1, h2⟩
  · have h : wl len b s.1 = lw len b s.1 := h
    by_cases h0 : lw len b s.1 = 0
    · have nl : ¬ isLo (tv len b s.1) := fun z => by rw [lw_go z] at h0; omega
      rw [kneg (by rw [h, h0]; exact kn_zero)]
      unfold mName
      rw [if_pos nl]
      trivial
    · have L1 : 1 ≤ lw len b s.1 := by omega
      have all : ∀ j, j < lw len b s.1 → isLo (tv len b (s.1 + j)) := lw_all (tv len b) _ _
      have il : isLo (tv len b s.1) := all 0 L1
      rcases op_kn L1 all 19 0 (by decide) with ⟨q1, q2⟩ | ⟨q1, q2⟩
      · rw [kneg (by rw [h]; exact q1)]
        unfold mName
        rw [if_neg (fun z => z il), if_pos q2]
        trivial
      · rcases knF_ok (tv len b) s.1 (lw len b s.1) 19 0 (by decide) with w | ⟨k, hk, w, _, _⟩
        · exact absurd w q1
        · unfold sName mName
          have n1 : ¬ nI k < 0 := by
            rw [Int32.lt_iff_toInt_lt, nI_toInt (by omega)]
            have : (0 : Int32).toInt = 0 := rfl
            omega
          have n4 : ¬ nI k = -4 := by
            intro z
            rw [z] at n1
            exact n1 (by decide)
          rw [h, q2, w, if_neg n1]
          have il2 : ¬ ¬ isLo (tv len b s.1) := fun z => z il
          rw [if_neg il2, if_neg n4]
          by_cases htm : tm = true
          · rw [if_pos htm, if_pos (ht.mp htm)]; trivial
          · rw [if_neg htm, if_neg (fun z => htm (ht.mpr z))]
            exact rfl
  · have h1 : lw len b s.1 < wl len b s.1 := h1
    have h2 : isUp (tv len b (s.1 + lw len b s.1)) := h2
    have nl : ¬ isLo (tv len b (s.1 + lw len b s.1)) := fun z => absurd (Int32.le_trans z.1 h2.2) (by decide)
    rw [kneg (kn_up h1 nl)]
    cases hM : mName len b tp s.1 with
    | none => trivial
    | some z =>
      have := (mName_ok hM).2.1
      show bad (tv len b z.2)
      rw [this]
      exact Or.inl h2
theorem tvn {len : Nat} {b : Nat → Int32} (hB : BY len b) (p : Nat) : tv len b p = -1 ∨ ∃ n, n < 256 ∧ tv len b p = nI n := by
  unfold tv
  by_cases h : p < len
  · rw [if_pos h]
    obtain ⟨h1, h2⟩ := hB p h
    refine Or.inr ⟨(b p).toInt.toNat, by omega, ?_⟩
    rw [← Int32.toInt_inj, nI_toInt (by omega)]
    omega
  · rw [if_neg h]; exact Or.inl rfl
theorem r97 : ∀ n, n < 256 → ((nI n - 97 < 0 ∨ 4 ≤ nI n - 97) ↔ ¬ (97 ≤ nI n ∧ nI n ≤ 97 + 4 - 1)) := by decide +kernel
theorem r112 : ∀ n, n < 256 → ((nI n - 112 < 0 ∨ 4 ≤ nI n - 112) ↔ ¬ (112 ≤ nI n ∧ nI n ≤ 112 + 4 - 1)) := by decide +kernel
theorem r105 : ∀ n, n < 256 → ((nI n - 105 < 0 ∨ 3 ≤ nI n - 105) ↔ ¬ (105 ≤ nI n ∧ nI n ≤ 105 + 3 - 1)) := by decide +kernel
section AG1
variable {len : Nat} {b : Nat → Int32}
theorem t97 (hB : BY len b) (p : Nat) : (tv len b p - 97 < 0 ∨ 4 ≤ tv len b p - 97) ↔ ¬ (97 ≤ tv len b p ∧ tv len b p ≤ 97 + 4 - 1) := by
  rcases tvn hB p with h | ⟨n, hn, h⟩
  · rw [h]; decide
  · rw [h]; exact r97 n hn
theorem t112 (hB : BY len b) (p : Nat) : (tv len b p - 112 < 0 ∨ 4 ≤ tv len b p - 112) ↔ ¬ (112 ≤ tv len b p ∧ tv len b p ≤ 112 + 4 - 1) := by
  rcases tvn hB p with h | ⟨n, hn, h⟩
  · rw [h]; decide
  · rw [h]; exact r112 n hn
theorem t105 (hB : BY len b) (p : Nat) : (tv len b p - 105 < 0 ∨ 3 ≤ tv len b p - 105) ↔ ¬ (105 ≤ tv len b p ∧ tv len b p ≤ 105 + 3 - 1) := by
  rcases tvn hB p with h | ⟨n, hn, h⟩
  · rw [h]; decide
  · rw [h]; exact r105 n hn
end AG1
theorem bad_gapS {len : Nat} {b : Nat → Int32} {s : jPS} (h : bad (tv len b s.1)) : sGap len b s = none := if_neg (bad_ne h).1
theorem bad_gapM {len : Nat} {b : Nat → Int32} {p : Nat} (h : bad (tv len b p)) : mGap len b p = none := if_neg (bad_ne h).1
theorem gap_same {len : Nat} {b : Nat → Int32} {s : jPS} : sGap len b s = (mGap len b s.1).map (fun p => (p, s.2)) := by
  unfold sGap mGap
  by_cases h : tv len b s.1 = 32
  · rw [if_pos h, if_pos h]; rfl
  · rw [if_neg h, if_neg h]; rfl
theorem bad_sRegs {len m : Nat} {b : Nat → Int32} {f j : Nat} {s : jPS} (h : bad (tv len b s.1)) : sRegs len b m f j s = none ∨ ∃ s', sRegs len b m f j s = some s' ∧ s'.1 = s.1 := by
  cases f with
  | zero => exact Or.inr ⟨s, rfl, rfl⟩
  | succ f => refine Or.inl ?_; unfold sRegs; rw [bad_gapS h]; rfl
theorem bad_sNum {len m W k : Nat} {b : Nat → Int32} {s : jPS} (h : bad (tv len b s.1)) : sNum len b m W k s = none ∨ ∃ s', sNum len b m W k s = some s' ∧ s'.1 = s.1 := by
  unfold sNum
  by_cases hn : numN k = true
  · rw [if_pos hn, bad_gapS h]; exact Or.inl rfl
  · rw [if_neg hn]; exact Or.inr ⟨s, rfl, rfl⟩
end S_53
section S_54
/-! both readers accept the same programs -/
theorem fg_nat {c : Int32} (h : isFg c) : ∃ n, n ≤ 9 ∧ c = nI (48 + n) := by
  obtain ⟨h1, h2⟩ := h
  rw [Int32.le_iff_toInt_le] at h1 h2
  have e1 : (48 : Int32).toInt = 48 := rfl
  have e2 : (57 : Int32).toInt = 57 := rfl
  refine ⟨c.toInt.toNat - 48, by omega, ?_⟩
  rw [← Int32.toInt_inj, nI_toInt (by omega)]
  omega
theorem mNum_nat {len : Nat} {b : Nat → Int32} {p : Nat} {z : Int32 × Nat} (h : mNum len b p = some z) : ∃ v, v < 16 ∧ z.1 = nI v := by
  have H : ∀ v, z.1 = nI v → v < 2 ^ 31 → v < 16 := by
    intro v e hv
    have lt := mNum_lt h
    rw [e, show (16 : Int32) = nI 16 from rfl, n31 hv (by decide)] at lt
    exact lt
  unfold mNum at h
  split at h
  · cases h
  · rename_i h0
    split at h
    · cases h
    · rename_i h2
      split at h
      · cases h
      · cases h
        have f0 : isFg (tv len b p) := Classical.byContradiction (fun z => h0 (fw_stop z))
        obtain ⟨n, hn, en⟩ := fg_nat f0
        have e1 : nv (tv len b) p 1 = nI n := by
          show 10 * 0 + tv len b (p + 0) - 48 = _
          rw [show p + 0 = p from rfl, en, show (10 : Int32) * 0 = nI 0 from rfl, nadd, show (48 : Int32) = nI 48 from rfl, nsub (by omega)]
          congr 1
          omega
        have eg := fw_go f0
        by_cases f1 : isFg (tv len b (p + 1))
        · have eg1 := fw_go f1
          have w2 : fw len b p = 2 := by omega
          obtain ⟨m, hm, em⟩ := fg_nat f1
          have e2 : nv (tv len b) p 2 = nI (10 * n + m) := by
            show 10 * nv (tv len b) p 1 + tv len b (p + 1) - 48 = _
            rw [e1, em, show (10 : Int32) = nI 10 from rfl, nmul, nadd, show (48 : Int32) = nI 48 from rfl, nsub (by omega)]
            congr 1
            omega
          refine ⟨10 * n + m, H _ ?_ (by omega), ?_⟩ <;> (show nv (tv len b) p (fw len b p) = _; rw [w2, e2])
        · have w1 : fw len b p = 1 := by rw [eg, fw_stop f1]
          refine ⟨n, H _ ?_ (by omega), ?_⟩ <;> (show nv (tv len b) p (fw len b p) = _; rw [w1, e1])
theorem bad_mRegsP {len : Nat} {b : Nat → Int32} {f j p : Nat} {g : Nat → Int32} (h : bad (tv len b p)) : mRegsP len b f j p g = none ∨ ∃ z, mRegsP len b f j p g = some z ∧ z.1 = p := by
  cases f with
  | zero => exact Or.inr ⟨(p, g), rfl, rfl⟩
  | succ f => refine Or.inl ?_; unfold mRegsP; rw [bad_gapM h]; rfl
theorem bad_mNumP {len W k : Nat} {b : Nat → Int32} {p : Nat} {g : Nat → Int32} (h : bad (tv len b p)) : mNumP len b W k p g = none ∨ ∃ z, mNumP len b W k p g = some z ∧ z.1 = p := by
  unfold mNumP
  by_cases hn : numN k = true
  · rw [if_pos hn, bad_gapM h]; exact Or.inl rfl
  · rw [if_neg hn]; exact Or.inr ⟨(p, g), rfl, rfl⟩
theorem letP_agr {len : Nat} {b : Nat → Int32} (hB : BY len b) {j : Nat} {s : jPS} : agr (tv len b) (fun x : jPS => x.1) (fun z : Int32 × Nat => z.2) (fun x z => x = (z.2, s.2.1, s.2.2.1, up6 s.2.2.2 j z.1)) (sReg len b 0 j s) (mLet len b 97 4 s.1) := by
  rw [mLet_eq (by decide) (by decide)]
  unfold sReg
  have e := t97 hB s.1
  have i0 : (if (0 : Nat) = 0 then (97 : Int32) else 112) = 97 := rfl
  rw [i0]
  by_cases hr : 97 ≤ tv len b s.1 ∧ tv len b s.1 ≤ 97 + 4 - 1
  · have n1 : ¬ (tv len b s.1 - 97 < 0 ∨ 4 ≤ tv len b s.1 - 97) := fun z => e.mp z hr
    by_cases hl : isLo (tv len b (s.1 + 1))
    · rw [if_pos (Or.inr (Or.inr (Or.inl hl))), if_neg (fun z => z.2.1 hl)]; trivial
    · by_cases hu : isUp (tv len b (s.1 + 1))
      · have nf : ¬ isFg (tv len b (s.1 + 1)) := fun z => absurd (Int32.le_trans hu.1 z.2) (by decide)
        rw [if_pos (Or.inr (Or.inr (Or.inr hu))), if_pos ⟨hr, hl, nf⟩]
        exact Or.inl hu
      · have n2 : ¬ (tv len b s.1 - 97 < 0 ∨ 4 ≤ tv len b s.1 - 97 ∨ (isLo (tv len b (s.1 + 1)) ∨ isUp (tv len b (s.1 + 1)))) := fun z => by
          rcases z with z | z | z | z
          · exact n1 (Or.inl z)
          · exact n1 (Or.inr z)
          · exact hl z
          · exact hu z
        rw [if_neg n2, if_pos rfl]
        by_cases hf : isFg (tv len b (s.1 + 1))
        · rw [if_neg (fun z => z.2.2 hf)]
          exact Or.inr hf
        · rw [if_pos ⟨hr, hl, hf⟩]
          exact rfl
  · have n1 := e.mpr hr
    have n2 : tv len b s.1 - 97 < 0 ∨ 4 ≤ tv len b s.1 - 97 ∨ (isLo (tv len b (s.1 + 1)) ∨ isUp (tv len b (s.1 + 1))) := by
      rcases n1 with z | z
      · exact Or.inl z
      · exact Or.inr (Or.inl z)
    rw [if_pos n2, if_neg (fun z => hr z.1)]
    trivial
def RPs (s x : jPS) (z : Nat × (Nat → Int32)) : Prop := x.1 = z.1 ∧ x.2.1 = s.2.1 ∧ x.2.2.1 = s.2.2.1 ∧ x.2.2.2 0 = s.2.2.2 0 ∧ (∀ t, t < 3 → x.2.2.2 (t + 1) = z.2 t) ∧ x.2.2.2 4 = s.2.2.2 4 ∧ x.2.2.2 5 = s.2.2.2 5
theorem regsP_agr {len : Nat} {b : Nat → Int32} (hB : BY len b) : ∀ (f j : Nat) (s : jPS) (g : Nat → Int32), j + f ≤ 3 → (∀ t, t < 3 → s.2.2.2 (t + 1) = g t) →
    agr (tv len b) (fun x : jPS => x.1) (fun z : Nat × (Nat → Int32) => z.1) (RPs s) (sRegs len b 0 f (j + 1) s) (mRegsP len b f j s.1 g) := by
  intro f
  induction f with
  | zero => intro j s g _ hg; exact ⟨rfl, rfl, rfl, rfl, hg, rfl, rfl⟩
  | succ f ih =>
    intro j s g hj hg
    unfold sRegs mRegsP
    rw [gap_same]
    cases hG : mGap len b s.1 with
    | none => trivial
    | some p1 =>
      rw [Option.map_some, Option.bind_some, Option.bind_some]
      refine agr.bind (letP_agr hB (j := j + 1) (s := (p1, s.2))) (fun x z hx => ?_) (fun x hx => bad_sRegs hx) (fun z hz => bad_mRegsP hz)
      have hx : x = (z.2, s.2.1, s.2.2.1, up6 s.2.2.2 (j + 1) z.1) := hx
      have q := ih (j + 1) x (up6 g j z.1) (by omega) (by
        intro t ht
        rw [hx]
        show (if t + 1 = j + 1 then z.1 else s.2.2.2 (t + 1)) = if t = j then z.1 else g t
        by_cases h : t = j
        · rw [if_pos h, if_pos (by omega)]
        · rw [if_neg h, if_neg (by omega)]; exact hg t ht)
      have x1 : x.1 = z.2 := by rw [hx]
      have x0 : x.2.2.2 0 = s.2.2.2 0 := by rw [hx]; show (if 0 = j + 1 then z.1 else s.2.2.2 0) = _; rw [if_neg (by omega)]
      have x4 : x.2.2.2 4 = s.2.2.2 4 := by rw [hx]; show (if 4 = j + 1 then z.1 else s.2.2.2 4) = _; rw [if_neg (by omega)]
      have x5 : x.2.2.2 5 = s.2.2.2 5 := by rw [hx]; show (if 5 = j + 1 then z.1 else s.2.2.2 5) = _; rw [if_neg (by omega)]
      have xr : x.2.1 = s.2.1 ∧ x.2.2.1 = s.2.2.1 := by rw [hx]; exact ⟨rfl, rfl⟩
      rw [x1] at q
      have e : RPs x = RPs s := by
        funext y w
        unfold RPs
        rw [x0, x4, x5, xr.1, xr.2]
      rw [e] at q
      exact q
theorem numP_agr {len W k : Nat} {b : Nat → Int32} (hW : W = 1 ∨ W = 2 ∨ W = 3) (s x : jPS) (z : Nat × (Nat → Int32)) (h : RPs s x z) :
    agr (tv len b) (fun x : jPS => x.1) (fun z : Nat × (Nat → Int32) => z.1) (RPs s) (sNum len b 0 W k x) (mNumP len b W k z.1 z.2) := by
  obtain ⟨h1, h2, h3, h4, h5, h6, h7⟩ := h
  unfold sNum mNumP
  by_cases hn : numN k = true
  · rw [if_pos hn, if_pos hn, gap_same, h1]
    cases hG : mGap len b z.1 with
    | none => trivial
    | some p1 =>
      rw [Option.map_some, Option.bind_some, Option.bind_some]
      by_cases hf : isFg (tv len b p1)
      · rw [num_same (s := (p1, x.2)) hf]
        show agr _ _ _ _ ((Option.map _ (mNum len b p1)).bind _) _
        cases hM : mNum len b p1 with
        | none => trivial
        | some y =>
          rw [Option.map_some, Option.bind_some, Option.map_some]
          have lt := mNum_lt hM
          have n0 : ¬ ((0 : Nat) = 2 ∧ isSg (tv len b y.2)) := fun q => absurd q.1 (by decide)
          have n16 : ¬ (16 : Int32) ≤ up6 x.2.2.2 2 y.1 2 := fun q => absurd lt (Int32.not_lt.mpr q)
          show agr _ _ _ _ (if (0 : Nat) = 2 ∧ isSg (tv len b y.2) then _ else if (16 : Int32) ≤ up6 x.2.2.2 2 y.1 2 then _ else some (y.2, x.2.1, x.2.2.1, up6 (up6 x.2.2.2 2 y.1) 2 (kptX W k (up6 x.2.2.2 2 y.1 2)))) _
          rw [if_neg n0, if_neg n16]
          refine ⟨rfl, h2, h3, h4, fun t ht => ?_, h6, h7⟩
          show (if t + 1 = 2 then kptX W k y.1 else if t + 1 = 2 then _ else x.2.2.2 (t + 1)) = if t = 1 then kpM W k y.1 else z.2 t
          by_cases ht1 : t = 1
          · rw [if_pos ht1, if_pos (by omega)]
            obtain ⟨v, hv, ev⟩ : ∃ v, v < 16 ∧ y.1 = nI v := mNum_nat hM
            rw [ev, show nI v = nI (v + 15) - 15 by rw [show (15 : Int32) = nI 15 from rfl, nsub (by omega)]; congr 1]
            exact (kpM_kptX hW hn (by omega)).symm
          · rw [if_neg ht1, if_neg (by omega), if_neg (by omega)]; exact h5 t ht
      · have e1 : sTerm len b 0 2 (p1, x.2) = none := by
          unfold sTerm sMark
          rw [if_neg hf, if_pos (Or.inl rfl)]
        have e2 : mNum len b p1 = none := by
          unfold mNum
          rw [if_pos (fw_stop hf)]
        rw [e1, e2]
        trivial
  · rw [if_neg hn, if_neg hn]
    exact ⟨h1, h2, h3, h4, h5, h6, h7⟩
/-- one order of the class's reader -/
def sOrdC (len : Nat) (b : Nat → Int32) (m W most n : Nat) (s : jPS) : Option jPS := (sName len b (n == most) s).bind (fun s1 => (sRegs len b m (regN (s1.2.2.2 0).toNatClampNeg) 1 s1).bind (fun s2 => sNum len b m W (s1.2.2.2 0).toNatClampNeg s2))
theorem sOrds_eq {len m W most f n : Nat} {b : Nat → Int32} {s : jPS} : sOrds len b m W most (f + 1) n s = (sOrdC len b m W most n s).bind (fun s3 => match sClose len b m (sk len b s3.1) with | some p => some ([s3.2.2.2], (p, s3.2)) | none => if tv len b (sk len b s3.1) = 59 then (sOrds len b m W most f (n + 1) (sk len b (sk len b s3.1 + 1), s3.2)).map (fun z => (s3.2.2.2 :: z.1, z.2)) else none) := by
  unfold sOrdC
  rw [Option.bind_assoc]
  show (sName len b (n == most) s).bind _ = _
  congr 1
  funext s1
  rw [Option.bind_assoc]
  rfl
theorem agr.mapR {α β β' : Type} {t : Nat → Int32} {pa : α → Nat} {pb : β → Nat} {R : α → β → Prop} {pb' : β' → Nat} {R' : α → β' → Prop} {x : Option α} {y : Option β} {h : β → β'} (g : agr t pa pb R x y) (hR : ∀ a c, R a c → R' a (h c)) (hp : ∀ c, pb' (h c) = pb c) : agr t pa pb' R' x (y.map h) := by
  cases x with
  | none =>
    cases y with
    | none => trivial
    | some c => have g : bad (t (pb c)) := g; show bad (t (pb' (h c))); rw [hp]; exact g
  | some a =>
    cases y with
    | none => exact g
    | some c => exact hR a c g
theorem ordP_agr {len W n : Nat} {b : Nat → Int32} (hB : BY len b) (hW : W = 1 ∨ W = 2 ∨ W = 3) (hn : n ≤ 24) (s : jPS) :
    agr (tv len b) (fun x : jPS => x.1) (fun z : Nat × Nat × (Nat → Int32) => z.2.1) (fun x z => x.1 = z.2.1 ∧ x.2.1 = s.2.1 ∧ x.2.2.1 = s.2.2.1 ∧ (∀ t, t < 4 → x.2.2.2 t = mFn z.1 z.2.2 t) ∧ x.2.2.2 4 = 0 ∧ x.2.2.2 5 = 0) (sOrdC len b 0 W 24 n s) (mOrd len b W n s.1) := by
  unfold sOrdC mOrd
  have ht : ((n == 24) = true) ↔ nI n = 24 := by
    rw [show (24 : Int32) = nI 24 from rfl, n31eq (by omega) (by decide)]
    exact beq_iff_eq
  have N := name_agr (len := len) (b := b) (s := s) ht
  cases hS : sName len b (n == 24) s with
  | none =>
    cases hM : mName len b (nI n = 24) s.1 with
    | none => trivial
    | some z =>
      rw [hS, hM] at N
      have N : bad (tv len b z.2) := N
      rw [Option.bind_none, Option.bind_some]
      rcases bad_mRegsP (f := regN z.1.toNatClampNeg) (j := 0) (g := fun _ => 0) N with e | ⟨y, e, q⟩
      · rw [e]; trivial
      · rw [e, Option.bind_some]
        rcases bad_mNumP (W := W) (k := z.1.toNatClampNeg) (g := y.2) (p := y.1) (by rw [q]; exact N) with e2 | ⟨x, e2, q2⟩
        · rw [e2]; trivial
        · rw [e2]; show bad (tv len b x.1); rw [q2, q]; exact N
  | some s1 =>
    cases hM : mName len b (nI n = 24) s.1 with
    | none =>
      rw [hS, hM] at N
      have N : bad (tv len b s1.1) := N
      rw [Option.bind_none, Option.bind_some]
      rcases bad_sRegs (m := 0) (f := regN (s1.2.2.2 0).toNatClampNeg) (j := 1) N with e | ⟨y, e, q⟩
      · rw [e]; trivial
      · rw [e, Option.bind_some]
        rcases bad_sNum (m := 0) (W := W) (k := (s1.2.2.2 0).toNatClampNeg) (s := y) (by rw [q]; exact N) with e2 | ⟨x, e2, q2⟩
        · rw [e2]; trivial
        · rw [e2]; show bad (tv len b x.1); rw [q2, q]; exact N
    | some z =>
      rw [hS, hM] at N
      have N : s1 = (z.2, s.2.1, s.2.2.1, fun j => if j = 0 then z.1 else 0) := N
      obtain ⟨⟨k, hk, zk⟩, -, -, -⟩ := mName_ok hM
      have s0 : s1.2.2.2 0 = z.1 := by rw [N]; rfl
      rw [Option.bind_some, Option.bind_some, s0]
      have kc : z.1.toNatClampNeg = k := by rw [zk]; exact nI_clamp (by omega)
      have R := regsP_agr hB (regN z.1.toNatClampNeg) 0 s1 (fun _ => 0) (by have := regN3 z.1.toNatClampNeg; omega) (by intro t _; rw [N]; rfl)
      have s11 : s1.1 = z.2 := by rw [N]
      rw [s11] at R
      refine agr.bind R (fun x y hxy => (numP_agr (k := z.1.toNatClampNeg) hW s1 x y hxy).mapR (fun a c hac => ?_) (fun _ => rfl)) (fun x hx => bad_sNum hx) (fun y hy => ?_)
      · obtain ⟨h1, h2, h3, h4, h5, h6, h7⟩ := hac
        refine ⟨h1, by rw [h2, N], by rw [h3, N], fun t ht => ?_, by rw [h6, N]; rfl, by rw [h7, N]; rfl⟩
        show _ = mFn z.1.toNatClampNeg c.2 t
        rw [kc]
        unfold mFn
        rcases jnf4 ht with q | q | q | q
        · subst q; rw [if_pos rfl, h4, s0, zk]
        · subst q; exact h5 0 (by decide)
        · subst q; exact h5 1 (by decide)
        · subst q; exact h5 2 (by decide)
      · rcases bad_mNumP (W := W) (k := z.1.toNatClampNeg) (g := y.2) (p := y.1) hy with e2 | ⟨x, e2, q2⟩
        · rw [e2]; exact Or.inl rfl
        · rw [e2]; exact Or.inr ⟨_, rfl, q2⟩
theorem bad_tail {len : Nat} {b : Nat → Int32} {p : Nat} (h : bad (tv len b p)) : sk len b p = p ∧ ¬ len ≤ p ∧ ¬ tv len b p = 59 ∧ ¬ tv len b p = 61 := by
  obtain ⟨h1, h2, h3, h4, h5⟩ := bad_ne h
  exact ⟨sk_stop h1, by have := tv_in h5; omega, h2, h3⟩
theorem ordsP {len W : Nat} {b : Nat → Int32} (hB : BY len b) (hW : W = 1 ∨ W = 2 ∨ W = 3) : ∀ (f n : Nat) (s : jPS), n + f ≤ 25 →
    (match sOrds len b 0 W 24 f n s, mOrds len b W f n s.1 with | some z, some os => z.1.length = os.length ∧ ∀ i j, i < os.length → j < 4 → (z.1.getD i (fun _ => 0)) j = (os.getD i (fun _ => 0)) j | none, none => True | _, _ => False) := by
  intro f
  induction f with
  | zero => intro n s _; trivial
  | succ f ih =>
    intro n s hn
    rw [sOrds_eq]
    unfold mOrds
    have A := ordP_agr hB hW (n := n) (by omega) s
    have tailS : ∀ x : jPS, bad (tv len b x.1) → (match sClose len b 0 (sk len b x.1) with | some p => some ([x.2.2.2], (p, x.2)) | none => if tv len b (sk len b x.1) = 59 then (sOrds len b 0 W 24 f (n + 1) (sk len b (sk len b x.1 + 1), x.2)).map (fun z => (x.2.2.2 :: z.1, z.2)) else none) = none := by
      intro x hx
      obtain ⟨q1, q2, q3, q4⟩ := bad_tail hx
      have e : sClose len b 0 (sk len b x.1) = none := by
        unfold sClose
        rw [if_neg (by decide), q1, if_neg q2]
      rw [e, q1]
      exact if_neg q3
    have tailM : ∀ z : Nat × Nat × (Nat → Int32), bad (tv len b z.2.1) → (if tv len b (sk len b z.2.1) = 59 then (mOrds len b W f (n + 1) (sk len b (sk len b z.2.1 + 1))).map (fun os => mFn z.1 z.2.2 :: os) else if len ≤ sk len b z.2.1 then some [mFn z.1 z.2.2] else none) = none := by
      intro z hz
      obtain ⟨q1, q2, q3, q4⟩ := bad_tail hz
      rw [q1, if_neg q3, if_neg q2]
    cases hS : sOrdC len b 0 W 24 n s with
    | none =>
      cases hM : mOrd len b W n s.1 with
      | none => trivial
      | some z =>
        rw [hS, hM] at A
        rw [Option.bind_none, Option.bind_some, tailM z A]
        trivial
    | some x =>
      cases hM : mOrd len b W n s.1 with
      | none =>
        rw [hS, hM] at A
        rw [Option.bind_none, Option.bind_some, tailS x A]
        trivial
      | some z =>
        rw [hS, hM] at A
        obtain ⟨h1, h2, h3, h4, h5, h6⟩ := A
        rw [Option.bind_some, Option.bind_some, ← h1]
        by_cases he : len ≤ sk len b x.1
        · have n59 : ¬ tv len b (sk len b x.1) = 59 := by rw [tv_out he]; decide
          have e : sClose len b 0 (sk len b x.1) = some (sk len b x.1) := by
            unfold sClose
            rw [if_neg (by decide), if_pos he]
          have e2 : (if tv len b (sk len b x.1) = 59 then (mOrds len b W f (n + 1) (sk len b (sk len b x.1 + 1))).map (fun os => mFn z.1 z.2.2 :: os) else if len ≤ sk len b x.1 then some [mFn z.1 z.2.2] else none) = some [mFn z.1 z.2.2] := by rw [if_neg n59, if_pos he]
          rw [e, e2]
          refine ⟨rfl, fun i j hi hj => ?_⟩
          have i0 : i = 0 := by have : i < 1 := hi; omega
          subst i0
          exact h4 j hj
        · have e : sClose len b 0 (sk len b x.1) = none := by
            unfold sClose
            rw [if_neg (by decide), if_neg he]
          rw [e]
          dsimp only
          by_cases h59 : tv len b (sk len b x.1) = 59
          · have I := ih (n + 1) (sk len b (sk len b x.1 + 1), x.2) (by omega)
            rw [if_pos h59, if_pos h59]
            cases hS2 : sOrds len b 0 W 24 f (n + 1) (sk len b (sk len b x.1 + 1), x.2) with
            | none =>
              cases hM2 : mOrds len b W f (n + 1) (sk len b (sk len b x.1 + 1)) with
              | none => trivial
              | some os => rw [hS2, hM2] at I; exact I.elim
            | some y =>
              cases hM2 : mOrds len b W f (n + 1) (sk len b (sk len b x.1 + 1)) with
              | none => rw [hS2, hM2] at I; exact I.elim
              | some os =>
                rw [hS2, hM2] at I
                obtain ⟨I1, I2⟩ := I
                refine ⟨by show y.1.length + 1 = os.length + 1; rw [I1], fun i j hi hj => ?_⟩
                cases i with
                | zero => exact h4 j hj
                | succ i => exact I2 i j (by have : i + 1 < os.length + 1 := hi; omega) hj
          · rw [if_neg h59, if_neg h59, if_neg he]
            trivial
theorem progs_same {len W : Nat} {b : Nat → Int32} (hB : BY len b) (hW : W = 1 ∨ W = 2 ∨ W = 3) :
    (match sProg len b W, mProg len b W with | some z, some os => z.length = os.length ∧ ∀ i j, i < os.length → j < 4 → (z.getD i (fun _ => 0)) j = (os.getD i (fun _ => 0)) j | none, none => True | _, _ => False) := by
  unfold sProg mProg
  by_cases h : len ≤ sk len b 0
  · rw [if_pos h, if_pos h]
    exact ⟨rfl, fun i j hi => absurd hi (Nat.not_lt_zero i)⟩
  · rw [if_neg h, if_neg h]
    have I := ordsP hB hW 25 0 (sk len b 0, [], [], fun _ => 0) (by decide)
    cases hS : sOrds len b 0 W 24 25 0 (sk len b 0, [], [], fun _ => 0) with
    | none =>
      cases hM : mOrds len b W 25 0 (sk len b 0) with
      | none => trivial
      | some os => rw [hS, hM] at I; exact I.elim
    | some z =>
      cases hM : mOrds len b W 25 0 (sk len b 0) with
      | none => rw [hS, hM] at I; exact I.elim
      | some os => rw [hS, hM] at I; exact I
end S_54
section S_55
/-! both readers accept the same rules -/
theorem bad_mRegsR {len : Nat} {b : Nat → Int32} {fs : Bool} {f j : Nat} {s : jPS} (h : bad (tv len b s.1)) : mRegsR len b fs f j s = none ∨ ∃ s', mRegsR len b fs f j s = some s' ∧ s'.1 = s.1 := by
  cases f with
  | zero => exact Or.inr ⟨s, rfl, rfl⟩
  | succ f => refine Or.inl ?_; unfold mRegsR; rw [bad_gapM h]; rfl
theorem bad_mNumR {len : Nat} {b : Nat → Int32} {W sd k : Nat} {s : jPS} {rg : Nat → Int32} (h : bad (tv len b s.1)) : mNumR len b W sd k s rg = none ∨ ∃ y, mNumR len b W sd k s rg = some y ∧ y.1.1 = s.1 := by
  unfold mNumR
  by_cases hn : numN k = true
  · rw [if_pos hn, bad_gapM h]; exact Or.inl rfl
  · rw [if_neg hn]; exact Or.inr ⟨(s, rg), rfl, rfl⟩
theorem agr.mapL {α β α' : Type} {t : Nat → Int32} {pa : α → Nat} {pb : β → Nat} {R : α → β → Prop} {pa' : α' → Nat} {R' : α' → β → Prop} {x : Option α} {y : Option β} {h : α → α'} (g : agr t pa pb R x y) (hR : ∀ a c, R a c → R' (h a) c) (hp : ∀ a, pa' (h a) = pa a) : agr t pa' pb R' (x.map h) y := by
  cases x with
  | none =>
    cases y with
    | none => trivial
    | some c => exact g
  | some a =>
    cases y with
    | none => have g : bad (t (pa a)) := g; show bad (t (pa' (h a))); rw [hp]; exact g
    | some c => exact hR a c g
/-- a letter alone: the class's test against the reference's -/
theorem let_agr {len : Nat} {b : Nat → Int32} {p : Nat} {x y : Int32} (hx : 97 ≤ x) (hy : x + y - 1 ≤ 122) (e : (tv len b p - x < 0 ∨ y ≤ tv len b p - x) ↔ ¬ (x ≤ tv len b p ∧ tv len b p ≤ x + y - 1)) :
    agr (tv len b) (fun z : Int32 × Nat => z.2) (fun z : Int32 × Nat => z.2) Eq (if tv len b p - x < 0 ∨ y ≤ tv len b p - x ∨ (isLo (tv len b (p + 1)) ∨ isUp (tv len b (p + 1))) then none else some (tv len b p - x, p + 1)) (mLet len b x y p) := by
  rw [mLet_eq hx hy]
  by_cases hr : x ≤ tv len b p ∧ tv len b p ≤ x + y - 1
  · have n1 : ¬ (tv len b p - x < 0 ∨ y ≤ tv len b p - x) := fun z => e.mp z hr
    by_cases hl : isLo (tv len b (p + 1))
    · rw [if_pos (Or.inr (Or.inr (Or.inl hl))), if_neg (fun z => z.2.1 hl)]; trivial
    · by_cases hu : isUp (tv len b (p + 1))
      · have nf : ¬ isFg (tv len b (p + 1)) := fun z => absurd (Int32.le_trans hu.1 z.2) (by decide)
        rw [if_pos (Or.inr (Or.inr (Or.inr hu))), if_pos ⟨hr, hl, nf⟩]
        exact Or.inl hu
      · have n2 : ¬ (tv len b p - x < 0 ∨ y ≤ tv len b p - x ∨ (isLo (tv len b (p + 1)) ∨ isUp (tv len b (p + 1)))) := fun z => by
          rcases z with z | z | z | z
          · exact n1 (Or.inl z)
          · exact n1 (Or.inr z)
          · exact hl z
          · exact hu z
        rw [if_neg n2]
        by_cases hf : isFg (tv len b (p + 1))
        · rw [if_neg (fun z => z.2.2 hf)]
          exact Or.inr hf
        · rw [if_pos ⟨hr, hl, hf⟩]
          exact rfl
  · have n1 := e.mpr hr
    have n2 : tv len b p - x < 0 ∨ y ≤ tv len b p - x ∨ (isLo (tv len b (p + 1)) ∨ isUp (tv len b (p + 1))) := by
      rcases n1 with z | z
      · exact Or.inl z
      · exact Or.inr (Or.inl z)
    rw [if_pos n2, if_neg (fun z => hr z.1)]
    trivial
theorem regR_agr {len : Nat} {b : Nat → Int32} (hB : BY len b) {m j : Nat} (hm : ¬ m = 0) {s : jPS} : agr (tv len b) (fun x : jPS => x.1) (fun z : Nat × Nat × List Nat => z.1) (fun x z => x = (z.1, z.2.2, s.2.2.1, up6 s.2.2.2 j (nI z.2.1))) (sReg len b m j s) (mRegR len b (m == 1) s.1 s.2.1) := by
  have A := let_agr (len := len) (b := b) (p := s.1) (x := 112) (y := 4) (by decide) (by decide) (t112 hB s.1)
  have e : sReg len b m j s = (if tv len b s.1 - 112 < 0 ∨ 4 ≤ tv len b s.1 - 112 ∨ (isLo (tv len b (s.1 + 1)) ∨ isUp (tv len b (s.1 + 1))) then none else some (tv len b s.1 - 112, s.1 + 1)).bind (fun z : Int32 × Nat => (lk s.2.1 z.1.toNatClampNeg (m == 1)).map (fun y => (z.2, y.2, s.2.2.1, up6 s.2.2.2 j (nI y.1)))) := by
    unfold sReg
    rw [if_neg hm, if_neg hm]
    by_cases h : tv len b s.1 - 112 < 0 ∨ 4 ≤ tv len b s.1 - 112 ∨ (isLo (tv len b (s.1 + 1)) ∨ isUp (tv len b (s.1 + 1)))
    · rw [if_pos h, if_pos h]; rfl
    · rw [if_neg h, if_neg h]; rfl
  rw [e]
  unfold mRegR
  refine agr.bind A (fun a c h => ?_) (fun a ha => ?_) (fun c hc => ?_)
  · have h : a = c := h
    subst h
    cases lk s.2.1 a.1.toNatClampNeg (m == 1) with
    | none => trivial
    | some y => exact rfl
  · cases lk s.2.1 a.1.toNatClampNeg (m == 1) with
    | none => exact Or.inl rfl
    | some y => exact Or.inr ⟨_, rfl, rfl⟩
  · cases lk s.2.1 c.1.toNatClampNeg (m == 1) with
    | none => exact Or.inl rfl
    | some y => exact Or.inr ⟨_, rfl, rfl⟩
theorem regsR_agr {len : Nat} {b : Nat → Int32} (hB : BY len b) {m : Nat} (hm : ¬ m = 0) : ∀ (f j : Nat) (s : jPS), agr (tv len b) (fun x : jPS => x.1) (fun x : jPS => x.1) Eq (sRegs len b m f (j + 1) s) (mRegsR len b (m == 1) f j s) := by
  intro f
  induction f with
  | zero => intro j s; exact rfl
  | succ f ih =>
    intro j s
    unfold sRegs mRegsR
    rw [gap_same]
    cases hG : mGap len b s.1 with
    | none => trivial
    | some p1 =>
      rw [Option.map_some, Option.bind_some, Option.bind_some]
      refine agr.bind (regR_agr hB (j := j + 1) hm (s := (p1, s.2))) (fun x z hx => ?_) (fun x hx => bad_sRegs hx) (fun z hz => bad_mRegsR (s := (z.1, z.2.2, s.2.2.1, up6 s.2.2.2 (j + 1) (nI z.2.1))) hz)
      have hx : x = (z.1, z.2.2, s.2.2.1, up6 s.2.2.2 (j + 1) (nI z.2.1)) := hx
      rw [hx]
      exact ih (j + 1) _
theorem mark_agr {len : Nat} {b : Nat → Int32} (hB : BY len b) {m j W op : Nat} (hm : ¬ m = 0) {s : jPS} {rg : Nat → Int32} : agr (tv len b) (fun x : jPS => x.1) (fun z : Nat × Nat × List Nat × (Nat → Int32) => z.1) (fun x z => x = (z.1, s.2.1, z.2.2.1, up6 s.2.2.2 j (16 + nI z.2.1))) (sMark len b m j s) (mMark len b W op (m == 1) s.1 s.2.2.1 rg) := by
  have A := let_agr (len := len) (b := b) (p := s.1) (x := 105) (y := 3) (by decide) (by decide) (t105 hB s.1)
  have e : sMark len b m j s = (if tv len b s.1 - 105 < 0 ∨ 3 ≤ tv len b s.1 - 105 ∨ (isLo (tv len b (s.1 + 1)) ∨ isUp (tv len b (s.1 + 1))) then none else some (tv len b s.1 - 105, s.1 + 1)).bind (fun z : Int32 × Nat => (lk s.2.2.1 z.1.toNatClampNeg (m == 1)).map (fun y => (z.2, s.2.1, y.2, up6 s.2.2.2 j (16 + nI y.1)))) := by
    unfold sMark
    by_cases h : tv len b s.1 - 105 < 0 ∨ 3 ≤ tv len b s.1 - 105 ∨ (isLo (tv len b (s.1 + 1)) ∨ isUp (tv len b (s.1 + 1)))
    · rw [if_pos (Or.inr h), if_pos h]; rfl
    · rw [if_neg (fun z => z.elim hm h), if_neg h]; rfl
  rw [e]
  unfold mMark
  refine agr.bind A (fun a c h => ?_) (fun a ha => ?_) (fun c hc => ?_)
  · have h : a = c := h
    subst h
    cases lk s.2.2.1 a.1.toNatClampNeg (m == 1) with
    | none => trivial
    | some y => exact rfl
  · cases lk s.2.2.1 a.1.toNatClampNeg (m == 1) with
    | none => exact Or.inl rfl
    | some y => exact Or.inr ⟨_, rfl, rfl⟩
  · cases lk s.2.2.1 c.1.toNatClampNeg (m == 1) with
    | none => exact Or.inl rfl
    | some y => exact Or.inr ⟨_, rfl, rfl⟩
theorem term_agr {len : Nat} {b : Nat → Int32} (hB : BY len b) {m j W op : Nat} (hm : ¬ m = 0) {s : jPS} {rg : Nat → Int32} : agr (tv len b) (fun x : jPS => x.1) (fun z : Nat × List Nat × (Nat → Int32) × Int32 => z.1) (fun x z => x = (z.1, s.2.1, z.2.1, up6 s.2.2.2 j z.2.2.2)) (sTerm len b m j s) (mTermR len b W op (m == 1) s.1 s.2.2.1 rg) := by
  unfold mTermR
  by_cases hf : isFg (tv len b s.1)
  · rw [num_same hf, if_pos hf]
    cases mNum len b s.1 with
    | none => trivial
    | some z => exact rfl
  · have e : sTerm len b m j s = sMark len b m j s := by unfold sTerm; rw [if_neg hf]
    rw [e, if_neg hf]
    exact (mark_agr hB (W := W) (op := op) (rg := rg) hm (j := j)).mapR (fun a c h => h) (fun _ => rfl)
/-- what the class keeps of an order: a number that stands alone is kept -/
def keepF (W : Nat) (o : Nat → Int32) : Nat → Int32 := if numN (o 0).toNatClampNeg = true ∧ o 4 = 0 ∧ ¬ 16 ≤ o 2 then up6 o 2 (kptX W (o 0).toNatClampNeg (o 2)) else o
def RRs (W : Nat) (x : jPS) (y : jPS × (Nat → Int32)) : Prop := x.1 = y.1.1 ∧ x.2.1 = y.1.2.1 ∧ x.2.2.1 = y.1.2.2.1 ∧ x.2.2.2 = keepF W y.1.2.2.2
theorem numR_agr {len : Nat} {b : Nat → Int32} (hB : BY len b) {W sd k : Nat} (hk : k < 19) (hsd : sd = 0 ∨ sd = 1) {s : jPS} {rg : Nat → Int32} (h4 : s.2.2.2 4 = 0) (h0 : s.2.2.2 0 = nI k) : agr (tv len b) (fun x : jPS => x.1) (fun y : jPS × (Nat → Int32) => y.1.1) (RRs W) (sNum len b (sd + 1) W k s) (mNumR len b W sd k s rg) := by
  have kc : (nI k).toNatClampNeg = k := nI_clamp (by omega)
  have hm : ¬ sd + 1 = 0 := by omega
  have ms : (sd == 0) = (sd + 1 == 1) := by rcases hsd with h | h <;> subst h <;> rfl
  unfold sNum mNumR
  by_cases hn : numN k = true
  · rw [if_pos hn, if_pos hn, gap_same, ms]
    cases hG : mGap len b s.1 with
    | none => trivial
    | some p1 =>
      rw [Option.map_some, Option.bind_some, Option.bind_some]
      refine agr.bind (term_agr hB (W := W) (op := k) (rg := rg) hm (j := 2) (s := (p1, s.2))) (fun x y hx => ?_) (fun x hx => ?_) (fun y hy => ?_)
      · have hx : x = (y.1, s.2.1, y.2.1, up6 s.2.2.2 2 y.2.2.2) := hx
        have x1 : x.1 = y.1 := by rw [hx]
        have ec : (sd + 1 = 2 ∧ isSg (tv len b x.1)) ↔ (sd = 1 ∧ isSg (tv len b y.1)) := by
          rw [x1]
          constructor
          · intro z; exact ⟨by omega, z.2⟩
          · intro z; exact ⟨by omega, z.2⟩
        by_cases hs : sd = 1 ∧ isSg (tv len b y.1)
        · rw [if_pos (ec.mpr hs), if_pos hs]
          have T := term_agr hB (W := W) (op := k) (rg := y.2.2.1) hm (j := 5) (s := (x.1 + 1, x.2.1, x.2.2.1, up6 x.2.2.2 4 (tv len b x.1)))
          have ef : (sd + 1 == 1) = false := by rw [hs.1]; rfl
          rw [ef] at T
          have T' := T.mapR (R' := RRs W) (pb' := fun y : jPS × (Nat → Int32) => y.1.1) (h := fun z => ((z.1, s.2.1, z.2.1, up6 (up6 (up6 s.2.2.2 2 y.2.2.2) 4 (tv len b y.1)) 5 z.2.2.2), z.2.2.1)) (fun a c hac => by
            have hac : a = (c.1, x.2.1, c.2.1, up6 (up6 x.2.2.2 4 (tv len b x.1)) 5 c.2.2.2) := hac
            rw [hac, hx]
            refine ⟨rfl, rfl, rfl, ?_⟩
            show up6 (up6 (up6 s.2.2.2 2 y.2.2.2) 4 (tv len b y.1)) 5 c.2.2.2 = keepF W (up6 (up6 (up6 s.2.2.2 2 y.2.2.2) 4 (tv len b y.1)) 5 c.2.2.2)
            unfold keepF
            rw [if_neg]
            intro z
            exact (isSg_in hs.2).2 z.2.1) (fun _ => rfl)
          have ex : mTermR len b W k false (x.1 + 1) x.2.2.1 y.2.2.1 = mTermR len b W k false (y.1 + 1) y.2.1 y.2.2.1 := by rw [hx]
          have T2 : agr (tv len b) (fun x : jPS => x.1) (fun y : jPS × (Nat → Int32) => y.1.1) (RRs W) (sTerm len b (sd + 1) 5 (x.1 + 1, x.2.1, x.2.2.1, up6 x.2.2.2 4 (tv len b x.1))) (Option.map (fun z => ((z.1, s.2.1, z.2.1, up6 (up6 (up6 s.2.2.2 2 y.2.2.2) 4 (tv len b y.1)) 5 z.2.2.2), z.2.2.1)) (mTermR len b W k false (x.1 + 1) x.2.2.1 y.2.2.1)) := T'
          rw [ex] at T2
          exact T2
        · rw [if_neg (fun z => hs (ec.mp z)), if_neg hs]
          have o0 : (up6 s.2.2.2 2 y.2.2.2 0).toNatClampNeg = k := by show (s.2.2.2 0).toNatClampNeg = k; rw [h0, kc]
          have o4 : up6 s.2.2.2 2 y.2.2.2 4 = 0 := h4
          by_cases h16 : (16 : Int32) ≤ x.2.2.2 2
          · rw [if_pos h16]
            rw [hx] at h16 ⊢
            refine ⟨rfl, rfl, rfl, ?_⟩
            show up6 s.2.2.2 2 y.2.2.2 = keepF W (up6 s.2.2.2 2 y.2.2.2)
            unfold keepF
            rw [if_neg (fun z => z.2.2 h16)]
          · rw [if_neg h16]
            rw [hx] at h16 ⊢
            refine ⟨rfl, rfl, rfl, ?_⟩
            show up6 (up6 s.2.2.2 2 y.2.2.2) 2 (kptX W k (up6 s.2.2.2 2 y.2.2.2 2)) = keepF W (up6 s.2.2.2 2 y.2.2.2)
            unfold keepF
            rw [o0, if_pos ⟨hn, o4, h16⟩]
      · have ns : ¬ (sd + 1 = 2 ∧ isSg (tv len b x.1)) := fun z => (bad_ne hx).2.2.2.1 z.2
        rw [if_neg ns]
        by_cases h16 : (16 : Int32) ≤ x.2.2.2 2
        · rw [if_pos h16]; exact Or.inr ⟨_, rfl, rfl⟩
        · rw [if_neg h16]; exact Or.inr ⟨_, rfl, rfl⟩
      · have ns : ¬ (sd = 1 ∧ isSg (tv len b y.1)) := fun z => (bad_ne hy).2.2.2.1 z.2
        rw [if_neg ns]; exact Or.inr ⟨_, rfl, rfl⟩
  · rw [if_neg hn, if_neg hn]
    refine ⟨rfl, rfl, rfl, ?_⟩
    show s.2.2.2 = keepF W s.2.2.2
    unfold keepF
    rw [if_neg]
    intro z
    rw [h0, kc] at z
    exact hn z.1
theorem ordR_agr {len : Nat} {b : Nat → Int32} (hB : BY len b) {W sd n : Nat} (hsd : sd = 0 ∨ sd = 1) (hn : n ≤ 4) (s s' : jPS) (rg : Nat → Int32) (e1 : s.1 = s'.1) (e2 : s.2.1 = s'.2.1) (e3 : s.2.2.1 = s'.2.2.1) :
    agr (tv len b) (fun x : jPS => x.1) (fun y : jPS × (Nat → Int32) => y.1.1) (RRs W) (sOrdC len b (sd + 1) W 4 n s) (mOrdS len b W sd n s' rg) := by
  have hm : ¬ sd + 1 = 0 := by omega
  have ms : (sd == 0) = (sd + 1 == 1) := by rcases hsd with h | h <;> subst h <;> rfl
  unfold sOrdC mOrdS
  rw [← e1, ← e2, ← e3]
  have ht : ((n == 4) = true) ↔ nI n = 4 := by
    rw [show (4 : Int32) = nI 4 from rfl, n31eq (by omega) (by decide)]
    exact beq_iff_eq
  cases hM : mName len b (nI n = 4) s.1 with
  | none =>
    have N := name_agr (len := len) (b := b) (s := s) ht
    rw [hM] at N
    cases hS : sName len b (n == 4) s with
    | none => trivial
    | some s1 =>
      rw [hS] at N
      have N : bad (tv len b s1.1) := N
      rw [Option.bind_none, Option.bind_some]
      rcases bad_sRegs (m := sd + 1) (f := regN (s1.2.2.2 0).toNatClampNeg) (j := 1) N with e | ⟨y, e, q⟩
      · rw [e]; trivial
      · rw [e, Option.bind_some]
        rcases bad_sNum (m := sd + 1) (W := W) (k := (s1.2.2.2 0).toNatClampNeg) (s := y) (by rw [q]; exact N) with e2 | ⟨x, e2, q2⟩
        · rw [e2]; trivial
        · rw [e2]; show bad (tv len b x.1); rw [q2, q]; exact N
  | some z =>
    have N := name_agr (len := len) (b := b) (s := s) ht
    rw [hM] at N
    obtain ⟨⟨k, hk, zk⟩, -, -, -⟩ := mName_ok hM
    have kc : z.1.toNatClampNeg = k := by rw [zk]; exact nI_clamp (by omega)
    cases hS : sName len b (n == 4) s with
    | none =>
      rw [hS] at N
      have N : bad (tv len b z.2) := N
      rw [Option.bind_none, Option.bind_some]
      rcases bad_mRegsR (fs := (sd == 0)) (f := regN z.1.toNatClampNeg) (j := 0) (s := (z.2, s.2.1, s.2.2.1, fun j => if j = 0 then z.1 else 0)) N with e | ⟨y, e, q⟩
      · rw [e]; trivial
      · rw [e, Option.bind_some]
        have q : y.1 = z.2 := q
        rcases bad_mNumR (W := W) (sd := sd) (k := z.1.toNatClampNeg) (s := y) (rg := rg) (by rw [q]; exact N) with e2 | ⟨x, e2, q2⟩
        · rw [e2]; trivial
        · rw [e2]; show bad (tv len b x.1.1); rw [q2, q]; exact N
    | some s1 =>
      rw [hS] at N
      have N : s1 = (z.2, s.2.1, s.2.2.1, fun j => if j = 0 then z.1 else 0) := N
      have s0 : s1.2.2.2 0 = z.1 := by rw [N]; rfl
      rw [Option.bind_some, Option.bind_some, s0, ← N, ms, kc]
      have A := regsR_agr hB hm (regN k) 0 s1
      cases hX : mRegsR len b (sd + 1 == 1) (regN k) 0 s1 with
      | none =>
        rw [hX] at A
        cases hY : sRegs len b (sd + 1) (regN k) (0 + 1) s1 with
        | none => trivial
        | some x =>
          rw [hY] at A
          have A : bad (tv len b x.1) := A
          rw [Option.bind_none, Option.bind_some]
          rcases bad_sNum (m := sd + 1) (W := W) (k := k) A with e2 | ⟨w, e2, q2⟩
          · rw [e2]; trivial
          · rw [e2]; show bad (tv len b w.1); rw [q2]; exact A
      | some x =>
        rw [hX] at A
        obtain ⟨-, kf⟩ := mRegsR_keep _ _ _ _ hX
        have k0 : x.2.2.2 0 = nI k := by rw [kf 0 (Or.inl (Nat.le_refl 0)), s0, zk]
        have k4 : x.2.2.2 4 = 0 := by rw [kf 4 (Or.inr (by have := regN3 k; omega)), N]; rfl
        cases hY : sRegs len b (sd + 1) (regN k) (0 + 1) s1 with
        | none =>
          rw [hY] at A
          have A : bad (tv len b x.1) := A
          rw [Option.bind_none, Option.bind_some]
          rcases bad_mNumR (W := W) (sd := sd) (k := k) (rg := rg) A with e2 | ⟨w, e2, q2⟩
          · rw [e2]; trivial
          · rw [e2]; show bad (tv len b w.1.1); rw [q2]; exact A
        | some x' =>
          rw [hY] at A
          have A : x' = x := A
          rw [Option.bind_some, Option.bind_some, A]
          exact numR_agr hB hk hsd k4 k0
end S_55
