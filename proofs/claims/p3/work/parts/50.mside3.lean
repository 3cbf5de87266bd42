/-! the reference's reader: a side -/
def RG (r k1 k2 a i : Nat) : Prop := ((a = 56 ∨ a = 57 ∨ a = 59) ∧ i = r) ∨ (a = 58 ∧ 3 * r ≤ i ∧ i < 3 * r + 3) ∨ a = 71 ∨ a = 72 ∨ ((a = 51 ∨ a = 55) ∧ k1 ≤ i ∧ i < k2) ∨ (a = 52 ∧ 3 * k1 ≤ i ∧ i < 3 * k2) ∨ ((a = 53 ∨ a = 54) ∧ 2 * k1 ≤ i ∧ i < 2 * k2)
theorem RG.wide {r k1 k2 j1 j2 a i : Nat} (h1 : j1 ≤ k1) (h2 : k2 ≤ j2) (h : RG r k1 k2 a i) : RG r j1 j2 a i := by
  unfold RG at h ⊢
  omega
/-- the reference's rows hold this order at k -/
def MO (σ : jS) (k : Nat) (o : Nat → Int32) : Prop := jA σ 51 k = o 0 ∧ (∀ j, j < regN (o 0).toNatClampNeg → jA σ 52 (3 * k + j) = o (j + 1)) ∧ (numN (o 0).toNatClampNeg = true → MT σ (2 * k) (o 2)) ∧ jA σ 55 k = o 4 ∧ (¬ o 4 = 0 → MT σ (2 * k + 1) (o 5))
theorem regN3 (k : Nat) : regN k ≤ 3 := by
  by_cases hk : k < 19
  · rcases k19 hk with h | h | h | h | h | h | h | h | h | h | h | h | h | h | h | h | h | h | h <;> (subst h; decide)
  · unfold regN
    rw [List.getD_eq_getElem?_getD, List.getElem?_eq_none (by simp; omega)]
    decide
theorem numN1 {k : Nat} (h : numN k = true) : regN k = 1 := by
  by_cases hk : k < 19
  · rcases k19 hk with q | q | q | q | q | q | q | q | q | q | q | q | q | q | q | q | q | q | q <;> subst q <;> revert h <;> decide
  · unfold numN at h
    simp at h
    omega
theorem MO.frame {σ σ' : jS} {r k k1 k2 : Nat} {o : Nat → Int32} (h : MO σ k o) (f : PF (RG r k1 k2) σ σ') (hx : 81 ≤ jnx σ) (hk : k < k1) : MO σ' k o := by
  obtain ⟨h1, h2, h3, h4, h5⟩ := h
  have e53 : ∀ i, i < 2 * k1 → jA σ' 53 i = jA σ 53 i := fun i hi => f.ar hx (by decide) i (fun z => by unfold RG at z; omega)
  have e54 : ∀ i, i < 2 * k1 → jA σ' 54 i = jA σ 54 i := fun i hi => f.ar hx (by decide) i (fun z => by unfold RG at z; omega)
  refine ⟨?_, fun j hj => ?_, fun hn => (h3 hn).frame (e53 _ (by omega)) (e54 _ (by omega)), ?_, fun hn => (h5 hn).frame (e53 _ (by omega)) (e54 _ (by omega))⟩
  · rw [f.ar hx (by decide) k (fun z => by unfold RG at z; omega)]; exact h1
  · have := regN3 (o 0).toNatClampNeg
    rw [f.ar hx (by decide) (3 * k + j) (fun z => by unfold RG at z; omega)]; exact h2 j hj
  · rw [f.ar hx (by decide) k (fun z => by unfold RG at z; omega)]; exact h4
theorem mNumR_keep {len : Nat} {b : Nat → Int32} {W sd op : Nat} {s : jPS} {rg : Nat → Int32} {y : jPS × (Nat → Int32)} (h : mNumR len b W sd op s rg = some y) : y.1.2.1 = s.2.1 ∧ (∀ t, (t = 0 ∨ t = 1 ∨ t = 3 ∨ ¬ numN op = true) → y.1.2.2.2 t = s.2.2.2 t) := by
  unfold mNumR at h
  split at h
  · rename_i hn
    obtain ⟨p1, h1, h2⟩ := Option.bind_eq_some_iff.mp h
    obtain ⟨z, h3, h4⟩ := Option.bind_eq_some_iff.mp h2
    have q : ∀ t, (t = 0 ∨ t = 1 ∨ t = 3 ∨ ¬ numN op = true) → ¬ t = 2 ∧ ¬ t = 4 ∧ ¬ t = 5 := fun t ht => by
      rcases ht with ht | ht | ht | ht
      · omega
      · omega
      · omega
      · exact absurd hn ht
    split at h4
    · obtain ⟨x, h5, h6⟩ := Option.map_eq_some_iff.mp h4
      subst h6
      refine ⟨rfl, fun t ht => ?_⟩
      show (if t = 5 then _ else if t = 4 then _ else if t = 2 then _ else _) = _
      rw [if_neg (q t ht).2.2, if_neg (q t ht).2.1, if_neg (q t ht).1]
    · cases h4
      refine ⟨rfl, fun t ht => ?_⟩
      show (if t = 2 then _ else _) = _
      rw [if_neg (q t ht).1]
  · cases h; exact ⟨rfl, fun _ _ => rfl⟩
def mOrdS (len : Nat) (b : Nat → Int32) (W sd n : Nat) (s : jPS) (rg : Nat → Int32) : Option (jPS × (Nat → Int32)) :=
  (mName len b (nI n = 4) s.1).bind (fun z => (mRegsR len b (sd == 0) (regN z.1.toNatClampNeg) 0 (z.2, s.2.1, s.2.2.1, fun j => if j = 0 then z.1 else 0)).bind (fun s2 => mNumR len b W sd z.1.toNatClampNeg s2 rg))
section MS3
variable {d : Nat} {len W : Nat} {b : Nat → Int32}
theorem c131a {σ : jS} {s : jPS} {rg : Nat → Int32} (hx : 81 ≤ jnx σ) (hA : rdA σ W len b s.1) {r n : Nat} (hr : r < 24) (hB : rdB σ r s.2.1) (hC : rdC σ r s.2.2.1 rg) {sd : Nat} (hsd : sd = 0 ∨ sd = 1) (hn : n < 5) {x5 x6 x7 x8 : Option Value} :
    ∃ σ', PF (RG r (8 * r + 4 * sd + n) (8 * r + 4 * sd + n + 1)) σ σ' ∧ jnx σ' = jnx σ ∧ jsl σ' = jsl σ ∧ jA σ' 59 r = jA σ 59 r ∧ (match mOrdS len b W sd n s rg with
      | some y => (∃ op v7 v8, op < 19 ∧ y.1.2.2.2 0 = nI op ∧ n < 4 ∧ jx (d + 4) 131 24 [some (.ref 47), some (.int (nI r)), some (.int (nI sd)), some (.int (nI n)), some (.int 1), x5, x6, x7, x8] [] σ = jx (d + 4) 131 256 [some (.ref 47), some (.int (nI r)), some (.int (nI sd)), some (.int (nI n)), some (.int 1), some (.int (nI op)), some (.int (nI (8 * r + 4 * sd + n))), v7, v8] [] σ') ∧ rdA σ' W len b y.1.1 ∧ rdB σ' r y.1.2.1 ∧ rdC σ' r y.1.2.2.1 y.2 ∧ MO σ' (8 * r + 4 * sd + n) y.1.2.2.2
      | none => jx (d + 4) 131 24 [some (.ref 47), some (.int (nI r)), some (.int (nI sd)), some (.int (nI n)), some (.int 1), x5, x6, x7, x8] [] σ = some (some (.int (nI n)), σ') ∧ ¬ jI σ' 667 47 = 0) := by
  have hA0 := hA
  obtain ⟨hS, hN, hT, hp, hat, h0, hw⟩ := hA
  obtain ⟨k, ek⟩ : ∃ k, 8 * r + 4 * sd + n = k := ⟨_, rfl⟩
  have hk8 : (8 : Int32) * nI r + 4 * nI sd + nI n = nI k := by rw [show (8 : Int32) = nI 8 from rfl, show (4 : Int32) = nI 4 from rfl, nmul, nmul, nadd, nadd, ek]
  rw [ek]
  have fin : ∀ (υ : jS), SH υ → ¬ jI υ 667 47 = 0 → ∀ y5 y6 y7 y8 : Option Value, jx (d + 4) 131 256 [some (.ref 47), some (.int (nI r)), some (.int (nI sd)), some (.int (nI n)), some (.int 1), y5, y6, y7, y8] [] υ = some (some (.int (nI n)), υ) := by
    intro υ hSu hf y5 y6 y7 y8
    rw [k131_256 (sT_47 hSu), if_pos hf, k131_314, k131_24, if_neg (by decide), k131_29 (sT_47 hSu), if_pos hf, k131_317]
  have stop : ∀ (υ : jS), SH υ → ¬ jI υ 667 47 = 0 → ∀ y5 y6 y7 y8 : Option Value, jx (d + 4) 131 129 [some (.ref 47), some (.int (nI r)), some (.int (nI sd)), some (.int (nI n)), some (.int 1), y5, y6, y7, y8] [] υ = some (some (.int (nI n)), υ) := by
    intro υ hSu hf y5 y6 y7 y8
    rw [k131_129 (sT_47 hSu), if_pos hf, k131_153 (sT_47 hSu), if_pos hf]
    exact fin υ hSu hf _ _ _ _
  obtain ⟨w, σ1, e1, f1, r1⟩ := c132 (d := d + 1) hS hN hT hp hat h0 (nI n) 4
  have hS1 := f1.1.sh hS
  have F1 : PF (RG r k (k + 1)) σ σ1 := (PF.refl _ σ).mf f1
  have nx1 : jnx σ1 = jnx σ := f1.1.1.2.2.2.2.1
  have sl1 : jsl σ1 = jsl σ := f1.1.1.2.2.2.2.2
  have start : jx (d + 4) 131 24 [some (.ref 47), some (.int (nI r)), some (.int (nI sd)), some (.int (nI n)), some (.int 1), x5, x6, x7, x8] [] σ = if ¬ jI σ1 667 47 = 0 then jx (d + 4) 131 71 [some (.ref 47), some (.int (nI r)), some (.int (nI sd)), some (.int (nI n)), some (.int 1), some (.int w), some (.int (nI k)), x7, x8] [] σ1 else jx (d + 4) 131 63 [some (.ref 47), some (.int (nI r)), some (.int (nI sd)), some (.int (nI n)), some (.int 1), some (.int w), some (.int (nI k)), x7, x8] [] σ1 := by
    rw [k131_24, if_neg (by decide), k131_29 (sT_47 hS), if_neg (fun z => z h0), k131_36 (sT_47 hS), e1]
    simp only [Option.bind_some, Option.toList_some, List.cons_append, List.nil_append]
    rw [k131_42 (sT_47 hS1), hk8]
  unfold mOrdS
  cases hM : mName len b (nI n = 4) s.1 with
  | none =>
    rw [hM] at r1
    have r1 : ¬ jI σ1 667 47 = 0 := r1
    refine ⟨σ1, F1, nx1, sl1, (f1.1.2 59 (by decide)).2 r, ?_, r1⟩
    rw [start, if_pos r1, k131_71, k131_77, if_pos (by decide)]
    exact stop σ1 hS1 r1 _ _ _ _
  | some z =>
    rw [hM] at r1
    obtain ⟨w1, a1, z1⟩ := r1
    obtain ⟨⟨op, ho, zk⟩, -, -, h4⟩ := mName_ok hM
    have hn4 : n < 4 := by
      have : n ≠ 4 := fun e => h4 (by rw [e]; rfl)
      omega
    have hk : k < 192 := by omega
    have hp1 := mName_le hp hM
    have wk : w = nI op := w1.trans zk
    have kc : z.1.toNatClampNeg = op := by rw [zk]; exact nI_clamp (by omega)
    have hr3 := regN3 op
    have hA1 : rdA σ1 W len b z.2 := hA0.frame f1.1 f1.2 (by decide) (by decide) hp1 a1 z1
    have hB1 : rdB σ1 r s.2.1 := hB.frame f1.1 (by decide) (by decide)
    have hC1 : rdC σ1 r s.2.2.1 rg := hC.frame f1.1 (by decide) (by decide) (by decide)
    obtain ⟨σ2, v8, e2, f2, g2, q56, q52, r2⟩ := c131r (d := d) (len := len) (W := W) (b := b) hr hk hr3 hsd (x3 := some (.int (nI n))) (x4 := some (.int 1)) (x5 := some (.int (nI op))) (regN op) 0 (z.2, s.2.1, s.2.2.1, fun j => if j = 0 then z.1 else 0) σ1 (by omega) hA1 hB1
    have hS2 := f2.sh hS1
    have F2 : PF (RG r k (k + 1)) σ σ2 := F1.F f2 g2 (fun a ha => by
      simp at ha
      rcases ha with ha | ha | ha | ha
      · exact Or.inl ha
      · exact Or.inr (Or.inr ⟨by omega, fun i hi => absurd (Or.inr (Or.inr (Or.inl ha))) hi⟩)
      · refine Or.inr (Or.inr ⟨by omega, fun i hi => ?_⟩)
        subst ha
        exact q56 i (fun e => hi (Or.inl ⟨Or.inl rfl, e⟩))
      · refine Or.inr (Or.inr ⟨by omega, fun i hi => ?_⟩)
        subst ha
        exact q52 i (fun e => hi (by unfold RG; omega)))
    have nx2 : jnx σ2 = jnx σ := by rw [f2.1.2.2.2.2.1]; exact nx1
    have sl2 : jsl σ2 = jsl σ := by rw [f2.1.2.2.2.2.2]; exact sl1
    have h59 : jA σ2 59 r = jA σ 59 r := by rw [(f2.2 59 (by decide)).2, (f1.1.2 59 (by decide)).2]
    have to129 : jx (d + 4) 131 24 [some (.ref 47), some (.int (nI r)), some (.int (nI sd)), some (.int (nI n)), some (.int 1), x5, x6, x7, x8] [] σ = jx (d + 4) 131 129 [some (.ref 47), some (.int (nI r)), some (.int (nI sd)), some (.int (nI n)), some (.int 1), some (.int (nI op)), some (.int (nI k)), some (.int (nI (regN op))), v8] [] σ2 := by
      rw [start, if_neg (fun y => y z1), wk, k131_63, c137 ho]
      simp only [Option.bind_some, Option.toList_some, List.cons_append, List.nil_append]
      rw [k131_68]
      exact e2
    rw [Option.bind_some, kc]
    cases hR : mRegsR len b (sd == 0) (regN op) 0 (z.2, s.2.1, s.2.2.1, fun j => if j = 0 then z.1 else 0) with
    | none =>
      rw [hR] at r2
      have r2 : ¬ jI σ2 667 47 = 0 := r2
      refine ⟨σ2, F2, nx2, sl2, h59, ?_, r2⟩
      rw [to129]
      exact stop σ2 hS2 r2 _ _ _ _
    | some s2 =>
      rw [hR] at r2
      obtain ⟨hA2, hB2, hR2⟩ := r2
      obtain ⟨km, kf⟩ := mRegsR_keep _ _ _ _ hR
      have km' : s2.2.2.1 = s.2.2.1 := km
      have kf0 : s2.2.2.2 0 = z.1 := kf 0 (Or.inl (Nat.le_refl 0))
      have kf4 : s2.2.2.2 4 = 0 := kf 4 (Or.inr (by omega))
      have hC2 : rdC σ2 r s2.2.2.1 rg := by rw [km']; exact hC1.frame f2 (by decide) (by decide) (by decide)
      obtain ⟨σ3, e3, f3, g3, q57, q58, q534, q515, r3⟩ := c131n (d := d) hA2 hr hk ho hC2 hsd kf4 (x3 := some (.int (nI n))) (x4 := some (.int 1)) (x7 := some (.int (nI (regN op)))) (x8 := v8)
      have hS3 := f3.sh hS2
      have F3 : PF (RG r k (k + 1)) σ σ3 := F2.F f3 g3 (fun a ha => by
        simp at ha
        rcases ha with ha | ha | ha | ha | ha | ha | ha | ha
        · exact Or.inl ha
        · exact Or.inr (Or.inr ⟨by omega, fun i hi => absurd (Or.inr (Or.inr (Or.inr (Or.inl ha)))) hi⟩)
        · refine Or.inr (Or.inr ⟨by omega, fun i hi => ?_⟩)
          subst ha
          exact q57 i (fun e => hi (Or.inl ⟨Or.inr (Or.inl rfl), e⟩))
        · refine Or.inr (Or.inr ⟨by omega, fun i hi => ?_⟩)
          subst ha
          exact q58 i (fun e => hi (Or.inr (Or.inl ⟨rfl, e⟩)))
        · refine Or.inr (Or.inr ⟨by omega, fun i hi => ?_⟩)
          subst ha
          exact (q534 i (fun e => hi (by unfold RG; omega))).1
        · refine Or.inr (Or.inr ⟨by omega, fun i hi => ?_⟩)
          subst ha
          exact (q534 i (fun e => hi (by unfold RG; omega))).2
        · refine Or.inr (Or.inr ⟨by omega, fun i hi => ?_⟩)
          subst ha
          exact (q515 i (fun e => hi (by unfold RG; omega))).1
        · refine Or.inr (Or.inr ⟨by omega, fun i hi => ?_⟩)
          subst ha
          exact (q515 i (fun e => hi (by unfold RG; omega))).2)
      refine ⟨σ3, F3, by rw [f3.1.2.2.2.2.1]; exact nx2, by rw [f3.1.2.2.2.2.2]; exact sl2, by rw [(f3.2 59 (by decide)).2]; exact h59, ?_⟩
      rw [Option.bind_some]
      cases hO : mNumR len b W sd op s2 rg with
      | none =>
        rw [hO] at r3
        have r3 : ¬ jI σ3 667 47 = 0 := r3
        refine ⟨?_, r3⟩
        rw [to129, e3]
        exact fin σ3 hS3 r3 _ _ _ _
      | some y =>
        rw [hO] at r3
        obtain ⟨hA3, hC3, o51, oM, o55, oM2⟩ := r3
        obtain ⟨kr, kt⟩ := mNumR_keep hO
        have y0 : y.1.2.2.2 0 = nI op := by rw [kt 0 (Or.inl rfl), kf0, zk]
        have yc : (y.1.2.2.2 0).toNatClampNeg = op := by rw [y0]; exact nI_clamp (by omega)
        refine ⟨⟨op, _, _, ho, y0, hn4, to129.trans e3⟩, hA3, ?_, hC3, ?_⟩
        · rw [kr]; exact hB2.frame f3 (by decide) (by decide)
        · refine ⟨by rw [o51, y0], fun j hj => ?_, fun hn' => ?_, o55, oM2⟩
          · rw [yc] at hj
            rw [(f3.2 52 (by decide)).2, hR2 j (Nat.zero_le j) hj]
            by_cases hnn : numN op = true
            · have := numN1 hnn
              rw [kt (j + 1) (Or.inr (Or.inl (by omega)))]
            · rw [kt (j + 1) (Or.inr (Or.inr (Or.inr hnn)))]
          · rw [yc] at hn'
            exact oM hn'
theorem c131e {σ : jS} {p : Nat} (hA : rdA σ W len b p) {r op n k : Nat} (hr : r < 24) (ho : op < 19) {sd : Nat} {hc : Bool} (h59 : jA σ 59 r = if hc = true then 1 else 0) {x7 x8 : Option Value} :
    ∃ x4, jx (d + 4) 131 256 [some (.ref 47), some (.int (nI r)), some (.int (nI sd)), some (.int (nI n)), some (.int 1), some (.int (nI op)), some (.int (nI k)), x7, x8] [] σ = jx (d + 4) 131 24 [some (.ref 47), some (.int (nI r)), some (.int (nI sd)), some (.int (nI (n + 1))), some (.int x4), some (.int (nI op)), some (.int (nI k)), x7, x8] [] (jsI (jsA σ 59 r (if (hc || celN op) = true then 1 else 0)) 666 47 (nI (if tv len b (sk len b p) = 59 then sk len b (sk len b p + 1) else sk len b p))) ∧ x4 = if tv len b (sk len b p) = 59 then 1 else 0 := by
  have hA0 := hA
  obtain ⟨hS, hN, hT, hp, hat, h0, hw⟩ := hA
  have gr : jin 24 (nI r) := jin_n hr (by decide)
  have cr : (nI r).toNatClampNeg = r := nI_clamp (by omega)
  have a1 : ((1 : Int32) &&& 1) = 1 := rfl
  have a0 : ((0 : Int32) &&& 1) = 0 := rfl
  have main : jx (d + 4) 131 256 [some (.ref 47), some (.int (nI r)), some (.int (nI sd)), some (.int (nI n)), some (.int 1), some (.int (nI op)), some (.int (nI k)), x7, x8] [] σ = (jx (d + 3) 148 0 [some (.ref 47)] [] (jsA σ 59 r (if (hc || celN op) = true then 1 else 0))).bind (fun z => jx (d + 4) 131 304 [some (.ref 47), some (.int (nI r)), some (.int (nI sd)), some (.int (nI (n + 1))), some (.int 1), some (.int (nI op)), some (.int (nI k)), x7, x8] (z.1.toList ++ []) z.2) := by
    cases hc with
    | true =>
      have e : (if (true || celN op) = true then (1 : Int32) else 0) = 1 := rfl
      have h59' : jA σ 59 r = 1 := h59
      rw [e]
      simp (decide := true) only [k131_256, k131_263, k131_291N, sT_1, sT_2, sT_3, sT_16, sT_17, sT_18, sT_19, sT_20, sT_21, sT_22, sT_23, sT_24, sT_25, sT_26, sT_27, sT_28, sT_29, sT_30, sT_31, sT_32, sT_33, sT_34, sT_35, sT_36, sT_37, sT_38, sT_39, sT_40, sT_41, sT_42, sT_43, sT_44, sT_45, sT_46, sT_47, sT_48, sT_49, sT_50, sT_51, sT_52, sT_53, sT_54, sT_55, sT_56, sT_57, sT_58, sT_59, sT_60, sT_61, sT_62, sT_63, sT_64, sT_65, sT_66, sT_67, sT_68, sT_69, sT_70, sT_71, sT_72, sT_73, sT_74, sT_75, sT_76, sT_77, sT_78, sT_79, sT_80, sN_1, sN_2, sN_19, sN_21, sN_23, sN_24, sN_26, sN_29, sN_31, sN_33, sN_35, sN_36, sN_37, sN_39, sN_40, sN_42, sN_44, sN_45, sN_46, sN_48, sN_49, sN_50, sN_51, sN_52, sN_53, sN_54, sN_55, sN_56, sN_57, sN_58, sN_59, sN_60, sN_61, sN_62, sN_63, sN_64, sN_65, sN_66, sN_67, sN_68, sN_69, sN_70, sN_71, sN_72, sN_73, sN_74, sN_75, sN_76, sN_77, sN_78, sN_79, sN_80, sR_0_34, sR_0_38, sR_1_34, sR_1_38, sR_64_20, sR_64_22, sR_128_25, sR_128_28, sR_194_17, sR_195_17, sR_196_17, sR_197_17, sR_258_30, sR_258_32, sR_258_41, sR_384_43, sR_448_18, sR_512_27, sR_513_27, sR_514_27, sR_515_27, sR_516_27, sR_576_16, sR_577_16, sR_578_16, sR_579_16, sR_580_16, sR_581_16, sR_582_16, sR_583_16, sR_584_16, sR_641_47, sR_643_47, sR_645_47, sR_646_47, sR_647_47, sR_648_47, sR_649_47, sR_650_47, sR_651_47, sR_652_47, sR_653_47, sR_654_47, sR_655_47, sR_656_47, sR_657_47, sR_658_47, sR_659_47, sR_661_47, sR_662_47, sR_663_47, sR_664_47, sR_665_47, sR_669_47, sR_670_47, sR_671_47, sR_672_47, sR_673_47, sR_674_47, sR_676_47, sR_677_47, sR_679_47, sR_680_47, sR_681_47, SH_I, SH_A, SH_G, SH_C, hS, h0, gr, cr, a1, h59', nI_succ, Option.getD_some, ne_eq, reduceCtorEq, not_false_eq_true, not_true_eq_false, Option.bind_some, Option.toList_none, Option.toList_some, List.nil_append, List.cons_append, List.append_nil, ↓reduceIte, and_self, true_and, and_true, false_and, and_false, or_true, true_or, or_false, false_or, Nat.reduceEqDiff, Nat.reduceAdd, Int32.reduceMul, Int32.reduceAdd, Int32.reduceSub, Int32.reduceToNatClampNeg, Int32.reduceOfNat, Int32.reduceLT, Int32.reduceLE, va_rf]
    | false =>
      have h59' : jA σ 59 r = 0 := h59
      have i15 : nI op = 15 ↔ op = 15 := by rw [show (15 : Int32) = nI 15 from rfl, n31eq (by omega) (by omega)]
      have i16 : nI op = 16 ↔ op = 16 := by rw [show (16 : Int32) = nI 16 from rfl, n31eq (by omega) (by omega)]
      by_cases h15 : op = 15
      · subst h15
        have e : (if (false || celN 15) = true then (1 : Int32) else 0) = 1 := rfl
        have f15 : nI 15 = (15 : Int32) := rfl
        rw [e]
        simp (decide := true) only [k131_256, k131_263, k131_277, k131_291N, sT_1, sT_2, sT_3, sT_16, sT_17, sT_18, sT_19, sT_20, sT_21, sT_22, sT_23, sT_24, sT_25, sT_26, sT_27, sT_28, sT_29, sT_30, sT_31, sT_32, sT_33, sT_34, sT_35, sT_36, sT_37, sT_38, sT_39, sT_40, sT_41, sT_42, sT_43, sT_44, sT_45, sT_46, sT_47, sT_48, sT_49, sT_50, sT_51, sT_52, sT_53, sT_54, sT_55, sT_56, sT_57, sT_58, sT_59, sT_60, sT_61, sT_62, sT_63, sT_64, sT_65, sT_66, sT_67, sT_68, sT_69, sT_70, sT_71, sT_72, sT_73, sT_74, sT_75, sT_76, sT_77, sT_78, sT_79, sT_80, sN_1, sN_2, sN_19, sN_21, sN_23, sN_24, sN_26, sN_29, sN_31, sN_33, sN_35, sN_36, sN_37, sN_39, sN_40, sN_42, sN_44, sN_45, sN_46, sN_48, sN_49, sN_50, sN_51, sN_52, sN_53, sN_54, sN_55, sN_56, sN_57, sN_58, sN_59, sN_60, sN_61, sN_62, sN_63, sN_64, sN_65, sN_66, sN_67, sN_68, sN_69, sN_70, sN_71, sN_72, sN_73, sN_74, sN_75, sN_76, sN_77, sN_78, sN_79, sN_80, sR_0_34, sR_0_38, sR_1_34, sR_1_38, sR_64_20, sR_64_22, sR_128_25, sR_128_28, sR_194_17, sR_195_17, sR_196_17, sR_197_17, sR_258_30, sR_258_32, sR_258_41, sR_384_43, sR_448_18, sR_512_27, sR_513_27, sR_514_27, sR_515_27, sR_516_27, sR_576_16, sR_577_16, sR_578_16, sR_579_16, sR_580_16, sR_581_16, sR_582_16, sR_583_16, sR_584_16, sR_641_47, sR_643_47, sR_645_47, sR_646_47, sR_647_47, sR_648_47, sR_649_47, sR_650_47, sR_651_47, sR_652_47, sR_653_47, sR_654_47, sR_655_47, sR_656_47, sR_657_47, sR_658_47, sR_659_47, sR_661_47, sR_662_47, sR_663_47, sR_664_47, sR_665_47, sR_669_47, sR_670_47, sR_671_47, sR_672_47, sR_673_47, sR_674_47, sR_676_47, sR_677_47, sR_679_47, sR_680_47, sR_681_47, SH_I, SH_A, SH_G, SH_C, hS, h0, gr, cr, a1, h59', nI_succ, f15, Option.getD_some, ne_eq, reduceCtorEq, not_false_eq_true, not_true_eq_false, Option.bind_some, Option.toList_none, Option.toList_some, List.nil_append, List.cons_append, List.append_nil, ↓reduceIte, and_self, true_and, and_true, false_and, and_false, or_true, true_or, or_false, false_or, Nat.reduceEqDiff, Nat.reduceAdd, Int32.reduceMul, Int32.reduceAdd, Int32.reduceSub, Int32.reduceToNatClampNeg, Int32.reduceOfNat, Int32.reduceLT, Int32.reduceLE, va_rf]
      · have g15 : ¬ nI op = 15 := fun z => h15 (i15.mp z)
        by_cases h16 : op = 16
        · subst h16
          have e : (if (false || celN 16) = true then (1 : Int32) else 0) = 1 := rfl
          have f16 : nI 16 = (16 : Int32) := rfl
          rw [e]
          simp (decide := true) only [k131_256, k131_263, k131_277, k131_284, k131_291N, sT_1, sT_2, sT_3, sT_16, sT_17, sT_18, sT_19, sT_20, sT_21, sT_22, sT_23, sT_24, sT_25, sT_26, sT_27, sT_28, sT_29, sT_30, sT_31, sT_32, sT_33, sT_34, sT_35, sT_36, sT_37, sT_38, sT_39, sT_40, sT_41, sT_42, sT_43, sT_44, sT_45, sT_46, sT_47, sT_48, sT_49, sT_50, sT_51, sT_52, sT_53, sT_54, sT_55, sT_56, sT_57, sT_58, sT_59, sT_60, sT_61, sT_62, sT_63, sT_64, sT_65, sT_66, sT_67, sT_68, sT_69, sT_70, sT_71, sT_72, sT_73, sT_74, sT_75, sT_76, sT_77, sT_78, sT_79, sT_80, sN_1, sN_2, sN_19, sN_21, sN_23, sN_24, sN_26, sN_29, sN_31, sN_33, sN_35, sN_36, sN_37, sN_39, sN_40, sN_42, sN_44, sN_45, sN_46, sN_48, sN_49, sN_50, sN_51, sN_52, sN_53, sN_54, sN_55, sN_56, sN_57, sN_58, sN_59, sN_60, sN_61, sN_62, sN_63, sN_64, sN_65, sN_66, sN_67, sN_68, sN_69, sN_70, sN_71, sN_72, sN_73, sN_74, sN_75, sN_76, sN_77, sN_78, sN_79, sN_80, sR_0_34, sR_0_38, sR_1_34, sR_1_38, sR_64_20, sR_64_22, sR_128_25, sR_128_28, sR_194_17, sR_195_17, sR_196_17, sR_197_17, sR_258_30, sR_258_32, sR_258_41, sR_384_43, sR_448_18, sR_512_27, sR_513_27, sR_514_27, sR_515_27, sR_516_27, sR_576_16, sR_577_16, sR_578_16, sR_579_16, sR_580_16, sR_581_16, sR_582_16, sR_583_16, sR_584_16, sR_641_47, sR_643_47, sR_645_47, sR_646_47, sR_647_47, sR_648_47, sR_649_47, sR_650_47, sR_651_47, sR_652_47, sR_653_47, sR_654_47, sR_655_47, sR_656_47, sR_657_47, sR_658_47, sR_659_47, sR_661_47, sR_662_47, sR_663_47, sR_664_47, sR_665_47, sR_669_47, sR_670_47, sR_671_47, sR_672_47, sR_673_47, sR_674_47, sR_676_47, sR_677_47, sR_679_47, sR_680_47, sR_681_47, SH_I, SH_A, SH_G, SH_C, hS, h0, gr, cr, a1, h59', nI_succ, f16, Option.getD_some, ne_eq, reduceCtorEq, not_false_eq_true, not_true_eq_false, Option.bind_some, Option.toList_none, Option.toList_some, List.nil_append, List.cons_append, List.append_nil, ↓reduceIte, and_self, true_and, and_true, false_and, and_false, or_true, true_or, or_false, false_or, Nat.reduceEqDiff, Nat.reduceAdd, Int32.reduceMul, Int32.reduceAdd, Int32.reduceSub, Int32.reduceToNatClampNeg, Int32.reduceOfNat, Int32.reduceLT, Int32.reduceLE, va_rf]
        · have g16 : ¬ nI op = 16 := fun z => h16 (i16.mp z)
          have e : (if (false || celN op) = true then (1 : Int32) else 0) = 0 := by
            unfold celN
            rw [if_neg]
            simp [h15, h16]
          rw [e]
          simp (decide := true) only [k131_256, k131_263, k131_277, k131_284, k131_295N, sT_1, sT_2, sT_3, sT_16, sT_17, sT_18, sT_19, sT_20, sT_21, sT_22, sT_23, sT_24, sT_25, sT_26, sT_27, sT_28, sT_29, sT_30, sT_31, sT_32, sT_33, sT_34, sT_35, sT_36, sT_37, sT_38, sT_39, sT_40, sT_41, sT_42, sT_43, sT_44, sT_45, sT_46, sT_47, sT_48, sT_49, sT_50, sT_51, sT_52, sT_53, sT_54, sT_55, sT_56, sT_57, sT_58, sT_59, sT_60, sT_61, sT_62, sT_63, sT_64, sT_65, sT_66, sT_67, sT_68, sT_69, sT_70, sT_71, sT_72, sT_73, sT_74, sT_75, sT_76, sT_77, sT_78, sT_79, sT_80, sN_1, sN_2, sN_19, sN_21, sN_23, sN_24, sN_26, sN_29, sN_31, sN_33, sN_35, sN_36, sN_37, sN_39, sN_40, sN_42, sN_44, sN_45, sN_46, sN_48, sN_49, sN_50, sN_51, sN_52, sN_53, sN_54, sN_55, sN_56, sN_57, sN_58, sN_59, sN_60, sN_61, sN_62, sN_63, sN_64, sN_65, sN_66, sN_67, sN_68, sN_69, sN_70, sN_71, sN_72, sN_73, sN_74, sN_75, sN_76, sN_77, sN_78, sN_79, sN_80, sR_0_34, sR_0_38, sR_1_34, sR_1_38, sR_64_20, sR_64_22, sR_128_25, sR_128_28, sR_194_17, sR_195_17, sR_196_17, sR_197_17, sR_258_30, sR_258_32, sR_258_41, sR_384_43, sR_448_18, sR_512_27, sR_513_27, sR_514_27, sR_515_27, sR_516_27, sR_576_16, sR_577_16, sR_578_16, sR_579_16, sR_580_16, sR_581_16, sR_582_16, sR_583_16, sR_584_16, sR_641_47, sR_643_47, sR_645_47, sR_646_47, sR_647_47, sR_648_47, sR_649_47, sR_650_47, sR_651_47, sR_652_47, sR_653_47, sR_654_47, sR_655_47, sR_656_47, sR_657_47, sR_658_47, sR_659_47, sR_661_47, sR_662_47, sR_663_47, sR_664_47, sR_665_47, sR_669_47, sR_670_47, sR_671_47, sR_672_47, sR_673_47, sR_674_47, sR_676_47, sR_677_47, sR_679_47, sR_680_47, sR_681_47, SH_I, SH_A, SH_G, SH_C, hS, h0, gr, cr, a0, h59', g15, g16, nI_succ, Option.getD_some, ne_eq, reduceCtorEq, not_false_eq_true, not_true_eq_false, Option.bind_some, Option.toList_none, Option.toList_some, List.nil_append, List.cons_append, List.append_nil, ↓reduceIte, and_self, true_and, and_true, false_and, and_false, or_true, true_or, or_false, false_or, Nat.reduceEqDiff, Nat.reduceAdd, Int32.reduceMul, Int32.reduceAdd, Int32.reduceSub, Int32.reduceToNatClampNeg, Int32.reduceOfNat, Int32.reduceLT, Int32.reduceLE, va_rf]
  have hSτ : SH (jsA σ 59 r (if (hc || celN op) = true then 1 else 0)) := by rw [SH_A]; exact hS
  have hTτ : TM (jsA σ 59 r (if (hc || celN op) = true then 1 else 0)) len b := by rw [TM_A (by decide)]; exact hT
  have c := c148 (d := d + 1) hSτ hTτ hp (by rw [zA_I]; exact hat)
  rw [main, c]
  by_cases h : tv len b (sk len b p) = 59
  · refine ⟨1, ?_, by rw [if_pos h]⟩
    rw [if_pos h, if_pos h]
    simp only [Option.bind_some, Option.toList_some, List.cons_append, List.nil_append]
    rw [k131_304, if_neg (fun z => z rfl), k131_307]
  · refine ⟨0, ?_, by rw [if_neg h]⟩
    rw [if_neg h, if_neg h]
    simp only [Option.bind_some, Option.toList_some, List.cons_append, List.nil_append]
    rw [k131_304, if_pos (by decide), k131_311]
end MS3
