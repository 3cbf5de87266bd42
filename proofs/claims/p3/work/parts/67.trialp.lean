/-! a trial: what both do with one assignment -/
def idR : Nat → Int32 := fun i => nI i
def numM (W : Nat) (mv o : Nat → Int32) : Int32 := kpM W (opO o) (smV (o 4) (tvV mv (o 2)) (tvV mv (o 5)))
def wrM (W : Nat) (mv o : Nat → Int32) : Nat → Int32 := fun j => if j = 0 then o 0 else if j ≤ regN (opO o) then o j else if j = 2 ∧ numN (opO o) = true then numM W mv o else 0
def MV (nm : Nat) (mv : Nat → Int32) : Prop := ∀ i, i < nm → ∃ u, u ≤ 7 ∧ mv i = nI u
theorem WFo.op {nr nm : Nat} {o : Nat → Int32} (h : WFo nr nm o) : OPk o := by
  obtain ⟨k, h1, h2, _⟩ := h
  have : opO o = k := by unfold opO; rw [h2]; exact nI_clamp (by omega)
  exact ⟨by rw [this]; exact h1, by rw [this]; exact h2⟩
theorem tv_val {nm : Nat} (hnm : nm ≤ 3) {mv : Nat → Int32} (hm : MV nm mv) {t : Int32} (ht : WFt nm t) : ∃ u, u < 16 ∧ tvV mv t = nI u := by
  unfold tvV
  rcases ht with ⟨u, hu, e⟩ | ⟨i, hi, e⟩
  · refine ⟨u, hu, ?_⟩
    have n : ¬ (16 : Int32) ≤ nI u := nI_ge (b := 16) (by omega) (by omega)
    rw [e, if_neg n]
  · obtain ⟨u, hu, eu⟩ := hm i hi
    refine ⟨u, by omega, ?_⟩
    have v := i16n (i := i) (by omega)
    have n1 : ¬ (nI i < 0 ∨ (3 : Int32) ≤ nI i) := by
      intro z
      rcases z with z | z
      · exact nn0 (by omega) z
      · exact nI_ge (b := 3) (by omega) (by omega) z
    rw [e, if_pos v.1, v.2.2]
    unfold nmV
    rw [if_neg n1, nI_clamp (by omega), eu]
theorem sm_rng : ∀ s, s ∈ ([43, 45, 38, 124, 94, 0] : List Int32) → ∀ a, a < 16 → ∀ c, c < 16 → ∃ i, i < 46 ∧ smV s (nI a) (nI c) = nI i - 15 := by
  have H : ∀ s, s ∈ ([43, 45, 38, 124, 94, 0] : List Int32) → ∀ a, a < 16 → ∀ c, c < 16 → (smV s (nI a) (nI c) + 15).toNatClampNeg < 46 ∧ smV s (nI a) (nI c) = nI (smV s (nI a) (nI c) + 15).toNatClampNeg - 15 := by decide +kernel
  intro s hs a ha c hc
  exact ⟨_, H s hs a ha c hc⟩
theorem kp_idem {W k : Nat} (hW : W = 1 ∨ W = 2 ∨ W = 3) (hk : numN k = true) {u : Nat} (hu : u < 16) : kptX W k (kptX W k (nI u)) = kptX W k (nI u) ∧ ¬ (16 : Int32) ≤ kptX W k (nI u) := by
  have H : ∀ W, W ∈ [1, 2, 3] → ∀ k, k ∈ [0, 12, 13, 15, 16] → ∀ u, u < 16 → kptX W k (kptX W k (nI u)) = kptX W k (nI u) ∧ ¬ (16 : Int32) ≤ kptX W k (nI u) := by decide +kernel
  refine H W (by simpa using hW) k ?_ u hu
  simpa [numN, or_assoc] using hk
theorem kp_bnd {W k : Nat} (hW : W = 1 ∨ W = 2 ∨ W = 3) (hk : numN k = true) {i : Nat} (hi : i < 46) : ∃ u, u < 8 ∧ (¬ k = 0 → u < 4) ∧ kpM W k (nI i - 15) = nI u := by
  have H : ∀ W, W ∈ [1, 2, 3] → ∀ k, k ∈ [0, 12, 13, 15, 16] → ∀ i, i < 46 → (kpM W k (nI i - 15)).toNatClampNeg < 8 ∧ (¬ k = 0 → (kpM W k (nI i - 15)).toNatClampNeg < 4) ∧ kpM W k (nI i - 15) = nI (kpM W k (nI i - 15)).toNatClampNeg := by decide +kernel
  exact ⟨_, H W (by simpa using hW) k (by simpa [numN, or_assoc] using hk) i hi⟩
theorem sg_mem {s : Int32} (h : isSg s) : s ∈ ([43, 45, 38, 124, 94, 0] : List Int32) := by
  rcases h with h | h | h | h | h <;> rw [h] <;> decide
theorem sm_val {nm : Nat} (hnm : nm ≤ 3) {mv : Nat → Int32} (hm : MV nm mv) {o : Nat → Int32} (h2 : WFt nm (o 2)) (h5 : o 4 = 0 ∨ (isSg (o 4) ∧ WFt nm (o 5))) : ∃ i, i < 46 ∧ smV (o 4) (tvV mv (o 2)) (tvV mv (o 5)) = nI i - 15 := by
  obtain ⟨a, ha, ea⟩ := tv_val hnm hm h2
  rcases h5 with h5 | ⟨h5, h6⟩
  · obtain ⟨i, hi, e⟩ := sm_rng 0 (by decide) a ha 0 (by decide)
    refine ⟨i, hi, ?_⟩
    rw [h5, ea]
    exact e
  · obtain ⟨c, hc, ec⟩ := tv_val hnm hm h6
    obtain ⟨i, hi, e⟩ := sm_rng _ (sg_mem h5) a ha c hc
    exact ⟨i, hi, by rw [ea, ec]; exact e⟩
theorem keep_op (W : Nat) (o : Nat → Int32) : (keepF W o) 0 = o 0 ∧ opO (keepF W o) = opO o ∧ (∀ j, j ≠ 2 → (keepF W o) j = o j) := by
  have H : ∀ j, j ≠ 2 → (keepF W o) j = o j := by
    intro j hj
    unfold keepF
    split
    · show (if j = 2 then _ else o j) = o j
      rw [if_neg hj]
    · rfl
  exact ⟨H 0 (by decide), by unfold opO; rw [H 0 (by decide)], H⟩
theorem num_keep {W nr nm : Nat} (hW : W = 1 ∨ W = 2 ∨ W = 3) (hnm : nm ≤ 3) {mv : Nat → Int32} (hm : MV nm mv) {o : Nat → Int32} (h : WFo nr nm o) (hn : numN (opO o) = true) : numC W mv (keepF W o) = numM W mv o := by
  obtain ⟨k, k1, k2, k3, k4, k5⟩ := h
  have ko : opO o = k := by unfold opO; rw [k2]; exact nI_clamp (by omega)
  have hnk : numN k = true := by rw [← ko]; exact hn
  have k4 := k4 hnk
  obtain ⟨e0, e1, e2⟩ := keep_op W o
  unfold numC numM
  rw [e1, e2 4 (by decide), e2 5 (by decide)]
  by_cases c : numN (o 0).toNatClampNeg = true ∧ o 4 = 0 ∧ ¬ 16 ≤ o 2
  · have hf : (keepF W o) 2 = kptX W (opO o) (o 2) := by
      unfold keepF
      rw [if_pos c]
      rfl
    have s0 : ∀ a b : Int32, smV (o 4) a b = a := by intro a b; rw [c.2.1]; rfl
    rcases k4 with ⟨u, hu, eu⟩ | ⟨i, hi, ei⟩
    · have t0 : tvV mv (o 2) = o 2 := if_neg c.2.2
      have idm := kp_idem hW hn hu
      have t1 : tvV mv (kptX W (opO o) (o 2)) = kptX W (opO o) (o 2) := by
        unfold tvV
        rw [eu, if_neg idm.2]
      rw [hf, s0, s0, t0, t1, eu, idm.1, show nI u = nI (u + 15) - 15 by rw [show (15 : Int32) = nI 15 from rfl, nsub (by omega)]; congr 1]
      exact (kpM_kptX hW hn (by omega)).symm
    · exact absurd (by rw [ei]; exact (i16n (by omega)).1) c.2.2
  · have hf : (keepF W o) 2 = o 2 := by
      unfold keepF
      rw [if_neg c]
    rw [hf]
    obtain ⟨i, hi, e⟩ := sm_val hnm hm k4 (by
      rcases k5 with k5 | ⟨_, a, b⟩
      · exact Or.inl k5
      · exact Or.inr ⟨a, b⟩)
    rw [e]
    exact (kpM_kptX hW hn hi).symm
theorem wr_same {W nr nm : Nat} (hW : W = 1 ∨ W = 2 ∨ W = 3) (hnr : nr ≤ 4) (hnm : nm ≤ 3) {mv : Nat → Int32} (hm : MV nm mv) {o : Nat → Int32} (h : WFo nr nm o) {j : Nat} (hj : j < 6) : wrO W idR mv (keepF W o) j = wrM W mv o j := by
  have h0 := h
  obtain ⟨k, k1, k2, k3, k4, k5⟩ := h
  have ko : opO o = k := by unfold opO; rw [k2]; exact nI_clamp (by omega)
  obtain ⟨e0, e1, e2⟩ := keep_op W o
  unfold wrO wrM
  rw [e1, e0]
  by_cases j0 : j = 0
  · rw [if_pos j0, if_pos j0]
  rw [if_neg j0, if_neg j0]
  by_cases jr : j ≤ regN (opO o)
  · rw [if_pos jr, if_pos jr]
    obtain ⟨i, hi, ei⟩ := k3 (j - 1) (by rw [← ko]; omega)
    have ej : o j = nI i := by rw [← ei]; congr 1; omega
    have kj : (keepF W o) j = o j := by
      by_cases j2 : j = 2
      · have nn : ¬ numN (opO o) = true := fun z => by have := numN1 z; omega
        unfold keepF
        rw [if_neg (fun z => nn z.1)]
      · exact e2 j j2
    rw [kj, ej]
    unfold rgV
    have n1 : ¬ (nI i < 0 ∨ (4 : Int32) ≤ nI i) := by
      intro z
      rcases z with z | z
      · exact nn0 (by omega) z
      · exact nI_ge (b := 4) (by omega) (by omega) z
    rw [if_neg n1, nI_clamp (by omega)]
    rfl
  rw [if_neg jr, if_neg jr]
  by_cases jn : j = 2 ∧ numN (opO o) = true
  · rw [if_pos jn, if_pos jn]; exact num_keep hW hnm hm h0 jn.2
  · rw [if_neg jn, if_neg jn]
theorem wrM_PWF {W nr nm : Nat} (hW : W = 1 ∨ W = 2 ∨ W = 3) (hnr : nr ≤ 4) (hnm : nm ≤ 3) {mv : Nat → Int32} (hm : MV nm mv) {o : Nat → Int32} (h : WFo nr nm o) : ∃ k x y z, w8 x y z k ∧ wrM W mv o 0 = nI k ∧ wrM W mv o 1 = nI x ∧ wrM W mv o 2 = nI y ∧ wrM W mv o 3 = nI z ∧ (¬ k = 17 → x < nr) ∧ (k = 18 → y < nr) := by
  have hop := h.op
  obtain ⟨k, k1, k2, k3, k4, k5⟩ := h
  have ko : opO o = k := by unfold opO; rw [k2]; exact nI_clamp (by omega)
  have w : ∀ j, wrM W mv o j = if j = 0 then o 0 else if j ≤ regN k then o j else if j = 2 ∧ numN k = true then numM W mv o else 0 := fun j => by unfold wrM; rw [ko]
  have rg : ∀ j, 1 ≤ j → j ≤ regN k → ∃ i, i < nr ∧ o j = nI i := fun j h1 h2 => by
    obtain ⟨i, hi, ei⟩ := k3 (j - 1) (by omega)
    exact ⟨i, hi, by rw [← ei]; congr 1; omega⟩
  -- the first
  have X : ∃ x, x < 4 ∧ wrM W mv o 1 = nI x ∧ (¬ k = 17 → x < nr) := by
    by_cases h1 : 1 ≤ regN k
    · obtain ⟨i, hi, ei⟩ := rg 1 (Nat.le_refl 1) h1
      exact ⟨i, by omega, by rw [w, if_neg (by decide), if_pos h1, ei], fun _ => hi⟩
    · refine ⟨0, by decide, ?_, fun q => ?_⟩
      · rw [w, if_neg (by decide), if_neg h1, if_neg (fun q => absurd q.1 (by decide))]; rfl
      · exfalso
        have H : ∀ k, k < 19 → ¬ k = 17 → 1 ≤ regN k := by decide
        exact h1 (H k k1 q)
  have Z : ∃ z, z < 4 ∧ wrM W mv o 3 = nI z := by
    by_cases h1 : 3 ≤ regN k
    · obtain ⟨i, hi, ei⟩ := rg 3 (by decide) h1
      exact ⟨i, by omega, by rw [w, if_neg (by decide), if_pos h1, ei]⟩
    · exact ⟨0, by decide, by rw [w, if_neg (by decide), if_neg h1, if_neg (fun q => absurd q.1 (by decide))]; rfl⟩
  have Y : ∃ y, y < 8 ∧ (¬ k = 0 → y < 4) ∧ wrM W mv o 2 = nI y ∧ (k = 18 → y < nr) := by
    by_cases h1 : 2 ≤ regN k
    · obtain ⟨i, hi, ei⟩ := rg 2 (by decide) h1
      exact ⟨i, by omega, fun _ => by omega, by rw [w, if_neg (by decide), if_pos h1, ei], fun _ => hi⟩
    · have n18 : ¬ k = 18 := fun e => h1 (by rw [e]; decide)
      by_cases hn : numN k = true
      · obtain ⟨i, hi, e⟩ := sm_val hnm hm (k4 hn) (by
          rcases k5 with k5 | ⟨_, a, b⟩
          · exact Or.inl k5
          · exact Or.inr ⟨a, b⟩)
        obtain ⟨u, hu, hu4, eu⟩ := kp_bnd hW hn hi
        refine ⟨u, hu, hu4, ?_, fun q => absurd q n18⟩
        rw [w, if_neg (by decide), if_neg h1, if_pos ⟨rfl, hn⟩]
        unfold numM
        rw [ko, e, eu]
      · exact ⟨0, by decide, fun _ => by decide, by rw [w, if_neg (by decide), if_neg h1, if_neg (fun q => hn q.2)]; rfl, fun q => absurd q n18⟩
  obtain ⟨x, hx, ex, hxr⟩ := X
  obtain ⟨y, hy, hy4, ey, hyr⟩ := Y
  obtain ⟨z, hz, ez⟩ := Z
  exact ⟨k, x, y, z, ⟨k1, hx, hz, hy, hy4⟩, by rw [w, if_pos rfl, k2], ex, ey, ez, hxr, hyr⟩
theorem ex_keep {W k x y z nr : Nat} (hx : ¬ k = 17 → x < nr) (hy : k = 18 → y < nr) {w : Nat → Int32} {i : Nat} (h1 : nr ≤ i) (h2 : i < 4) : exN W k x y z w i = w i := by
  unfold exN up6
  by_cases h17 : k = 17
  · rw [if_pos h17]
  have hx := hx h17
  rw [if_neg h17]
  by_cases h16 : k = 16
  · rw [if_pos h16, if_neg (by omega)]
  rw [if_neg h16]
  by_cases h15 : k = 15
  · rw [if_pos h15, if_neg (by omega)]
  rw [if_neg h15]
  by_cases h14 : k = 14
  · rw [if_pos h14, if_neg (by omega)]
  rw [if_neg h14]
  by_cases h18 : k = 18
  · have := hy h18
    rw [if_pos h18, if_neg (by omega), if_neg (by omega)]
  rw [if_neg h18, if_neg (by omega)]
theorem exL_keep {W nr nm : Nat} (hW : W = 1 ∨ W = 2 ∨ W = 3) (hnr : nr ≤ 4) (hnm : nm ≤ 3) {mv : Nat → Int32} (hm : MV nm mv) : ∀ (os : List (Nat → Int32)) (w : Nat → Int32), (∀ o, o ∈ os → WFo nr nm o) → ∀ i, nr ≤ i → i < 4 → exL W (os.map (wrM W mv)) w i = w i := by
  intro os
  induction os with
  | nil => intro w _ i _ _; rfl
  | cons o os ih =>
    intro w h i h1 h2
    obtain ⟨k, x, y, z, h8, e0, e1, e2, e3, hx, hy⟩ := wrM_PWF hW hnr hnm hm (h o List.mem_cons_self)
    have := ih (exO W w (wrM W mv o)) (fun p hp => h p (List.mem_cons_of_mem _ hp)) i h1 h2
    show exL W (os.map (wrM W mv)) (exO W w (wrM W mv o)) i = _
    rw [this, exO_eq h8 e0 e1 e2 e3]
    exact ex_keep hx hy h1 h2
theorem exO_eq4 {W : Nat} {w e f : Nat → Int32} (h : ∀ j, j < 4 → e j = f j) : exO W w e = exO W w f := by
  unfold exO
  rw [h 0 (by decide), h 1 (by decide), h 2 (by decide), h 3 (by decide)]
theorem exL_same {W nr nm : Nat} (hW : W = 1 ∨ W = 2 ∨ W = 3) (hnr : nr ≤ 4) (hnm : nm ≤ 3) {mv : Nat → Int32} (hm : MV nm mv) : ∀ (os : List (Nat → Int32)) (w : Nat → Int32), (∀ o, o ∈ os → WFo nr nm o) → exL W ((os.map (keepF W)).map (wrO W idR mv)) w = exL W (os.map (wrM W mv)) w := by
  intro os
  induction os with
  | nil => intro w _; rfl
  | cons o os ih =>
    intro w h
    have e : exO W w (wrO W idR mv (keepF W o)) = exO W w (wrM W mv o) := exO_eq4 (fun j hj => wr_same hW hnr hnm hm (h o List.mem_cons_self) (by omega))
    show exL W ((os.map (keepF W)).map (wrO W idR mv)) (exO W w (wrO W idR mv (keepF W o))) = exL W (os.map (wrM W mv)) (exO W w (wrM W mv o))
    rw [e]
    exact ih _ (fun p hp => h p (List.mem_cons_of_mem _ hp))
