section S_91
/-! run; same: what no order names does not matter -/
theorem unp_or {W i : Nat} {a b : Int32} : unp W (a ||| b) i = unp W a i ||| unp W b i := by
  unfold unp
  generalize (nI i * nI W) &&& 31 = s
  apply Int32.toBitVec_inj.mp
  rw [Int32.toBitVec_and, Int32.toBitVec_shiftRight, Int32.toBitVec_or, Int32.toBitVec_or, Int32.toBitVec_and, Int32.toBitVec_and, Int32.toBitVec_shiftRight, Int32.toBitVec_shiftRight]
  show (BitVec.sshiftRight (a.toBitVec ||| b.toBitVec) _) &&& _ = (BitVec.sshiftRight a.toBitVec _ &&& _) ||| (BitVec.sshiftRight b.toBitVec _ &&& _)
  rw [BitVec.sshiftRight_or_distrib]
  ext j hj
  simp [Bool.and_or_distrib_right]
theorem unp_and {W i : Nat} {a b : Int32} : unp W (a &&& b) i = unp W a i &&& unp W b i := by
  unfold unp
  generalize (nI i * nI W) &&& 31 = s
  apply Int32.toBitVec_inj.mp
  rw [Int32.toBitVec_and, Int32.toBitVec_shiftRight, Int32.toBitVec_and, Int32.toBitVec_and, Int32.toBitVec_and, Int32.toBitVec_and, Int32.toBitVec_shiftRight, Int32.toBitVec_shiftRight]
  show (BitVec.sshiftRight (a.toBitVec &&& b.toBitVec) _) &&& _ = (BitVec.sshiftRight a.toBitVec _ &&& _) &&& (BitVec.sshiftRight b.toBitVec _ &&& _)
  rw [BitVec.sshiftRight_and_distrib]
  ext j hj
  simp
  cases (BitVec.sshiftRight a.toBitVec _)[j] <;> simp
theorem sub_msk {x m : Int32} : (x &&& (m ^^^ (-1))) = 0 ↔ x &&& m = x := by
  rw [← Int32.toBitVec_inj, ← Int32.toBitVec_inj, Int32.toBitVec_and, Int32.toBitVec_xor, Int32.toBitVec_and]
  constructor
  · intro h
    ext j hj
    have := congrArg (fun v => v[j]) h
    have o : (4294967295#32)[j] = true := by
      show (BitVec.allOnes 32)[j] = true
      rw [BitVec.getElem_allOnes]
    have z : ((0 : Int32).toBitVec)[j] = false := by
      show (0#32)[j] = false
      rw [BitVec.getElem_zero]
    simp [o, z] at this
    simp
    exact this
  · intro h
    ext j hj
    have := congrArg (fun v => v[j]) h
    have o : (4294967295#32)[j] = true := by
      show (BitVec.allOnes 32)[j] = true
      rw [BitVec.getElem_allOnes]
    have z : ((0 : Int32).toBitVec)[j] = false := by
      show (0#32)[j] = false
      rw [BitVec.getElem_zero]
    simp at this
    simp [o, z]
    exact this
theorem nIand {a b : Nat} (ha : a < 2 ^ 32) (hb : b < 2 ^ 32) : nI a &&& nI b = nI (a &&& b) := by
  apply tn_nI
  rw [Int32.toBitVec_and, BitVec.toNat_and, nI_tn ha, nI_tn hb]
theorem nIor {a b : Nat} (ha : a < 2 ^ 32) (hb : b < 2 ^ 32) : nI a ||| nI b = nI (a ||| b) := by
  apply tn_nI
  rw [Int32.toBitVec_or, BitVec.toNat_or, nI_tn ha, nI_tn hb]
def nmW (W j : Nat) : Int32 := mkW W <<< ((nI j * nI W) &&& 31)
/-- a mask of whole words -/
def MSK (W : Nat) (m : Int32) : Prop := (∃ n, n < 2 ^ (8 * W) ∧ m = nI n) ∧ ∀ i, i < 8 → unp W m i = 0 ∨ unp W m i = mkW W
theorem mk_or {W : Nat} (hW : W = 1 ∨ W = 2) {a b : Int32} (ha : a = 0 ∨ a = mkW W) (hb : b = 0 ∨ b = mkW W) : (a ||| b = 0 ∨ a ||| b = mkW W) ∧ (a = mkW W → a ||| b = mkW W) ∧ (b = mkW W → a ||| b = mkW W) := by
  rcases hW with h | h <;> subst h <;> rcases ha with e | e <;> rcases hb with f | f <;> subst e <;> subst f <;> decide
theorem MSK.or {W : Nat} (hW : W = 1 ∨ W = 2) {a b : Int32} (ha : MSK W a) (hb : MSK W b) : MSK W (a ||| b) := by
  obtain ⟨⟨n, n1, n2⟩, h⟩ := ha
  obtain ⟨⟨m, m1, m2⟩, k⟩ := hb
  have p : 2 ^ (8 * W) ≤ 2 ^ 16 := Nat.pow_le_pow_right (by decide) (by omega)
  refine ⟨⟨n ||| m, Nat.or_lt_two_pow n1 m1, by rw [n2, m2, nIor (by omega) (by omega)]⟩, fun i hi => ?_⟩
  rw [unp_or]
  exact (mk_or hW (h i hi) (k i hi)).1
theorem nmW_n : ∀ W, (W = 1 ∨ W = 2) → ∀ j, j < 8 → (∃ n, n < 2 ^ (8 * W) ∧ nmW W j = nI n) ∧ (∀ i, i < 8 → unp W (nmW W j) i = if i = j then mkW W else 0) := by
  intro W hW j hj
  refine ⟨⟨(2 ^ W - 1) * 2 ^ (j * W), ?_, ?_⟩, ?_⟩
  · rcases hW with h | h <;> subst h <;> revert j <;> decide
  · rcases hW with h | h <;> subst h <;> revert j <;> decide
  · rcases hW with h | h <;> subst h <;> revert j <;> decide
theorem nmW_msk {W : Nat} (hW : W = 1 ∨ W = 2) {j : Nat} (hj : j < 8) : MSK W (nmW W j) := by
  obtain ⟨h, k⟩ := nmW_n W hW j hj
  refine ⟨h, fun i hi => ?_⟩
  rw [k i hi]
  by_cases e : i = j
  · rw [if_pos e]; exact Or.inr rfl
  · rw [if_neg e]; exact Or.inl rfl
theorem msk0 {W : Nat} (hW : W = 1 ∨ W = 2) : MSK W 0 := by
  refine ⟨⟨0, Nat.pow_pos (by decide), rfl⟩, fun i hi => Or.inl ?_⟩
  rcases hW with h | h <;> subst h <;> revert i <;> decide
def nmS (W : Nat) (o : Nat → Int32) : Nat → Int32 → Int32
  | 0, c => c
  | n + 1, c => nmS W o n c ||| (mkW W <<< ((o (n + 1) * nI W) &&& 31))
def nmA (W : Nat) (c : Int32) (o : Nat → Int32) : Int32 := if celN (opO o) = true then nmS W o (regN (opO o)) c ||| (mkW W <<< (((4 + o 2) * nI W) &&& 31)) else nmS W o (regN (opO o)) c
def nmL (W : Nat) (os : List (Nat → Int32)) (c : Int32) : Int32 := os.foldl (nmA W) c
/-- word i is named in m -/
def isN (W : Nat) (m : Int32) (i : Nat) : Prop := i < 8 ∧ unp W m i = mkW W
theorem isN.l {W i : Nat} (hW : W = 1 ∨ W = 2) {a b : Int32} (ha : MSK W a) (hb : MSK W b) (h : isN W a i) : isN W (a ||| b) i := ⟨h.1, by rw [unp_or]; exact (mk_or hW (ha.2 i h.1) (hb.2 i h.1)).2.1 h.2⟩
theorem isN.r {W i : Nat} (hW : W = 1 ∨ W = 2) {a b : Int32} (ha : MSK W a) (hb : MSK W b) (h : isN W b i) : isN W (a ||| b) i := ⟨h.1, by rw [unp_or]; exact (mk_or hW (ha.2 i h.1) (hb.2 i h.1)).2.2 h.2⟩
theorem isN.w {W j : Nat} (hW : W = 1 ∨ W = 2) (hj : j < 8) : isN W (nmW W j) j := ⟨hj, by rw [(nmW_n W hW j hj).2 j hj, if_pos rfl]⟩
/-- what an order names -/
def nmd (o : Nat → Int32) (i : Nat) : Prop := (∃ k, 1 ≤ k ∧ k ≤ regN (opO o) ∧ o k = nI i) ∨ (celN (opO o) = true ∧ ∃ y, y < 4 ∧ o 2 = nI y ∧ i = 4 + y)
theorem regN_num : ∀ k, k < 19 → k ≠ 0 ∨ regN k ≤ 1 := by decide
theorem PWF.reg {o : Nat → Int32} (h : PWF o) {k : Nat} (h1 : 1 ≤ k) (h2 : k ≤ regN (opO o)) : ∃ u, u < 4 ∧ o k = nI u := by
  obtain ⟨K, x, y, z, ⟨b1, b2, b3, b4, b5⟩, e0, e1, e2, e3⟩ := h
  have ek : opO o = K := by unfold opO; rw [e0]; exact nI_clamp (by omega)
  rw [ek] at h2
  have r3 := regN3 K
  have : k = 1 ∨ k = 2 ∨ k = 3 := by omega
  rcases this with e | e | e
  · subst e; exact ⟨x, b2, e1⟩
  · subst e
    refine ⟨y, b5 (fun e => ?_), e2⟩
    rw [e] at h2
    exact absurd h2 (by decide)
  · subst e; exact ⟨z, b3, e3⟩
theorem nmS_ok {W : Nat} (hW : W = 1 ∨ W = 2) {o : Nat → Int32} (h : PWF o) {c : Int32} (hc : MSK W c) : ∀ n, n ≤ regN (opO o) → MSK W (nmS W o n c) ∧ (∀ i, isN W c i → isN W (nmS W o n c) i) ∧ ∀ k i, 1 ≤ k → k ≤ n → i < 8 → o k = nI i → isN W (nmS W o n c) i := by
  intro n
  induction n with
  | zero => intro _; exact ⟨hc, fun i hi => hi, fun k i h1 h2 => by omega⟩
  | succ n ih =>
    intro hn
    obtain ⟨i1, i2, i3⟩ := ih (by omega)
    obtain ⟨u, hu, eu⟩ := h.reg (k := n + 1) (by omega) hn
    have e : mkW W <<< ((o (n + 1) * nI W) &&& 31) = nmW W u := by rw [eu]; rfl
    show MSK W (nmS W o n c ||| (mkW W <<< ((o (n + 1) * nI W) &&& 31))) ∧ _
    have mu := nmW_msk hW (j := u) (by omega)
    refine ⟨by rw [e]; exact i1.or hW mu, fun i hi => ?_, fun k i h1 h2 h3 h4 => ?_⟩
    · show isN W (nmS W o n c ||| (mkW W <<< ((o (n + 1) * nI W) &&& 31))) i
      rw [e]; exact isN.l hW i1 mu (i2 i hi)
    · show isN W (nmS W o n c ||| (mkW W <<< ((o (n + 1) * nI W) &&& 31))) i
      rw [e]
      by_cases q : k = n + 1
      · subst q
        have : i = u := by
          have := h4.symm.trans eu
          rw [n31eq (by omega) (by omega)] at this
          exact this
        rw [this]
        exact isN.r hW i1 mu (isN.w hW (by omega))
      · exact isN.l hW i1 mu (i3 k i h1 (by omega) h3 h4)
theorem nmA_ok {W : Nat} (hW : W = 1 ∨ W = 2) {o : Nat → Int32} (h : PWF o) {c : Int32} (hc : MSK W c) : MSK W (nmA W c o) ∧ (∀ i, isN W c i → isN W (nmA W c o) i) ∧ ∀ i, i < 8 → nmd o i → isN W (nmA W c o) i := by
  obtain ⟨i1, i2, i3⟩ := nmS_ok hW h hc (regN (opO o)) (Nat.le_refl _)
  unfold nmA
  by_cases q : celN (opO o) = true
  · rw [if_pos q]
    obtain ⟨K, x, y, z, ⟨b1, b2, b3, b4, b5⟩, e0, e1, e2, e3⟩ := h
    have ek : opO o = K := by unfold opO; rw [e0]; exact nI_clamp (by omega)
    have y4 : y < 4 := b5 (fun e => by rw [ek, e] at q; exact absurd q (by decide))
    have e : mkW W <<< (((4 + o 2) * nI W) &&& 31) = nmW W (4 + y) := by rw [e2, show (4 : Int32) = nI 4 from rfl, nadd]; rfl
    have mu := nmW_msk hW (j := 4 + y) (by omega)
    rw [e]
    refine ⟨i1.or hW mu, fun i hi => isN.l hW i1 mu (i2 i hi), fun i hi hn => ?_⟩
    rcases hn with ⟨k, k1, k2, k3⟩ | ⟨_, y', h1, h2, h3⟩
    · exact isN.l hW i1 mu (i3 k i k1 k2 hi k3)
    · have : y' = y := by
        have := h2.symm.trans e2
        rw [n31eq (by omega) (by omega)] at this
        exact this
      rw [h3, this]
      exact isN.r hW i1 mu (isN.w hW (by omega))
  · rw [if_neg q]
    refine ⟨i1, i2, fun i hi hn => ?_⟩
    rcases hn with ⟨k, k1, k2, k3⟩ | ⟨z, _⟩
    · exact i3 k i k1 k2 hi k3
    · exact absurd z q
theorem nmL_ok {W : Nat} (hW : W = 1 ∨ W = 2) : ∀ (os : List (Nat → Int32)) (c : Int32), (∀ o, o ∈ os → PWF o) → MSK W c → MSK W (nmL W os c) ∧ (∀ i, isN W c i → isN W (nmL W os c) i) ∧ ∀ o, o ∈ os → ∀ i, i < 8 → nmd o i → isN W (nmL W os c) i := by
  intro os
  induction os with
  | nil => intro c _ hc; exact ⟨hc, fun i hi => hi, fun o ho => absurd ho (List.not_mem_nil)⟩
  | cons o os ih =>
    intro c hp hc
    obtain ⟨a1, a2, a3⟩ := nmA_ok hW (hp o List.mem_cons_self) hc
    obtain ⟨i1, i2, i3⟩ := ih (nmA W c o) (fun p hpp => hp p (List.mem_cons_of_mem _ hpp)) a1
    refine ⟨i1, fun i hi => i2 i (a2 i hi), fun p hpp i hi hn => ?_⟩
    rcases List.mem_cons.mp hpp with e | e
    · rw [e] at hn; exact i2 i (a3 i hi hn)
    · exact i3 p e i hi hn
/-- an order works on what it names -/
theorem exO_loc {W : Nat} {o : Nat → Int32} (hp : PWF o) {S : Nat → Prop} (hS : ∀ i, i < 8 → nmd o i → S i) {w v : Nat → Int32} (hw : ∀ i, i < 8 → S i → w i = v i) : (∀ i, i < 8 → S i → exO W w o i = exO W v o i) ∧ (∀ i, i < 8 → ¬ S i → exO W w o i = w i) := by
  have hp0 := hp
  obtain ⟨k, x, y, z, h8, e0, e1, e2, e3⟩ := hp
  have h80 := h8
  obtain ⟨hk, hx, hz, hy, hy4⟩ := h8
  have ek : opO o = k := by unfold opO; rw [e0]; exact nI_clamp (by omega)
  rw [exO_eq h80 e0 e1 e2 e3, exO_eq h80 e0 e1 e2 e3]
  have sx : 1 ≤ regN k → S x := fun h => hS x (by omega) (Or.inl ⟨1, by omega, by rw [ek]; exact h, e1⟩)
  have sy : 2 ≤ regN k → S y := fun h => hS y (by omega) (Or.inl ⟨2, by omega, by rw [ek]; exact h, e2⟩)
  have sz : 3 ≤ regN k → S z := fun h => hS z (by omega) (Or.inl ⟨3, by omega, by rw [ek]; exact h, e3⟩)
  have sc : celN k = true → S (4 + y) := fun h => hS (4 + y) (by have := hy4 (fun e => by rw [e] at h; exact absurd h (by decide)); omega) (Or.inr ⟨by rw [ek]; exact h, y, hy4 (fun e => by rw [e] at h; exact absurd h (by decide)), e2, rfl⟩)
  unfold exN up6
  by_cases h17 : k = 17
  · rw [if_pos h17, if_pos h17]; exact ⟨hw, fun _ _ _ => rfl⟩
  have hx1 : S x := sx (by rcases k19 hk with h | h | h | h | h | h | h | h | h | h | h | h | h | h | h | h | h | h | h <;> subst h <;> first | decide | exact absurd rfl h17)
  have wx := hw x (by omega) hx1
  rw [if_neg h17, if_neg h17]
  by_cases h16 : k = 16
  · rw [if_pos h16, if_pos h16]
    have s4 := sc (by rw [h16]; rfl)
    refine ⟨fun i hi hs => ?_, fun i hi hs => if_neg (c := i = 4 + y) (fun e => hs (e ▸ s4))⟩
    rw [wx]
    by_cases e : i = 4 + y
    · rw [if_pos e, if_pos e]
    · rw [if_neg e, if_neg e]; exact hw i hi hs
  rw [if_neg h16, if_neg h16]
  by_cases h15 : k = 15
  · rw [if_pos h15, if_pos h15]
    have s4 := sc (by rw [h15]; rfl)
    have := hy4 (by omega)
    refine ⟨fun i hi hs => ?_, fun i hi hs => if_neg (c := i = x) (fun e => hs (e ▸ hx1))⟩
    rw [hw (4 + y) (by omega) s4]
    by_cases e : i = x
    · rw [if_pos e, if_pos e]
    · rw [if_neg e, if_neg e]; exact hw i hi hs
  rw [if_neg h15, if_neg h15]
  by_cases h14 : k = 14
  · rw [if_pos h14, if_pos h14]
    have s2 := sy (by rw [h14]; decide)
    have s3 := sz (by rw [h14]; decide)
    refine ⟨fun i hi hs => ?_, fun i hi hs => if_neg (c := i = x) (fun e => hs (e ▸ hx1))⟩
    rw [wx, hw y hy s2, hw z (by omega) s3]
    by_cases e : i = x
    · rw [if_pos e, if_pos e]
    · rw [if_neg e, if_neg e]; exact hw i hi hs
  rw [if_neg h14, if_neg h14]
  by_cases h18 : k = 18
  · rw [if_pos h18, if_pos h18]
    have s2 := sy (by rw [h18]; decide)
    refine ⟨fun i hi hs => ?_, fun i hi hs => ?_⟩
    · rw [wx, hw y hy s2]
      by_cases e : i = y
      · rw [if_pos e, if_pos e]
      · rw [if_neg e, if_neg e]
        by_cases e' : i = x
        · rw [if_pos e', if_pos e']
        · rw [if_neg e', if_neg e']; exact hw i hi hs
    · exact (if_neg (c := i = y) (fun e => hs (e ▸ s2))).trans (if_neg (c := i = x) (fun e => hs (e ▸ hx1)))
  rw [if_neg h18, if_neg h18]
  refine ⟨fun i hi hs => ?_, fun i hi hs => if_neg (c := i = x) (fun e => hs (e ▸ hx1))⟩
  have wk : wkd k (w x) (w (y % 4)) (nI y) = wkd k (v x) (v (y % 4)) (nI y) := by
    rw [wx]
    by_cases h2 : 2 ≤ regN k
    · have y4 : y < 4 := hy4 (fun e => by rw [e] at h2; exact absurd h2 (by decide))
      rw [Nat.mod_eq_of_lt y4, hw y hy (sy h2)]
    · rcases k19 hk with h | h | h | h | h | h | h | h | h | h | h | h | h | h | h | h | h | h | h <;> subst h <;> first | rfl | exact absurd (by decide) h2
  rw [wk]
  by_cases e : i = x
  · rw [if_pos e, if_pos e]
  · rw [if_neg e, if_neg e]; exact hw i hi hs
theorem exL_loc {W : Nat} {S : Nat → Prop} : ∀ (os : List (Nat → Int32)) (w v : Nat → Int32), (∀ o, o ∈ os → PWF o) → (∀ o, o ∈ os → ∀ i, i < 8 → nmd o i → S i) → (∀ i, i < 8 → S i → w i = v i) → (∀ i, i < 8 → S i → exL W os w i = exL W os v i) ∧ (∀ i, i < 8 → ¬ S i → exL W os w i = w i) := by
  intro os
  induction os with
  | nil => intro w v _ _ hw; exact ⟨hw, fun _ _ _ => rfl⟩
  | cons o os ih =>
    intro w v hp hS hw
    obtain ⟨a1, a2⟩ := exO_loc (W := W) (hp o List.mem_cons_self) (hS o List.mem_cons_self) hw
    obtain ⟨i1, i2⟩ := ih (exO W w o) (exO W v o) (fun p hpp => hp p (List.mem_cons_of_mem _ hpp)) (fun p hpp => hS p (List.mem_cons_of_mem _ hpp)) a1
    exact ⟨i1, fun i hi hs => (i2 i hi hs).trans (a2 i hi hs)⟩
/-- the outcome of a run -/
def outc (W : Nat) (os : List (Nat → Int32)) (b : Nat) : Int32 := pkU W (exL W os (unp W (nI b))) 8
theorem outc_iff {W : Nat} (hW : W = 1 ∨ W = 2 ∨ W = 3) {os os' : List (Nat → Int32)} (hp : ∀ o, o ∈ os → PWF o) (hp' : ∀ o, o ∈ os' → PWF o) {b : Nat} : outc W os b = outc W os' b ↔ ∀ i, i < 8 → exL W os (unp W (nI b)) i = exL W os' (unp W (nI b)) i :=
  pk_inj hW (WD.exL hW os _ (unp_WD hW _) hp) (WD.exL hW os' _ (unp_WD hW _) hp')
theorem outc_msk {W : Nat} (hW : W = 1 ∨ W = 2) {os os' : List (Nat → Int32)} (hp : ∀ o, o ∈ os → PWF o) (hp' : ∀ o, o ∈ os' → PWF o) {n b : Nat} (hb : b < 2 ^ 32) (hn : n < 2 ^ 32) (hm : MSK W (nI n)) (h1 : ∀ o, o ∈ os → ∀ i, i < 8 → nmd o i → isN W (nI n) i) (h2 : ∀ o, o ∈ os' → ∀ i, i < 8 → nmd o i → isN W (nI n) i) : outc W os b = outc W os' b ↔ outc W os (b &&& n) = outc W os' (b &&& n) := by
  have hW3 : W = 1 ∨ W = 2 ∨ W = 3 := by omega
  rw [outc_iff hW3 hp hp', outc_iff hW3 hp hp']
  have ag : ∀ i, i < 8 → isN W (nI n) i → unp W (nI b) i = unp W (nI (b &&& n)) i := by
    intro i hi hs
    rw [← nIand hb hn, unp_and, hs.2]
    obtain ⟨u, u1, u2⟩ := mask_in hW3 (nI b >>> ((nI i * nI W) &&& 31))
    have : unp W (nI b) i = nI u := u2
    rw [this, mask_id hW3 u u1]
  obtain ⟨a1, a2⟩ := exL_loc (W := W) (S := isN W (nI n)) os _ _ hp h1 ag
  obtain ⟨b1, b2⟩ := exL_loc (W := W) (S := isN W (nI n)) os' _ _ hp' h2 ag
  obtain ⟨_, a3⟩ := exL_loc (W := W) (S := isN W (nI n)) os (unp W (nI (b &&& n))) (unp W (nI (b &&& n))) hp h1 (fun _ _ _ => rfl)
  obtain ⟨_, b3⟩ := exL_loc (W := W) (S := isN W (nI n)) os' (unp W (nI (b &&& n))) (unp W (nI (b &&& n))) hp' h2 (fun _ _ _ => rfl)
  constructor
  · intro h i hi
    by_cases hs : isN W (nI n) i
    · rw [← a1 i hi hs, ← b1 i hi hs]; exact h i hi
    · rw [a3 i hi hs, b3 i hi hs]
  · intro h i hi
    by_cases hs : isN W (nI n) i
    · rw [a1 i hi hs, b1 i hi hs]; exact h i hi
    · rw [a2 i hi hs, b2 i hi hs]
end S_91
section S_92
/-! run, same: whole -/
section SMC
variable {d : Nat} {σ : jS} {s : AS} {cr cp : Nat} {qr qp : Nat → Nat}
theorem top_n {W : Nat} (hW : W = 1 ∨ W = 2 ∨ W = 3) : (1 : Int32) <<< ((8 * nI W) &&& 31) = nI (2 ^ (8 * W)) := by
  rcases hW with h | h | h <;> subst h <;> decide
theorem tw {W : Nat} (hW : W = 1 ∨ W = 2 ∨ W = 3) : 2 ^ (8 * W) ≤ 2 ^ 24 := Nat.pow_le_pow_right (by decide) (by omega)
/-- the class's run of a program of the bench -/
theorem cls_out (hS : SH σ) (hs : WFs s) (hC : CX s cr cp qr qp σ) {p : Nat} (hp : p < s.ps.length) (bits : Int32) : ∃ σ', jx (d + 2) 69 0 [some (.ref 25), some (.ref (qp p)), some (.int bits), some (.int (nI s.W)), none, none, none, none] [] σ = some (some (.int (pkU s.W (exL s.W (s.ps.getD p []) (unp s.W bits)) 8)), σ') ∧ FR [26] σ σ' := by
  have b := hC.dj.p p (by have := hC.lp.1; omega)
  exact c69 (d := d) (sT_25 hS) (sR_128_25 hS) (sT_26 hS) (sN_26 hS) (hC.ps p hp) (by omega) (by omega) (hs.fp _ (mem_ps hp)).2 hs.w bits
theorem sim_run (hR : REL s cr cp qr qp σ) (x y : Int32) : SimR (d + 3) 112 192 [some (.int x), some (.int y), none] [some (.int x), some (.int y)] true σ := by
  have hR0 := hR
  obtain ⟨hS, hx, hs, hC, hM⟩ := hR
  have hl := hs.p16
  have t24 := tw hs.w
  have rd : ∀ v : Int32, jx (d + 3) 112 0 [some (.ref 16), some (.int x), some (.int y), none] [] σ = some (some (.int v), σ) → jx (d + 3) 192 0 [some (.ref 47), some (.int x), some (.int y)] [] σ = some (some (.int v), σ) → SimR (d + 3) 112 192 [some (.int x), some (.int y), none] [some (.int x), some (.int y)] true σ := fun v h1 h2 => SimR.read hR0 h1 h2 (fun _ => rfl)
  have r7 : (jR σ 578 16).getD 0 = 25 := by rw [sR_578_16 hS]; rfl
  have n7 : jR σ 578 16 ≠ none := by rw [sR_578_16 hS]; exact fun z => nomatch z
  have wc := hC.w
  have wm := hM.w
  have tp := top_n hs.w
  by_cases h : inR x s.ps.length
  · have a2 := c170y (d := d + 1) hS hM hs h
    obtain ⟨p, hp, ep⟩ := inR_nat (by omega) h
    have a1 := c86y (d := d + 2) hS hC hs hp
    rw [← ep] at a1
    by_cases h2 : inR y (2 ^ (8 * s.W))
    · obtain ⟨σ1, e1, F1⟩ := cls_out (d := d) hS hs hC hp y
      have hS1 := F1.sh hS
      have hC1 : CX s cr cp qr qp σ1 := hC.scr F1 (by decide)
      have hM1 := hM.sm (F1.sm (fun a h1 h2 => by simp; omega))
      obtain ⟨σ2, e2, F2⟩ := c193 (d := d + 1) hS1 hs.w hM1.w (p := p) (by omega) (hM1.ps p hp) (hs.fp _ (mem_ps hp)).2 y
      have hM2 : CM s σ2 := hM1.ar hs (P := fun a _ => a = 49) (fun g _ _ _ => (F2.2 47 (by decide)).1 g) (fun a i h1 h2 hn => (F2.2 a (by simpa using hn)).2 i) (fun a i hp => by unfold PSF; omega)
      have sc2 := F2.sc (fun a ha => by simp at ha; omega)
      have a2' := c170y (d := d + 1) hS1 hM1 hs h
      rw [← ep] at e2
      have nx1 : jnx σ1 = jnx σ := F1.1.2.2.2.2.1
      have nx2 : jnx σ2 = jnx σ1 := F2.1.2.2.2.2.1
      have sl1 : jsl σ1 = jsl σ := F1.1.2.2.2.2.2
      have sl2 : jsl σ2 = jsl σ1 := F2.1.2.2.2.2.2
      refine ⟨pkU s.W (exL s.W (s.ps.getD p []) (unp s.W y)) 8, pkU s.W (exL s.W (s.ps.getD p []) (unp s.W y)) 8, σ1, σ2, s, cr, cp, qr, qp, ?_, ?_, ⟨F2.sh hS1, by omega, hs, CX.sc (by omega) hC1 sc2, hM2⟩, by omega, by omega, (F1.low (by simp)).trans (sc2.low (by omega)), fun _ => rfl⟩
      · rw [k112_0 (sT_16 hS), a1]
        simp only [Option.bind_some, Option.toList_some, List.cons_append, List.nil_append]
        rw [k112_5R, if_neg h2.1, k112_14 (sT_16 hS), wc, tp, if_pos h2.2, k112_29R (sT_16 hS) n7 (by rw [r7]; exact sT_25 hS), r7, wc, e1]
        simp only [Option.bind_some, Option.toList_some, List.cons_append, List.nil_append]
        rw [k112_42]
      · rw [k192_0 (sT_47 hS1), a2']
        simp only [Option.bind_some, Option.toList_some, List.cons_append, List.nil_append]
        rw [k192_5, if_neg (by decide), k192_8 (sT_47 hS1), hM1.w, tp, cin0, if_pos ((rng_iff (by omega)).mpr h2)]
        simp only [Option.bind_some, Option.toList_some, List.cons_append, List.nil_append]
        rw [k192_26, if_pos (by decide), k192_31 (sT_47 hS1), e2]
        simp only [Option.bind_some, Option.toList_some, List.cons_append, List.nil_append]
        rw [k192_37]
    · refine rd (-1) ?_ ?_
      · rw [k112_0 (sT_16 hS), a1]
        simp only [Option.bind_some, Option.toList_some, List.cons_append, List.nil_append]
        rw [k112_5R]
        by_cases h0 : y < 0
        · rw [if_pos h0, k112_27]
        · rw [if_neg h0, k112_14 (sT_16 hS), wc, tp, if_neg (fun z => h2 ⟨h0, z⟩), k112_27]
      · rw [k192_0 (sT_47 hS), a2]
        simp only [Option.bind_some, Option.toList_some, List.cons_append, List.nil_append]
        rw [k192_5, if_neg (by decide), k192_8 (sT_47 hS), wm, tp, cin0, if_neg (fun z => h2 ((rng_iff (by omega)).mp z))]
        simp only [Option.bind_some, Option.toList_some, List.cons_append, List.nil_append]
        rw [k192_26, if_neg (fun z => z rfl), k192_29]
  · have a1 := c86n (d := d + 2) hS hC h
    have a2 := c170n (d := d + 1) hS hM hs h
    refine rd (-1) ?_ ?_
    · rw [k112_0 (sT_16 hS), a1]
      simp only [Option.bind_some, Option.toList_some, List.cons_append, List.nil_append]
      rw [k112_5N]
    · rw [k192_0 (sT_47 hS), a2]
      simp only [Option.bind_some, Option.toList_some, List.cons_append, List.nil_append]
      rw [k192_5, if_pos rfl, k192_29]
theorem PWF.opk {o : Nat → Int32} (h : PWF o) : OPk o := by
  obtain ⟨K, x, y, z, ⟨b1, b2, b3, b4, b5⟩, e0, e1, e2, e3⟩ := h
  have ek : opO o = K := by unfold opO; rw [e0]; exact nI_clamp (by omega)
  exact ⟨by rw [ek]; exact b1, by rw [ek]; exact e0⟩
theorem c115 {q a m W : Nat} {os : List (Nat → Int32)} (hR : RO σ q a m os) (hS : SH σ) (hQ : ST σ) (hk : ∀ o, o ∈ os → PWF o) : jx (d + 2) 115 0 [some (.ref q), some (.int (nI W)), none, none, none, none, none] [] σ = some (some (.int (nmL W os 0)), σ) := by
  have tq := hR.1.1
  have ln : jI σ 257 q = nI os.length := hR.1.2.2.2.2.2.1
  have l24 : os.length ≤ 24 := Nat.le_trans hR.1.2.2.2.2.2.2.1 hR.1.2.2.2.2.2.2.2
  have L : ∀ f n c l5 l6, n + f = os.length → jx (d + 2) 115 11 [some (.ref q), some (.int (nI W)), some (.int (mkW W)), some (.int c), some (.int (nI n)), l5, l6] [] σ = some (some (.int (nmL W (os.drop n) c)), σ) := by
    intro f
    induction f with
    | zero =>
      intro n c l5 l6 hn
      have e : n = os.length := by omega
      subst e
      rw [k115_11 tq, ln, if_pos (nI_le (Nat.le_refl _) (by omega)), k115_93, List.drop_length]
      rfl
    | succ f ih =>
      intro n c l5 l6 hn
      have hlt : n < os.length := by omega
      obtain ⟨o, eo⟩ : ∃ o, os.getD n (fun _ => 0) = o := ⟨_, rfl⟩
      have hpo := hk _ (mem_getD hlt)
      rw [eo] at hpo
      obtain ⟨ok1, ok2⟩ := hpo.opk
      have c0 := c51 (d := d) hR hlt (j := 0) (by decide)
      rw [eo, ok2] at c0
      have dr : os.drop n = o :: os.drop (n + 1) := by
        rw [List.drop_eq_getElem_cons hlt, ← eo, List.getD_eq_getElem?_getD, List.getElem?_eq_getElem hlt]; rfl
      have rg3 := regN3 (opO o)
      have I : ∀ g j, j + g = regN (opO o) → jx (d + 2) 115 32 [some (.ref q), some (.int (nI W)), some (.int (mkW W)), some (.int (nmS W o j c)), some (.int (nI n)), some (.int (nI (opO o))), some (.int (nI (j + 1)))] [] σ = jx (d + 2) 115 63 [some (.ref q), some (.int (nI W)), some (.int (mkW W)), some (.int (nmS W o (regN (opO o)) c)), some (.int (nI n)), some (.int (nI (opO o))), some (.int (nI (regN (opO o) + 1)))] [] σ := by
        intro g
        induction g with
        | zero =>
          intro j hj
          have e : j = regN (opO o) := by omega
          subst e
          rw [k115_32, c34 hS hQ ok1]
          simp only [Option.bind_some, Option.toList_some, List.cons_append, List.nil_append]
          rw [k115_39, if_pos (by rw [n31 (by omega) (by omega)]; omega)]
        | succ g ihg =>
          intro j hj
          have cj := c51 (d := d) hR hlt (j := j + 1) (by omega)
          rw [eo] at cj
          rw [k115_32, c34 hS hQ ok1]
          simp only [Option.bind_some, Option.toList_some, List.cons_append, List.nil_append]
          rw [k115_39, if_neg (by rw [n31 (by omega) (by omega)]; omega), k115_42 tq, cj]
          simp only [Option.bind_some, Option.toList_some, List.cons_append, List.nil_append]
          rw [k115_52, ← nI_succ]
          exact ihg (j + 1) (by omega)
      have I0 := I (regN (opO o)) 0 (by omega)
      have I0' : jx (d + 2) 115 32 [some (.ref q), some (.int (nI W)), some (.int (mkW W)), some (.int c), some (.int (nI n)), some (.int (nI (opO o))), some (.int 1)] [] σ = _ := I0
      rw [k115_11 tq, ln, if_neg (nI_ge (by omega) (by omega)), k115_20 tq]
      have c0' : jx (d + 1) 51 0 [some (.ref q), some (.int (nI n)), some (.int 0)] [] σ = _ := c0
      rw [c0']
      simp only [Option.bind_some, Option.toList_some, List.cons_append, List.nil_append]
      rw [k115_27, I0', k115_63, c41 ok1]
      simp only [Option.bind_some, Option.toList_some, List.cons_append, List.nil_append]
      rw [k115_68, dr]
      have st : nmL W (o :: os.drop (n + 1)) c = nmL W (os.drop (n + 1)) (nmA W c o) := rfl
      rw [st]
      by_cases hc : celN (opO o) = true
      · have c2 := c51 (d := d) hR hlt (j := 2) (by decide)
        rw [eo] at c2
        have c2' : jx (d + 1) 51 0 [some (.ref q), some (.int (nI n)), some (.int 2)] [] σ = _ := c2
        have e : nmA W c o = nmS W o (regN (opO o)) c ||| (mkW W <<< (((4 + o 2) * nI W) &&& 31)) := if_pos hc
        rw [if_pos hc, if_neg (by decide), k115_71 tq, c2']
        simp only [Option.bind_some, Option.toList_some, List.cons_append, List.nil_append]
        rw [k115_81, ← nI_succ, ih (n + 1) _ _ _ (by omega), e]
      · have e : nmA W c o = nmS W o (regN (opO o)) c := if_neg hc
        rw [if_neg hc, if_pos rfl, k115_87, ← nI_succ, ih (n + 1) _ _ _ (by omega), e]
  have := L os.length 0 0 none none (by omega)
  rw [List.drop_zero] at this
  rw [k115_0]
  exact this
end SMC
end S_92
section S_93
/-! same: whole -/
section SMD
variable {d : Nat} {σ : jS} {s : AS} {cr cp : Nat} {qr qp : Nat → Nat}
theorem c114 (hS : SH σ) (hs : WFs s) (hC : CX s cr cp qr qp σ) (hW : s.W = 1 ∨ s.W = 2) {p q : Nat} (hp : p < s.ps.length) (hq : q < s.ps.length) : ∃ σ' N, FR [26] σ σ' ∧ MSK s.W (nI N) ∧ N < 2 ^ (8 * s.W) ∧ (∀ o, o ∈ s.ps.getD p [] → ∀ i, i < 8 → nmd o i → isN s.W (nI N) i) ∧ (∀ o, o ∈ s.ps.getD q [] → ∀ i, i < 8 → nmd o i → isN s.W (nI N) i) ∧ ((∃ b, b ≤ N ∧ b &&& N = b ∧ ¬ outc s.W (s.ps.getD p []) b = outc s.W (s.ps.getD q []) b ∧ (∀ b', b' < b → b' &&& N = b' → outc s.W (s.ps.getD p []) b' = outc s.W (s.ps.getD q []) b') ∧ jx (d + 3) 114 0 [some (.ref 16), some (.ref (qp p)), some (.ref (qp q)), none, none] [] σ = some (some (.int (nI b)), σ')) ∨ ((∀ b', b' ≤ N → b' &&& N = b' → outc s.W (s.ps.getD p []) b' = outc s.W (s.ps.getD q []) b') ∧ jx (d + 3) 114 0 [some (.ref 16), some (.ref (qp p)), some (.ref (qp q)), none, none] [] σ = some (some (.int (-4)), σ'))) := by
  obtain ⟨A, eA⟩ : ∃ A, s.ps.getD p [] = A := ⟨_, rfl⟩
  obtain ⟨B, eB⟩ : ∃ B, s.ps.getD q [] = B := ⟨_, rfl⟩
  have fA := (hs.fp _ (mem_ps hp)).2
  have fB := (hs.fp _ (mem_ps hq)).2
  rw [eA] at fA
  rw [eB] at fB
  have rA := hC.ps p hp
  have rB := hC.ps q hq
  rw [eA] at rA
  rw [eB] at rB
  rw [eA, eB]
  obtain ⟨mA, -, nA⟩ := nmL_ok hW A 0 fA (msk0 hW)
  obtain ⟨mB, -, nB⟩ := nmL_ok hW B 0 fB (msk0 hW)
  have mN := mA.or hW mB
  obtain ⟨N, hN, eN⟩ := mN.1
  have p16 : 2 ^ (8 * s.W) ≤ 2 ^ 16 := Nat.pow_le_pow_right (by decide) (by omega)
  have hNA : ∀ o, o ∈ A → ∀ i, i < 8 → nmd o i → isN s.W (nI N) i := fun o ho i hi hn => by rw [← eN]; exact isN.l hW mA mB (nA o ho i hi hn)
  have hNB : ∀ o, o ∈ B → ∀ i, i < 8 → nmd o i → isN s.W (nI N) i := fun o ho i hi hn => by rw [← eN]; exact isN.r hW mA mB (nB o ho i hi hn)
  have r7 : ∀ {υ : jS}, SH υ → (jR υ 578 16).getD 0 = 25 := fun h => by rw [sR_578_16 h]; rfl
  have n7 : ∀ {υ : jS}, SH υ → jR υ 578 16 ≠ none := fun h => by rw [sR_578_16 h]; exact fun z => nomatch z
  have L : ∀ f n υ, n + f = N + 1 → FR [26] σ υ → (∀ b', b' < n → b' &&& N = b' → outc s.W A b' = outc s.W B b') → ∃ σ', FR [26] σ σ' ∧ ((∃ b, b ≤ N ∧ b &&& N = b ∧ ¬ outc s.W A b = outc s.W B b ∧ (∀ b', b' < b → b' &&& N = b' → outc s.W A b' = outc s.W B b') ∧ jx (d + 3) 114 21 [some (.ref 16), some (.ref (qp p)), some (.ref (qp q)), some (.int (nI N)), some (.int (nI n))] [] υ = some (some (.int (nI b)), σ')) ∨ ((∀ b', b' ≤ N → b' &&& N = b' → outc s.W A b' = outc s.W B b') ∧ jx (d + 3) 114 21 [some (.ref 16), some (.ref (qp p)), some (.ref (qp q)), some (.int (nI N)), some (.int (nI n))] [] υ = some (some (.int (-4)), σ'))) := by
    intro f
    induction f with
    | zero =>
      intro n υ hn F hb
      have e : n = N + 1 := by omega
      subst e
      refine ⟨υ, F, Or.inr ⟨fun b' h1 h2 => hb b' (by omega) h2, ?_⟩⟩
      rw [k114_21, if_pos (by rw [n31 (by omega) (by omega)]; omega), k114_76]
    | succ f ih =>
      intro n υ hn F hb
      have n1 : ¬ nI N < nI n := by rw [n31 (by omega) (by omega)]; omega
      have hSυ := F.sh hS
      have wυ : jI υ 587 16 = nI s.W := by rw [(F.2 16 (by decide)).1]; exact hC.w
      by_cases hm : n &&& N = n
      · have q0 : (nI n &&& (nI N ^^^ (-1))) = 0 := sub_msk.mpr (by rw [nIand (by omega) (by omega), hm])
        have hCυ : CX s cr cp qr qp υ := hC.scr F (by decide)
        obtain ⟨υ1, e1, F1⟩ := cls_out (d := d) hSυ hs hCυ hp (nI n)
        have hS1 := F1.sh hSυ
        have hC1 : CX s cr cp qr qp υ1 := hCυ.scr F1 (by decide)
        obtain ⟨υ2, e2, F2⟩ := cls_out (d := d) hS1 hs hC1 hq (nI n)
        rw [eA] at e1
        rw [eB] at e2
        have w1 : jI υ1 587 16 = nI s.W := hC1.w
        have step : jx (d + 3) 114 21 [some (.ref 16), some (.ref (qp p)), some (.ref (qp q)), some (.int (nI N)), some (.int (nI n))] [] υ = jx (d + 3) 114 64 [some (.ref 16), some (.ref (qp p)), some (.ref (qp q)), some (.int (nI N)), some (.int (nI n))] [.int (outc s.W B n), .int (outc s.W A n)] υ2 := by
          rw [k114_21, if_neg n1, k114_27, if_neg (fun z => z q0), k114_36 (sT_16 hSυ) (n7 hSυ) (by rw [r7 hSυ]; exact sT_25 hSυ), r7 hSυ, wυ, e1]
          simp only [Option.bind_some, Option.toList_some, List.cons_append, List.nil_append]
          rw [k114_50 (sT_16 hS1) (n7 hS1) (by rw [r7 hS1]; exact sT_25 hS1), r7 hS1, w1, e2]
          simp only [Option.bind_some, Option.toList_some, List.cons_append, List.nil_append]
          rfl
        have F3 := (F.trans F1).trans F2
        by_cases eq : outc s.W A n = outc s.W B n
        · obtain ⟨σ', G, r⟩ := ih (n + 1) υ2 (by omega) F3 (fun b' h1 h2 => by
            by_cases e : b' = n
            · rw [e]; exact eq
            · exact hb b' (by omega) h2)
          refine ⟨σ', G, ?_⟩
          rw [step, k114_64, if_pos eq, k114_70, ← nI_succ]
          exact r
        · refine ⟨υ2, F3, Or.inl ⟨n, by omega, hm, eq, hb, ?_⟩⟩
          rw [step, k114_64, if_neg eq, k114_67]
      · have q0 : ¬ (nI n &&& (nI N ^^^ (-1))) = 0 := fun z => hm (by
          have := sub_msk.mp z
          rw [nIand (by omega) (by omega)] at this
          have h2 : n &&& N ≤ n := Nat.and_le_left
          rw [n31eq (by omega) (by omega)] at this
          exact this)
        obtain ⟨σ', G, r⟩ := ih (n + 1) υ (by omega) F (fun b' h1 h2 => by
          by_cases e : b' = n
          · rw [e] at h2; exact absurd h2 hm
          · exact hb b' (by omega) h2)
        refine ⟨σ', G, ?_⟩
        rw [k114_21, if_neg n1, k114_27, if_pos q0, k114_70, ← nI_succ]
        exact r
  obtain ⟨σ', F', r⟩ := L (N + 1) 0 σ (by omega) (FR.refl _ σ) (fun b' h => absurd h (Nat.not_lt_zero b'))
  refine ⟨σ', N, F', by rw [← eN]; exact mN, hN, hNA, hNB, ?_⟩
  have st : jx (d + 3) 114 0 [some (.ref 16), some (.ref (qp p)), some (.ref (qp q)), none, none] [] σ = jx (d + 3) 114 21 [some (.ref 16), some (.ref (qp p)), some (.ref (qp q)), some (.int (nI N)), some (.int (nI 0))] [] σ := by
    have c1 := c115 (d := d) (W := s.W) rA hS hC.st fA
    have c2 := c115 (d := d) (W := s.W) rB hS hC.st fB
    rw [k114_0 (sT_16 hS) rA.1.1, hC.w, c1]
    simp only [Option.bind_some, Option.toList_some, List.cons_append, List.nil_append]
    rw [k114_8 (sT_16 hS) rB.1.1, hC.w, c2]
    simp only [Option.bind_some, Option.toList_some, List.cons_append, List.nil_append]
    rw [k114_16, eN]
    rfl
  rw [st]
  exact r
theorem ref_same (hS : SH σ) (hs : WFs s) (hM : CM s σ) (hW : s.W = 1 ∨ s.W = 2) {p q : Nat} (hp : p < s.ps.length) (hq : q < s.ps.length) : ∃ σ', FR [49] σ σ' ∧ ((∃ b, b < 2 ^ (8 * s.W) ∧ ¬ outc s.W (s.ps.getD p []) b = outc s.W (s.ps.getD q []) b ∧ (∀ b', b' < b → outc s.W (s.ps.getD p []) b' = outc s.W (s.ps.getD q []) b') ∧ jx (d + 2) 194 29 [some (.ref 47), some (.int (nI p)), some (.int (nI q)), none] [] σ = some (some (.int 0), jsI σ' 682 47 (nI b))) ∨ ((∀ b', b' < 2 ^ (8 * s.W) → outc s.W (s.ps.getD p []) b' = outc s.W (s.ps.getD q []) b') ∧ jx (d + 2) 194 29 [some (.ref 47), some (.int (nI p)), some (.int (nI q)), none] [] σ = some (some (.int 1), σ'))) := by
  obtain ⟨A, eA⟩ : ∃ A, s.ps.getD p [] = A := ⟨_, rfl⟩
  obtain ⟨B, eB⟩ : ∃ B, s.ps.getD q [] = B := ⟨_, rfl⟩
  have fA := (hs.fp _ (mem_ps hp)).2
  have fB := (hs.fp _ (mem_ps hq)).2
  have hl := hs.p16
  rw [eA] at fA
  rw [eB] at fB
  rw [eA, eB]
  have p16 : 2 ^ (8 * s.W) ≤ 2 ^ 16 := Nat.pow_le_pow_right (by decide) (by omega)
  have tp := top_n hs.w
  have L : ∀ f n υ, n + f = 2 ^ (8 * s.W) → FR [49] σ υ → (∀ b', b' < n → outc s.W A b' = outc s.W B b') → ∃ σ', FR [49] σ σ' ∧ ((∃ b, b < 2 ^ (8 * s.W) ∧ ¬ outc s.W A b = outc s.W B b ∧ (∀ b', b' < b → outc s.W A b' = outc s.W B b') ∧ jx (d + 2) 194 31 [some (.ref 47), some (.int (nI p)), some (.int (nI q)), some (.int (nI n))] [] υ = some (some (.int 0), jsI σ' 682 47 (nI b))) ∨ ((∀ b', b' < 2 ^ (8 * s.W) → outc s.W A b' = outc s.W B b') ∧ jx (d + 2) 194 31 [some (.ref 47), some (.int (nI p)), some (.int (nI q)), some (.int (nI n))] [] υ = some (some (.int 1), σ'))) := by
    intro f
    induction f with
    | zero =>
      intro n υ hn F hb
      have e : n = 2 ^ (8 * s.W) := by omega
      have hSυ := F.sh hS
      have wυ : jI υ 640 47 = nI s.W := by rw [(F.2 47 (by decide)).1]; exact hM.w
      refine ⟨υ, F, Or.inr ⟨fun b' h1 => hb b' (by omega), ?_⟩⟩
      rw [k194_31 (sT_47 hSυ), wυ, tp, if_pos (nI_le (by omega) (by omega)), k194_72]
    | succ f ih =>
      intro n υ hn F hb
      have hSυ := F.sh hS
      have mυ : CM s υ := hM.ar hs (P := fun a _ => a = 49) (fun g _ _ _ => (F.2 47 (by decide)).1 g) (fun a i h1 h2 hn => (F.2 a (by simpa using hn)).2 i) (fun a i hp => by unfold PSF; omega)
      obtain ⟨υ1, e1, F1⟩ := c193 (d := d) hSυ hs.w mυ.w (p := p) (by omega) (mυ.ps p hp) (by rw [eA]; exact fA) (nI n)
      have hS1 := F1.sh hSυ
      have m1 : CM s υ1 := mυ.ar hs (P := fun a _ => a = 49) (fun g _ _ _ => (F1.2 47 (by decide)).1 g) (fun a i h1 h2 hn => (F1.2 a (by simpa using hn)).2 i) (fun a i hp => by unfold PSF; omega)
      obtain ⟨υ2, e2, F2⟩ := c193 (d := d) hS1 hs.w m1.w (p := q) (by omega) (m1.ps q hq) (by rw [eB]; exact fB) (nI n)
      have hS2 := F2.sh hS1
      rw [eA] at e1
      rw [eB] at e2
      have F3 := (F.trans F1).trans F2
      have step : jx (d + 2) 194 31 [some (.ref 47), some (.int (nI p)), some (.int (nI q)), some (.int (nI n))] [] υ = jx (d + 2) 194 56 [some (.ref 47), some (.int (nI p)), some (.int (nI q)), some (.int (nI n))] [.int (outc s.W B n), .int (outc s.W A n)] υ2 := by
        rw [k194_31 (sT_47 hSυ), mυ.w, tp, if_neg (nI_ge (by omega) (by omega)), k194_44 (sT_47 hSυ), e1]
        simp only [Option.bind_some, Option.toList_some, List.cons_append, List.nil_append]
        rw [k194_50 (sT_47 hS1), e2]
        simp only [Option.bind_some, Option.toList_some, List.cons_append, List.nil_append]
        rfl
      by_cases eq : outc s.W A n = outc s.W B n
      · obtain ⟨σ', G, r⟩ := ih (n + 1) υ2 (by omega) F3 (fun b' h1 => by
          by_cases e : b' = n
          · rw [e]; exact eq
          · exact hb b' (by omega))
        refine ⟨σ', G, ?_⟩
        rw [step, k194_56, if_pos eq, k194_66, ← nI_succ]
        exact r
      · refine ⟨υ2, F3, Or.inl ⟨n, by omega, eq, hb, ?_⟩⟩
        rw [step, k194_56, if_neg eq, k194_59 (sT_47 hS2)]
  rw [k194_29]
  exact L (2 ^ (8 * s.W)) 0 σ (by omega) (FR.refl _ σ) (fun b' h => absurd h (Nat.not_lt_zero b'))
theorem sim_same (hR : REL s cr cp qr qp σ) (x y : Int32) : SimR (d + 4) 113 194 [some (.int x), some (.int y), none, none, none] [some (.int x), some (.int y), none] true σ := by
  have hR0 := hR
  obtain ⟨hS, hx, hs, hC, hM⟩ := hR
  have hl := hs.p16
  have rd : ∀ v : Int32, jx (d + 4) 113 0 [some (.ref 16), some (.int x), some (.int y), none, none, none] [] σ = some (some (.int v), σ) → jx (d + 4) 194 0 [some (.ref 47), some (.int x), some (.int y), none] [] σ = some (some (.int v), σ) → SimR (d + 4) 113 194 [some (.int x), some (.int y), none, none, none] [some (.int x), some (.int y), none] true σ := fun v h1 h2 => SimR.read hR0 h1 h2 (fun _ => rfl)
  by_cases h : inR x s.ps.length
  · have a2 := c170y (d := d + 2) hS hM hs h
    obtain ⟨p, hp, ep⟩ := inR_nat (by omega) h
    have a1 := c86y (d := d + 3) hS hC hs hp
    rw [← ep] at a1
    by_cases h' : inR y s.ps.length
    · have b2 := c170y (d := d + 2) hS hM hs h'
      obtain ⟨q, hq, eq⟩ := inR_nat (by omega) h'
      have b1 := c86y (d := d + 3) hS hC hs hq
      rw [← eq] at b1
      have s1 : jx (d + 4) 113 0 [some (.ref 16), some (.int x), some (.int y), none, none, none] [] σ = if ¬ nI s.W = 3 then jx (d + 4) 113 35 [some (.ref 16), some (.int x), some (.int y), some (.ref (qp p)), some (.ref (qp q)), none] [] σ else jx (d + 4) 113 32 [some (.ref 16), some (.int x), some (.int y), some (.ref (qp p)), some (.ref (qp q)), none] [] σ := by
        rw [k113_0 (sT_16 hS), a1]
        simp only [Option.bind_some, Option.toList_some, List.cons_append, List.nil_append]
        rw [k113_5R (sT_16 hS), b1]
        simp only [Option.bind_some, Option.toList_some, List.cons_append, List.nil_append]
        rw [k113_11RR (sT_16 hS), hC.w]
      have s2 : ∀ {υ : jS}, SH υ → CM s υ → jx (d + 4) 194 0 [some (.ref 47), some (.int x), some (.int y), none] [] υ = if ¬ nI s.W = 3 then jx (d + 4) 194 29 [some (.ref 47), some (.int x), some (.int y), none] [] υ else jx (d + 4) 194 26 [some (.ref 47), some (.int x), some (.int y), none] [] υ := fun {υ} hSu hMu => by
        have a2 := c170y (d := d + 2) hSu hMu hs h
        have b2 := c170y (d := d + 2) hSu hMu hs h'
        rw [k194_0 (sT_47 hSu), a2]
        simp only [Option.bind_some, Option.toList_some, List.cons_append, List.nil_append]
        rw [k194_5, if_neg (by decide), k194_8 (sT_47 hSu), b2]
        simp only [Option.bind_some, Option.toList_some, List.cons_append, List.nil_append]
        rw [k194_13, if_pos (by decide), k194_18 (sT_47 hSu), hMu.w]
      by_cases h3 : s.W = 3
      · have e3 : nI s.W = 3 := by rw [h3]; rfl
        exact rd (-2) (by rw [s1, if_neg (fun z => z e3), k113_32]) (by rw [s2 hS hM, if_neg (fun z => z e3), k194_26])
      · have n3 : ¬ nI s.W = 3 := by
          rcases hs.w with e | e | e
          · rw [e]; decide
          · rw [e]; decide
          · exact absurd e h3
        have hW : s.W = 1 ∨ s.W = 2 := by have := hs.w; omega
        have p16 : 2 ^ (8 * s.W) ≤ 2 ^ 16 := Nat.pow_le_pow_right (by decide) (by omega)
        have fA := (hs.fp _ (mem_ps hp)).2
        have fB := (hs.fp _ (mem_ps hq)).2
        obtain ⟨σ1, N, F1, mN, hN, nA, nB, r1⟩ := c114 (d := d) hS hs hC hW hp hq
        have hS1 := F1.sh hS
        have hC1 : CX s cr cp qr qp σ1 := hC.scr F1 (by decide)
        have hM1 := hM.sm (F1.sm (fun a h1 h2 => by simp; omega))
        have nx1 : jnx σ1 = jnx σ := F1.1.2.2.2.2.1
        have sl1 : jsl σ1 = jsl σ := F1.1.2.2.2.2.2
        have key : ∀ b, b < 2 ^ (8 * s.W) → (outc s.W (s.ps.getD p []) b = outc s.W (s.ps.getD q []) b ↔ outc s.W (s.ps.getD p []) (b &&& N) = outc s.W (s.ps.getD q []) (b &&& N)) := fun b hb => outc_msk hW fA fB (by omega) (by omega) mN nA nB
        have idm : ∀ b : Nat, (b &&& N) &&& N = b &&& N := fun b => by rw [Nat.and_assoc, Nat.and_self]
        rcases r1 with ⟨b, hb1, hb2, hb3, hb4, e1⟩ | ⟨hall, e1⟩
        · obtain ⟨σ', eσ'⟩ : ∃ σ', jsI σ1 589 16 (nI b) = σ' := ⟨_, rfl⟩
          have F' : FR [16] σ1 σ' := eσ' ▸ (i16FR 589 (nI b))
          have hS' := F'.sh hS1
          let s' : AS := (s.W, s.len, s.b, s.rs, s.ps, s.ns, s.tl, nI b)
          have i' : ∀ g, g ≠ 589 → jI σ' g 16 = jI σ1 g 16 := fun g hg => by rw [← eσ', zI_I, if_neg (fun z => hg z.1)]
          have hC' : CX s' cr cp qr qp σ' := hC1.fr F' (by decide) (by rw [i' 585 (by decide)]; exact hC1.nr) (by rw [i' 586 (by decide)]; exact hC1.np) (by rw [i' 587 (by decide)]; exact hC1.w) (by rw [← eσ', zI_I, if_pos ⟨rfl, rfl⟩]; rfl) rfl rfl rfl rfl hC1.lr.1 hC1.lp.1 hC1.rs hC1.ps
          have hM' := hM1.sm (F'.sm (fun a h1 h2 => by simp; omega))
          obtain ⟨σ2, F2, r2⟩ := ref_same (d := d + 2) hS' hs hM' hW hp hq
          have hS2 := F2.sh hS'
          have hM2 : CM s σ2 := hM'.ar hs (P := fun a _ => a = 49) (fun g _ _ _ => (F2.2 47 (by decide)).1 g) (fun a i h1 h2 hn => (F2.2 a (by simpa using hn)).2 i) (fun a i hp => by unfold PSF; omega)
          rcases r2 with ⟨c, hc1, hc2, hc3, e2⟩ | ⟨hall, e2⟩
          · have hcb : c = b := by
              have cN : c &&& N ≤ c := Nat.and_le_left
              have d1 : ¬ outc s.W (s.ps.getD p []) (c &&& N) = outc s.W (s.ps.getD q []) (c &&& N) := fun z => hc2 ((key c hc1).mpr z)
              have e3 : c &&& N = c := by
                by_cases lt : c &&& N < c
                · exact absurd (hc3 _ lt) d1
                · omega
              have g1 : ¬ c < b := fun lt => hc2 (hb4 c lt e3)
              have g2 : ¬ b < c := fun lt => hb3 (hc3 b lt)
              omega
            subst hcb
            have sc2 : sameC σ' (jsI σ2 682 47 (nI c)) := (F2.sc (fun a ha => by simp at ha; omega)).trans (i47sc 682 _)
            have hM3 : CM s' (jsI σ2 682 47 (nI c)) := hM2.I47 (by rw [zI_I, if_neg (by decide)]; exact hM2.nr) (by rw [zI_I, if_neg (by decide)]; exact hM2.np) (by rw [zI_I, if_neg (by decide)]; exact hM2.w) (by rw [zI_I, if_pos ⟨rfl, rfl⟩]; rfl) (by rw [TM_I (by decide)]; exact hM2.tm) (by rw [zI_I, if_neg (by decide)]; exact hM2.ns) hM2.tl hM2.rs hM2.ps
            have nx' : jnx σ' = jnx σ1 := F'.1.2.2.2.2.1
            have sl' : jsl σ' = jsl σ1 := F'.1.2.2.2.2.2
            have nx2 : jnx σ2 = jnx σ' := F2.1.2.2.2.2.1
            have sl2 : jsl σ2 = jsl σ' := F2.1.2.2.2.2.2
            refine ⟨0, 0, σ', jsI σ2 682 47 (nI c), s', cr, cp, qr, qp, ?_, ?_, ⟨by rw [SH_I]; exact hS2, by show 81 ≤ jnx σ2; omega, ⟨hs.w, hs.l, hs.byy, hs.r24, hs.p16, hs.fr, hs.fp, hs.n144⟩, CX.sc (by omega) hC' sc2, hM3⟩, by show jnx σ2 ≤ _; omega, by show jsl σ2 ≤ _; omega, ((F1.low (by simp)).trans (F'.low (by simp))).trans (sc2.low (by omega)), fun _ => rfl⟩
            · have n4 : ¬ nI c = -4 := fun z => by
                have := nn0 (k := c) (by omega)
                rw [z] at this
                exact this (by decide)
              rw [s1, if_pos n3, k113_35RR (sT_16 hS), e1]
              simp only [Option.bind_some, Option.toList_some, List.cons_append, List.nil_append]
              rw [k113_42R, if_pos n4, k113_53 (sT_16 hS1), eσ']
            · rw [← ep, ← eq] at e2
              rw [s2 hS' hM', if_pos n3, e2]
          · exact absurd (hall b (by omega)) hb3
        · obtain ⟨σ2, F2, r2⟩ := ref_same (d := d + 2) hS1 hs hM1 hW hp hq
          have hS2 := F2.sh hS1
          have hM2 : CM s σ2 := hM1.ar hs (P := fun a _ => a = 49) (fun g _ _ _ => (F2.2 47 (by decide)).1 g) (fun a i h1 h2 hn => (F2.2 a (by simpa using hn)).2 i) (fun a i hp => by unfold PSF; omega)
          rcases r2 with ⟨c, hc1, hc2, hc3, e2⟩ | ⟨_, e2⟩
          · exact absurd ((key c hc1).mpr (hall (c &&& N) Nat.and_le_right (idm c))) hc2
          · have sc2 : sameC σ1 σ2 := F2.sc (fun a ha => by simp at ha; omega)
            have nx2 : jnx σ2 = jnx σ1 := F2.1.2.2.2.2.1
            have sl2 : jsl σ2 = jsl σ1 := F2.1.2.2.2.2.2
            refine ⟨1, 1, σ1, σ2, s, cr, cp, qr, qp, ?_, ?_, ⟨hS2, by omega, hs, CX.sc (by omega) hC1 sc2, hM2⟩, by omega, by omega, (F1.low (by simp)).trans (sc2.low (by omega)), fun _ => rfl⟩
            · rw [s1, if_pos n3, k113_35RR (sT_16 hS), e1]
              simp only [Option.bind_some, Option.toList_some, List.cons_append, List.nil_append]
              rw [k113_42R, if_neg (fun z => z rfl), k113_51]
            · rw [← ep, ← eq] at e2
              rw [s2 hS1 hM1, if_pos n3, e2]
    · have b1 := c86n (d := d + 3) hS hC h'
      have b2 := c170n (d := d + 2) hS hM hs h'
      refine rd (-1) ?_ ?_
      · simp (decide := true) only [k113_0, k113_5R, k113_5N, k113_11RR, k113_11RN, k113_11NR, k113_11NN, k113_17R, k113_17N, k113_22, k113_24, k113_32, k113_35RR, k113_35RN, k113_35NR, k113_35NN, k113_42R, k113_42N, k113_51, k113_53, a1, b1, sT_1, sT_2, sT_3, sT_16, sT_17, sT_18, sT_19, sT_20, sT_21, sT_22, sT_23, sT_24, sT_25, sT_26, sT_27, sT_28, sT_29, sT_30, sT_31, sT_32, sT_33, sT_34, sT_35, sT_36, sT_37, sT_38, sT_39, sT_40, sT_41, sT_42, sT_43, sT_44, sT_45, sT_46, sT_47, sT_48, sT_49, sT_50, sT_51, sT_52, sT_53, sT_54, sT_55, sT_56, sT_57, sT_58, sT_59, sT_60, sT_61, sT_62, sT_63, sT_64, sT_65, sT_66, sT_67, sT_68, sT_69, sT_70, sT_71, sT_72, sT_73, sT_74, sT_75, sT_76, sT_77, sT_78, sT_79, sT_80, sN_1, sN_2, sN_19, sN_21, sN_23, sN_24, sN_26, sN_29, sN_31, sN_33, sN_35, sN_36, sN_37, sN_39, sN_40, sN_42, sN_44, sN_45, sN_46, sN_48, sN_49, sN_50, sN_51, sN_52, sN_53, sN_54, sN_55, sN_56, sN_57, sN_58, sN_59, sN_60, sN_61, sN_62, sN_63, sN_64, sN_65, sN_66, sN_67, sN_68, sN_69, sN_70, sN_71, sN_72, sN_73, sN_74, sN_75, sN_76, sN_77, sN_78, sN_79, sN_80, sR_0_34, sR_0_38, sR_1_34, sR_1_38, sR_64_20, sR_64_22, sR_128_25, sR_128_28, sR_194_17, sR_195_17, sR_196_17, sR_197_17, sR_258_30, sR_258_32, sR_258_41, sR_384_43, sR_448_18, sR_512_27, sR_513_27, sR_514_27, sR_515_27, sR_516_27, sR_576_16, sR_577_16, sR_578_16, sR_579_16, sR_580_16, sR_581_16, sR_582_16, sR_583_16, sR_584_16, sR_641_47, sR_643_47, sR_645_47, sR_646_47, sR_647_47, sR_648_47, sR_649_47, sR_650_47, sR_651_47, sR_652_47, sR_653_47, sR_654_47, sR_655_47, sR_656_47, sR_657_47, sR_658_47, sR_659_47, sR_661_47, sR_662_47, sR_663_47, sR_664_47, sR_665_47, sR_669_47, sR_670_47, sR_671_47, sR_672_47, sR_673_47, sR_674_47, sR_676_47, sR_677_47, sR_679_47, sR_680_47, sR_681_47, SH_I, SH_A, SH_G, SH_C, hS, Option.getD_some, ne_eq, reduceCtorEq, not_false_eq_true, not_true_eq_false, Option.bind_some, Option.toList_none, Option.toList_some, List.nil_append, List.cons_append, List.append_nil, ↓reduceIte, and_self, true_and, and_true, false_and, and_false, or_true, true_or, or_false, false_or, Nat.reduceEqDiff, Nat.reduceAdd, Int32.reduceMul, Int32.reduceAdd, Int32.reduceSub, Int32.reduceToNatClampNeg, Int32.reduceOfNat, Int32.reduceLT, Int32.reduceLE, va_rf]
      · simp (decide := true) only [k194_0, k194_5, k194_8, k194_13, k194_16, a2, b2, sT_1, sT_2, sT_3, sT_16, sT_17, sT_18, sT_19, sT_20, sT_21, sT_22, sT_23, sT_24, sT_25, sT_26, sT_27, sT_28, sT_29, sT_30, sT_31, sT_32, sT_33, sT_34, sT_35, sT_36, sT_37, sT_38, sT_39, sT_40, sT_41, sT_42, sT_43, sT_44, sT_45, sT_46, sT_47, sT_48, sT_49, sT_50, sT_51, sT_52, sT_53, sT_54, sT_55, sT_56, sT_57, sT_58, sT_59, sT_60, sT_61, sT_62, sT_63, sT_64, sT_65, sT_66, sT_67, sT_68, sT_69, sT_70, sT_71, sT_72, sT_73, sT_74, sT_75, sT_76, sT_77, sT_78, sT_79, sT_80, sN_1, sN_2, sN_19, sN_21, sN_23, sN_24, sN_26, sN_29, sN_31, sN_33, sN_35, sN_36, sN_37, sN_39, sN_40, sN_42, sN_44, sN_45, sN_46, sN_48, sN_49, sN_50, sN_51, sN_52, sN_53, sN_54, sN_55, sN_56, sN_57, sN_58, sN_59, sN_60, sN_61, sN_62, sN_63, sN_64, sN_65, sN_66, sN_67, sN_68, sN_69, sN_70, sN_71, sN_72, sN_73, sN_74, sN_75, sN_76, sN_77, sN_78, sN_79, sN_80, sR_0_34, sR_0_38, sR_1_34, sR_1_38, sR_64_20, sR_64_22, sR_128_25, sR_128_28, sR_194_17, sR_195_17, sR_196_17, sR_197_17, sR_258_30, sR_258_32, sR_258_41, sR_384_43, sR_448_18, sR_512_27, sR_513_27, sR_514_27, sR_515_27, sR_516_27, sR_576_16, sR_577_16, sR_578_16, sR_579_16, sR_580_16, sR_581_16, sR_582_16, sR_583_16, sR_584_16, sR_641_47, sR_643_47, sR_645_47, sR_646_47, sR_647_47, sR_648_47, sR_649_47, sR_650_47, sR_651_47, sR_652_47, sR_653_47, sR_654_47, sR_655_47, sR_656_47, sR_657_47, sR_658_47, sR_659_47, sR_661_47, sR_662_47, sR_663_47, sR_664_47, sR_665_47, sR_669_47, sR_670_47, sR_671_47, sR_672_47, sR_673_47, sR_674_47, sR_676_47, sR_677_47, sR_679_47, sR_680_47, sR_681_47, SH_I, SH_A, SH_G, SH_C, hS, Option.getD_some, ne_eq, reduceCtorEq, not_false_eq_true, not_true_eq_false, Option.bind_some, Option.toList_none, Option.toList_some, List.nil_append, List.cons_append, List.append_nil, ↓reduceIte, and_self, true_and, and_true, false_and, and_false, or_true, true_or, or_false, false_or, Nat.reduceEqDiff, Nat.reduceAdd, Int32.reduceMul, Int32.reduceAdd, Int32.reduceSub, Int32.reduceToNatClampNeg, Int32.reduceOfNat, Int32.reduceLT, Int32.reduceLE, va_rf]
  · have a1 := c86n (d := d + 3) hS hC h
    have a2 := c170n (d := d + 2) hS hM hs h
    refine rd (-1) ?_ ?_
    · by_cases h' : inR y s.ps.length
      · obtain ⟨q, hq, eq⟩ := inR_nat (by omega) h'
        have b1 := c86y (d := d + 3) hS hC hs hq
        rw [← eq] at b1
        simp (decide := true) only [k113_0, k113_5R, k113_5N, k113_11RR, k113_11RN, k113_11NR, k113_11NN, k113_17R, k113_17N, k113_22, k113_24, k113_32, k113_35RR, k113_35RN, k113_35NR, k113_35NN, k113_42R, k113_42N, k113_51, k113_53, a1, b1, sT_1, sT_2, sT_3, sT_16, sT_17, sT_18, sT_19, sT_20, sT_21, sT_22, sT_23, sT_24, sT_25, sT_26, sT_27, sT_28, sT_29, sT_30, sT_31, sT_32, sT_33, sT_34, sT_35, sT_36, sT_37, sT_38, sT_39, sT_40, sT_41, sT_42, sT_43, sT_44, sT_45, sT_46, sT_47, sT_48, sT_49, sT_50, sT_51, sT_52, sT_53, sT_54, sT_55, sT_56, sT_57, sT_58, sT_59, sT_60, sT_61, sT_62, sT_63, sT_64, sT_65, sT_66, sT_67, sT_68, sT_69, sT_70, sT_71, sT_72, sT_73, sT_74, sT_75, sT_76, sT_77, sT_78, sT_79, sT_80, sN_1, sN_2, sN_19, sN_21, sN_23, sN_24, sN_26, sN_29, sN_31, sN_33, sN_35, sN_36, sN_37, sN_39, sN_40, sN_42, sN_44, sN_45, sN_46, sN_48, sN_49, sN_50, sN_51, sN_52, sN_53, sN_54, sN_55, sN_56, sN_57, sN_58, sN_59, sN_60, sN_61, sN_62, sN_63, sN_64, sN_65, sN_66, sN_67, sN_68, sN_69, sN_70, sN_71, sN_72, sN_73, sN_74, sN_75, sN_76, sN_77, sN_78, sN_79, sN_80, sR_0_34, sR_0_38, sR_1_34, sR_1_38, sR_64_20, sR_64_22, sR_128_25, sR_128_28, sR_194_17, sR_195_17, sR_196_17, sR_197_17, sR_258_30, sR_258_32, sR_258_41, sR_384_43, sR_448_18, sR_512_27, sR_513_27, sR_514_27, sR_515_27, sR_516_27, sR_576_16, sR_577_16, sR_578_16, sR_579_16, sR_580_16, sR_581_16, sR_582_16, sR_583_16, sR_584_16, sR_641_47, sR_643_47, sR_645_47, sR_646_47, sR_647_47, sR_648_47, sR_649_47, sR_650_47, sR_651_47, sR_652_47, sR_653_47, sR_654_47, sR_655_47, sR_656_47, sR_657_47, sR_658_47, sR_659_47, sR_661_47, sR_662_47, sR_663_47, sR_664_47, sR_665_47, sR_669_47, sR_670_47, sR_671_47, sR_672_47, sR_673_47, sR_674_47, sR_676_47, sR_677_47, sR_679_47, sR_680_47, sR_681_47, SH_I, SH_A, SH_G, SH_C, hS, Option.getD_some, ne_eq, reduceCtorEq, not_false_eq_true, not_true_eq_false, Option.bind_some, Option.toList_none, Option.toList_some, List.nil_append, List.cons_append, List.append_nil, ↓reduceIte, and_self, true_and, and_true, false_and, and_false, or_true, true_or, or_false, false_or, Nat.reduceEqDiff, Nat.reduceAdd, Int32.reduceMul, Int32.reduceAdd, Int32.reduceSub, Int32.reduceToNatClampNeg, Int32.reduceOfNat, Int32.reduceLT, Int32.reduceLE, va_rf]
      · have b1 := c86n (d := d + 3) hS hC h'
        simp (decide := true) only [k113_0, k113_5R, k113_5N, k113_11RR, k113_11RN, k113_11NR, k113_11NN, k113_17R, k113_17N, k113_22, k113_24, k113_32, k113_35RR, k113_35RN, k113_35NR, k113_35NN, k113_42R, k113_42N, k113_51, k113_53, a1, b1, sT_1, sT_2, sT_3, sT_16, sT_17, sT_18, sT_19, sT_20, sT_21, sT_22, sT_23, sT_24, sT_25, sT_26, sT_27, sT_28, sT_29, sT_30, sT_31, sT_32, sT_33, sT_34, sT_35, sT_36, sT_37, sT_38, sT_39, sT_40, sT_41, sT_42, sT_43, sT_44, sT_45, sT_46, sT_47, sT_48, sT_49, sT_50, sT_51, sT_52, sT_53, sT_54, sT_55, sT_56, sT_57, sT_58, sT_59, sT_60, sT_61, sT_62, sT_63, sT_64, sT_65, sT_66, sT_67, sT_68, sT_69, sT_70, sT_71, sT_72, sT_73, sT_74, sT_75, sT_76, sT_77, sT_78, sT_79, sT_80, sN_1, sN_2, sN_19, sN_21, sN_23, sN_24, sN_26, sN_29, sN_31, sN_33, sN_35, sN_36, sN_37, sN_39, sN_40, sN_42, sN_44, sN_45, sN_46, sN_48, sN_49, sN_50, sN_51, sN_52, sN_53, sN_54, sN_55, sN_56, sN_57, sN_58, sN_59, sN_60, sN_61, sN_62, sN_63, sN_64, sN_65, sN_66, sN_67, sN_68, sN_69, sN_70, sN_71, sN_72, sN_73, sN_74, sN_75, sN_76, sN_77, sN_78, sN_79, sN_80, sR_0_34, sR_0_38, sR_1_34, sR_1_38, sR_64_20, sR_64_22, sR_128_25, sR_128_28, sR_194_17, sR_195_17, sR_196_17, sR_197_17, sR_258_30, sR_258_32, sR_258_41, sR_384_43, sR_448_18, sR_512_27, sR_513_27, sR_514_27, sR_515_27, sR_516_27, sR_576_16, sR_577_16, sR_578_16, sR_579_16, sR_580_16, sR_581_16, sR_582_16, sR_583_16, sR_584_16, sR_641_47, sR_643_47, sR_645_47, sR_646_47, sR_647_47, sR_648_47, sR_649_47, sR_650_47, sR_651_47, sR_652_47, sR_653_47, sR_654_47, sR_655_47, sR_656_47, sR_657_47, sR_658_47, sR_659_47, sR_661_47, sR_662_47, sR_663_47, sR_664_47, sR_665_47, sR_669_47, sR_670_47, sR_671_47, sR_672_47, sR_673_47, sR_674_47, sR_676_47, sR_677_47, sR_679_47, sR_680_47, sR_681_47, SH_I, SH_A, SH_G, SH_C, hS, Option.getD_some, ne_eq, reduceCtorEq, not_false_eq_true, not_true_eq_false, Option.bind_some, Option.toList_none, Option.toList_some, List.nil_append, List.cons_append, List.append_nil, ↓reduceIte, and_self, true_and, and_true, false_and, and_false, or_true, true_or, or_false, false_or, Nat.reduceEqDiff, Nat.reduceAdd, Int32.reduceMul, Int32.reduceAdd, Int32.reduceSub, Int32.reduceToNatClampNeg, Int32.reduceOfNat, Int32.reduceLT, Int32.reduceLE, va_rf]
    · simp (decide := true) only [k194_0, k194_5, k194_16, a2, sT_1, sT_2, sT_3, sT_16, sT_17, sT_18, sT_19, sT_20, sT_21, sT_22, sT_23, sT_24, sT_25, sT_26, sT_27, sT_28, sT_29, sT_30, sT_31, sT_32, sT_33, sT_34, sT_35, sT_36, sT_37, sT_38, sT_39, sT_40, sT_41, sT_42, sT_43, sT_44, sT_45, sT_46, sT_47, sT_48, sT_49, sT_50, sT_51, sT_52, sT_53, sT_54, sT_55, sT_56, sT_57, sT_58, sT_59, sT_60, sT_61, sT_62, sT_63, sT_64, sT_65, sT_66, sT_67, sT_68, sT_69, sT_70, sT_71, sT_72, sT_73, sT_74, sT_75, sT_76, sT_77, sT_78, sT_79, sT_80, sN_1, sN_2, sN_19, sN_21, sN_23, sN_24, sN_26, sN_29, sN_31, sN_33, sN_35, sN_36, sN_37, sN_39, sN_40, sN_42, sN_44, sN_45, sN_46, sN_48, sN_49, sN_50, sN_51, sN_52, sN_53, sN_54, sN_55, sN_56, sN_57, sN_58, sN_59, sN_60, sN_61, sN_62, sN_63, sN_64, sN_65, sN_66, sN_67, sN_68, sN_69, sN_70, sN_71, sN_72, sN_73, sN_74, sN_75, sN_76, sN_77, sN_78, sN_79, sN_80, sR_0_34, sR_0_38, sR_1_34, sR_1_38, sR_64_20, sR_64_22, sR_128_25, sR_128_28, sR_194_17, sR_195_17, sR_196_17, sR_197_17, sR_258_30, sR_258_32, sR_258_41, sR_384_43, sR_448_18, sR_512_27, sR_513_27, sR_514_27, sR_515_27, sR_516_27, sR_576_16, sR_577_16, sR_578_16, sR_579_16, sR_580_16, sR_581_16, sR_582_16, sR_583_16, sR_584_16, sR_641_47, sR_643_47, sR_645_47, sR_646_47, sR_647_47, sR_648_47, sR_649_47, sR_650_47, sR_651_47, sR_652_47, sR_653_47, sR_654_47, sR_655_47, sR_656_47, sR_657_47, sR_658_47, sR_659_47, sR_661_47, sR_662_47, sR_663_47, sR_664_47, sR_665_47, sR_669_47, sR_670_47, sR_671_47, sR_672_47, sR_673_47, sR_674_47, sR_676_47, sR_677_47, sR_679_47, sR_680_47, sR_681_47, SH_I, SH_A, SH_G, SH_C, hS, Option.getD_some, ne_eq, reduceCtorEq, not_false_eq_true, not_true_eq_false, Option.bind_some, Option.toList_none, Option.toList_some, List.nil_append, List.cons_append, List.append_nil, ↓reduceIte, and_self, true_and, and_true, false_and, and_false, or_true, true_or, or_false, false_or, Nat.reduceEqDiff, Nat.reduceAdd, Int32.reduceMul, Int32.reduceAdd, Int32.reduceSub, Int32.reduceToNatClampNeg, Int32.reduceOfNat, Int32.reduceLT, Int32.reduceLE, va_rf]
end SMD
end S_93
section S_94
/-! every register and every mark of a rule stands in its first side -/
theorem lk_occ {rs : List Nat} {l : Nat} {fs : Bool} {z : Nat × List Nat} (h : lk rs l fs = some z) : (∀ i, i < z.2.length → i < rs.length ∨ i = z.1) ∧ (fs = false → z.2 = rs) := by
  unfold lk at h
  split at h
  · cases h; exact ⟨fun i hi => Or.inl hi, fun _ => rfl⟩
  · split at h
    · rename_i hf
      cases h
      refine ⟨fun i hi => ?_, fun e => by rw [hf] at e; cases e⟩
      have hi : i < (rs ++ [l]).length := hi
      rw [List.length_append] at hi
      have : i < rs.length + 1 := hi
      show i < rs.length ∨ i = rs.length
      omega
    · cases h
theorem mRegR_occ {len : Nat} {b : Nat → Int32} {fs : Bool} {p : Nat} {rs : List Nat} {z : Nat × Nat × List Nat} (h : mRegR len b fs p rs = some z) : (∀ i, i < z.2.2.length → i < rs.length ∨ i = z.2.1) ∧ (fs = false → z.2.2 = rs) := by
  unfold mRegR at h
  obtain ⟨y, h1, h2⟩ := Option.bind_eq_some_iff.mp h
  obtain ⟨x, h3, h4⟩ := Option.map_eq_some_iff.mp h2
  have q := lk_occ h3
  subst h4
  exact q
theorem mRegsR_occ {len : Nat} {b : Nat → Int32} {fs : Bool} : ∀ (f j : Nat) (s s' : jPS), mRegsR len b fs f j s = some s' → (∀ i, i < s'.2.1.length → i < s.2.1.length ∨ ∃ t, j ≤ t ∧ t < j + f ∧ s'.2.2.2 (t + 1) = nI i) ∧ (fs = false → s'.2.1 = s.2.1) := by
  intro f
  induction f with
  | zero => intro j s s' h; cases h; exact ⟨fun i hi => Or.inl hi, fun _ => rfl⟩
  | succ f ih =>
    intro j s s' h
    obtain ⟨p1, _, h2⟩ := Option.bind_eq_some_iff.mp h
    obtain ⟨z, h3, h4⟩ := Option.bind_eq_some_iff.mp h2
    obtain ⟨o1, o2⟩ := mRegR_occ h3
    obtain ⟨q1, q2⟩ := ih _ _ _ h4
    refine ⟨fun i hi => ?_, fun e => (q2 e).trans (o2 e)⟩
    rcases q1 i hi with q | ⟨t, t1, t2, t3⟩
    · rcases o1 i q with w | w
      · exact Or.inl w
      · refine Or.inr ⟨j, Nat.le_refl _, by omega, ?_⟩
        rw [(mRegsR_keep _ _ _ _ h4).2 (j + 1) (Or.inl (Nat.le_refl _)), w]
        show (if j + 1 = j + 1 then nI z.2.1 else _) = _
        rw [if_pos rfl]
    · exact Or.inr ⟨t, by omega, by omega, t3⟩
theorem mTermR_occ {len : Nat} {b : Nat → Int32} {W op : Nat} {fs : Bool} {p : Nat} {ms : List Nat} {rg : Nat → Int32} {z : Nat × List Nat × (Nat → Int32) × Int32} (h : mTermR len b W op fs p ms rg = some z) : ∀ i, i < z.2.1.length → i < ms.length ∨ z.2.2.2 = 16 + nI i := by
  unfold mTermR at h
  split at h
  · obtain ⟨x, h1, h2⟩ := Option.map_eq_some_iff.mp h
    subst h2
    exact fun i hi => Or.inl hi
  · obtain ⟨x, h1, h2⟩ := Option.map_eq_some_iff.mp h
    subst h2
    unfold mMark at h1
    obtain ⟨y, h3, h4⟩ := Option.bind_eq_some_iff.mp h1
    obtain ⟨u, h5, h6⟩ := Option.map_eq_some_iff.mp h4
    have q := (lk_occ h5).1
    subst h6
    intro i hi
    rcases q i hi with w | w
    · exact Or.inl w
    · exact Or.inr (by rw [w])
theorem mNumR_occ {len : Nat} {b : Nat → Int32} {W k : Nat} {s : jPS} {rg : Nat → Int32} {y : jPS × (Nat → Int32)} (h : mNumR len b W 0 k s rg = some y) : ∀ i, i < y.1.2.2.1.length → i < s.2.2.1.length ∨ (numN k = true ∧ y.1.2.2.2 2 = 16 + nI i) := by
  unfold mNumR at h
  split at h
  · rename_i hn
    obtain ⟨p1, h1, h2⟩ := Option.bind_eq_some_iff.mp h
    obtain ⟨z, h3, h5⟩ := Option.bind_eq_some_iff.mp h2
    rw [if_neg (fun q => absurd q.1 (by decide))] at h5
    have q := mTermR_occ h3
    cases h5
    intro i hi
    rcases q i hi with w | w
    · exact Or.inl w
    · exact Or.inr ⟨hn, w⟩
  · cases h
    exact fun i hi => Or.inl hi
def OCo (nr nm nr' nm' : Nat) (os : List (Nat → Int32)) : Prop := (∀ i, i < nr' → i < nr ∨ ∃ o, o ∈ os ∧ ∃ j, j < regN (opO o) ∧ o (j + 1) = nI i) ∧ (∀ i, i < nm' → i < nm ∨ ∃ o, o ∈ os ∧ numN (opO o) = true ∧ o 2 = 16 + nI i)
theorem mOrdS_occ {len : Nat} {b : Nat → Int32} {W n : Nat} {s : jPS} {rg : Nat → Int32} {y : jPS × (Nat → Int32)} (h : mOrdS len b W 0 n s rg = some y) : OCo s.2.1.length s.2.2.1.length y.1.2.1.length y.1.2.2.1.length [y.1.2.2.2] := by
  obtain ⟨k, s2, hk, e1, e2, e3, e4, e5⟩ := mOrdS_pre h
  obtain ⟨d1, d2⟩ := mNumR_keep e5
  have ok : opO y.1.2.2.2 = k := by
    unfold opO
    rw [d2 0 (Or.inl rfl), e2]
    exact nI_clamp (by omega)
  refine ⟨fun i hi => ?_, fun i hi => ?_⟩
  · rw [d1] at hi
    rcases (mRegsR_occ _ _ _ _ e4).1 i hi with w | ⟨t, t1, t2, t3⟩
    · exact Or.inl w
    · refine Or.inr ⟨_, List.mem_singleton.mpr rfl, t, by rw [ok]; omega, ?_⟩
      rw [← t3]
      by_cases hn : numN k = true
      · have := numN1 hn
        exact d2 (t + 1) (Or.inr (Or.inl (by omega)))
      · exact d2 (t + 1) (Or.inr (Or.inr (Or.inr hn)))
  · rcases mNumR_occ e5 i hi with w | w
    · rw [e1] at w; exact Or.inl w
    · exact Or.inr ⟨_, List.mem_singleton.mpr rfl, by rw [ok]; exact w.1, w.2⟩
theorem mSide_occ {len : Nat} {b : Nat → Int32} {W : Nat} : ∀ (f n : Nat) (s : jPS) (rg : Nat → Int32) (z : List (Nat → Int32) × jPS × (Nat → Int32)), mSide len b W 0 f n s rg = some z → OCo s.2.1.length s.2.2.1.length z.2.1.2.1.length z.2.1.2.2.1.length z.1 := by
  intro f
  induction f with
  | zero => intro n s rg z h; cases h
  | succ f ih =>
    intro n s rg z h
    unfold mSide at h
    obtain ⟨y, h1, h2⟩ := Option.bind_eq_some_iff.mp h
    obtain ⟨a1, a2⟩ := mOrdS_occ h1
    split at h2
    · obtain ⟨w, h3, h4⟩ := Option.map_eq_some_iff.mp h2
      obtain ⟨c1, c2⟩ := ih (n + 1) (sk len b (sk len b y.1.1 + 1), y.1.2) y.2 w h3
      subst h4
      refine ⟨fun i hi => ?_, fun i hi => ?_⟩
      · rcases c1 i hi with q | ⟨o, ho, r⟩
        · rcases a1 i q with q | ⟨o, ho, r⟩
          · exact Or.inl q
          · exact Or.inr ⟨o, by rw [List.mem_singleton] at ho; rw [ho]; exact List.mem_cons_self, r⟩
        · exact Or.inr ⟨o, List.mem_cons_of_mem _ ho, r⟩
      · rcases c2 i hi with q | ⟨o, ho, r⟩
        · rcases a2 i q with q | ⟨o, ho, r⟩
          · exact Or.inl q
          · exact Or.inr ⟨o, by rw [List.mem_singleton] at ho; rw [ho]; exact List.mem_cons_self, r⟩
        · exact Or.inr ⟨o, List.mem_cons_of_mem _ ho, r⟩
    · cases h2
      exact ⟨a1, a2⟩
theorem mSide_rs {len : Nat} {b : Nat → Int32} {W : Nat} : ∀ (f n : Nat) (s : jPS) (rg : Nat → Int32) (z : List (Nat → Int32) × jPS × (Nat → Int32)), mSide len b W 1 f n s rg = some z → z.2.1.2.1 = s.2.1 := by
  intro f
  induction f with
  | zero => intro n s rg z h; cases h
  | succ f ih =>
    intro n s rg z h
    unfold mSide at h
    obtain ⟨y, h1, h2⟩ := Option.bind_eq_some_iff.mp h
    obtain ⟨k, s2, hk, e1, e2, e3, e4, e5⟩ := mOrdS_pre h1
    have q : y.1.2.1 = s.2.1 := by rw [(mNumR_keep e5).1, (mRegsR_occ _ _ _ _ e4).2 rfl]
    split at h2
    · obtain ⟨w, h3, h4⟩ := Option.map_eq_some_iff.mp h2
      have c := ih _ _ _ _ h3
      subst h4
      exact c.trans q
    · cases h2
      exact q
theorem mRule_occ {len : Nat} {b : Nat → Int32} {W : Nat} {rg0 : Nat → Int32} {o1 o2 : List (Nat → Int32)} {rs ms : List Nat} {rg : Nat → Int32} (h : mRule len b W rg0 = some (o1, o2, rs, ms, rg)) : OCC rs.length ms.length o1 := by
  rw [mRule_eq] at h
  obtain ⟨z, h1, h2⟩ := Option.bind_eq_some_iff.mp h
  obtain ⟨z0, h3, h4⟩ := Option.bind_eq_some_iff.mp h1
  obtain ⟨a1, a2⟩ := mSide_occ 5 0 (sk len b 0, [], [], fun _ => 0) rg0 z0 h3
  have A : OCC z0.2.1.2.1.length z0.2.1.2.2.1.length z0.1 := ⟨fun i hi => (a1 i hi).elim (fun q => absurd q (Nat.not_lt_zero i)) id, fun i hi => (a2 i hi).elim (fun q => absurd q (Nat.not_lt_zero i)) id⟩
  have ez : z.1 = z0.1 ∧ z.2.1.2 = z0.2.1.2 ∧ z.2.2 = z0.2.2 := by
    unfold mCl at h4
    rw [if_pos rfl] at h4
    split at h4
    · cases h4; exact ⟨rfl, rfl, rfl⟩
    · cases h4
  split at h2
  · cases h2
    rw [ez.1, ez.2.1]
    exact A
  · obtain ⟨y, h5, h6⟩ := Option.map_eq_some_iff.mp h2
    obtain ⟨y0, h7, h8⟩ := Option.bind_eq_some_iff.mp h5
    have ey : y = y0 := by
      unfold mCl at h8
      rw [if_neg (by decide)] at h8
      split at h8
      · cases h8; rfl
      · cases h8
    subst ey
    rw [ez.2.1, ez.2.2] at h7
    obtain ⟨d1, _⟩ := mSide_rg 5 0 _ _ _ h7
    have d1 : y.2.1.2.2.1 = z0.2.1.2.2.1 := d1
    have d3 := mSide_rs 5 0 _ _ _ h7
    have d3 : y.2.1.2.1 = z0.2.1.2.1 := d3
    cases h6
    rw [ez.1, d1, d3]
    exact A
end S_94
section S_95
/-! windows: what both do with an order -/
abbrev BN : Type := Nat → Option Nat
def encB (e : Int32) (b : BN) (k : Nat) : Int32 := match b k with | some v => nI v | none => e
def upB (b : BN) (w v : Nat) : BN := fun i => if i = w then some v else b i
def hasV (b : BN) (v : Nat) : Bool := b 0 == some v || b 1 == some v || b 2 == some v || b 3 == some v
def tkR (b : BN) (w v : Nat) : Option BN := match b w with | none => if hasV b v = true then none else some (upB b w v) | some u => if u = v then some b else none
def tkL (b : BN) (o p : Nat → Int32) : Nat → Option BN
  | 0 => some b
  | n + 1 => (tkL b o p n).bind (fun c => tkR c (o (n + 1)).toNatClampNeg (p (n + 1)).toNatClampNeg)
def tkM (c : BN) (m v : Nat) : Option BN := match c m with | none => some (upB c m v) | some u => if u = v then some c else none
def tkN (W k : Nat) (c : BN) (t v : Int32) : Option BN := if 16 ≤ t then tkM c (t - 16).toNatClampNeg v.toNatClampNeg else if kpM W k t = v then some c else none
def tkO (W : Nat) (x : BN × BN) (o p : Nat → Int32) : Option (BN × BN) := if p 0 = o 0 then (tkL x.1 o p (regN (opO o))).bind (fun b' => if numN (opO o) = true then (tkN W (opO o) x.2 (o 2) (p 2)).map (fun c' => (b', c')) else some (b', x.2)) else none
def tkW (W : Nat) (os ps : List (Nat → Int32)) (pl : Nat) : Nat → Option (BN × BN)
  | 0 => some (fun _ => none, fun _ => none)
  | n + 1 => (tkW W os ps pl n).bind (fun x => tkO W x (os.getD n (fun _ => 0)) (ps.getD (pl + n) (fun _ => 0)))
def winF (W : Nat) (os : List (Nat → Int32)) (m : Nat) (ps : List (Nat → Int32)) (pl : Nat) : Option (BN × BN) := if pl + os.length ≤ ps.length ∧ ps.length - os.length + m ≤ 24 then tkW W os ps pl os.length else none
theorem hasV_iff {b : BN} {v : Nat} : hasV b v = true ↔ ∃ i, i < 4 ∧ b i = some v := by
  unfold hasV
  simp only [Bool.or_eq_true, beq_iff_eq]
  constructor
  · rintro (((h | h) | h) | h)
    · exact ⟨0, by decide, h⟩
    · exact ⟨1, by decide, h⟩
    · exact ⟨2, by decide, h⟩
    · exact ⟨3, by decide, h⟩
  · rintro ⟨i, hi, h⟩
    rcases jnf4 hi with e | e | e | e <;> subst e
    · exact Or.inl (Or.inl (Or.inl h))
    · exact Or.inl (Or.inl (Or.inr h))
    · exact Or.inl (Or.inr h)
    · exact Or.inr h
/-- registers mean unlike registers -/
def IB (b : BN) : Prop := (∀ i v, i < 4 → b i = some v → v < 4) ∧ (∀ i j v, i < 4 → j < 4 → b i = some v → b j = some v → i = j)
def IC (c : BN) : Prop := ∀ i v, i < 3 → c i = some v → v < 8
theorem enc_eq {e : Int32} (he : e = -1 ∨ e = -4) {b : BN} {k v : Nat} (hv : v < 8) (hb : ∀ u, b k = some u → u < 8) : encB e b k = nI v ↔ b k = some v := by
  unfold encB
  cases h : b k with
  | none =>
    refine ⟨fun z => ?_, fun z => nomatch z⟩
    exfalso
    have z : e = nI v := z
    have := nn0 (k := v) (by omega)
    rw [← z] at this
    rcases he with q | q <;> rw [q] at this <;> exact this (by decide)
  | some u =>
    have hu := hb u h
    show nI u = nI v ↔ some u = some v
    rw [n31eq (by omega) (by omega), Option.some_inj]
theorem enc_neg {b : BN} {k : Nat} (hb : ∀ u, b k = some u → u < 8) : (0 ≤ encB (-1) b k ↔ ∃ u, b k = some u) := by
  unfold encB
  cases h : b k with
  | none => exact ⟨fun z => absurd z (by decide), fun ⟨u, hu⟩ => nomatch hu⟩
  | some u =>
    have hu := hb u h
    refine ⟨fun _ => ⟨u, rfl⟩, fun _ => ?_⟩
    show (0 : Int32) ≤ nI u
    rw [← Int32.not_lt]; exact nn0 (by omega)
theorem enc_none {b : BN} {k : Nat} (hb : ∀ u, b k = some u → u < 8) : (encB (-4) b k = -4 ↔ b k = none) := by
  unfold encB
  cases h : b k with
  | none => exact ⟨fun _ => rfl, fun _ => rfl⟩
  | some u =>
    have hu := hb u h
    refine ⟨fun z => ?_, fun z => nomatch z⟩
    have z : nI u = -4 := z
    have := nn0 (k := u) (by omega)
    rw [z] at this
    exact absurd (by decide) this
theorem enc_up {e : Int32} {b : BN} {w v k : Nat} : encB e (upB b w v) k = if k = w then nI v else encB e b k := by
  unfold encB upB
  by_cases h : k = w
  · rw [if_pos h, if_pos h]
  · rw [if_neg h, if_neg h]
theorem tkR_iv {b b' : BN} {w v : Nat} (hv : v < 4) (iv : IB b) (h : tkR b w v = some b') : IB b' := by
  unfold tkR at h
  cases hw : b w with
  | some u =>
    rw [hw] at h
    have h : (if u = v then some b else none) = some b' := h
    split at h
    · cases h; exact iv
    · cases h
  | none =>
    rw [hw] at h
    have h : (if hasV b v = true then none else some (upB b w v)) = some b' := h
    split at h
    · cases h
    · rename_i hn
      cases h
      have nv : ∀ i, i < 4 → ¬ b i = some v := fun i hi z => hn (hasV_iff.mpr ⟨i, hi, z⟩)
      unfold upB
      refine ⟨fun i x hi hx => ?_, fun i j x hi hj h1 h2 => ?_⟩
      · by_cases e : i = w
        · have hx : (if i = w then some v else b i) = some x := hx
          rw [if_pos e, Option.some_inj] at hx; omega
        · have hx : (if i = w then some v else b i) = some x := hx
          rw [if_neg e] at hx; exact iv.1 i x hi hx
      · have h1 : (if i = w then some v else b i) = some x := h1
        have h2 : (if j = w then some v else b j) = some x := h2
        by_cases e : i = w
        · rw [if_pos e, Option.some_inj] at h1
          by_cases f : j = w
          · omega
          · rw [if_neg f, ← h1] at h2; exact absurd h2 (nv j hj)
        · rw [if_neg e] at h1
          by_cases f : j = w
          · rw [if_pos f, Option.some_inj] at h2
            rw [← h2] at h1; exact absurd h1 (nv i hi)
          · rw [if_neg f] at h2; exact iv.2 i j x hi hj h1 h2
theorem tkM_iv {c c' : BN} {m v : Nat} (hv : v < 8) (ic : IC c) (h : tkM c m v = some c') : IC c' := by
  unfold tkM at h
  cases hw : c m with
  | some u =>
    rw [hw] at h
    have h : (if u = v then some c else none) = some c' := h
    split at h
    · cases h; exact ic
    · cases h
  | none =>
    rw [hw] at h
    cases h
    intro i x hi hx
    have hx : (if i = m then some v else c i) = some x := hx
    by_cases e : i = m
    · rw [if_pos e, Option.some_inj] at hx; omega
    · rw [if_neg e] at hx; exact ic i x hi hx
theorem tkL_none {b : BN} {o p : Nat → Int32} {n : Nat} (h : tkL b o p n = none) : ∀ m, n ≤ m → tkL b o p m = none := by
  intro m hm
  induction m with
  | zero => have : n = 0 := by omega
            subst this; exact h
  | succ m ih =>
    by_cases e : n = m + 1
    · subst e; exact h
    · show (tkL b o p m).bind _ = none
      rw [ih (by omega)]; rfl
theorem tkL_iv {b : BN} {o p : Nat → Int32} (iv : IB b) : ∀ n b', (∀ j, j < n → (p (j + 1)).toNatClampNeg < 4) → tkL b o p n = some b' → IB b' := by
  intro n
  induction n with
  | zero => intro b' _ h; cases h; exact iv
  | succ n ih =>
    intro b' hp h
    obtain ⟨c, h1, h2⟩ := Option.bind_eq_some_iff.mp h
    exact tkR_iv (hp n (by omega)) (ih c (fun j hj => hp j (by omega)) h1) h2
section WIN
variable {d : Nat} {σ : jS}
theorem c100 {B br bn : Nat} {b : BN} (hB : BD σ B br bn) (hb : ∀ k, k < 4 → jA σ br k = encB (-1) b k) (iv : IB b) {w v : Nat} (hw : w < 4) (hv : v < 4) : ∃ σ', jx d 100 0 [some (.ref B), some (.int (nI w)), some (.int (nI v)), none] [] σ = some (some (.int (if (tkR b w v).isSome then 1 else 0)), σ') ∧ FR [br] σ σ' ∧ (∀ b', tkR b w v = some b' → ∀ k, k < 4 → jA σ' br k = encB (-1) b' k) := by
  obtain ⟨h1, h2, h3, h4, h5, h6, h7⟩ := hB
  have rn : jR σ 0 B ≠ none := by rw [h2]; exact fun z => nomatch z
  have rg : (jR σ 0 B).getD 0 = br := by rw [h2]; rfl
  have b8 : ∀ k, k < 4 → ∀ u, b k = some u → u < 8 := fun k hk u hu => by have := iv.1 k u hk hu; omega
  have st : jx d 100 0 [some (.ref B), some (.int (nI w)), some (.int (nI v)), none] [] σ = jx d 100 17 [some (.ref B), some (.int (nI w)), some (.int (nI v)), some (.int (nI 0))] [] σ := by
    have l4 : nI w < Int32.ofNat 4 := by rw [show Int32.ofNat 4 = nI 4 from rfl, n31 (by omega) (by decide)]; exact hw
    rw [k100_0, if_neg (nn0 (by omega)), k100_4 h1 rn (by rw [rg, h4]; decide), rg, h5, if_pos l4, k100_15]
    rfl
  by_cases hx : ∃ k, k < 4 ∧ k ≠ w ∧ b k = some v
  · have L : ∀ f n, n + f = 4 → (∃ k, n ≤ k ∧ k < 4 ∧ k ≠ w ∧ b k = some v) → jx d 100 17 [some (.ref B), some (.int (nI w)), some (.int (nI v)), some (.int (nI n))] [] σ = some (some (.int 0), σ) := by
      intro f
      induction f with
      | zero => intro n hn ⟨k, k1, k2, _⟩; omega
      | succ f ih =>
        intro n hn hk
        have g4 : ¬ Int32.ofNat 4 ≤ nI n := nI_ge (by omega) (by omega)
        rw [k100_17 h1 rn (by rw [rg, h4]; decide), rg, h5, if_neg g4, k100_26]
        by_cases e : n = w
        · rw [if_pos (by rw [e]), k100_43, ← nI_succ]
          obtain ⟨k, k1, k2, k3, k4⟩ := hk
          exact ih (n + 1) (by omega) ⟨k, by omega, k2, k3, k4⟩
        · rw [if_neg (by rw [n31eq (by omega) (by omega)]; exact e), k100_31 h1 rn (by rw [rg]; exact Or.inl h4) (by rw [rg, h5]; exact jin_n (by omega) (by decide)), rg, nI_clamp (by omega), hb n (by omega)]
          by_cases q : b n = some v
          · rw [if_neg (fun z => z ((enc_eq (Or.inl rfl) (by omega) (b8 n (by omega))).mpr q)), k100_41]
          · rw [if_pos (fun z => q ((enc_eq (Or.inl rfl) (by omega) (b8 n (by omega))).mp z)), k100_43, ← nI_succ]
            obtain ⟨k, k1, k2, k3, k4⟩ := hk
            have : k ≠ n := fun z => q (z ▸ k4)
            exact ih (n + 1) (by omega) ⟨k, by omega, k2, k3, k4⟩
    obtain ⟨k, k1, k2, k3⟩ := hx
    have tn : tkR b w v = none := by
      unfold tkR
      cases hw' : b w with
      | none =>
        show (if hasV b v = true then none else _) = none
        rw [if_pos (hasV_iff.mpr ⟨k, k1, k3⟩)]
      | some u =>
        show (if u = v then some b else none) = none
        rw [if_neg (fun z : u = v => k2 (iv.2 k w v k1 hw k3 (by rw [hw', z])))]
    refine ⟨σ, ?_, FR.refl _ σ, fun b' hb' => by rw [tn] at hb'; cases hb'⟩
    rw [st, L 4 0 rfl ⟨k, Nat.zero_le _, k1, k2, k3⟩, tn]
    rfl
  · have L : ∀ f n, n + f = 4 → jx d 100 17 [some (.ref B), some (.int (nI w)), some (.int (nI v)), some (.int (nI n))] [] σ = jx d 100 49 [some (.ref B), some (.int (nI w)), some (.int (nI v)), some (.int (nI 4))] [] σ := by
      intro f
      induction f with
      | zero =>
        intro n hn
        have e : n = 4 := by omega
        subst e
        rw [k100_17 h1 rn (by rw [rg, h4]; decide), rg, h5, if_pos (by decide)]
      | succ f ih =>
        intro n hn
        have g4 : ¬ Int32.ofNat 4 ≤ nI n := nI_ge (by omega) (by omega)
        rw [k100_17 h1 rn (by rw [rg, h4]; decide), rg, h5, if_neg g4, k100_26]
        by_cases e : n = w
        · rw [if_pos (by rw [e]), k100_43, ← nI_succ]
          exact ih (n + 1) (by omega)
        · have q : ¬ b n = some v := fun z => hx ⟨n, by omega, e, z⟩
          rw [if_neg (by rw [n31eq (by omega) (by omega)]; exact e), k100_31 h1 rn (by rw [rg]; exact Or.inl h4) (by rw [rg, h5]; exact jin_n (by omega) (by decide)), rg, nI_clamp (by omega), hb n (by omega), if_pos (fun z => q ((enc_eq (Or.inl rfl) (by omega) (b8 n (by omega))).mp z)), k100_43, ← nI_succ]
          exact ih (n + 1) (by omega)
    have gw : jin (jN σ ((jR σ 0 B).getD 0)) (nI w) := by rw [rg, h5]; exact jin_n hw (by decide)
    have cw : (nI w).toNatClampNeg = w := nI_clamp (by omega)
    have to49 := st.trans (L 4 0 rfl)
    cases hw' : b w with
    | none =>
      have tn : tkR b w v = some (upB b w v) := by
        unfold tkR
        rw [hw']
        show (if hasV b v = true then none else _) = _
        have hn : ¬ hasV b v = true := fun z => by
          obtain ⟨i, i1, i2⟩ := hasV_iff.mp z
          exact hx ⟨i, i1, (fun e => by rw [e, hw'] at i2; cases i2), i2⟩
        rw [if_neg hn]
      refine ⟨jsA σ br w (nI v), ?_, (FR.refl _ σ).A (by simp), fun b' hb' k hk => ?_⟩
      · have ng : ¬ (0 : Int32) ≤ jA σ br w := by
          rw [hb w hw, enc_neg (b8 w hw), hw']
          exact fun ⟨u, z⟩ => nomatch z
        rw [to49, k100_49 h1 rn (by rw [rg]; exact Or.inl h4) gw, rg, cw, if_neg ng, k100_58 h1 rn (by rw [rg]; exact h4) gw (by rw [rg]; exact Or.inl h4), rg, cw, if_neg (fun z => z (by rw [zA_A, if_pos ⟨rfl, rfl⟩])), k100_75, tn]
        rfl
      · rw [tn, Option.some_inj] at hb'
        rw [← hb', enc_up, zA_A]
        by_cases e : k = w
        · rw [if_pos ⟨rfl, e⟩, if_pos e]
        · rw [if_neg (fun z => e z.2), if_neg e]; exact hb k hk
    | some u =>
      have hp : (0 : Int32) ≤ jA σ br w := by rw [hb w hw, enc_neg (b8 w hw)]; exact ⟨u, hw'⟩
      have ew : jA σ br w = nI u := by rw [hb w hw]; unfold encB; rw [hw']
      have u4 := iv.1 w u hw hw'
      refine ⟨σ, ?_, FR.refl _ σ, fun b' hb' => ?_⟩
      · rw [to49, k100_49 h1 rn (by rw [rg]; exact Or.inl h4) gw, rg, cw, if_pos hp, k100_65 h1 rn (by rw [rg]; exact Or.inl h4) gw, rg, cw, ew]
        by_cases e : u = v
        · have tn : tkR b w v = some b := by
            unfold tkR
            rw [hw']
            show (if u = v then _ else _) = _
            rw [if_pos e]
          rw [if_neg (fun z => z (by rw [e])), k100_75, tn]
          rfl
        · have tn : tkR b w v = none := by
            unfold tkR
            rw [hw']
            show (if u = v then _ else _) = _
            rw [if_neg e]
          rw [if_pos (by rw [n31eq (by omega) (by omega)]; exact e), k100_79, tn]
          rfl
      · unfold tkR at hb'
        rw [hw'] at hb'
        have hb' : (if u = v then some b else none) = some b' := hb'
        split at hb'
        · cases hb'; exact hb
        · cases hb'
end WIN
end S_95
section S_96
/-! windows: the class -/
def RB (e : Int32) (σ : jS) (r m : Nat) (x : BN × BN) : Prop := (∀ k, k < 4 → jA σ r k = encB e x.1 k) ∧ (∀ k, k < 3 → jA σ m k = encB e x.2 k)
theorem keep2 {W nr nm : Nat} (hW : W = 1 ∨ W = 2 ∨ W = 3) (hnm : nm ≤ 3) {o : Nat → Int32} (h : WFo nr nm o) (h4 : o 4 = 0) (hn : numN (opO o) = true) : (∃ i, i < nm ∧ o 2 = 16 + nI i ∧ (keepF W o) 2 = 16 + nI i) ∨ (∃ u, u < 8 ∧ ¬ 16 ≤ o 2 ∧ (keepF W o) 2 = nI u ∧ kpM W (opO o) (o 2) = nI u) := by
  obtain ⟨k, k1, k2, k3, k4, k5⟩ := h
  have ko : opO o = k := by unfold opO; rw [k2]; exact nI_clamp (by omega)
  rcases k4 (by rw [← ko]; exact hn) with ⟨u, hu, eu⟩ | ⟨i, hi, ei⟩
  · have n16' : ¬ 16 ≤ o 2 := by rw [eu]; exact nI_ge (b := 16) (by omega) (by omega)
    have kf : (keepF W o) 2 = kptX W (opO o) (o 2) := by
      unfold keepF
      rw [if_pos ⟨hn, h4, n16'⟩]
      rfl
    obtain ⟨t, t1, t2, t3⟩ := kp_bnd hW hn (i := u + 15) (by omega)
    have ev : nI (u + 15) - 15 = o 2 := by rw [eu, show (15 : Int32) = nI 15 from rfl, nsub (by omega)]; congr 1
    have ek := kpM_kptX hW hn (i := u + 15) (by omega)
    rw [ev] at t3 ek
    exact Or.inr ⟨t, t1, n16', by rw [kf, ← ek, t3], t3⟩
  · have y16 : 16 ≤ o 2 := by rw [ei]; exact (i16n (by omega)).1
    refine Or.inl ⟨i, hi, ei, ?_⟩
    unfold keepF
    rw [if_neg (fun z => z.2.2 y16)]
    exact ei
section WI2
variable {d : Nat} {σ : jS}
theorem c98 {B br bn : Nat} (hB : BD σ B br bn) (rm : ¬ br = bn) : ∃ σ', jx d 98 0 [some (.ref B), none] [] σ = some (none, σ') ∧ FR [br, bn] σ σ' ∧ RB (-1) σ' br bn (fun _ => none, fun _ => none) := by
  have hB0 := hB
  have L1 : ∀ f n υ, n + f = 4 → FR [br, bn] σ υ → (∀ k, k < n → jA υ br k = -1) → ∃ υ', jx d 98 2 [some (.ref B), some (.int (nI n))] [] υ = jx d 98 26 [some (.ref B), some (.int (nI 0))] [] υ' ∧ FR [br, bn] σ υ' ∧ (∀ k, k < 4 → jA υ' br k = -1) := by
    intro f
    induction f with
    | zero =>
      intro n υ hn F h
      have e : n = 4 := by omega
      subst e
      obtain ⟨h1, h2, h3, h4, h5, h6, h7⟩ := hB0.frame F
      have rn : jR υ 0 B ≠ none := by rw [h2]; exact fun z => nomatch z
      have rg : (jR υ 0 B).getD 0 = br := by rw [h2]; rfl
      refine ⟨υ, ?_, F, h⟩
      rw [k98_2 h1 rn (by rw [rg, h4]; decide), rg, h5, if_pos (by decide), k98_24]
      rfl
    | succ f ih =>
      intro n υ hn F h
      obtain ⟨h1, h2, h3, h4, h5, h6, h7⟩ := hB0.frame F
      have rn : jR υ 0 B ≠ none := by rw [h2]; exact fun z => nomatch z
      have rg : (jR υ 0 B).getD 0 = br := by rw [h2]; rfl
      have g4 : ¬ Int32.ofNat 4 ≤ nI n := nI_ge (by omega) (by omega)
      obtain ⟨υ', e', F', h'⟩ := ih (n + 1) (jsA υ br n (-1)) (by omega) (F.A (by simp)) (fun k hk => by
        rw [zA_A]
        by_cases e : k = n
        · rw [if_pos ⟨rfl, e⟩]
        · rw [if_neg (fun z => e z.2)]; exact h k (by omega))
      refine ⟨υ', ?_, F', h'⟩
      rw [← e', k98_2 h1 rn (by rw [rg, h4]; decide), rg, h5, if_neg g4, k98_11 h1 rn (by rw [rg]; exact h4) (by rw [rg, h5]; exact jin_n (by omega) (by decide)), rg, nI_clamp (by omega), ← nI_succ]
  have L2 : ∀ f n υ, n + f = 3 → FR [br, bn] σ υ → (∀ k, k < 4 → jA υ br k = -1) → (∀ k, k < n → jA υ bn k = -1) → ∃ υ', jx d 98 26 [some (.ref B), some (.int (nI n))] [] υ = some (none, υ') ∧ FR [br, bn] σ υ' ∧ (∀ k, k < 4 → jA υ' br k = -1) ∧ (∀ k, k < 3 → jA υ' bn k = -1) := by
    intro f
    induction f with
    | zero =>
      intro n υ hn F h h'
      have e : n = 3 := by omega
      subst e
      obtain ⟨h1, h2, h3, h4, h5, h6, h7⟩ := hB0.frame F
      have rn : jR υ 1 B ≠ none := by rw [h3]; exact fun z => nomatch z
      have rg : (jR υ 1 B).getD 0 = bn := by rw [h3]; rfl
      refine ⟨υ, ?_, F, h, h'⟩
      rw [k98_26 h1 rn (by rw [rg, h6]; decide), rg, h7, if_pos (by decide), k98_48]
    | succ f ih =>
      intro n υ hn F h h'
      obtain ⟨h1, h2, h3, h4, h5, h6, h7⟩ := hB0.frame F
      have rn : jR υ 1 B ≠ none := by rw [h3]; exact fun z => nomatch z
      have rg : (jR υ 1 B).getD 0 = bn := by rw [h3]; rfl
      have g4 : ¬ Int32.ofNat 3 ≤ nI n := nI_ge (by omega) (by omega)
      obtain ⟨υ', e', F', h''⟩ := ih (n + 1) (jsA υ bn n (-1)) (by omega) (F.A (by simp)) (fun k hk => by rw [zA_A, if_neg (fun z => rm z.1)]; exact h k hk) (fun k hk => by
        rw [zA_A]
        by_cases e : k = n
        · rw [if_pos ⟨rfl, e⟩]
        · rw [if_neg (fun z => e z.2)]; exact h' k (by omega))
      refine ⟨υ', ?_, F', h''⟩
      rw [← e', k98_26 h1 rn (by rw [rg, h6]; decide), rg, h7, if_neg g4, k98_35 h1 rn (by rw [rg]; exact h6) (by rw [rg, h7]; exact jin_n (by omega) (by decide)), rg, nI_clamp (by omega), ← nI_succ]
  obtain ⟨υ1, e1, F1, h1⟩ := L1 4 0 σ rfl (FR.refl _ σ) (fun k hk => absurd hk (Nat.not_lt_zero k))
  obtain ⟨υ2, e2, F2, h2, h3⟩ := L2 3 0 υ1 rfl F1 h1 (fun k hk => absurd hk (Nat.not_lt_zero k))
  refine ⟨υ2, ?_, F2, h2, h3⟩
  rw [k98_0]
  exact e1.trans e2
theorem c101 {B br bn v W : Nat} {c : BN} {o : Nat → Int32} {t : Int32} (hB : BD σ B br bn) (hc : ∀ k, k < 3 → jA σ bn k = encB (-1) c k) (ic : IC c) (hv : v < 8) (ht : (∃ i, i < 3 ∧ o 2 = 16 + nI i ∧ t = 16 + nI i) ∨ (∃ u, u < 8 ∧ ¬ 16 ≤ o 2 ∧ t = nI u ∧ kpM W (opO o) (o 2) = nI u)) : ∃ σ', jx (d + 2) 101 0 [some (.ref B), some (.int t), some (.int (nI v)), none] [] σ = some (some (.int (if (tkN W (opO o) c (o 2) (nI v)).isSome then 1 else 0)), σ') ∧ FR [bn] σ σ' ∧ (∀ c', tkN W (opO o) c (o 2) (nI v) = some c' → (∀ k, k < 3 → jA σ' bn k = encB (-1) c' k) ∧ IC c') := by
  have cv : (nI v).toNatClampNeg = v := nI_clamp (by omega)
  rcases ht with ⟨i, hi, eo, et⟩ | ⟨u, hu, eo, et, ek⟩
  · have q16 := i16n (i := i) hi
    have t16 : t - 16 = nI i := by rw [et]; exact q16.2.2
    have n0 : ¬ nI i < 0 := nn0 (by omega)
    have tn : tkN W (opO o) c (o 2) (nI v) = tkM c i v := by
      unfold tkN
      rw [eo, if_pos q16.1, q16.2.2, nI_clamp (by omega), cv]
    have c8 : ∀ u, c i = some u → u < 8 := fun u hu => ic i u hi hu
    have nv : ∀ {m : Nat → Int32}, nmV m (nI i) = m i := fun {m} => by
      unfold nmV
      rw [if_neg (fun z => by
        rcases z with z | z
        · exact n0 z
        · exact nI_ge (b := 3) hi (by omega) z), nI_clamp (by omega)]
    have tvi : ∀ {m : Nat → Int32}, tvV m t = m i := fun {m} => by
      unfold tvV
      rw [et, if_pos q16.1, q16.2.2, nv]
    rw [tn]
    cases hm : c i with
    | none =>
      have tm : tkM c i v = some (upB c i v) := by unfold tkM; rw [hm]
      have hneg : ¬ (0 : Int32) ≤ jA σ bn i := by
        rw [hc i hi, enc_neg c8, hm]
        exact fun ⟨u, z⟩ => nomatch z
      have hB2 : BD (jsA σ bn i (nI v)) B br bn := hB
      refine ⟨jsA σ bn i (nI v), ?_, (FR.refl _ σ).A (by simp), fun c' hc' => ?_⟩
      · rw [k101_0, t16, if_neg n0, k101_9 hB.1, c66 hB, nv]
        simp only [Option.bind_some, Option.toList_some, List.cons_append, List.nil_append]
        rw [k101_14, if_neg hneg, k101_17 hB.1, c60 hB hi]
        simp only [Option.bind_some, Option.toList_none, List.nil_append]
        rw [k101_23 hB2.1, c65 hB2, tvi]
        simp only [Option.bind_some, Option.toList_some, List.cons_append, List.nil_append]
        rw [k101_28, if_neg (fun z => z (by rw [zA_A, if_pos ⟨rfl, rfl⟩])), k101_32, tm]
        rfl
      · have e := hc'
        rw [tm, Option.some_inj] at hc'
        refine ⟨fun k hk => ?_, tkM_iv hv ic e⟩
        rw [← hc', enc_up, zA_A]
        by_cases e : k = i
        · rw [if_pos ⟨rfl, e⟩, if_pos e]
        · rw [if_neg (fun z => e z.2), if_neg e]; exact hc k hk
    | some u =>
      have hp : (0 : Int32) ≤ jA σ bn i := by rw [hc i hi, enc_neg c8]; exact ⟨u, hm⟩
      have eu : jA σ bn i = nI u := by rw [hc i hi]; unfold encB; rw [hm]
      have u8 := c8 u hm
      have tm : tkM c i v = if u = v then some c else none := by unfold tkM; rw [hm]
      refine ⟨σ, ?_, FR.refl _ σ, fun c' hc' => ?_⟩
      · rw [k101_0, t16, if_neg n0, k101_9 hB.1, c66 hB, nv]
        simp only [Option.bind_some, Option.toList_some, List.cons_append, List.nil_append]
        rw [k101_14, if_pos hp, k101_23 hB.1, c65 hB, tvi, eu]
        simp only [Option.bind_some, Option.toList_some, List.cons_append, List.nil_append]
        rw [k101_28, tm]
        by_cases e : u = v
        · rw [if_neg (fun z => z (by rw [e])), k101_32, if_pos e]; rfl
        · rw [if_pos (by rw [n31eq (by omega) (by omega)]; exact e), k101_36, if_neg e]; rfl
      · refine ⟨?_, tkM_iv hv ic hc'⟩
        rw [tm] at hc'
        split at hc'
        · cases hc'; exact hc
        · cases hc'
  · have tn : tkN W (opO o) c (o 2) (nI v) = if u = v then some c else none := by
      unfold tkN
      rw [if_neg eo, ek]
      by_cases e : u = v
      · rw [if_pos (by rw [e]), if_pos e]
      · rw [if_neg (by rw [n31eq (by omega) (by omega)]; exact e), if_neg e]
    have neg : t - 16 < 0 := by
      rw [et]
      exact (by decide : ∀ u, u < 8 → nI u - 16 < 0) u hu
    have n16' : ¬ (16 : Int32) ≤ nI u := nI_ge (b := 16) (by omega) (by omega)
    have tvi : ∀ {m : Nat → Int32}, tvV m t = nI u := fun {m} => by
      unfold tvV
      rw [et, if_neg n16']
    refine ⟨σ, ?_, FR.refl _ σ, fun c' hc' => ?_⟩
    · rw [k101_0, if_pos neg, k101_23 hB.1, c65 hB, tvi]
      simp only [Option.bind_some, Option.toList_some, List.cons_append, List.nil_append]
      rw [k101_28, tn]
      by_cases e : u = v
      · rw [if_neg (fun z => z (by rw [e])), k101_32, if_pos e]; rfl
      · rw [if_pos (by rw [n31eq (by omega) (by omega)]; exact e), k101_36, if_neg e]; rfl
    · rw [tn] at hc'
      split at hc'
      · cases hc'; exact ⟨hc, ic⟩
      · cases hc'
theorem PWF.y {o : Nat → Int32} (h : PWF o) : ∃ u, u < 8 ∧ o 2 = nI u := by
  obtain ⟨K, x, y, z, ⟨b1, b2, b3, b4, b5⟩, e0, e1, e2, e3⟩ := h
  exact ⟨y, b4, e2⟩
theorem c99 {B br bn W q1 a1 m1 qp ap m2 k i nr nm : Nat} {x : BN × BN} {os ps : List (Nat → Int32)} {o p : Nat → Int32} (hS : SH σ) (hQ : ST σ) (hW : W = 1 ∨ W = 2 ∨ W = 3) (hB : BD σ B br bn) (rm : ¬ br = bn) (hx : RB (-1) σ br bn x) (iv : IB x.1) (ic : IC x.2) (hD : RO σ q1 a1 m1 os) (hk : k < os.length) (eo : os.getD k (fun _ => 0) = keepF W o) (ho : WFo nr nm o) (h4 : o 4 = 0) (hnr : nr ≤ 4) (hnm : nm ≤ 3) (hP : RO σ qp ap m2 ps) (hi : i < ps.length) (ep : ps.getD i (fun _ => 0) = p) (hp : PWF p) (hn : ∀ z : Nat, z ∈ [1, 2, q1, a1, qp, ap] → z ≠ br ∧ z ≠ bn) :
    ∃ σ', jx (d + 3) 99 0 [some (.ref B), some (.ref q1), some (.int (nI k)), some (.ref qp), some (.int (nI i)), none, none, none] [] σ = some (some (.int (if (tkO W x o p).isSome then 1 else 0)), σ') ∧ FR [br, bn] σ σ' ∧ (∀ x', tkO W x o p = some x' → RB (-1) σ' br bn x' ∧ IB x'.1 ∧ IC x'.2) := by
  obtain ⟨ok1, ok2⟩ := ho.op
  obtain ⟨kf0, kf1, kfj⟩ := keep_op W o
  have nin : ∀ z : Nat, z ∈ [1, 2, q1, a1, qp, ap] → z ∉ [br, bn] := fun z hz w => by
    have := hn z hz
    simp at w
    omega
  have gD : ∀ {υ : jS}, FR [br, bn] σ υ → ∀ j, j < 6 → jx (d + 2) 51 0 [some (.ref q1), some (.int (nI k)), some (.int (nI j))] [] υ = some (some (.int (keepF W o j)), υ) := fun F j hj => by
    have := c51 (d := d + 1) (hD.frame F (nin q1 (by simp)) (nin a1 (by simp))) hk hj
    rw [eo] at this
    exact this
  have gP : ∀ {υ : jS}, FR [br, bn] σ υ → ∀ j, j < 6 → jx (d + 2) 51 0 [some (.ref qp), some (.int (nI i)), some (.int (nI j))] [] υ = some (some (.int (p j)), υ) := fun F j hj => by
    have := c51 (d := d + 1) (hP.frame F (nin qp (by simp)) (nin ap (by simp))) hi hj
    rw [ep] at this
    exact this
  have tD : ∀ {υ : jS}, FR [br, bn] σ υ → jT υ q1 = 5 := fun F => by rw [F.1.1]; exact hD.1.1
  have tP : ∀ {υ : jS}, FR [br, bn] σ υ → jT υ qp = 5 := fun F => by rw [F.1.1]; exact hP.1.1
  have d0 := gD (FR.refl _ σ) 0 (by decide)
  rw [kf0, ok2] at d0
  have d0 : jx (d + 2) 51 0 [some (.ref q1), some (.int (nI k)), some (.int 0)] [] σ = some (some (.int (nI (opO o))), σ) := d0
  have p0 : jx (d + 2) 51 0 [some (.ref qp), some (.int (nI i)), some (.int 0)] [] σ = some (some (.int (p 0)), σ) := gP (FR.refl _ σ) 0 (by decide)
  have to15 : jx (d + 3) 99 0 [some (.ref B), some (.ref q1), some (.int (nI k)), some (.ref qp), some (.int (nI i)), none, none, none] [] σ = jx (d + 3) 99 15 [some (.ref B), some (.ref q1), some (.int (nI k)), some (.ref qp), some (.int (nI i)), some (.int (nI (opO o))), none, none] [.int (p 0)] σ := by
    rw [k99_0 hD.1.1, d0]
    simp only [Option.bind_some, Option.toList_some, List.cons_append, List.nil_append]
    rw [k99_6 hP.1.1, p0]
    simp only [Option.bind_some, Option.toList_some, List.cons_append, List.nil_append]
  have r3 := regN3 (opO o)
  -- a refusal goes to the end
  have no : ∀ {υ : jS} {j : Nat}, FR [br, bn] σ υ → jx (d + 3) 99 30 [some (.ref B), some (.ref q1), some (.int (nI k)), some (.ref qp), some (.int (nI i)), some (.int (nI (opO o))), some (.int 0), some (.int (nI j))] [] υ = some (some (.int 0), υ) := fun {υ j} F => by
    have hSu := F.sh hS
    have hQu := F.st (nin 1 (by simp)) (nin 2 (by simp)) hQ
    rw [k99_30, c34 hSu hQu ok1]
    simp only [Option.bind_some, Option.toList_some, List.cons_append, List.nil_append]
    rw [k99_37]
    by_cases q : nI (regN (opO o)) < nI j
    · rw [if_pos q, k99_72, if_pos rfl, k99_104 (by decide)]
    · rw [if_neg q, k99_40, if_pos rfl, k99_72, if_pos rfl, k99_104 (by decide)]
  by_cases hk0 : p 0 = o 0
  · have opp : opO p = opO o := by unfold opO; rw [hk0]
    have preg : ∀ j, j < regN (opO o) → ∃ u, u < 4 ∧ p (j + 1) = nI u := fun j hj => hp.reg (by omega) (by rw [opp]; omega)
    have oreg : ∀ j, j < regN (opO o) → ∃ u, u < 4 ∧ keepF W o (j + 1) = nI u ∧ o (j + 1) = nI u := fun j hj => by
      obtain ⟨K, w1, w2, w3, w4, w5⟩ := ho
      have ko : opO o = K := by unfold opO; rw [w2]; exact nI_clamp (by omega)
      obtain ⟨u, u1, u2⟩ := w3 j (by rw [← ko]; exact hj)
      refine ⟨u, by omega, ?_, u2⟩
      by_cases j2 : j + 1 = 2
      · have nn : ¬ numN (opO o) = true := fun z => by have := numN1 z; omega
        have : keepF W o = o := by unfold keepF; rw [if_neg (fun z => nn z.1)]
        rw [this]; exact u2
      · rw [kfj _ j2]; exact u2
    have L : ∀ f j υ bj, j + f = regN (opO o) → FR [br, bn] σ υ → tkL x.1 o p j = some bj → RB (-1) υ br bn (bj, x.2) → IB bj → ∃ υ', FR [br, bn] σ υ' ∧ (match tkL x.1 o p (regN (opO o)) with | some b' => (jx (d + 3) 99 30 [some (.ref B), some (.ref q1), some (.int (nI k)), some (.ref qp), some (.int (nI i)), some (.int (nI (opO o))), some (.int 1), some (.int (nI (j + 1)))] [] υ = jx (d + 3) 99 77 [some (.ref B), some (.ref q1), some (.int (nI k)), some (.ref qp), some (.int (nI i)), some (.int (nI (opO o))), some (.int 1), some (.int (nI (regN (opO o) + 1)))] [] υ') ∧ RB (-1) υ' br bn (b', x.2) ∧ IB b' | none => jx (d + 3) 99 30 [some (.ref B), some (.ref q1), some (.int (nI k)), some (.ref qp), some (.int (nI i)), some (.int (nI (opO o))), some (.int 1), some (.int (nI (j + 1)))] [] υ = some (some (.int 0), υ')) := by
      intro f
      induction f with
      | zero =>
        intro j υ bj hj F ht hr hib
        have e : j = regN (opO o) := by omega
        subst e
        refine ⟨υ, F, ?_⟩
        rw [ht]
        refine ⟨?_, hr, hib⟩
        rw [k99_30, c34 (F.sh hS) (F.st (nin 1 (by simp)) (nin 2 (by simp)) hQ) ok1]
        simp only [Option.bind_some, Option.toList_some, List.cons_append, List.nil_append]
        rw [k99_37, if_pos (by rw [n31 (by omega) (by omega)]; omega), k99_72, if_neg (by decide)]
      | succ f ih =>
        intro j υ bj hj F ht hr hib
        obtain ⟨w, w4, w1, w2⟩ := oreg j (by omega)
        obtain ⟨v, v4, v1⟩ := preg j (by omega)
        have dj := gD F (j + 1) (by omega)
        have pj := gP F (j + 1) (by omega)
        rw [w1] at dj
        rw [v1] at pj
        obtain ⟨υ1, e1, F1, g1⟩ := c100 (d := d + 2) (hB.frame F) hr.1 hib w4 v4
        have F1' : FR [br, bn] υ υ1 := F1.mono (fun a ha => by simp at ha; simp [ha])
        have st : jx (d + 3) 99 30 [some (.ref B), some (.ref q1), some (.int (nI k)), some (.ref qp), some (.int (nI i)), some (.int (nI (opO o))), some (.int 1), some (.int (nI (j + 1)))] [] υ = jx (d + 3) 99 30 [some (.ref B), some (.ref q1), some (.int (nI k)), some (.ref qp), some (.int (nI i)), some (.int (nI (opO o))), some (.int (if (tkR bj w v).isSome then 1 else 0)), some (.int (nI (j + 2)))] [] υ1 := by
          rw [k99_30, c34 (F.sh hS) (F.st (nin 1 (by simp)) (nin 2 (by simp)) hQ) ok1]
          simp only [Option.bind_some, Option.toList_some, List.cons_append, List.nil_append]
          rw [k99_37, if_neg (by rw [n31 (by omega) (by omega)]; omega), k99_40, if_neg (by decide), k99_45 (tD F), dj]
          simp only [Option.bind_some, Option.toList_some, List.cons_append, List.nil_append]
          rw [k99_53 (tP F), pj]
          simp only [Option.bind_some, Option.toList_some, List.cons_append, List.nil_append]
          rw [k99_61 (hB.frame F).1, e1]
          simp only [Option.bind_some, Option.toList_some, List.cons_append, List.nil_append]
          rw [k99_64, ← nI_succ]
        have tj : tkL x.1 o p (j + 1) = tkR bj w v := by
          show (tkL x.1 o p j).bind _ = _
          rw [ht]
          show tkR bj (o (j + 1)).toNatClampNeg (p (j + 1)).toNatClampNeg = _
          rw [w2, v1, nI_clamp (by omega), nI_clamp (by omega)]
        cases hT : tkR bj w v with
        | none =>
          rw [hT] at tj st
          have tn := tkL_none tj (regN (opO o)) (by omega)
          refine ⟨υ1, F.trans F1', ?_⟩
          rw [tn]
          show jx _ _ _ _ _ _ = _
          rw [st]
          exact no (F.trans F1')
        | some b1 =>
          rw [hT] at tj st
          obtain ⟨υ', F', r⟩ := ih (j + 1) υ1 b1 (by omega) (F.trans F1') tj ⟨g1 b1 hT, fun k hk => by rw [(F1.2 bn (by simp; exact fun z => rm z.symm)).2]; exact hr.2 k hk⟩ (tkR_iv v4 hib hT)
          refine ⟨υ', F', ?_⟩
          have st' : jx (d + 3) 99 30 [some (.ref B), some (.ref q1), some (.int (nI k)), some (.ref qp), some (.int (nI i)), some (.int (nI (opO o))), some (.int 1), some (.int (nI (j + 1)))] [] υ = jx (d + 3) 99 30 [some (.ref B), some (.ref q1), some (.int (nI k)), some (.ref qp), some (.int (nI i)), some (.int (nI (opO o))), some (.int 1), some (.int (nI (j + 1 + 1)))] [] υ1 := st
          rw [st']
          exact r
    obtain ⟨υ1, F1, r1⟩ := L (regN (opO o)) 0 σ x.1 (by omega) (FR.refl _ σ) rfl hx iv
    have to30 : jx (d + 3) 99 0 [some (.ref B), some (.ref q1), some (.int (nI k)), some (.ref qp), some (.int (nI i)), none, none, none] [] σ = jx (d + 3) 99 30 [some (.ref B), some (.ref q1), some (.int (nI k)), some (.ref qp), some (.int (nI i)), some (.int (nI (opO o))), some (.int 1), some (.int (nI (0 + 1)))] [] σ := by
      rw [to15, k99_15, if_neg (fun z => z (by rw [hk0, ok2])), k99_20]
      rfl
    cases hL : tkL x.1 o p (regN (opO o)) with
    | none =>
      rw [hL] at r1
      have tn : tkO W x o p = none := by unfold tkO; rw [if_pos hk0, hL]; rfl
      refine ⟨υ1, ?_, F1, fun x' hx' => by rw [tn] at hx'; cases hx'⟩
      rw [to30, tn]
      exact r1
    | some b1 =>
      rw [hL] at r1
      obtain ⟨e1, hr1, ib1⟩ := r1
      have cn := c40 (d := d + 1) (σ := υ1) ok1
      by_cases hnum : numN (opO o) = true
      · obtain ⟨v, v8, ev⟩ := hp.y
        have tn : tkO W x o p = (tkN W (opO o) x.2 (o 2) (nI v)).map (fun c' => (b1, c')) := by
          unfold tkO
          rw [if_pos hk0, hL]
          show (if numN (opO o) = true then _ else _) = _
          rw [if_pos hnum, ev]
        have d2 : jx (d + 2) 51 0 [some (.ref q1), some (.int (nI k)), some (.int 2)] [] υ1 = some (some (.int (keepF W o 2)), υ1) := gD F1 2 (by decide)
        have p2 : jx (d + 2) 51 0 [some (.ref qp), some (.int (nI i)), some (.int 2)] [] υ1 = some (some (.int (p 2)), υ1) := gP F1 2 (by decide)
        rw [ev] at p2
        obtain ⟨υ2, e2, F2, g2⟩ := c101 (d := d) (W := W) (o := o) (t := keepF W o 2) (hB.frame F1) hr1.2 ic v8 (by
          rcases keep2 hW hnm ho h4 hnum with ⟨u, h1, h2, h3⟩ | q
          · exact Or.inl ⟨u, by omega, h2, h3⟩
          · exact Or.inr q)
        have F2' : FR [br, bn] υ1 υ2 := F2.mono (fun a ha => by simp at ha; simp [ha])
        refine ⟨υ2, ?_, F1.trans F2', fun x' hx' => ?_⟩
        · rw [to30, e1, k99_77, cn, if_pos hnum]
          simp only [Option.bind_some, Option.toList_some, List.cons_append, List.nil_append]
          rw [k99_82, if_neg (by decide), k99_85 (tD F1), d2]
          simp only [Option.bind_some, Option.toList_some, List.cons_append, List.nil_append]
          rw [k99_92 (tP F1), p2]
          simp only [Option.bind_some, Option.toList_some, List.cons_append, List.nil_append]
          rw [k99_99 (hB.frame F1).1, e2]
          simp only [Option.bind_some, Option.toList_some, List.cons_append, List.nil_append]
          rw [tn, Option.isSome_map]
          rw [k99_102 (by cases (tkN W (opO o) x.2 (o 2) (nI v)).isSome <;> decide)]
        · rw [tn] at hx'
          obtain ⟨c', h1, h2⟩ := Option.map_eq_some_iff.mp hx'
          subst h2
          obtain ⟨g3, g4⟩ := g2 c' h1
          exact ⟨⟨fun k hk => by rw [(F2.2 br (by simp; exact rm)).2]; exact hr1.1 k hk, g3⟩, ib1, g4⟩
      · have tn : tkO W x o p = some (b1, x.2) := by
          unfold tkO
          rw [if_pos hk0, hL]
          show (if numN (opO o) = true then _ else _) = _
          rw [if_neg hnum]
        refine ⟨υ1, ?_, F1, fun x' hx' => ?_⟩
        · rw [to30, e1, k99_77, cn, if_neg hnum]
          simp only [Option.bind_some, Option.toList_some, List.cons_append, List.nil_append]
          rw [k99_82, if_pos rfl, k99_104 (by decide), tn]
          rfl
        · rw [tn, Option.some_inj] at hx'
          subst hx'
          exact ⟨hr1, ib1, ic⟩
  · have tn : tkO W x o p = none := by unfold tkO; rw [if_neg hk0]
    refine ⟨σ, ?_, FR.refl _ σ, fun x' hx' => by rw [tn] at hx'; cases hx'⟩
    rw [to15, k99_15, if_pos (fun z => hk0 (by rw [z, ok2])), k99_24, tn]
    exact no (j := 1) (FR.refl _ σ)
end WI2
end S_96
