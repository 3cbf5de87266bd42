/-! run; same: what no order names does not matter -/
theorem unp_or {W i : Nat} {a b : Int32} : unp W (a ||| b) i = unp W a i ||| unp W b i := by
  unfold unp
  generalize (nI i * nI W) &&& 31 = s
  apply Int32.toBitVec_inj.mp
  rw [Int32.toBitVec_and, Int32.toBitVec_shiftRight, Int32.toBitVec_or, Int32.toBitVec_or, Int32.toBitVec_and, Int32.toBitVec_and, Int32.toBitVec_shiftRight, Int32.toBitVec_shiftRight]
  show (BitVec.sshiftRight (a.toBitVec ||| b.toBitVec) _) &&& _ = (BitVec.sshiftRight a.toBitVec _ &&& _) ||| (BitVec.sshiftRight b.toBitVec _ &&& _)
  rw [BitVec.sshiftRight_or_distrib]
  ext j hj
  simp [Bool.and_or_distrib_right]
theorem unp_and {W i : Nat} {a b : Int32} : unp W (a &&& b) i = unp W a i &&& unp W b i := by
  unfold unp
  generalize (nI i * nI W) &&& 31 = s
  apply Int32.toBitVec_inj.mp
  rw [Int32.toBitVec_and, Int32.toBitVec_shiftRight, Int32.toBitVec_and, Int32.toBitVec_and, Int32.toBitVec_and, Int32.toBitVec_and, Int32.toBitVec_shiftRight, Int32.toBitVec_shiftRight]
  show (BitVec.sshiftRight (a.toBitVec &&& b.toBitVec) _) &&& _ = (BitVec.sshiftRight a.toBitVec _ &&& _) &&& (BitVec.sshiftRight b.toBitVec _ &&& _)
  rw [BitVec.sshiftRight_and_distrib]
  ext j hj
  simp
  cases (BitVec.sshiftRight a.toBitVec _)[j] <;> simp
theorem sub_msk {x m : Int32} : (x &&& (m ^^^ (-1))) = 0 ↔ x &&& m = x := by
  rw [← Int32.toBitVec_inj, ← Int32.toBitVec_inj, Int32.toBitVec_and, Int32.toBitVec_xor, Int32.toBitVec_and]
  constructor
  · intro h
    ext j hj
    have := congrArg (fun v => v[j]) h
    have o : (4294967295#32)[j] = true := by
      show (BitVec.allOnes 32)[j] = true
      rw [BitVec.getElem_allOnes]
    have z : ((0 : Int32).toBitVec)[j] = false := by
      show (0#32)[j] = false
      rw [BitVec.getElem_zero]
    simp [o, z] at this
    simp
    exact this
  · intro h
    ext j hj
    have := congrArg (fun v => v[j]) h
    have o : (4294967295#32)[j] = true := by
      show (BitVec.allOnes 32)[j] = true
      rw [BitVec.getElem_allOnes]
    have z : ((0 : Int32).toBitVec)[j] = false := by
      show (0#32)[j] = false
      rw [BitVec.getElem_zero]
    simp at this
    simp [o, z]
    exact this
theorem nIand {a b : Nat} (ha : a < 2 ^ 32) (hb : b < 2 ^ 32) : nI a &&& nI b = nI (a &&& b) := by
  apply tn_nI
  rw [Int32.toBitVec_and, BitVec.toNat_and, nI_tn ha, nI_tn hb]
theorem nIor {a b : Nat} (ha : a < 2 ^ 32) (hb : b < 2 ^ 32) : nI a ||| nI b = nI (a ||| b) := by
  apply tn_nI
  rw [Int32.toBitVec_or, BitVec.toNat_or, nI_tn ha, nI_tn hb]
def nmW (W j : Nat) : Int32 := mkW W <<< ((nI j * nI W) &&& 31)
/-- a mask of whole words -/
def MSK (W : Nat) (m : Int32) : Prop := (∃ n, n < 2 ^ (8 * W) ∧ m = nI n) ∧ ∀ i, i < 8 → unp W m i = 0 ∨ unp W m i = mkW W
theorem mk_or {W : Nat} (hW : W = 1 ∨ W = 2) {a b : Int32} (ha : a = 0 ∨ a = mkW W) (hb : b = 0 ∨ b = mkW W) : (a ||| b = 0 ∨ a ||| b = mkW W) ∧ (a = mkW W → a ||| b = mkW W) ∧ (b = mkW W → a ||| b = mkW W) := by
  rcases hW with h | h <;> subst h <;> rcases ha with e | e <;> rcases hb with f | f <;> subst e <;> subst f <;> decide
theorem MSK.or {W : Nat} (hW : W = 1 ∨ W = 2) {a b : Int32} (ha : MSK W a) (hb : MSK W b) : MSK W (a ||| b) := by
  obtain ⟨⟨n, n1, n2⟩, h⟩ := ha
  obtain ⟨⟨m, m1, m2⟩, k⟩ := hb
  have p : 2 ^ (8 * W) ≤ 2 ^ 16 := Nat.pow_le_pow_right (by decide) (by omega)
  refine ⟨⟨n ||| m, Nat.or_lt_two_pow n1 m1, by rw [n2, m2, nIor (by omega) (by omega)]⟩, fun i hi => ?_⟩
  rw [unp_or]
  exact (mk_or hW (h i hi) (k i hi)).1
theorem nmW_n : ∀ W, (W = 1 ∨ W = 2) → ∀ j, j < 8 → (∃ n, n < 2 ^ (8 * W) ∧ nmW W j = nI n) ∧ (∀ i, i < 8 → unp W (nmW W j) i = if i = j then mkW W else 0) := by
  intro W hW j hj
  refine ⟨⟨(2 ^ W - 1) * 2 ^ (j * W), ?_, ?_⟩, ?_⟩
  · rcases hW with h | h <;> subst h <;> revert j <;> decide
  · rcases hW with h | h <;> subst h <;> revert j <;> decide
  · rcases hW with h | h <;> subst h <;> revert j <;> decide
theorem nmW_msk {W : Nat} (hW : W = 1 ∨ W = 2) {j : Nat} (hj : j < 8) : MSK W (nmW W j) := by
  obtain ⟨h, k⟩ := nmW_n W hW j hj
  refine ⟨h, fun i hi => ?_⟩
  rw [k i hi]
  by_cases e : i = j
  · rw [if_pos e]; exact Or.inr rfl
  · rw [if_neg e]; exact Or.inl rfl
theorem msk0 {W : Nat} (hW : W = 1 ∨ W = 2) : MSK W 0 := by
  refine ⟨⟨0, Nat.pow_pos (by decide), rfl⟩, fun i hi => Or.inl ?_⟩
  rcases hW with h | h <;> subst h <;> revert i <;> decide
def nmS (W : Nat) (o : Nat → Int32) : Nat → Int32 → Int32
  | 0, c => c
  | n + 1, c => nmS W o n c ||| (mkW W <<< ((o (n + 1) * nI W) &&& 31))
def nmA (W : Nat) (c : Int32) (o : Nat → Int32) : Int32 := if celN (opO o) = true then nmS W o (regN (opO o)) c ||| (mkW W <<< (((4 + o 2) * nI W) &&& 31)) else nmS W o (regN (opO o)) c
def nmL (W : Nat) (os : List (Nat → Int32)) (c : Int32) : Int32 := os.foldl (nmA W) c
/-- word i is named in m -/
def isN (W : Nat) (m : Int32) (i : Nat) : Prop := i < 8 ∧ unp W m i = mkW W
theorem isN.l {W i : Nat} (hW : W = 1 ∨ W = 2) {a b : Int32} (ha : MSK W a) (hb : MSK W b) (h : isN W a i) : isN W (a ||| b) i := ⟨h.1, by rw [unp_or]; exact (mk_or hW (ha.2 i h.1) (hb.2 i h.1)).2.1 h.2⟩
theorem isN.r {W i : Nat} (hW : W = 1 ∨ W = 2) {a b : Int32} (ha : MSK W a) (hb : MSK W b) (h : isN W b i) : isN W (a ||| b) i := ⟨h.1, by rw [unp_or]; exact (mk_or hW (ha.2 i h.1) (hb.2 i h.1)).2.2 h.2⟩
theorem isN.w {W j : Nat} (hW : W = 1 ∨ W = 2) (hj : j < 8) : isN W (nmW W j) j := ⟨hj, by rw [(nmW_n W hW j hj).2 j hj, if_pos rfl]⟩
/-- what an order names -/
def nmd (o : Nat → Int32) (i : Nat) : Prop := (∃ k, 1 ≤ k ∧ k ≤ regN (opO o) ∧ o k = nI i) ∨ (celN (opO o) = true ∧ ∃ y, y < 4 ∧ o 2 = nI y ∧ i = 4 + y)
theorem regN_num : ∀ k, k < 19 → k ≠ 0 ∨ regN k ≤ 1 := by decide
theorem PWF.reg {o : Nat → Int32} (h : PWF o) {k : Nat} (h1 : 1 ≤ k) (h2 : k ≤ regN (opO o)) : ∃ u, u < 4 ∧ o k = nI u := by
  obtain ⟨K, x, y, z, ⟨b1, b2, b3, b4, b5⟩, e0, e1, e2, e3⟩ := h
  have ek : opO o = K := by unfold opO; rw [e0]; exact nI_clamp (by omega)
  rw [ek] at h2
  have r3 := regN3 K
  have : k = 1 ∨ k = 2 ∨ k = 3 := by omega
  rcases this with e | e | e
  · subst e; exact ⟨x, b2, e1⟩
  · subst e
    refine ⟨y, b5 (fun e => ?_), e2⟩
    rw [e] at h2
    exact absurd h2 (by decide)
  · subst e; exact ⟨z, b3, e3⟩
theorem nmS_ok {W : Nat} (hW : W = 1 ∨ W = 2) {o : Nat → Int32} (h : PWF o) {c : Int32} (hc : MSK W c) : ∀ n, n ≤ regN (opO o) → MSK W (nmS W o n c) ∧ (∀ i, isN W c i → isN W (nmS W o n c) i) ∧ ∀ k i, 1 ≤ k → k ≤ n → i < 8 → o k = nI i → isN W (nmS W o n c) i := by
  intro n
  induction n with
  | zero => intro _; exact ⟨hc, fun i hi => hi, fun k i h1 h2 => by omega⟩
  | succ n ih =>
    intro hn
    obtain ⟨i1, i2, i3⟩ := ih (by omega)
    obtain ⟨u, hu, eu⟩ := h.reg (k := n + 1) (by omega) hn
    have e : mkW W <<< ((o (n + 1) * nI W) &&& 31) = nmW W u := by rw [eu]; rfl
    show MSK W (nmS W o n c ||| (mkW W <<< ((o (n + 1) * nI W) &&& 31))) ∧ _
    have mu := nmW_msk hW (j := u) (by omega)
    refine ⟨by rw [e]; exact i1.or hW mu, fun i hi => ?_, fun k i h1 h2 h3 h4 => ?_⟩
    · show isN W (nmS W o n c ||| (mkW W <<< ((o (n + 1) * nI W) &&& 31))) i
      rw [e]; exact isN.l hW i1 mu (i2 i hi)
    · show isN W (nmS W o n c ||| (mkW W <<< ((o (n + 1) * nI W) &&& 31))) i
      rw [e]
      by_cases q : k = n + 1
      · subst q
        have : i = u := by
          have := h4.symm.trans eu
          rw [n31eq (by omega) (by omega)] at this
          exact this
        rw [this]
        exact isN.r hW i1 mu (isN.w hW (by omega))
      · exact isN.l hW i1 mu (i3 k i h1 (by omega) h3 h4)
theorem nmA_ok {W : Nat} (hW : W = 1 ∨ W = 2) {o : Nat → Int32} (h : PWF o) {c : Int32} (hc : MSK W c) : MSK W (nmA W c o) ∧ (∀ i, isN W c i → isN W (nmA W c o) i) ∧ ∀ i, i < 8 → nmd o i → isN W (nmA W c o) i := by
  obtain ⟨i1, i2, i3⟩ := nmS_ok hW h hc (regN (opO o)) (Nat.le_refl _)
  unfold nmA
  by_cases q : celN (opO o) = true
  · rw [if_pos q]
    obtain ⟨K, x, y, z, ⟨b1, b2, b3, b4, b5⟩, e0, e1, e2, e3⟩ := h
    have ek : opO o = K := by unfold opO; rw [e0]; exact nI_clamp (by omega)
    have y4 : y < 4 := b5 (fun e => by rw [ek, e] at q; exact absurd q (by decide))
    have e : mkW W <<< (((4 + o 2) * nI W) &&& 31) = nmW W (4 + y) := by rw [e2, show (4 : Int32) = nI 4 from rfl, nadd]; rfl
    have mu := nmW_msk hW (j := 4 + y) (by omega)
    rw [e]
    refine ⟨i1.or hW mu, fun i hi => isN.l hW i1 mu (i2 i hi), fun i hi hn => ?_⟩
    rcases hn with ⟨k, k1, k2, k3⟩ | ⟨_, y', h1, h2, h3⟩
    · exact isN.l hW i1 mu (i3 k i k1 k2 hi k3)
    · have : y' = y := by
        have := h2.symm.trans e2
        rw [n31eq (by omega) (by omega)] at this
        exact this
      rw [h3, this]
      exact isN.r hW i1 mu (isN.w hW (by omega))
  · rw [if_neg q]
    refine ⟨i1, i2, fun i hi hn => ?_⟩
    rcases hn with ⟨k, k1, k2, k3⟩ | ⟨z, _⟩
    · exact i3 k i k1 k2 hi k3
    · exact absurd z q
theorem nmL_ok {W : Nat} (hW : W = 1 ∨ W = 2) : ∀ (os : List (Nat → Int32)) (c : Int32), (∀ o, o ∈ os → PWF o) → MSK W c → MSK W (nmL W os c) ∧ (∀ i, isN W c i → isN W (nmL W os c) i) ∧ ∀ o, o ∈ os → ∀ i, i < 8 → nmd o i → isN W (nmL W os c) i := by
  intro os
  induction os with
  | nil => intro c _ hc; exact ⟨hc, fun i hi => hi, fun o ho => absurd ho (List.not_mem_nil)⟩
  | cons o os ih =>
    intro c hp hc
    obtain ⟨a1, a2, a3⟩ := nmA_ok hW (hp o List.mem_cons_self) hc
    obtain ⟨i1, i2, i3⟩ := ih (nmA W c o) (fun p hpp => hp p (List.mem_cons_of_mem _ hpp)) a1
    refine ⟨i1, fun i hi => i2 i (a2 i hi), fun p hpp i hi hn => ?_⟩
    rcases List.mem_cons.mp hpp with e | e
    · rw [e] at hn; exact i2 i (a3 i hi hn)
    · exact i3 p e i hi hn
/-- an order works on what it names -/
theorem exO_loc {W : Nat} {o : Nat → Int32} (hp : PWF o) {S : Nat → Prop} (hS : ∀ i, i < 8 → nmd o i → S i) {w v : Nat → Int32} (hw : ∀ i, i < 8 → S i → w i = v i) : (∀ i, i < 8 → S i → exO W w o i = exO W v o i) ∧ (∀ i, i < 8 → ¬ S i → exO W w o i = w i) := by
  have hp0 := hp
  obtain ⟨k, x, y, z, h8, e0, e1, e2, e3⟩ := hp
  have h80 := h8
  obtain ⟨hk, hx, hz, hy, hy4⟩ := h8
  have ek : opO o = k := by unfold opO; rw [e0]; exact nI_clamp (by omega)
  rw [exO_eq h80 e0 e1 e2 e3, exO_eq h80 e0 e1 e2 e3]
  have sx : 1 ≤ regN k → S x := fun h => hS x (by omega) (Or.inl ⟨1, by omega, by rw [ek]; exact h, e1⟩)
  have sy : 2 ≤ regN k → S y := fun h => hS y (by omega) (Or.inl ⟨2, by omega, by rw [ek]; exact h, e2⟩)
  have sz : 3 ≤ regN k → S z := fun h => hS z (by omega) (Or.inl ⟨3, by omega, by rw [ek]; exact h, e3⟩)
  have sc : celN k = true → S (4 + y) := fun h => hS (4 + y) (by have := hy4 (fun e => by rw [e] at h; exact absurd h (by decide)); omega) (Or.inr ⟨by rw [ek]; exact h, y, hy4 (fun e => by rw [e] at h; exact absurd h (by decide)), e2, rfl⟩)
  unfold exN up6
  by_cases h17 : k = 17
  · rw [if_pos h17, if_pos h17]; exact ⟨hw, fun _ _ _ => rfl⟩
  have hx1 : S x := sx (by rcases k19 hk with h | h | h | h | h | h | h | h | h | h | h | h | h | h | h | h | h | h | h <;> subst h <;> first | decide | exact absurd rfl h17)
  have wx := hw x (by omega) hx1
  rw [if_neg h17, if_neg h17]
  by_cases h16 : k = 16
  · rw [if_pos h16, if_pos h16]
    have s4 := sc (by rw [h16]; rfl)
    refine ⟨fun i hi hs => ?_, fun i hi hs => if_neg (c := i = 4 + y) (fun e => hs (e ▸ s4))⟩
    rw [wx]
    by_cases e : i = 4 + y
    · rw [if_pos e, if_pos e]
    · rw [if_neg e, if_neg e]; exact hw i hi hs
  rw [if_neg h16, if_neg h16]
  by_cases h15 : k = 15
  · rw [if_pos h15, if_pos h15]
    have s4 := sc (by rw [h15]; rfl)
    have := hy4 (by omega)
    refine ⟨fun i hi hs => ?_, fun i hi hs => if_neg (c := i = x) (fun e => hs (e ▸ hx1))⟩
    rw [hw (4 + y) (by omega) s4]
    by_cases e : i = x
    · rw [if_pos e, if_pos e]
    · rw [if_neg e, if_neg e]; exact hw i hi hs
  rw [if_neg h15, if_neg h15]
  by_cases h14 : k = 14
  · rw [if_pos h14, if_pos h14]
    have s2 := sy (by rw [h14]; decide)
    have s3 := sz (by rw [h14]; decide)
    refine ⟨fun i hi hs => ?_, fun i hi hs => if_neg (c := i = x) (fun e => hs (e ▸ hx1))⟩
    rw [wx, hw y hy s2, hw z (by omega) s3]
    by_cases e : i = x
    · rw [if_pos e, if_pos e]
    · rw [if_neg e, if_neg e]; exact hw i hi hs
  rw [if_neg h14, if_neg h14]
  by_cases h18 : k = 18
  · rw [if_pos h18, if_pos h18]
    have s2 := sy (by rw [h18]; decide)
    refine ⟨fun i hi hs => ?_, fun i hi hs => ?_⟩
    · rw [wx, hw y hy s2]
      by_cases e : i = y
      · rw [if_pos e, if_pos e]
      · rw [if_neg e, if_neg e]
        by_cases e' : i = x
        · rw [if_pos e', if_pos e']
        · rw [if_neg e', if_neg e']; exact hw i hi hs
    · exact (if_neg (c := i = y) (fun e => hs (e ▸ s2))).trans (if_neg (c := i = x) (fun e => hs (e ▸ hx1)))
  rw [if_neg h18, if_neg h18]
  refine ⟨fun i hi hs => ?_, fun i hi hs => if_neg (c := i = x) (fun e => hs (e ▸ hx1))⟩
  have wk : wkd k (w x) (w (y % 4)) (nI y) = wkd k (v x) (v (y % 4)) (nI y) := by
    rw [wx]
    by_cases h2 : 2 ≤ regN k
    · have y4 : y < 4 := hy4 (fun e => by rw [e] at h2; exact absurd h2 (by decide))
      rw [Nat.mod_eq_of_lt y4, hw y hy (sy h2)]
    · rcases k19 hk with h | h | h | h | h | h | h | h | h | h | h | h | h | h | h | h | h | h | h <;> subst h <;> first | rfl | exact absurd (by decide) h2
  rw [wk]
  by_cases e : i = x
  · rw [if_pos e, if_pos e]
  · rw [if_neg e, if_neg e]; exact hw i hi hs
theorem exL_loc {W : Nat} {S : Nat → Prop} : ∀ (os : List (Nat → Int32)) (w v : Nat → Int32), (∀ o, o ∈ os → PWF o) → (∀ o, o ∈ os → ∀ i, i < 8 → nmd o i → S i) → (∀ i, i < 8 → S i → w i = v i) → (∀ i, i < 8 → S i → exL W os w i = exL W os v i) ∧ (∀ i, i < 8 → ¬ S i → exL W os w i = w i) := by
  intro os
  induction os with
  | nil => intro w v _ _ hw; exact ⟨hw, fun _ _ _ => rfl⟩
  | cons o os ih =>
    intro w v hp hS hw
    obtain ⟨a1, a2⟩ := exO_loc (W := W) (hp o List.mem_cons_self) (hS o List.mem_cons_self) hw
    obtain ⟨i1, i2⟩ := ih (exO W w o) (exO W v o) (fun p hpp => hp p (List.mem_cons_of_mem _ hpp)) (fun p hpp => hS p (List.mem_cons_of_mem _ hpp)) a1
    exact ⟨i1, fun i hi hs => (i2 i hi hs).trans (a2 i hi hs)⟩
/-- the outcome of a run -/
def outc (W : Nat) (os : List (Nat → Int32)) (b : Nat) : Int32 := pkU W (exL W os (unp W (nI b))) 8
theorem outc_iff {W : Nat} (hW : W = 1 ∨ W = 2 ∨ W = 3) {os os' : List (Nat → Int32)} (hp : ∀ o, o ∈ os → PWF o) (hp' : ∀ o, o ∈ os' → PWF o) {b : Nat} : outc W os b = outc W os' b ↔ ∀ i, i < 8 → exL W os (unp W (nI b)) i = exL W os' (unp W (nI b)) i :=
  pk_inj hW (WD.exL hW os _ (unp_WD hW _) hp) (WD.exL hW os' _ (unp_WD hW _) hp')
theorem outc_msk {W : Nat} (hW : W = 1 ∨ W = 2) {os os' : List (Nat → Int32)} (hp : ∀ o, o ∈ os → PWF o) (hp' : ∀ o, o ∈ os' → PWF o) {n b : Nat} (hb : b < 2 ^ 32) (hn : n < 2 ^ 32) (hm : MSK W (nI n)) (h1 : ∀ o, o ∈ os → ∀ i, i < 8 → nmd o i → isN W (nI n) i) (h2 : ∀ o, o ∈ os' → ∀ i, i < 8 → nmd o i → isN W (nI n) i) : outc W os b = outc W os' b ↔ outc W os (b &&& n) = outc W os' (b &&& n) := by
  have hW3 : W = 1 ∨ W = 2 ∨ W = 3 := by omega
  rw [outc_iff hW3 hp hp', outc_iff hW3 hp hp']
  have ag : ∀ i, i < 8 → isN W (nI n) i → unp W (nI b) i = unp W (nI (b &&& n)) i := by
    intro i hi hs
    rw [← nIand hb hn, unp_and, hs.2]
    obtain ⟨u, u1, u2⟩ := mask_in hW3 (nI b >>> ((nI i * nI W) &&& 31))
    have : unp W (nI b) i = nI u := u2
    rw [this, mask_id hW3 u u1]
  obtain ⟨a1, a2⟩ := exL_loc (W := W) (S := isN W (nI n)) os _ _ hp h1 ag
  obtain ⟨b1, b2⟩ := exL_loc (W := W) (S := isN W (nI n)) os' _ _ hp' h2 ag
  obtain ⟨_, a3⟩ := exL_loc (W := W) (S := isN W (nI n)) os (unp W (nI (b &&& n))) (unp W (nI (b &&& n))) hp h1 (fun _ _ _ => rfl)
  obtain ⟨_, b3⟩ := exL_loc (W := W) (S := isN W (nI n)) os' (unp W (nI (b &&& n))) (unp W (nI (b &&& n))) hp' h2 (fun _ _ _ => rfl)
  constructor
  · intro h i hi
    by_cases hs : isN W (nI n) i
    · rw [← a1 i hi hs, ← b1 i hi hs]; exact h i hi
    · rw [a3 i hi hs, b3 i hi hs]
  · intro h i hi
    by_cases hs : isN W (nI n) i
    · rw [a1 i hi hs, b1 i hi hs]; exact h i hi
    · rw [a2 i hi hs, b2 i hi hs]
