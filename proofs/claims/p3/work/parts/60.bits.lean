/-! words packed into bits -/
theorem nI_tn {a : Nat} (h : a < 2 ^ 32) : (nI a).toBitVec.toNat = a := by
  show (Int32.ofNat a).toBitVec.toNat = a
  rw [Int32.toBitVec_ofNat', BitVec.toNat_ofNat, Nat.mod_eq_of_lt h]
theorem tn_nI {v : Int32} {a : Nat} (h : v.toBitVec.toNat = a) : v = nI a := by
  have ha : a < 2 ^ 32 := by rw [← h]; exact v.toBitVec.isLt
  apply Int32.toBitVec_inj.mp
  apply BitVec.eq_of_toNat_eq
  rw [h, nI_tn ha]
theorem s31 : ∀ s, s < 32 → (nI s &&& 31) = nI s := by decide
theorem s32 : ∀ s, s < 32 → ((nI s).toBitVec.smod 32).toNat = s := by decide
theorem shl_n {a s : Nat} (hs : s < 32) (h : a * 2 ^ s < 2 ^ 32) : nI a <<< (nI s &&& 31) = nI (a * 2 ^ s) := by
  have h1 : 1 ≤ 2 ^ s := Nat.one_le_two_pow
  have ha : a < 2 ^ 32 := Nat.lt_of_le_of_lt (Nat.le_mul_of_pos_right a h1) h
  apply tn_nI
  rw [s31 s hs, Int32.toBitVec_shiftLeft, BitVec.shiftLeft_eq', BitVec.toNat_shiftLeft, s32 s hs, nI_tn ha, Nat.shiftLeft_eq, Nat.mod_eq_of_lt h]
theorem shr_n {a s : Nat} (hs : s < 32) (h : a < 2 ^ 31) : nI a >>> (nI s &&& 31) = nI (a / 2 ^ s) := by
  have ha : a < 2 ^ 32 := by omega
  apply tn_nI
  rw [s31 s hs, Int32.toBitVec_shiftRight]
  show ((nI a).toBitVec.sshiftRight ((nI s).toBitVec.smod 32).toNat).toNat = _
  rw [BitVec.toNat_sshiftRight_of_msb_false (BitVec.msb_eq_false_iff_two_mul_lt.mpr (by rw [nI_tn ha]; omega)), s32 s hs, nI_tn ha, Nat.shiftRight_eq_div_pow]
theorem and_n {a W : Nat} (hW : W = 1 ∨ W = 2 ∨ W = 3) (h : a < 2 ^ 32) : nI a &&& mkW W = nI (a % 2 ^ W) := by
  have e : (mkW W).toBitVec.toNat = 2 ^ W - 1 := by rcases hW with h | h | h <;> subst h <;> decide
  apply tn_nI
  rw [Int32.toBitVec_and, BitVec.toNat_and, e, nI_tn h, Nat.and_two_pow_sub_one_eq_mod]
theorem or_n {a c s : Nat} (ha : a < 2 ^ s) (h : a + c * 2 ^ s < 2 ^ 32) : nI a ||| nI (c * 2 ^ s) = nI (a + c * 2 ^ s) := by
  apply tn_nI
  rw [Int32.toBitVec_or, BitVec.toNat_or, nI_tn (by omega), nI_tn (by omega), Nat.or_comm, Nat.mul_comm c, ← Nat.two_pow_add_eq_or_of_lt ha, Nat.add_comm]
def unp (W : Nat) (bits : Int32) (i : Nat) : Int32 := (bits >>> ((nI i * nI W) &&& 31)) &&& mkW W
def pkU (W : Nat) (w : Nat → Int32) : Nat → Int32
  | 0 => 0
  | n + 1 => pkU W w n ||| (w n <<< ((nI n * nI W) &&& 31))
def pkD (W : Nat) (w : Nat → Int32) : Nat → Int32
  | 0 => 0
  | n + 1 => (pkD W w n <<< (nI W &&& 31)) ||| w (7 - n)
def pkN (W : Nat) (u : Nat → Nat) : Nat → Nat
  | 0 => 0
  | n + 1 => pkN W u n + u n * 2 ^ (n * W)
def qkN (W : Nat) (u : Nat → Nat) : Nat → Nat
  | 0 => 0
  | n + 1 => u (7 - n) + qkN W u n * 2 ^ W
theorem pkN_lt {W : Nat} {u : Nat → Nat} : ∀ n, (∀ i, i < n → u i < 2 ^ W) → pkN W u n < 2 ^ (n * W) := by
  intro n
  induction n with
  | zero => intro _; show 0 < 2 ^ (0 * W); rw [Nat.zero_mul]; decide
  | succ n ih =>
    intro h
    have i1 := ih (fun i hi => h i (by omega))
    have i2 := h n (by omega)
    show pkN W u n + u n * 2 ^ (n * W) < _
    rw [Nat.succ_mul, Nat.pow_add]
    have : (u n + 1) * 2 ^ (n * W) ≤ 2 ^ W * 2 ^ (n * W) := Nat.mul_le_mul_right _ i2
    rw [Nat.succ_mul] at this
    rw [Nat.mul_comm (2 ^ (n * W))]
    omega
theorem qkN_lt {W : Nat} {u : Nat → Nat} (h : ∀ i, i < 8 → u i < 2 ^ W) : ∀ n, qkN W u n < 2 ^ (n * W) := by
  intro n
  induction n with
  | zero => show 0 < 2 ^ (0 * W); rw [Nat.zero_mul]; decide
  | succ n ih =>
    have i2 := h (7 - n) (by omega)
    show u (7 - n) + qkN W u n * 2 ^ W < _
    rw [Nat.succ_mul, Nat.pow_add]
    have : (qkN W u n + 1) * 2 ^ W ≤ 2 ^ (n * W) * 2 ^ W := Nat.mul_le_mul_right _ ih
    rw [Nat.succ_mul] at this
    omega
theorem pw24 {W : Nat} (hW : W = 1 ∨ W = 2 ∨ W = 3) {n : Nat} (hn : n ≤ 8) : 2 ^ (n * W) ≤ 2 ^ 24 := Nat.pow_le_pow_right (by decide) (by rcases hW with h | h | h <;> subst h <;> omega)
theorem pkU_n {W : Nat} (hW : W = 1 ∨ W = 2 ∨ W = 3) {w : Nat → Int32} {u : Nat → Nat} : ∀ n, n ≤ 8 → (∀ i, i < n → u i < 2 ^ W ∧ w i = nI (u i)) → pkU W w n = nI (pkN W u n) := by
  intro n
  induction n with
  | zero => intro _ _; rfl
  | succ n ih =>
    intro hn h
    have lt := pkN_lt (W := W) (u := u) n (fun i hi => (h i (by omega)).1)
    have lt2 := pkN_lt (W := W) (u := u) (n + 1) (fun i hi => (h i hi).1)
    have p24 := pw24 hW hn
    have lt3 : pkN W u n + u n * 2 ^ (n * W) < 2 ^ ((n + 1) * W) := lt2
    show pkU W w n ||| (w n <<< ((nI n * nI W) &&& 31)) = nI (pkN W u n + u n * 2 ^ (n * W))
    have hs : n * W < 32 := by rcases hW with h | h | h <;> subst h <;> omega
    rw [ih (by omega) (fun i hi => h i (by omega)), (h n (by omega)).2, nmul, shl_n hs (by omega), or_n lt (by omega)]
theorem pkD_n {W : Nat} (hW : W = 1 ∨ W = 2 ∨ W = 3) {w : Nat → Int32} {u : Nat → Nat} (h : ∀ i, i < 8 → u i < 2 ^ W ∧ w i = nI (u i)) : ∀ n, n ≤ 8 → pkD W w n = nI (qkN W u n) := by
  intro n
  induction n with
  | zero => intro _; rfl
  | succ n ih =>
    intro hn
    have lt2 := qkN_lt (fun i hi => (h i hi).1) (n + 1)
    have p24 := pw24 hW hn
    have lt3 : u (7 - n) + qkN W u n * 2 ^ W < 2 ^ ((n + 1) * W) := lt2
    show (pkD W w n <<< (nI W &&& 31)) ||| w (7 - n) = nI (u (7 - n) + qkN W u n * 2 ^ W)
    have h7 := h (7 - n) (by omega)
    rw [ih (by omega), shl_n (by rcases hW with h | h | h <;> subst h <;> decide) (by omega), h7.2, Int32.or_comm, or_n h7.1 (by omega)]
theorem p8 {W : Nat} (hW : W = 1 ∨ W = 2 ∨ W = 3) : 2 ^ W ≤ 8 := by rcases hW with h | h | h <;> subst h <;> decide
theorem WD.nat {W : Nat} (hW : W = 1 ∨ W = 2 ∨ W = 3) {w : Nat → Int32} (h : WD W w) : ∃ u : Nat → Nat, ∀ i, i < 8 → u i < 2 ^ W ∧ w i = nI (u i) := by
  refine ⟨fun i => (w i).toNatClampNeg, fun i hi => ?_⟩
  obtain ⟨u, h1, h2⟩ := h i hi
  have := p8 hW
  have e : (w i).toNatClampNeg = u := by rw [h2]; exact nI_clamp (by omega)
  show (w i).toNatClampNeg < 2 ^ W ∧ w i = nI (w i).toNatClampNeg
  rw [e]
  exact ⟨h1, h2⟩
theorem i8 {i : Nat} (h : i < 8) : i = 0 ∨ i = 1 ∨ i = 2 ∨ i = 3 ∨ i = 4 ∨ i = 5 ∨ i = 6 ∨ i = 7 := by omega
theorem pk_qk {W : Nat} (hW : W = 1 ∨ W = 2 ∨ W = 3) (u : Nat → Nat) : pkN W u 8 = qkN W u 8 := by
  rcases hW with h | h | h <;> subst h <;> simp only [pkN, qkN, Nat.reduceMul, Nat.reducePow, Nat.reduceSub] <;> omega
theorem un_pk {W : Nat} (hW : W = 1 ∨ W = 2 ∨ W = 3) {u : Nat → Nat} (h : ∀ i, i < 8 → u i < 2 ^ W) {i : Nat} (hi : i < 8) : pkN W u 8 / 2 ^ (i * W) % 2 ^ W = u i := by
  have h0 := h 0 (by decide)
  have h1 := h 1 (by decide)
  have h2 := h 2 (by decide)
  have h3 := h 3 (by decide)
  have h4 := h 4 (by decide)
  have h5 := h 5 (by decide)
  have h6 := h 6 (by decide)
  have h7 := h 7 (by decide)
  rcases hW with q | q | q <;> subst q <;> simp only [pkN, Nat.reduceMul, Nat.reducePow] at * <;> rcases i8 hi with q | q | q | q | q | q | q | q <;> subst q <;> simp only [Nat.reduceMul, Nat.reducePow] <;> omega
theorem pk_same {W : Nat} (hW : W = 1 ∨ W = 2 ∨ W = 3) {w : Nat → Int32} (h : WD W w) : pkU W w 8 = pkD W w 8 := by
  obtain ⟨u, hu⟩ := h.nat hW
  rw [pkU_n hW 8 (Nat.le_refl 8) hu, pkD_n hW hu 8 (Nat.le_refl 8), pk_qk hW]
theorem unp_pk {W : Nat} (hW : W = 1 ∨ W = 2 ∨ W = 3) {w : Nat → Int32} (h : WD W w) {i : Nat} (hi : i < 8) : unp W (pkU W w 8) i = w i := by
  obtain ⟨u, hu⟩ := h.nat hW
  have lt := pkN_lt (W := W) (u := u) 8 (fun i hi => (hu i hi).1)
  have p24 := pw24 hW (Nat.le_refl 8)
  rw [pkU_n hW 8 (Nat.le_refl 8) hu]
  unfold unp
  have hs : i * W < 32 := by rcases hW with q | q | q <;> subst q <;> omega
  have le : pkN W u 8 / 2 ^ (i * W) ≤ pkN W u 8 := Nat.div_le_self _ _
  rw [nmul, shr_n hs (by omega), and_n hW (by omega), un_pk hW (fun i hi => (hu i hi).1) hi, (hu i hi).2]
theorem pk_inj {W : Nat} (hW : W = 1 ∨ W = 2 ∨ W = 3) {w v : Nat → Int32} (h : WD W w) (k : WD W v) : pkU W w 8 = pkU W v 8 ↔ ∀ i, i < 8 → w i = v i := by
  constructor
  · intro e i hi
    rw [← unp_pk hW h hi, e, unp_pk hW k hi]
  · intro e
    have : ∀ n, n ≤ 8 → pkU W w n = pkU W v n := by
      intro n
      induction n with
      | zero => intro _; rfl
      | succ n ih => intro hn; show pkU W w n ||| _ = pkU W v n ||| _; rw [ih (by omega), e n (by omega)]
    exact this 8 (Nat.le_refl 8)
theorem unp_WD {W : Nat} (hW : W = 1 ∨ W = 2 ∨ W = 3) (bits : Int32) : WD W (unp W bits) := fun _ _ => mask_in hW _
theorem pkU_cong {W : Nat} {w v : Nat → Int32} : ∀ n, (∀ i, i < n → w i = v i) → pkU W w n = pkU W v n := by
  intro n
  induction n with
  | zero => intro _; rfl
  | succ n ih => intro e; show pkU W w n ||| _ = pkU W v n ||| _; rw [ih (fun i hi => e i (by omega)), e n (by omega)]
theorem WD.cong {W : Nat} {w v : Nat → Int32} (h : WD W w) (e : ∀ i, i < 8 → v i = w i) : WD W v := fun i hi => by rw [e i hi]; exact h i hi
theorem WD.up {W : Nat} {w : Nat → Int32} (h : WD W w) {j : Nat} {v : Int32} (hv : ∃ u, u < 2 ^ W ∧ v = nI u) : WD W (up6 w j v) := fun i hi => by
  unfold up6
  by_cases e : i = j
  · rw [if_pos e]; exact hv
  · rw [if_neg e]; exact h i hi
theorem WD.ex {W : Nat} (hW : W = 1 ∨ W = 2 ∨ W = 3) {w : Nat → Int32} (h : WD W w) {k x y z : Nat} (h8 : w8 x y z k) : WD W (exN W k x y z w) := by
  obtain ⟨hk, hx, hz, hy, hy4⟩ := h8
  unfold exN
  by_cases h17 : k = 17
  · rw [if_pos h17]; exact h
  rw [if_neg h17]
  by_cases h16 : k = 16
  · rw [if_pos h16]; exact h.up (h x (by omega))
  rw [if_neg h16]
  by_cases h15 : k = 15
  · rw [if_pos h15]; exact h.up (h (4 + y) (by have := hy4 (by omega); omega))
  rw [if_neg h15]
  by_cases h14 : k = 14
  · rw [if_pos h14]
    refine h.up ?_
    by_cases h0 : w x = 0
    · rw [if_pos h0]; exact h z (by omega)
    · rw [if_neg h0]; exact h y hy
  rw [if_neg h14]
  by_cases h18 : k = 18
  · rw [if_pos h18]; exact (h.up (h y hy)).up (h x (by omega))
  rw [if_neg h18]
  exact h.up (mask_in hW _)
