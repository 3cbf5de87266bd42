/-! windows: what both do with an order -/
abbrev BN : Type := Nat → Option Nat
def encB (e : Int32) (b : BN) (k : Nat) : Int32 := match b k with | some v => nI v | none => e
def upB (b : BN) (w v : Nat) : BN := fun i => if i = w then some v else b i
def hasV (b : BN) (v : Nat) : Bool := b 0 == some v || b 1 == some v || b 2 == some v || b 3 == some v
def tkR (b : BN) (w v : Nat) : Option BN := match b w with | none => if hasV b v = true then none else some (upB b w v) | some u => if u = v then some b else none
def tkL (b : BN) (o p : Nat → Int32) : Nat → Option BN
  | 0 => some b
  | n + 1 => (tkL b o p n).bind (fun c => tkR c (o (n + 1)).toNatClampNeg (p (n + 1)).toNatClampNeg)
def tkM (c : BN) (m v : Nat) : Option BN := match c m with | none => some (upB c m v) | some u => if u = v then some c else none
def tkN (W k : Nat) (c : BN) (t v : Int32) : Option BN := if 16 ≤ t then tkM c (t - 16).toNatClampNeg v.toNatClampNeg else if kpM W k t = v then some c else none
def tkO (W : Nat) (x : BN × BN) (o p : Nat → Int32) : Option (BN × BN) := if p 0 = o 0 then (tkL x.1 o p (regN (opO o))).bind (fun b' => if numN (opO o) = true then (tkN W (opO o) x.2 (o 2) (p 2)).map (fun c' => (b', c')) else some (b', x.2)) else none
def tkW (W : Nat) (os ps : List (Nat → Int32)) (pl : Nat) : Nat → Option (BN × BN)
  | 0 => some (fun _ => none, fun _ => none)
  | n + 1 => (tkW W os ps pl n).bind (fun x => tkO W x (os.getD n (fun _ => 0)) (ps.getD (pl + n) (fun _ => 0)))
def winF (W : Nat) (os : List (Nat → Int32)) (m : Nat) (ps : List (Nat → Int32)) (pl : Nat) : Option (BN × BN) := if pl + os.length ≤ ps.length ∧ ps.length - os.length + m ≤ 24 then tkW W os ps pl os.length else none
theorem hasV_iff {b : BN} {v : Nat} : hasV b v = true ↔ ∃ i, i < 4 ∧ b i = some v := by
  unfold hasV
  simp only [Bool.or_eq_true, beq_iff_eq]
  constructor
  · rintro (((h | h) | h) | h)
    · exact ⟨0, by decide, h⟩
    · exact ⟨1, by decide, h⟩
    · exact ⟨2, by decide, h⟩
    · exact ⟨3, by decide, h⟩
  · rintro ⟨i, hi, h⟩
    rcases jnf4 hi with e | e | e | e <;> subst e
    · exact Or.inl (Or.inl (Or.inl h))
    · exact Or.inl (Or.inl (Or.inr h))
    · exact Or.inl (Or.inr h)
    · exact Or.inr h
/-- registers mean unlike registers -/
def IB (b : BN) : Prop := (∀ i v, i < 4 → b i = some v → v < 4) ∧ (∀ i j v, i < 4 → j < 4 → b i = some v → b j = some v → i = j)
def IC (c : BN) : Prop := ∀ i v, i < 3 → c i = some v → v < 8
theorem enc_eq {e : Int32} (he : e = -1 ∨ e = -4) {b : BN} {k v : Nat} (hv : v < 8) (hb : ∀ u, b k = some u → u < 8) : encB e b k = nI v ↔ b k = some v := by
  unfold encB
  cases h : b k with
  | none =>
    refine ⟨fun z => ?_, fun z => nomatch z⟩
    exfalso
    have z : e = nI v := z
    have := nn0 (k := v) (by omega)
    rw [← z] at this
    rcases he with q | q <;> rw [q] at this <;> exact this (by decide)
  | some u =>
    have hu := hb u h
    show nI u = nI v ↔ some u = some v
    rw [n31eq (by omega) (by omega), Option.some_inj]
theorem enc_neg {b : BN} {k : Nat} (hb : ∀ u, b k = some u → u < 8) : (0 ≤ encB (-1) b k ↔ ∃ u, b k = some u) := by
  unfold encB
  cases h : b k with
  | none => exact ⟨fun z => absurd z (by decide), fun ⟨u, hu⟩ => nomatch hu⟩
  | some u =>
    have hu := hb u h
    refine ⟨fun _ => ⟨u, rfl⟩, fun _ => ?_⟩
    show (0 : Int32) ≤ nI u
    rw [← Int32.not_lt]; exact nn0 (by omega)
theorem enc_none {b : BN} {k : Nat} (hb : ∀ u, b k = some u → u < 8) : (encB (-4) b k = -4 ↔ b k = none) := by
  unfold encB
  cases h : b k with
  | none => exact ⟨fun _ => rfl, fun _ => rfl⟩
  | some u =>
    have hu := hb u h
    refine ⟨fun z => ?_, fun z => nomatch z⟩
    have z : nI u = -4 := z
    have := nn0 (k := u) (by omega)
    rw [z] at this
    exact absurd (by decide) this
theorem enc_up {e : Int32} {b : BN} {w v k : Nat} : encB e (upB b w v) k = if k = w then nI v else encB e b k := by
  unfold encB upB
  by_cases h : k = w
  · rw [if_pos h, if_pos h]
  · rw [if_neg h, if_neg h]
theorem tkR_iv {b b' : BN} {w v : Nat} (hv : v < 4) (iv : IB b) (h : tkR b w v = some b') : IB b' := by
  unfold tkR at h
  cases hw : b w with
  | some u =>
    rw [hw] at h
    have h : (if u = v then some b else none) = some b' := h
    split at h
    · cases h; exact iv
    · cases h
  | none =>
    rw [hw] at h
    have h : (if hasV b v = true then none else some (upB b w v)) = some b' := h
    split at h
    · cases h
    · rename_i hn
      cases h
      have nv : ∀ i, i < 4 → ¬ b i = some v := fun i hi z => hn (hasV_iff.mpr ⟨i, hi, z⟩)
      unfold upB
      refine ⟨fun i x hi hx => ?_, fun i j x hi hj h1 h2 => ?_⟩
      · by_cases e : i = w
        · have hx : (if i = w then some v else b i) = some x := hx
          rw [if_pos e, Option.some_inj] at hx; omega
        · have hx : (if i = w then some v else b i) = some x := hx
          rw [if_neg e] at hx; exact iv.1 i x hi hx
      · have h1 : (if i = w then some v else b i) = some x := h1
        have h2 : (if j = w then some v else b j) = some x := h2
        by_cases e : i = w
        · rw [if_pos e, Option.some_inj] at h1
          by_cases f : j = w
          · omega
          · rw [if_neg f, ← h1] at h2; exact absurd h2 (nv j hj)
        · rw [if_neg e] at h1
          by_cases f : j = w
          · rw [if_pos f, Option.some_inj] at h2
            rw [← h2] at h1; exact absurd h1 (nv i hi)
          · rw [if_neg f] at h2; exact iv.2 i j x hi hj h1 h2
theorem tkM_iv {c c' : BN} {m v : Nat} (hv : v < 8) (ic : IC c) (h : tkM c m v = some c') : IC c' := by
  unfold tkM at h
  cases hw : c m with
  | some u =>
    rw [hw] at h
    have h : (if u = v then some c else none) = some c' := h
    split at h
    · cases h; exact ic
    · cases h
  | none =>
    rw [hw] at h
    cases h
    intro i x hi hx
    have hx : (if i = m then some v else c i) = some x := hx
    by_cases e : i = m
    · rw [if_pos e, Option.some_inj] at hx; omega
    · rw [if_neg e] at hx; exact ic i x hi hx
theorem tkL_none {b : BN} {o p : Nat → Int32} {n : Nat} (h : tkL b o p n = none) : ∀ m, n ≤ m → tkL b o p m = none := by
  intro m hm
  induction m with
  | zero => have : n = 0 := by omega
            subst this; exact h
  | succ m ih =>
    by_cases e : n = m + 1
    · subst e; exact h
    · show (tkL b o p m).bind _ = none
      rw [ih (by omega)]; rfl
theorem tkL_iv {b : BN} {o p : Nat → Int32} (iv : IB b) : ∀ n b', (∀ j, j < n → (p (j + 1)).toNatClampNeg < 4) → tkL b o p n = some b' → IB b' := by
  intro n
  induction n with
  | zero => intro b' _ h; cases h; exact iv
  | succ n ih =>
    intro b' hp h
    obtain ⟨c, h1, h2⟩ := Option.bind_eq_some_iff.mp h
    exact tkR_iv (hp n (by omega)) (ih c (fun j hj => hp j (by omega)) h1) h2
section WIN
variable {d : Nat} {σ : jS}
theorem c100 {B br bn : Nat} {b : BN} (hB : BD σ B br bn) (hb : ∀ k, k < 4 → jA σ br k = encB (-1) b k) (iv : IB b) {w v : Nat} (hw : w < 4) (hv : v < 4) : ∃ σ', jx d 100 0 [some (.ref B), some (.int (nI w)), some (.int (nI v)), none] [] σ = some (some (.int (if (tkR b w v).isSome then 1 else 0)), σ') ∧ FR [br] σ σ' ∧ (∀ b', tkR b w v = some b' → ∀ k, k < 4 → jA σ' br k = encB (-1) b' k) := by
  obtain ⟨h1, h2, h3, h4, h5, h6, h7⟩ := hB
  have rn : jR σ 0 B ≠ none := by rw [h2]; exact fun z => nomatch z
  have rg : (jR σ 0 B).getD 0 = br := by rw [h2]; rfl
  have b8 : ∀ k, k < 4 → ∀ u, b k = some u → u < 8 := fun k hk u hu => by have := iv.1 k u hk hu; omega
  have st : jx d 100 0 [some (.ref B), some (.int (nI w)), some (.int (nI v)), none] [] σ = jx d 100 17 [some (.ref B), some (.int (nI w)), some (.int (nI v)), some (.int (nI 0))] [] σ := by
    have l4 : nI w < Int32.ofNat 4 := by rw [show Int32.ofNat 4 = nI 4 from rfl, n31 (by omega) (by decide)]; exact hw
    rw [k100_0, if_neg (nn0 (by omega)), k100_4 h1 rn (by rw [rg, h4]; decide), rg, h5, if_pos l4, k100_15]
    rfl
  by_cases hx : ∃ k, k < 4 ∧ k ≠ w ∧ b k = some v
  · have L : ∀ f n, n + f = 4 → (∃ k, n ≤ k ∧ k < 4 ∧ k ≠ w ∧ b k = some v) → jx d 100 17 [some (.ref B), some (.int (nI w)), some (.int (nI v)), some (.int (nI n))] [] σ = some (some (.int 0), σ) := by
      intro f
      induction f with
      | zero => intro n hn ⟨k, k1, k2, _⟩; omega
      | succ f ih =>
        intro n hn hk
        have g4 : ¬ Int32.ofNat 4 ≤ nI n := nI_ge (by omega) (by omega)
        rw [k100_17 h1 rn (by rw [rg, h4]; decide), rg, h5, if_neg g4, k100_26]
        by_cases e : n = w
        · rw [if_pos (by rw [e]), k100_43, ← nI_succ]
          obtain ⟨k, k1, k2, k3, k4⟩ := hk
          exact ih (n + 1) (by omega) ⟨k, by omega, k2, k3, k4⟩
        · rw [if_neg (by rw [n31eq (by omega) (by omega)]; exact e), k100_31 h1 rn (by rw [rg]; exact Or.inl h4) (by rw [rg, h5]; exact jin_n (by omega) (by decide)), rg, nI_clamp (by omega), hb n (by omega)]
          by_cases q : b n = some v
          · rw [if_neg (fun z => z ((enc_eq (Or.inl rfl) (by omega) (b8 n (by omega))).mpr q)), k100_41]
          · rw [if_pos (fun z => q ((enc_eq (Or.inl rfl) (by omega) (b8 n (by omega))).mp z)), k100_43, ← nI_succ]
            obtain ⟨k, k1, k2, k3, k4⟩ := hk
            have : k ≠ n := fun z => q (z ▸ k4)
            exact ih (n + 1) (by omega) ⟨k, by omega, k2, k3, k4⟩
    obtain ⟨k, k1, k2, k3⟩ := hx
    have tn : tkR b w v = none := by
      unfold tkR
      cases hw' : b w with
      | none =>
        show (if hasV b v = true then none else _) = none
        rw [if_pos (hasV_iff.mpr ⟨k, k1, k3⟩)]
      | some u =>
        show (if u = v then some b else none) = none
        rw [if_neg (fun z : u = v => k2 (iv.2 k w v k1 hw k3 (by rw [hw', z])))]
    refine ⟨σ, ?_, FR.refl _ σ, fun b' hb' => by rw [tn] at hb'; cases hb'⟩
    rw [st, L 4 0 rfl ⟨k, Nat.zero_le _, k1, k2, k3⟩, tn]
    rfl
  · have L : ∀ f n, n + f = 4 → jx d 100 17 [some (.ref B), some (.int (nI w)), some (.int (nI v)), some (.int (nI n))] [] σ = jx d 100 49 [some (.ref B), some (.int (nI w)), some (.int (nI v)), some (.int (nI 4))] [] σ := by
      intro f
      induction f with
      | zero =>
        intro n hn
        have e : n = 4 := by omega
        subst e
        rw [k100_17 h1 rn (by rw [rg, h4]; decide), rg, h5, if_pos (by decide)]
      | succ f ih =>
        intro n hn
        have g4 : ¬ Int32.ofNat 4 ≤ nI n := nI_ge (by omega) (by omega)
        rw [k100_17 h1 rn (by rw [rg, h4]; decide), rg, h5, if_neg g4, k100_26]
        by_cases e : n = w
        · rw [if_pos (by rw [e]), k100_43, ← nI_succ]
          exact ih (n + 1) (by omega)
        · have q : ¬ b n = some v := fun z => hx ⟨n, by omega, e, z⟩
          rw [if_neg (by rw [n31eq (by omega) (by omega)]; exact e), k100_31 h1 rn (by rw [rg]; exact Or.inl h4) (by rw [rg, h5]; exact jin_n (by omega) (by decide)), rg, nI_clamp (by omega), hb n (by omega), if_pos (fun z => q ((enc_eq (Or.inl rfl) (by omega) (b8 n (by omega))).mp z)), k100_43, ← nI_succ]
          exact ih (n + 1) (by omega)
    have gw : jin (jN σ ((jR σ 0 B).getD 0)) (nI w) := by rw [rg, h5]; exact jin_n hw (by decide)
    have cw : (nI w).toNatClampNeg = w := nI_clamp (by omega)
    have to49 := st.trans (L 4 0 rfl)
    cases hw' : b w with
    | none =>
      have tn : tkR b w v = some (upB b w v) := by
        unfold tkR
        rw [hw']
        show (if hasV b v = true then none else _) = _
        have hn : ¬ hasV b v = true := fun z => by
          obtain ⟨i, i1, i2⟩ := hasV_iff.mp z
          exact hx ⟨i, i1, (fun e => by rw [e, hw'] at i2; cases i2), i2⟩
        rw [if_neg hn]
      refine ⟨jsA σ br w (nI v), ?_, (FR.refl _ σ).A (by simp), fun b' hb' k hk => ?_⟩
      · have ng : ¬ (0 : Int32) ≤ jA σ br w := by
          rw [hb w hw, enc_neg (b8 w hw), hw']
          exact fun ⟨u, z⟩ => nomatch z
        rw [to49, k100_49 h1 rn (by rw [rg]; exact Or.inl h4) gw, rg, cw, if_neg ng, k100_58 h1 rn (by rw [rg]; exact h4) gw (by rw [rg]; exact Or.inl h4), rg, cw, if_neg (fun z => z (by rw [zA_A, if_pos ⟨rfl, rfl⟩])), k100_75, tn]
        rfl
      · rw [tn, Option.some_inj] at hb'
        rw [← hb', enc_up, zA_A]
        by_cases e : k = w
        · rw [if_pos ⟨rfl, e⟩, if_pos e]
        · rw [if_neg (fun z => e z.2), if_neg e]; exact hb k hk
    | some u =>
      have hp : (0 : Int32) ≤ jA σ br w := by rw [hb w hw, enc_neg (b8 w hw)]; exact ⟨u, hw'⟩
      have ew : jA σ br w = nI u := by rw [hb w hw]; unfold encB; rw [hw']
      have u4 := iv.1 w u hw hw'
      refine ⟨σ, ?_, FR.refl _ σ, fun b' hb' => ?_⟩
      · rw [to49, k100_49 h1 rn (by rw [rg]; exact Or.inl h4) gw, rg, cw, if_pos hp, k100_65 h1 rn (by rw [rg]; exact Or.inl h4) gw, rg, cw, ew]
        by_cases e : u = v
        · have tn : tkR b w v = some b := by
            unfold tkR
            rw [hw']
            show (if u = v then _ else _) = _
            rw [if_pos e]
          rw [if_neg (fun z => z (by rw [e])), k100_75, tn]
          rfl
        · have tn : tkR b w v = none := by
            unfold tkR
            rw [hw']
            show (if u = v then _ else _) = _
            rw [if_neg e]
          rw [if_pos (by rw [n31eq (by omega) (by omega)]; exact e), k100_79, tn]
          rfl
      · unfold tkR at hb'
        rw [hw'] at hb'
        have hb' : (if u = v then some b else none) = some b' := hb'
        split at hb'
        · cases hb'; exact hb
        · cases hb'
end WIN
