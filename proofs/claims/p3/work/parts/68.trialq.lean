/-! a trial: all assignments -/
def w0F (nr : Nat) (hc : Bool) (v : Nat → Int32) : Nat → Int32 := fun i => if i < nr then v i else if 4 ≤ i ∧ hc = true then v (nr + (i - 4)) else 0
def mvF (wd : Nat) (v : Nat → Int32) : Nat → Int32 := fun i => v (wd + i)
def odo (t : Nat → Int32) : Nat → (Nat → Int32) → (Nat → Int32)
  | 0, v => v
  | n + 1, v => if v n = t n then odo t n (up6 v n 0) else up6 v n (v n + 1)
/-- an assignment within its bounds -/
def VB (W wd n : Nat) (t v : Nat → Int32) : Prop := ∀ k, k < n → ∃ u w, u ≤ w ∧ w ≤ 7 ∧ v k = nI u ∧ t k = nI w ∧ (k < wd → w + 1 = 2 ^ W)
theorem VB.up0 {W wd n : Nat} {t v : Nat → Int32} (h : VB W wd n t v) (j : Nat) : VB W wd n t (up6 v j 0) := fun k hk => by
  obtain ⟨u, w, h1, h2, h3, h4, h5⟩ := h k hk
  unfold up6
  by_cases e : k = j
  · exact ⟨0, w, Nat.zero_le _, h2, by rw [if_pos e]; rfl, h4, h5⟩
  · exact ⟨u, w, h1, h2, by rw [if_neg e]; exact h3, h4, h5⟩
theorem VB.up1 {W wd n : Nat} {t v : Nat → Int32} (h : VB W wd n t v) {j : Nat} (hj : ¬ v j = t j) : VB W wd n t (up6 v j (v j + 1)) := fun k hk => by
  obtain ⟨u, w, h1, h2, h3, h4, h5⟩ := h k hk
  unfold up6
  by_cases e : k = j
  · subst e
    have : u ≠ w := fun q => hj (by rw [h3, h4, q])
    exact ⟨u + 1, w, by omega, h2, by rw [if_pos rfl, h3, nI_succ], h4, h5⟩
  · exact ⟨u, w, h1, h2, by rw [if_neg e]; exact h3, h4, h5⟩
theorem VB.odo {W wd N : Nat} {t : Nat → Int32} : ∀ n v, VB W wd N t v → VB W wd N t (odo t n v) := by
  intro n
  induction n with
  | zero => intro v h; exact h
  | succ n ih =>
    intro v h
    show VB W wd N t (if v n = t n then _ else _)
    by_cases e : v n = t n
    · rw [if_pos e]; exact ih _ (h.up0 n)
    · rw [if_neg e]; exact h.up1 e
theorem VB.le {W wd n : Nat} {t v : Nat → Int32} (h : VB W wd n t v) {k : Nat} (hk : k < n) : t k ≤ v k ↔ v k = t k := by
  obtain ⟨u, w, h1, h2, h3, h4, _⟩ := h k hk
  rw [h3, h4, n31le (by omega) (by omega), n31eq (by omega) (by omega)]
  omega
theorem odo_cong {t : Nat → Int32} : ∀ n (v w : Nat → Int32), n ≤ 11 → (∀ k, k < 11 → v k = w k) → ∀ k, k < 11 → odo t n v k = odo t n w k := by
  intro n
  induction n with
  | zero => intro v w _ h; exact h
  | succ n ih =>
    intro v w hn h k hk
    show (if v n = t n then odo t n (up6 v n 0) else up6 v n (v n + 1)) k = (if w n = t n then odo t n (up6 w n 0) else up6 w n (w n + 1)) k
    rw [h n (by omega)]
    by_cases e : w n = t n
    · rw [if_pos e, if_pos e]
      refine ih _ _ (by omega) (fun i hi => ?_) k hk
      unfold up6
      rw [h i hi]
    · rw [if_neg e, if_neg e]
      unfold up6
      rw [h k hk]
theorem VB.wd {W nr nm : Nat} {hc : Bool} (hnr : nr ≤ 4) {t v : Nat → Int32} (h : VB W (wdN nr hc) (wdN nr hc + nm) t v) : WD W (w0F nr hc v) := fun i hi => by
  have wn : nr ≤ wdN nr hc := Nat.le_add_right _ _
  unfold w0F
  by_cases h1 : i < nr
  · rw [if_pos h1]
    obtain ⟨u, w, h2, h3, h4, h5, h6⟩ := h i (by omega)
    have := h6 (by omega)
    exact ⟨u, by omega, h4⟩
  · rw [if_neg h1]
    by_cases h2 : 4 ≤ i ∧ hc = true
    · have e : wdN nr hc = nr + 4 := by unfold wdN; rw [if_pos h2.2]
      rw [if_pos h2]
      obtain ⟨u, w, h3, h4, h5, h6, h7⟩ := h (nr + (i - 4)) (by omega)
      have := h7 (by omega)
      exact ⟨u, by omega, h5⟩
    · rw [if_neg h2]
      exact ⟨0, Nat.two_pow_pos W, rfl⟩
theorem VB.mv {W wd nm : Nat} {t v : Nat → Int32} (h : VB W wd (wd + nm) t v) : MV nm (mvF wd v) := fun i hi => by
  obtain ⟨u, w, h1, h2, h3, _, _⟩ := h (wd + i) (by omega)
  exact ⟨u, by omega, h3⟩
def exS (W nr : Nat) (hc : Bool) (os : List (Nat → Int32)) (v : Nat → Int32) : Nat → Int32 := exL W (os.map (wrM W (mvF (wdN nr hc) v))) (w0F nr hc v)
def lik (W nr : Nat) (hc : Bool) (o1 o2 : List (Nat → Int32)) (v : Nat → Int32) : Bool := decide (pkU W (exS W nr hc o1 v) 8 = pkU W (exS W nr hc o2 v) 8)
theorem exS_WD {W nr nm : Nat} (hW : W = 1 ∨ W = 2 ∨ W = 3) (hnr : nr ≤ 4) (hnm : nm ≤ 3) {hc : Bool} {t v : Nat → Int32} (h : VB W (wdN nr hc) (wdN nr hc + nm) t v) {os : List (Nat → Int32)} (hw : ∀ o, o ∈ os → WFo nr nm o) : WD W (exS W nr hc os v) := by
  refine WD.exL hW _ _ (h.wd hnr) (fun e he => ?_)
  obtain ⟨o, ho, eo⟩ := List.mem_map.mp he
  obtain ⟨k, x, y, z, h8, e0, e1, e2, e3, _, _⟩ := wrM_PWF hW hnr hnm h.mv (hw o ho)
  rw [← eo]
  exact ⟨k, x, y, z, h8, e0, e1, e2, e3⟩
/-- the reference compares the registers that the rule names and the cells -/
theorem lik_iff {W nr nm : Nat} (hW : W = 1 ∨ W = 2 ∨ W = 3) (hnr : nr ≤ 4) (hnm : nm ≤ 3) {hc : Bool} {t v : Nat → Int32} (h : VB W (wdN nr hc) (wdN nr hc + nm) t v) {o1 o2 : List (Nat → Int32)} (h1 : ∀ o, o ∈ o1 → WFo nr nm o) (h2 : ∀ o, o ∈ o2 → WFo nr nm o) :
    lik W nr hc o1 o2 v = true ↔ (∀ i, i < 4 → (nr ≤ i ∨ exS W nr hc o1 v i = exS W nr hc o2 v i) ∧ exS W nr hc o1 v (4 + i) = exS W nr hc o2 v (4 + i)) := by
  unfold lik
  rw [decide_eq_true_iff, pk_inj hW (exS_WD hW hnr hnm h h1) (exS_WD hW hnr hnm h h2)]
  constructor
  · intro e i hi
    exact ⟨Or.inr (e i (by omega)), e (4 + i) (by omega)⟩
  · intro e i hi
    by_cases h4 : i < 4
    · rcases (e i h4).1 with q | q
      · have a1 : exS W nr hc o1 v i = w0F nr hc v i := exL_keep hW hnr hnm h.mv o1 _ h1 i q h4
        have a2 : exS W nr hc o2 v i = w0F nr hc v i := exL_keep hW hnr hnm h.mv o2 _ h2 i q h4
        rw [a1, a2]
      · exact q
    · have := (e (i - 4) (by omega)).2
      rw [show 4 + (i - 4) = i by omega] at this
      exact this
def cntL (p : (Nat → Int32) → Bool) (nx : (Nat → Int32) → (Nat → Int32)) : Nat → (Nat → Int32) → Nat
  | 0, _ => 0
  | n + 1, v => (if p v = true then 1 else 0) + cntL p nx n (nx v)
theorem cntL_le (p : (Nat → Int32) → Bool) (nx : (Nat → Int32) → (Nat → Int32)) : ∀ n v, cntL p nx n v ≤ n := by
  intro n
  induction n with
  | zero => intro v; exact Nat.le_refl _
  | succ n ih =>
    intro v
    have := ih (nx v)
    show (if p v = true then 1 else 0) + cntL p nx n (nx v) ≤ n + 1
    split <;> omega
/-! how many there are -/
def prN (u : Nat → Nat) : Nat → Nat
  | 0 => 1
  | n + 1 => prN u n * (u n + 1)
theorem prN_pos (u : Nat → Nat) : ∀ n, 1 ≤ prN u n := by
  intro n
  induction n with
  | zero => exact Nat.le_refl 1
  | succ n ih => exact Nat.mul_pos ih (Nat.succ_pos _)
theorem prN_le {u : Nat → Nat} : ∀ n, (∀ k, k < n → u k ≤ 7) → prN u n ≤ 8 ^ n := by
  intro n
  induction n with
  | zero => intro _; exact Nat.le_refl 1
  | succ n ih =>
    intro h
    show prN u n * (u n + 1) ≤ 8 ^ (n + 1)
    rw [Nat.pow_succ]
    exact Nat.mul_le_mul (ih (fun k hk => h k (by omega))) (by have := h n (by omega); omega)
theorem prL_n {t : Nat → Int32} {u : Nat → Nat} : ∀ n, (∀ k, k < n → u k ≤ 7 ∧ t k = nI (u k)) → prL t n = Int64.ofNat (prN u n) := by
  intro n
  induction n with
  | zero => intro _; rfl
  | succ n ih =>
    intro h
    show prL t n * (t n + 1).toInt64 = Int64.ofNat (prN u n * (u n + 1))
    have := (h n (by omega)).1
    have e : (nI (u n + 1)).toInt64 = Int64.ofNat (u n + 1) := by
      have H : ∀ k, k < 9 → (nI k).toInt64 = Int64.ofNat k := by decide
      exact H _ (by omega)
    rw [ih (fun k hk => h k (by omega)), (h n (by omega)).2, ← nI_succ, e, Int64.ofNat_mul]
