/-! what stands stays; the start -/
section KEEP
variable {σ : jS} {n : Nat} {L : jL} {st : List Value}
def jKp (σ σ' : jS) : Prop := jnx σ ≤ jnx σ' ∧ ∀ a, a < jnx σ → jT σ' a = jT σ a ∧ jN σ' a = jN σ a ∧ (jT σ a = 60 → ∀ i, jA σ' a i = jA σ a i)
theorem jKp.refl (σ : jS) : jKp σ σ := ⟨Nat.le_refl _, fun _ _ => ⟨rfl, rfl, fun _ _ => rfl⟩⟩
theorem jKp.trans {σ τ υ : jS} (h : jKp σ τ) (k : jKp τ υ) : jKp σ υ := ⟨Nat.le_trans h.1 k.1, fun a ha => by
  have x := h.2 a ha
  have y := k.2 a (Nat.lt_of_lt_of_le ha h.1)
  exact ⟨y.1.trans x.1, y.2.1.trans x.2.1, fun z i => (y.2.2 (x.1.trans z) i).trans (x.2.2 z i)⟩⟩
theorem jKp_I {g a : Nat} {v : Int32} : jKp σ (jsI σ g a v) := ⟨Nat.le_refl _, fun _ _ => ⟨rfl, rfl, fun _ _ => rfl⟩⟩
theorem jKp_R {g a : Nat} {v : Option Nat} : jKp σ (jsR σ g a v) := ⟨Nat.le_refl _, fun _ _ => ⟨rfl, rfl, fun _ _ => rfl⟩⟩
theorem jKp_G {a i : Nat} {v : Option Nat} : jKp σ (jsG σ a i v) := ⟨Nat.le_refl _, fun _ _ => ⟨rfl, rfl, fun _ _ => rfl⟩⟩
theorem jKp_A {a i : Nat} {v : Int32} (h : jT σ a ≠ 60) : jKp σ (jsA σ a i v) := ⟨Nat.le_refl _, fun b _ => ⟨rfl, rfl, fun hb j => by
  show (if b = a ∧ j = i then v else jA σ b j) = _
  have hn : ¬ (b = a ∧ j = i) := fun z => h (z.1 ▸ hb)
  rw [if_neg hn]⟩⟩
theorem jKp_cp {p sp q dp x : Nat} (h : jT σ q ≠ 60) : jKp σ (jcp σ p sp q dp x) := ⟨Nat.le_refl _, fun b _ => ⟨rfl, rfl, fun hb j => by
  show (if b = q then va_cpy (jA σ p) (jA σ q) sp dp x j else jA σ b j) = _
  have hn : ¬ b = q := fun z => h (z ▸ hb)
  rw [if_neg hn]⟩⟩
theorem jKp_nO {c k : Nat} : jKp σ (jnO σ c k) := ⟨Nat.le_succ _, fun b hb => ⟨by
  show (if b = jnx σ then 1 + c else jT σ b) = _
  rw [if_neg (Nat.ne_of_lt hb)], rfl, fun _ _ => rfl⟩⟩
theorem jKp_nA {c k : Nat} : jKp σ (jnA σ c k) := ⟨Nat.le_succ _, fun b hb => ⟨by
  show (if b = jnx σ then 20 + c else jT σ b) = _
  rw [if_neg (Nat.ne_of_lt hb)], by
  show (if b = jnx σ then k else jN σ b) = _
  rw [if_neg (Nat.ne_of_lt hb)], fun _ j => by
  show (if b = jnx σ then 0 else jA σ b j) = _
  rw [if_neg (Nat.ne_of_lt hb)]⟩⟩
theorem jKp_nG {c k : Nat} : jKp σ (jnG σ c k) := ⟨Nat.le_succ _, fun b hb => ⟨by
  show (if b = jnx σ then 30 + c else jT σ b) = _
  rw [if_neg (Nat.ne_of_lt hb)], by
  show (if b = jnx σ then k else jN σ b) = _
  rw [if_neg (Nat.ne_of_lt hb)], fun _ _ => rfl⟩⟩
theorem jput_k {a : Nat} {q : Nat × jL × List Value × jS} (h : jput n a L st σ = some (.inl q)) : jKp σ q.2.2.2 := by
  unfold jput at h
  repeat' (split at h)
  all_goals first | (simp only [jgo] at h; cases h; first | exact jKp_I | exact jKp_R) | cases h
theorem jcmd2_k {d op a b : Nat} {k : Int} (h25 : ¬ op < 25) (hop : op < 38) {q : Nat × jL × List Value × jS} (h : jcmd2 d op a b k n L st σ = some (.inl q)) : jKp σ q.2.2.2 := by
  rcases jop38 h25 hop with rfl | rfl | rfl | rfl | rfl | rfl | rfl | rfl | rfl | rfl | rfl | rfl | rfl <;> simp (decide := true) only [jcmd2, reduceIte, jgo] at h
  · (repeat' (split at h)) <;> first | (cases h; exact jKp.refl _) | cases h
  · exact jput_k h
  · exact jput_k h
  all_goals (repeat' (split at h)) <;> first | (cases h; exact jKp.refl _) | (cases h; exact jKp_nO) | (cases h; exact jKp_nA) | (cases h; exact jKp_nG) | (cases h; exact jKp_G) | (cases h; exact jKp_A (by omega)) | cases h
theorem jcmd4_k {d op a b : Nat} {k : Int} (h52 : ¬ op < 52) {q : Nat × jL × List Value × jS} (h : jcmd4 d op a b k n L st σ = some (.inl q)) : jKp σ q.2.2.2 := by
  rcases jop64 h52 with rfl | rfl | rfl | rfl | rfl | rfl | rfl | rfl | rfl | rfl | rfl | rfl | h63
  case inr.inr.inr.inr.inr.inr.inr.inr.inr.inr.inr.inr => rw [jcmd4_big h63] at h; cases h
  all_goals simp (decide := true) only [jcmd4, reduceIte, jgo] at h
  all_goals (repeat' (split at h)) <;> first | (cases h; exact jKp.refl _) | exact (jcall_m h).elim | (cases h; exact jKp_cp (by omega)) | cases h
theorem jcmd_k {d : Nat} {x : jE} {q : Nat × jL × List Value × jS} (h : jcmd d x L st σ = some (.inl q)) : jKp σ q.2.2.2 := by
  unfold jcmd at h
  split at h
  · rename_i h25
    rw [jcmd1_m h25 h]; exact jKp.refl _
  · rename_i h25
    split at h
    · rename_i h38
      exact jcmd2_k h25 h38 h
    · rename_i h38
      split at h
      · rw [jcmd3_m h38 h]; exact jKp.refl _
      · rename_i h52
        exact jcmd4_k h52 h
end KEEP
theorem jrn_k (f : Nat) : ∀ (d M pc : Nat) (L : jL) (st : List Value) (σ : jS) (r : Option Value × jS), jrn f d M pc L st σ = some r → jKp σ r.2 := by
  induction f with
  | zero => intro d M pc L st σ r h; cases h
  | succ f ih =>
    intro d M pc L st σ r h
    rw [jrn_s] at h
    rcases hc : jcmd d (jcode M pc) L st σ with _ | q | v | q
    · rw [hc] at h; cases h
    · rw [hc] at h
      exact (jcmd_k hc).trans (ih _ _ _ _ _ _ _ h)
    · rw [hc] at h
      cases h
      exact jKp.refl _
    · rw [hc] at h
      cases d with
      | zero => cases h
      | succ d =>
        obtain ⟨z, h1, h2⟩ := Option.bind_eq_some_iff.mp h
        exact (ih _ _ _ _ _ _ _ h1).trans (ih _ _ _ _ _ _ _ h2)
theorem jx_k {d M pc : Nat} {L : jL} {st : List Value} {σ : jS} {r : Option Value × jS} (h : jx d M pc L st σ = some r) : jKp σ r.2 := by
  obtain ⟨f, hf⟩ := jx_iff.mp h
  exact jrn_k f _ _ _ _ _ _ _ hf
