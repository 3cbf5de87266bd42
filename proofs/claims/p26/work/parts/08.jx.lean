/-! the run without its fuel -/
def jbnd (go : Nat → Nat → Nat → jL → List Value → jS → jr) (d M : Nat) (L : jL) (σ : jS) (o : Option jO) : jr := match o with
  | none => none
  | some (.inl q) => go d M q.1 q.2.1 q.2.2.1 q.2.2.2
  | some (.inr (.inl v)) => some (v, σ)
  | some (.inr (.inr q)) => match d with
    | 0 => none
    | d' + 1 => (go d' q.1 0 (jent q.1 q.2.1) [] σ).bind (fun z => go (d' + 1) M q.2.2.1 L (z.1.toList ++ q.2.2.2) z.2)
def jrn : Nat → Nat → Nat → Nat → jL → List Value → jS → jr
  | 0 => fun _ _ _ _ _ _ => none
  | f + 1 => fun d M pc L st σ => jbnd (jrn f) d M L σ (jcmd d (jcode M pc) L st σ)
theorem jrn_s (f d M pc : Nat) (L : jL) (st : List Value) (σ : jS) : jrn (f + 1) d M pc L st σ = jbnd (jrn f) d M L σ (jcmd d (jcode M pc) L st σ) := rfl
theorem jbnd_mono {go go' : Nat → Nat → Nat → jL → List Value → jS → jr} (h : ∀ d M pc L st σ r, go d M pc L st σ = some r → go' d M pc L st σ = some r) (d M : Nat) (L : jL) (σ : jS) (o : Option jO) (r : Option Value × jS) (hr : jbnd go d M L σ o = some r) : jbnd go' d M L σ o = some r := by
  rcases o with _ | q | v | q
  · exact hr
  · exact h _ _ _ _ _ _ _ hr
  · exact hr
  · cases d with
    | zero => exact hr
    | succ d =>
      obtain ⟨z, h1, h2⟩ := Option.bind_eq_some_iff.mp hr
      exact Option.bind_eq_some_iff.mpr ⟨z, h _ _ _ _ _ _ _ h1, h _ _ _ _ _ _ _ h2⟩
theorem jrn_1 (f : Nat) : ∀ d M pc L st σ r, jrn f d M pc L st σ = some r → jrn (f + 1) d M pc L st σ = some r := by
  induction f with
  | zero => intro d M pc L st σ r h; cases h
  | succ f ih => intro d M pc L st σ r h; exact jbnd_mono ih _ _ _ _ _ _ h
theorem jrn_le {f g : Nat} (hfg : f ≤ g) : ∀ d M pc L st σ r, jrn f d M pc L st σ = some r → jrn g d M pc L st σ = some r := by
  induction g with
  | zero => intro d M pc L st σ r h; rw [Nat.le_zero.mp hfg] at h; exact h
  | succ g ih =>
    intro d M pc L st σ r h
    rcases Nat.lt_or_ge f (g + 1) with q | q
    · exact jrn_1 _ _ _ _ _ _ _ _ (ih (by omega) _ _ _ _ _ _ _ h)
    · rw [show g + 1 = f by omega]; exact h
noncomputable def jx (d M pc : Nat) (L : jL) (st : List Value) (σ : jS) : jr :=
  @dite jr (∃ r, ∃ f, jrn f d M pc L st σ = some r) (Classical.propDecidable _) (fun h => some (Classical.choose h)) (fun _ => none)
theorem jx_iff {d M pc : Nat} {L : jL} {st : List Value} {σ : jS} {r : Option Value × jS} : jx d M pc L st σ = some r ↔ ∃ f, jrn f d M pc L st σ = some r := by
  unfold jx
  by_cases h : ∃ r, ∃ f, jrn f d M pc L st σ = some r
  · rw [dif_pos h]
    obtain ⟨f0, h0⟩ := Classical.choose_spec h
    constructor
    · intro e
      cases e
      exact ⟨f0, h0⟩
    · rintro ⟨f, hf⟩
      have a := jrn_le (Nat.le_max_left f0 f) _ _ _ _ _ _ _ h0
      have b := jrn_le (Nat.le_max_right f0 f) _ _ _ _ _ _ _ hf
      rw [a] at b
      exact b
  · rw [dif_neg h]
    constructor
    · intro e; cases e
    · rintro ⟨f, hf⟩; exact absurd ⟨r, f, hf⟩ h
theorem jx_of {f d M pc : Nat} {L : jL} {st : List Value} {σ : jS} {r : Option Value × jS} (h : jrn f d M pc L st σ = some r) : jx d M pc L st σ = some r := jx_iff.mpr ⟨f, h⟩
theorem jx_un (d M pc : Nat) (L : jL) (st : List Value) (σ : jS) : jx d M pc L st σ = jbnd jx d M L σ (jcmd d (jcode M pc) L st σ) := by
  apply Option.ext
  intro r
  rw [jx_iff]
  constructor
  · rintro ⟨f, hf⟩
    cases f with
    | zero => cases hf
    | succ f => exact jbnd_mono (fun d M pc L st σ r h => jx_of h) _ _ _ _ _ _ hf
  · intro h
    rcases hc : jcmd d (jcode M pc) L st σ with _ | q | v | q
    · rw [hc] at h; cases h
    · rw [hc] at h
      obtain ⟨f, hf⟩ := jx_iff.mp h
      exact ⟨f + 1, by rw [jrn_s, hc]; exact hf⟩
    · rw [hc] at h
      exact ⟨1, by rw [jrn_s, hc]; exact h⟩
    · rw [hc] at h
      cases d with
      | zero => cases h
      | succ d =>
        obtain ⟨z, h1, h2⟩ := Option.bind_eq_some_iff.mp h
        obtain ⟨f1, e1⟩ := jx_iff.mp h1
        obtain ⟨f2, e2⟩ := jx_iff.mp h2
        refine ⟨max f1 f2 + 1, ?_⟩
        rw [jrn_s, hc]
        exact Option.bind_eq_some_iff.mpr ⟨z, jrn_le (Nat.le_max_left _ _) _ _ _ _ _ _ _ e1, jrn_le (Nat.le_max_right _ _) _ _ _ _ _ _ _ e2⟩
