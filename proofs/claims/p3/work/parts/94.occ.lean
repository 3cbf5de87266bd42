/-! every register and every mark of a rule stands in its first side -/
theorem lk_occ {rs : List Nat} {l : Nat} {fs : Bool} {z : Nat × List Nat} (h : lk rs l fs = some z) : (∀ i, i < z.2.length → i < rs.length ∨ i = z.1) ∧ (fs = false → z.2 = rs) := by
  unfold lk at h
  split at h
  · cases h; exact ⟨fun i hi => Or.inl hi, fun _ => rfl⟩
  · split at h
    · rename_i hf
      cases h
      refine ⟨fun i hi => ?_, fun e => by rw [hf] at e; cases e⟩
      have hi : i < (rs ++ [l]).length := hi
      rw [List.length_append] at hi
      have : i < rs.length + 1 := hi
      show i < rs.length ∨ i = rs.length
      omega
    · cases h
theorem mRegR_occ {len : Nat} {b : Nat → Int32} {fs : Bool} {p : Nat} {rs : List Nat} {z : Nat × Nat × List Nat} (h : mRegR len b fs p rs = some z) : (∀ i, i < z.2.2.length → i < rs.length ∨ i = z.2.1) ∧ (fs = false → z.2.2 = rs) := by
  unfold mRegR at h
  obtain ⟨y, h1, h2⟩ := Option.bind_eq_some_iff.mp h
  obtain ⟨x, h3, h4⟩ := Option.map_eq_some_iff.mp h2
  have q := lk_occ h3
  subst h4
  exact q
theorem mRegsR_occ {len : Nat} {b : Nat → Int32} {fs : Bool} : ∀ (f j : Nat) (s s' : jPS), mRegsR len b fs f j s = some s' → (∀ i, i < s'.2.1.length → i < s.2.1.length ∨ ∃ t, j ≤ t ∧ t < j + f ∧ s'.2.2.2 (t + 1) = nI i) ∧ (fs = false → s'.2.1 = s.2.1) := by
  intro f
  induction f with
  | zero => intro j s s' h; cases h; exact ⟨fun i hi => Or.inl hi, fun _ => rfl⟩
  | succ f ih =>
    intro j s s' h
    obtain ⟨p1, _, h2⟩ := Option.bind_eq_some_iff.mp h
    obtain ⟨z, h3, h4⟩ := Option.bind_eq_some_iff.mp h2
    obtain ⟨o1, o2⟩ := mRegR_occ h3
    obtain ⟨q1, q2⟩ := ih _ _ _ h4
    refine ⟨fun i hi => ?_, fun e => (q2 e).trans (o2 e)⟩
    rcases q1 i hi with q | ⟨t, t1, t2, t3⟩
    · rcases o1 i q with w | w
      · exact Or.inl w
      · refine Or.inr ⟨j, Nat.le_refl _, by omega, ?_⟩
        rw [(mRegsR_keep _ _ _ _ h4).2 (j + 1) (Or.inl (Nat.le_refl _)), w]
        show (if j + 1 = j + 1 then nI z.2.1 else _) = _
        rw [if_pos rfl]
    · exact Or.inr ⟨t, by omega, by omega, t3⟩
theorem mTermR_occ {len : Nat} {b : Nat → Int32} {W op : Nat} {fs : Bool} {p : Nat} {ms : List Nat} {rg : Nat → Int32} {z : Nat × List Nat × (Nat → Int32) × Int32} (h : mTermR len b W op fs p ms rg = some z) : ∀ i, i < z.2.1.length → i < ms.length ∨ z.2.2.2 = 16 + nI i := by
  unfold mTermR at h
  split at h
  · obtain ⟨x, h1, h2⟩ := Option.map_eq_some_iff.mp h
    subst h2
    exact fun i hi => Or.inl hi
  · obtain ⟨x, h1, h2⟩ := Option.map_eq_some_iff.mp h
    subst h2
    unfold mMark at h1
    obtain ⟨y, h3, h4⟩ := Option.bind_eq_some_iff.mp h1
    obtain ⟨u, h5, h6⟩ := Option.map_eq_some_iff.mp h4
    have q := (lk_occ h5).1
    subst h6
    intro i hi
    rcases q i hi with w | w
    · exact Or.inl w
    · exact Or.inr (by rw [w])
theorem mNumR_occ {len : Nat} {b : Nat → Int32} {W k : Nat} {s : jPS} {rg : Nat → Int32} {y : jPS × (Nat → Int32)} (h : mNumR len b W 0 k s rg = some y) : ∀ i, i < y.1.2.2.1.length → i < s.2.2.1.length ∨ (numN k = true ∧ y.1.2.2.2 2 = 16 + nI i) := by
  unfold mNumR at h
  split at h
  · rename_i hn
    obtain ⟨p1, h1, h2⟩ := Option.bind_eq_some_iff.mp h
    obtain ⟨z, h3, h5⟩ := Option.bind_eq_some_iff.mp h2
    rw [if_neg (fun q => absurd q.1 (by decide))] at h5
    have q := mTermR_occ h3
    cases h5
    intro i hi
    rcases q i hi with w | w
    · exact Or.inl w
    · exact Or.inr ⟨hn, w⟩
  · cases h
    exact fun i hi => Or.inl hi
def OCo (nr nm nr' nm' : Nat) (os : List (Nat → Int32)) : Prop := (∀ i, i < nr' → i < nr ∨ ∃ o, o ∈ os ∧ ∃ j, j < regN (opO o) ∧ o (j + 1) = nI i) ∧ (∀ i, i < nm' → i < nm ∨ ∃ o, o ∈ os ∧ numN (opO o) = true ∧ o 2 = 16 + nI i)
theorem mOrdS_occ {len : Nat} {b : Nat → Int32} {W n : Nat} {s : jPS} {rg : Nat → Int32} {y : jPS × (Nat → Int32)} (h : mOrdS len b W 0 n s rg = some y) : OCo s.2.1.length s.2.2.1.length y.1.2.1.length y.1.2.2.1.length [y.1.2.2.2] := by
  obtain ⟨k, s2, hk, e1, e2, e3, e4, e5⟩ := mOrdS_pre h
  obtain ⟨d1, d2⟩ := mNumR_keep e5
  have ok : opO y.1.2.2.2 = k := by
    unfold opO
    rw [d2 0 (Or.inl rfl), e2]
    exact nI_clamp (by omega)
  refine ⟨fun i hi => ?_, fun i hi => ?_⟩
  · rw [d1] at hi
    rcases (mRegsR_occ _ _ _ _ e4).1 i hi with w | ⟨t, t1, t2, t3⟩
    · exact Or.inl w
    · refine Or.inr ⟨_, List.mem_singleton.mpr rfl, t, by rw [ok]; omega, ?_⟩
      rw [← t3]
      by_cases hn : numN k = true
      · have := numN1 hn
        exact d2 (t + 1) (Or.inr (Or.inl (by omega)))
      · exact d2 (t + 1) (Or.inr (Or.inr (Or.inr hn)))
  · rcases mNumR_occ e5 i hi with w | w
    · rw [e1] at w; exact Or.inl w
    · exact Or.inr ⟨_, List.mem_singleton.mpr rfl, by rw [ok]; exact w.1, w.2⟩
theorem mSide_occ {len : Nat} {b : Nat → Int32} {W : Nat} : ∀ (f n : Nat) (s : jPS) (rg : Nat → Int32) (z : List (Nat → Int32) × jPS × (Nat → Int32)), mSide len b W 0 f n s rg = some z → OCo s.2.1.length s.2.2.1.length z.2.1.2.1.length z.2.1.2.2.1.length z.1 := by
  intro f
  induction f with
  | zero => intro n s rg z h; cases h
  | succ f ih =>
    intro n s rg z h
    unfold mSide at h
    obtain ⟨y, h1, h2⟩ := Option.bind_eq_some_iff.mp h
    obtain ⟨a1, a2⟩ := mOrdS_occ h1
    split at h2
    · obtain ⟨w, h3, h4⟩ := Option.map_eq_some_iff.mp h2
      obtain ⟨c1, c2⟩ := ih (n + 1) (sk len b (sk len b y.1.1 + 1), y.1.2) y.2 w h3
      subst h4
      refine ⟨fun i hi => ?_, fun i hi => ?_⟩
      · rcases c1 i hi with q | ⟨o, ho, r⟩
        · rcases a1 i q with q | ⟨o, ho, r⟩
          · exact Or.inl q
          · exact Or.inr ⟨o, by rw [List.mem_singleton] at ho; rw [ho]; exact List.mem_cons_self, r⟩
        · exact Or.inr ⟨o, List.mem_cons_of_mem _ ho, r⟩
      · rcases c2 i hi with q | ⟨o, ho, r⟩
        · rcases a2 i q with q | ⟨o, ho, r⟩
          · exact Or.inl q
          · exact Or.inr ⟨o, by rw [List.mem_singleton] at ho; rw [ho]; exact List.mem_cons_self, r⟩
        · exact Or.inr ⟨o, List.mem_cons_of_mem _ ho, r⟩
    · cases h2
      exact ⟨a1, a2⟩
theorem mSide_rs {len : Nat} {b : Nat → Int32} {W : Nat} : ∀ (f n : Nat) (s : jPS) (rg : Nat → Int32) (z : List (Nat → Int32) × jPS × (Nat → Int32)), mSide len b W 1 f n s rg = some z → z.2.1.2.1 = s.2.1 := by
  intro f
  induction f with
  | zero => intro n s rg z h; cases h
  | succ f ih =>
    intro n s rg z h
    unfold mSide at h
    obtain ⟨y, h1, h2⟩ := Option.bind_eq_some_iff.mp h
    obtain ⟨k, s2, hk, e1, e2, e3, e4, e5⟩ := mOrdS_pre h1
    have q : y.1.2.1 = s.2.1 := by rw [(mNumR_keep e5).1, (mRegsR_occ _ _ _ _ e4).2 rfl]
    split at h2
    · obtain ⟨w, h3, h4⟩ := Option.map_eq_some_iff.mp h2
      have c := ih _ _ _ _ h3
      subst h4
      exact c.trans q
    · cases h2
      exact q
theorem mRule_occ {len : Nat} {b : Nat → Int32} {W : Nat} {rg0 : Nat → Int32} {o1 o2 : List (Nat → Int32)} {rs ms : List Nat} {rg : Nat → Int32} (h : mRule len b W rg0 = some (o1, o2, rs, ms, rg)) : OCC rs.length ms.length o1 := by
  rw [mRule_eq] at h
  obtain ⟨z, h1, h2⟩ := Option.bind_eq_some_iff.mp h
  obtain ⟨z0, h3, h4⟩ := Option.bind_eq_some_iff.mp h1
  obtain ⟨a1, a2⟩ := mSide_occ 5 0 (sk len b 0, [], [], fun _ => 0) rg0 z0 h3
  have A : OCC z0.2.1.2.1.length z0.2.1.2.2.1.length z0.1 := ⟨fun i hi => (a1 i hi).elim (fun q => absurd q (Nat.not_lt_zero i)) id, fun i hi => (a2 i hi).elim (fun q => absurd q (Nat.not_lt_zero i)) id⟩
  have ez : z.1 = z0.1 ∧ z.2.1.2 = z0.2.1.2 ∧ z.2.2 = z0.2.2 := by
    unfold mCl at h4
    rw [if_pos rfl] at h4
    split at h4
    · cases h4; exact ⟨rfl, rfl, rfl⟩
    · cases h4
  split at h2
  · cases h2
    rw [ez.1, ez.2.1]
    exact A
  · obtain ⟨y, h5, h6⟩ := Option.map_eq_some_iff.mp h2
    obtain ⟨y0, h7, h8⟩ := Option.bind_eq_some_iff.mp h5
    have ey : y = y0 := by
      unfold mCl at h8
      rw [if_neg (by decide)] at h8
      split at h8
      · cases h8; rfl
      · cases h8
    subst ey
    rw [ez.2.1, ez.2.2] at h7
    obtain ⟨d1, _⟩ := mSide_rg 5 0 _ _ _ h7
    have d1 : y.2.1.2.2.1 = z0.2.1.2.2.1 := d1
    have d3 := mSide_rs 5 0 _ _ _ h7
    have d3 : y.2.1.2.1 = z0.2.1.2.1 := d3
    cases h6
    rw [ez.1, d1, d3]
    exact A
