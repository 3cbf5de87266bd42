section S_56
/-! both readers accept the same rules: sides and rules whole -/
def mCl (len : Nat) (b : Nat → Int32) (sd : Nat) (y : List (Nat → Int32) × jPS × (Nat → Int32)) : Option (List (Nat → Int32) × jPS × (Nat → Int32)) :=
  if sd = 0 then (if tv len b y.2.1.1 = 61 ∧ tv len b (y.2.1.1 + 1) = 62 then some (y.1, (y.2.1.1 + 2, y.2.1.2), y.2.2) else none) else (if len ≤ y.2.1.1 then some y else none)
def sdR (W : Nat) : Option (List (Nat → Int32) × jPS) → Option (List (Nat → Int32) × jPS × (Nat → Int32)) → Prop
  | some z, some y => z.1 = y.1.map (keepF W) ∧ z.2.1 = y.2.1.1 ∧ z.2.2.1 = y.2.1.2.1 ∧ z.2.2.2.1 = y.2.1.2.2.1
  | none, none => True
  | _, _ => False
theorem mCl_cons {len : Nat} {b : Nat → Int32} {sd : Nat} {o : Nat → Int32} {X : Option (List (Nat → Int32) × jPS × (Nat → Int32))} : (X.map (fun z => (o :: z.1, z.2))).bind (mCl len b sd) = (X.bind (mCl len b sd)).map (fun z => (o :: z.1, z.2)) := by
  cases X with
  | none => rfl
  | some y =>
    rw [Option.map_some, Option.bind_some, Option.bind_some]
    unfold mCl
    by_cases h0 : sd = 0
    · rw [if_pos h0, if_pos h0]
      by_cases h : tv len b y.2.1.1 = 61 ∧ tv len b (y.2.1.1 + 1) = 62
      · rw [if_pos h, if_pos h]; rfl
      · rw [if_neg h, if_neg h]; rfl
    · rw [if_neg h0, if_neg h0]
      by_cases h : len ≤ y.2.1.1
      · rw [if_pos h, if_pos h]; rfl
      · rw [if_neg h, if_neg h]; rfl
def sTail (len : Nat) (b : Nat → Int32) (m W most f n : Nat) (s3 : jPS) : Option (List (Nat → Int32) × jPS) := match sClose len b m (sk len b s3.1) with | some p => some ([s3.2.2.2], (p, s3.2)) | none => if tv len b (sk len b s3.1) = 59 then (sOrds len b m W most f (n + 1) (sk len b (sk len b s3.1 + 1), s3.2)).map (fun z => (s3.2.2.2 :: z.1, z.2)) else none
theorem sOrds_tail {len m W most f n : Nat} {b : Nat → Int32} {s : jPS} : sOrds len b m W most (f + 1) n s = (sOrdC len b m W most n s).bind (sTail len b m W most f n) := sOrds_eq
theorem sTail_some {len m W most f n : Nat} {b : Nat → Int32} {s : jPS} {p : Nat} (h : sClose len b m (sk len b s.1) = some p) : sTail len b m W most f n s = some ([s.2.2.2], (p, s.2)) := by
  unfold sTail
  rw [h]
theorem sTail_none {len m W most f n : Nat} {b : Nat → Int32} {s : jPS} (h : sClose len b m (sk len b s.1) = none) : sTail len b m W most f n s = if tv len b (sk len b s.1) = 59 then (sOrds len b m W most f (n + 1) (sk len b (sk len b s.1 + 1), s.2)).map (fun z => (s.2.2.2 :: z.1, z.2)) else none := by
  unfold sTail
  rw [h]
theorem sides_same {len : Nat} {b : Nat → Int32} (hB : BY len b) {W sd : Nat} (hsd : sd = 0 ∨ sd = 1) : ∀ (f n : Nat) (s s' : jPS) (rg : Nat → Int32), n + f ≤ 5 → s.1 = s'.1 → s.2.1 = s'.2.1 → s.2.2.1 = s'.2.2.1 →
    sdR W (sOrds len b (sd + 1) W 4 f n s) ((mSide len b W sd f n s' rg).bind (mCl len b sd)) := by
  intro f
  induction f with
  | zero => intro n s s' rg _ _ _ _; trivial
  | succ f ih =>
    intro n s s' rg hn e1 e2 e3
    rw [sOrds_tail]
    unfold mSide
    have A := ordR_agr hB (W := W) hsd (n := n) (by omega) s s' rg e1 e2 e3
    have hm1 : (sd + 1 = 1) ↔ sd = 0 := by omega
    have clS : ∀ p, sClose len b (sd + 1) p = if sd = 0 then (if tv len b p = 61 ∧ tv len b (p + 1) = 62 then some (p + 2) else none) else (if len ≤ p then some p else none) := by
      intro p
      unfold sClose
      by_cases h : sd = 0
      · rw [if_pos (hm1.mpr h), if_pos h]
      · rw [if_neg (fun z => h (hm1.mp z)), if_neg h]
    have tailS : ∀ x : jPS, bad (tv len b x.1) → sTail len b (sd + 1) W 4 f n x = none := by
      intro x hx
      obtain ⟨q1, q2, q3, q4⟩ := bad_tail hx
      have e : sClose len b (sd + 1) (sk len b x.1) = none := by
        rw [clS, q1]
        by_cases h : sd = 0
        · rw [if_pos h, if_neg (fun z => q4 z.1)]
        · rw [if_neg h, if_neg q2]
      rw [sTail_none e, q1]
      exact if_neg q3
    have tailM : ∀ y : jPS × (Nat → Int32), bad (tv len b y.1.1) → ((if tv len b (sk len b y.1.1) = 59 then (mSide len b W sd f (n + 1) (sk len b (sk len b y.1.1 + 1), y.1.2) y.2).map (fun z => (y.1.2.2.2 :: z.1, z.2)) else some ([y.1.2.2.2], (sk len b y.1.1, y.1.2), y.2)).bind (mCl len b sd)) = none := by
      intro y hy
      obtain ⟨q1, q2, q3, q4⟩ := bad_tail hy
      rw [q1, if_neg q3, Option.bind_some]
      unfold mCl
      by_cases h : sd = 0
      · rw [if_pos h, if_neg (fun z => q4 z.1)]
      · rw [if_neg h, if_neg q2]
    cases hS : sOrdC len b (sd + 1) W 4 n s with
    | none =>
      cases hM : mOrdS len b W sd n s' rg with
      | none => trivial
      | some y =>
        rw [hS, hM] at A
        rw [Option.bind_none, Option.bind_some, tailM y A]
        trivial
    | some x =>
      cases hM : mOrdS len b W sd n s' rg with
      | none =>
        rw [hS, hM] at A
        rw [Option.bind_none, Option.bind_none, Option.bind_some, tailS x A]
        trivial
      | some y =>
        rw [hS, hM] at A
        obtain ⟨h1, h2, h3, h4⟩ := A
        rw [Option.bind_some, Option.bind_some, ← h1]
        by_cases h59 : tv len b (sk len b x.1) = 59
        · have e : sClose len b (sd + 1) (sk len b x.1) = none := by
            rw [clS]
            by_cases h : sd = 0
            · rw [if_pos h, if_neg (fun z => by rw [h59] at z; exact absurd z.1 (by decide))]
            · rw [if_neg h, if_neg (fun z => by rw [tv_out z] at h59; exact absurd h59 (by decide))]
          rw [sTail_none e, if_pos h59, if_pos h59, mCl_cons]
          have I := ih (n + 1) (sk len b (sk len b x.1 + 1), x.2) (sk len b (sk len b x.1 + 1), y.1.2) y.2 (by omega) rfl h2 h3
          cases hS2 : sOrds len b (sd + 1) W 4 f (n + 1) (sk len b (sk len b x.1 + 1), x.2) with
          | none =>
            cases hM2 : (mSide len b W sd f (n + 1) (sk len b (sk len b x.1 + 1), y.1.2) y.2).bind (mCl len b sd) with
            | none => trivial
            | some w => rw [hS2, hM2] at I; exact I.elim
          | some z =>
            cases hM2 : (mSide len b W sd f (n + 1) (sk len b (sk len b x.1 + 1), y.1.2) y.2).bind (mCl len b sd) with
            | none => rw [hS2, hM2] at I; exact I.elim
            | some w =>
              rw [hS2, hM2] at I
              obtain ⟨I1, I2⟩ := I
              refine ⟨?_, I2⟩
              show x.2.2.2 :: z.1 = keepF W y.1.2.2.2 :: w.1.map (keepF W)
              rw [h4, I1]
        · rw [if_neg h59, Option.bind_some]
          unfold mCl
          by_cases h : sd = 0
          · have c0 : sClose len b (sd + 1) (sk len b x.1) = if tv len b (sk len b x.1) = 61 ∧ tv len b (sk len b x.1 + 1) = 62 then some (sk len b x.1 + 2) else none := by rw [clS, if_pos h]
            rw [if_pos h]
            by_cases hc : tv len b (sk len b x.1) = 61 ∧ tv len b (sk len b x.1 + 1) = 62
            · rw [if_pos hc] at c0
              rw [sTail_some c0, if_pos hc]
              exact ⟨by show [x.2.2.2] = [keepF W y.1.2.2.2]; rw [h4], rfl, h2, h3⟩
            · rw [if_neg hc] at c0
              rw [sTail_none c0, if_neg h59, if_neg hc]
              trivial
          · have c0 : sClose len b (sd + 1) (sk len b x.1) = if len ≤ sk len b x.1 then some (sk len b x.1) else none := by rw [clS, if_neg h]
            rw [if_neg h]
            by_cases hc : len ≤ sk len b x.1
            · rw [if_pos hc] at c0
              rw [sTail_some c0, if_pos hc]
              exact ⟨by show [x.2.2.2] = [keepF W y.1.2.2.2]; rw [h4], rfl, h2, h3⟩
            · rw [if_neg hc] at c0
              rw [sTail_none c0, if_neg h59, if_neg hc]
              trivial
def ruR (W : Nat) : Option (List (Nat → Int32) × List (Nat → Int32) × List Nat × List Nat) → Option (List (Nat → Int32) × List (Nat → Int32) × List Nat × List Nat × (Nat → Int32)) → Prop
  | some z, some y => z.1 = y.1.map (keepF W) ∧ z.2.1 = y.2.1.map (keepF W) ∧ z.2.2.1 = y.2.2.1 ∧ z.2.2.2 = y.2.2.2.1
  | none, none => True
  | _, _ => False
theorem mRule_eq {len : Nat} {b : Nat → Int32} {W : Nat} {rg : Nat → Int32} : mRule len b W rg = ((mSide len b W 0 5 0 (sk len b 0, [], [], fun _ => 0) rg).bind (mCl len b 0)).bind (fun z => if len ≤ sk len b z.2.1.1 then some (z.1, [], z.2.1.2.1, z.2.1.2.2.1, z.2.2) else ((mSide len b W 1 5 0 (sk len b z.2.1.1, z.2.1.2) z.2.2).bind (mCl len b 1)).map (fun y => (z.1, y.1, y.2.1.2.1, y.2.1.2.2.1, y.2.2))) := by
  unfold mRule
  have e0 : mSideR len b W 0 (sk len b 0, [], [], fun _ => 0) rg = mSide len b W 0 5 0 (sk len b 0, [], [], fun _ => 0) rg := by
    unfold mSideR
    rw [if_neg (fun z => absurd z.1 (by decide))]
  rw [e0]
  cases mSide len b W 0 5 0 (sk len b 0, [], [], fun _ => 0) rg with
  | none => rfl
  | some z =>
    rw [Option.bind_some, Option.bind_some]
    have e1 : mCl len b 0 z = if tv len b z.2.1.1 = 61 ∧ tv len b (z.2.1.1 + 1) = 62 then some (z.1, (z.2.1.1 + 2, z.2.1.2), z.2.2) else none := by
      unfold mCl
      rw [if_pos rfl]
    rw [e1]
    by_cases hc : tv len b z.2.1.1 = 61 ∧ tv len b (z.2.1.1 + 1) = 62
    · rw [if_pos hc, if_pos hc, Option.bind_some]
      unfold mSideR
      by_cases he : len ≤ sk len b (z.2.1.1 + 2)
      · rw [if_pos he]
        rw [if_pos (show (1 : Nat) = 1 ∧ len ≤ (sk len b (z.2.1.1 + 2), z.2.1.2).1 from ⟨rfl, he⟩), Option.bind_some]
        rw [if_pos he]
      · rw [if_neg he]
        rw [if_neg (show ¬ ((1 : Nat) = 1 ∧ len ≤ (sk len b (z.2.1.1 + 2), z.2.1.2).1) from fun q => he q.2)]
        cases mSide len b W 1 5 0 (sk len b (z.2.1.1 + 2), z.2.1.2) z.2.2 with
        | none => rfl
        | some y =>
          rw [Option.bind_some, Option.bind_some]
          have e2 : mCl len b 1 y = if len ≤ y.2.1.1 then some y else none := by
            unfold mCl
            rw [if_neg (by decide)]
          rw [e2]
          by_cases hy : len ≤ y.2.1.1
          · rw [if_pos hy, if_pos hy]; rfl
          · rw [if_neg hy, if_neg hy]; rfl
    · rw [if_neg hc, if_neg hc]; rfl
theorem rules_same {len : Nat} {b : Nat → Int32} (hB : BY len b) (W : Nat) (rg : Nat → Int32) : ruR W (sRule len b W) (mRule len b W rg) := by
  rw [mRule_eq]
  unfold sRule
  have I := sides_same hB (W := W) (sd := 0) (Or.inl rfl) 5 0 (sk len b 0, [], [], fun _ => 0) (sk len b 0, [], [], fun _ => 0) rg (by decide) rfl rfl rfl
  have I : sdR W (sOrds len b 1 W 4 5 0 (sk len b 0, [], [], fun _ => 0)) ((mSide len b W 0 5 0 (sk len b 0, [], [], fun _ => 0) rg).bind (mCl len b 0)) := I
  cases hS : sOrds len b 1 W 4 5 0 (sk len b 0, [], [], fun _ => 0) with
  | none =>
    cases hM : (mSide len b W 0 5 0 (sk len b 0, [], [], fun _ => 0) rg).bind (mCl len b 0) with
    | none => trivial
    | some y => rw [hS, hM] at I; exact I.elim
  | some z =>
    cases hM : (mSide len b W 0 5 0 (sk len b 0, [], [], fun _ => 0) rg).bind (mCl len b 0) with
    | none => rw [hS, hM] at I; exact I.elim
    | some y =>
      rw [hS, hM] at I
      obtain ⟨I1, I2, I3, I4⟩ := I
      rw [Option.bind_some, Option.bind_some, I2]
      by_cases he : len ≤ sk len b y.2.1.1
      · rw [if_pos he, if_pos he]
        exact ⟨I1, rfl, I3, I4⟩
      · rw [if_neg he, if_neg he]
        have J := sides_same hB (W := W) (sd := 1) (Or.inr rfl) 5 0 (sk len b y.2.1.1, z.2.2.1, z.2.2.2.1, fun _ => 0) (sk len b y.2.1.1, y.2.1.2) y.2.2 (by decide) rfl I3 I4
        have J : sdR W (sOrds len b 2 W 4 5 0 (sk len b y.2.1.1, z.2.2.1, z.2.2.2.1, fun _ => 0)) ((mSide len b W 1 5 0 (sk len b y.2.1.1, y.2.1.2) y.2.2).bind (mCl len b 1)) := J
        cases hS2 : sOrds len b 2 W 4 5 0 (sk len b y.2.1.1, z.2.2.1, z.2.2.2.1, fun _ => 0) with
        | none =>
          cases hM2 : (mSide len b W 1 5 0 (sk len b y.2.1.1, y.2.1.2) y.2.2).bind (mCl len b 1) with
          | none => trivial
          | some w => rw [hS2, hM2] at J; exact J.elim
        | some v =>
          cases hM2 : (mSide len b W 1 5 0 (sk len b y.2.1.1, y.2.1.2) y.2.2).bind (mCl len b 1) with
          | none => rw [hS2, hM2] at J; exact J.elim
          | some w =>
            rw [hS2, hM2] at J
            obtain ⟨J1, J2, J3, J4⟩ := J
            exact ⟨I1, J1, J3, J4⟩
end S_56
section S_57
/-! what a rule that was read is like; the greatest numbers of its marks -/
def WFt (nm : Nat) (v : Int32) : Prop := (∃ u, u < 16 ∧ v = nI u) ∨ (∃ i, i < nm ∧ v = 16 + nI i)
def WFo (nr nm : Nat) (o : Nat → Int32) : Prop := ∃ k, k < 19 ∧ o 0 = nI k ∧ (∀ j, j < regN k → ∃ i, i < nr ∧ o (j + 1) = nI i) ∧ (numN k = true → WFt nm (o 2)) ∧ (o 4 = 0 ∨ (numN k = true ∧ isSg (o 4) ∧ WFt nm (o 5)))
theorem WFt.up {nm nm' : Nat} {v : Int32} (h : WFt nm v) (hm : nm ≤ nm') : WFt nm' v := by
  rcases h with h | ⟨i, h1, h2⟩
  · exact Or.inl h
  · exact Or.inr ⟨i, by omega, h2⟩
theorem WFo.up {nr nm nr' nm' : Nat} {o : Nat → Int32} (h : WFo nr nm o) (hr : nr ≤ nr') (hm : nm ≤ nm') : WFo nr' nm' o := by
  obtain ⟨k, h1, h2, h3, h4, h5⟩ := h
  refine ⟨k, h1, h2, fun j hj => ?_, fun hn => (h4 hn).up hm, ?_⟩
  · obtain ⟨i, a, c⟩ := h3 j hj
    exact ⟨i, by omega, c⟩
  · rcases h5 with h5 | ⟨a, c, d⟩
    · exact Or.inl h5
    · exact Or.inr ⟨a, c, d.up hm⟩
theorem lk_len {rs : List Nat} {l : Nat} {fs : Bool} {z : Nat × List Nat} (h : lk rs l fs = some z) : rs.length ≤ z.2.length := by
  unfold lk at h
  split at h
  · cases h; exact Nat.le_refl _
  · split at h
    · cases h; rw [List.length_append]; exact Nat.le_add_right _ _
    · cases h
def ivL (N : Nat) (rs : List Nat) : Prop := rs.Nodup ∧ ∀ x, x ∈ rs → x < N
theorem mRegR_wf {len : Nat} {b : Nat → Int32} {fs : Bool} {p : Nat} {rs : List Nat} {z : Nat × Nat × List Nat} (h : mRegR len b fs p rs = some z) : rs.length ≤ z.2.2.length := by
  unfold mRegR at h
  obtain ⟨y, h1, h2⟩ := Option.bind_eq_some_iff.mp h
  obtain ⟨x, h3, h4⟩ := Option.map_eq_some_iff.mp h2
  have q := lk_len h3
  subst h4
  exact q
theorem mRegsR_wf {len : Nat} {b : Nat → Int32} {fs : Bool} : ∀ (f j : Nat) (s s' : jPS), ivL 4 s.2.1 → mRegsR len b fs f j s = some s' → ivL 4 s'.2.1 ∧ s.2.1.length ≤ s'.2.1.length ∧ (∀ t, j ≤ t → t < j + f → ∃ i, i < s'.2.1.length ∧ s'.2.2.2 (t + 1) = nI i) := by
  intro f
  induction f with
  | zero => intro j s s' hi h; cases h; exact ⟨hi, Nat.le_refl _, fun t h1 h2 => by omega⟩
  | succ f ih =>
    intro j s s' hi h
    obtain ⟨p1, _, h2⟩ := Option.bind_eq_some_iff.mp h
    obtain ⟨z, h3, h4⟩ := Option.bind_eq_some_iff.mp h2
    obtain ⟨o1, o2, o3, o4⟩ := mRegR_ok hi.1 hi.2 h3
    have o5 := mRegR_wf h3
    obtain ⟨q1, q2, q3⟩ := ih _ _ _ ⟨o2, o3⟩ h4
    have q2 : z.2.2.length ≤ s'.2.1.length := q2
    refine ⟨q1, by omega, fun t h5 h6 => ?_⟩
    by_cases e : t = j
    · subst e
      refine ⟨z.2.1, by omega, ?_⟩
      rw [(mRegsR_keep _ _ _ _ h4).2 (t + 1) (Or.inl (Nat.le_refl _))]
      show (if t + 1 = t + 1 then nI z.2.1 else _) = _
      rw [if_pos rfl]
    · exact q3 t (by omega) (by omega)
theorem mTermR_wf {len : Nat} {b : Nat → Int32} {W op : Nat} {fs : Bool} {p : Nat} {ms : List Nat} {rg : Nat → Int32} {z : Nat × List Nat × (Nat → Int32) × Int32} (hi : ivL 3 ms) (h : mTermR len b W op fs p ms rg = some z) : ivL 3 z.2.1 ∧ ms.length ≤ z.2.1.length ∧ WFt z.2.1.length z.2.2.2 := by
  unfold mTermR at h
  split at h
  · obtain ⟨x, h1, h2⟩ := Option.map_eq_some_iff.mp h
    subst h2
    obtain ⟨v, hv, ev⟩ := mNum_nat h1
    exact ⟨hi, Nat.le_refl _, Or.inl ⟨v, hv, ev⟩⟩
  · obtain ⟨x, h1, h2⟩ := Option.map_eq_some_iff.mp h
    subst h2
    obtain ⟨o1, o2, o3, o4⟩ := mMark_ok hi.1 hi.2 h1
    refine ⟨⟨o2, o3⟩, ?_, Or.inr ⟨x.2.1, o4, rfl⟩⟩
    unfold mMark at h1
    obtain ⟨y, h3, h4⟩ := Option.bind_eq_some_iff.mp h1
    obtain ⟨u, h5, h6⟩ := Option.map_eq_some_iff.mp h4
    have q := lk_len h5
    subst h6
    exact q
theorem mNumR_wf {len : Nat} {b : Nat → Int32} {W sd k : Nat} {s : jPS} {rg : Nat → Int32} {y : jPS × (Nat → Int32)} (hi : ivL 3 s.2.2.1) (h4 : s.2.2.2 4 = 0) (h : mNumR len b W sd k s rg = some y) : ivL 3 y.1.2.2.1 ∧ s.2.2.1.length ≤ y.1.2.2.1.length ∧ (numN k = true → WFt y.1.2.2.1.length (y.1.2.2.2 2)) ∧ (y.1.2.2.2 4 = 0 ∨ (numN k = true ∧ isSg (y.1.2.2.2 4) ∧ WFt y.1.2.2.1.length (y.1.2.2.2 5))) := by
  unfold mNumR at h
  split at h
  · rename_i hn
    obtain ⟨p1, h1, h2⟩ := Option.bind_eq_some_iff.mp h
    obtain ⟨z, h3, h5⟩ := Option.bind_eq_some_iff.mp h2
    obtain ⟨q1, q2, q3⟩ := mTermR_wf hi h3
    split at h5
    · rename_i hs
      obtain ⟨x, h6, h7⟩ := Option.map_eq_some_iff.mp h5
      obtain ⟨u1, u2, u3⟩ := mTermR_wf q1 h6
      subst h7
      exact ⟨u1, Nat.le_trans q2 u2, fun _ => q3.up u2, Or.inr ⟨hn, hs.2, u3⟩⟩
    · cases h5
      exact ⟨q1, q2, fun _ => q3, Or.inl h4⟩
  · rename_i hn
    cases h
    exact ⟨hi, Nat.le_refl _, fun q => absurd q hn, Or.inl h4⟩
theorem mOrdS_wf {len : Nat} {b : Nat → Int32} {W sd n : Nat} {s : jPS} {rg : Nat → Int32} {y : jPS × (Nat → Int32)} (hr : ivL 4 s.2.1) (hi : ivL 3 s.2.2.1) (h : mOrdS len b W sd n s rg = some y) : ivL 4 y.1.2.1 ∧ ivL 3 y.1.2.2.1 ∧ s.2.1.length ≤ y.1.2.1.length ∧ s.2.2.1.length ≤ y.1.2.2.1.length ∧ WFo y.1.2.1.length y.1.2.2.1.length y.1.2.2.2 := by
  unfold mOrdS at h
  obtain ⟨z, h1, h2⟩ := Option.bind_eq_some_iff.mp h
  obtain ⟨s2, h3, h4⟩ := Option.bind_eq_some_iff.mp h2
  obtain ⟨⟨k, hk, zk⟩, -, -, -⟩ := mName_ok h1
  have kc : z.1.toNatClampNeg = k := by rw [zk]; exact nI_clamp (by omega)
  rw [kc] at h3 h4
  obtain ⟨a1, a2, a3⟩ := mRegsR_wf (regN k) 0 (z.2, s.2.1, s.2.2.1, fun j => if j = 0 then z.1 else 0) s2 hr h3
  obtain ⟨km, kf⟩ := mRegsR_keep _ _ _ _ h3
  have km' : s2.2.2.1 = s.2.2.1 := km
  have kf0 : s2.2.2.2 0 = z.1 := kf 0 (Or.inl (Nat.le_refl 0))
  have kf4 : s2.2.2.2 4 = 0 := kf 4 (Or.inr (by have := regN3 k; omega))
  obtain ⟨c1, c2, c3, c4⟩ := mNumR_wf (by rw [km']; exact hi) kf4 h4
  obtain ⟨d1, d2⟩ := mNumR_keep h4
  rw [km'] at c2
  refine ⟨by rw [d1]; exact a1, c1, by rw [d1]; exact a2, c2, k, hk, by rw [d2 0 (Or.inl rfl), kf0, zk], fun j hj => ?_, c3, c4⟩
  obtain ⟨i, e1, e2⟩ := a3 j (Nat.zero_le j) (by omega)
  refine ⟨i, by rw [d1]; exact e1, ?_⟩
  rw [← e2]
  by_cases hn : numN k = true
  · have := numN1 hn
    exact d2 (j + 1) (Or.inr (Or.inl (by omega)))
  · exact d2 (j + 1) (Or.inr (Or.inr (Or.inr hn)))
theorem mSide_wf {len : Nat} {b : Nat → Int32} {W sd : Nat} : ∀ (f n : Nat) (s : jPS) (rg : Nat → Int32) (z : List (Nat → Int32) × jPS × (Nat → Int32)), ivL 4 s.2.1 → ivL 3 s.2.2.1 → mSide len b W sd f n s rg = some z → ivL 4 z.2.1.2.1 ∧ ivL 3 z.2.1.2.2.1 ∧ s.2.1.length ≤ z.2.1.2.1.length ∧ s.2.2.1.length ≤ z.2.1.2.2.1.length ∧ ∀ o, o ∈ z.1 → WFo z.2.1.2.1.length z.2.1.2.2.1.length o := by
  intro f
  induction f with
  | zero => intro n s rg z _ _ h; cases h
  | succ f ih =>
    intro n s rg z hr hi h
    unfold mSide at h
    obtain ⟨y, h1, h2⟩ := Option.bind_eq_some_iff.mp h
    obtain ⟨a1, a2, a3, a4, a5⟩ := mOrdS_wf hr hi h1
    split at h2
    · obtain ⟨w, h3, h4⟩ := Option.map_eq_some_iff.mp h2
      obtain ⟨c1, c2, c3, c4, c5⟩ := ih (n + 1) (sk len b (sk len b y.1.1 + 1), y.1.2) y.2 w a1 a2 h3
      subst h4
      refine ⟨c1, c2, Nat.le_trans a3 c3, Nat.le_trans a4 c4, fun o ho => ?_⟩
      rcases List.mem_cons.mp ho with e | e
      · rw [e]; exact a5.up c3 c4
      · exact c5 o e
    · cases h2
      refine ⟨a1, a2, a3, a4, fun o ho => ?_⟩
      rw [List.mem_singleton] at ho
      rw [ho]; exact a5
/-- the greatest number that each mark can be, an order more -/
def stepT (W : Nat) (a : Nat → Int32) (o : Nat → Int32) : Nat → Int32 := fun j => if numN (o 0).toNatClampNeg = true ∧ o 2 = 16 + nI j then (if bdM W (o 0).toNatClampNeg < a j then bdM W (o 0).toNatClampNeg else a j) else a j
def topI (W : Nat) : Nat → Int32 := fun _ => 4 + (1 : Int32) <<< (nI W &&& 31)
def TPi (W : Nat) (a : Nat → Int32) (ms : List Nat) (rg : Nat → Int32) : Prop := (∀ j, j < ms.length → rg j = a j) ∧ ∀ j, ms.length ≤ j → j < 3 → a j = topI W j
theorem bd_lt {W k : Nat} (hW : W = 1 ∨ W = 2 ∨ W = 3) (hn : numN k = true) : bdM W k < topI W 0 := by
  have H : ∀ W, W ∈ [1, 2, 3] → ∀ k, k ∈ [0, 12, 13, 15, 16] → bdM W k < topI W 0 := by decide
  refine H W (by simpa using hW) k ?_
  simpa [numN, or_assoc] using hn
theorem n16 : ∀ u, u < 16 → ∀ j, j < 3 → ¬ nI u = 16 + nI j := by decide
theorem n1616 : ∀ i, i < 3 → ∀ j, j < 3 → (16 : Int32) + nI i = 16 + nI j → i = j := by decide
theorem mTermR_top {len : Nat} {b : Nat → Int32} {W op : Nat} (hW : W = 1 ∨ W = 2 ∨ W = 3) (hn : numN op = true) {p : Nat} {ms : List Nat} {rg a : Nat → Int32} {z : Nat × List Nat × (Nat → Int32) × Int32} (hi : ivL 3 ms) (hT : TPi W a ms rg) (h : mTermR len b W op true p ms rg = some z) : TPi W (fun j => if z.2.2.2 = 16 + nI j then (if bdM W op < a j then bdM W op else a j) else a j) z.2.1 z.2.2.1 := by
  unfold mTermR at h
  split at h
  · obtain ⟨x, h1, h2⟩ := Option.map_eq_some_iff.mp h
    subst h2
    obtain ⟨v, hv, ev⟩ := mNum_nat h1
    have lm : ms.length ≤ 3 := nodup_le 3 _ hi.1 hi.2
    refine ⟨fun j hj => ?_, fun j h1 h3 => ?_⟩
    · show rg j = if x.1 = _ then _ else _
      rw [ev, if_neg (n16 v hv j (by have : j < ms.length := hj; omega))]; exact hT.1 j hj
    · show (if x.1 = _ then _ else _) = _
      rw [ev, if_neg (n16 v hv j h3)]; exact hT.2 j h1 h3
  · obtain ⟨x, h1, h2⟩ := Option.map_eq_some_iff.mp h
    obtain ⟨o1, o2, o3, o4⟩ := mMark_ok hi.1 hi.2 h1
    have l3 := nodup_le 3 _ o2 o3
    subst h2
    unfold mMark at h1
    obtain ⟨y, h3, h4⟩ := Option.bind_eq_some_iff.mp h1
    obtain ⟨u, h5, h6⟩ := Option.map_eq_some_iff.mp h4
    subst h6
    have l3 : u.2.length ≤ 3 := l3
    have o4 : u.1 < u.2.length := o4
    unfold lk at h5
    by_cases hm : y.1.toNatClampNeg ∈ ms
    · rw [if_pos hm] at h5
      cases h5
      have o4 : ms.idxOf y.1.toNatClampNeg < ms.length := o4
      have l3 : ms.length ≤ 3 := l3
      obtain ⟨ix, eix⟩ : ∃ ix, ms.idxOf y.1.toNatClampNeg = ix := ⟨_, rfl⟩
      refine ⟨fun j hj => ?_, fun j h1 h3 => ?_⟩
      · have hj : j < ms.length := hj
        show (if j = ms.idxOf y.1.toNatClampNeg then (if y.1.toNatClampNeg ∈ ms then (if true = true ∧ bdM W op < rg (ms.idxOf y.1.toNatClampNeg) then bdM W op else rg (ms.idxOf y.1.toNatClampNeg)) else bdM W op) else rg j) = if 16 + nI (ms.idxOf y.1.toNatClampNeg) = 16 + nI j then (if bdM W op < a j then bdM W op else a j) else a j
        rw [eix] at o4
        rw [eix, if_pos hm]
        by_cases e : j = ix
        · subst e
          rw [if_pos rfl, if_pos rfl, hT.1 j hj]
          by_cases q : bdM W op < a j
          · rw [if_pos ⟨rfl, q⟩, if_pos q]
          · rw [if_neg (fun w => q w.2), if_neg q]
        · rw [if_neg e, if_neg (fun w => e (n1616 _ (by omega) j (by omega) w).symm)]; exact hT.1 j hj
      · have h1 : ms.length ≤ j := h1
        show (if 16 + nI (ms.idxOf y.1.toNatClampNeg) = 16 + nI j then _ else a j) = _
        rw [if_neg (fun w => by have := n1616 _ (by omega) j h3 w; omega)]
        exact hT.2 j h1 h3
    · rw [if_neg hm, if_pos rfl] at h5
      cases h5
      have le : (ms ++ [y.1.toNatClampNeg]).length = ms.length + 1 := by rw [List.length_append]; rfl
      have o4 : ms.length < (ms ++ [y.1.toNatClampNeg]).length := o4
      have l3 : (ms ++ [y.1.toNatClampNeg]).length ≤ 3 := l3
      refine ⟨fun j hj => ?_, fun j h1 h3 => ?_⟩
      · have hj : j < (ms ++ [y.1.toNatClampNeg]).length := hj
        show (if j = ms.length then (if y.1.toNatClampNeg ∈ ms then _ else bdM W op) else rg j) = if 16 + nI ms.length = 16 + nI j then (if bdM W op < a j then bdM W op else a j) else a j
        rw [if_neg hm]
        by_cases e : j = ms.length
        · have hl : bdM W op < a j := by rw [hT.2 j (by omega) (by omega)]; exact bd_lt hW hn
          rw [if_pos e, if_pos (by rw [e]), if_pos hl]
        · rw [if_neg e, if_neg (fun w => e (n1616 _ (by omega) j (by omega) w).symm)]
          exact hT.1 j (by omega)
      · have h1 : (ms ++ [y.1.toNatClampNeg]).length ≤ j := h1
        show (if 16 + nI ms.length = 16 + nI j then _ else a j) = _
        rw [if_neg (fun w => by have := n1616 _ (by omega) j h3 w; omega)]
        exact hT.2 j (by omega) h3
theorem mTermR_rg {len : Nat} {b : Nat → Int32} {W op : Nat} {p : Nat} {ms : List Nat} {rg : Nat → Int32} {z : Nat × List Nat × (Nat → Int32) × Int32} (h : mTermR len b W op false p ms rg = some z) : z.2.1 = ms ∧ ∀ j, z.2.2.1 j = rg j := by
  unfold mTermR at h
  split at h
  · obtain ⟨x, h1, h2⟩ := Option.map_eq_some_iff.mp h
    subst h2
    exact ⟨rfl, fun _ => rfl⟩
  · obtain ⟨x, h1, h2⟩ := Option.map_eq_some_iff.mp h
    subst h2
    unfold mMark at h1
    obtain ⟨y, h3, h4⟩ := Option.bind_eq_some_iff.mp h1
    obtain ⟨u, h5, h6⟩ := Option.map_eq_some_iff.mp h4
    subst h6
    unfold lk at h5
    by_cases hm : y.1.toNatClampNeg ∈ ms
    · rw [if_pos hm] at h5
      cases h5
      refine ⟨rfl, fun j => ?_⟩
      show (if j = ms.idxOf y.1.toNatClampNeg then (if y.1.toNatClampNeg ∈ ms then (if false = true ∧ bdM W op < rg (ms.idxOf y.1.toNatClampNeg) then bdM W op else rg (ms.idxOf y.1.toNatClampNeg)) else bdM W op) else rg j) = rg j
      have q : (if false = true ∧ bdM W op < rg (ms.idxOf y.1.toNatClampNeg) then bdM W op else rg (ms.idxOf y.1.toNatClampNeg)) = rg (ms.idxOf y.1.toNatClampNeg) := if_neg (fun w => absurd w.1 (by decide))
      rw [if_pos hm, q]
      by_cases e : j = ms.idxOf y.1.toNatClampNeg
      · rw [if_pos e, ← e]
      · rw [if_neg e]
    · rw [if_neg hm, if_neg (by decide)] at h5
      cases h5
end S_57
section S_58
/-! what a rule that was read is like, whole -/
theorem mNumR_top {len : Nat} {b : Nat → Int32} {W k : Nat} (hW : W = 1 ∨ W = 2 ∨ W = 3) (hk : k < 19) {s : jPS} {rg a : Nat → Int32} {y : jPS × (Nat → Int32)} (hi : ivL 3 s.2.2.1) (h0 : s.2.2.2 0 = nI k) (h4 : s.2.2.2 4 = 0) (hT : TPi W a s.2.2.1 rg) (h : mNumR len b W 0 k s rg = some y) : TPi W (stepT W a y.1.2.2.2) y.1.2.2.1 y.2 ∧ y.1.2.2.2 4 = 0 := by
  have kc : (nI k).toNatClampNeg = k := nI_clamp (by omega)
  have y0 : (y.1.2.2.2 0).toNatClampNeg = k := by rw [(mNumR_keep h).2 0 (Or.inl rfl), h0, kc]
  unfold mNumR at h
  by_cases hn : numN k = true
  · rw [if_pos hn] at h
    obtain ⟨p1, h1, h2⟩ := Option.bind_eq_some_iff.mp h
    obtain ⟨z, h3, h5⟩ := Option.bind_eq_some_iff.mp h2
    rw [if_neg (fun q => absurd q.1 (by decide))] at h5
    have T := mTermR_top hW hn hi hT h3
    cases h5
    refine ⟨?_, h4⟩
    have e : stepT W a (up6 s.2.2.2 2 z.2.2.2) = fun j => if z.2.2.2 = 16 + nI j then (if bdM W k < a j then bdM W k else a j) else a j := by
      funext j
      unfold stepT
      have y0' : (up6 s.2.2.2 2 z.2.2.2 0).toNatClampNeg = k := y0
      rw [y0']
      show (if numN k = true ∧ z.2.2.2 = 16 + nI j then _ else _) = _
      by_cases q : z.2.2.2 = 16 + nI j
      · rw [if_pos ⟨hn, q⟩, if_pos q]
      · rw [if_neg (fun w => q w.2), if_neg q]
    show TPi W (stepT W a (up6 s.2.2.2 2 z.2.2.2)) z.2.1 z.2.2.1
    rw [e]
    exact T
  · rw [if_neg hn] at h
    cases h
    refine ⟨?_, h4⟩
    have e : stepT W a s.2.2.2 = a := by
      funext j
      unfold stepT
      have y0' : (s.2.2.2 0).toNatClampNeg = k := y0
      rw [y0', if_neg (fun w => hn w.1)]
    show TPi W (stepT W a s.2.2.2) s.2.2.1 rg
    rw [e]
    exact hT
theorem mNumR_rg {len : Nat} {b : Nat → Int32} {W k : Nat} {s : jPS} {rg : Nat → Int32} {y : jPS × (Nat → Int32)} (h : mNumR len b W 1 k s rg = some y) : y.1.2.2.1 = s.2.2.1 ∧ ∀ j, y.2 j = rg j := by
  unfold mNumR at h
  by_cases hn : numN k = true
  · rw [if_pos hn] at h
    obtain ⟨p1, h1, h2⟩ := Option.bind_eq_some_iff.mp h
    obtain ⟨z, h3, h5⟩ := Option.bind_eq_some_iff.mp h2
    have q := mTermR_rg (show mTermR len b W k false p1 s.2.2.1 rg = some z from h3)
    split at h5
    · obtain ⟨x, h6, h7⟩ := Option.map_eq_some_iff.mp h5
      have q2 := mTermR_rg h6
      subst h7
      exact ⟨q2.1.trans q.1, fun j => (q2.2 j).trans (q.2 j)⟩
    · cases h5
      exact q
  · rw [if_neg hn] at h
    cases h
    exact ⟨rfl, fun _ => rfl⟩
theorem mOrdS_pre {len : Nat} {b : Nat → Int32} {W sd n : Nat} {s : jPS} {rg : Nat → Int32} {y : jPS × (Nat → Int32)} (h : mOrdS len b W sd n s rg = some y) : ∃ k s2, k < 19 ∧ s2.2.2.1 = s.2.2.1 ∧ s2.2.2.2 0 = nI k ∧ s2.2.2.2 4 = 0 ∧ mRegsR len b (sd == 0) (regN k) 0 (s.1 + lw len b s.1, s.2.1, s.2.2.1, fun j => if j = 0 then nI k else 0) = some s2 ∧ mNumR len b W sd k s2 rg = some y := by
  unfold mOrdS at h
  obtain ⟨z, h1, h2⟩ := Option.bind_eq_some_iff.mp h
  obtain ⟨s2, h3, h4⟩ := Option.bind_eq_some_iff.mp h2
  obtain ⟨⟨k, hk, zk⟩, z2, -, -⟩ := mName_ok h1
  have kc : z.1.toNatClampNeg = k := by rw [zk]; exact nI_clamp (by omega)
  rw [kc] at h3 h4
  rw [zk, z2] at h3
  obtain ⟨km, kf⟩ := mRegsR_keep _ _ _ _ h3
  exact ⟨k, s2, hk, km, kf 0 (Or.inl (Nat.le_refl 0)), kf 4 (Or.inr (by have := regN3 k; omega)), h3, h4⟩
theorem mSide_top {len : Nat} {b : Nat → Int32} {W : Nat} (hW : W = 1 ∨ W = 2 ∨ W = 3) : ∀ (f n : Nat) (s : jPS) (rg a : Nat → Int32) (z : List (Nat → Int32) × jPS × (Nat → Int32)), ivL 4 s.2.1 → ivL 3 s.2.2.1 → TPi W a s.2.2.1 rg → mSide len b W 0 f n s rg = some z → TPi W (z.1.foldl (stepT W) a) z.2.1.2.2.1 z.2.2 ∧ (∀ o, o ∈ z.1 → o 4 = 0) ∧ 1 ≤ z.1.length := by
  intro f
  induction f with
  | zero => intro n s rg a z _ _ _ h; cases h
  | succ f ih =>
    intro n s rg a z hr hi hT h
    unfold mSide at h
    obtain ⟨y, h1, h2⟩ := Option.bind_eq_some_iff.mp h
    obtain ⟨a1, a2, a3, a4, a5⟩ := mOrdS_wf hr hi h1
    obtain ⟨k, s2, hk, e1, e2, e3, e4, e5⟩ := mOrdS_pre h1
    obtain ⟨T, t4⟩ := mNumR_top hW hk (by rw [e1]; exact hi) e2 e3 (by rw [e1]; exact hT) e5
    split at h2
    · obtain ⟨w, h3, h4⟩ := Option.map_eq_some_iff.mp h2
      obtain ⟨c1, c2, c3⟩ := ih (n + 1) (sk len b (sk len b y.1.1 + 1), y.1.2) y.2 _ w a1 a2 T h3
      subst h4
      refine ⟨c1, fun o ho => ?_, by show 1 ≤ w.1.length + 1; omega⟩
      rcases List.mem_cons.mp ho with e | e
      · rw [e]; exact t4
      · exact c2 o e
    · cases h2
      refine ⟨T, fun o ho => ?_, Nat.le_refl 1⟩
      rw [List.mem_singleton] at ho
      rw [ho]; exact t4
theorem mSide_rg {len : Nat} {b : Nat → Int32} {W : Nat} : ∀ (f n : Nat) (s : jPS) (rg : Nat → Int32) (z : List (Nat → Int32) × jPS × (Nat → Int32)), mSide len b W 1 f n s rg = some z → z.2.1.2.2.1 = s.2.2.1 ∧ ∀ j, z.2.2 j = rg j := by
  intro f
  induction f with
  | zero => intro n s rg z h; cases h
  | succ f ih =>
    intro n s rg z h
    unfold mSide at h
    obtain ⟨y, h1, h2⟩ := Option.bind_eq_some_iff.mp h
    obtain ⟨k, s2, hk, e1, e2, e3, e4, e5⟩ := mOrdS_pre h1
    have q := mNumR_rg e5
    rw [e1] at q
    split at h2
    · obtain ⟨w, h3, h4⟩ := Option.map_eq_some_iff.mp h2
      have c := ih _ _ _ _ h3
      subst h4
      exact ⟨c.1.trans q.1, fun j => (c.2 j).trans (q.2 j)⟩
    · cases h2
      exact q
theorem mRule_wf {len : Nat} {b : Nat → Int32} {W : Nat} (hW : W = 1 ∨ W = 2 ∨ W = 3) {rg0 : Nat → Int32} {o1 o2 : List (Nat → Int32)} {rs ms : List Nat} {rg : Nat → Int32} (h : mRule len b W rg0 = some (o1, o2, rs, ms, rg)) :
    ivL 4 rs ∧ ivL 3 ms ∧ (∀ o, o ∈ o1 → WFo rs.length ms.length o) ∧ (∀ o, o ∈ o2 → WFo rs.length ms.length o) ∧ (∀ j, j < ms.length → rg j = (o1.foldl (stepT W) (topI W)) j) ∧ (∀ o, o ∈ o1 → o 4 = 0) ∧ 1 ≤ o1.length := by
  rw [mRule_eq] at h
  obtain ⟨z, h1, h2⟩ := Option.bind_eq_some_iff.mp h
  obtain ⟨z0, h3, h4⟩ := Option.bind_eq_some_iff.mp h1
  have i0 : ivL 4 [] := ⟨List.nodup_nil, fun x hx => absurd hx (List.not_mem_nil)⟩
  have i1 : ivL 3 [] := ⟨List.nodup_nil, fun x hx => absurd hx (List.not_mem_nil)⟩
  obtain ⟨a1, a2, a3, a4, a5⟩ := mSide_wf 5 0 (sk len b 0, [], [], fun _ => 0) rg0 z0 i0 i1 h3
  obtain ⟨b1, b2, b3⟩ := mSide_top hW 5 0 (sk len b 0, [], [], fun _ => 0) rg0 (topI W) z0 i0 i1 ⟨fun j hj => absurd hj (Nat.not_lt_zero j), fun j _ _ => rfl⟩ h3
  have ez : z.1 = z0.1 ∧ z.2.1.2 = z0.2.1.2 ∧ z.2.2 = z0.2.2 := by
    unfold mCl at h4
    rw [if_pos rfl] at h4
    split at h4
    · cases h4; exact ⟨rfl, rfl, rfl⟩
    · cases h4
  split at h2
  · cases h2
    rw [ez.1, ez.2.1, ez.2.2]
    exact ⟨a1, a2, a5, fun o ho => absurd ho (List.not_mem_nil), b1.1, b2, b3⟩
  · obtain ⟨y, h5, h6⟩ := Option.map_eq_some_iff.mp h2
    obtain ⟨y0, h7, h8⟩ := Option.bind_eq_some_iff.mp h5
    have ey : y = y0 := by
      unfold mCl at h8
      rw [if_neg (by decide)] at h8
      split at h8
      · cases h8; rfl
      · cases h8
    subst ey
    rw [ez.2.1, ez.2.2] at h7
    obtain ⟨c1, c2, c3, c4, c5⟩ := mSide_wf 5 0 (sk len b z.2.1.1, z0.2.1.2) z0.2.2 y a1 a2 h7
    obtain ⟨d1, d2⟩ := mSide_rg 5 0 _ _ _ h7
    have d1 : y.2.1.2.2.1 = z0.2.1.2.2.1 := d1
    have c3 : z0.2.1.2.1.length ≤ y.2.1.2.1.length := c3
    have c4 : z0.2.1.2.2.1.length ≤ y.2.1.2.2.1.length := c4
    cases h6
    rw [ez.1]
    refine ⟨c1, c2, fun o ho => (a5 o ho).up c3 c4, c5, fun j hj => ?_, b2, b3⟩
    rw [d2 j]
    rw [d1] at hj
    exact b1.1 j hj
end S_58
section S_59
/-! the machine: orders at work, class and reference -/
def mkW (W : Nat) : Int32 := ((1 : Int32) <<< (nI W &&& 31)) - 1
def wkd (k : Nat) (a c n : Int32) : Int32 := if k = 0 then n else if k = 1 then c else if k = 2 then a + c else if k = 3 then a - c else if k = 4 then a &&& c else if k = 5 then a ||| c else if k = 6 then a ^^^ c else if k = 7 then a * c else if k = 8 then a + 1 else if k = 9 then a - 1 else if k = 10 then a ^^^ (-1) else if k = 11 then -a else if k = 12 then a <<< (n &&& 31) else if k = 13 then a >>> (n &&& 31) else a
def exN (W k x y z : Nat) (w : Nat → Int32) : Nat → Int32 :=
  if k = 17 then w else if k = 16 then up6 w (4 + y) (w x) else if k = 15 then up6 w x (w (4 + y)) else if k = 14 then up6 w x (if w x = 0 then w z else w y) else if k = 18 then up6 (up6 w x (w y)) y (w x) else up6 w x (wkd k (w x) (w (y % 4)) (nI y) &&& mkW W)
def WD (W : Nat) (w : Nat → Int32) : Prop := ∀ i, i < 8 → ∃ u, u < 2 ^ W ∧ w i = nI u
def w8 (x y z k : Nat) : Prop := k < 19 ∧ x < 4 ∧ z < 4 ∧ y < 8 ∧ (¬ k = 0 → y < 4)
theorem and3 : ∀ y, y < 8 → (nI y &&& 3) = nI (y % 4) := by decide
theorem mask_id {W : Nat} (hW : W = 1 ∨ W = 2 ∨ W = 3) : ∀ u, u < 2 ^ W → nI u &&& mkW W = nI u := by
  rcases hW with h | h | h <;> subst h <;> decide
theorem mask_in {W : Nat} (hW : W = 1 ∨ W = 2 ∨ W = 3) (v : Int32) : ∃ u, u < 2 ^ W ∧ v &&& mkW W = nI u := by
  have e : (mkW W).toBitVec.toNat = 2 ^ W - 1 := by rcases hW with h | h | h <;> subst h <;> decide
  have hp : 2 ^ W ≤ 8 ∧ 1 ≤ 2 ^ W := by rcases hW with h | h | h <;> subst h <;> decide
  have q : (v &&& mkW W).toBitVec.toNat ≤ 2 ^ W - 1 := by
    rw [Int32.toBitVec_and, BitVec.toNat_and, e]
    exact Nat.and_le_right
  refine ⟨(v &&& mkW W).toBitVec.toNat, by omega, ?_⟩
  apply Int32.toBitVec_inj.mp
  apply BitVec.eq_of_toNat_eq
  show _ = (Int32.ofNat _).toBitVec.toNat
  rw [Int32.toBitVec_ofNat', BitVec.toNat_ofNat]
  omega
section MAC
variable {d : Nat} {σ : jS} {W : Nat}
theorem c71 {k : Nat} (hk : k < 19) (a c n : Int32) : jx d 71 0 [some (.int (nI k)), some (.int a), some (.int c), some (.int n)] [] σ = some (some (.int (wkd k a c n)), σ) := by
  rcases k19 hk with h | h | h | h | h | h | h | h | h | h | h | h | h | h | h | h | h | h | h <;> subst h <;> rw [k71_0]
  · rw [show jsw 2 (nI 0) = 72 by decide, k71_72]; rfl
  · rw [show jsw 2 (nI 1) = 74 by decide, k71_74]; rfl
  · rw [show jsw 2 (nI 2) = 76 by decide, k71_76]; rfl
  · rw [show jsw 2 (nI 3) = 80 by decide, k71_80]; rfl
  · rw [show jsw 2 (nI 4) = 84 by decide, k71_84]; rfl
  · rw [show jsw 2 (nI 5) = 88 by decide, k71_88]; rfl
  · rw [show jsw 2 (nI 6) = 92 by decide, k71_92]; rfl
  · rw [show jsw 2 (nI 7) = 96 by decide, k71_96]; rfl
  · rw [show jsw 2 (nI 8) = 100 by decide, k71_100]; rfl
  · rw [show jsw 2 (nI 9) = 104 by decide, k71_104]; rfl
  · rw [show jsw 2 (nI 10) = 108 by decide, k71_108]; rfl
  · rw [show jsw 2 (nI 11) = 112 by decide, k71_112]; rfl
  · rw [show jsw 2 (nI 12) = 115 by decide, k71_115]; rfl
  · rw [show jsw 2 (nI 13) = 119 by decide, k71_119]; rfl
  · rw [show jsw 2 (nI 14) = 123 by decide, k71_123]; rfl
  · rw [show jsw 2 (nI 15) = 123 by decide, k71_123]; rfl
  · rw [show jsw 2 (nI 16) = 123 by decide, k71_123]; rfl
  · rw [show jsw 2 (nI 17) = 123 by decide, k71_123]; rfl
  · rw [show jsw 2 (nI 18) = 123 by decide, k71_123]; rfl
theorem sw1 : ∀ k, k < 19 → k < 14 → jsw 1 (nI k) = 189 := by decide
theorem c70 {M m a N F k x y z : Nat} (tM : jT σ M = 3) (rM : jR σ 128 M = some m) (tm : jT σ m = 20) (nm : jN σ m = 8) (ta : jT σ a = 20) (na : jN σ a = N) (hN : N ≤ 144) (hF : F + 6 ≤ N) (am : ¬ a = m) (h8 : w8 x y z k)
    (e0 : jA σ a F = nI k) (e1 : jA σ a (F + 1) = nI x) (e2 : jA σ a (F + 2) = nI y) (e3 : k = 14 → jA σ a (F + 3) = nI z) :
    ∃ σ', jx (d + 1) 70 0 [some (.ref M), some (.ref a), some (.int (nI F)), some (.int (mkW W)), none, none, none, none] [] σ = some (none, σ') ∧ FR [m] σ σ' ∧ ∀ i, jA σ' m i = exN W k x y z (jA σ m) i := by
  obtain ⟨hk, hx, hz, hy, hy4⟩ := h8
  have n0 : ¬ nI F < 0 := by
    rw [Int32.lt_iff_toInt_lt, nI_toInt (by omega)]
    have : (0 : Int32).toInt = 0 := rfl
    omega
  have f6 : nI F + 6 ≤ Int32.ofNat N := by rw [show (6 : Int32) = nI 6 from rfl, nadd]; exact nI_le hF (by omega)
  have p0 : nI F + 0 = nI F := by rw [show (0 : Int32) = nI 0 from rfl, nadd]; rfl
  have p1 : nI F + 1 = nI (F + 1) := (nI_succ _).symm
  have p2 : nI F + 2 = nI (F + 2) := by rw [show (2 : Int32) = nI 2 from rfl, nadd]
  have p3 : nI F + 3 = nI (F + 3) := by rw [show (3 : Int32) = nI 3 from rfl, nadd]
  have g0 : jin N (nI F) := jin_n (by omega) (by omega)
  have g1 : jin N (nI (F + 1)) := jin_n (by omega) (by omega)
  have g2 : jin N (nI (F + 2)) := jin_n (by omega) (by omega)
  have g3 : jin N (nI (F + 3)) := jin_n (by omega) (by omega)
  have q0 : (nI F).toNatClampNeg = F := nI_clamp (by omega)
  have q1 : (nI (F + 1)).toNatClampNeg = F + 1 := nI_clamp (by omega)
  have q2 : (nI (F + 2)).toNatClampNeg = F + 2 := nI_clamp (by omega)
  have q3 : (nI (F + 3)).toNatClampNeg = F + 3 := nI_clamp (by omega)
  have x3 : (nI x &&& 3) = nI x := by rw [and3 x (by omega), Nat.mod_eq_of_lt hx]
  have start : jx (d + 1) 70 0 [some (.ref M), some (.ref a), some (.int (nI F)), some (.int (mkW W)), none, none, none, none] [] σ = jx (d + 1) 70 (jsw 1 (nI k)) [some (.ref M), some (.ref a), some (.int (nI F)), some (.int (mkW W)), some (.int (nI k)), some (.int (nI x)), some (.int (nI (y % 4))), none] [] σ := by
    rw [k70_0, if_neg n0, k70_4 (by rw [ta]; decide), na, if_pos f6, k70_14 (Or.inl ta) (by rw [na, p0]; exact g0) (by rw [na, p1]; exact g1) (by rw [na, p2]; exact g2), p0, p1, p2, q0, q1, q2, e0, e1, e2, x3, and3 y hy]
  have gx : jin 8 (nI x) := jin_n (by omega) (by decide)
  have gy : jin 8 (nI (y % 4)) := jin_n (by omega) (by decide)
  have qx : (nI x).toNatClampNeg = x := nI_clamp (by omega)
  have qy : (nI (y % 4)).toNatClampNeg = y % 4 := nI_clamp (by omega)
  have a4 : (4 : Int32) + nI (y % 4) = nI (4 + y % 4) := by rw [show (4 : Int32) = nI 4 from rfl, nadd]
  have g4 : jin 8 (nI (4 + y % 4)) := jin_n (by omega) (by decide)
  have q4 : (nI (4 + y % 4)).toNatClampNeg = 4 + y % 4 := nI_clamp (by omega)
  have rn : jR σ 128 M ≠ none := by rw [rM]; exact fun z => nomatch z
  have rg : (jR σ 128 M).getD 0 = m := by rw [rM]; rfl
  have up : ∀ (υ : jS) (j : Nat) (v : Int32) (i : Nat), jA (jsA υ m j v) m i = up6 (jA υ m) j v i := by
    intro υ j v i
    rw [zA_A]
    unfold up6
    by_cases h : i = j
    · rw [if_pos ⟨rfl, h⟩, if_pos h]
    · rw [if_neg (fun w => h w.2), if_neg h]
  by_cases h17 : k = 17
  · subst h17
    refine ⟨σ, ?_, FR.refl _ σ, fun i => rfl⟩
    rw [start, show jsw 1 (nI 17) = 76 by decide, k70_76]
  by_cases h16 : k = 16
  · subst h16
    have y4 : y % 4 = y := Nat.mod_eq_of_lt (hy4 (by decide))
    refine ⟨jsA σ m (4 + y) (jA σ m x), ?_, (FR.refl _ σ).A (by simp), fun i => up σ _ _ i⟩
    rw [start, show jsw 1 (nI 16) = 79 by decide, k70_79 tM rn (by rw [rg]; exact Or.inl tm) (by rw [rg, nm]; exact gx) (by rw [rg]; exact tm) (by rw [rg, nm, a4]; exact g4), rg, a4, q4, qx, y4]
  by_cases h15 : k = 15
  · subst h15
    have y4 : y % 4 = y := Nat.mod_eq_of_lt (hy4 (by decide))
    refine ⟨jsA σ m x (jA σ m (4 + y)), ?_, (FR.refl _ σ).A (by simp), fun i => up σ _ _ i⟩
    rw [start, show jsw 1 (nI 15) = 98 by decide, k70_98 tM rn (by rw [rg]; exact Or.inl tm) (by rw [rg, nm, a4]; exact g4) (by rw [rg]; exact tm) (by rw [rg, nm]; exact gx), rg, a4, q4, qx, y4]
  by_cases h14 : k = 14
  · subst h14
    have y4 : y % 4 = y := Nat.mod_eq_of_lt (hy4 (by decide))
    have z3 : (nI z &&& 3) = nI z := by rw [and3 z (by omega), Nat.mod_eq_of_lt hz]
    have gz : jin 8 (nI z) := jin_n (by omega) (by decide)
    have qz : (nI z).toNatClampNeg = z := nI_clamp (by omega)
    refine ⟨jsA σ m x (if jA σ m x = 0 then jA σ m z else jA σ m y), ?_, (FR.refl _ σ).A (by simp), fun i => up σ _ _ i⟩
    rw [start, show jsw 1 (nI 14) = 117 by decide, k70_117 tM rn (by rw [rg]; exact Or.inl tm) (by rw [rg, nm]; exact gx), rg, qx]
    by_cases h0 : jA σ m x = 0
    · rw [if_pos h0, if_pos h0, k70_142 (Or.inl ta) (by rw [na, p3]; exact g3) (Or.inl tm) (by rw [nm, p3, q3, e3 rfl, z3]; exact gz) tm (by rw [nm]; exact gx), p3, q3, e3 rfl, z3, qz, qx]
    · rw [if_neg h0, if_neg h0, k70_137 (Or.inl tm) (by rw [nm]; exact gy) tm (by rw [nm]; exact gx), qy, qx, y4]
  by_cases h18 : k = 18
  · subst h18
    have y4 : y % 4 = y := Nat.mod_eq_of_lt (hy4 (by decide))
    refine ⟨jsA (jsA σ m x (jA σ m y)) m y (jA σ m x), ?_, ((FR.refl _ σ).A (by simp)).A (by simp), fun i => ?_⟩
    · rw [start, show jsw 1 (nI 18) = 154 by decide, k70_154 tM rn (by rw [rg]; exact Or.inl tm) (by rw [rg, nm]; exact gx) (by rw [rg, nm]; exact gy) (by rw [rg]; exact tm), rg, qy, qx, y4]
    · rw [up]
      show up6 (jA (jsA σ m x (jA σ m y)) m) y (jA σ m x) i = up6 (up6 (jA σ m) x (jA σ m y)) y (jA σ m x) i
      unfold up6
      by_cases h : i = y
      · rw [if_pos h, if_pos h]
      · rw [if_neg h, if_neg h]; exact up σ x (jA σ m y) i
  have hs := sw1 k hk (by omega)
  refine ⟨jsA σ m x (wkd k (jA σ m x) (jA σ m (y % 4)) (nI y) &&& mkW W), ?_, (FR.refl _ σ).A (by simp), fun i => ?_⟩
  · rw [start, hs, k70_189 tM rn (by rw [rg]; exact Or.inl tm) (by rw [rg, nm]; exact gx) (by rw [rg, nm]; exact gy) (Or.inl ta) (by rw [na, p2]; exact g2), rg, p2, q2, e2, qx, qy, c71 hk]
    simp only [Option.bind_some, Option.toList_some, List.cons_append, List.nil_append]
    rw [k70_219 tm (by rw [nm]; exact gx), qx]
  · rw [up]
    unfold exN
    rw [if_neg h17, if_neg h16, if_neg h15, if_neg h14, if_neg h18]
end MAC
end S_59
section S_60
/-! words packed into bits -/
theorem nI_tn {a : Nat} (h : a < 2 ^ 32) : (nI a).toBitVec.toNat = a := by
  show (Int32.ofNat a).toBitVec.toNat = a
  rw [Int32.toBitVec_ofNat', BitVec.toNat_ofNat, Nat.mod_eq_of_lt h]
theorem tn_nI {v : Int32} {a : Nat} (h : v.toBitVec.toNat = a) : v = nI a := by
  have ha : a < 2 ^ 32 := by rw [← h]; exact v.toBitVec.isLt
  apply Int32.toBitVec_inj.mp
  apply BitVec.eq_of_toNat_eq
  rw [h, nI_tn ha]
theorem s31 : ∀ s, s < 32 → (nI s &&& 31) = nI s := by decide
theorem s32 : ∀ s, s < 32 → ((nI s).toBitVec.smod 32).toNat = s := by decide
theorem shl_n {a s : Nat} (hs : s < 32) (h : a * 2 ^ s < 2 ^ 32) : nI a <<< (nI s &&& 31) = nI (a * 2 ^ s) := by
  have h1 : 1 ≤ 2 ^ s := Nat.one_le_two_pow
  have ha : a < 2 ^ 32 := Nat.lt_of_le_of_lt (Nat.le_mul_of_pos_right a h1) h
  apply tn_nI
  rw [s31 s hs, Int32.toBitVec_shiftLeft, BitVec.shiftLeft_eq', BitVec.toNat_shiftLeft, s32 s hs, nI_tn ha, Nat.shiftLeft_eq, Nat.mod_eq_of_lt h]
theorem shr_n {a s : Nat} (hs : s < 32) (h : a < 2 ^ 31) : nI a >>> (nI s &&& 31) = nI (a / 2 ^ s) := by
  have ha : a < 2 ^ 32 := by omega
  apply tn_nI
  rw [s31 s hs, Int32.toBitVec_shiftRight]
  show ((nI a).toBitVec.sshiftRight ((nI s).toBitVec.smod 32).toNat).toNat = _
  rw [BitVec.toNat_sshiftRight_of_msb_false (BitVec.msb_eq_false_iff_two_mul_lt.mpr (by rw [nI_tn ha]; omega)), s32 s hs, nI_tn ha, Nat.shiftRight_eq_div_pow]
theorem and_n {a W : Nat} (hW : W = 1 ∨ W = 2 ∨ W = 3) (h : a < 2 ^ 32) : nI a &&& mkW W = nI (a % 2 ^ W) := by
  have e : (mkW W).toBitVec.toNat = 2 ^ W - 1 := by rcases hW with h | h | h <;> subst h <;> decide
  apply tn_nI
  rw [Int32.toBitVec_and, BitVec.toNat_and, e, nI_tn h, Nat.and_two_pow_sub_one_eq_mod]
theorem or_n {a c s : Nat} (ha : a < 2 ^ s) (h : a + c * 2 ^ s < 2 ^ 32) : nI a ||| nI (c * 2 ^ s) = nI (a + c * 2 ^ s) := by
  apply tn_nI
  rw [Int32.toBitVec_or, BitVec.toNat_or, nI_tn (by omega), nI_tn (by omega), Nat.or_comm, Nat.mul_comm c, ← Nat.two_pow_add_eq_or_of_lt ha, Nat.add_comm]
def unp (W : Nat) (bits : Int32) (i : Nat) : Int32 := (bits >>> ((nI i * nI W) &&& 31)) &&& mkW W
def pkU (W : Nat) (w : Nat → Int32) : Nat → Int32
  | 0 => 0
  | n + 1 => pkU W w n ||| (w n <<< ((nI n * nI W) &&& 31))
def pkD (W : Nat) (w : Nat → Int32) : Nat → Int32
  | 0 => 0
  | n + 1 => (pkD W w n <<< (nI W &&& 31)) ||| w (7 - n)
def pkN (W : Nat) (u : Nat → Nat) : Nat → Nat
  | 0 => 0
  | n + 1 => pkN W u n + u n * 2 ^ (n * W)
def qkN (W : Nat) (u : Nat → Nat) : Nat → Nat
  | 0 => 0
  | n + 1 => u (7 - n) + qkN W u n * 2 ^ W
theorem pkN_lt {W : Nat} {u : Nat → Nat} : ∀ n, (∀ i, i < n → u i < 2 ^ W) → pkN W u n < 2 ^ (n * W) := by
  intro n
  induction n with
  | zero => intro _; show 0 < 2 ^ (0 * W); rw [Nat.zero_mul]; decide
  | succ n ih =>
    intro h
    have i1 := ih (fun i hi => h i (by omega))
    have i2 := h n (by omega)
    show pkN W u n + u n * 2 ^ (n * W) < _
    rw [Nat.succ_mul, Nat.pow_add]
    have : (u n + 1) * 2 ^ (n * W) ≤ 2 ^ W * 2 ^ (n * W) := Nat.mul_le_mul_right _ i2
    rw [Nat.succ_mul] at this
    rw [Nat.mul_comm (2 ^ (n * W))]
    omega
theorem qkN_lt {W : Nat} {u : Nat → Nat} (h : ∀ i, i < 8 → u i < 2 ^ W) : ∀ n, qkN W u n < 2 ^ (n * W) := by
  intro n
  induction n with
  | zero => show 0 < 2 ^ (0 * W); rw [Nat.zero_mul]; decide
  | succ n ih =>
    have i2 := h (7 - n) (by omega)
    show u (7 - n) + qkN W u n * 2 ^ W < _
    rw [Nat.succ_mul, Nat.pow_add]
    have : (qkN W u n + 1) * 2 ^ W ≤ 2 ^ (n * W) * 2 ^ W := Nat.mul_le_mul_right _ ih
    rw [Nat.succ_mul] at this
    omega
theorem pw24 {W : Nat} (hW : W = 1 ∨ W = 2 ∨ W = 3) {n : Nat} (hn : n ≤ 8) : 2 ^ (n * W) ≤ 2 ^ 24 := Nat.pow_le_pow_right (by decide) (by rcases hW with h | h | h <;> subst h <;> omega)
theorem pkU_n {W : Nat} (hW : W = 1 ∨ W = 2 ∨ W = 3) {w : Nat → Int32} {u : Nat → Nat} : ∀ n, n ≤ 8 → (∀ i, i < n → u i < 2 ^ W ∧ w i = nI (u i)) → pkU W w n = nI (pkN W u n) := by
  intro n
  induction n with
  | zero => intro _ _; rfl
  | succ n ih =>
    intro hn h
    have lt := pkN_lt (W := W) (u := u) n (fun i hi => (h i (by omega)).1)
    have lt2 := pkN_lt (W := W) (u := u) (n + 1) (fun i hi => (h i hi).1)
    have p24 := pw24 hW hn
    have lt3 : pkN W u n + u n * 2 ^ (n * W) < 2 ^ ((n + 1) * W) := lt2
    show pkU W w n ||| (w n <<< ((nI n * nI W) &&& 31)) = nI (pkN W u n + u n * 2 ^ (n * W))
    have hs : n * W < 32 := by rcases hW with h | h | h <;> subst h <;> omega
    rw [ih (by omega) (fun i hi => h i (by omega)), (h n (by omega)).2, nmul, shl_n hs (by omega), or_n lt (by omega)]
theorem pkD_n {W : Nat} (hW : W = 1 ∨ W = 2 ∨ W = 3) {w : Nat → Int32} {u : Nat → Nat} (h : ∀ i, i < 8 → u i < 2 ^ W ∧ w i = nI (u i)) : ∀ n, n ≤ 8 → pkD W w n = nI (qkN W u n) := by
  intro n
  induction n with
  | zero => intro _; rfl
  | succ n ih =>
    intro hn
    have lt2 := qkN_lt (fun i hi => (h i hi).1) (n + 1)
    have p24 := pw24 hW hn
    have lt3 : u (7 - n) + qkN W u n * 2 ^ W < 2 ^ ((n + 1) * W) := lt2
    show (pkD W w n <<< (nI W &&& 31)) ||| w (7 - n) = nI (u (7 - n) + qkN W u n * 2 ^ W)
    have h7 := h (7 - n) (by omega)
    rw [ih (by omega), shl_n (by rcases hW with h | h | h <;> subst h <;> decide) (by omega), h7.2, Int32.or_comm, or_n h7.1 (by omega)]
theorem p8 {W : Nat} (hW : W = 1 ∨ W = 2 ∨ W = 3) : 2 ^ W ≤ 8 := by rcases hW with h | h | h <;> subst h <;> decide
theorem WD.nat {W : Nat} (hW : W = 1 ∨ W = 2 ∨ W = 3) {w : Nat → Int32} (h : WD W w) : ∃ u : Nat → Nat, ∀ i, i < 8 → u i < 2 ^ W ∧ w i = nI (u i) := by
  refine ⟨fun i => (w i).toNatClampNeg, fun i hi => ?_⟩
  obtain ⟨u, h1, h2⟩ := h i hi
  have := p8 hW
  have e : (w i).toNatClampNeg = u := by rw [h2]; exact nI_clamp (by omega)
  show (w i).toNatClampNeg < 2 ^ W ∧ w i = nI (w i).toNatClampNeg
  rw [e]
  exact ⟨h1, h2⟩
theorem i8 {i : Nat} (h : i < 8) : i = 0 ∨ i = 1 ∨ i = 2 ∨ i = 3 ∨ i = 4 ∨ i = 5 ∨ i = 6 ∨ i = 7 := by omega
theorem pk_qk {W : Nat} (hW : W = 1 ∨ W = 2 ∨ W = 3) (u : Nat → Nat) : pkN W u 8 = qkN W u 8 := by
  rcases hW with h | h | h <;> subst h <;> simp only [pkN, qkN, Nat.reduceMul, Nat.reducePow, Nat.reduceSub] <;> omega
theorem un_pk {W : Nat} (hW : W = 1 ∨ W = 2 ∨ W = 3) {u : Nat → Nat} (h : ∀ i, i < 8 → u i < 2 ^ W) {i : Nat} (hi : i < 8) : pkN W u 8 / 2 ^ (i * W) % 2 ^ W = u i := by
  have h0 := h 0 (by decide)
  have h1 := h 1 (by decide)
  have h2 := h 2 (by decide)
  have h3 := h 3 (by decide)
  have h4 := h 4 (by decide)
  have h5 := h 5 (by decide)
  have h6 := h 6 (by decide)
  have h7 := h 7 (by decide)
  rcases hW with q | q | q <;> subst q <;> simp only [pkN, Nat.reduceMul, Nat.reducePow] at * <;> rcases i8 hi with q | q | q | q | q | q | q | q <;> subst q <;> simp only [Nat.reduceMul, Nat.reducePow] <;> omega
theorem pk_same {W : Nat} (hW : W = 1 ∨ W = 2 ∨ W = 3) {w : Nat → Int32} (h : WD W w) : pkU W w 8 = pkD W w 8 := by
  obtain ⟨u, hu⟩ := h.nat hW
  rw [pkU_n hW 8 (Nat.le_refl 8) hu, pkD_n hW hu 8 (Nat.le_refl 8), pk_qk hW]
theorem unp_pk {W : Nat} (hW : W = 1 ∨ W = 2 ∨ W = 3) {w : Nat → Int32} (h : WD W w) {i : Nat} (hi : i < 8) : unp W (pkU W w 8) i = w i := by
  obtain ⟨u, hu⟩ := h.nat hW
  have lt := pkN_lt (W := W) (u := u) 8 (fun i hi => (hu i hi).1)
  have p24 := pw24 hW (Nat.le_refl 8)
  rw [pkU_n hW 8 (Nat.le_refl 8) hu]
  unfold unp
  have hs : i * W < 32 := by rcases hW with q | q | q <;> subst q <;> omega
  have le : pkN W u 8 / 2 ^ (i * W) ≤ pkN W u 8 := Nat.div_le_self _ _
  rw [nmul, shr_n hs (by omega), and_n hW (by omega), un_pk hW (fun i hi => (hu i hi).1) hi, (hu i hi).2]
theorem pk_inj {W : Nat} (hW : W = 1 ∨ W = 2 ∨ W = 3) {w v : Nat → Int32} (h : WD W w) (k : WD W v) : pkU W w 8 = pkU W v 8 ↔ ∀ i, i < 8 → w i = v i := by
  constructor
  · intro e i hi
    rw [← unp_pk hW h hi, e, unp_pk hW k hi]
  · intro e
    have : ∀ n, n ≤ 8 → pkU W w n = pkU W v n := by
      intro n
      induction n with
      | zero => intro _; rfl
      | succ n ih => intro hn; show pkU W w n ||| _ = pkU W v n ||| _; rw [ih (by omega), e n (by omega)]
    exact this 8 (Nat.le_refl 8)
theorem unp_WD {W : Nat} (hW : W = 1 ∨ W = 2 ∨ W = 3) (bits : Int32) : WD W (unp W bits) := fun _ _ => mask_in hW _
theorem pkU_cong {W : Nat} {w v : Nat → Int32} : ∀ n, (∀ i, i < n → w i = v i) → pkU W w n = pkU W v n := by
  intro n
  induction n with
  | zero => intro _; rfl
  | succ n ih => intro e; show pkU W w n ||| _ = pkU W v n ||| _; rw [ih (fun i hi => e i (by omega)), e n (by omega)]
theorem WD.cong {W : Nat} {w v : Nat → Int32} (h : WD W w) (e : ∀ i, i < 8 → v i = w i) : WD W v := fun i hi => by rw [e i hi]; exact h i hi
theorem WD.up {W : Nat} {w : Nat → Int32} (h : WD W w) {j : Nat} {v : Int32} (hv : ∃ u, u < 2 ^ W ∧ v = nI u) : WD W (up6 w j v) := fun i hi => by
  unfold up6
  by_cases e : i = j
  · rw [if_pos e]; exact hv
  · rw [if_neg e]; exact h i hi
theorem WD.ex {W : Nat} (hW : W = 1 ∨ W = 2 ∨ W = 3) {w : Nat → Int32} (h : WD W w) {k x y z : Nat} (h8 : w8 x y z k) : WD W (exN W k x y z w) := by
  obtain ⟨hk, hx, hz, hy, hy4⟩ := h8
  unfold exN
  by_cases h17 : k = 17
  · rw [if_pos h17]; exact h
  rw [if_neg h17]
  by_cases h16 : k = 16
  · rw [if_pos h16]; exact h.up (h x (by omega))
  rw [if_neg h16]
  by_cases h15 : k = 15
  · rw [if_pos h15]; exact h.up (h (4 + y) (by have := hy4 (by omega); omega))
  rw [if_neg h15]
  by_cases h14 : k = 14
  · rw [if_pos h14]
    refine h.up ?_
    by_cases h0 : w x = 0
    · rw [if_pos h0]; exact h z (by omega)
    · rw [if_neg h0]; exact h y hy
  rw [if_neg h14]
  by_cases h18 : k = 18
  · rw [if_pos h18]; exact (h.up (h y hy)).up (h x (by omega))
  rw [if_neg h18]
  exact h.up (mask_in hW _)
end S_60
section S_61
/-! the machine: runs, class and reference -/
def exO (W : Nat) (w o : Nat → Int32) : Nat → Int32 := exN W (o 0).toNatClampNeg (o 1).toNatClampNeg (o 2).toNatClampNeg (o 3).toNatClampNeg w
def exL (W : Nat) (os : List (Nat → Int32)) (w : Nat → Int32) : Nat → Int32 := os.foldl (exO W) w
def PWF (o : Nat → Int32) : Prop := ∃ k x y z, w8 x y z k ∧ o 0 = nI k ∧ o 1 = nI x ∧ o 2 = nI y ∧ o 3 = nI z
theorem exO_eq {W : Nat} {w o : Nat → Int32} {k x y z : Nat} (h8 : w8 x y z k) (e0 : o 0 = nI k) (e1 : o 1 = nI x) (e2 : o 2 = nI y) (e3 : o 3 = nI z) : exO W w o = exN W k x y z w := by
  obtain ⟨a, b, c, d, _⟩ := h8
  unfold exO
  rw [e0, e1, e2, e3, nI_clamp (by omega), nI_clamp (by omega), nI_clamp (by omega), nI_clamp (by omega)]
theorem exN_cong {W k x y z : Nat} (h8 : w8 x y z k) {w v : Nat → Int32} (e : ∀ i, i < 8 → w i = v i) : ∀ i, i < 8 → exN W k x y z w i = exN W k x y z v i := by
  obtain ⟨hk, hx, hz, hy, hy4⟩ := h8
  intro i hi
  unfold exN up6
  by_cases h17 : k = 17
  · rw [if_pos h17, if_pos h17]; exact e i hi
  rw [if_neg h17, if_neg h17]
  by_cases h16 : k = 16
  · rw [if_pos h16, if_pos h16, e x (by omega), e i hi]
  rw [if_neg h16, if_neg h16]
  by_cases h15 : k = 15
  · rw [if_pos h15, if_pos h15, e (4 + y) (by have := hy4 (by omega); omega), e i hi]
  rw [if_neg h15, if_neg h15]
  by_cases h14 : k = 14
  · rw [if_pos h14, if_pos h14, e x (by omega), e z (by omega), e y hy, e i hi]
  rw [if_neg h14, if_neg h14]
  by_cases h18 : k = 18
  · rw [if_pos h18, if_pos h18, e x (by omega), e y hy, e i hi]
  rw [if_neg h18, if_neg h18, e x (by omega), e (y % 4) (by omega), e i hi]
theorem exO_cong {W : Nat} {o : Nat → Int32} (hp : PWF o) {w v : Nat → Int32} (e : ∀ i, i < 8 → w i = v i) : ∀ i, i < 8 → exO W w o i = exO W v o i := by
  obtain ⟨k, x, y, z, h8, e0, e1, e2, e3⟩ := hp
  intro i hi
  rw [exO_eq h8 e0 e1 e2 e3, exO_eq h8 e0 e1 e2 e3]
  exact exN_cong h8 e i hi
theorem exL_cong {W : Nat} : ∀ (os : List (Nat → Int32)) (w v : Nat → Int32), (∀ o, o ∈ os → PWF o) → (∀ i, i < 8 → w i = v i) → ∀ i, i < 8 → exL W os w i = exL W os v i := by
  intro os
  induction os with
  | nil => intro w v _ e; exact e
  | cons o os ih =>
    intro w v hp e
    exact ih (exO W w o) (exO W v o) (fun p hpp => hp p (List.mem_cons_of_mem _ hpp)) (exO_cong (hp o List.mem_cons_self) e)
theorem WD.exO {W : Nat} (hW : W = 1 ∨ W = 2 ∨ W = 3) {w o : Nat → Int32} (h : WD W w) (hp : PWF o) : WD W (exO W w o) := by
  obtain ⟨k, x, y, z, h8, e0, e1, e2, e3⟩ := hp
  rw [exO_eq h8 e0 e1 e2 e3]
  exact h.ex hW h8
theorem WD.exL {W : Nat} (hW : W = 1 ∨ W = 2 ∨ W = 3) : ∀ (os : List (Nat → Int32)) (w : Nat → Int32), WD W w → (∀ o, o ∈ os → PWF o) → WD W (exL W os w) := by
  intro os
  induction os with
  | nil => intro w h _; exact h
  | cons o os ih =>
    intro w h hp
    exact ih _ (h.exO hW (hp o List.mem_cons_self)) (fun p hpp => hp p (List.mem_cons_of_mem _ hpp))
theorem jf_5_0 : jcode 5 0 = (1, 0, 0, 0, 1) ∧ jcode 5 1 = (1, 1, 0, 0, 2) ∧ jcode 5 2 = (20, 4, 9, 0, 5) ∧ jcode 5 5 = (1, 0, 0, 0, 6) ∧ jcode 5 6 = (21, 0, 10, 0, 9) := by decide +kernel
theorem jf_5_1 : jcode 5 9 = (1, 1, 0, 0, 10) ∧ jcode 5 10 = (46, 0, 0, 0, 11) := by decide +kernel
theorem k5_0 {d : Nat} {σ : jS} {x0 : Int32} {x1 : Int32} : jx d 5 0 [some (.int x0), some (.int x1)] [] σ = if x1 < x0 then jx d 5 9 [some (.int x0), some (.int x1)] [] σ else jx d 5 5 [some (.int x0), some (.int x1)] [] σ := (jx_iload jf_5_0.1 rfl).trans ((jx_iload jf_5_0.2.1 rfl).trans (jx_icgt jf_5_0.2.2.1))
theorem k5_5 {d : Nat} {σ : jS} {x0 : Int32} {l1 : Option Value} : jx d 5 5 [some (.int x0), l1] [] σ = some (some (.int x0), σ) := (jx_iload jf_5_0.2.2.2.1 rfl).trans ((jx_goto jf_5_0.2.2.2.2).trans (jx_iret jf_5_1.2))
theorem k5_9 {d : Nat} {σ : jS} {l0 : Option Value} {x1 : Int32} : jx d 5 9 [l0, some (.int x1)] [] σ = some (some (.int x1), σ) := (jx_iload jf_5_1.1 rfl).trans (jx_iret jf_5_1.2)
theorem jf_55_0 : jcode 55 0 = (3, 0, 0, 0, 1) ∧ jcode 55 1 = (3, 2, 0, 0, 2) ∧ jcode 55 2 = (14, 0, 0, 0, 3) ∧ jcode 55 3 = (19, 4, 10, 0, 6) ∧ jcode 55 6 = (3, 0, 0, 0, 7) := by decide +kernel
theorem jf_55_1 : jcode 55 7 = (21, 0, 11, 0, 10) ∧ jcode 55 10 = (3, 2, 0, 0, 11) ∧ jcode 55 11 = (49, 0, 0, 0, 12) := by decide +kernel
theorem k55_0 {d : Nat} {σ : jS} {j0 : Int64} {j2 : Int64} : jx d 55 0 [some (.long j0), none, some (.long j2), none] [] σ = if 0 < (lg_cmp j0 j2) then jx d 55 10 [some (.long j0), none, some (.long j2), none] [] σ else jx d 55 6 [some (.long j0), none, some (.long j2), none] [] σ := (jx_lload jf_55_0.1 rfl).trans ((jx_lload jf_55_0.2.1 rfl).trans ((jx_lcmp jf_55_0.2.2.1).trans (jx_ifgt jf_55_0.2.2.2.1)))
theorem k55_6 {d : Nat} {σ : jS} {j0 : Int64} {l2 : Option Value} : jx d 55 6 [some (.long j0), none, l2, none] [] σ = some (some (.long j0), σ) := (jx_lload jf_55_0.2.2.2.2 rfl).trans ((jx_goto jf_55_1.1).trans (jx_lret jf_55_1.2.2))
theorem k55_10 {d : Nat} {σ : jS} {l0 : Option Value} {j2 : Int64} : jx d 55 10 [l0, none, some (.long j2), none] [] σ = some (some (.long j2), σ) := (jx_lload jf_55_1.2.1 rfl).trans (jx_lret jf_55_1.2.2)

section MA2
variable {d : Nat} {W : Nat}
theorem c5 {σ : jS} (a b : Int32) : jx d 5 0 [some (.int a), some (.int b)] [] σ = some (some (.int (if b < a then b else a)), σ) := by
  rw [k5_0]
  by_cases h : b < a
  · rw [if_pos h, if_pos h, k5_9]
  · rw [if_neg h, if_neg h, k5_5]
theorem c157 {σ : jS} (hS : SH σ) (hW : W = 1 ∨ W = 2 ∨ W = 3) (hw : jI σ 640 47 = nI W) {k x y z : Nat} (h8 : w8 x y z k) (hD : WD W (jA σ 49)) :
    ∃ σ', jx d 157 0 [some (.ref 47), some (.int (nI k)), some (.int (nI x)), some (.int (nI y)), some (.int (nI z)), none, none, none, none] [] σ = some (none, σ') ∧ FR [49] σ σ' ∧ ∀ i, jA σ' 49 i = exN W k x y z (jA σ 49) i := by
  obtain ⟨hk, hx, hz, hy, hy4⟩ := h8
  have rn : jR σ 643 47 ≠ none := by rw [sR_643_47 hS]; exact fun z => nomatch z
  have rg : (jR σ 643 47).getD 0 = 49 := by rw [sR_643_47 hS]; rfl
  have gx : jin 8 (nI x) := jin_n (by omega) (by decide)
  have gy : jin 8 (nI (y % 4)) := jin_n (by omega) (by decide)
  have gyy : jin 8 (nI y) := jin_n (by omega) (by decide)
  have gz : jin 8 (nI z) := jin_n (by omega) (by decide)
  have qx : (nI x).toNatClampNeg = x := nI_clamp (by omega)
  have qy : (nI (y % 4)).toNatClampNeg = y % 4 := nI_clamp (by omega)
  have qyy : (nI y).toNatClampNeg = y := nI_clamp (by omega)
  have qz : (nI z).toNatClampNeg = z := nI_clamp (by omega)
  have t49 := sT_49 hS
  have n49 := sN_49 hS
  have t47 := sT_47 hS
  have mk : ((1 : Int32) <<< (nI W &&& 31)) - 1 = mkW W := rfl
  have up : ∀ (υ : jS) (j : Nat) (v : Int32) (i : Nat), jA (jsA υ 49 j v) 49 i = up6 (jA υ 49) j v i := by
    intro υ j v i
    rw [zA_A]
    unfold up6
    by_cases h : i = j
    · rw [if_pos ⟨rfl, h⟩, if_pos h]
    · rw [if_neg (fun w => h w.2), if_neg h]
  have start : jx d 157 0 [some (.ref 47), some (.int (nI k)), some (.int (nI x)), some (.int (nI y)), some (.int (nI z)), none, none, none, none] [] σ = jx d 157 (jsw 5 (nI k)) [some (.ref 47), some (.int (nI k)), some (.int (nI x)), some (.int (nI y)), some (.int (nI z)), some (.int (mkW W)), some (.int (jA σ 49 x)), some (.int (jA σ 49 (y % 4))), some (.int (jA σ 49 x))] [] σ := by
    rw [k157_0 t47 rn (by rw [rg]; exact Or.inl t49) (by rw [rg, n49]; exact gx) (by rw [rg, n49, and3 y hy]; exact gy), rg, hw, mk, qx, and3 y hy, qy]
  have fin : ∀ (υ : jS) (l1 l3 l4 l6 l7 : Option Value) (v : Int32), SH υ → jx d 157 319 [some (.ref 47), l1, some (.int (nI x)), l3, l4, some (.int (mkW W)), l6, l7, some (.int v)] [] υ = some (none, jsA υ 49 x (v &&& mkW W)) := by
    intro υ l1 l3 l4 l6 l7 v hSu
    have rg' : (jR υ 643 47).getD 0 = 49 := by rw [sR_643_47 hSu]; rfl
    rw [k157_319 (sT_47 hSu) (by rw [sR_643_47 hSu]; exact fun z => nomatch z) (by rw [rg']; exact sT_49 hSu) (by rw [rg', sN_49 hSu]; exact gx), rg', qx]
  have idm : ∀ i, i < 8 → jA σ 49 i &&& mkW W = jA σ 49 i := fun i hi => by
    obtain ⟨u, hu, eu⟩ := hD i hi
    rw [eu]; exact mask_id hW u hu
  have plain : ∀ pc v, jsw 5 (nI k) = pc → v = wkd k (jA σ 49 x) (jA σ 49 (y % 4)) (nI y) → k < 14 → (jx d 157 pc [some (.ref 47), some (.int (nI k)), some (.int (nI x)), some (.int (nI y)), some (.int (nI z)), some (.int (mkW W)), some (.int (jA σ 49 x)), some (.int (jA σ 49 (y % 4))), some (.int (jA σ 49 x))] [] σ = jx d 157 319 [some (.ref 47), some (.int (nI k)), some (.int (nI x)), some (.int (nI y)), some (.int (nI z)), some (.int (mkW W)), some (.int (jA σ 49 x)), some (.int (jA σ 49 (y % 4))), some (.int v)] [] σ) →
      ∃ σ', jx d 157 0 [some (.ref 47), some (.int (nI k)), some (.int (nI x)), some (.int (nI y)), some (.int (nI z)), none, none, none, none] [] σ = some (none, σ') ∧ FR [49] σ σ' ∧ ∀ i, jA σ' 49 i = exN W k x y z (jA σ 49) i := by
    intro pc v hs hv hk14 e
    refine ⟨jsA σ 49 x (v &&& mkW W), ?_, (FR.refl _ σ).A (by decide), fun i => ?_⟩
    · rw [start, hs, e, fin σ _ _ _ _ _ _ hS]
    · rw [up, hv]
      unfold exN
      rw [if_neg (by omega), if_neg (by omega), if_neg (by omega), if_neg (by omega), if_neg (by omega)]
  rcases k19 hk with h | h | h | h | h | h | h | h | h | h | h | h | h | h | h | h | h | h | h <;> subst h
  · exact plain 124 _ (by decide) rfl (by decide) (by rw [k157_124, if_neg (by decide)]; rfl)
  · exact plain 130 _ (by decide) rfl (by decide) (by rw [k157_130, if_neg (by decide)]; rfl)
  · exact plain 137 _ (by decide) rfl (by decide) (by rw [k157_137, if_neg (by decide)]; rfl)
  · exact plain 147 _ (by decide) rfl (by decide) (by rw [k157_147, if_neg (by decide)]; rfl)
  · exact plain 157 _ (by decide) rfl (by decide) (by rw [k157_157, if_neg (by decide)]; rfl)
  · exact plain 167 _ (by decide) rfl (by decide) (by rw [k157_167, if_neg (by decide)]; rfl)
  · exact plain 177 _ (by decide) rfl (by decide) (by rw [k157_177, if_neg (by decide)]; rfl)
  · exact plain 187 _ (by decide) rfl (by decide) (by rw [k157_187, if_neg (by decide)]; rfl)
  · exact plain 197 _ (by decide) rfl (by decide) (by rw [k157_197, if_neg (by decide)]; rfl)
  · exact plain 206 _ (by decide) rfl (by decide) (by rw [k157_206, if_neg (by decide)]; rfl)
  · exact plain 215 _ (by decide) rfl (by decide) (by rw [k157_215, if_neg (by decide)]; rfl)
  · exact plain 224 _ (by decide) rfl (by decide) (by rw [k157_224, if_neg (by decide)]; rfl)
  · exact plain 232 _ (by decide) rfl (by decide) (by rw [k157_232, if_neg (by decide)]; rfl)
  · exact plain 241 _ (by decide) rfl (by decide) (by rw [k157_241, if_neg (by decide)]; rfl)
  · have y4 : y % 4 = y := Nat.mod_eq_of_lt (hy4 (by decide))
    refine ⟨jsA σ 49 x ((if jA σ 49 x = 0 then jA σ 49 z else jA σ 49 y) &&& mkW W), ?_, (FR.refl _ σ).A (by decide), fun i => ?_⟩
    · rw [start, show jsw 5 (nI 14) = 250 by decide, k157_250]
      by_cases h0 : jA σ 49 x = 0
      · rw [if_pos h0, if_pos h0, k157_260 t47 rn (by rw [rg]; exact Or.inl t49) (by rw [rg, n49]; exact gz), if_neg (by decide), rg, qz, fin σ _ _ _ _ _ _ hS]
      · rw [if_neg h0, if_neg h0, k157_255, if_neg (by decide), fin σ _ _ _ _ _ _ hS, y4]
    · rw [up]
      show up6 _ x _ i = up6 (jA σ 49) x (if jA σ 49 x = 0 then jA σ 49 z else jA σ 49 y) i
      by_cases h0 : jA σ 49 x = 0
      · rw [if_pos h0, idm z (by omega)]
      · rw [if_neg h0, idm y hy]
  · have y4 : y < 4 := hy4 (by decide)
    have a4 : (4 : Int32) + nI y = nI (4 + y) := by rw [show (4 : Int32) = nI 4 from rfl, nadd]
    refine ⟨jsA σ 49 x (jA σ 49 (4 + y) &&& mkW W), ?_, (FR.refl _ σ).A (by decide), fun i => ?_⟩
    · rw [start, show jsw 5 (nI 15) = 272 by decide, k157_272 t47 rn (by rw [rg]; exact Or.inl t49) (by rw [rg, n49, a4]; exact jin_n (by omega) (by decide)), if_neg (by decide), rg, a4, nI_clamp (by omega), fin σ _ _ _ _ _ _ hS]
    · rw [up, idm (4 + y) (by omega)]
      rfl
  · have y4 : y < 4 := hy4 (by decide)
    have a4 : (4 : Int32) + nI y = nI (4 + y) := by rw [show (4 : Int32) = nI 4 from rfl, nadd]
    have hS1 : SH (jsA σ 49 (4 + y) (jA σ 49 x)) := by rw [SH_A]; exact hS
    refine ⟨jsA (jsA σ 49 (4 + y) (jA σ 49 x)) 49 x (jA σ 49 x &&& mkW W), ?_, ((FR.refl _ σ).A (by decide)).A (by decide), fun i => ?_⟩
    · rw [start, show jsw 5 (nI 16) = 285 by decide, k157_285 t47 rn (by rw [rg]; exact t49) (by rw [rg, n49, a4]; exact jin_n (by omega) (by decide)), if_neg (by decide), rg, a4, nI_clamp (by omega), fin _ _ _ _ _ _ _ hS1]
    · rw [up, idm x (by omega)]
      show up6 (jA (jsA σ 49 (4 + y) (jA σ 49 x)) 49) x (jA σ 49 x) i = up6 (jA σ 49) (4 + y) (jA σ 49 x) i
      unfold up6
      by_cases h : i = x
      · rw [if_pos h, if_neg (by omega), h]
      · rw [if_neg h]; exact up σ (4 + y) (jA σ 49 x) i
  · refine ⟨σ, ?_, FR.refl _ σ, fun i => rfl⟩
    rw [start, show jsw 5 (nI 17) = 313 by decide, k157_313, if_pos (by decide), k157_330]
  · have y4 : y % 4 = y := Nat.mod_eq_of_lt (hy4 (by decide))
    have hS1 : SH (jsA σ 49 y (jA σ 49 x)) := by rw [SH_A]; exact hS
    refine ⟨jsA (jsA σ 49 y (jA σ 49 x)) 49 x (jA σ 49 y &&& mkW W), ?_, ((FR.refl _ σ).A (by decide)).A (by decide), fun i => ?_⟩
    · rw [start, show jsw 5 (nI 18) = 298 by decide, k157_298 t47 rn (by rw [rg]; exact t49) (by rw [rg, n49]; exact gyy), if_neg (by decide), rg, qyy, fin _ _ _ _ _ _ _ hS1, y4]
    · rw [up, idm y hy]
      show up6 (jA (jsA σ 49 y (jA σ 49 x)) 49) x (jA σ 49 y) i = up6 (up6 (jA σ 49) x (jA σ 49 y)) y (jA σ 49 x) i
      have u1 := up σ y (jA σ 49 x) i
      unfold up6 at u1 ⊢
      by_cases h : i = x
      · rw [if_pos h]
        by_cases h2 : i = y
        · rw [if_pos h2, ← h2, ← h]
        · rw [if_neg h2, if_pos h]
      · rw [if_neg h, u1, if_neg h]
end MA2
end S_61
section S_62
/-! the machine: outcome and ran -/
def RO (σ : jS) (q a m : Nat) (os : List (Nat → Int32)) : Prop := RW σ q a m os.length ∧ RC σ q a os
/-- the reference's rows hold this program at p -/
def PM (σ : jS) (p : Nat) (os : List (Nat → Int32)) : Prop := jA σ 65 p = nI os.length ∧ os.length ≤ 24 ∧ ∀ i j, i < os.length → j < 4 → jA σ (66 + j) (24 * p + i) = (os.getD i (fun _ => 0)) j
theorem RO.frame {σ σ' : jS} {l : List Nat} {q a m : Nat} {os : List (Nat → Int32)} (h : RO σ q a m os) (f : FR l σ σ') (hq : q ∉ l) (ha : a ∉ l) : RO σ' q a m os := ⟨h.1.frame f hq, h.2.frame f hq ha⟩
theorem drop_cons {os : List (Nat → Int32)} {n : Nat} (h : n < os.length) : os.drop n = os.getD n (fun _ => 0) :: os.drop (n + 1) := by
  rw [List.drop_eq_getElem_cons h, List.getD_eq_getElem?_getD, List.getElem?_eq_getElem h]
  rfl
theorem mem_getD {os : List (Nat → Int32)} {n : Nat} (h : n < os.length) : os.getD n (fun _ => 0) ∈ os := by
  rw [List.getD_eq_getElem?_getD, List.getElem?_eq_getElem h]
  exact List.getElem_mem h
section MA3
variable {d : Nat} {W : Nat}
theorem c69 {σ : jS} {M m q a most : Nat} {os : List (Nat → Int32)} (tM : jT σ M = 3) (rM : jR σ 128 M = some m) (tm : jT σ m = 20) (nm : jN σ m = 8) (hR : RO σ q a most os) (qm : ¬ q = m) (am : ¬ a = m) (hp : ∀ o, o ∈ os → PWF o) (hW : W = 1 ∨ W = 2 ∨ W = 3) (bits : Int32) :
    ∃ σ', jx (d + 2) 69 0 [some (.ref M), some (.ref q), some (.int bits), some (.int (nI W)), none, none, none, none] [] σ = some (some (.int (pkU W (exL W os (unp W bits)) 8)), σ') ∧ FR [m] σ σ' := by
  obtain ⟨⟨r1, r2, r3, r4, r5, r6, r7, r8⟩, c1, c2⟩ := hR
  have L1 : ∀ f n σ1, n + f = 8 → FR [m] σ σ1 → (∀ i, i < n → jA σ1 m i = unp W bits i) → ∃ σ2, jx (d + 2) 69 10 [some (.ref M), some (.ref q), some (.int bits), some (.int (nI W)), some (.int (mkW W)), some (.int (nI n)), none, none] [] σ1 = jx (d + 2) 69 42 [some (.ref M), some (.ref q), some (.int bits), some (.int (nI W)), some (.int (mkW W)), some (.int (nI 8)), none, none] [] σ2 ∧ FR [m] σ σ2 ∧ ∀ i, i < 8 → jA σ2 m i = unp W bits i := by
    intro f
    induction f with
    | zero =>
      intro n σ1 hn F h
      have n8 : n = 8 := by omega
      subst n8
      refine ⟨σ1, ?_, F, h⟩
      have rg : (jR σ1 128 M).getD 0 = m := by rw [F.1.2.2.1, rM]; rfl
      rw [k69_10 (by rw [F.1.1]; exact tM) (by rw [F.1.2.2.1, rM]; exact fun z => nomatch z) (by rw [rg, F.1.1, tm]; decide), rg, F.1.2.1, nm, if_pos (show Int32.ofNat 8 ≤ nI 8 by decide)]
    | succ f ih =>
      intro n σ1 hn F h
      have rg : (jR σ1 128 M).getD 0 = m := by rw [F.1.2.2.1, rM]; rfl
      have rn : jR σ1 128 M ≠ none := by rw [F.1.2.2.1, rM]; exact fun z => nomatch z
      have tM1 : jT σ1 M = 3 := by rw [F.1.1]; exact tM
      have gt : ¬ Int32.ofNat 8 ≤ nI n := nI_ge (by omega) (by omega)
      obtain ⟨σ2, e2, F2, h2⟩ := ih (n + 1) (jsA σ1 m n (unp W bits n)) (by omega) (F.A (by simp)) (fun i hi => by
        rw [zA_A]
        by_cases e : i = n
        · rw [if_pos ⟨rfl, e⟩, e]
        · rw [if_neg (fun w => e w.2)]; exact h i (by omega))
      refine ⟨σ2, ?_, F2, h2⟩
      rw [← e2, k69_10 tM1 rn (by rw [rg, F.1.1, tm]; decide), rg, F.1.2.1, nm, if_neg gt]
      rw [k69_20 tM1 rn (by rw [rg, F.1.1]; exact tm) (by rw [rg, F.1.2.1, nm]; exact jin_n (by omega) (by decide)), rg, nI_clamp (by omega), ← nI_succ]
      rfl
  have L2 : ∀ f n σ1 w, n + f = os.length → FR [m] σ σ1 → (∀ i, i < 8 → jA σ1 m i = w i) → ∃ σ2, jx (d + 2) 69 61 [some (.ref M), some (.ref q), some (.int bits), some (.int (nI W)), some (.int (mkW W)), some (.int (nI (6 * os.length))), some (.int (nI (6 * n))), none] [] σ1 = jx (d + 2) 69 86 [some (.ref M), some (.ref q), some (.int bits), some (.int (nI W)), some (.int (mkW W)), some (.int (nI (6 * os.length))), some (.int (nI (6 * os.length))), none] [] σ2 ∧ FR [m] σ σ2 ∧ ∀ i, i < 8 → jA σ2 m i = exL W (os.drop n) w i := by
    intro f
    induction f with
    | zero =>
      intro n σ1 w hn F h
      have nn : n = os.length := by omega
      subst nn
      refine ⟨σ1, ?_, F, fun i hi => ?_⟩
      · rw [k69_61, if_pos (nI_le (Nat.le_refl _) (by omega))]
      · rw [List.drop_length]; exact h i hi
    | succ f ih =>
      intro n σ1 w hn F h
      have hlt : n < os.length := by omega
      have hqn : q ∉ [m] := by simpa using qm
      have han : a ∉ [m] := by simpa using am
      obtain ⟨k, x, y, z, h8, e0, e1, e2, e3⟩ := hp _ (mem_getD hlt)
      have rd : ∀ j, j < 6 → jA σ1 a (6 * n + j) = (os.getD n (fun _ => 0)) j := fun j hj => by rw [(F.2 a han).2]; exact c2 n j hlt hj
      obtain ⟨σ2, g1, g2, g3⟩ := c70 (d := d) (σ := σ1) (W := W) (M := M) (m := m) (a := a) (N := 6 * most) (F := 6 * n) (by rw [F.1.1]; exact tM) (by rw [F.1.2.2.1]; exact rM) (by rw [F.1.1]; exact tm) (by rw [F.1.2.1]; exact nm) (by rw [F.1.1]; exact r3) (by rw [F.1.2.1]; exact r4) (by omega) (by omega) am h8 ((rd 0 (by decide)).trans e0) (by rw [rd 1 (by decide), e1]) (by rw [rd 2 (by decide), e2]) (fun _ => by rw [rd 3 (by decide), e3])
      have F2 := F.trans g2
      obtain ⟨σ3, e4, F3, h3⟩ := ih (n + 1) σ2 (exO W w (os.getD n (fun _ => 0))) (by omega) F2 (fun i hi => by
        rw [g3 i, exO_eq h8 e0 e1 e2 e3]
        exact exN_cong h8 h i hi)
      refine ⟨σ3, ?_, F3, fun i hi => ?_⟩
      · rw [← e4, k69_61, if_neg (nI_ge (by omega) (by omega)), k69_68 (by rw [F.1.1]; exact r1) (by rw [F.1.2.2.1, r2]; exact fun z => nomatch z) (by rw [F.1.1]; exact tM)]
        have ra : (jR σ1 258 q).getD 0 = a := by rw [F.1.2.2.1, r2]; rfl
        rw [ra, g1]
        simp only [Option.bind_some, Option.toList_none, List.nil_append]
        rw [k69_80]
        have p6 : nI (6 * n) + 6 = nI (6 * (n + 1)) := by rw [show (6 : Int32) = nI 6 from rfl, nadd]; congr 1
        rw [p6]
      · rw [drop_cons hlt]; exact h3 i hi
  have L3 : ∀ f n σ2, n + f = 8 → FR [m] σ σ2 → jx (d + 2) 69 92 [some (.ref M), some (.ref q), some (.int bits), some (.int (nI W)), some (.int (mkW W)), some (.int (nI (6 * os.length))), some (.int (pkU W (jA σ2 m) n)), some (.int (nI n))] [] σ2 = some (some (.int (pkU W (jA σ2 m) 8)), σ2) := by
    intro f
    induction f with
    | zero =>
      intro n σ2 hn F
      have n8 : n = 8 := by omega
      subst n8
      have rg : (jR σ2 128 M).getD 0 = m := by rw [F.1.2.2.1, rM]; rfl
      rw [k69_92 (by rw [F.1.1]; exact tM) (by rw [F.1.2.2.1, rM]; exact fun z => nomatch z) (by rw [rg, F.1.1, tm]; decide), rg, F.1.2.1, nm, if_pos (show Int32.ofNat 8 ≤ nI 8 by decide), k69_125]
    | succ f ih =>
      intro n σ2 hn F
      have rg : (jR σ2 128 M).getD 0 = m := by rw [F.1.2.2.1, rM]; rfl
      have rn : jR σ2 128 M ≠ none := by rw [F.1.2.2.1, rM]; exact fun z => nomatch z
      have tM1 : jT σ2 M = 3 := by rw [F.1.1]; exact tM
      have gt : ¬ Int32.ofNat 8 ≤ nI n := nI_ge (by omega) (by omega)
      rw [k69_92 tM1 rn (by rw [rg, F.1.1, tm]; decide), rg, F.1.2.1, nm, if_neg gt]
      rw [k69_102 tM1 rn (by rw [rg, F.1.1]; exact Or.inl tm) (by rw [rg, F.1.2.1, nm]; exact jin_n (by omega) (by decide)), rg, nI_clamp (by omega), ← nI_succ]
      exact ih (n + 1) σ2 (by omega) F
  obtain ⟨σ1, e1, F1, h1⟩ := L1 8 0 σ rfl (FR.refl _ σ) (fun i hi => absurd hi (Nat.not_lt_zero i))
  obtain ⟨σ2, e2, F2, h2⟩ := L2 os.length 0 σ1 (unp W bits) (by omega) F1 h1
  have e3 := L3 8 0 σ2 rfl F2
  have hqn : q ∉ [m] := by simpa using qm
  have hmin : (if nI most < nI os.length then nI most else nI os.length) = nI os.length := if_neg (by rw [n31 (by omega) (by omega)]; omega)
  refine ⟨σ2, ?_, F2⟩
  have k1 : jx (d + 2) 69 0 [some (.ref M), some (.ref q), some (.int bits), some (.int (nI W)), none, none, none, none] [] σ = jx (d + 2) 69 42 [some (.ref M), some (.ref q), some (.int bits), some (.int (nI W)), some (.int (mkW W)), some (.int (nI 8)), none, none] [] σ1 := by
    rw [k69_0]; exact e1
  rw [k1, k69_42 (by rw [F1.1.1]; exact r1), (F1.2 q hqn).1, (F1.2 q hqn).1, r6, r5, c5, hmin]
  simp only [Option.bind_some, Option.toList_some, List.cons_append, List.nil_append]
  have m6 : nI os.length * 6 = nI (6 * os.length) := by rw [show (6 : Int32) = nI 6 from rfl, nmul, Nat.mul_comm]
  rw [k69_53, m6]
  have e2' : jx (d + 2) 69 61 [some (.ref M), some (.ref q), some (.int bits), some (.int (nI W)), some (.int (mkW W)), some (.int (nI (6 * os.length))), some (.int 0), none] [] σ1 = jx (d + 2) 69 86 [some (.ref M), some (.ref q), some (.int bits), some (.int (nI W)), some (.int (mkW W)), some (.int (nI (6 * os.length))), some (.int (nI (6 * os.length))), none] [] σ2 := e2
  rw [e2', k69_86]
  have e3' : jx (d + 2) 69 92 [some (.ref M), some (.ref q), some (.int bits), some (.int (nI W)), some (.int (mkW W)), some (.int (nI (6 * os.length))), some (.int 0), some (.int 0)] [] σ2 = some (some (.int (pkU W (jA σ2 m) 8)), σ2) := e3
  rw [e3', pkU_cong 8 h2, List.drop_zero]
theorem c193 {σ : jS} (hS : SH σ) (hW : W = 1 ∨ W = 2 ∨ W = 3) (hw : jI σ 640 47 = nI W) {p : Nat} (hp16 : p < 16) {os : List (Nat → Int32)} (hP : PM σ p os) (hp : ∀ o, o ∈ os → PWF o) (bits : Int32) :
    ∃ σ', jx (d + 1) 193 0 [some (.ref 47), some (.int (nI p)), some (.int bits), none, none, none] [] σ = some (some (.int (pkU W (exL W os (unp W bits)) 8)), σ') ∧ FR [49] σ σ' := by
  obtain ⟨c0, c1, c2⟩ := hP
  have S1 : ∀ σ1, FR [49] σ σ1 → SH σ1 ∧ jI σ1 640 47 = nI W := fun σ1 F => ⟨F.sh hS, by rw [(F.2 47 (by decide)).1]; exact hw⟩
  have L1 : ∀ f n σ1, n + f = 8 → FR [49] σ σ1 → (∀ i, i < n → jA σ1 49 i = unp W bits i) → ∃ σ2, jx (d + 1) 193 12 [some (.ref 47), some (.int (nI p)), some (.int bits), some (.int (mkW W)), some (.int (nI n)), none] [] σ1 = jx (d + 1) 193 43 [some (.ref 47), some (.int (nI p)), some (.int bits), some (.int (mkW W)), some (.int (nI 8)), none] [] σ2 ∧ FR [49] σ σ2 ∧ ∀ i, i < 8 → jA σ2 49 i = unp W bits i := by
    intro f
    induction f with
    | zero =>
      intro n σ1 hn F h
      have n8 : n = 8 := by omega
      subst n8
      exact ⟨σ1, by rw [k193_12, if_pos (by decide)], F, h⟩
    | succ f ih =>
      intro n σ1 hn F h
      obtain ⟨hS1, hw1⟩ := S1 σ1 F
      have rg : (jR σ1 643 47).getD 0 = 49 := by rw [sR_643_47 hS1]; rfl
      have gt : ¬ (8 : Int32) ≤ nI n := nI_ge (b := 8) (by omega) (by omega)
      obtain ⟨σ2, e2, F2, h2⟩ := ih (n + 1) (jsA σ1 49 n (unp W bits n)) (by omega) (F.A (by decide)) (fun i hi => by
        rw [zA_A]
        by_cases e : i = n
        · rw [if_pos ⟨rfl, e⟩, e]
        · rw [if_neg (fun w => e w.2)]; exact h i (by omega))
      refine ⟨σ2, ?_, F2, h2⟩
      rw [← e2, k193_12, if_neg gt, k193_19 (sT_47 hS1) (by rw [sR_643_47 hS1]; exact fun z => nomatch z) (by rw [rg]; exact sT_49 hS1) (by rw [rg, sN_49 hS1]; exact jin_n (by omega) (by decide)), rg, nI_clamp (by omega), ← nI_succ, hw1]
      rfl
  have L2 : ∀ f n σ1 w l5, n + f = os.length → FR [49] σ σ1 → WD W w → (∀ i, i < 8 → jA σ1 49 i = w i) → ∃ σ2 v5, jx (d + 1) 193 46 [some (.ref 47), some (.int (nI p)), some (.int bits), some (.int (mkW W)), some (.int (nI n)), l5] [] σ1 = jx (d + 1) 193 104 [some (.ref 47), some (.int (nI p)), some (.int bits), some (.int (mkW W)), some (.int (nI os.length)), v5] [] σ2 ∧ FR [49] σ σ2 ∧ ∀ i, i < 8 → jA σ2 49 i = exL W (os.drop n) w i := by
    intro f
    induction f with
    | zero =>
      intro n σ1 w l5 hn F hD h
      have nn : n = os.length := by omega
      subst nn
      obtain ⟨hS1, hw1⟩ := S1 σ1 F
      have rg : (jR σ1 661 47).getD 0 = 65 := by rw [sR_661_47 hS1]; rfl
      refine ⟨σ1, l5, ?_, F, fun i hi => ?_⟩
      · rw [k193_46 (sT_47 hS1) (by rw [sR_661_47 hS1]; exact fun z => nomatch z) (by rw [rg]; exact Or.inl (sT_65 hS1)) (by rw [rg, sN_65 hS1]; exact jin_n hp16 (by decide)), rg, nI_clamp (by omega), (F.2 65 (by decide)).2, c0, if_pos (nI_le (Nat.le_refl _) (by omega))]
      · rw [List.drop_length]; exact h i hi
    | succ f ih =>
      intro n σ1 w l5 hn F hD h
      have hlt : n < os.length := by omega
      obtain ⟨hS1, hw1⟩ := S1 σ1 F
      have rg : (jR σ1 661 47).getD 0 = 65 := by rw [sR_661_47 hS1]; rfl
      obtain ⟨k, x, y, z, h8, e0, e1, e2, e3⟩ := hp _ (mem_getD hlt)
      have rd : ∀ j, j < 4 → jA σ1 (66 + j) (24 * p + n) = (os.getD n (fun _ => 0)) j := fun j hj => by rw [(F.2 (66 + j) (by simp; omega)).2]; exact c2 n j hlt hj
      have hk24 : (24 : Int32) * nI p + nI n = nI (24 * p + n) := by rw [show (24 : Int32) = nI 24 from rfl, nmul, nadd]
      have g24 : jin 384 (nI (24 * p + n)) := jin_n (by omega) (by decide)
      have q24 : (nI (24 * p + n)).toNatClampNeg = 24 * p + n := nI_clamp (by omega)
      have D1 : WD W (jA σ1 49) := hD.cong h
      obtain ⟨σ2, g1, g2, g3⟩ := c157 (d := d) hS1 hW hw1 h8 D1
      have F2 := F.trans g2
      obtain ⟨σ3, v5, e4, F3, h3⟩ := ih (n + 1) σ2 (exO W w (os.getD n (fun _ => 0))) (some (.int (nI (24 * p + n)))) (by omega) F2 (hD.exO hW (hp _ (mem_getD hlt))) (fun i hi => by
        rw [g3 i, exO_eq h8 e0 e1 e2 e3]
        exact exN_cong h8 h i hi)
      refine ⟨σ3, v5, ?_, F3, fun i hi => ?_⟩
      · rw [← e4, k193_46 (sT_47 hS1) (by rw [sR_661_47 hS1]; exact fun z => nomatch z) (by rw [rg]; exact Or.inl (sT_65 hS1)) (by rw [rg, sN_65 hS1]; exact jin_n hp16 (by decide)), rg, nI_clamp (by omega), (F.2 65 (by decide)).2, c0, if_neg (nI_ge (by omega) (by omega))]
        have r66 : (jR σ1 662 47).getD 0 = 66 := by rw [sR_662_47 hS1]; rfl
        have r67 : (jR σ1 663 47).getD 0 = 67 := by rw [sR_663_47 hS1]; rfl
        have r68 : (jR σ1 664 47).getD 0 = 68 := by rw [sR_664_47 hS1]; rfl
        have r69 : (jR σ1 665 47).getD 0 = 69 := by rw [sR_665_47 hS1]; rfl
        rw [k193_57 (sT_47 hS1) (by rw [sR_662_47 hS1]; exact fun z => nomatch z) (by rw [r66]; exact Or.inl (sT_66 hS1)) (by rw [r66, sN_66 hS1, hk24]; exact g24) (by rw [sR_663_47 hS1]; exact fun z => nomatch z) (by rw [r67]; exact Or.inl (sT_67 hS1)) (by rw [r67, sN_67 hS1, hk24]; exact g24) (by rw [sR_664_47 hS1]; exact fun z => nomatch z) (by rw [r68]; exact Or.inl (sT_68 hS1)) (by rw [r68, sN_68 hS1, hk24]; exact g24) (by rw [sR_665_47 hS1]; exact fun z => nomatch z) (by rw [r69]; exact Or.inl (sT_69 hS1)) (by rw [r69, sN_69 hS1, hk24]; exact g24)]
        rw [r66, r67, r68, r69, hk24, q24, rd 0 (by decide), rd 1 (by decide), rd 2 (by decide), rd 3 (by decide), e0, e1, e2, e3, g1]
        simp only [Option.bind_some, Option.toList_none, List.nil_append]
        rw [k193_98, ← nI_succ]
      · rw [drop_cons hlt]; exact h3 i hi
  have L3 : ∀ f n σ2 v4, n + f = 8 → FR [49] σ σ2 → v4 = pkD W (jA σ2 49) n → jx (d + 1) 193 111 [some (.ref 47), some (.int (nI p)), some (.int bits), some (.int (mkW W)), some (.int v4), some (.int (7 - nI n))] [] σ2 = some (some (.int (pkD W (jA σ2 49) 8)), σ2) := by
    intro f
    induction f with
    | zero =>
      intro n σ2 v4 hn F e
      have n8 : n = 8 := by omega
      subst n8
      rw [k193_111, if_pos (by decide), k193_139, e]
    | succ f ih =>
      intro n σ2 v4 hn F e
      obtain ⟨hS1, hw1⟩ := S1 σ2 F
      have rg : (jR σ2 643 47).getD 0 = 49 := by rw [sR_643_47 hS1]; rfl
      have s7 : (7 : Int32) - nI n = nI (7 - n) := by rw [show (7 : Int32) = nI 7 from rfl, nsub (by omega)]
      have ng : ¬ nI (7 - n) < 0 := by
        rw [Int32.lt_iff_toInt_lt, nI_toInt (by omega)]
        have : (0 : Int32).toInt = 0 := rfl
        omega
      have nx : nI (7 - n) + (-1) = 7 - nI (n + 1) := by
        rw [← s7, nI_succ]
        rw [Int32.sub_eq_add_neg, Int32.sub_eq_add_neg, Int32.neg_add, Int32.add_assoc, Int32.sub_eq_add_neg]
      rw [s7, k193_111, if_neg ng, k193_116 (sT_47 hS1) (by rw [sR_643_47 hS1]; exact fun z => nomatch z) (by rw [rg]; exact Or.inl (sT_49 hS1)) (by rw [rg, sN_49 hS1]; exact jin_n (by omega) (by decide)), rg, nI_clamp (by omega), hw1, nx]
      refine ih (n + 1) σ2 _ (by omega) F ?_
      rw [e]
      rfl
  obtain ⟨σ1, e1, F1, h1⟩ := L1 8 0 σ rfl (FR.refl _ σ) (fun i hi => absurd hi (Nat.not_lt_zero i))
  obtain ⟨σ2, v5, e2, F2, h2⟩ := L2 os.length 0 σ1 (unp W bits) none (by omega) F1 (unp_WD hW bits) h1
  have e3 := L3 8 0 σ2 0 rfl F2 rfl
  refine ⟨σ2, ?_, F2⟩
  have k1 : jx (d + 1) 193 0 [some (.ref 47), some (.int (nI p)), some (.int bits), none, none, none] [] σ = jx (d + 1) 193 43 [some (.ref 47), some (.int (nI p)), some (.int bits), some (.int (mkW W)), some (.int (nI 8)), none] [] σ1 := by
    rw [k193_0 (sT_47 hS), hw]; exact e1
  have D2 : WD W (jA σ2 49) := (WD.exL hW os _ (unp_WD hW bits) hp).cong (fun i hi => by rw [h2 i hi, List.drop_zero])
  rw [k1, k193_43]
  have e2' : jx (d + 1) 193 46 [some (.ref 47), some (.int (nI p)), some (.int bits), some (.int (mkW W)), some (.int 0), none] [] σ1 = jx (d + 1) 193 104 [some (.ref 47), some (.int (nI p)), some (.int bits), some (.int (mkW W)), some (.int (nI os.length)), v5] [] σ2 := e2
  rw [e2', k193_104]
  have e3' : jx (d + 1) 193 111 [some (.ref 47), some (.int (nI p)), some (.int bits), some (.int (mkW W)), some (.int 0), some (.int 7)] [] σ2 = some (some (.int (pkD W (jA σ2 49) 8)), σ2) := e3
  rw [e3', ← pk_same hW D2, pkU_cong 8 h2, List.drop_zero]
end MA3
end S_62
section S_63
/-! rows of the class: what stands there, cells, prices, the greatest number of a mark -/
def opO (o : Nat → Int32) : Nat := (o 0).toNatClampNeg
def OPk (o : Nat → Int32) : Prop := opO o < 19 ∧ o 0 = nI (opO o)
def prcL (os : List (Nat → Int32)) (a : Int32) : Int32 := os.foldl (fun a o => a + nI (priN (opO o))) a
theorem celO_op (o : Nat → Int32) : celO o = celN (opO o) := rfl
section ROW
variable {d : Nat} {σ : jS} {q a m : Nat} {os : List (Nat → Int32)}
theorem c52 (hR : RW σ q a m os.length) (x : Int32) : jx d 52 0 [some (.ref q), some (.int x)] [] σ = some (some (.int (if ¬ x < 0 ∧ x < nI os.length then 1 else 0)), σ) := by
  obtain ⟨r1, r2, r3, r4, r5, r6, r7, r8⟩ := hR
  rw [k52_0]
  by_cases h0 : x < 0
  · rw [if_pos h0, k52_24, if_neg (fun z => z.1 h0)]
  · rw [if_neg h0, k52_4 r1, r6]
    by_cases h1 : nI os.length ≤ x
    · rw [if_pos h1, k52_24, if_neg (fun z => absurd z.2 (Int32.not_lt.mpr h1))]
    · have h2 : x < nI os.length := Int32.not_le.mp h1
      have h3 : ¬ nI m ≤ x := by
        rw [Int32.not_le]
        refine Int32.lt_of_lt_of_le h2 ?_
        exact nI_le r7 (by omega)
      rw [if_neg h1, k52_12 r1, r5, if_neg h3, k52_20, if_pos ⟨h0, h2⟩]
theorem nn0 {k : Nat} (h : k < 2 ^ 31) : ¬ nI k < 0 := by
  rw [Int32.lt_iff_toInt_lt, nI_toInt h]
  have : (0 : Int32).toInt = 0 := rfl
  omega
theorem c51 (hR : RO σ q a m os) {i j : Nat} (hi : i < os.length) (hj : j < 6) : jx (d + 1) 51 0 [some (.ref q), some (.int (nI i)), some (.int (nI j))] [] σ = some (some (.int ((os.getD i (fun _ => 0)) j)), σ) := by
  obtain ⟨hR1, c1, c2⟩ := hR
  have hh := c52 (d := d) hR1 (nI i)
  obtain ⟨r1, r2, r3, r4, r5, r6, r7, r8⟩ := hR1
  rw [if_pos ⟨nn0 (by omega), by rw [n31 (by omega) (by omega)]; exact hi⟩] at hh
  have e6 : nI i * 6 + nI j = nI (6 * i + j) := by rw [show (6 : Int32) = nI 6 from rfl, nmul, nadd, Nat.mul_comm]
  have ra : (jR σ 258 q).getD 0 = a := by rw [r2]; rfl
  have j6 : ¬ (6 : Int32) ≤ nI j := nI_ge (b := 6) (by omega) (by omega)
  rw [k51_0 r1, hh]
  simp only [Option.bind_some, Option.toList_some, List.cons_append, List.nil_append]
  rw [k51_5, if_neg (by decide), k51_8, if_neg (nn0 (by omega)), k51_12, if_neg j6, k51_18 r1 (by rw [r2]; exact fun z => nomatch z) (by rw [ra]; exact Or.inl r3) (by rw [ra, r4, e6]; exact jin_n (by omega) (by omega)), ra, e6, nI_clamp (by omega), c2 i j hi hj]
theorem c50 (hR : RO σ q a m os) (hk : ∀ o, o ∈ os → OPk o) : jx (d + 2) 50 0 [some (.ref q), none, none] [] σ = some (some (.int (if os.any celO = true then 1 else 0)), σ) := by
  have hr := hR.1
  obtain ⟨r1, r2, r3, r4, r5, r6, r7, r8⟩ := hr
  have L : ∀ f n (v : Bool), n + f = os.length → jx (d + 2) 50 4 [some (.ref q), some (.int (if v = true then 1 else 0)), some (.int (nI n))] [] σ = some (some (.int (if (v || (os.drop n).any celO) = true then 1 else 0)), σ) := by
    intro f
    induction f with
    | zero =>
      intro n v hn
      have nn : n = os.length := by omega
      subst nn
      rw [k50_4 r1, r6, if_pos (nI_le (Nat.le_refl _) (by omega)), List.drop_length, List.any_nil, Bool.or_false]
      cases v with
      | true => rw [if_pos rfl, k50_40 (by decide)]
      | false => rw [if_neg (by decide), k50_40 (by decide)]
    | succ f ih =>
      intro n v hn
      have hlt : n < os.length := by omega
      have ho := hk _ (mem_getD hlt)
      have e := c51 (d := d) hR hlt (j := 0) (by decide)
      have e : jx (d + 1) 51 0 [some (.ref q), some (.int (nI n)), some (.int 0)] [] σ = some (some (.int ((os.getD n (fun _ => 0)) 0)), σ) := e
      rw [k50_4 r1, r6, if_neg (nI_ge (by omega) (by omega)), k50_12, drop_cons hlt, List.any_cons]
      cases v with
      | true =>
        have := ih (n + 1) true (by omega)
        rw [if_pos rfl] at this ⊢
        rw [if_pos (by decide), k50_28, ← nI_succ, this]
        rw [Bool.true_or, Bool.true_or]
      | false =>
        rw [if_neg (by decide : ¬ (false = true)), if_neg (fun z => z rfl), k50_16 r1, e]
        simp only [Option.bind_some, Option.toList_some, List.cons_append, List.nil_append]
        rw [k50_22, ho.2, c41 ho.1]
        simp only [Option.bind_some, Option.toList_some, List.cons_append, List.nil_append]
        rw [k50_25]
        have hc : celO (os.getD n (fun _ => 0)) = celN (opO (os.getD n (fun _ => 0))) := rfl
        by_cases hcl : celN (opO (os.getD n (fun _ => 0))) = true
        · have := ih (n + 1) true (by omega)
          rw [if_pos rfl] at this
          rw [if_pos hcl, if_neg (by decide), k50_28, ← nI_succ, this, hc, hcl, Bool.true_or]
          rfl
        · have := ih (n + 1) false (by omega)
          rw [if_neg (by decide : ¬ (false = true))] at this
          rw [if_neg hcl, if_pos rfl, k50_32, ← nI_succ, this, hc, Bool.eq_false_iff.mpr hcl, Bool.false_or, Bool.false_or]
  have := L os.length 0 false (by omega)
  rw [k50_0]
  rw [if_neg (by decide : ¬ (false = true)), List.drop_zero, Bool.false_or] at this
  exact this
theorem c74 (hR : RO σ q a m os) (hS : SH σ) (hQ : ST σ) (hk : ∀ o, o ∈ os → OPk o) : jx (d + 2) 74 0 [some (.ref q), none, none] [] σ = some (some (.int (prcL os 0)), σ) := by
  have hr := hR.1
  obtain ⟨r1, r2, r3, r4, r5, r6, r7, r8⟩ := hr
  have L : ∀ f n v, n + f = os.length → jx (d + 2) 74 4 [some (.ref q), some (.int v), some (.int (nI n))] [] σ = some (some (.int (prcL (os.drop n) v)), σ) := by
    intro f
    induction f with
    | zero =>
      intro n v hn
      have nn : n = os.length := by omega
      subst nn
      rw [k74_4 r1, r6, if_pos (nI_le (Nat.le_refl _) (by omega)), List.drop_length, k74_30]
      rfl
    | succ f ih =>
      intro n v hn
      have hlt : n < os.length := by omega
      have ho := hk _ (mem_getD hlt)
      have e := c51 (d := d) hR hlt (j := 0) (by decide)
      have e : jx (d + 1) 51 0 [some (.ref q), some (.int (nI n)), some (.int 0)] [] σ = some (some (.int ((os.getD n (fun _ => 0)) 0)), σ) := e
      rw [k74_4 r1, r6, if_neg (nI_ge (by omega) (by omega)), k74_12 r1, e]
      simp only [Option.bind_some, Option.toList_some, List.cons_append, List.nil_append]
      rw [k74_19, ho.2, c75 hS hQ ho.1]
      simp only [Option.bind_some, Option.toList_some, List.cons_append, List.nil_append]
      rw [k74_22, ← nI_succ, ih (n + 1) _ (by omega), drop_cons hlt]
      rfl
  rw [k74_0]
  have := L os.length 0 0 (by omega)
  rw [List.drop_zero] at this
  exact this
theorem c54 {k W : Nat} (hk : k < 19) : jx (d + 1) 54 0 [some (.int (nI k)), some (.int (nI W))] [] σ = some (some (.int (bdM W k)), σ) := by
  rw [k54_0]
  by_cases h0 : k = 0
  · subst h0
    rw [if_neg (fun z => z rfl), k54_4]
    rfl
  · have n0 : ¬ nI k = 0 := by rw [show (0 : Int32) = nI 0 from rfl, n31eq (by omega) (by decide)]; exact h0
    rw [if_pos n0, k54_10, c41 hk]
    simp only [Option.bind_some, Option.toList_some, List.cons_append, List.nil_append]
    rw [k54_14]
    have hc : celN k = true ↔ (k = 15 ∨ k = 16) := by unfold celN; simp
    by_cases h : k = 15 ∨ k = 16
    · have i : (if celN k = true then (1 : Int32) else 0) = 1 := if_pos (hc.mpr h)
      rw [i, if_neg (by decide), k54_17]
      unfold bdM
      rw [if_neg h0, if_pos h]
    · have i : (if celN k = true then (1 : Int32) else 0) = 0 := if_neg (fun z => h (hc.mp z))
      rw [i, if_pos rfl, k54_21]
      unfold bdM
      rw [if_neg h0, if_neg h]
theorem c53 {W r q1 : Nat} (tR : jT σ r = 6) (r1 : jR σ 320 r = some q1) (hR : RO σ q1 a m os) (hk : ∀ o, o ∈ os → OPk o) (j : Nat) : jx (d + 3) 53 0 [some (.ref r), some (.int (nI j)), some (.int (nI W)), none, none, none] [] σ = some (some (.int ((os.foldl (stepT W) (topI W)) j)), σ) := by
  have hr := hR.1
  obtain ⟨q1', q2, q3, q4, q5, q6, q7, q8⟩ := hr
  have rn : jR σ 320 r ≠ none := by rw [r1]; exact fun z => nomatch z
  have rg : (jR σ 320 r).getD 0 = q1 := by rw [r1]; rfl
  have L : ∀ f n (t : Nat → Int32) l5, n + f = os.length → jx (d + 3) 53 9 [some (.ref r), some (.int (nI j)), some (.int (nI W)), some (.int (t j)), some (.int (nI n)), l5] [] σ = some (some (.int (((os.drop n).foldl (stepT W) t) j)), σ) := by
    intro f
    induction f with
    | zero =>
      intro n t l5 hn
      have nn : n = os.length := by omega
      subst nn
      rw [k53_9 tR rn (by rw [rg]; exact q1'), rg, q6, if_pos (nI_le (Nat.le_refl _) (by omega)), List.drop_length, k53_75]
      rfl
    | succ f ih =>
      intro n t l5 hn
      have hlt : n < os.length := by omega
      have ho := hk _ (mem_getD hlt)
      have e0 : jx (d + 2) 51 0 [some (.ref q1), some (.int (nI n)), some (.int 0)] [] σ = some (some (.int ((os.getD n (fun _ => 0)) 0)), σ) := c51 (d := d + 1) hR hlt (j := 0) (by decide)
      have e2 : jx (d + 2) 51 0 [some (.ref q1), some (.int (nI n)), some (.int 2)] [] σ = some (some (.int ((os.getD n (fun _ => 0)) 2)), σ) := c51 (d := d + 1) hR hlt (j := 2) (by decide)
      have nx := ih (n + 1) (stepT W t (os.getD n (fun _ => 0))) (some (.int (nI (opO (os.getD n (fun _ => 0)))))) (by omega)
      rw [k53_9 tR rn (by rw [rg]; exact q1'), rg, q6, if_neg (nI_ge (by omega) (by omega)), k53_21 tR rn (by rw [rg]; exact q1'), rg, e0]
      simp only [Option.bind_some, Option.toList_some, List.cons_append, List.nil_append]
      rw [k53_31, ho.2, c40 ho.1]
      simp only [Option.bind_some, Option.toList_some, List.cons_append, List.nil_append]
      rw [k53_38, drop_cons hlt]
      rw [List.foldl_cons, ← nx]
      have st : stepT W t (os.getD n (fun _ => 0)) j = if numN (opO (os.getD n (fun _ => 0))) = true ∧ (os.getD n (fun _ => 0)) 2 = 16 + nI j then (if bdM W (opO (os.getD n (fun _ => 0))) < t j then bdM W (opO (os.getD n (fun _ => 0))) else t j) else t j := rfl
      by_cases hn' : numN (opO (os.getD n (fun _ => 0))) = true
      · rw [if_pos hn', if_neg (by decide), k53_41 tR rn (by rw [rg]; exact q1'), rg, e2]
        simp only [Option.bind_some, Option.toList_some, List.cons_append, List.nil_append]
        rw [k53_51]
        by_cases hm : (os.getD n (fun _ => 0)) 2 = 16 + nI j
        · rw [if_neg (fun z => z hm), k53_58, c54 ho.1]
          simp only [Option.bind_some, Option.toList_some, List.cons_append, List.nil_append]
          rw [k53_65, c5]
          simp only [Option.bind_some, Option.toList_some, List.cons_append, List.nil_append]
          rw [if_pos ⟨hn', hm⟩] at st
          rw [k53_68, ← nI_succ, st]
        · rw [if_pos hm, k53_69, ← nI_succ, st, if_neg (fun z => hm z.2)]
      · rw [if_neg hn', if_pos rfl, k53_69, ← nI_succ, st, if_neg (fun z => hn' z.1)]
  have := L os.length 0 (topI W) none (by omega)
  rw [k53_0]
  rw [List.drop_zero] at this
  exact this
end ROW
end S_63
section S_64
/-! how many assignments a rule has: the class -/
def prL (t : Nat → Int32) : Nat → Int64
  | 0 => 1
  | n + 1 => prL t n * (t n + 1).toInt64
def wdN (nr : Nat) (hc : Bool) : Nat := nr + (if hc = true then 4 else 0)
def tpF (W nr : Nat) (hc : Bool) (os : List (Nat → Int32)) : Nat → Int32 := fun k => if k < wdN nr hc then mkW W else (os.foldl (stepT W) (topI W)) (k - wdN nr hc)
/-- the cells of a rule -/
def RU (σ : jS) (r q1 a1 q2 a2 t u : Nat) : Prop := jT σ r = 6 ∧ jR σ 320 r = some q1 ∧ jR σ 321 r = some q2 ∧ jR σ 322 r = some t ∧ jR σ 323 r = some u ∧ jT σ t = 20 ∧ jN σ t = 11 ∧ jT σ u = 20 ∧ jN σ u = 11 ∧ [r, q1, a1, q2, a2, t, u].Nodup
theorem RU.frame {σ σ' : jS} {l : List Nat} {r q1 a1 q2 a2 t u : Nat} (h : RU σ r q1 a1 q2 a2 t u) (f : FR l σ σ') : RU σ' r q1 a1 q2 a2 t u := by
  obtain ⟨h1, h2, h3, h4, h5, h6, h7, h8, h9, h10⟩ := h
  refine ⟨by rw [f.1.1]; exact h1, by rw [f.1.2.2.1]; exact h2, by rw [f.1.2.2.1]; exact h3, by rw [f.1.2.2.1]; exact h4, by rw [f.1.2.2.1]; exact h5, by rw [f.1.1]; exact h6, by rw [f.1.2.1]; exact h7, by rw [f.1.1]; exact h8, by rw [f.1.2.1]; exact h9, h10⟩
section MEA
variable {d : Nat} {σ : jS} {W : Nat}
theorem c49 {r q1 a1 q2 a2 t u nr nm : Nat} {o1 o2 : List (Nat → Int32)} (hU : RU σ r q1 a1 q2 a2 t u) (h1 : RO σ q1 a1 4 o1) (h2 : RO σ q2 a2 4 o2) (k1 : ∀ o, o ∈ o1 → OPk o) (k2 : ∀ o, o ∈ o2 → OPk o) (hnr : nr ≤ 4) (hnm : nm ≤ 3) (e4 : jI σ 324 r = nI nr) (e5 : jI σ 325 r = nI nm) :
    ∃ σ', jx (d + 4) 49 0 [some (.ref r), some (.int (nI W)), none, none, none, none, none] [] σ = some (some (.long (prL (tpF W nr (o1.any celO || o2.any celO) o1) (wdN nr (o1.any celO || o2.any celO) + nm))), σ') ∧ FR [r, t] σ σ' ∧ (∀ g, g ≠ 330 → g ≠ 326 → g ≠ 327 → jI σ' g r = jI σ g r) ∧ (jI σ' 330 r = if (o1.any celO || o2.any celO) = true then 1 else 0) ∧ jI σ' 326 r = nI (wdN nr (o1.any celO || o2.any celO) + nm) ∧ (∀ k, k < wdN nr (o1.any celO || o2.any celO) + nm → jA σ' t k = tpF W nr (o1.any celO || o2.any celO) o1 k) ∧ (jI σ' 327 r = Int64.toInt32 (if (70001 : Int64) < prL (tpF W nr (o1.any celO || o2.any celO) o1) (wdN nr (o1.any celO || o2.any celO) + nm) then 70001 else prL (tpF W nr (o1.any celO || o2.any celO) o1) (wdN nr (o1.any celO || o2.any celO) + nm))) := by
  obtain ⟨u1, u2, u3, u4, u5, u6, u7, u8, u9, u10⟩ := hU
  simp only [List.nodup_cons, List.mem_cons, List.not_mem_nil, or_false, not_or, List.nodup_nil, not_false_eq_true, and_true] at u10
  obtain ⟨⟨n1, n2, n3, n4, n5, n6⟩, ⟨n7, n8, n9, n10, n11⟩, ⟨n12, n13, n14, n15⟩, ⟨n16, n17, n18⟩, ⟨n19, n20⟩, n21⟩ := u10
  obtain ⟨hc, ehc⟩ : ∃ hc, (o1.any celO || o2.any celO) = hc := ⟨_, rfl⟩
  rw [ehc]
  have rn1 : jR σ 320 r ≠ none := by rw [u2]; exact fun z => nomatch z
  have rg1 : (jR σ 320 r).getD 0 = q1 := by rw [u2]; rfl
  have rn2 : jR σ 321 r ≠ none := by rw [u3]; exact fun z => nomatch z
  have rg2 : (jR σ 321 r).getD 0 = q2 := by rw [u3]; rfl
  have t1 : jT σ q1 = 5 := h1.1.1
  have t2 : jT σ q2 = 5 := h2.1.1
  have b1 := c50 (d := d + 1) h1 k1
  have b2 := c50 (d := d + 1) h2 k2
  obtain ⟨σ1, eσ1⟩ : ∃ σ1, jsI σ 330 r (if hc = true then 1 else 0) = σ1 := ⟨_, rfl⟩
  have F1 : FR [r, t] σ σ1 := eσ1 ▸ (FR.refl _ σ).I (by simp)
  have v1 : ∀ g, jI σ1 g r = if g = 330 then (if hc = true then 1 else 0) else jI σ g r := fun g => by
    rw [← eσ1, zI_I]
    by_cases h : g = 330
    · rw [if_pos ⟨h, rfl⟩, if_pos h]
    · rw [if_neg (fun w => h w.1), if_neg h]
  have e41 : jI σ1 324 r = nI nr := by rw [v1, if_neg (by decide)]; exact e4
  have e51 : jI σ1 325 r = nI nm := by rw [v1, if_neg (by decide)]; exact e5
  have mk : ((1 : Int32) <<< (nI W &&& 31)) - 1 = mkW W := rfl
  have to65 : jx (d + 4) 49 0 [some (.ref r), some (.int (nI W)), none, none, none, none, none] [] σ = jx (d + 4) 49 65 [some (.ref r), some (.int (nI W)), some (.int (mkW W)), some (.int (nI (wdN nr hc))), none, none, none] [.int (nI (wdN nr hc + nm)), .ref r] σ1 := by
    have dn : wdN nr hc + nm ≤ 11 := by unfold wdN; cases hc <;> simp <;> omega
    have hmin : (if (11 : Int32) < nI (wdN nr hc + nm) then 11 else nI (wdN nr hc + nm)) = nI (wdN nr hc + nm) := if_neg (by rw [show (11 : Int32) = nI 11 from rfl, n31 (by decide) (by omega)]; omega)
    have toS : jx (d + 4) 49 0 [some (.ref r), some (.int (nI W)), none, none, none, none, none] [] σ = if hc = true then jx (d + 4) 49 27 [some (.ref r), some (.int (nI W)), some (.int (mkW W)), none, none, none, none] [.ref r] σ else jx (d + 4) 49 31 [some (.ref r), some (.int (nI W)), some (.int (mkW W)), none, none, none, none] [.ref r] σ := by
      rw [k49_0 u1 rn1 (by rw [rg1]; exact t1), rg1, b1, mk]
      simp only [Option.bind_some, Option.toList_some, List.cons_append, List.nil_append]
      rw [k49_14]
      by_cases ha : o1.any celO = true
      · have : hc = true := by rw [← ehc, ha]; rfl
        rw [if_pos ha, if_pos (by decide), if_pos this]
      · rw [if_neg ha, if_neg (fun z => z rfl), k49_17 u1 rn2 (by rw [rg2]; exact t2), rg2, b2]
        simp only [Option.bind_some, Option.toList_some, List.cons_append, List.nil_append]
        rw [k49_24]
        have e2 : hc = o2.any celO := by rw [← ehc, Bool.eq_false_iff.mpr ha, Bool.false_or]
        by_cases hb : o2.any celO = true
        · rw [if_pos hb, if_neg (by decide), if_pos (by rw [e2]; exact hb)]
        · rw [if_neg hb, if_pos rfl, if_neg (by rw [e2]; exact hb)]
    rw [toS]
    cases hc with
    | true =>
      have s1 : jsI σ 330 r 1 = σ1 := eσ1
      have w1 : wdN nr true = nr + 4 := rfl
      have p4 : nI nr + 4 = nI (wdN nr true) := by rw [show (4 : Int32) = nI 4 from rfl, nadd, w1]
      have e330 : jI σ1 330 r = 1 := by rw [v1, if_pos rfl]; rfl
      rw [if_pos rfl, k49_27 u1 u1, s1, e330, if_neg (by decide), k49_46 (by rw [F1.1.1]; exact u1), e4, e51, p4, nadd, c5, hmin]
      rfl
    | false =>
      have s1 : jsI σ 330 r 0 = σ1 := eσ1
      have w1 : wdN nr false = nr := rfl
      have p4 : nI nr + 0 = nI (wdN nr false) := by rw [show (0 : Int32) = nI 0 from rfl, nadd, w1]; rfl
      have e330 : jI σ1 330 r = 0 := by rw [v1, if_pos rfl]; rfl
      rw [if_neg (by decide), k49_31 u1 u1, s1, e330, if_pos rfl, k49_50 (by rw [F1.1.1]; exact u1), e4, e51, p4, nadd, c5, hmin]
      rfl
  obtain ⟨N, eN⟩ : ∃ N, wdN nr hc + nm = N := ⟨_, rfl⟩
  have N11 : N ≤ 11 := by rw [← eN]; unfold wdN; cases hc <;> simp <;> omega
  rw [eN] at to65 ⊢
  obtain ⟨σ2, eσ2⟩ : ∃ σ2, jsI σ1 326 r (nI N) = σ2 := ⟨_, rfl⟩
  have F2 : FR [r, t] σ σ2 := eσ2 ▸ F1.I (by simp)
  have v2 : ∀ g, jI σ2 g r = if g = 326 then nI N else jI σ1 g r := fun g => by
    rw [← eσ2, zI_I]
    by_cases h : g = 326
    · rw [if_pos ⟨h, rfl⟩, if_pos h]
    · rw [if_neg (fun w => h w.1), if_neg h]
  have L : ∀ f n σ3, n + f = N → FR [r, t] σ σ3 → (∀ g, jI σ3 g r = jI σ2 g r) → (∀ k, k < n → jA σ3 t k = tpF W nr hc o1 k) → ∃ σ4, jx (d + 4) 49 74 [some (.ref r), some (.int (nI W)), some (.int (mkW W)), some (.int (nI (wdN nr hc))), some (.long (prL (tpF W nr hc o1) n)), none, some (.int (nI n))] [] σ3 = jx (d + 4) 49 130 [some (.ref r), some (.int (nI W)), some (.int (mkW W)), some (.int (nI (wdN nr hc))), some (.long (prL (tpF W nr hc o1) N)), none, some (.int (nI N))] [] σ4 ∧ FR [r, t] σ σ4 ∧ (∀ g, jI σ4 g r = jI σ2 g r) ∧ (∀ k, k < N → jA σ4 t k = tpF W nr hc o1 k) := by
    intro f
    induction f with
    | zero =>
      intro n σ3 hn F v h
      have nn : n = N := by omega
      subst nn
      refine ⟨σ3, ?_, F, v, h⟩
      rw [k49_74 (by rw [F.1.1]; exact u1), v 326, v2 326, if_pos rfl, if_pos (nI_le (Nat.le_refl _) (by omega))]
    | succ f ih =>
      intro n σ3 hn F v h
      have tr3 : jT σ3 r = 6 := by rw [F.1.1]; exact u1
      have tt3 : jT σ3 t = 20 := by rw [F.1.1]; exact u6
      have nt3 : jN σ3 t = 11 := by rw [F.1.2.1]; exact u7
      have rn3 : jR σ3 322 r ≠ none := by rw [F.1.2.2.1, u4]; exact fun z => nomatch z
      have rg3 : (jR σ3 322 r).getD 0 = t := by rw [F.1.2.2.1, u4]; rfl
      have gn : jin 11 (nI n) := jin_n (by omega) (by decide)
      have qn : (nI n).toNatClampNeg = n := nI_clamp (by omega)
      obtain ⟨σ4, e4', F4, v4, h4⟩ := ih (n + 1) (jsA σ3 t n (tpF W nr hc o1 n)) (by omega) (F.A (by simp)) (fun g => by rw [zA_I]; exact v g) (fun k hk => by
        rw [zA_A]
        by_cases e : k = n
        · rw [if_pos ⟨rfl, e⟩, e]
        · rw [if_neg (fun w => e w.2)]; exact h k (by omega))
      refine ⟨σ4, ?_, F4, v4, h4⟩
      rw [← e4', k49_74 tr3, v 326, v2 326, if_pos rfl, if_neg (nI_ge (by omega) (by omega)), k49_83 tr3 rn3, rg3]
      by_cases hw : n < wdN nr hc
      · have tv' : tpF W nr hc o1 n = mkW W := if_pos hw
        rw [if_neg (nI_ge hw (by omega)), k49_95 tt3 (by rw [nt3]; exact gn) tr3 rn3 (by rw [rg3]; exact Or.inl tt3) (by rw [rg3, nt3]; exact gn), rg3, qn, zA_A, if_pos ⟨rfl, rfl⟩, ← nI_succ, ← tv']
        rfl
      · have tv' : tpF W nr hc o1 n = (o1.foldl (stepT W) (topI W)) (n - wdN nr hc) := if_neg hw
        have R3 : RO σ3 q1 a1 4 o1 := h1.frame F (by simp; exact ⟨fun e => n1 e.symm, n10⟩) (by simp; exact ⟨fun e => n2 e.symm, n14⟩)
        have cm := c53 (d := d) (σ := σ3) (W := W) tr3 (by rw [F.1.2.2.1]; exact u2) R3 k1 (n - wdN nr hc)
        rw [if_pos (nI_le (by omega) (by omega)), k49_99 tr3, nsub (by omega), cm]
        simp only [Option.bind_some, Option.toList_some, List.cons_append, List.nil_append]
        rw [k49_108 tt3 (by rw [nt3]; exact gn) tr3 rn3 (by rw [rg3]; exact Or.inl tt3) (by rw [rg3, nt3]; exact gn), rg3, qn, zA_A, if_pos ⟨rfl, rfl⟩, ← nI_succ, ← tv']
        rfl
  obtain ⟨σ4, e4', F4, v4, h4⟩ := L N 0 σ2 (by omega) F2 (fun _ => rfl) (fun k hk => absurd hk (Nat.not_lt_zero k))
  have c55 : ∀ (P : Int64), jx (d + 3) 55 0 [some (.long P), none, some (.long 70001), none] [] σ4 = some (some (.long (if (70001 : Int64) < P then 70001 else P)), σ4) := by
    intro P
    rw [k55_0]
    by_cases h : (70001 : Int64) < P
    · rw [if_pos (by rw [lgg]; exact h), if_pos h, k55_10]
    · rw [if_neg (by rw [lgg]; exact h), if_neg h, k55_6]
  refine ⟨jsI σ4 327 r (Int64.toInt32 (if (70001 : Int64) < prL (tpF W nr hc o1) N then 70001 else prL (tpF W nr hc o1) N)), ?_, F4.I (by simp), fun g g1 g2 g3 => ?_, ?_, ?_, h4, ?_⟩
  · rw [to65, k49_65 (by rw [F1.1.1]; exact u1), eσ2]
    have e4'' : jx (d + 4) 49 74 [some (.ref r), some (.int (nI W)), some (.int (mkW W)), some (.int (nI (wdN nr hc))), some (.long 1), none, some (.int 0)] [] σ2 = _ := e4'
    rw [e4'', k49_130, c55]
    simp only [Option.bind_some, Option.toList_some, List.cons_append, List.nil_append]
    rw [k49_139 (by rw [F4.1.1]; exact u1)]
  · rw [zI_I, if_neg (fun w => g3 w.1), v4, v2, if_neg g2, v1, if_neg g1]
  · rw [zI_I, if_neg (fun w => absurd w.1 (by decide)), v4, v2, if_neg (by decide), v1, if_pos rfl]
  · rw [zI_I, if_neg (fun w => absurd w.1 (by decide)), v4, v2, if_pos rfl]
  · rw [zI_I, if_pos ⟨rfl, rfl⟩]
end MEA
end S_64
