/-! both readers accept the same rules: sides and rules whole -/
def mCl (len : Nat) (b : Nat → Int32) (sd : Nat) (y : List (Nat → Int32) × jPS × (Nat → Int32)) : Option (List (Nat → Int32) × jPS × (Nat → Int32)) :=
  if sd = 0 then (if tv len b y.2.1.1 = 61 ∧ tv len b (y.2.1.1 + 1) = 62 then some (y.1, (y.2.1.1 + 2, y.2.1.2), y.2.2) else none) else (if len ≤ y.2.1.1 then some y else none)
def sdR (W : Nat) : Option (List (Nat → Int32) × jPS) → Option (List (Nat → Int32) × jPS × (Nat → Int32)) → Prop
  | some z, some y => z.1 = y.1.map (keepF W) ∧ z.2.1 = y.2.1.1 ∧ z.2.2.1 = y.2.1.2.1 ∧ z.2.2.2.1 = y.2.1.2.2.1
  | none, none => True
  | _, _ => False
theorem mCl_cons {len : Nat} {b : Nat → Int32} {sd : Nat} {o : Nat → Int32} {X : Option (List (Nat → Int32) × jPS × (Nat → Int32))} : (X.map (fun z => (o :: z.1, z.2))).bind (mCl len b sd) = (X.bind (mCl len b sd)).map (fun z => (o :: z.1, z.2)) := by
  cases X with
  | none => rfl
  | some y =>
    rw [Option.map_some, Option.bind_some, Option.bind_some]
    unfold mCl
    by_cases h0 : sd = 0
    · rw [if_pos h0, if_pos h0]
      by_cases h : tv len b y.2.1.1 = 61 ∧ tv len b (y.2.1.1 + 1) = 62
      · rw [if_pos h, if_pos h]; rfl
      · rw [if_neg h, if_neg h]; rfl
    · rw [if_neg h0, if_neg h0]
      by_cases h : len ≤ y.2.1.1
      · rw [if_pos h, if_pos h]; rfl
      · rw [if_neg h, if_neg h]; rfl
def sTail (len : Nat) (b : Nat → Int32) (m W most f n : Nat) (s3 : jPS) : Option (List (Nat → Int32) × jPS) := match sClose len b m (sk len b s3.1) with | some p => some ([s3.2.2.2], (p, s3.2)) | none => if tv len b (sk len b s3.1) = 59 then (sOrds len b m W most f (n + 1) (sk len b (sk len b s3.1 + 1), s3.2)).map (fun z => (s3.2.2.2 :: z.1, z.2)) else none
theorem sOrds_tail {len m W most f n : Nat} {b : Nat → Int32} {s : jPS} : sOrds len b m W most (f + 1) n s = (sOrdC len b m W most n s).bind (sTail len b m W most f n) := sOrds_eq
theorem sTail_some {len m W most f n : Nat} {b : Nat → Int32} {s : jPS} {p : Nat} (h : sClose len b m (sk len b s.1) = some p) : sTail len b m W most f n s = some ([s.2.2.2], (p, s.2)) := by
  unfold sTail
  rw [h]
theorem sTail_none {len m W most f n : Nat} {b : Nat → Int32} {s : jPS} (h : sClose len b m (sk len b s.1) = none) : sTail len b m W most f n s = if tv len b (sk len b s.1) = 59 then (sOrds len b m W most f (n + 1) (sk len b (sk len b s.1 + 1), s.2)).map (fun z => (s.2.2.2 :: z.1, z.2)) else none := by
  unfold sTail
  rw [h]
theorem sides_same {len : Nat} {b : Nat → Int32} (hB : BY len b) {W sd : Nat} (hsd : sd = 0 ∨ sd = 1) : ∀ (f n : Nat) (s s' : jPS) (rg : Nat → Int32), n + f ≤ 5 → s.1 = s'.1 → s.2.1 = s'.2.1 → s.2.2.1 = s'.2.2.1 →
    sdR W (sOrds len b (sd + 1) W 4 f n s) ((mSide len b W sd f n s' rg).bind (mCl len b sd)) := by
  intro f
  induction f with
  | zero => intro n s s' rg _ _ _ _; trivial
  | succ f ih =>
    intro n s s' rg hn e1 e2 e3
    rw [sOrds_tail]
    unfold mSide
    have A := ordR_agr hB (W := W) hsd (n := n) (by omega) s s' rg e1 e2 e3
    have hm1 : (sd + 1 = 1) ↔ sd = 0 := by omega
    have clS : ∀ p, sClose len b (sd + 1) p = if sd = 0 then (if tv len b p = 61 ∧ tv len b (p + 1) = 62 then some (p + 2) else none) else (if len ≤ p then some p else none) := by
      intro p
      unfold sClose
      by_cases h : sd = 0
      · rw [if_pos (hm1.mpr h), if_pos h]
      · rw [if_neg (fun z => h (hm1.mp z)), if_neg h]
    have tailS : ∀ x : jPS, bad (tv len b x.1) → sTail len b (sd + 1) W 4 f n x = none := by
      intro x hx
      obtain ⟨q1, q2, q3, q4⟩ := bad_tail hx
      have e : sClose len b (sd + 1) (sk len b x.1) = none := by
        rw [clS, q1]
        by_cases h : sd = 0
        · rw [if_pos h, if_neg (fun z => q4 z.1)]
        · rw [if_neg h, if_neg q2]
      rw [sTail_none e, q1]
      exact if_neg q3
    have tailM : ∀ y : jPS × (Nat → Int32), bad (tv len b y.1.1) → ((if tv len b (sk len b y.1.1) = 59 then (mSide len b W sd f (n + 1) (sk len b (sk len b y.1.1 + 1), y.1.2) y.2).map (fun z => (y.1.2.2.2 :: z.1, z.2)) else some ([y.1.2.2.2], (sk len b y.1.1, y.1.2), y.2)).bind (mCl len b sd)) = none := by
      intro y hy
      obtain ⟨q1, q2, q3, q4⟩ := bad_tail hy
      rw [q1, if_neg q3, Option.bind_some]
      unfold mCl
      by_cases h : sd = 0
      · rw [if_pos h, if_neg (fun z => q4 z.1)]
      · rw [if_neg h, if_neg q2]
    cases hS : sOrdC len b (sd + 1) W 4 n s with
    | none =>
      cases hM : mOrdS len b W sd n s' rg with
      | none => trivial
      | some y =>
        rw [hS, hM] at A
        rw [Option.bind_none, Option.bind_some, tailM y A]
        trivial
    | some x =>
      cases hM : mOrdS len b W sd n s' rg with
      | none =>
        rw [hS, hM] at A
        rw [Option.bind_none, Option.bind_none, Option.bind_some, tailS x A]
        trivial
      | some y =>
        rw [hS, hM] at A
        obtain ⟨h1, h2, h3, h4⟩ := A
        rw [Option.bind_some, Option.bind_some, ← h1]
        by_cases h59 : tv len b (sk len b x.1) = 59
        · have e : sClose len b (sd + 1) (sk len b x.1) = none := by
            rw [clS]
            by_cases h : sd = 0
            · rw [if_pos h, if_neg (fun z => by rw [h59] at z; exact absurd z.1 (by decide))]
            · rw [if_neg h, if_neg (fun z => by rw [tv_out z] at h59; exact absurd h59 (by decide))]
          rw [sTail_none e, if_pos h59, if_pos h59, mCl_cons]
          have I := ih (n + 1) (sk len b (sk len b x.1 + 1), x.2) (sk len b (sk len b x.1 + 1), y.1.2) y.2 (by omega) rfl h2 h3
          cases hS2 : sOrds len b (sd + 1) W 4 f (n + 1) (sk len b (sk len b x.1 + 1), x.2) with
          | none =>
            cases hM2 : (mSide len b W sd f (n + 1) (sk len b (sk len b x.1 + 1), y.1.2) y.2).bind (mCl len b sd) with
            | none => trivial
            | some w => rw [hS2, hM2] at I; exact I.elim
          | some z =>
            cases hM2 : (mSide len b W sd f (n + 1) (sk len b (sk len b x.1 + 1), y.1.2) y.2).bind (mCl len b sd) with
            | none => rw [hS2, hM2] at I; exact I.elim
            | some w =>
              rw [hS2, hM2] at I
              obtain ⟨I1, I2⟩ := I
              refine ⟨?_, I2⟩
              show x.2.2.2 :: z.1 = keepF W y.1.2.2.2 :: w.1.map (keepF W)
              rw [h4, I1]
        · rw [if_neg h59, Option.bind_some]
          unfold mCl
          by_cases h : sd = 0
          · have c0 : sClose len b (sd + 1) (sk len b x.1) = if tv len b (sk len b x.1) = 61 ∧ tv len b (sk len b x.1 + 1) = 62 then some (sk len b x.1 + 2) else none := by rw [clS, if_pos h]
            rw [if_pos h]
            by_cases hc : tv len b (sk len b x.1) = 61 ∧ tv len b (sk len b x.1 + 1) = 62
            · rw [if_pos hc] at c0
              rw [sTail_some c0, if_pos hc]
              exact ⟨by show [x.2.2.2] = [keepF W y.1.2.2.2]; rw [h4], rfl, h2, h3⟩
            · rw [if_neg hc] at c0
              rw [sTail_none c0, if_neg h59, if_neg hc]
              trivial
          · have c0 : sClose len b (sd + 1) (sk len b x.1) = if len ≤ sk len b x.1 then some (sk len b x.1) else none := by rw [clS, if_neg h]
            rw [if_neg h]
            by_cases hc : len ≤ sk len b x.1
            · rw [if_pos hc] at c0
              rw [sTail_some c0, if_pos hc]
              exact ⟨by show [x.2.2.2] = [keepF W y.1.2.2.2]; rw [h4], rfl, h2, h3⟩
            · rw [if_neg hc] at c0
              rw [sTail_none c0, if_neg h59, if_neg hc]
              trivial
def ruR (W : Nat) : Option (List (Nat → Int32) × List (Nat → Int32) × List Nat × List Nat) → Option (List (Nat → Int32) × List (Nat → Int32) × List Nat × List Nat × (Nat → Int32)) → Prop
  | some z, some y => z.1 = y.1.map (keepF W) ∧ z.2.1 = y.2.1.map (keepF W) ∧ z.2.2.1 = y.2.2.1 ∧ z.2.2.2 = y.2.2.2.1
  | none, none => True
  | _, _ => False
theorem mRule_eq {len : Nat} {b : Nat → Int32} {W : Nat} {rg : Nat → Int32} : mRule len b W rg = ((mSide len b W 0 5 0 (sk len b 0, [], [], fun _ => 0) rg).bind (mCl len b 0)).bind (fun z => if len ≤ sk len b z.2.1.1 then some (z.1, [], z.2.1.2.1, z.2.1.2.2.1, z.2.2) else ((mSide len b W 1 5 0 (sk len b z.2.1.1, z.2.1.2) z.2.2).bind (mCl len b 1)).map (fun y => (z.1, y.1, y.2.1.2.1, y.2.1.2.2.1, y.2.2))) := by
  unfold mRule
  have e0 : mSideR len b W 0 (sk len b 0, [], [], fun _ => 0) rg = mSide len b W 0 5 0 (sk len b 0, [], [], fun _ => 0) rg := by
    unfold mSideR
    rw [if_neg (fun z => absurd z.1 (by decide))]
  rw [e0]
  cases mSide len b W 0 5 0 (sk len b 0, [], [], fun _ => 0) rg with
  | none => rfl
  | some z =>
    rw [Option.bind_some, Option.bind_some]
    have e1 : mCl len b 0 z = if tv len b z.2.1.1 = 61 ∧ tv len b (z.2.1.1 + 1) = 62 then some (z.1, (z.2.1.1 + 2, z.2.1.2), z.2.2) else none := by
      unfold mCl
      rw [if_pos rfl]
    rw [e1]
    by_cases hc : tv len b z.2.1.1 = 61 ∧ tv len b (z.2.1.1 + 1) = 62
    · rw [if_pos hc, if_pos hc, Option.bind_some]
      unfold mSideR
      by_cases he : len ≤ sk len b (z.2.1.1 + 2)
      · rw [if_pos he]
        rw [if_pos (show (1 : Nat) = 1 ∧ len ≤ (sk len b (z.2.1.1 + 2), z.2.1.2).1 from ⟨rfl, he⟩), Option.bind_some]
        rw [if_pos he]
      · rw [if_neg he]
        rw [if_neg (show ¬ ((1 : Nat) = 1 ∧ len ≤ (sk len b (z.2.1.1 + 2), z.2.1.2).1) from fun q => he q.2)]
        cases mSide len b W 1 5 0 (sk len b (z.2.1.1 + 2), z.2.1.2) z.2.2 with
        | none => rfl
        | some y =>
          rw [Option.bind_some, Option.bind_some]
          have e2 : mCl len b 1 y = if len ≤ y.2.1.1 then some y else none := by
            unfold mCl
            rw [if_neg (by decide)]
          rw [e2]
          by_cases hy : len ≤ y.2.1.1
          · rw [if_pos hy, if_pos hy]; rfl
          · rw [if_neg hy, if_neg hy]; rfl
    · rw [if_neg hc, if_neg hc]; rfl
theorem rules_same {len : Nat} {b : Nat → Int32} (hB : BY len b) (W : Nat) (rg : Nat → Int32) : ruR W (sRule len b W) (mRule len b W rg) := by
  rw [mRule_eq]
  unfold sRule
  have I := sides_same hB (W := W) (sd := 0) (Or.inl rfl) 5 0 (sk len b 0, [], [], fun _ => 0) (sk len b 0, [], [], fun _ => 0) rg (by decide) rfl rfl rfl
  have I : sdR W (sOrds len b 1 W 4 5 0 (sk len b 0, [], [], fun _ => 0)) ((mSide len b W 0 5 0 (sk len b 0, [], [], fun _ => 0) rg).bind (mCl len b 0)) := I
  cases hS : sOrds len b 1 W 4 5 0 (sk len b 0, [], [], fun _ => 0) with
  | none =>
    cases hM : (mSide len b W 0 5 0 (sk len b 0, [], [], fun _ => 0) rg).bind (mCl len b 0) with
    | none => trivial
    | some y => rw [hS, hM] at I; exact I.elim
  | some z =>
    cases hM : (mSide len b W 0 5 0 (sk len b 0, [], [], fun _ => 0) rg).bind (mCl len b 0) with
    | none => rw [hS, hM] at I; exact I.elim
    | some y =>
      rw [hS, hM] at I
      obtain ⟨I1, I2, I3, I4⟩ := I
      rw [Option.bind_some, Option.bind_some, I2]
      by_cases he : len ≤ sk len b y.2.1.1
      · rw [if_pos he, if_pos he]
        exact ⟨I1, rfl, I3, I4⟩
      · rw [if_neg he, if_neg he]
        have J := sides_same hB (W := W) (sd := 1) (Or.inr rfl) 5 0 (sk len b y.2.1.1, z.2.2.1, z.2.2.2.1, fun _ => 0) (sk len b y.2.1.1, y.2.1.2) y.2.2 (by decide) rfl I3 I4
        have J : sdR W (sOrds len b 2 W 4 5 0 (sk len b y.2.1.1, z.2.2.1, z.2.2.2.1, fun _ => 0)) ((mSide len b W 1 5 0 (sk len b y.2.1.1, y.2.1.2) y.2.2).bind (mCl len b 1)) := J
        cases hS2 : sOrds len b 2 W 4 5 0 (sk len b y.2.1.1, z.2.2.1, z.2.2.2.1, fun _ => 0) with
        | none =>
          cases hM2 : (mSide len b W 1 5 0 (sk len b y.2.1.1, y.2.1.2) y.2.2).bind (mCl len b 1) with
          | none => trivial
          | some w => rw [hS2, hM2] at J; exact J.elim
        | some v =>
          cases hM2 : (mSide len b W 1 5 0 (sk len b y.2.1.1, y.2.1.2) y.2.2).bind (mCl len b 1) with
          | none => rw [hS2, hM2] at J; exact J.elim
          | some w =>
            rw [hS2, hM2] at J
            obtain ⟨J1, J2, J3, J4⟩ := J
            exact ⟨I1, J1, J3, J4⟩
