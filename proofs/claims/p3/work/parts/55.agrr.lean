/-! both readers accept the same rules -/
theorem bad_mRegsR {len : Nat} {b : Nat → Int32} {fs : Bool} {f j : Nat} {s : jPS} (h : bad (tv len b s.1)) : mRegsR len b fs f j s = none ∨ ∃ s', mRegsR len b fs f j s = some s' ∧ s'.1 = s.1 := by
  cases f with
  | zero => exact Or.inr ⟨s, rfl, rfl⟩
  | succ f => refine Or.inl ?_; unfold mRegsR; rw [bad_gapM h]; rfl
theorem bad_mNumR {len : Nat} {b : Nat → Int32} {W sd k : Nat} {s : jPS} {rg : Nat → Int32} (h : bad (tv len b s.1)) : mNumR len b W sd k s rg = none ∨ ∃ y, mNumR len b W sd k s rg = some y ∧ y.1.1 = s.1 := by
  unfold mNumR
  by_cases hn : numN k = true
  · rw [if_pos hn, bad_gapM h]; exact Or.inl rfl
  · rw [if_neg hn]; exact Or.inr ⟨(s, rg), rfl, rfl⟩
theorem agr.mapL {α β α' : Type} {t : Nat → Int32} {pa : α → Nat} {pb : β → Nat} {R : α → β → Prop} {pa' : α' → Nat} {R' : α' → β → Prop} {x : Option α} {y : Option β} {h : α → α'} (g : agr t pa pb R x y) (hR : ∀ a c, R a c → R' (h a) c) (hp : ∀ a, pa' (h a) = pa a) : agr t pa' pb R' (x.map h) y := by
  cases x with
  | none =>
    cases y with
    | none => trivial
    | some c => exact g
  | some a =>
    cases y with
    | none => have g : bad (t (pa a)) := g; show bad (t (pa' (h a))); rw [hp]; exact g
    | some c => exact hR a c g
/-- a letter alone: the class's test against the reference's -/
theorem let_agr {len : Nat} {b : Nat → Int32} {p : Nat} {x y : Int32} (hx : 97 ≤ x) (hy : x + y - 1 ≤ 122) (e : (tv len b p - x < 0 ∨ y ≤ tv len b p - x) ↔ ¬ (x ≤ tv len b p ∧ tv len b p ≤ x + y - 1)) :
    agr (tv len b) (fun z : Int32 × Nat => z.2) (fun z : Int32 × Nat => z.2) Eq (if tv len b p - x < 0 ∨ y ≤ tv len b p - x ∨ (isLo (tv len b (p + 1)) ∨ isUp (tv len b (p + 1))) then none else some (tv len b p - x, p + 1)) (mLet len b x y p) := by
  rw [mLet_eq hx hy]
  by_cases hr : x ≤ tv len b p ∧ tv len b p ≤ x + y - 1
  · have n1 : ¬ (tv len b p - x < 0 ∨ y ≤ tv len b p - x) := fun z => e.mp z hr
    by_cases hl : isLo (tv len b (p + 1))
    · rw [if_pos (Or.inr (Or.inr (Or.inl hl))), if_neg (fun z => z.2.1 hl)]; trivial
    · by_cases hu : isUp (tv len b (p + 1))
      · have nf : ¬ isFg (tv len b (p + 1)) := fun z => absurd (Int32.le_trans hu.1 z.2) (by decide)
        rw [if_pos (Or.inr (Or.inr (Or.inr hu))), if_pos ⟨hr, hl, nf⟩]
        exact Or.inl hu
      · have n2 : ¬ (tv len b p - x < 0 ∨ y ≤ tv len b p - x ∨ (isLo (tv len b (p + 1)) ∨ isUp (tv len b (p + 1)))) := fun z => by
          rcases z with z | z | z | z
          · exact n1 (Or.inl z)
          · exact n1 (Or.inr z)
          · exact hl z
          · exact hu z
        rw [if_neg n2]
        by_cases hf : isFg (tv len b (p + 1))
        · rw [if_neg (fun z => z.2.2 hf)]
          exact Or.inr hf
        · rw [if_pos ⟨hr, hl, hf⟩]
          exact rfl
  · have n1 := e.mpr hr
    have n2 : tv len b p - x < 0 ∨ y ≤ tv len b p - x ∨ (isLo (tv len b (p + 1)) ∨ isUp (tv len b (p + 1))) := by
      rcases n1 with z | z
      · exact Or.inl z
      · exact Or.inr (Or.inl z)
    rw [if_pos n2, if_neg (fun z => hr z.1)]
    trivial
theorem regR_agr {len : Nat} {b : Nat → Int32} (hB : BY len b) {m j : Nat} (hm : ¬ m = 0) {s : jPS} : agr (tv len b) (fun x : jPS => x.1) (fun z : Nat × Nat × List Nat => z.1) (fun x z => x = (z.1, z.2.2, s.2.2.1, up6 s.2.2.2 j (nI z.2.1))) (sReg len b m j s) (mRegR len b (m == 1) s.1 s.2.1) := by
  have A := let_agr (len := len) (b := b) (p := s.1) (x := 112) (y := 4) (by decide) (by decide) (t112 hB s.1)
  have e : sReg len b m j s = (if tv len b s.1 - 112 < 0 ∨ 4 ≤ tv len b s.1 - 112 ∨ (isLo (tv len b (s.1 + 1)) ∨ isUp (tv len b (s.1 + 1))) then none else some (tv len b s.1 - 112, s.1 + 1)).bind (fun z : Int32 × Nat => (lk s.2.1 z.1.toNatClampNeg (m == 1)).map (fun y => (z.2, y.2, s.2.2.1, up6 s.2.2.2 j (nI y.1)))) := by
    unfold sReg
    rw [if_neg hm, if_neg hm]
    by_cases h : tv len b s.1 - 112 < 0 ∨ 4 ≤ tv len b s.1 - 112 ∨ (isLo (tv len b (s.1 + 1)) ∨ isUp (tv len b (s.1 + 1)))
    · rw [if_pos h, if_pos h]; rfl
    · rw [if_neg h, if_neg h]; rfl
  rw [e]
  unfold mRegR
  refine agr.bind A (fun a c h => ?_) (fun a ha => ?_) (fun c hc => ?_)
  · have h : a = c := h
    subst h
    cases lk s.2.1 a.1.toNatClampNeg (m == 1) with
    | none => trivial
    | some y => exact rfl
  · cases lk s.2.1 a.1.toNatClampNeg (m == 1) with
    | none => exact Or.inl rfl
    | some y => exact Or.inr ⟨_, rfl, rfl⟩
  · cases lk s.2.1 c.1.toNatClampNeg (m == 1) with
    | none => exact Or.inl rfl
    | some y => exact Or.inr ⟨_, rfl, rfl⟩
theorem regsR_agr {len : Nat} {b : Nat → Int32} (hB : BY len b) {m : Nat} (hm : ¬ m = 0) : ∀ (f j : Nat) (s : jPS), agr (tv len b) (fun x : jPS => x.1) (fun x : jPS => x.1) Eq (sRegs len b m f (j + 1) s) (mRegsR len b (m == 1) f j s) := by
  intro f
  induction f with
  | zero => intro j s; exact rfl
  | succ f ih =>
    intro j s
    unfold sRegs mRegsR
    rw [gap_same]
    cases hG : mGap len b s.1 with
    | none => trivial
    | some p1 =>
      rw [Option.map_some, Option.bind_some, Option.bind_some]
      refine agr.bind (regR_agr hB (j := j + 1) hm (s := (p1, s.2))) (fun x z hx => ?_) (fun x hx => bad_sRegs hx) (fun z hz => bad_mRegsR (s := (z.1, z.2.2, s.2.2.1, up6 s.2.2.2 (j + 1) (nI z.2.1))) hz)
      have hx : x = (z.1, z.2.2, s.2.2.1, up6 s.2.2.2 (j + 1) (nI z.2.1)) := hx
      rw [hx]
      exact ih (j + 1) _
theorem mark_agr {len : Nat} {b : Nat → Int32} (hB : BY len b) {m j W op : Nat} (hm : ¬ m = 0) {s : jPS} {rg : Nat → Int32} : agr (tv len b) (fun x : jPS => x.1) (fun z : Nat × Nat × List Nat × (Nat → Int32) => z.1) (fun x z => x = (z.1, s.2.1, z.2.2.1, up6 s.2.2.2 j (16 + nI z.2.1))) (sMark len b m j s) (mMark len b W op (m == 1) s.1 s.2.2.1 rg) := by
  have A := let_agr (len := len) (b := b) (p := s.1) (x := 105) (y := 3) (by decide) (by decide) (t105 hB s.1)
  have e : sMark len b m j s = (if tv len b s.1 - 105 < 0 ∨ 3 ≤ tv len b s.1 - 105 ∨ (isLo (tv len b (s.1 + 1)) ∨ isUp (tv len b (s.1 + 1))) then none else some (tv len b s.1 - 105, s.1 + 1)).bind (fun z : Int32 × Nat => (lk s.2.2.1 z.1.toNatClampNeg (m == 1)).map (fun y => (z.2, s.2.1, y.2, up6 s.2.2.2 j (16 + nI y.1)))) := by
    unfold sMark
    by_cases h : tv len b s.1 - 105 < 0 ∨ 3 ≤ tv len b s.1 - 105 ∨ (isLo (tv len b (s.1 + 1)) ∨ isUp (tv len b (s.1 + 1)))
    · rw [if_pos (Or.inr h), if_pos h]; rfl
    · rw [if_neg (fun z => z.elim hm h), if_neg h]; rfl
  rw [e]
  unfold mMark
  refine agr.bind A (fun a c h => ?_) (fun a ha => ?_) (fun c hc => ?_)
  · have h : a = c := h
    subst h
    cases lk s.2.2.1 a.1.toNatClampNeg (m == 1) with
    | none => trivial
    | some y => exact rfl
  · cases lk s.2.2.1 a.1.toNatClampNeg (m == 1) with
    | none => exact Or.inl rfl
    | some y => exact Or.inr ⟨_, rfl, rfl⟩
  · cases lk s.2.2.1 c.1.toNatClampNeg (m == 1) with
    | none => exact Or.inl rfl
    | some y => exact Or.inr ⟨_, rfl, rfl⟩
theorem term_agr {len : Nat} {b : Nat → Int32} (hB : BY len b) {m j W op : Nat} (hm : ¬ m = 0) {s : jPS} {rg : Nat → Int32} : agr (tv len b) (fun x : jPS => x.1) (fun z : Nat × List Nat × (Nat → Int32) × Int32 => z.1) (fun x z => x = (z.1, s.2.1, z.2.1, up6 s.2.2.2 j z.2.2.2)) (sTerm len b m j s) (mTermR len b W op (m == 1) s.1 s.2.2.1 rg) := by
  unfold mTermR
  by_cases hf : isFg (tv len b s.1)
  · rw [num_same hf, if_pos hf]
    cases mNum len b s.1 with
    | none => trivial
    | some z => exact rfl
  · have e : sTerm len b m j s = sMark len b m j s := by unfold sTerm; rw [if_neg hf]
    rw [e, if_neg hf]
    exact (mark_agr hB (W := W) (op := op) (rg := rg) hm (j := j)).mapR (fun a c h => h) (fun _ => rfl)
/-- what the class keeps of an order: a number that stands alone is kept -/
def keepF (W : Nat) (o : Nat → Int32) : Nat → Int32 := if numN (o 0).toNatClampNeg = true ∧ o 4 = 0 ∧ ¬ 16 ≤ o 2 then up6 o 2 (kptX W (o 0).toNatClampNeg (o 2)) else o
def RRs (W : Nat) (x : jPS) (y : jPS × (Nat → Int32)) : Prop := x.1 = y.1.1 ∧ x.2.1 = y.1.2.1 ∧ x.2.2.1 = y.1.2.2.1 ∧ x.2.2.2 = keepF W y.1.2.2.2
theorem numR_agr {len : Nat} {b : Nat → Int32} (hB : BY len b) {W sd k : Nat} (hk : k < 19) (hsd : sd = 0 ∨ sd = 1) {s : jPS} {rg : Nat → Int32} (h4 : s.2.2.2 4 = 0) (h0 : s.2.2.2 0 = nI k) : agr (tv len b) (fun x : jPS => x.1) (fun y : jPS × (Nat → Int32) => y.1.1) (RRs W) (sNum len b (sd + 1) W k s) (mNumR len b W sd k s rg) := by
  have kc : (nI k).toNatClampNeg = k := nI_clamp (by omega)
  have hm : ¬ sd + 1 = 0 := by omega
  have ms : (sd == 0) = (sd + 1 == 1) := by rcases hsd with h | h <;> subst h <;> rfl
  unfold sNum mNumR
  by_cases hn : numN k = true
  · rw [if_pos hn, if_pos hn, gap_same, ms]
    cases hG : mGap len b s.1 with
    | none => trivial
    | some p1 =>
      rw [Option.map_some, Option.bind_some, Option.bind_some]
      refine agr.bind (term_agr hB (W := W) (op := k) (rg := rg) hm (j := 2) (s := (p1, s.2))) (fun x y hx => ?_) (fun x hx => ?_) (fun y hy => ?_)
      · have hx : x = (y.1, s.2.1, y.2.1, up6 s.2.2.2 2 y.2.2.2) := hx
        have x1 : x.1 = y.1 := by rw [hx]
        have ec : (sd + 1 = 2 ∧ isSg (tv len b x.1)) ↔ (sd = 1 ∧ isSg (tv len b y.1)) := by
          rw [x1]
          constructor
          · intro z; exact ⟨by omega, z.2⟩
          · intro z; exact ⟨by omega, z.2⟩
        by_cases hs : sd = 1 ∧ isSg (tv len b y.1)
        · rw [if_pos (ec.mpr hs), if_pos hs]
          have T := term_agr hB (W := W) (op := k) (rg := y.2.2.1) hm (j := 5) (s := (x.1 + 1, x.2.1, x.2.2.1, up6 x.2.2.2 4 (tv len b x.1)))
          have ef : (sd + 1 == 1) = false := by rw [hs.1]; rfl
          rw [ef] at T
          have T' := T.mapR (R' := RRs W) (pb' := fun y : jPS × (Nat → Int32) => y.1.1) (h := fun z => ((z.1, s.2.1, z.2.1, up6 (up6 (up6 s.2.2.2 2 y.2.2.2) 4 (tv len b y.1)) 5 z.2.2.2), z.2.2.1)) (fun a c hac => by
            have hac : a = (c.1, x.2.1, c.2.1, up6 (up6 x.2.2.2 4 (tv len b x.1)) 5 c.2.2.2) := hac
            rw [hac, hx]
            refine ⟨rfl, rfl, rfl, ?_⟩
            show up6 (up6 (up6 s.2.2.2 2 y.2.2.2) 4 (tv len b y.1)) 5 c.2.2.2 = keepF W (up6 (up6 (up6 s.2.2.2 2 y.2.2.2) 4 (tv len b y.1)) 5 c.2.2.2)
            unfold keepF
            rw [if_neg]
            intro z
            exact (isSg_in hs.2).2 z.2.1) (fun _ => rfl)
          have ex : mTermR len b W k false (x.1 + 1) x.2.2.1 y.2.2.1 = mTermR len b W k false (y.1 + 1) y.2.1 y.2.2.1 := by rw [hx]
          have T2 : agr (tv len b) (fun x : jPS => x.1) (fun y : jPS × (Nat → Int32) => y.1.1) (RRs W) (sTerm len b (sd + 1) 5 (x.1 + 1, x.2.1, x.2.2.1, up6 x.2.2.2 4 (tv len b x.1))) (Option.map (fun z => ((z.1, s.2.1, z.2.1, up6 (up6 (up6 s.2.2.2 2 y.2.2.2) 4 (tv len b y.1)) 5 z.2.2.2), z.2.2.1)) (mTermR len b W k false (x.1 + 1) x.2.2.1 y.2.2.1)) := T'
          rw [ex] at T2
          exact T2
        · rw [if_neg (fun z => hs (ec.mp z)), if_neg hs]
          have o0 : (up6 s.2.2.2 2 y.2.2.2 0).toNatClampNeg = k := by show (s.2.2.2 0).toNatClampNeg = k; rw [h0, kc]
          have o4 : up6 s.2.2.2 2 y.2.2.2 4 = 0 := h4
          by_cases h16 : (16 : Int32) ≤ x.2.2.2 2
          · rw [if_pos h16]
            rw [hx] at h16 ⊢
            refine ⟨rfl, rfl, rfl, ?_⟩
            show up6 s.2.2.2 2 y.2.2.2 = keepF W (up6 s.2.2.2 2 y.2.2.2)
            unfold keepF
            rw [if_neg (fun z => z.2.2 h16)]
          · rw [if_neg h16]
            rw [hx] at h16 ⊢
            refine ⟨rfl, rfl, rfl, ?_⟩
            show up6 (up6 s.2.2.2 2 y.2.2.2) 2 (kptX W k (up6 s.2.2.2 2 y.2.2.2 2)) = keepF W (up6 s.2.2.2 2 y.2.2.2)
            unfold keepF
            rw [o0, if_pos ⟨hn, o4, h16⟩]
      · have ns : ¬ (sd + 1 = 2 ∧ isSg (tv len b x.1)) := fun z => (bad_ne hx).2.2.2.1 z.2
        rw [if_neg ns]
        by_cases h16 : (16 : Int32) ≤ x.2.2.2 2
        · rw [if_pos h16]; exact Or.inr ⟨_, rfl, rfl⟩
        · rw [if_neg h16]; exact Or.inr ⟨_, rfl, rfl⟩
      · have ns : ¬ (sd = 1 ∧ isSg (tv len b y.1)) := fun z => (bad_ne hy).2.2.2.1 z.2
        rw [if_neg ns]; exact Or.inr ⟨_, rfl, rfl⟩
  · rw [if_neg hn, if_neg hn]
    refine ⟨rfl, rfl, rfl, ?_⟩
    show s.2.2.2 = keepF W s.2.2.2
    unfold keepF
    rw [if_neg]
    intro z
    rw [h0, kc] at z
    exact hn z.1
theorem ordR_agr {len : Nat} {b : Nat → Int32} (hB : BY len b) {W sd n : Nat} (hsd : sd = 0 ∨ sd = 1) (hn : n ≤ 4) (s s' : jPS) (rg : Nat → Int32) (e1 : s.1 = s'.1) (e2 : s.2.1 = s'.2.1) (e3 : s.2.2.1 = s'.2.2.1) :
    agr (tv len b) (fun x : jPS => x.1) (fun y : jPS × (Nat → Int32) => y.1.1) (RRs W) (sOrdC len b (sd + 1) W 4 n s) (mOrdS len b W sd n s' rg) := by
  have hm : ¬ sd + 1 = 0 := by omega
  have ms : (sd == 0) = (sd + 1 == 1) := by rcases hsd with h | h <;> subst h <;> rfl
  unfold sOrdC mOrdS
  rw [← e1, ← e2, ← e3]
  have ht : ((n == 4) = true) ↔ nI n = 4 := by
    rw [show (4 : Int32) = nI 4 from rfl, n31eq (by omega) (by decide)]
    exact beq_iff_eq
  cases hM : mName len b (nI n = 4) s.1 with
  | none =>
    have N := name_agr (len := len) (b := b) (s := s) ht
    rw [hM] at N
    cases hS : sName len b (n == 4) s with
    | none => trivial
    | some s1 =>
      rw [hS] at N
      have N : bad (tv len b s1.1) := N
      rw [Option.bind_none, Option.bind_some]
      rcases bad_sRegs (m := sd + 1) (f := regN (s1.2.2.2 0).toNatClampNeg) (j := 1) N with e | ⟨y, e, q⟩
      · rw [e]; trivial
      · rw [e, Option.bind_some]
        rcases bad_sNum (m := sd + 1) (W := W) (k := (s1.2.2.2 0).toNatClampNeg) (s := y) (by rw [q]; exact N) with e2 | ⟨x, e2, q2⟩
        · rw [e2]; trivial
        · rw [e2]; show bad (tv len b x.1); rw [q2, q]; exact N
  | some z =>
    have N := name_agr (len := len) (b := b) (s := s) ht
    rw [hM] at N
    obtain ⟨⟨k, hk, zk⟩, -, -, -⟩ := mName_ok hM
    have kc : z.1.toNatClampNeg = k := by rw [zk]; exact nI_clamp (by omega)
    cases hS : sName len b (n == 4) s with
    | none =>
      rw [hS] at N
      have N : bad (tv len b z.2) := N
      rw [Option.bind_none, Option.bind_some]
      rcases bad_mRegsR (fs := (sd == 0)) (f := regN z.1.toNatClampNeg) (j := 0) (s := (z.2, s.2.1, s.2.2.1, fun j => if j = 0 then z.1 else 0)) N with e | ⟨y, e, q⟩
      · rw [e]; trivial
      · rw [e, Option.bind_some]
        have q : y.1 = z.2 := q
        rcases bad_mNumR (W := W) (sd := sd) (k := z.1.toNatClampNeg) (s := y) (rg := rg) (by rw [q]; exact N) with e2 | ⟨x, e2, q2⟩
        · rw [e2]; trivial
        · rw [e2]; show bad (tv len b x.1.1); rw [q2, q]; exact N
    | some s1 =>
      rw [hS] at N
      have N : s1 = (z.2, s.2.1, s.2.2.1, fun j => if j = 0 then z.1 else 0) := N
      have s0 : s1.2.2.2 0 = z.1 := by rw [N]; rfl
      rw [Option.bind_some, Option.bind_some, s0, ← N, ms, kc]
      have A := regsR_agr hB hm (regN k) 0 s1
      cases hX : mRegsR len b (sd + 1 == 1) (regN k) 0 s1 with
      | none =>
        rw [hX] at A
        cases hY : sRegs len b (sd + 1) (regN k) (0 + 1) s1 with
        | none => trivial
        | some x =>
          rw [hY] at A
          have A : bad (tv len b x.1) := A
          rw [Option.bind_none, Option.bind_some]
          rcases bad_sNum (m := sd + 1) (W := W) (k := k) A with e2 | ⟨w, e2, q2⟩
          · rw [e2]; trivial
          · rw [e2]; show bad (tv len b w.1); rw [q2]; exact A
      | some x =>
        rw [hX] at A
        obtain ⟨-, kf⟩ := mRegsR_keep _ _ _ _ hX
        have k0 : x.2.2.2 0 = nI k := by rw [kf 0 (Or.inl (Nat.le_refl 0)), s0, zk]
        have k4 : x.2.2.2 4 = 0 := by rw [kf 4 (Or.inr (by have := regN3 k; omega)), N]; rfl
        cases hY : sRegs len b (sd + 1) (regN k) (0 + 1) s1 with
        | none =>
          rw [hY] at A
          have A : bad (tv len b x.1) := A
          rw [Option.bind_none, Option.bind_some]
          rcases bad_mNumR (W := W) (sd := sd) (k := k) (rg := rg) A with e2 | ⟨w, e2, q2⟩
          · rw [e2]; trivial
          · rw [e2]; show bad (tv len b w.1.1); rw [q2]; exact A
        | some x' =>
          rw [hY] at A
          have A : x' = x := A
          rw [Option.bind_some, Option.bind_some, A]
          exact numR_agr hB hk hsd k4 k0
