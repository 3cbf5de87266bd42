/-! both readers accept the same programs -/
theorem fg_nat {c : Int32} (h : isFg c) : ∃ n, n ≤ 9 ∧ c = nI (48 + n) := by
  obtain ⟨h1, h2⟩ := h
  rw [Int32.le_iff_toInt_le] at h1 h2
  have e1 : (48 : Int32).toInt = 48 := rfl
  have e2 : (57 : Int32).toInt = 57 := rfl
  refine ⟨c.toInt.toNat - 48, by omega, ?_⟩
  rw [← Int32.toInt_inj, nI_toInt (by omega)]
  omega
theorem mNum_nat {len : Nat} {b : Nat → Int32} {p : Nat} {z : Int32 × Nat} (h : mNum len b p = some z) : ∃ v, v < 16 ∧ z.1 = nI v := by
  have H : ∀ v, z.1 = nI v → v < 2 ^ 31 → v < 16 := by
    intro v e hv
    have lt := mNum_lt h
    rw [e, show (16 : Int32) = nI 16 from rfl, n31 hv (by decide)] at lt
    exact lt
  unfold mNum at h
  split at h
  · cases h
  · rename_i h0
    split at h
    · cases h
    · rename_i h2
      split at h
      · cases h
      · cases h
        have f0 : isFg (tv len b p) := Classical.byContradiction (fun z => h0 (fw_stop z))
        obtain ⟨n, hn, en⟩ := fg_nat f0
        have e1 : nv (tv len b) p 1 = nI n := by
          show 10 * 0 + tv len b (p + 0) - 48 = _
          rw [show p + 0 = p from rfl, en, show (10 : Int32) * 0 = nI 0 from rfl, nadd, show (48 : Int32) = nI 48 from rfl, nsub (by omega)]
          congr 1
          omega
        have eg := fw_go f0
        by_cases f1 : isFg (tv len b (p + 1))
        · have eg1 := fw_go f1
          have w2 : fw len b p = 2 := by omega
          obtain ⟨m, hm, em⟩ := fg_nat f1
          have e2 : nv (tv len b) p 2 = nI (10 * n + m) := by
            show 10 * nv (tv len b) p 1 + tv len b (p + 1) - 48 = _
            rw [e1, em, show (10 : Int32) = nI 10 from rfl, nmul, nadd, show (48 : Int32) = nI 48 from rfl, nsub (by omega)]
            congr 1
            omega
          refine ⟨10 * n + m, H _ ?_ (by omega), ?_⟩ <;> (show nv (tv len b) p (fw len b p) = _; rw [w2, e2])
        · have w1 : fw len b p = 1 := by rw [eg, fw_stop f1]
          refine ⟨n, H _ ?_ (by omega), ?_⟩ <;> (show nv (tv len b) p (fw len b p) = _; rw [w1, e1])
theorem bad_mRegsP {len : Nat} {b : Nat → Int32} {f j p : Nat} {g : Nat → Int32} (h : bad (tv len b p)) : mRegsP len b f j p g = none ∨ ∃ z, mRegsP len b f j p g = some z ∧ z.1 = p := by
  cases f with
  | zero => exact Or.inr ⟨(p, g), rfl, rfl⟩
  | succ f => refine Or.inl ?_; unfold mRegsP; rw [bad_gapM h]; rfl
theorem bad_mNumP {len W k : Nat} {b : Nat → Int32} {p : Nat} {g : Nat → Int32} (h : bad (tv len b p)) : mNumP len b W k p g = none ∨ ∃ z, mNumP len b W k p g = some z ∧ z.1 = p := by
  unfold mNumP
  by_cases hn : numN k = true
  · rw [if_pos hn, bad_gapM h]; exact Or.inl rfl
  · rw [if_neg hn]; exact Or.inr ⟨(p, g), rfl, rfl⟩
theorem letP_agr {len : Nat} {b : Nat → Int32} (hB : BY len b) {j : Nat} {s : jPS} : agr (tv len b) (fun x : jPS => x.1) (fun z : Int32 × Nat => z.2) (fun x z => x = (z.2, s.2.1, s.2.2.1, up6 s.2.2.2 j z.1)) (sReg len b 0 j s) (mLet len b 97 4 s.1) := by
  rw [mLet_eq (by decide) (by decide)]
  unfold sReg
  have e := t97 hB s.1
  have i0 : (if (0 : Nat) = 0 then (97 : Int32) else 112) = 97 := rfl
  rw [i0]
  by_cases hr : 97 ≤ tv len b s.1 ∧ tv len b s.1 ≤ 97 + 4 - 1
  · have n1 : ¬ (tv len b s.1 - 97 < 0 ∨ 4 ≤ tv len b s.1 - 97) := fun z => e.mp z hr
    by_cases hl : isLo (tv len b (s.1 + 1))
    · rw [if_pos (Or.inr (Or.inr (Or.inl hl))), if_neg (fun z => z.2.1 hl)]; trivial
    · by_cases hu : isUp (tv len b (s.1 + 1))
      · have nf : ¬ isFg (tv len b (s.1 + 1)) := fun z => absurd (Int32.le_trans hu.1 z.2) (by decide)
        rw [if_pos (Or.inr (Or.inr (Or.inr hu))), if_pos ⟨hr, hl, nf⟩]
        exact Or.inl hu
      · have n2 : ¬ (tv len b s.1 - 97 < 0 ∨ 4 ≤ tv len b s.1 - 97 ∨ (isLo (tv len b (s.1 + 1)) ∨ isUp (tv len b (s.1 + 1)))) := fun z => by
          rcases z with z | z | z | z
          · exact n1 (Or.inl z)
          · exact n1 (Or.inr z)
          · exact hl z
          · exact hu z
        rw [if_neg n2, if_pos rfl]
        by_cases hf : isFg (tv len b (s.1 + 1))
        · rw [if_neg (fun z => z.2.2 hf)]
          exact Or.inr hf
        · rw [if_pos ⟨hr, hl, hf⟩]
          exact rfl
  · have n1 := e.mpr hr
    have n2 : tv len b s.1 - 97 < 0 ∨ 4 ≤ tv len b s.1 - 97 ∨ (isLo (tv len b (s.1 + 1)) ∨ isUp (tv len b (s.1 + 1))) := by
      rcases n1 with z | z
      · exact Or.inl z
      · exact Or.inr (Or.inl z)
    rw [if_pos n2, if_neg (fun z => hr z.1)]
    trivial
def RPs (s x : jPS) (z : Nat × (Nat → Int32)) : Prop := x.1 = z.1 ∧ x.2.1 = s.2.1 ∧ x.2.2.1 = s.2.2.1 ∧ x.2.2.2 0 = s.2.2.2 0 ∧ (∀ t, t < 3 → x.2.2.2 (t + 1) = z.2 t) ∧ x.2.2.2 4 = s.2.2.2 4 ∧ x.2.2.2 5 = s.2.2.2 5
theorem regsP_agr {len : Nat} {b : Nat → Int32} (hB : BY len b) : ∀ (f j : Nat) (s : jPS) (g : Nat → Int32), j + f ≤ 3 → (∀ t, t < 3 → s.2.2.2 (t + 1) = g t) →
    agr (tv len b) (fun x : jPS => x.1) (fun z : Nat × (Nat → Int32) => z.1) (RPs s) (sRegs len b 0 f (j + 1) s) (mRegsP len b f j s.1 g) := by
  intro f
  induction f with
  | zero => intro j s g _ hg; exact ⟨rfl, rfl, rfl, rfl, hg, rfl, rfl⟩
  | succ f ih =>
    intro j s g hj hg
    unfold sRegs mRegsP
    rw [gap_same]
    cases hG : mGap len b s.1 with
    | none => trivial
    | some p1 =>
      rw [Option.map_some, Option.bind_some, Option.bind_some]
      refine agr.bind (letP_agr hB (j := j + 1) (s := (p1, s.2))) (fun x z hx => ?_) (fun x hx => bad_sRegs hx) (fun z hz => bad_mRegsP hz)
      have hx : x = (z.2, s.2.1, s.2.2.1, up6 s.2.2.2 (j + 1) z.1) := hx
      have q := ih (j + 1) x (up6 g j z.1) (by omega) (by
        intro t ht
        rw [hx]
        show (if t + 1 = j + 1 then z.1 else s.2.2.2 (t + 1)) = if t = j then z.1 else g t
        by_cases h : t = j
        · rw [if_pos h, if_pos (by omega)]
        · rw [if_neg h, if_neg (by omega)]; exact hg t ht)
      have x1 : x.1 = z.2 := by rw [hx]
      have x0 : x.2.2.2 0 = s.2.2.2 0 := by rw [hx]; show (if 0 = j + 1 then z.1 else s.2.2.2 0) = _; rw [if_neg (by omega)]
      have x4 : x.2.2.2 4 = s.2.2.2 4 := by rw [hx]; show (if 4 = j + 1 then z.1 else s.2.2.2 4) = _; rw [if_neg (by omega)]
      have x5 : x.2.2.2 5 = s.2.2.2 5 := by rw [hx]; show (if 5 = j + 1 then z.1 else s.2.2.2 5) = _; rw [if_neg (by omega)]
      have xr : x.2.1 = s.2.1 ∧ x.2.2.1 = s.2.2.1 := by rw [hx]; exact ⟨rfl, rfl⟩
      rw [x1] at q
      have e : RPs x = RPs s := by
        funext y w
        unfold RPs
        rw [x0, x4, x5, xr.1, xr.2]
      rw [e] at q
      exact q
theorem numP_agr {len W k : Nat} {b : Nat → Int32} (hW : W = 1 ∨ W = 2 ∨ W = 3) (s x : jPS) (z : Nat × (Nat → Int32)) (h : RPs s x z) :
    agr (tv len b) (fun x : jPS => x.1) (fun z : Nat × (Nat → Int32) => z.1) (RPs s) (sNum len b 0 W k x) (mNumP len b W k z.1 z.2) := by
  obtain ⟨h1, h2, h3, h4, h5, h6, h7⟩ := h
  unfold sNum mNumP
  by_cases hn : numN k = true
  · rw [if_pos hn, if_pos hn, gap_same, h1]
    cases hG : mGap len b z.1 with
    | none => trivial
    | some p1 =>
      rw [Option.map_some, Option.bind_some, Option.bind_some]
      by_cases hf : isFg (tv len b p1)
      · rw [num_same (s := (p1, x.2)) hf]
        show agr _ _ _ _ ((Option.map _ (mNum len b p1)).bind _) _
        cases hM : mNum len b p1 with
        | none => trivial
        | some y =>
          rw [Option.map_some, Option.bind_some, Option.map_some]
          have lt := mNum_lt hM
          have n0 : ¬ ((0 : Nat) = 2 ∧ isSg (tv len b y.2)) := fun q => absurd q.1 (by decide)
          have n16 : ¬ (16 : Int32) ≤ up6 x.2.2.2 2 y.1 2 := fun q => absurd lt (Int32.not_lt.mpr q)
          show agr _ _ _ _ (if (0 : Nat) = 2 ∧ isSg (tv len b y.2) then _ else if (16 : Int32) ≤ up6 x.2.2.2 2 y.1 2 then _ else some (y.2, x.2.1, x.2.2.1, up6 (up6 x.2.2.2 2 y.1) 2 (kptX W k (up6 x.2.2.2 2 y.1 2)))) _
          rw [if_neg n0, if_neg n16]
          refine ⟨rfl, h2, h3, h4, fun t ht => ?_, h6, h7⟩
          show (if t + 1 = 2 then kptX W k y.1 else if t + 1 = 2 then _ else x.2.2.2 (t + 1)) = if t = 1 then kpM W k y.1 else z.2 t
          by_cases ht1 : t = 1
          · rw [if_pos ht1, if_pos (by omega)]
            obtain ⟨v, hv, ev⟩ : ∃ v, v < 16 ∧ y.1 = nI v := mNum_nat hM
            rw [ev, show nI v = nI (v + 15) - 15 by rw [show (15 : Int32) = nI 15 from rfl, nsub (by omega)]; congr 1]
            exact (kpM_kptX hW hn (by omega)).symm
          · rw [if_neg ht1, if_neg (by omega), if_neg (by omega)]; exact h5 t ht
      · have e1 : sTerm len b 0 2 (p1, x.2) = none := by
          unfold sTerm sMark
          rw [if_neg hf, if_pos (Or.inl rfl)]
        have e2 : mNum len b p1 = none := by
          unfold mNum
          rw [if_pos (fw_stop hf)]
        rw [e1, e2]
        trivial
  · rw [if_neg hn, if_neg hn]
    exact ⟨h1, h2, h3, h4, h5, h6, h7⟩
/-- one order of the class's reader -/
def sOrdC (len : Nat) (b : Nat → Int32) (m W most n : Nat) (s : jPS) : Option jPS := (sName len b (n == most) s).bind (fun s1 => (sRegs len b m (regN (s1.2.2.2 0).toNatClampNeg) 1 s1).bind (fun s2 => sNum len b m W (s1.2.2.2 0).toNatClampNeg s2))
theorem sOrds_eq {len m W most f n : Nat} {b : Nat → Int32} {s : jPS} : sOrds len b m W most (f + 1) n s = (sOrdC len b m W most n s).bind (fun s3 => match sClose len b m (sk len b s3.1) with | some p => some ([s3.2.2.2], (p, s3.2)) | none => if tv len b (sk len b s3.1) = 59 then (sOrds len b m W most f (n + 1) (sk len b (sk len b s3.1 + 1), s3.2)).map (fun z => (s3.2.2.2 :: z.1, z.2)) else none) := by
  unfold sOrdC
  rw [Option.bind_assoc]
  show (sName len b (n == most) s).bind _ = _
  congr 1
  funext s1
  rw [Option.bind_assoc]
  rfl
theorem agr.mapR {α β β' : Type} {t : Nat → Int32} {pa : α → Nat} {pb : β → Nat} {R : α → β → Prop} {pb' : β' → Nat} {R' : α → β' → Prop} {x : Option α} {y : Option β} {h : β → β'} (g : agr t pa pb R x y) (hR : ∀ a c, R a c → R' a (h c)) (hp : ∀ c, pb' (h c) = pb c) : agr t pa pb' R' x (y.map h) := by
  cases x with
  | none =>
    cases y with
    | none => trivial
    | some c => have g : bad (t (pb c)) := g; show bad (t (pb' (h c))); rw [hp]; exact g
  | some a =>
    cases y with
    | none => exact g
    | some c => exact hR a c g
theorem ordP_agr {len W n : Nat} {b : Nat → Int32} (hB : BY len b) (hW : W = 1 ∨ W = 2 ∨ W = 3) (hn : n ≤ 24) (s : jPS) :
    agr (tv len b) (fun x : jPS => x.1) (fun z : Nat × Nat × (Nat → Int32) => z.2.1) (fun x z => x.1 = z.2.1 ∧ x.2.1 = s.2.1 ∧ x.2.2.1 = s.2.2.1 ∧ (∀ t, t < 4 → x.2.2.2 t = mFn z.1 z.2.2 t) ∧ x.2.2.2 4 = 0 ∧ x.2.2.2 5 = 0) (sOrdC len b 0 W 24 n s) (mOrd len b W n s.1) := by
  unfold sOrdC mOrd
  have ht : ((n == 24) = true) ↔ nI n = 24 := by
    rw [show (24 : Int32) = nI 24 from rfl, n31eq (by omega) (by decide)]
    exact beq_iff_eq
  have N := name_agr (len := len) (b := b) (s := s) ht
  cases hS : sName len b (n == 24) s with
  | none =>
    cases hM : mName len b (nI n = 24) s.1 with
    | none => trivial
    | some z =>
      rw [hS, hM] at N
      have N : bad (tv len b z.2) := N
      rw [Option.bind_none, Option.bind_some]
      rcases bad_mRegsP (f := regN z.1.toNatClampNeg) (j := 0) (g := fun _ => 0) N with e | ⟨y, e, q⟩
      · rw [e]; trivial
      · rw [e, Option.bind_some]
        rcases bad_mNumP (W := W) (k := z.1.toNatClampNeg) (g := y.2) (p := y.1) (by rw [q]; exact N) with e2 | ⟨x, e2, q2⟩
        · rw [e2]; trivial
        · rw [e2]; show bad (tv len b x.1); rw [q2, q]; exact N
  | some s1 =>
    cases hM : mName len b (nI n = 24) s.1 with
    | none =>
      rw [hS, hM] at N
      have N : bad (tv len b s1.1) := N
      rw [Option.bind_none, Option.bind_some]
      rcases bad_sRegs (m := 0) (f := regN (s1.2.2.2 0).toNatClampNeg) (j := 1) N with e | ⟨y, e, q⟩
      · rw [e]; trivial
      · rw [e, Option.bind_some]
        rcases bad_sNum (m := 0) (W := W) (k := (s1.2.2.2 0).toNatClampNeg) (s := y) (by rw [q]; exact N) with e2 | ⟨x, e2, q2⟩
        · rw [e2]; trivial
        · rw [e2]; show bad (tv len b x.1); rw [q2, q]; exact N
    | some z =>
      rw [hS, hM] at N
      have N : s1 = (z.2, s.2.1, s.2.2.1, fun j => if j = 0 then z.1 else 0) := N
      obtain ⟨⟨k, hk, zk⟩, -, -, -⟩ := mName_ok hM
      have s0 : s1.2.2.2 0 = z.1 := by rw [N]; rfl
      rw [Option.bind_some, Option.bind_some, s0]
      have kc : z.1.toNatClampNeg = k := by rw [zk]; exact nI_clamp (by omega)
      have R := regsP_agr hB (regN z.1.toNatClampNeg) 0 s1 (fun _ => 0) (by have := regN3 z.1.toNatClampNeg; omega) (by intro t _; rw [N]; rfl)
      have s11 : s1.1 = z.2 := by rw [N]
      rw [s11] at R
      refine agr.bind R (fun x y hxy => (numP_agr (k := z.1.toNatClampNeg) hW s1 x y hxy).mapR (fun a c hac => ?_) (fun _ => rfl)) (fun x hx => bad_sNum hx) (fun y hy => ?_)
      · obtain ⟨h1, h2, h3, h4, h5, h6, h7⟩ := hac
        refine ⟨h1, by rw [h2, N], by rw [h3, N], fun t ht => ?_, by rw [h6, N]; rfl, by rw [h7, N]; rfl⟩
        show _ = mFn z.1.toNatClampNeg c.2 t
        rw [kc]
        unfold mFn
        rcases jnf4 ht with q | q | q | q
        · subst q; rw [if_pos rfl, h4, s0, zk]
        · subst q; exact h5 0 (by decide)
        · subst q; exact h5 1 (by decide)
        · subst q; exact h5 2 (by decide)
      · rcases bad_mNumP (W := W) (k := z.1.toNatClampNeg) (g := y.2) (p := y.1) hy with e2 | ⟨x, e2, q2⟩
        · rw [e2]; exact Or.inl rfl
        · rw [e2]; exact Or.inr ⟨_, rfl, q2⟩
theorem bad_tail {len : Nat} {b : Nat → Int32} {p : Nat} (h : bad (tv len b p)) : sk len b p = p ∧ ¬ len ≤ p ∧ ¬ tv len b p = 59 ∧ ¬ tv len b p = 61 := by
  obtain ⟨h1, h2, h3, h4, h5⟩ := bad_ne h
  exact ⟨sk_stop h1, by have := tv_in h5; omega, h2, h3⟩
theorem ordsP {len W : Nat} {b : Nat → Int32} (hB : BY len b) (hW : W = 1 ∨ W = 2 ∨ W = 3) : ∀ (f n : Nat) (s : jPS), n + f ≤ 25 →
    (match sOrds len b 0 W 24 f n s, mOrds len b W f n s.1 with | some z, some os => z.1.length = os.length ∧ ∀ i j, i < os.length → j < 4 → (z.1.getD i (fun _ => 0)) j = (os.getD i (fun _ => 0)) j | none, none => True | _, _ => False) := by
  intro f
  induction f with
  | zero => intro n s _; trivial
  | succ f ih =>
    intro n s hn
    rw [sOrds_eq]
    unfold mOrds
    have A := ordP_agr hB hW (n := n) (by omega) s
    have tailS : ∀ x : jPS, bad (tv len b x.1) → (match sClose len b 0 (sk len b x.1) with | some p => some ([x.2.2.2], (p, x.2)) | none => if tv len b (sk len b x.1) = 59 then (sOrds len b 0 W 24 f (n + 1) (sk len b (sk len b x.1 + 1), x.2)).map (fun z => (x.2.2.2 :: z.1, z.2)) else none) = none := by
      intro x hx
      obtain ⟨q1, q2, q3, q4⟩ := bad_tail hx
      have e : sClose len b 0 (sk len b x.1) = none := by
        unfold sClose
        rw [if_neg (by decide), q1, if_neg q2]
      rw [e, q1]
      exact if_neg q3
    have tailM : ∀ z : Nat × Nat × (Nat → Int32), bad (tv len b z.2.1) → (if tv len b (sk len b z.2.1) = 59 then (mOrds len b W f (n + 1) (sk len b (sk len b z.2.1 + 1))).map (fun os => mFn z.1 z.2.2 :: os) else if len ≤ sk len b z.2.1 then some [mFn z.1 z.2.2] else none) = none := by
      intro z hz
      obtain ⟨q1, q2, q3, q4⟩ := bad_tail hz
      rw [q1, if_neg q3, if_neg q2]
    cases hS : sOrdC len b 0 W 24 n s with
    | none =>
      cases hM : mOrd len b W n s.1 with
      | none => trivial
      | some z =>
        rw [hS, hM] at A
        rw [Option.bind_none, Option.bind_some, tailM z A]
        trivial
    | some x =>
      cases hM : mOrd len b W n s.1 with
      | none =>
        rw [hS, hM] at A
        rw [Option.bind_none, Option.bind_some, tailS x A]
        trivial
      | some z =>
        rw [hS, hM] at A
        obtain ⟨h1, h2, h3, h4, h5, h6⟩ := A
        rw [Option.bind_some, Option.bind_some, ← h1]
        by_cases he : len ≤ sk len b x.1
        · have n59 : ¬ tv len b (sk len b x.1) = 59 := by rw [tv_out he]; decide
          have e : sClose len b 0 (sk len b x.1) = some (sk len b x.1) := by
            unfold sClose
            rw [if_neg (by decide), if_pos he]
          have e2 : (if tv len b (sk len b x.1) = 59 then (mOrds len b W f (n + 1) (sk len b (sk len b x.1 + 1))).map (fun os => mFn z.1 z.2.2 :: os) else if len ≤ sk len b x.1 then some [mFn z.1 z.2.2] else none) = some [mFn z.1 z.2.2] := by rw [if_neg n59, if_pos he]
          rw [e, e2]
          refine ⟨rfl, fun i j hi hj => ?_⟩
          have i0 : i = 0 := by have : i < 1 := hi; omega
          subst i0
          exact h4 j hj
        · have e : sClose len b 0 (sk len b x.1) = none := by
            unfold sClose
            rw [if_neg (by decide), if_neg he]
          rw [e]
          dsimp only
          by_cases h59 : tv len b (sk len b x.1) = 59
          · have I := ih (n + 1) (sk len b (sk len b x.1 + 1), x.2) (by omega)
            rw [if_pos h59, if_pos h59]
            cases hS2 : sOrds len b 0 W 24 f (n + 1) (sk len b (sk len b x.1 + 1), x.2) with
            | none =>
              cases hM2 : mOrds len b W f (n + 1) (sk len b (sk len b x.1 + 1)) with
              | none => trivial
              | some os => rw [hS2, hM2] at I; exact I.elim
            | some y =>
              cases hM2 : mOrds len b W f (n + 1) (sk len b (sk len b x.1 + 1)) with
              | none => rw [hS2, hM2] at I; exact I.elim
              | some os =>
                rw [hS2, hM2] at I
                obtain ⟨I1, I2⟩ := I
                refine ⟨by show y.1.length + 1 = os.length + 1; rw [I1], fun i j hi hj => ?_⟩
                cases i with
                | zero => exact h4 j hj
                | succ i => exact I2 i j (by have : i + 1 < os.length + 1 := hi; omega) hj
          · rw [if_neg h59, if_neg h59, if_neg he]
            trivial
theorem progs_same {len W : Nat} {b : Nat → Int32} (hB : BY len b) (hW : W = 1 ∨ W = 2 ∨ W = 3) :
    (match sProg len b W, mProg len b W with | some z, some os => z.length = os.length ∧ ∀ i j, i < os.length → j < 4 → (z.getD i (fun _ => 0)) j = (os.getD i (fun _ => 0)) j | none, none => True | _, _ => False) := by
  unfold sProg mProg
  by_cases h : len ≤ sk len b 0
  · rw [if_pos h, if_pos h]
    exact ⟨rfl, fun i j hi => absurd hi (Nat.not_lt_zero i)⟩
  · rw [if_neg h, if_neg h]
    have I := ordsP hB hW 25 0 (sk len b 0, [], [], fun _ => 0) (by decide)
    cases hS : sOrds len b 0 W 24 25 0 (sk len b 0, [], [], fun _ => 0) with
    | none =>
      cases hM : mOrds len b W 25 0 (sk len b 0) with
      | none => trivial
      | some os => rw [hS, hM] at I; exact I.elim
    | some z =>
      cases hM : mOrds len b W 25 0 (sk len b 0) with
      | none => rw [hS, hM] at I; exact I.elim
      | some os => rw [hS, hM] at I; exact I
