/-! rule: what is kept of a rule that was read; the class -/
def hcO (o1 o2 : List (Nat → Int32)) : Bool := o1.any celO || o2.any celO
def tpA (W nr : Nat) (o1 o2 : List (Nat → Int32)) : Nat → Int32 := tpF W nr (hcO o1 o2) (o1.map (keepF W))
def nAA (nr nm : Nat) (o1 o2 : List (Nat → Int32)) : Nat := wdN nr (hcO o1 o2) + nm
def PA (W nr nm : Nat) (o1 o2 : List (Nat → Int32)) : Nat := prN (fun k => (tpA W nr o1 o2 k).toNatClampNeg) (nAA nr nm o1 o2)
def CA (W nr nm : Nat) (o1 o2 : List (Nat → Int32)) : Nat := cntL (lik W nr (hcO o1 o2) o1 o2) (odo (tpA W nr o1 o2) (nAA nr nm o1 o2)) (PA W nr nm o1 o2) (fun _ => 0)
def mkA (W nr nm : Nat) (o1 o2 : List (Nat → Int32)) : AR := (nr, nm, hcO o1 o2, o1, o2, PA W nr nm o1 o2, CA W nr nm o1 o2, 0, true)
def sRul (s : AS) (a : AR) : AS := (s.W, 0, s.b, s.rs ++ [a], s.ps, s.ns, s.tl, s.ap)
theorem app_rs {rs : List AR} {z : AR} {i : Nat} (h : i < rs.length + 1) : (rs ++ [z]).getD i ar0 = if i = rs.length then z else rs.getD i ar0 := by
  rw [List.getD_eq_getElem?_getD, List.getD_eq_getElem?_getD]
  by_cases e : i = rs.length
  · rw [if_pos e, List.getElem?_append_right (by omega), e, Nat.sub_self]
    rfl
  · rw [if_neg e, List.getElem?_append_left (by omega)]
theorem sRul_len {s : AS} {a : AR} : (sRul s a).rs.length = s.rs.length + 1 := by
  show (s.rs ++ [a]).length = _
  rw [List.length_append]; rfl
theorem mSide_len {len W sd : Nat} {b : Nat → Int32} : ∀ (f n : Nat) (s : jPS) (rg : Nat → Int32) (z : List (Nat → Int32) × jPS × (Nat → Int32)), n ≤ 4 → mSide len b W sd f n s rg = some z → n + z.1.length ≤ 4 := by
  intro f
  induction f with
  | zero => intro n s rg z _ h; cases h
  | succ f ih =>
    intro n s rg z hn h
    unfold mSide at h
    obtain ⟨y, h1, h2⟩ := Option.bind_eq_some_iff.mp h
    have n4 : n < 4 := by
      unfold mOrdS at h1
      obtain ⟨w, hw, _⟩ := Option.bind_eq_some_iff.mp h1
      have := (mName_ok hw).2.2.2
      have : n ≠ 4 := fun e => this (by rw [e]; rfl)
      omega
    split at h2
    · obtain ⟨w, h3, h4⟩ := Option.map_eq_some_iff.mp h2
      have := ih _ _ _ _ (by omega) h3
      subst h4
      show n + (w.1.length + 1) ≤ 4
      omega
    · cases h2; show n + 1 ≤ 4; omega
theorem mRule_len {len W : Nat} {b : Nat → Int32} {rg0 : Nat → Int32} {o1 o2 : List (Nat → Int32)} {rs ms : List Nat} {rg : Nat → Int32} (h : mRule len b W rg0 = some (o1, o2, rs, ms, rg)) : o1.length ≤ 4 ∧ o2.length ≤ 4 := by
  rw [mRule_eq] at h
  obtain ⟨z, h1, h2⟩ := Option.bind_eq_some_iff.mp h
  obtain ⟨z0, h3, h4⟩ := Option.bind_eq_some_iff.mp h1
  have a := mSide_len 5 0 _ _ _ (by decide) h3
  have ez : z.1 = z0.1 := by
    unfold mCl at h4
    rw [if_pos rfl] at h4
    split at h4
    · cases h4; rfl
    · cases h4
  split at h2
  · cases h2
    rw [ez]
    exact ⟨by omega, Nat.zero_le _⟩
  · obtain ⟨y, h5, h6⟩ := Option.map_eq_some_iff.mp h2
    obtain ⟨y0, h7, h8⟩ := Option.bind_eq_some_iff.mp h5
    have ey : y = y0 := by
      unfold mCl at h8
      rw [if_neg (by decide)] at h8
      split at h8
      · cases h8; rfl
      · cases h8
    subst ey
    have c := mSide_len 5 0 _ _ _ (by decide) h7
    cases h6
    rw [ez]
    exact ⟨by omega, by omega⟩
/-- what is known of a rule that was read -/
def RDd (nr nm : Nat) (o1 o2 : List (Nat → Int32)) : Prop := nr ≤ 4 ∧ nm ≤ 3 ∧ (∀ o, o ∈ o1 → WFo nr nm o) ∧ (∀ o, o ∈ o2 → WFo nr nm o) ∧ (∀ o, o ∈ o1 → o 4 = 0) ∧ 1 ≤ o1.length ∧ o1.length ≤ 4 ∧ o2.length ≤ 4 ∧ OCC nr nm o1
theorem mRule_rd {len W : Nat} {b : Nat → Int32} (hW : W = 1 ∨ W = 2 ∨ W = 3) {rg0 : Nat → Int32} {o1 o2 : List (Nat → Int32)} {rs ms : List Nat} {rg : Nat → Int32} (h : mRule len b W rg0 = some (o1, o2, rs, ms, rg)) : RDd rs.length ms.length o1 o2 := by
  obtain ⟨h1, h2, h3, h4, h5, h6, h7⟩ := mRule_wf hW h
  obtain ⟨l1, l2⟩ := mRule_len h
  exact ⟨nodup_le 4 _ h1.1 h1.2, nodup_le 3 _ h2.1 h2.2, h3, h4, h6, h7, l1, l2, mRule_occ h⟩
section RDS
variable {W nr nm : Nat} {o1 o2 : List (Nat → Int32)}
theorem RDd.occK (hW : W = 1 ∨ W = 2 ∨ W = 3) (h : RDd nr nm o1 o2) : ∀ i, i < nm → ∃ o, o ∈ o1.map (keepF W) ∧ numN (opO o) = true ∧ o 2 = 16 + nI i := fun i hi => by
  obtain ⟨n4, m3, f1, f2, z4, _, _, _, oc⟩ := h
  obtain ⟨o, ho, hn, e⟩ := oc.2 i hi
  refine ⟨keepF W o, List.mem_map.mpr ⟨o, ho, rfl⟩, by rw [(keep_op W o).2.1]; exact hn, ?_⟩
  rcases keep2 hW m3 (f1 o ho) (z4 o ho) hn with ⟨j, _, e1, e2⟩ | ⟨u, _, e1, _⟩
  · rw [e2, ← e1, e]
  · exact absurd (by rw [e]; exact (i16n (by omega)).1) e1
theorem RDd.vb (hW : W = 1 ∨ W = 2 ∨ W = 3) (h : RDd nr nm o1 o2) : VB W (wdN nr (hcO o1 o2)) (wdN nr (hcO o1 o2) + nm) (tpA W nr o1 o2) (fun _ => 0) := tops_vb hW h.2.1 (h.occK hW)
theorem RDd.tn (hW : W = 1 ∨ W = 2 ∨ W = 3) (h : RDd nr nm o1 o2) : ∀ k, k < nAA nr nm o1 o2 → (tpA W nr o1 o2 k).toNatClampNeg ≤ 7 ∧ tpA W nr o1 o2 k = nI (tpA W nr o1 o2 k).toNatClampNeg := fun k hk => by
  obtain ⟨u, w, h1, h2, h3, h4, _⟩ := h.vb hW k hk
  have : (tpA W nr o1 o2 k).toNatClampNeg = w := by rw [h4]; exact nI_clamp (by omega)
  rw [this]
  exact ⟨h2, h4⟩
theorem wd_le {nr : Nat} {hc : Bool} (h : nr ≤ 4) : wdN nr hc ≤ 8 := by unfold wdN; split <;> omega
theorem RDd.pb (hW : W = 1 ∨ W = 2 ∨ W = 3) (h : RDd nr nm o1 o2) : 1 ≤ PA W nr nm o1 o2 ∧ PA W nr nm o1 o2 < 2 ^ 34 ∧ prL (tpA W nr o1 o2) (nAA nr nm o1 o2) = Int64.ofNat (PA W nr nm o1 o2) := by
  have le : nAA nr nm o1 o2 ≤ 11 := by
    have := wd_le (hc := hcO o1 o2) h.1
    have := h.2.1
    unfold nAA; omega
  have b := prN_le (u := fun k => (tpA W nr o1 o2 k).toNatClampNeg) (nAA nr nm o1 o2) (fun k hk => (h.tn hW k hk).1)
  have c : 8 ^ nAA nr nm o1 o2 ≤ 8 ^ 11 := Nat.pow_le_pow_right (by decide) le
  refine ⟨prN_pos _ _, ?_, prL_n _ (fun k hk => h.tn hW k hk)⟩
  unfold PA
  have : (8 : Nat) ^ 11 < 2 ^ 34 := by decide
  omega
theorem of64_lt {n : Nat} (h : n < 2 ^ 34) : ((70000 : Int64) < Int64.ofNat n) = (70000 < n) := by
  rw [Int64.lt_iff_toInt_lt, Int64.toInt_ofNat_of_lt (by omega)]
  have : (70000 : Int64).toInt = 70000 := rfl
  rw [this]
  apply propext
  omega
theorem of64_32 {n : Nat} (h : n ≤ 70001) : Int64.toInt32 (Int64.ofNat n) = nI n := by
  apply Int32.toBitVec_inj.mp
  apply BitVec.eq_of_toNat_eq
  rw [nI_tn (by omega)]
  show ((Int64.ofNat n).toBitVec.signExtend 32).toNat = n
  rw [BitVec.signExtend_eq_setWidth_of_le _ (by decide), BitVec.toNat_setWidth]
  show (BitVec.ofNat 64 n).toNat % 2 ^ 32 = n
  rw [BitVec.toNat_ofNat]
  omega
theorem lgle {a b : Int64} : (lg_cmp a b ≤ 0) = ¬ (b < a) := by
  rw [← lgg, Int32.not_lt]
end RDS
