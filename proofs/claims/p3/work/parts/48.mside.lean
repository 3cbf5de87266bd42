/-! the reference's reader: the pieces of a side -/
def rdA (σ : jS) (W len : Nat) (b : Nat → Int32) (p : Nat) : Prop := SH σ ∧ NV σ ∧ TM σ len b ∧ p ≤ len ∧ jI σ 666 47 = nI p ∧ jI σ 667 47 = 0 ∧ jI σ 640 47 = nI W
def rdB (σ : jS) (r : Nat) (rs : List Nat) : Prop := LRw σ 71 rs ∧ rs.Nodup ∧ (∀ x, x ∈ rs → x < 4) ∧ jA σ 56 r = nI rs.length
def rdC (σ : jS) (r : Nat) (ms : List Nat) (rg : Nat → Int32) : Prop := LRw σ 72 ms ∧ ms.Nodup ∧ (∀ x, x ∈ ms → x < 3) ∧ jA σ 57 r = nI ms.length ∧ ∀ j, j < 3 → jA σ 58 (3 * r + j) = rg j
def MT (σ : jS) (k : Nat) (v : Int32) : Prop := (v < 16 → jA σ 53 k = 0 ∧ jA σ 54 k = v) ∧ (16 ≤ v → jA σ 53 k = 1 ∧ jA σ 54 k = v - 16)
theorem rdA.frame {σ σ' : jS} {l : List Nat} {W len p p' : Nat} {b : Nat → Int32} (h : rdA σ W len b p) (f : FR l σ σ') (hg : ∀ g, g ≠ 666 → g ≠ 667 → g ≠ 668 → jI σ' g 47 = jI σ g 47) (h48 : 48 ∉ l) (h70 : 70 ∉ l) (hp : p' ≤ len) (ha : jI σ' 666 47 = nI p') (h0 : jI σ' 667 47 = 0) : rdA σ' W len b p' :=
  ⟨f.sh h.1, fun k hk => by rw [(f.2 70 h70).2]; exact h.2.1 k hk, ⟨by rw [hg 642 (by decide) (by decide) (by decide)]; exact h.2.2.1.1, h.2.2.1.2.1, fun i hi => by rw [(f.2 48 h48).2]; exact h.2.2.1.2.2 i hi⟩, hp, ha, h0, by rw [hg 640 (by decide) (by decide) (by decide)]; exact h.2.2.2.2.2.2⟩
theorem rdB.frame {σ σ' : jS} {l : List Nat} {r : Nat} {rs : List Nat} (h : rdB σ r rs) (f : FR l σ σ') (h71 : 71 ∉ l) (h56 : 56 ∉ l) : rdB σ' r rs := ⟨fun i hi => by rw [(f.2 71 h71).2]; exact h.1 i hi, h.2.1, h.2.2.1, by rw [(f.2 56 h56).2]; exact h.2.2.2⟩
theorem rdC.frame {σ σ' : jS} {l : List Nat} {r : Nat} {ms : List Nat} {rg : Nat → Int32} (h : rdC σ r ms rg) (f : FR l σ σ') (h72 : 72 ∉ l) (h57 : 57 ∉ l) (h58 : 58 ∉ l) : rdC σ' r ms rg := ⟨fun i hi => by rw [(f.2 72 h72).2]; exact h.1 i hi, h.2.1, h.2.2.1, by rw [(f.2 57 h57).2]; exact h.2.2.2.1, fun j hj => by rw [(f.2 58 h58).2]; exact h.2.2.2.2 j hj⟩
theorem lk_ok {rs : List Nat} {l N : Nat} {fs : Bool} {z : Nat × List Nat} (hn : rs.Nodup) (hb : ∀ x, x ∈ rs → x < N) (hl : l < N) (h : lk rs l fs = some z) : z.2.Nodup ∧ (∀ x, x ∈ z.2 → x < N) ∧ z.1 < z.2.length := by
  unfold lk at h
  split at h
  · rename_i hm
    cases h
    exact ⟨hn, hb, List.idxOf_lt_length_of_mem hm⟩
  · rename_i hm
    split at h
    · cases h
      refine ⟨?_, ?_, by rw [List.length_append]; exact Nat.lt_succ_self _⟩
      · rw [List.nodup_append]
        refine ⟨hn, by simp, ?_⟩
        intro x hx y hy
        rw [List.mem_singleton] at hy
        intro e
        exact hm (by rw [← hy, ← e]; exact hx)
      · intro x hx
        rw [List.mem_append, List.mem_singleton] at hx
        rcases hx with hx | hx
        · exact hb x hx
        · rw [hx]; exact hl
    · cases h
def mTermR (len : Nat) (b : Nat → Int32) (W op : Nat) (fs : Bool) (p : Nat) (ms : List Nat) (rg : Nat → Int32) : Option (Nat × List Nat × (Nat → Int32) × Int32) :=
  if isFg (tv len b p) then (mNum len b p).map (fun z => (z.2, ms, rg, z.1)) else (mMark len b W op fs p ms rg).map (fun z => (z.1, z.2.2.1, z.2.2.2, 16 + nI z.2.1))
def mRegsR (len : Nat) (b : Nat → Int32) (fs : Bool) : Nat → Nat → jPS → Option jPS
  | 0, _, s => some s
  | f + 1, j, s => (mGap len b s.1).bind (fun p1 => (mRegR len b fs p1 s.2.1).bind (fun z => mRegsR len b fs f (j + 1) (z.1, z.2.2, s.2.2.1, up6 s.2.2.2 (j + 1) (nI z.2.1))))
theorem mNum_lt {len : Nat} {b : Nat → Int32} {p : Nat} {z : Int32 × Nat} (h : mNum len b p = some z) : z.1 < 16 := by
  unfold mNum at h
  split at h
  · cases h
  · split at h
    · cases h
    · split at h
      · cases h
      · rename_i h3
        cases h
        rw [Int32.lt_iff_toInt_lt] at h3 ⊢
        have e1 : (15 : Int32).toInt = 15 := rfl
        have e2 : (16 : Int32).toInt = 16 := rfl
        show (nv (tv len b) p (fw len b p)).toInt < _
        omega
theorem mMark_ok {len : Nat} {b : Nat → Int32} {W op : Nat} {fs : Bool} {p : Nat} {ms : List Nat} {rg : Nat → Int32} {z : Nat × Nat × List Nat × (Nat → Int32)} (hn : ms.Nodup) (hb : ∀ x, x ∈ ms → x < 3) (h : mMark len b W op fs p ms rg = some z) : z.1 ≤ len ∧ z.2.2.1.Nodup ∧ (∀ x, x ∈ z.2.2.1 → x < 3) ∧ z.2.1 < z.2.2.1.length := by
  unfold mMark at h
  obtain ⟨y, h1, h2⟩ := Option.bind_eq_some_iff.mp h
  obtain ⟨x, h3, h4⟩ := Option.map_eq_some_iff.mp h2
  obtain ⟨l, hl, el⟩ := mLet_val (X := 105) (Y := 3) (by decide) (by decide) h1
  have hc : y.1.toNatClampNeg = l := by rw [el]; exact nI_clamp (by omega)
  rw [hc] at h3
  have q := lk_ok hn hb hl h3
  have hp := mLet_le h1
  subst h4
  exact ⟨hp, q⟩
theorem mRegR_ok {len : Nat} {b : Nat → Int32} {fs : Bool} {p : Nat} {rs : List Nat} {z : Nat × Nat × List Nat} (hn : rs.Nodup) (hb : ∀ x, x ∈ rs → x < 4) (h : mRegR len b fs p rs = some z) : z.1 ≤ len ∧ z.2.2.Nodup ∧ (∀ x, x ∈ z.2.2 → x < 4) ∧ z.2.1 < z.2.2.length := by
  unfold mRegR at h
  obtain ⟨y, h1, h2⟩ := Option.bind_eq_some_iff.mp h
  obtain ⟨x, h3, h4⟩ := Option.map_eq_some_iff.mp h2
  obtain ⟨l, hl, el⟩ := mLet_val (X := 112) (Y := 4) (by decide) (by decide) h1
  have hc : y.1.toNatClampNeg = l := by rw [el]; exact nI_clamp (by omega)
  rw [hc] at h3
  have q := lk_ok hn hb hl h3
  have hp := mLet_le h1
  subst h4
  exact ⟨hp, q⟩
theorem i16n {i : Nat} (h : i < 3) : (16 : Int32) ≤ 16 + nI i ∧ ¬ (16 + nI i : Int32) < 16 ∧ (16 + nI i : Int32) - 16 = nI i := by
  have : i = 0 ∨ i = 1 ∨ i = 2 := by omega
  rcases this with h | h | h <;> subst h <;> decide
theorem mRegsR_keep {len : Nat} {b : Nat → Int32} {fs : Bool} : ∀ (f j : Nat) (s s' : jPS), mRegsR len b fs f j s = some s' → s'.2.2.1 = s.2.2.1 ∧ ∀ t, (t ≤ j ∨ j + f < t) → s'.2.2.2 t = s.2.2.2 t := by
  intro f
  induction f with
  | zero => intro j s s' h; cases h; exact ⟨rfl, fun _ _ => rfl⟩
  | succ f ih =>
    intro j s s' h
    obtain ⟨p1, _, h2⟩ := Option.bind_eq_some_iff.mp h
    obtain ⟨z, _, h4⟩ := Option.bind_eq_some_iff.mp h2
    obtain ⟨q1, q2⟩ := ih _ _ _ h4
    refine ⟨q1, fun t ht => ?_⟩
    rw [q2 t (by omega)]
    show (if t = j + 1 then _ else s.2.2.2 t) = _
    rw [if_neg (by omega)]
section MS1
variable {d : Nat} {len W : Nat} {b : Nat → Int32}
theorem c144 {σ : jS} {p : Nat} (hA : rdA σ W len b p) {r k op : Nat} (hr : r < 24) (hk : k < 384) (ho : op < 19) {ms : List Nat} {rg : Nat → Int32} (hC : rdC σ r ms rg) (fs : Bool) :
    ∃ σ', jx (d + 3) 144 0 [some (.ref 47), some (.int (nI r)), some (.int (nI k)), some (.int (nI op)), some (.int (if fs = true then 1 else 0)), none, none, none] [] σ = some (none, σ') ∧ FR [47, 72, 57, 58, 53, 54] σ σ' ∧ (∀ g, g ≠ 666 → g ≠ 667 → g ≠ 668 → jI σ' g 47 = jI σ g 47) ∧ (∀ i, i ≠ r → jA σ' 57 i = jA σ 57 i) ∧ (∀ i, ¬ (3 * r ≤ i ∧ i < 3 * r + 3) → jA σ' 58 i = jA σ 58 i) ∧ (∀ i, i ≠ k → jA σ' 53 i = jA σ 53 i) ∧ (∀ i, i ≠ k → jA σ' 54 i = jA σ 54 i) ∧
      (match mTermR len b W op fs p ms rg with | some z => rdA σ' W len b z.1 ∧ rdC σ' r z.2.1 z.2.2.1 ∧ MT σ' k z.2.2.2 | none => ¬ jI σ' 667 47 = 0) := by
  have hA0 := hA
  obtain ⟨hS, hN, hT, hp, hat, h0, hw⟩ := hA
  unfold mTermR
  by_cases hf : isFg (tv len b p)
  · rw [if_pos hf]
    obtain ⟨σ', e, f, g, q53, q54, q⟩ := c144n (d := d) hS hT hp hat h0 hk (x1 := some (.int (nI r))) (x3 := some (.int (nI op))) (x4 := if fs = true then 1 else 0) hf
    refine ⟨σ', e, f.mono (by decide), g, fun i _ => (f.2 57 (by decide)).2 i, fun i _ => (f.2 58 (by decide)).2 i, q53, q54, ?_⟩
    cases hM : mNum len b p with
    | none => rw [hM] at q; exact q
    | some z =>
      rw [hM] at q
      obtain ⟨q1, q2, q3, q4⟩ := q
      refine ⟨hA0.frame f g (by decide) (by decide) (mNum_le hp hM) q1 q2, hC.frame f (by decide) (by decide) (by decide), fun _ => ⟨q3, q4⟩, fun h => ?_⟩
      exact absurd (mNum_lt hM) (Int32.not_lt.mpr h)
  · rw [if_neg hf]
    obtain ⟨σ', e, f, g, q57, q58, q53, q54, q⟩ := c144m (d := d) hS hT hp hat h0 hw hr hk ho hC.1 hC.2.1 hC.2.2.1 hC.2.2.2.1 hC.2.2.2.2 fs hf
    refine ⟨σ', e, f, g, q57, q58, q53, q54, ?_⟩
    cases hM : mMark len b W op fs p ms rg with
    | none => rw [hM] at q; exact q
    | some z =>
      rw [hM] at q
      obtain ⟨q1, q2, q3, q4, q5, q6, q7⟩ := q
      obtain ⟨o1, o2, o3, o4⟩ := mMark_ok hC.2.1 hC.2.2.1 hM
      have o5 := nodup_le 3 _ o2 o3
      have v := i16n (i := z.2.1) (by omega)
      refine ⟨hA0.frame f g (by decide) (by decide) o1 q1 q2, ⟨q3, o2, o3, q4, q5⟩, fun h => absurd h v.2.1, fun _ => ⟨q6, ?_⟩⟩
      show jA σ' 54 k = 16 + nI z.2.1 - 16
      rw [v.2.2]; exact q7
theorem c131r {r k m : Nat} (hr : r < 24) (hk : k < 192) (hm : m ≤ 3) {sd : Nat} (hsd : sd = 0 ∨ sd = 1) {x3 x4 x5 : Option Value} : ∀ (f j : Nat) (s : jPS) (σ : jS), j + f = m → rdA σ W len b s.1 → rdB σ r s.2.1 →
    ∃ σ' v, jx (d + 4) 131 77 [some (.ref 47), some (.int (nI r)), some (.int (nI sd)), x3, x4, x5, some (.int (nI k)), some (.int (nI m)), some (.int (nI j))] [] σ = jx (d + 4) 131 129 [some (.ref 47), some (.int (nI r)), some (.int (nI sd)), x3, x4, x5, some (.int (nI k)), some (.int (nI m)), v] [] σ' ∧ FR [47, 71, 56, 52] σ σ' ∧ (∀ g, g ≠ 666 → g ≠ 667 → g ≠ 668 → jI σ' g 47 = jI σ g 47) ∧ (∀ i, i ≠ r → jA σ' 56 i = jA σ 56 i) ∧ (∀ i, ¬ (3 * k + j ≤ i ∧ i < 3 * k + 3) → jA σ' 52 i = jA σ 52 i) ∧
      (match mRegsR len b (sd == 0) f j s with | some s' => rdA σ' W len b s'.1 ∧ rdB σ' r s'.2.1 ∧ (∀ i, j ≤ i → i < m → jA σ' 52 (3 * k + i) = s'.2.2.2 (i + 1)) | none => ¬ jI σ' 667 47 = 0) := by
  intro f
  induction f with
  | zero =>
    intro j s σ hj hA hB
    have e : nI m ≤ nI j := nI_le (by omega) (by omega)
    refine ⟨σ, some (.int (nI j)), ?_, FR.refl _ σ, fun _ _ _ _ => rfl, fun _ _ => rfl, fun _ _ => rfl, hA, hB, fun i h1 h2 => by omega⟩
    rw [k131_77, if_pos e]
  | succ f ih =>
    intro j s σ hj hA hB
    have hA0 := hA
    obtain ⟨hS, hN, hT, hp, hat, h0, hw⟩ := hA
    have e : ¬ nI m ≤ nI j := nI_ge (by omega) (by omega)
    have stop : ∀ (υ : jS), SH υ → ¬ jI υ 667 47 = 0 → jx (d + 4) 131 77 [some (.ref 47), some (.int (nI r)), some (.int (nI sd)), x3, x4, x5, some (.int (nI k)), some (.int (nI m)), some (.int (nI (j + 1)))] [] υ = jx (d + 4) 131 129 [some (.ref 47), some (.int (nI r)), some (.int (nI sd)), x3, x4, x5, some (.int (nI k)), some (.int (nI m)), some (.int (nI (j + 1)))] [] υ := by
      intro υ hSu hf
      rw [k131_77]
      by_cases h : nI m ≤ nI (j + 1)
      · rw [if_pos h]
      · rw [if_neg h, k131_84 (sT_47 hSu), if_pos hf]
    obtain ⟨σ1, e1, f1, r1⟩ := c138 (d := d + 1) hS hT hp hat h0
    have hS1 := f1.1.sh hS
    have F1 : FR [47, 71, 56, 52] σ σ1 := f1.1.mono (by decide)
    have start : jx (d + 4) 131 77 [some (.ref 47), some (.int (nI r)), some (.int (nI sd)), x3, x4, x5, some (.int (nI k)), some (.int (nI m)), some (.int (nI j))] [] σ = jx (d + 4) 131 95 [some (.ref 47), some (.int (nI r)), some (.int (nI sd)), x3, x4, x5, some (.int (nI k)), some (.int (nI m)), some (.int (nI j))] [] σ1 := by
      rw [k131_77, if_neg e, k131_84 (sT_47 hS), if_neg (fun z => z h0), k131_91 (sT_47 hS), e1]
      rfl
    show ∃ σ' v, _ ∧ _ ∧ _ ∧ _ ∧ _ ∧ (match (mGap len b s.1).bind (fun p1 => (mRegR len b (sd == 0) p1 s.2.1).bind (fun z => mRegsR len b (sd == 0) f (j + 1) (z.1, z.2.2, s.2.2.1, up6 s.2.2.2 (j + 1) (nI z.2.1)))) with | some s' => _ | none => _)
    cases hG : mGap len b s.1 with
    | none =>
      rw [hG] at r1
      have r1 : ¬ jI σ1 667 47 = 0 := r1
      refine ⟨σ1, some (.int (nI (j + 1))), ?_, F1, f1.2, fun i _ => (f1.1.2 56 (by decide)).2 i, fun i _ => (f1.1.2 52 (by decide)).2 i, r1⟩
      rw [start, k131_95 (sT_47 hS1), if_pos r1, k131_123, ← nI_succ]
      exact stop σ1 hS1 r1
    | some p1 =>
      rw [hG] at r1
      obtain ⟨a1, z1⟩ := r1
      have hA1 : rdA σ1 W len b p1 := hA0.frame f1.1 f1.2 (by decide) (by decide) (mGap_le hp hG) a1 z1
      have hB1 : rdB σ1 r s.2.1 := hB.frame f1.1 (by decide) (by decide)
      have hk3 : (3 : Int32) * nI k + nI j = nI (3 * k + j) := by rw [show (3 : Int32) = nI 3 from rfl, nmul, nadd]
      obtain ⟨σ2, e2, f2, g2, q56, q52, r2⟩ := c139 (d := d) hS1 hA1.2.2.1 hA1.2.2.2.1 a1 z1 hr (k := 3 * k + j) (by omega) hB1.1 hB1.2.1 hB1.2.2.1 hB1.2.2.2 (sd == 0)
      have hS2 := f2.sh hS1
      have F2 := F1.trans f2
      have G2 : ∀ g, g ≠ 666 → g ≠ 667 → g ≠ 668 → jI σ2 g 47 = jI σ g 47 := fun g x y z => by rw [g2 g x y z, f1.2 g x y z]
      have step : jx (d + 4) 131 77 [some (.ref 47), some (.int (nI r)), some (.int (nI sd)), x3, x4, x5, some (.int (nI k)), some (.int (nI m)), some (.int (nI j))] [] σ = jx (d + 4) 131 77 [some (.ref 47), some (.int (nI r)), some (.int (nI sd)), x3, x4, x5, some (.int (nI k)), some (.int (nI m)), some (.int (nI (j + 1)))] [] σ2 := by
        rw [start, k131_95 (sT_47 hS1), if_neg (fun z => z z1), k131_102, hk3]
        rcases hsd with h | h
        · subst h
          rw [if_neg (fun z => z rfl), k131_115 (sT_47 hS1)]
          have eq : (if ((0 : Nat) == 0) = true then (1 : Int32) else 0) = 1 := rfl
          rw [eq] at e2
          rw [e2]
          simp only [Option.bind_some, Option.toList_none, List.nil_append]
          rw [k131_123, ← nI_succ]
        · subst h
          rw [if_pos (by decide), k131_119 (sT_47 hS1)]
          have eq : (if ((1 : Nat) == 0) = true then (1 : Int32) else 0) = 0 := rfl
          rw [eq] at e2
          rw [e2]
          simp only [Option.bind_some, Option.toList_none, List.nil_append]
          rw [k131_123, ← nI_succ]
      have k56 : ∀ i, i ≠ r → jA σ2 56 i = jA σ 56 i := fun i hi => by rw [q56 i hi, (f1.1.2 56 (by decide)).2]
      have k52 : ∀ i, i ≠ 3 * k + j → jA σ2 52 i = jA σ 52 i := fun i hi => by rw [q52 i hi, (f1.1.2 52 (by decide)).2]
      rw [Option.bind_some]
      cases hR : mRegR len b (sd == 0) p1 s.2.1 with
      | none =>
        rw [hR] at r2
        have r2 : ¬ jI σ2 667 47 = 0 := r2
        exact ⟨σ2, some (.int (nI (j + 1))), by rw [step]; exact stop σ2 hS2 r2, F2, G2, k56, fun i hi => k52 i (by omega), r2⟩
      | some z =>
        rw [hR] at r2
        obtain ⟨a2, z2, l2, c2, n2⟩ := r2
        obtain ⟨o1, o2, o3, o4⟩ := mRegR_ok hB1.2.1 hB1.2.2.1 hR
        have hA2 : rdA σ2 W len b z.1 := hA1.frame f2 g2 (by decide) (by decide) o1 a2 z2
        obtain ⟨σ3, v, e3, f3, g3, q3, w3, r3⟩ := ih (j + 1) (z.1, z.2.2, s.2.2.1, up6 s.2.2.2 (j + 1) (nI z.2.1)) σ2 (by omega) hA2 ⟨l2, o2, o3, c2⟩
        refine ⟨σ3, v, by rw [step]; exact e3, F2.trans f3, fun g x y z => by rw [g3 g x y z, G2 g x y z], fun i hi => by rw [q3 i hi, k56 i hi], fun i hi => by rw [w3 i (by omega), k52 i (by omega)], ?_⟩
        rw [Option.bind_some]
        cases hQ : mRegsR len b (sd == 0) f (j + 1) (z.1, z.2.2, s.2.2.1, up6 s.2.2.2 (j + 1) (nI z.2.1)) with
        | none => rw [hQ] at r3; exact r3
        | some s' =>
          rw [hQ] at r3
          obtain ⟨u1, u2, u3⟩ := r3
          refine ⟨u1, u2, fun i h1 h2 => ?_⟩
          by_cases hij : i = j
          · subst hij
            rw [w3 _ (by omega), n2, (mRegsR_keep _ _ _ _ hQ).2 (i + 1) (Or.inl (Nat.le_refl _))]
            show _ = if i + 1 = i + 1 then nI z.2.1 else _
            rw [if_pos rfl]
          · exact u3 i (by omega) h2
end MS1
