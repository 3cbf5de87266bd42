/-! the reference's reader: a program's order, and all of them -/
/-- the reference reads: its reader's fields, the cells of P, and what is new -/
def PF (P : Nat → Nat → Prop) (σ σ' : jS) : Prop := FPs σ σ' ∧ jnx σ ≤ jnx σ' ∧ jsl σ ≤ jsl σ' ∧ ∀ a, a < jnx σ → jT σ' a = jT σ a ∧ jN σ' a = jN σ a ∧ (∀ g, jR σ' g a = jR σ g a) ∧ (∀ i, jG σ' a i = jG σ a i) ∧ (∀ g, (a < 47 ∨ 80 < a ∨ (a = 47 ∧ g ≠ 666 ∧ g ≠ 667 ∧ g ≠ 668)) → jI σ' g a = jI σ g a) ∧ (∀ i, a ≠ 47 → ¬ P a i → jA σ' a i = jA σ a i)
section PFS
variable {P : Nat → Nat → Prop} {σ τ υ : jS}
theorem PF.refl (P : Nat → Nat → Prop) (σ : jS) : PF P σ σ := ⟨Or.inl rfl, Nat.le_refl _, Nat.le_refl _, fun _ _ => ⟨rfl, rfl, fun _ => rfl, fun _ => rfl, fun _ _ => rfl, fun _ _ _ => rfl⟩⟩
theorem PF.trans (h : PF P σ τ) (k : PF P τ υ) : PF P σ υ := ⟨h.1.trans k.1, Nat.le_trans h.2.1 k.2.1, Nat.le_trans h.2.2.1 k.2.2.1, fun a ha =>
  have x := h.2.2.2 a ha
  have y := k.2.2.2 a (Nat.lt_of_lt_of_le ha h.2.1)
  ⟨y.1.trans x.1, y.2.1.trans x.2.1, fun g => (y.2.2.1 g).trans (x.2.2.1 g), fun i => (y.2.2.2.1 i).trans (x.2.2.2.1 i), fun g hg => (y.2.2.2.2.1 g hg).trans (x.2.2.2.2.1 g hg), fun i h4 hi => (y.2.2.2.2.2 i h4 hi).trans (x.2.2.2.2.2 i h4 hi)⟩⟩
theorem PF.mono {Q : Nat → Nat → Prop} (h : PF P σ τ) (hq : ∀ a i, P a i → Q a i) : PF Q σ τ := ⟨h.1, h.2.1, h.2.2.1, fun a ha =>
  have x := h.2.2.2 a ha
  ⟨x.1, x.2.1, x.2.2.1, x.2.2.2.1, x.2.2.2.2.1, fun i h4 hi => x.2.2.2.2.2 i h4 (fun z => hi (hq a i z))⟩⟩
theorem PF.A {a i : Nat} {v : Int32} (h : PF P σ τ) (hp : P a i ∨ jnx σ ≤ a) : PF P σ (jsA τ a i v) := ⟨h.1.trans (Or.inl rfl), h.2.1, h.2.2.1, fun b hb =>
  have x := h.2.2.2 b hb
  ⟨x.1, x.2.1, x.2.2.1, x.2.2.2.1, x.2.2.2.2.1, fun j h4 hj => by
    rw [zA_A, if_neg (fun z => by
      rcases hp with hp | hp
      · rw [z.1, z.2] at hj; exact hj hp
      · rw [z.1] at hb; omega)]
    exact x.2.2.2.2.2 j h4 hj⟩⟩
theorem PF.I {g : Nat} {v : Int32} (h : PF P σ τ) (hg : g = 666 ∨ g = 667 ∨ g = 668) (hv : g = 667 → 0 < v := by first | (intro z; exact absurd z (by decide)) | (intro _; decide)) : PF P σ (jsI τ g 47 v) := ⟨h.1.trans (FPs_I (fun z _ => hv z)), h.2.1, h.2.2.1, fun b hb =>
  have x := h.2.2.2 b hb
  ⟨x.1, x.2.1, x.2.2.1, x.2.2.2.1, fun f hf => by
    rw [zI_I, if_neg (fun z => by rw [z.1, z.2] at hf; omega)]
    exact x.2.2.2.2.1 f hf, x.2.2.2.2.2⟩⟩
theorem PF.B {c n : Nat} (h : PF P σ τ) : PF P σ (jnA τ c n) := ⟨h.1.trans (Or.inl rfl), Nat.le_succ_of_le h.2.1, Nat.le_trans h.2.2.1 (Nat.le_add_right _ _), fun b hb =>
  have x := h.2.2.2 b hb
  have e : ¬ b = jnx τ := Nat.ne_of_lt (Nat.lt_of_lt_of_le hb h.2.1)
  ⟨by rw [zB_T, if_neg e]; exact x.1, by rw [zB_N, if_neg e]; exact x.2.1, x.2.2.1, x.2.2.2.1, x.2.2.2.2.1, fun j h4 hj => by rw [zB_A, if_neg e]; exact x.2.2.2.2.2 j h4 hj⟩⟩
theorem PF.F {l : List Nat} (h : PF P σ τ) (f : FR l τ υ) (hg : ∀ g, g ≠ 666 → g ≠ 667 → g ≠ 668 → jI υ g 47 = jI τ g 47) (hl : ∀ a, a ∈ l → a = 47 ∨ jnx σ ≤ a ∨ ((47 ≤ a ∧ a ≤ 80) ∧ ∀ i, ¬ P a i → jA υ a i = jA τ a i)) : PF P σ υ := ⟨h.1.trans f.1.2.2.2.1.2, by rw [f.1.2.2.2.2.1]; exact h.2.1, by rw [f.1.2.2.2.2.2]; exact h.2.2.1, fun b hb => by
  have x := h.2.2.2 b hb
  refine ⟨by rw [f.1.1]; exact x.1, by rw [f.1.2.1]; exact x.2.1, fun g => by rw [f.1.2.2.1]; exact x.2.2.1 g, fun i => by rw [f.1.2.2.2.1.1]; exact x.2.2.2.1 i, fun g hgg => ?_, fun i h4 hi => ?_⟩
  · by_cases b47 : b = 47
    · have h3 : g ≠ 666 ∧ g ≠ 667 ∧ g ≠ 668 := by omega
      rw [b47, hg g h3.1 h3.2.1 h3.2.2, ← b47]; exact x.2.2.2.2.1 g hgg
    · by_cases bl : b ∈ l
      · rcases hl b bl with z | z | z
        · exact absurd z b47
        · omega
        · omega
      · rw [(f.2 b bl).1]; exact x.2.2.2.2.1 g hgg
  · by_cases bl : b ∈ l
    · rcases hl b bl with z | z | z
      · exact absurd z h4
      · omega
      · rw [z.2 i hi]; exact x.2.2.2.2.2 i h4 hi
    · rw [(f.2 b bl).2]; exact x.2.2.2.2.2 i h4 hi⟩
theorem PF.sh (h : PF P σ τ) (hx : 81 ≤ jnx σ) (hS : SH σ) : SH τ := by
  have e : SH τ = SH σ := SHc_of (fun a ha => (h.2.2.2 a (by omega)).1) (fun a ha => (h.2.2.2 a (by omega)).2.1) (fun g a ha => (h.2.2.2 a (by omega)).2.2.1 g)
  rw [e]; exact hS
theorem PF.f47 (h : PF P σ τ) (hx : 81 ≤ jnx σ) {g : Nat} (hg : g ≠ 666 ∧ g ≠ 667 ∧ g ≠ 668) : jI τ g 47 = jI σ g 47 := (h.2.2.2 47 (by omega)).2.2.2.2.1 g (Or.inr (Or.inr ⟨rfl, hg⟩))
theorem PF.ar (h : PF P σ τ) (hx : 81 ≤ jnx σ) {a : Nat} (ha : a < 81) (i : Nat) (hp : ¬ P a i) (h4 : a ≠ 47 := by decide) : jA τ a i = jA σ a i := (h.2.2.2 a (by omega)).2.2.2.2.2 i h4 hp
theorem PF.tm {len : Nat} {b : Nat → Int32} (h : PF P σ τ) (hx : 81 ≤ jnx σ) (hp : ∀ i, ¬ P 48 i) (hT : TM σ len b) : TM τ len b := ⟨by rw [h.f47 hx (by decide)]; exact hT.1, hT.2.1, fun i hi => by rw [h.ar hx (by decide) i (hp i)]; exact hT.2.2 i hi⟩
theorem PF.nv (h : PF P σ τ) (hx : 81 ≤ jnx σ) (hp : ∀ i, ¬ P 70 i) (hN : NV σ) : NV τ := fun k hk => by rw [h.ar hx (by decide) k (hp k)]; exact hN k hk
end PFS
theorem PF.mf {P : Nat → Nat → Prop} {σ τ υ : jS} (h : PF P σ τ) (f : MF τ υ) : PF P σ υ := h.F f.1 f.2 (fun a ha => by simp at ha; exact Or.inl ha)
theorem PF.mq {P : Nat → Nat → Prop} {σ τ υ : jS} {q : Nat} (h : PF P σ τ) (f : MQf q τ υ) (hq : jnx σ ≤ q) : PF P σ υ := h.F f.1 f.2 (fun a ha => by
  simp at ha
  rcases ha with ha | ha
  · exact Or.inl ha
  · exact Or.inr (Or.inl (by omega)))
/-- one order of a program: its op, the place behind it, what it names -/
def mOrd (len : Nat) (b : Nat → Int32) (W n p : Nat) : Option (Nat × Nat × (Nat → Int32)) :=
  (mName len b (nI n = 24) p).bind (fun z => (mRegsP len b (regN z.1.toNatClampNeg) 0 z.2 (fun _ => 0)).bind (fun y => (mNumP len b W z.1.toNatClampNeg y.1 y.2).map (fun x => (z.1.toNatClampNeg, x.1, x.2))))
theorem mName_ok {len : Nat} {b : Nat → Int32} {tm : Prop} [Decidable tm] {p : Nat} {z : Int32 × Nat} (h : mName len b tm p = some z) : (∃ k, k < 19 ∧ z.1 = nI k) ∧ z.2 = p + lw len b p ∧ isLo (tv len b p) ∧ ¬ tm := by
  unfold mName at h
  split at h
  · cases h
  · rename_i h1
    split at h
    · cases h
    · rename_i h2
      split at h
      · cases h
      · rename_i h3
        cases h
        refine ⟨?_, rfl, Classical.byContradiction h1, h3⟩
        rcases opF_ok (wz (tv len b) p (lw len b p)) 19 0 (by decide) with q | ⟨k, hk, q, _⟩
        · exact absurd q h2
        · exact ⟨k, hk, q⟩
theorem mName_le {len : Nat} {b : Nat → Int32} {tm : Prop} [Decidable tm] {p : Nat} {z : Int32 × Nat} (hp : p ≤ len) (h : mName len b tm p = some z) : z.2 ≤ len := by
  have q := (mName_ok h).2.1
  have : lw len b p ≤ len - p := lwF_le _ _ _
  omega
section MP2
variable {d : Nat} {σ : jS} {len W : Nat} {b : Nat → Int32} {p : Nat}
theorem c159a (hx : 81 ≤ jnx σ) (hS : SH σ) (hN : NV σ) (hT : TM σ len b) (hp : p ≤ len) (hat : jI σ 666 47 = nI p) (h0 : jI σ 667 47 = 0) (hW : W = 1 ∨ W = 2 ∨ W = 3) (hw : jI σ 640 47 = nI W) (P n : Nat) {x4 x5 x6 x7 x8 : Option Value} :
    ∃ σ' v4 v7 v8, PF (fun _ _ => False) σ σ' ∧ jnx σ' = jnx σ + 1 ∧ jsl σ' = jsl σ + 3 ∧ (match mOrd len b W n p with
      | some z => jx (d + 3) 159 28 [some (.ref 47), some (.int (nI P)), some (.int (nI n)), some (.int 1), x4, x5, x6, x7, x8] [] σ = jx (d + 3) 159 192 [some (.ref 47), some (.int (nI P)), some (.int (nI n)), some (.int 1), some (.int (nI z.1)), some (.int (nI (24 * P + n))), some (.ref (jnx σ)), v7, v8] [] σ' ∧ jI σ' 666 47 = nI z.2.1 ∧ jI σ' 667 47 = 0 ∧ z.1 < 19 ∧ z.2.1 ≤ len ∧ jT σ' (jnx σ) = 20 ∧ jN σ' (jnx σ) = 3 ∧ ∀ i, i < 3 → jA σ' (jnx σ) i = z.2.2 i
      | none => jx (d + 3) 159 28 [some (.ref 47), some (.int (nI P)), some (.int (nI n)), some (.int 1), x4, x5, x6, x7, x8] [] σ = jx (d + 3) 159 274 [some (.ref 47), some (.int (nI P)), some (.int (nI n)), some (.int 1), v4, some (.int (nI (24 * P + n))), some (.ref (jnx σ)), v7, v8] [] σ' ∧ ¬ jI σ' 667 47 = 0) := by
  obtain ⟨w, σ1, e1, f1, r1⟩ := c132 (d := d) hS hN hT hp hat h0 (nI n) 24
  have hS1 := f1.1.sh hS
  have nx1 : jnx σ1 = jnx σ := f1.1.1.2.2.2.2.1
  have sl1 : jsl σ1 = jsl σ := f1.1.1.2.2.2.2.2
  have cl3 : Int32.toNatClampNeg 3 = 3 := rfl
  have cl0 : Int32.toNatClampNeg 0 = 0 := rfl
  have cl1 : Int32.toNatClampNeg 1 = 1 := rfl
  have cl2 : Int32.toNatClampNeg 2 = 2 := rfl
  have j0 : jin 3 0 := jin_n (N := 3) (k := 0) (by decide) (by decide)
  have j1 : jin 3 1 := jin_n (N := 3) (k := 1) (by decide) (by decide)
  have j2 : jin 3 2 := jin_n (N := 3) (k := 2) (by decide) (by decide)
  have nq : ¬ 47 = jnx σ := by omega
  have hk24 : (24 : Int32) * nI P + nI n = nI (24 * P + n) := by rw [show (24 : Int32) = nI 24 from rfl, nmul, nadd]
  let τ := jsA (jsA (jsA (jnA σ1 0 3) (jnx σ) 0 0) (jnx σ) 1 0) (jnx σ) 2 0
  have eτ : jsA (jsA (jsA (jnA σ1 0 3) (jnx σ) 0 0) (jnx σ) 1 0) (jnx σ) 2 0 = τ := rfl
  have F : PF (fun _ _ => False) σ τ := (((((PF.refl _ σ).mf f1).B).A (Or.inr (Nat.le_refl _))).A (Or.inr (Nat.le_refl _))).A (Or.inr (Nat.le_refl _))
  have tT : jT τ (jnx σ) = 20 := by show (if jnx σ = jnx σ1 then 20 else _) = _; rw [if_pos nx1.symm]
  have tN : jN τ (jnx σ) = 3 := by show (if jnx σ = jnx σ1 then 3 else _) = _; rw [if_pos nx1.symm]
  have tA : ∀ i, i < 3 → jA τ (jnx σ) i = 0 := fun i hi => by
    show jA (jsA (jsA (jsA (jnA σ1 0 3) (jnx σ) 0 0) (jnx σ) 1 0) (jnx σ) 2 0) (jnx σ) i = 0
    rw [zA_A, zA_A, zA_A, zB_A, if_pos nx1.symm]
    simp only [ite_self]
  have tnx : jnx τ = jnx σ + 1 := by show jnx σ1 + 1 = _; rw [nx1]
  have tsl : jsl τ = jsl σ + 3 := by show jsl σ1 + 3 = _; rw [sl1]
  have tI : jI τ = jI σ1 := rfl
  have hSτ : SH τ := F.sh hx hS
  have start : jx (d + 3) 159 28 [some (.ref 47), some (.int (nI P)), some (.int (nI n)), some (.int 1), x4, x5, x6, x7, x8] [] σ = if ¬ jI σ1 667 47 = 0 then jx (d + 3) 159 88 [some (.ref 47), some (.int (nI P)), some (.int (nI n)), some (.int 1), some (.int w), some (.int (nI (24 * P + n))), some (.ref (jnx σ)), x7, x8] [] τ else jx (d + 3) 159 80 [some (.ref 47), some (.int (nI P)), some (.int (nI n)), some (.int 1), some (.int w), some (.int (nI (24 * P + n))), some (.ref (jnx σ)), x7, x8] [] τ := by
    rw [k159_28, if_neg (by decide), k159_32 (sT_47 hS), if_neg (fun z => z h0), k159_39 (sT_47 hS), e1]
    simp only [Option.bind_some, Option.toList_some, List.cons_append, List.nil_append]
    have tT1 : jT (jnA σ1 0 (Int32.toNatClampNeg 3)) (jnx σ1) = 20 := by rw [zB_T, if_pos rfl]
    have tN1 : jN (jnA σ1 0 (Int32.toNatClampNeg 3)) (jnx σ1) = 3 := by rw [zB_N, if_pos rfl]; rfl
    rw [k159_46 tT1 (by rw [tN1]; exact j0) (by rw [tN1]; exact j1) (by rw [tN1]; exact j2) (by rw [zB_T, if_neg (by rw [nx1]; exact nq)]; exact sT_47 hS1)]
    rw [hk24, nx1, cl3, cl0, cl1, cl2, eτ, zB_I]
  have stop : ∀ (υ : jS), SH υ → ¬ jI υ 667 47 = 0 → ∀ y4 y5 y6 y7 y8 : Option Value, jx (d + 3) 159 141 [some (.ref 47), some (.int (nI P)), some (.int (nI n)), some (.int 1), y4, y5, y6, y7, y8] [] υ = jx (d + 3) 159 274 [some (.ref 47), some (.int (nI P)), some (.int (nI n)), some (.int 1), y4, y5, y6, y7, y8] [] υ := by
    intro υ hSu hf y4 y5 y6 y7 y8
    rw [k159_141 (sT_47 hSu), if_pos hf, k159_185 (sT_47 hSu), if_pos hf]
  unfold mOrd
  cases hM : mName len b (nI n = 24) p with
  | none =>
    rw [hM] at r1
    have r1 : ¬ jI σ1 667 47 = 0 := r1
    refine ⟨τ, some (.int w), some (.int 0), some (.int 0), F, tnx, tsl, ?_, by rw [tI]; exact r1⟩
    rw [start, if_pos r1, k159_88, k159_94, if_pos (by decide)]
    exact stop τ hSτ (by rw [tI]; exact r1) _ _ _ _ _
  | some z =>
    rw [hM] at r1
    obtain ⟨w1, a1, z1⟩ := r1
    obtain ⟨⟨k, hk, zk⟩, -, -, -⟩ := mName_ok hM
    have hp1 := mName_le hp hM
    have wk : w = nI k := w1.trans zk
    have kc : z.1.toNatClampNeg = k := by rw [zk]; exact nI_clamp (by omega)
    have hr3 : regN k ≤ 3 := by
      rcases k19 hk with h | h | h | h | h | h | h | h | h | h | h | h | h | h | h | h | h | h | h <;> (subst h; decide)
    have hTτ : TM τ len b := F.tm hx (fun _ => id) hT
    obtain ⟨σ2, v8, e2, f2, r2⟩ := c159r (d := d) (len := len) (b := b) (q := jnx σ) (by omega) (x1 := some (.int (nI P))) (x2 := some (.int (nI n))) (x3 := some (.int 1)) (x4 := some (.int (nI k))) (x5 := some (.int (nI (24 * P + n)))) hr3 (regN k) 0 z.2 (fun _ => 0) τ (by omega) hSτ hTτ hp1 (by rw [tI]; exact a1) (by rw [tI]; exact z1) tT tN tA
    have F2 := F.mq f2 (Nat.le_refl _)
    have hS2 := F2.sh hx hS
    have to94 : jx (d + 3) 159 28 [some (.ref 47), some (.int (nI P)), some (.int (nI n)), some (.int 1), x4, x5, x6, x7, x8] [] σ = jx (d + 3) 159 141 [some (.ref 47), some (.int (nI P)), some (.int (nI n)), some (.int 1), some (.int (nI k)), some (.int (nI (24 * P + n))), some (.ref (jnx σ)), some (.int (nI (regN k))), v8] [] σ2 := by
      rw [start, if_neg (fun y => y z1), wk, k159_80, c137 hk]
      simp only [Option.bind_some, Option.toList_some, List.cons_append, List.nil_append]
      rw [k159_85]
      exact e2
    rw [Option.bind_some, kc]
    cases hR : mRegsP len b (regN k) 0 z.2 (fun _ => 0) with
    | none =>
      rw [hR] at r2
      have r2 : ¬ jI σ2 667 47 = 0 := r2
      refine ⟨σ2, some (.int (nI k)), some (.int (nI (regN k))), v8, F2, by rw [f2.1.1.2.2.2.2.1]; exact tnx, by rw [f2.1.1.2.2.2.2.2]; exact tsl, ?_, r2⟩
      rw [to94]
      exact stop σ2 hS2 r2 _ _ _ _ _
    | some y =>
      rw [hR] at r2
      obtain ⟨a2, z2, l2, g2⟩ := r2
      have t12 : jT σ2 (jnx σ) = 20 := by rw [f2.1.1.1]; exact tT
      have t22 : jN σ2 (jnx σ) = 3 := by rw [f2.1.1.2.1]; exact tN
      have hw2 : jI σ2 640 47 = nI W := by rw [F2.f47 hx (by decide)]; exact hw
      obtain ⟨σ3, f3, r3⟩ := c159n (d := d) (q := jnx σ) (by omega) hS2 (F2.tm hx (fun _ => id) hT) l2 a2 z2 hW hw2 hk t12 t22 g2 (x1 := some (.int (nI P))) (x2 := some (.int (nI n))) (x3 := some (.int 1)) (x5 := some (.int (nI (24 * P + n)))) (x7 := some (.int (nI (regN k)))) (x8 := v8)
      have F3 := F2.mq f3 (Nat.le_refl _)
      refine ⟨σ3, some (.int (nI k)), some (.int (nI (regN k))), v8, F3, by rw [f3.1.1.2.2.2.2.1, f2.1.1.2.2.2.2.1]; exact tnx, by rw [f3.1.1.2.2.2.2.2, f2.1.1.2.2.2.2.2]; exact tsl, ?_⟩
      rw [Option.bind_some]
      cases hO : mNumP len b W k y.1 y.2 with
      | none =>
        rw [hO] at r3
        exact ⟨to94.trans r3.1, r3.2⟩
      | some x =>
        rw [hO] at r3
        obtain ⟨q1, q2, q3, q4, q5⟩ := r3
        exact ⟨to94.trans q1, q2, q3, hk, q4, by rw [f3.1.1.1]; exact t12, by rw [f3.1.1.2.1]; exact t22, q5⟩
end MP2
