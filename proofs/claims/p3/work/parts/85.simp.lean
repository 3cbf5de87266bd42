/-! program -/
def PSF (R N a i : Nat) : Prop := a ≠ 48 ∧ a ≠ 70 ∧ a < 78 ∧ (a = 50 → 2 * R ≤ i) ∧ (a = 51 ∨ a = 55 → 8 * R ≤ i) ∧ (a = 52 → 24 * R ≤ i) ∧ (a = 53 ∨ a = 54 → 16 * R ≤ i) ∧ (a = 56 ∨ a = 57 ∨ a = 59 ∨ a = 60 ∨ a = 61 ∨ a = 63 ∨ a = 64 → R ≤ i) ∧ (a = 58 → 3 * R ≤ i) ∧ (a = 65 → N ≤ i) ∧ (66 ≤ a ∧ a ≤ 69 → 24 * N ≤ i)
theorem MO.ps {σ σ' : jS} {k : Nat} {o : Nat → Int32} (h : MO σ k o) (e : ∀ a i, (a = 51 ∨ a = 55 → i = k) → (a = 52 → 3 * k ≤ i ∧ i < 3 * k + 3) → (a = 53 ∨ a = 54 → i = 2 * k ∨ i = 2 * k + 1) → 51 ≤ a → a ≤ 55 → jA σ' a i = jA σ a i) : MO σ' k o := by
  obtain ⟨h1, h2, h3, h4, h5⟩ := h
  have r3 := regN3 (o 0).toNatClampNeg
  refine ⟨by rw [e 51 k (fun _ => rfl) (fun z => by omega) (fun z => by omega) (by decide) (by decide)]; exact h1, fun j hj => by rw [e 52 (3 * k + j) (fun z => by omega) (fun _ => by omega) (fun z => by omega) (by decide) (by decide)]; exact h2 j hj, fun hn => (h3 hn).frame (e 53 _ (fun z => by omega) (fun z => by omega) (fun _ => Or.inl rfl) (by decide) (by decide)) (e 54 _ (fun z => by omega) (fun z => by omega) (fun _ => Or.inl rfl) (by decide) (by decide)), by rw [e 55 k (fun _ => rfl) (fun z => by omega) (fun z => by omega) (by decide) (by decide)]; exact h4, fun hn => (h5 hn).frame (e 53 _ (fun z => by omega) (fun z => by omega) (fun _ => Or.inr rfl) (by decide) (by decide)) (e 54 _ (fun z => by omega) (fun z => by omega) (fun _ => Or.inr rfl) (by decide) (by decide))⟩
theorem CM.ar {s : AS} {σ σ' : jS} {P : Nat → Nat → Prop} (hs : WFs s) (h : CM s σ) (hI : ∀ g, g ≠ 666 → g ≠ 667 → g ≠ 668 → jI σ' g 47 = jI σ g 47) (hA : ∀ a i, 48 ≤ a → a ≤ 80 → ¬ P a i → jA σ' a i = jA σ a i) (hP : ∀ a i, P a i → PSF s.rs.length s.ps.length a i) : CM s σ' := by
  have A : ∀ a i, 48 ≤ a → a ≤ 80 → ¬ PSF s.rs.length s.ps.length a i → jA σ' a i = jA σ a i := fun a i h1 h2 hn => hA a i h1 h2 (fun z => hn (hP a i z))
  refine ⟨fun k hk => by rw [A 70 k (by decide) (by decide) (fun z => z.2.1 rfl)]; exact h.nv k hk, by rw [hI 644 (by decide) (by decide) (by decide)]; exact h.nr, by rw [hI 660 (by decide) (by decide) (by decide)]; exact h.np, by rw [hI 640 (by decide) (by decide) (by decide)]; exact h.w, by rw [hI 682 (by decide) (by decide) (by decide)]; exact h.ap, ⟨by rw [hI 642 (by decide) (by decide) (by decide)]; exact h.tm.1, h.tm.2.1, fun i hi => by rw [A 48 i (by decide) (by decide) (fun z => z.1 rfl)]; exact h.tm.2.2 i hi⟩, by rw [hI 678 (by decide) (by decide) (by decide)]; exact h.ns, fun k w hk hw => by rw [A (78 + w) k (by omega) (by omega) (fun z => by have := z.2.2.1; omega)]; exact h.tl k w hk hw, fun i hi => ?_, fun i hi => ?_⟩
  · obtain ⟨⟨rg, m1, m2, m3, m4, m5, m6, m7, m8, m9, m10⟩, e1, e2, e3, e4⟩ := h.rs i hi
    have one : ∀ a, a = 56 ∨ a = 57 ∨ a = 59 ∨ a = 60 ∨ a = 61 ∨ a = 63 ∨ a = 64 → jA σ' a i = jA σ a i := fun a ha => A a i (by omega) (by omega) (fun z => by have := z.2.2.2.2.2.2.2.1 ha; omega)
    have mo : ∀ k o, 8 * i ≤ k → k < 8 * i + 8 → MO σ k o → MO σ' k o := fun k o h1 h2 hm => hm.ps (fun a j z1 z2 z3 h3 h4 => A a j (by omega) (by omega) (fun z => by
      obtain ⟨_, _, _, _, q1, q2, q3, _⟩ := z
      rcases (show a = 51 ∨ a = 52 ∨ a = 53 ∨ a = 54 ∨ a = 55 by omega) with e | e | e | e | e
      · have := q1 (Or.inl e); have := z1 (Or.inl e); omega
      · have := q2 e; have := z2 e; omega
      · have := q3 (Or.inl e); have := z3 (Or.inl e); omega
      · have := q3 (Or.inr e); have := z3 (Or.inr e); omega
      · have := q1 (Or.inr e); have := z1 (Or.inr e); omega))
    refine ⟨⟨rg, ?_, ?_, m3, m4, by rw [one 56 (by omega)]; exact m5, by rw [one 57 (by omega)]; exact m6, by rw [one 59 (by omega)]; exact m7, fun j hj => ?_, fun j hj => mo _ _ (by omega) (by omega) (m9 j hj), fun j hj => mo _ _ (by omega) (by omega) (m10 j hj)⟩, by rw [one 60 (by omega)]; exact e1, by rw [one 61 (by omega)]; exact e2, by rw [one 63 (by omega)]; exact e3, by rw [one 64 (by omega)]; exact e4⟩
    · rw [A 50 (2 * i) (by decide) (by decide) (fun z => by have := z.2.2.2.1 rfl; omega)]; exact m1
    · rw [A 50 (2 * i + 1) (by decide) (by decide) (fun z => by have := z.2.2.2.1 rfl; omega)]; exact m2
    · have h3 := (hs.fr _ (mem_rs hi)).nm3
      rw [A 58 (3 * i + j) (by decide) (by decide) (fun z => by have := z.2.2.2.2.2.2.2.2.1 rfl; omega)]; exact m8 j hj
  · obtain ⟨p1, p2, p3⟩ := h.ps i hi
    refine ⟨by rw [A 65 i (by decide) (by decide) (fun z => by have := z.2.2.2.2.2.2.2.2.2.1 rfl; omega)]; exact p1, p2, fun k j hk hj => ?_⟩
    rw [A (66 + j) (24 * i + k) (by omega) (by omega) (fun z => by have := z.2.2.2.2.2.2.2.2.2.2 ⟨by omega, by omega⟩; omega)]
    exact p3 k j hk hj
theorem mRegsP_wf {len : Nat} {b : Nat → Int32} : ∀ (f j p : Nat) (g : Nat → Int32) (z : Nat × (Nat → Int32)), (∀ i, i < 3 → ∃ u, u < 4 ∧ g i = nI u) → mRegsP len b f j p g = some z → ∀ i, i < 3 → ∃ u, u < 4 ∧ z.2 i = nI u := by
  intro f
  induction f with
  | zero => intro j p g z hg h; cases h; exact hg
  | succ f ih =>
    intro j p g z hg h
    obtain ⟨p1, _, h2⟩ := Option.bind_eq_some_iff.mp h
    obtain ⟨y, h3, h4⟩ := Option.bind_eq_some_iff.mp h2
    obtain ⟨l, hl, el⟩ := mLet_val (X := 97) (Y := 4) (by decide) (by decide) h3
    refine ih _ _ _ _ (fun i hi => ?_) h4
    unfold up6
    by_cases e : i = j
    · exact ⟨l, hl, by rw [if_pos e]; exact el⟩
    · rw [if_neg e]; exact hg i hi
theorem mOrd_wf {len W n p : Nat} {b : Nat → Int32} (hW : W = 1 ∨ W = 2 ∨ W = 3) {z : Nat × Nat × (Nat → Int32)} (h : mOrd len b W n p = some z) : PWF (mFn z.1 z.2.2) := by
  unfold mOrd at h
  obtain ⟨x, h1, h2⟩ := Option.bind_eq_some_iff.mp h
  obtain ⟨y, h3, h4⟩ := Option.bind_eq_some_iff.mp h2
  obtain ⟨w, h5, h6⟩ := Option.map_eq_some_iff.mp h4
  obtain ⟨⟨k, hk, zk⟩, -, -, -⟩ := mName_ok h1
  have kc : x.1.toNatClampNeg = k := by rw [zk]; exact nI_clamp (by omega)
  rw [kc] at h3 h5 h6
  have R := mRegsP_wf _ _ _ _ _ (fun i _ => ⟨0, by decide, rfl⟩) h3
  subst h6
  have V : ∀ i, i < 3 → ∃ u, u < 8 ∧ w.2 i = nI u ∧ (¬ (k = 0 ∧ i = 1) → u < 4) := by
    intro i hi
    unfold mNumP at h5
    by_cases hn : numN k = true
    · rw [if_pos hn] at h5
      obtain ⟨p1, _, h7⟩ := Option.bind_eq_some_iff.mp h5
      obtain ⟨v, h8, h9⟩ := Option.map_eq_some_iff.mp h7
      obtain ⟨u, hu, eu⟩ := mNum_nat h8
      subst h9
      show ∃ t, t < 8 ∧ (if i = 1 then kpM W k v.1 else y.2 i) = nI t ∧ _
      by_cases e : i = 1
      · obtain ⟨t, t1, t2, t3⟩ := kp_bnd hW hn (i := u + 15) (by omega)
        have ev : nI (u + 15) - 15 = v.1 := by rw [eu, show (15 : Int32) = nI 15 from rfl, nsub (by omega)]; congr 1
        rw [ev] at t3
        exact ⟨t, t1, by rw [if_pos e]; exact t3, fun q => t2 (fun z => q ⟨z, e⟩)⟩
      · obtain ⟨t, t1, t2⟩ := R i hi
        exact ⟨t, by omega, by rw [if_neg e]; exact t2, fun _ => t1⟩
    · rw [if_neg hn] at h5
      cases h5
      obtain ⟨t, t1, t2⟩ := R i hi
      exact ⟨t, by omega, t2, fun _ => t1⟩
  obtain ⟨a, a1, a2, a3⟩ := V 0 (by decide)
  obtain ⟨c, c1, c2, c3⟩ := V 1 (by decide)
  obtain ⟨e, e1, e2, e3⟩ := V 2 (by decide)
  exact ⟨k, a, c, e, ⟨hk, a3 (fun q => absurd q.2 (by decide)), e3 (fun q => absurd q.2 (by decide)), c1, fun q => c3 (fun z => q z.1)⟩, rfl, a2, c2, e2⟩
theorem mOrds_wf {len W : Nat} {b : Nat → Int32} (hW : W = 1 ∨ W = 2 ∨ W = 3) : ∀ (f n p : Nat) (os : List (Nat → Int32)), mOrds len b W f n p = some os → ∀ o, o ∈ os → PWF o := by
  intro f
  induction f with
  | zero => intro n p os h; cases h
  | succ f ih =>
    intro n p os h
    unfold mOrds at h
    obtain ⟨z, h1, h2⟩ := Option.bind_eq_some_iff.mp h
    have w := mOrd_wf hW h1
    split at h2
    · obtain ⟨w', h3, h4⟩ := Option.map_eq_some_iff.mp h2
      subst h4
      intro o ho
      rcases List.mem_cons.mp ho with e | e
      · rw [e]; exact w
      · exact ih _ _ _ h3 o e
    · split at h2
      · cases h2
        intro o ho
        rw [List.mem_singleton] at ho
        rw [ho]; exact w
      · cases h2
theorem mProg_wf {len W : Nat} {b : Nat → Int32} (hW : W = 1 ∨ W = 2 ∨ W = 3) {os : List (Nat → Int32)} (h : mProg len b W = some os) : ∀ o, o ∈ os → PWF o := by
  unfold mProg at h
  split at h
  · cases h; intro o ho; exact absurd ho (List.not_mem_nil)
  · exact mOrds_wf hW _ _ _ _ h
theorem PWF_of {zs os : List (Nat → Int32)} (hl : zs.length = os.length) (h : ∀ i j, i < os.length → j < 4 → (zs.getD i (fun _ => 0)) j = (os.getD i (fun _ => 0)) j) (hp : ∀ o, o ∈ os → PWF o) : ∀ o, o ∈ zs → PWF o := by
  intro o ho
  obtain ⟨i, hi, e⟩ := List.mem_iff_getElem.mp ho
  have eo : zs.getD i (fun _ => 0) = o := by rw [List.getD_eq_getElem?_getD, List.getElem?_eq_getElem hi, ← e]; rfl
  have hi' : i < os.length := by omega
  obtain ⟨k, x, y, z, h8, q0, q1, q2, q3⟩ := hp _ (mem_getD hi')
  have g := fun j (hj : j < 4) => h i j hi' hj
  rw [eo] at g
  exact ⟨k, x, y, z, h8, by rw [g 0 (by decide)]; exact q0, by rw [g 1 (by decide)]; exact q1, by rw [g 2 (by decide)]; exact q2, by rw [g 3 (by decide)]; exact q3⟩
theorem app_ps {ps : List (List (Nat → Int32))} {z : List (Nat → Int32)} {i : Nat} (h : i < ps.length + 1) : (ps ++ [z]).getD i [] = if i = ps.length then z else ps.getD i [] := by
  rw [List.getD_eq_getElem?_getD, List.getD_eq_getElem?_getD]
  by_cases e : i = ps.length
  · rw [if_pos e, List.getElem?_append_right (by omega), e, Nat.sub_self]
    rfl
  · rw [if_neg e, List.getElem?_append_left (by omega)]
