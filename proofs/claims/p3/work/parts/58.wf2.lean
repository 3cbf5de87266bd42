/-! what a rule that was read is like, whole -/
theorem mNumR_top {len : Nat} {b : Nat → Int32} {W k : Nat} (hW : W = 1 ∨ W = 2 ∨ W = 3) (hk : k < 19) {s : jPS} {rg a : Nat → Int32} {y : jPS × (Nat → Int32)} (hi : ivL 3 s.2.2.1) (h0 : s.2.2.2 0 = nI k) (h4 : s.2.2.2 4 = 0) (hT : TPi W a s.2.2.1 rg) (h : mNumR len b W 0 k s rg = some y) : TPi W (stepT W a y.1.2.2.2) y.1.2.2.1 y.2 ∧ y.1.2.2.2 4 = 0 := by
  have kc : (nI k).toNatClampNeg = k := nI_clamp (by omega)
  have y0 : (y.1.2.2.2 0).toNatClampNeg = k := by rw [(mNumR_keep h).2 0 (Or.inl rfl), h0, kc]
  unfold mNumR at h
  by_cases hn : numN k = true
  · rw [if_pos hn] at h
    obtain ⟨p1, h1, h2⟩ := Option.bind_eq_some_iff.mp h
    obtain ⟨z, h3, h5⟩ := Option.bind_eq_some_iff.mp h2
    rw [if_neg (fun q => absurd q.1 (by decide))] at h5
    have T := mTermR_top hW hn hi hT h3
    cases h5
    refine ⟨?_, h4⟩
    have e : stepT W a (up6 s.2.2.2 2 z.2.2.2) = fun j => if z.2.2.2 = 16 + nI j then (if bdM W k < a j then bdM W k else a j) else a j := by
      funext j
      unfold stepT
      have y0' : (up6 s.2.2.2 2 z.2.2.2 0).toNatClampNeg = k := y0
      rw [y0']
      show (if numN k = true ∧ z.2.2.2 = 16 + nI j then _ else _) = _
      by_cases q : z.2.2.2 = 16 + nI j
      · rw [if_pos ⟨hn, q⟩, if_pos q]
      · rw [if_neg (fun w => q w.2), if_neg q]
    show TPi W (stepT W a (up6 s.2.2.2 2 z.2.2.2)) z.2.1 z.2.2.1
    rw [e]
    exact T
  · rw [if_neg hn] at h
    cases h
    refine ⟨?_, h4⟩
    have e : stepT W a s.2.2.2 = a := by
      funext j
      unfold stepT
      have y0' : (s.2.2.2 0).toNatClampNeg = k := y0
      rw [y0', if_neg (fun w => hn w.1)]
    show TPi W (stepT W a s.2.2.2) s.2.2.1 rg
    rw [e]
    exact hT
theorem mNumR_rg {len : Nat} {b : Nat → Int32} {W k : Nat} {s : jPS} {rg : Nat → Int32} {y : jPS × (Nat → Int32)} (h : mNumR len b W 1 k s rg = some y) : y.1.2.2.1 = s.2.2.1 ∧ ∀ j, y.2 j = rg j := by
  unfold mNumR at h
  by_cases hn : numN k = true
  · rw [if_pos hn] at h
    obtain ⟨p1, h1, h2⟩ := Option.bind_eq_some_iff.mp h
    obtain ⟨z, h3, h5⟩ := Option.bind_eq_some_iff.mp h2
    have q := mTermR_rg (show mTermR len b W k false p1 s.2.2.1 rg = some z from h3)
    split at h5
    · obtain ⟨x, h6, h7⟩ := Option.map_eq_some_iff.mp h5
      have q2 := mTermR_rg h6
      subst h7
      exact ⟨q2.1.trans q.1, fun j => (q2.2 j).trans (q.2 j)⟩
    · cases h5
      exact q
  · rw [if_neg hn] at h
    cases h
    exact ⟨rfl, fun _ => rfl⟩
theorem mOrdS_pre {len : Nat} {b : Nat → Int32} {W sd n : Nat} {s : jPS} {rg : Nat → Int32} {y : jPS × (Nat → Int32)} (h : mOrdS len b W sd n s rg = some y) : ∃ k s2, k < 19 ∧ s2.2.2.1 = s.2.2.1 ∧ s2.2.2.2 0 = nI k ∧ s2.2.2.2 4 = 0 ∧ mRegsR len b (sd == 0) (regN k) 0 (s.1 + lw len b s.1, s.2.1, s.2.2.1, fun j => if j = 0 then nI k else 0) = some s2 ∧ mNumR len b W sd k s2 rg = some y := by
  unfold mOrdS at h
  obtain ⟨z, h1, h2⟩ := Option.bind_eq_some_iff.mp h
  obtain ⟨s2, h3, h4⟩ := Option.bind_eq_some_iff.mp h2
  obtain ⟨⟨k, hk, zk⟩, z2, -, -⟩ := mName_ok h1
  have kc : z.1.toNatClampNeg = k := by rw [zk]; exact nI_clamp (by omega)
  rw [kc] at h3 h4
  rw [zk, z2] at h3
  obtain ⟨km, kf⟩ := mRegsR_keep _ _ _ _ h3
  exact ⟨k, s2, hk, km, kf 0 (Or.inl (Nat.le_refl 0)), kf 4 (Or.inr (by have := regN3 k; omega)), h3, h4⟩
theorem mSide_top {len : Nat} {b : Nat → Int32} {W : Nat} (hW : W = 1 ∨ W = 2 ∨ W = 3) : ∀ (f n : Nat) (s : jPS) (rg a : Nat → Int32) (z : List (Nat → Int32) × jPS × (Nat → Int32)), ivL 4 s.2.1 → ivL 3 s.2.2.1 → TPi W a s.2.2.1 rg → mSide len b W 0 f n s rg = some z → TPi W (z.1.foldl (stepT W) a) z.2.1.2.2.1 z.2.2 ∧ (∀ o, o ∈ z.1 → o 4 = 0) ∧ 1 ≤ z.1.length := by
  intro f
  induction f with
  | zero => intro n s rg a z _ _ _ h; cases h
  | succ f ih =>
    intro n s rg a z hr hi hT h
    unfold mSide at h
    obtain ⟨y, h1, h2⟩ := Option.bind_eq_some_iff.mp h
    obtain ⟨a1, a2, a3, a4, a5⟩ := mOrdS_wf hr hi h1
    obtain ⟨k, s2, hk, e1, e2, e3, e4, e5⟩ := mOrdS_pre h1
    obtain ⟨T, t4⟩ := mNumR_top hW hk (by rw [e1]; exact hi) e2 e3 (by rw [e1]; exact hT) e5
    split at h2
    · obtain ⟨w, h3, h4⟩ := Option.map_eq_some_iff.mp h2
      obtain ⟨c1, c2, c3⟩ := ih (n + 1) (sk len b (sk len b y.1.1 + 1), y.1.2) y.2 _ w a1 a2 T h3
      subst h4
      refine ⟨c1, fun o ho => ?_, by show 1 ≤ w.1.length + 1; omega⟩
      rcases List.mem_cons.mp ho with e | e
      · rw [e]; exact t4
      · exact c2 o e
    · cases h2
      refine ⟨T, fun o ho => ?_, Nat.le_refl 1⟩
      rw [List.mem_singleton] at ho
      rw [ho]; exact t4
theorem mSide_rg {len : Nat} {b : Nat → Int32} {W : Nat} : ∀ (f n : Nat) (s : jPS) (rg : Nat → Int32) (z : List (Nat → Int32) × jPS × (Nat → Int32)), mSide len b W 1 f n s rg = some z → z.2.1.2.2.1 = s.2.2.1 ∧ ∀ j, z.2.2 j = rg j := by
  intro f
  induction f with
  | zero => intro n s rg z h; cases h
  | succ f ih =>
    intro n s rg z h
    unfold mSide at h
    obtain ⟨y, h1, h2⟩ := Option.bind_eq_some_iff.mp h
    obtain ⟨k, s2, hk, e1, e2, e3, e4, e5⟩ := mOrdS_pre h1
    have q := mNumR_rg e5
    rw [e1] at q
    split at h2
    · obtain ⟨w, h3, h4⟩ := Option.map_eq_some_iff.mp h2
      have c := ih _ _ _ _ h3
      subst h4
      exact ⟨c.1.trans q.1, fun j => (c.2 j).trans (q.2 j)⟩
    · cases h2
      exact q
theorem mRule_wf {len : Nat} {b : Nat → Int32} {W : Nat} (hW : W = 1 ∨ W = 2 ∨ W = 3) {rg0 : Nat → Int32} {o1 o2 : List (Nat → Int32)} {rs ms : List Nat} {rg : Nat → Int32} (h : mRule len b W rg0 = some (o1, o2, rs, ms, rg)) :
    ivL 4 rs ∧ ivL 3 ms ∧ (∀ o, o ∈ o1 → WFo rs.length ms.length o) ∧ (∀ o, o ∈ o2 → WFo rs.length ms.length o) ∧ (∀ j, j < ms.length → rg j = (o1.foldl (stepT W) (topI W)) j) ∧ (∀ o, o ∈ o1 → o 4 = 0) ∧ 1 ≤ o1.length := by
  rw [mRule_eq] at h
  obtain ⟨z, h1, h2⟩ := Option.bind_eq_some_iff.mp h
  obtain ⟨z0, h3, h4⟩ := Option.bind_eq_some_iff.mp h1
  have i0 : ivL 4 [] := ⟨List.nodup_nil, fun x hx => absurd hx (List.not_mem_nil)⟩
  have i1 : ivL 3 [] := ⟨List.nodup_nil, fun x hx => absurd hx (List.not_mem_nil)⟩
  obtain ⟨a1, a2, a3, a4, a5⟩ := mSide_wf 5 0 (sk len b 0, [], [], fun _ => 0) rg0 z0 i0 i1 h3
  obtain ⟨b1, b2, b3⟩ := mSide_top hW 5 0 (sk len b 0, [], [], fun _ => 0) rg0 (topI W) z0 i0 i1 ⟨fun j hj => absurd hj (Nat.not_lt_zero j), fun j _ _ => rfl⟩ h3
  have ez : z.1 = z0.1 ∧ z.2.1.2 = z0.2.1.2 ∧ z.2.2 = z0.2.2 := by
    unfold mCl at h4
    rw [if_pos rfl] at h4
    split at h4
    · cases h4; exact ⟨rfl, rfl, rfl⟩
    · cases h4
  split at h2
  · cases h2
    rw [ez.1, ez.2.1, ez.2.2]
    exact ⟨a1, a2, a5, fun o ho => absurd ho (List.not_mem_nil), b1.1, b2, b3⟩
  · obtain ⟨y, h5, h6⟩ := Option.map_eq_some_iff.mp h2
    obtain ⟨y0, h7, h8⟩ := Option.bind_eq_some_iff.mp h5
    have ey : y = y0 := by
      unfold mCl at h8
      rw [if_neg (by decide)] at h8
      split at h8
      · cases h8; rfl
      · cases h8
    subst ey
    rw [ez.2.1, ez.2.2] at h7
    obtain ⟨c1, c2, c3, c4, c5⟩ := mSide_wf 5 0 (sk len b z.2.1.1, z0.2.1.2) z0.2.2 y a1 a2 h7
    obtain ⟨d1, d2⟩ := mSide_rg 5 0 _ _ _ h7
    have d1 : y.2.1.2.2.1 = z0.2.1.2.2.1 := d1
    have c3 : z0.2.1.2.1.length ≤ y.2.1.2.1.length := c3
    have c4 : z0.2.1.2.2.1.length ≤ y.2.1.2.2.1.length := c4
    cases h6
    rw [ez.1]
    refine ⟨c1, c2, fun o ho => (a5 o ho).up c3 c4, c5, fun j hj => ?_, b2, b3⟩
    rw [d2 j]
    rw [d1] at hj
    exact b1.1 j hj
