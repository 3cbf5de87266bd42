/-! what a rule that was read is like; the greatest numbers of its marks -/
def WFt (nm : Nat) (v : Int32) : Prop := (∃ u, u < 16 ∧ v = nI u) ∨ (∃ i, i < nm ∧ v = 16 + nI i)
def WFo (nr nm : Nat) (o : Nat → Int32) : Prop := ∃ k, k < 19 ∧ o 0 = nI k ∧ (∀ j, j < regN k → ∃ i, i < nr ∧ o (j + 1) = nI i) ∧ (numN k = true → WFt nm (o 2)) ∧ (o 4 = 0 ∨ (numN k = true ∧ isSg (o 4) ∧ WFt nm (o 5)))
theorem WFt.up {nm nm' : Nat} {v : Int32} (h : WFt nm v) (hm : nm ≤ nm') : WFt nm' v := by
  rcases h with h | ⟨i, h1, h2⟩
  · exact Or.inl h
  · exact Or.inr ⟨i, by omega, h2⟩
theorem WFo.up {nr nm nr' nm' : Nat} {o : Nat → Int32} (h : WFo nr nm o) (hr : nr ≤ nr') (hm : nm ≤ nm') : WFo nr' nm' o := by
  obtain ⟨k, h1, h2, h3, h4, h5⟩ := h
  refine ⟨k, h1, h2, fun j hj => ?_, fun hn => (h4 hn).up hm, ?_⟩
  · obtain ⟨i, a, c⟩ := h3 j hj
    exact ⟨i, by omega, c⟩
  · rcases h5 with h5 | ⟨a, c, d⟩
    · exact Or.inl h5
    · exact Or.inr ⟨a, c, d.up hm⟩
theorem lk_len {rs : List Nat} {l : Nat} {fs : Bool} {z : Nat × List Nat} (h : lk rs l fs = some z) : rs.length ≤ z.2.length := by
  unfold lk at h
  split at h
  · cases h; exact Nat.le_refl _
  · split at h
    · cases h; rw [List.length_append]; exact Nat.le_add_right _ _
    · cases h
def ivL (N : Nat) (rs : List Nat) : Prop := rs.Nodup ∧ ∀ x, x ∈ rs → x < N
theorem mRegR_wf {len : Nat} {b : Nat → Int32} {fs : Bool} {p : Nat} {rs : List Nat} {z : Nat × Nat × List Nat} (h : mRegR len b fs p rs = some z) : rs.length ≤ z.2.2.length := by
  unfold mRegR at h
  obtain ⟨y, h1, h2⟩ := Option.bind_eq_some_iff.mp h
  obtain ⟨x, h3, h4⟩ := Option.map_eq_some_iff.mp h2
  have q := lk_len h3
  subst h4
  exact q
theorem mRegsR_wf {len : Nat} {b : Nat → Int32} {fs : Bool} : ∀ (f j : Nat) (s s' : jPS), ivL 4 s.2.1 → mRegsR len b fs f j s = some s' → ivL 4 s'.2.1 ∧ s.2.1.length ≤ s'.2.1.length ∧ (∀ t, j ≤ t → t < j + f → ∃ i, i < s'.2.1.length ∧ s'.2.2.2 (t + 1) = nI i) := by
  intro f
  induction f with
  | zero => intro j s s' hi h; cases h; exact ⟨hi, Nat.le_refl _, fun t h1 h2 => by omega⟩
  | succ f ih =>
    intro j s s' hi h
    obtain ⟨p1, _, h2⟩ := Option.bind_eq_some_iff.mp h
    obtain ⟨z, h3, h4⟩ := Option.bind_eq_some_iff.mp h2
    obtain ⟨o1, o2, o3, o4⟩ := mRegR_ok hi.1 hi.2 h3
    have o5 := mRegR_wf h3
    obtain ⟨q1, q2, q3⟩ := ih _ _ _ ⟨o2, o3⟩ h4
    have q2 : z.2.2.length ≤ s'.2.1.length := q2
    refine ⟨q1, by omega, fun t h5 h6 => ?_⟩
    by_cases e : t = j
    · subst e
      refine ⟨z.2.1, by omega, ?_⟩
      rw [(mRegsR_keep _ _ _ _ h4).2 (t + 1) (Or.inl (Nat.le_refl _))]
      show (if t + 1 = t + 1 then nI z.2.1 else _) = _
      rw [if_pos rfl]
    · exact q3 t (by omega) (by omega)
theorem mTermR_wf {len : Nat} {b : Nat → Int32} {W op : Nat} {fs : Bool} {p : Nat} {ms : List Nat} {rg : Nat → Int32} {z : Nat × List Nat × (Nat → Int32) × Int32} (hi : ivL 3 ms) (h : mTermR len b W op fs p ms rg = some z) : ivL 3 z.2.1 ∧ ms.length ≤ z.2.1.length ∧ WFt z.2.1.length z.2.2.2 := by
  unfold mTermR at h
  split at h
  · obtain ⟨x, h1, h2⟩ := Option.map_eq_some_iff.mp h
    subst h2
    obtain ⟨v, hv, ev⟩ := mNum_nat h1
    exact ⟨hi, Nat.le_refl _, Or.inl ⟨v, hv, ev⟩⟩
  · obtain ⟨x, h1, h2⟩ := Option.map_eq_some_iff.mp h
    subst h2
    obtain ⟨o1, o2, o3, o4⟩ := mMark_ok hi.1 hi.2 h1
    refine ⟨⟨o2, o3⟩, ?_, Or.inr ⟨x.2.1, o4, rfl⟩⟩
    unfold mMark at h1
    obtain ⟨y, h3, h4⟩ := Option.bind_eq_some_iff.mp h1
    obtain ⟨u, h5, h6⟩ := Option.map_eq_some_iff.mp h4
    have q := lk_len h5
    subst h6
    exact q
theorem mNumR_wf {len : Nat} {b : Nat → Int32} {W sd k : Nat} {s : jPS} {rg : Nat → Int32} {y : jPS × (Nat → Int32)} (hi : ivL 3 s.2.2.1) (h4 : s.2.2.2 4 = 0) (h : mNumR len b W sd k s rg = some y) : ivL 3 y.1.2.2.1 ∧ s.2.2.1.length ≤ y.1.2.2.1.length ∧ (numN k = true → WFt y.1.2.2.1.length (y.1.2.2.2 2)) ∧ (y.1.2.2.2 4 = 0 ∨ (numN k = true ∧ isSg (y.1.2.2.2 4) ∧ WFt y.1.2.2.1.length (y.1.2.2.2 5))) := by
  unfold mNumR at h
  split at h
  · rename_i hn
    obtain ⟨p1, h1, h2⟩ := Option.bind_eq_some_iff.mp h
    obtain ⟨z, h3, h5⟩ := Option.bind_eq_some_iff.mp h2
    obtain ⟨q1, q2, q3⟩ := mTermR_wf hi h3
    split at h5
    · rename_i hs
      obtain ⟨x, h6, h7⟩ := Option.map_eq_some_iff.mp h5
      obtain ⟨u1, u2, u3⟩ := mTermR_wf q1 h6
      subst h7
      exact ⟨u1, Nat.le_trans q2 u2, fun _ => q3.up u2, Or.inr ⟨hn, hs.2, u3⟩⟩
    · cases h5
      exact ⟨q1, q2, fun _ => q3, Or.inl h4⟩
  · rename_i hn
    cases h
    exact ⟨hi, Nat.le_refl _, fun q => absurd q hn, Or.inl h4⟩
theorem mOrdS_wf {len : Nat} {b : Nat → Int32} {W sd n : Nat} {s : jPS} {rg : Nat → Int32} {y : jPS × (Nat → Int32)} (hr : ivL 4 s.2.1) (hi : ivL 3 s.2.2.1) (h : mOrdS len b W sd n s rg = some y) : ivL 4 y.1.2.1 ∧ ivL 3 y.1.2.2.1 ∧ s.2.1.length ≤ y.1.2.1.length ∧ s.2.2.1.length ≤ y.1.2.2.1.length ∧ WFo y.1.2.1.length y.1.2.2.1.length y.1.2.2.2 := by
  unfold mOrdS at h
  obtain ⟨z, h1, h2⟩ := Option.bind_eq_some_iff.mp h
  obtain ⟨s2, h3, h4⟩ := Option.bind_eq_some_iff.mp h2
  obtain ⟨⟨k, hk, zk⟩, -, -, -⟩ := mName_ok h1
  have kc : z.1.toNatClampNeg = k := by rw [zk]; exact nI_clamp (by omega)
  rw [kc] at h3 h4
  obtain ⟨a1, a2, a3⟩ := mRegsR_wf (regN k) 0 (z.2, s.2.1, s.2.2.1, fun j => if j = 0 then z.1 else 0) s2 hr h3
  obtain ⟨km, kf⟩ := mRegsR_keep _ _ _ _ h3
  have km' : s2.2.2.1 = s.2.2.1 := km
  have kf0 : s2.2.2.2 0 = z.1 := kf 0 (Or.inl (Nat.le_refl 0))
  have kf4 : s2.2.2.2 4 = 0 := kf 4 (Or.inr (by have := regN3 k; omega))
  obtain ⟨c1, c2, c3, c4⟩ := mNumR_wf (by rw [km']; exact hi) kf4 h4
  obtain ⟨d1, d2⟩ := mNumR_keep h4
  rw [km'] at c2
  refine ⟨by rw [d1]; exact a1, c1, by rw [d1]; exact a2, c2, k, hk, by rw [d2 0 (Or.inl rfl), kf0, zk], fun j hj => ?_, c3, c4⟩
  obtain ⟨i, e1, e2⟩ := a3 j (Nat.zero_le j) (by omega)
  refine ⟨i, by rw [d1]; exact e1, ?_⟩
  rw [← e2]
  by_cases hn : numN k = true
  · have := numN1 hn
    exact d2 (j + 1) (Or.inr (Or.inl (by omega)))
  · exact d2 (j + 1) (Or.inr (Or.inr (Or.inr hn)))
theorem mSide_wf {len : Nat} {b : Nat → Int32} {W sd : Nat} : ∀ (f n : Nat) (s : jPS) (rg : Nat → Int32) (z : List (Nat → Int32) × jPS × (Nat → Int32)), ivL 4 s.2.1 → ivL 3 s.2.2.1 → mSide len b W sd f n s rg = some z → ivL 4 z.2.1.2.1 ∧ ivL 3 z.2.1.2.2.1 ∧ s.2.1.length ≤ z.2.1.2.1.length ∧ s.2.2.1.length ≤ z.2.1.2.2.1.length ∧ ∀ o, o ∈ z.1 → WFo z.2.1.2.1.length z.2.1.2.2.1.length o := by
  intro f
  induction f with
  | zero => intro n s rg z _ _ h; cases h
  | succ f ih =>
    intro n s rg z hr hi h
    unfold mSide at h
    obtain ⟨y, h1, h2⟩ := Option.bind_eq_some_iff.mp h
    obtain ⟨a1, a2, a3, a4, a5⟩ := mOrdS_wf hr hi h1
    split at h2
    · obtain ⟨w, h3, h4⟩ := Option.map_eq_some_iff.mp h2
      obtain ⟨c1, c2, c3, c4, c5⟩ := ih (n + 1) (sk len b (sk len b y.1.1 + 1), y.1.2) y.2 w a1 a2 h3
      subst h4
      refine ⟨c1, c2, Nat.le_trans a3 c3, Nat.le_trans a4 c4, fun o ho => ?_⟩
      rcases List.mem_cons.mp ho with e | e
      · rw [e]; exact a5.up c3 c4
      · exact c5 o e
    · cases h2
      refine ⟨a1, a2, a3, a4, fun o ho => ?_⟩
      rw [List.mem_singleton] at ho
      rw [ho]; exact a5
/-- the greatest number that each mark can be, an order more -/
def stepT (W : Nat) (a : Nat → Int32) (o : Nat → Int32) : Nat → Int32 := fun j => if numN (o 0).toNatClampNeg = true ∧ o 2 = 16 + nI j then (if bdM W (o 0).toNatClampNeg < a j then bdM W (o 0).toNatClampNeg else a j) else a j
def topI (W : Nat) : Nat → Int32 := fun _ => 4 + (1 : Int32) <<< (nI W &&& 31)
def TPi (W : Nat) (a : Nat → Int32) (ms : List Nat) (rg : Nat → Int32) : Prop := (∀ j, j < ms.length → rg j = a j) ∧ ∀ j, ms.length ≤ j → j < 3 → a j = topI W j
theorem bd_lt {W k : Nat} (hW : W = 1 ∨ W = 2 ∨ W = 3) (hn : numN k = true) : bdM W k < topI W 0 := by
  have H : ∀ W, W ∈ [1, 2, 3] → ∀ k, k ∈ [0, 12, 13, 15, 16] → bdM W k < topI W 0 := by decide
  refine H W (by simpa using hW) k ?_
  simpa [numN, or_assoc] using hn
theorem n16 : ∀ u, u < 16 → ∀ j, j < 3 → ¬ nI u = 16 + nI j := by decide
theorem n1616 : ∀ i, i < 3 → ∀ j, j < 3 → (16 : Int32) + nI i = 16 + nI j → i = j := by decide
theorem mTermR_top {len : Nat} {b : Nat → Int32} {W op : Nat} (hW : W = 1 ∨ W = 2 ∨ W = 3) (hn : numN op = true) {p : Nat} {ms : List Nat} {rg a : Nat → Int32} {z : Nat × List Nat × (Nat → Int32) × Int32} (hi : ivL 3 ms) (hT : TPi W a ms rg) (h : mTermR len b W op true p ms rg = some z) : TPi W (fun j => if z.2.2.2 = 16 + nI j then (if bdM W op < a j then bdM W op else a j) else a j) z.2.1 z.2.2.1 := by
  unfold mTermR at h
  split at h
  · obtain ⟨x, h1, h2⟩ := Option.map_eq_some_iff.mp h
    subst h2
    obtain ⟨v, hv, ev⟩ := mNum_nat h1
    have lm : ms.length ≤ 3 := nodup_le 3 _ hi.1 hi.2
    refine ⟨fun j hj => ?_, fun j h1 h3 => ?_⟩
    · show rg j = if x.1 = _ then _ else _
      rw [ev, if_neg (n16 v hv j (by have : j < ms.length := hj; omega))]; exact hT.1 j hj
    · show (if x.1 = _ then _ else _) = _
      rw [ev, if_neg (n16 v hv j h3)]; exact hT.2 j h1 h3
  · obtain ⟨x, h1, h2⟩ := Option.map_eq_some_iff.mp h
    obtain ⟨o1, o2, o3, o4⟩ := mMark_ok hi.1 hi.2 h1
    have l3 := nodup_le 3 _ o2 o3
    subst h2
    unfold mMark at h1
    obtain ⟨y, h3, h4⟩ := Option.bind_eq_some_iff.mp h1
    obtain ⟨u, h5, h6⟩ := Option.map_eq_some_iff.mp h4
    subst h6
    have l3 : u.2.length ≤ 3 := l3
    have o4 : u.1 < u.2.length := o4
    unfold lk at h5
    by_cases hm : y.1.toNatClampNeg ∈ ms
    · rw [if_pos hm] at h5
      cases h5
      have o4 : ms.idxOf y.1.toNatClampNeg < ms.length := o4
      have l3 : ms.length ≤ 3 := l3
      obtain ⟨ix, eix⟩ : ∃ ix, ms.idxOf y.1.toNatClampNeg = ix := ⟨_, rfl⟩
      refine ⟨fun j hj => ?_, fun j h1 h3 => ?_⟩
      · have hj : j < ms.length := hj
        show (if j = ms.idxOf y.1.toNatClampNeg then (if y.1.toNatClampNeg ∈ ms then (if true = true ∧ bdM W op < rg (ms.idxOf y.1.toNatClampNeg) then bdM W op else rg (ms.idxOf y.1.toNatClampNeg)) else bdM W op) else rg j) = if 16 + nI (ms.idxOf y.1.toNatClampNeg) = 16 + nI j then (if bdM W op < a j then bdM W op else a j) else a j
        rw [eix] at o4
        rw [eix, if_pos hm]
        by_cases e : j = ix
        · subst e
          rw [if_pos rfl, if_pos rfl, hT.1 j hj]
          by_cases q : bdM W op < a j
          · rw [if_pos ⟨rfl, q⟩, if_pos q]
          · rw [if_neg (fun w => q w.2), if_neg q]
        · rw [if_neg e, if_neg (fun w => e (n1616 _ (by omega) j (by omega) w).symm)]; exact hT.1 j hj
      · have h1 : ms.length ≤ j := h1
        show (if 16 + nI (ms.idxOf y.1.toNatClampNeg) = 16 + nI j then _ else a j) = _
        rw [if_neg (fun w => by have := n1616 _ (by omega) j h3 w; omega)]
        exact hT.2 j h1 h3
    · rw [if_neg hm, if_pos rfl] at h5
      cases h5
      have le : (ms ++ [y.1.toNatClampNeg]).length = ms.length + 1 := by rw [List.length_append]; rfl
      have o4 : ms.length < (ms ++ [y.1.toNatClampNeg]).length := o4
      have l3 : (ms ++ [y.1.toNatClampNeg]).length ≤ 3 := l3
      refine ⟨fun j hj => ?_, fun j h1 h3 => ?_⟩
      · have hj : j < (ms ++ [y.1.toNatClampNeg]).length := hj
        show (if j = ms.length then (if y.1.toNatClampNeg ∈ ms then _ else bdM W op) else rg j) = if 16 + nI ms.length = 16 + nI j then (if bdM W op < a j then bdM W op else a j) else a j
        rw [if_neg hm]
        by_cases e : j = ms.length
        · have hl : bdM W op < a j := by rw [hT.2 j (by omega) (by omega)]; exact bd_lt hW hn
          rw [if_pos e, if_pos (by rw [e]), if_pos hl]
        · rw [if_neg e, if_neg (fun w => e (n1616 _ (by omega) j (by omega) w).symm)]
          exact hT.1 j (by omega)
      · have h1 : (ms ++ [y.1.toNatClampNeg]).length ≤ j := h1
        show (if 16 + nI ms.length = 16 + nI j then _ else a j) = _
        rw [if_neg (fun w => by have := n1616 _ (by omega) j h3 w; omega)]
        exact hT.2 j (by omega) h3
theorem mTermR_rg {len : Nat} {b : Nat → Int32} {W op : Nat} {p : Nat} {ms : List Nat} {rg : Nat → Int32} {z : Nat × List Nat × (Nat → Int32) × Int32} (h : mTermR len b W op false p ms rg = some z) : z.2.1 = ms ∧ ∀ j, z.2.2.1 j = rg j := by
  unfold mTermR at h
  split at h
  · obtain ⟨x, h1, h2⟩ := Option.map_eq_some_iff.mp h
    subst h2
    exact ⟨rfl, fun _ => rfl⟩
  · obtain ⟨x, h1, h2⟩ := Option.map_eq_some_iff.mp h
    subst h2
    unfold mMark at h1
    obtain ⟨y, h3, h4⟩ := Option.bind_eq_some_iff.mp h1
    obtain ⟨u, h5, h6⟩ := Option.map_eq_some_iff.mp h4
    subst h6
    unfold lk at h5
    by_cases hm : y.1.toNatClampNeg ∈ ms
    · rw [if_pos hm] at h5
      cases h5
      refine ⟨rfl, fun j => ?_⟩
      show (if j = ms.idxOf y.1.toNatClampNeg then (if y.1.toNatClampNeg ∈ ms then (if false = true ∧ bdM W op < rg (ms.idxOf y.1.toNatClampNeg) then bdM W op else rg (ms.idxOf y.1.toNatClampNeg)) else bdM W op) else rg j) = rg j
      have q : (if false = true ∧ bdM W op < rg (ms.idxOf y.1.toNatClampNeg) then bdM W op else rg (ms.idxOf y.1.toNatClampNeg)) = rg (ms.idxOf y.1.toNatClampNeg) := if_neg (fun w => absurd w.1 (by decide))
      rw [if_pos hm, q]
      by_cases e : j = ms.idxOf y.1.toNatClampNeg
      · rw [if_pos e, ← e]
      · rw [if_neg e]
    · rw [if_neg hm, if_neg (by decide)] at h5
      cases h5
