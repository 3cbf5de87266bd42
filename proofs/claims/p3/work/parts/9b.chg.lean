/-! change: the orders put in -/
def newO (W : Nat) (x : BN × BN) (o : Nat → Int32) : Nat → Int32 := wrO W (encB (-1) x.1) (encB (-1) x.2) (keepF W o)
def newP (W : Nat) (a : AR) (x : BN × BN) (A : List (Nat → Int32)) (pl : Nat) : List (Nat → Int32) := A.take pl ++ (a.o2.map (newO W x) ++ A.drop (pl + a.o1.length))
theorem newP_len {W pl : Nat} {a : AR} {x : BN × BN} {A : List (Nat → Int32)} (h : pl + a.o1.length ≤ A.length) : (newP W a x A pl).length = A.length - a.o1.length + a.o2.length := by
  unfold newP
  rw [List.length_append, List.length_append, List.length_take, List.length_map, List.length_drop, Nat.min_eq_left (by omega)]
  omega
theorem newP_get {W pl : Nat} {a : AR} {x : BN × BN} {A : List (Nat → Int32)} (h : pl + a.o1.length ≤ A.length) {i : Nat} (hi : i < A.length - a.o1.length + a.o2.length) : (newP W a x A pl).getD i (fun _ => 0) = if i < pl then A.getD i (fun _ => 0) else if i < pl + a.o2.length then newO W x (a.o2.getD (i - pl) (fun _ => 0)) else A.getD (i - a.o2.length + a.o1.length) (fun _ => 0) := by
  unfold newP
  have lt : (A.take pl).length = pl := by rw [List.length_take, Nat.min_eq_left (by omega)]
  rw [getD_app, lt]
  by_cases h1 : i < pl
  · rw [if_pos h1, if_pos h1, List.getD_eq_getElem?_getD, List.getD_eq_getElem?_getD, List.getElem?_take_of_lt h1]
  · rw [if_neg h1, if_neg h1, getD_app, List.length_map]
    by_cases h2 : i < pl + a.o2.length
    · rw [if_pos (by omega), if_pos h2, List.getD_eq_getElem?_getD, List.getElem?_map, List.getD_eq_getElem?_getD, List.getElem?_eq_getElem (by omega)]
      rfl
    · rw [if_neg (by omega), if_neg h2, List.getD_eq_getElem?_getD, List.getElem?_drop, List.getD_eq_getElem?_getD]
      congr 2
      omega
/-- what a window has settled for a rule -/
def FUL (nr nm : Nat) (x : BN × BN) : Prop := (∀ k, k < nr → ∃ u, u < 4 ∧ x.1 k = some u) ∧ (∀ k, k < nm → ∃ u, u < 8 ∧ x.2 k = some u)
theorem win_ful {W m pl : Nat} {a : AR} (hf : WFr a) {ps : List (Nat → Int32)} {x : BN × BN} (h : winF W a.o1 m ps pl = some x) (ib : IB x.1) (ic : IC x.2) : FUL a.nr a.nm x := by
  obtain ⟨h1, h2⟩ := win_full hf h
  have := hf.nr4
  have := hf.nm3
  refine ⟨fun k hk => ?_, fun k hk => ?_⟩
  · obtain ⟨u, hu⟩ := h1 k hk
    exact ⟨u, ib.1 k u (by omega) hu, hu⟩
  · obtain ⟨u, hu⟩ := h2 k hk
    exact ⟨u, ic k u (by omega) hu, hu⟩
theorem tvV_cong {nm : Nat} (hnm : nm ≤ 3) {mv mv' : Nat → Int32} (e : ∀ i, i < nm → mv i = mv' i) {t : Int32} (ht : WFt nm t) : tvV mv t = tvV mv' t := by
  unfold tvV
  rcases ht with ⟨u, hu, eu⟩ | ⟨i, hi, ei⟩
  · have n : ¬ (16 : Int32) ≤ nI u := nI_ge (b := 16) (by omega) (by omega)
    rw [eu, if_neg n, if_neg n]
  · have v := i16n (i := i) (by omega)
    have n1 : ¬ (nI i < 0 ∨ (3 : Int32) ≤ nI i) := by
      intro z
      rcases z with z | z
      · exact nn0 (by omega) z
      · exact nI_ge (b := 3) (by omega) (by omega) z
    rw [ei, if_pos v.1, if_pos v.1, v.2.2]
    unfold nmV
    rw [if_neg n1, if_neg n1, nI_clamp (by omega), e i hi]
theorem numM_cong {W nr nm : Nat} (hnm : nm ≤ 3) {mv mv' : Nat → Int32} (e : ∀ i, i < nm → mv i = mv' i) {o : Nat → Int32} (h : WFo nr nm o) (hn : numN (opO o) = true) : numM W mv o = numM W mv' o := by
  obtain ⟨k, k1, k2, k3, k4, k5⟩ := h
  have ko : opO o = k := by unfold opO; rw [k2]; exact nI_clamp (by omega)
  unfold numM
  rw [tvV_cong hnm e (k4 (by rw [← ko]; exact hn))]
  rcases k5 with k5 | ⟨_, _, k6⟩
  · rw [k5]; rfl
  · rw [tvV_cong hnm e k6]
theorem newO_val {W nr nm : Nat} (hW : W = 1 ∨ W = 2 ∨ W = 3) (hnr : nr ≤ 4) (hnm : nm ≤ 3) {x : BN × BN} (hF : FUL nr nm x) {o : Nat → Int32} (h : WFo nr nm o) : newO W x o 0 = o 0 ∧ (∀ j, j < regN (opO o) → ∃ w u, w < 4 ∧ u < 4 ∧ o (j + 1) = nI w ∧ x.1 w = some u ∧ newO W x o (j + 1) = nI u) ∧ (numN (opO o) = true → ∀ mv : Nat → Int32, (∀ i, i < nm → mv i = encB (-1) x.2 i) → newO W x o 2 = numM W mv o ∧ ∃ u, u < 8 ∧ (¬ opO o = 0 → u < 4) ∧ numM W mv o = nI u) ∧ (∀ j, 1 ≤ j → regN (opO o) < j → ¬ (j = 2 ∧ numN (opO o) = true) → newO W x o j = 0) := by
  have h0 := h
  obtain ⟨k, k1, k2, k3, k4, k5⟩ := h
  have ko : opO o = k := by unfold opO; rw [k2]; exact nI_clamp (by omega)
  obtain ⟨e0, e1, e2⟩ := keep_op W o
  refine ⟨?_, fun j hj => ?_, fun hn mv hmv => ?_, fun j h1 h2 h3 => ?_⟩
  · exact e0
  · obtain ⟨w, hw, ew⟩ := k3 j (by rw [← ko]; exact hj)
    obtain ⟨u, hu, eu⟩ := hF.1 w hw
    refine ⟨w, u, by omega, hu, ew, eu, ?_⟩
    have kj : (keepF W o) (j + 1) = o (j + 1) := by
      by_cases j2 : j + 1 = 2
      · have nn : ¬ numN (opO o) = true := fun z => by have := numN1 z; omega
        have : keepF W o = o := by unfold keepF; rw [if_neg (fun z => nn z.1)]
        rw [this]
      · exact e2 _ j2
    unfold newO wrO
    rw [if_neg (by omega), e1, if_pos (by omega), kj, ew]
    unfold rgV
    rw [if_neg (fun q => by
      rcases q with q | q
      · exact nn0 (by omega) q
      · exact nI_ge (b := 4) (by omega) (by omega) q), nI_clamp (by omega)]
    unfold encB
    rw [eu]
  · have r1 := numN1 hn
    have hm : MV nm (encB (-1) x.2) := fun i hi => by
      obtain ⟨u, hu, eu⟩ := hF.2 i hi
      exact ⟨u, by omega, by unfold encB; rw [eu]⟩
    have nk := num_keep hW hnm hm h0 hn
    have nc := numM_cong (W := W) hnm hmv h0 hn
    refine ⟨?_, ?_⟩
    · unfold newO wrO
      rw [if_neg (by decide), e1, if_neg (by omega), if_pos ⟨rfl, hn⟩, nk, nc]
    · rw [nc]
      obtain ⟨i, hi, e⟩ := sm_val hnm hm (k4 (by rw [← ko]; exact hn)) (by
        rcases k5 with k5 | ⟨_, a, b⟩
        · exact Or.inl k5
        · exact Or.inr ⟨a, b⟩)
      obtain ⟨u, u1, u2, u3⟩ := kp_bnd hW hn hi
      refine ⟨u, u1, u2, ?_⟩
      unfold numM
      rw [e]
      exact u3
  · unfold newO wrO
    rw [if_neg (by omega), e1, if_neg (by omega), if_neg h3]
theorem newO_pwf {W nr nm : Nat} (hW : W = 1 ∨ W = 2 ∨ W = 3) (hnr : nr ≤ 4) (hnm : nm ≤ 3) {x : BN × BN} (hF : FUL nr nm x) {o : Nat → Int32} (h : WFo nr nm o) : PWF (newO W x o) := by
  obtain ⟨v0, v1, v2, v3⟩ := newO_val hW hnr hnm hF h
  obtain ⟨ok1, ok2⟩ := h.op
  have r3 := regN3 (opO o)
  have f1 : ∃ u, u < 4 ∧ newO W x o 1 = nI u := by
    by_cases r : 1 ≤ regN (opO o)
    · obtain ⟨w, u, _, hu, _, _, e⟩ := v1 0 (by omega)
      exact ⟨u, hu, e⟩
    · exact ⟨0, by decide, v3 1 (by decide) (by omega) (fun z => absurd z.1 (by decide))⟩
  have f3 : ∃ u, u < 4 ∧ newO W x o 3 = nI u := by
    by_cases r : 3 ≤ regN (opO o)
    · obtain ⟨w, u, _, hu, _, _, e⟩ := v1 2 (by omega)
      exact ⟨u, hu, e⟩
    · exact ⟨0, by decide, v3 3 (by decide) (by omega) (fun z => absurd z.1 (by decide))⟩
  have f2 : ∃ u, u < 8 ∧ (¬ opO o = 0 → u < 4) ∧ newO W x o 2 = nI u := by
    by_cases r : 2 ≤ regN (opO o)
    · obtain ⟨w, u, _, hu, _, _, e⟩ := v1 1 (by omega)
      exact ⟨u, by omega, fun _ => hu, e⟩
    · by_cases hn : numN (opO o) = true
      · obtain ⟨q1, u, q2, q3, q4⟩ := v2 hn _ (fun _ _ => rfl)
        exact ⟨u, q2, q3, q1.trans q4⟩
      · exact ⟨0, by decide, fun _ => by decide, v3 2 (by decide) (by omega) (fun z => hn z.2)⟩
  obtain ⟨a, a1, a2⟩ := f1
  obtain ⟨c, c1, c2, c3⟩ := f2
  obtain ⟨e, e1, e2⟩ := f3
  exact ⟨opO o, a, c, e, ⟨ok1, a1, e1, c1, c2⟩, by rw [v0]; exact ok2, a2, c3, e2⟩
theorem newP_pwf {W pl : Nat} {a : AR} (hW : W = 1 ∨ W = 2 ∨ W = 3) (hf : WFr a) {x : BN × BN} (hF : FUL a.nr a.nm x) {A : List (Nat → Int32)} (hA : ∀ o, o ∈ A → PWF o) : ∀ o, o ∈ newP W a x A pl → PWF o := by
  intro o ho
  rcases List.mem_append.mp ho with q | q
  · exact hA o (List.mem_of_mem_take q)
  · rcases List.mem_append.mp q with q | q
    · obtain ⟨o', h1, h2⟩ := List.mem_map.mp q
      rw [← h2]
      exact newO_pwf hW hf.nr4 hf.nm3 hF (hf.f2 o' h1)
    · exact hA o (List.mem_of_mem_drop q)
theorem wrO_cong {W : Nat} {r r' m m' : Nat → Int32} (h1 : ∀ k, k < 4 → r k = r' k) (h2 : ∀ k, k < 3 → m k = m' k) (o : Nat → Int32) : wrO W r m o = wrO W r' m' o := by
  have R : ∀ t, rgV r t = rgV r' t := fun t => by
    unfold rgV
    by_cases q : t < 0 ∨ 4 ≤ t
    · rw [if_pos q, if_pos q]
    · have z := i32_nat (c := t) (n := 4) (by decide) (fun w => q (Or.inl w)) (fun w => q (Or.inr w))
      rw [if_neg q, if_neg q, h1 _ z.2]
  have N : ∀ t, nmV m t = nmV m' t := fun t => by
    unfold nmV
    by_cases q : t < 0 ∨ 3 ≤ t
    · rw [if_pos q, if_pos q]
    · have z := i32_nat (c := t) (n := 3) (by decide) (fun w => q (Or.inl w)) (fun w => q (Or.inr w))
      rw [if_neg q, if_neg q, h2 _ z.2]
  have T : ∀ t, tvV m t = tvV m' t := fun t => by unfold tvV; rw [N]
  funext j
  unfold wrO numC
  rw [R, T, T]
/-- the place p changed, rule r has been used once more -/
def bmp (a : AR) : AR := (a.nr, a.nm, a.hc, a.o1, a.o2, a.P, a.C, a.ch + 1, a.on)
def chS (s : AS) (p r : Nat) (B : List (Nat → Int32)) : AS := (s.W, s.len, s.b, s.rs.set r (bmp (s.rs.getD r ar0)), s.ps.set p B, s.ns, s.tl, s.ap)
theorem set_ps {s : AS} {k : Nat} (h : k < s.ps.length) (a : List (Nat → Int32)) {i : Nat} : (s.ps.set k a).getD i [] = if i = k then a else s.ps.getD i [] := by
  rw [List.getD_eq_getElem?_getD, List.getD_eq_getElem?_getD, List.getElem?_set]
  by_cases e : i = k
  · subst e
    rw [if_pos rfl, if_pos rfl, if_pos h]
    rfl
  · rw [if_neg (fun z => e z.symm), if_neg e]
theorem chS_wf {s : AS} {p r : Nat} {B : List (Nat → Int32)} (hs : WFs s) (hr : r < s.rs.length) (hB : B.length ≤ 24 ∧ ∀ o, o ∈ B → PWF o) : WFs (chS s p r B) := by
  have e1 : (chS s p r B).rs.length = s.rs.length := List.length_set
  have e2 : (chS s p r B).ps.length = s.ps.length := List.length_set
  have fr := hs.fr _ (mem_rs hr)
  refine ⟨hs.w, hs.l, hs.byy, by rw [e1]; exact hs.r24, by rw [e2]; exact hs.p16, fun b hb => ?_, fun q hq => ?_, hs.n144⟩
  · rcases List.mem_or_eq_of_mem_set hb with q | q
    · exact hs.fr b q
    · rw [q]; exact ⟨fr.nr4, fr.nm3, fr.f1, fr.f2, fr.z4, fr.l1, fr.l4, fr.m4, fr.p1, fr.pm, fr.cp, fr.oc⟩
  · rcases List.mem_or_eq_of_mem_set hq with w | w
    · exact hs.fp q w
    · rw [w]; exact hB
