/-! arrays and new cells -/
section JA
variable {D : jD} {M : Nat} {p : Program} {l : Launch} {e : Env} {R : Room} {s : State} {m : MethodId} {args : Array Value} {below : List Frame} {meth : Method} {c : Code} {Q : State → Prop} {n1 s1 pc n : Nat} {L : jL} {st : List Value} {σ : jS}
theorem jarr0 (hK : jKn D s) (N : Nat) (z : Nat → Value) : s.isArrayOf (arrV (jdA D 20) N z) .int := (hK.2.1 0 (by decide)).1 N z
theorem jarr1 (hK : jKn D s) (N : Nat) (z : Nat → Value) : s.isArrayOf (arrV (jdA D 21) N z) .byte := (hK.2.1 1 (by decide)).1 N z
theorem jarr2 (hK : jKn D s) (N : Nat) (z : Nat → Value) : s.isArrayOf (arrV (jdA D 22) N z) .boolean := (hK.2.1 2 (by decide)).1 N z
theorem jclam {i : Int32} {N : Nat} (h : ¬ (i < 0 ∨ N ≤ i.toNatClampNeg)) : i.toNatClampNeg < N := Nat.not_le.mp fun q => h (Or.inr q)
theorem jo_iald (C : jCtx D M p s m args meth c) {a b : Nat} {k : Int} (h : jchk2 M pc 28 a b k n = true) {q : Nat} {i : Int32} (hT : jT σ q = 20 ∨ jT σ q = 60) (hin : ¬ (i < 0 ∨ jN σ q ≤ i.toNatClampNeg)) (kk : jK D M p l e R s m args below meth c Q n1 s1 n L (.int (jA σ q i.toNatClampNeg) :: st) σ) : jK D M p l e R s m args below meth c Q n1 s1 pc L (.int i :: .ref q :: st) σ := by
  intro H locs ls hl hr hlo
  have kk := kk H locs ls hl hr hlo
  obtain ⟨h1, rfl⟩ := jdc_of (show jdc M pc .iaload 1 n = true from h)
  have hlt := jclam hin
  rcases hT with hT | hT
  · obtain ⟨-, -, a3⟩ := (hr.2.2 q).2.1 (by omega) (by omega)
    rw [hT] at a3
    exact W.iald (v := .int (jA σ q i.toNatClampNeg)) C.1 C.2.1 a3 (jarr0 C.2.2.2.2.2.1 _ _) (fun z => by cases z) (by rw [arrV_size]; exact hin) (by rw [arrV_read _ _ hlt]) rfl rfl h1 kk
  · obtain ⟨-, -, cell, a3, a4, a5, a6, a7⟩ := (hr.2.2 q).2.2.2.1 hT
    exact W.iald (v := .int (jA σ q i.toNatClampNeg)) C.1 C.2.1 a3 a4 a5 (fun z => hin (z.elim Or.inl (fun w => Or.inr (Nat.le_trans a6.1 w)))) (a7 _ hlt) rfl rfl h1 kk
theorem jo_bald (C : jCtx D M p s m args meth c) {a b : Nat} {k : Int} (h : jchk2 M pc 30 a b k n = true) {q : Nat} {i : Int32} (hT : jT σ q = 21 ∨ jT σ q = 22) (hin : ¬ (i < 0 ∨ jN σ q ≤ i.toNatClampNeg)) (kk : jK D M p l e R s m args below meth c Q n1 s1 n L (.int (jA σ q i.toNatClampNeg) :: st) σ) : jK D M p l e R s m args below meth c Q n1 s1 pc L (.int i :: .ref q :: st) σ := by
  intro H locs ls hl hr hlo
  have kk := kk H locs ls hl hr hlo
  obtain ⟨h1, rfl⟩ := jdc_of (show jdc M pc .baload 1 n = true from h)
  have hlt := jclam hin
  rcases hT with hT | hT
  · obtain ⟨-, -, a3⟩ := (hr.2.2 q).2.1 (by omega) (by omega)
    rw [hT] at a3
    exact W.bald (v := .int (jA σ q i.toNatClampNeg)) C.1 C.2.1 a3 (jarr1 C.2.2.2.2.2.1 _ _) (fun z => by cases z) (by rw [arrV_size]; exact hin) (by rw [arrV_read _ _ hlt]) rfl rfl h1 kk
  · obtain ⟨-, -, a3⟩ := (hr.2.2 q).2.1 (by omega) (by omega)
    rw [hT] at a3
    exact W.zald (v := .int (jA σ q i.toNatClampNeg)) C.1 C.2.1 a3 (jarr2 C.2.2.2.2.2.1 _ _) (fun z => by cases z) (by rw [arrV_size]; exact hin) (by rw [arrV_read _ _ hlt]) rfl rfl h1 kk
theorem jRel.arr {σ' : jS} {H H' : Heap} (hr : jRel D σ s H) {q : Nat} (t1 : 20 ≤ jT σ q) (t2 : jT σ q ≤ 22) (e1 : H'[jloc D q]? = some (arrV (jdA D (jT σ q)) (jN σ q) (fun j => .int (jA σ' q j)))) (e2 : H'.size = H.size) (e3 : ∀ x, x ≠ jloc D q → H'[x]? = H[x]?)
    (hT' : jT σ' = jT σ) (hN' : jN σ' = jN σ) (hI' : jI σ' = jI σ) (hR' : jR σ' = jR σ) (hG' : jG σ' = jG σ) (hx' : jnx σ' = jnx σ) (ho : ∀ b i, b ≠ q → jA σ' b i = jA σ b i) : jRel D σ' s H' := by
  obtain ⟨h1, h2, h3⟩ := hr
  refine ⟨by rw [e2, hx']; exact h1, by rw [hx']; exact h2, fun b => ?_⟩
  obtain ⟨b1, b2, b3⟩ := (h3 q).2.1 t1 t2
  by_cases hbq : b = q
  · subst hbq
    refine ⟨fun ci c' hc' ht => ?_, fun _ _ => ⟨b1, by rw [hx']; exact b2, by rw [hT', hN']; exact e1⟩, fun u1 u2 => ?_, fun t => ?_, ?_⟩
    · rw [hT'] at ht
      have hl11 : ci < 11 := (List.getElem?_eq_some_iff.mp hc').1
      omega
    · rw [hT'] at u1; omega
    · rw [hT'] at t; omega
    · rw [hT']; omega
  · refine (h3 b).kept (by rw [hT']) (by rw [hN']) (fun g => by rw [hI']) (fun g => by rw [hR']) (fun i => ho b i hbq) (fun i => by rw [hG']) (by rw [hx']; exact Nat.le_refl _) (fun hcase => e3 _ ?_) (fun x _ hx => e3 x (fun z => hx (by rw [z]; exact jloc_ge b1)))
    rcases hcase with ⟨c1, c2⟩ | ⟨c1, c2⟩
    · exact fun z => hbq (jloc_inj c1 b1 z)
    · exact fun z => absurd (jloc_ge (D := D) b1) (by rw [← z]; omega)
theorem jsA_o {σ : jS} {q i : Nat} {x : Int32} (b j : Nat) : jA (jsA σ q i x) b j = if b = q ∧ j = i then x else jA σ b j := rfl
theorem jsA_f {σ : jS} {q i : Nat} {x : Int32} : (fun j => Value.int (jA (jsA σ q i x) q j)) = updV (fun j => .int (jA σ q j)) i (.int x) := by
  funext j
  rw [jsA_o]
  by_cases hj : j = i
  · simp [updV, hj]
  · simp [updV, hj]
theorem jlo {locs : List Loc} {q i : Nat} (hlo : ∀ z ∈ locs, jn0 D ≤ z.base) (hq : 16 ≤ q) : ∀ z ∈ locs ++ [⟨jloc D q, i⟩], jn0 D ≤ z.base := by
  intro z hz
  rcases List.mem_append.mp hz with hz | hz
  · exact hlo z hz
  · rw [List.mem_singleton.mp hz]; exact jloc_ge hq
theorem jo_iast (C : jCtx D M p s m args meth c) {a b : Nat} {k : Int} (h : jchk2 M pc 29 a b k n = true) {q : Nat} {i x : Int32} (hT : jT σ q = 20) (hin : ¬ (i < 0 ∨ jN σ q ≤ i.toNatClampNeg)) (kk : jK D M p l e R s m args below meth c Q n1 s1 n L st (jsA σ q i.toNatClampNeg x)) : jK D M p l e R s m args below meth c Q n1 s1 pc L (.int x :: .int i :: .ref q :: st) σ := by
  intro H locs ls hl hr hlo
  obtain ⟨h1, rfl⟩ := jdc_of (show jdc M pc .iastore 1 n = true from h)
  obtain ⟨a1, -, a3⟩ := (hr.2.2 q).2.1 (by omega) (by omega)
  have a3' := a3
  rw [hT] at a3'
  refine W.iast C.1 C.2.1 a3' (jarr0 C.2.2.2.2.2.1 _ _) (fun z => by cases z) (by rw [arrV_size]; exact hin) rfl rfl h1 fun H' e1 e2 e3 => ?_
  refine kk H' _ ls hl (hr.arr (q := q) (by omega) (by omega) ?_ e2 e3 rfl rfl rfl rfl rfl rfl (fun b j hb => ?_)) (jlo hlo a1)
  · rw [e1, arrV_store, jsA_f, hT]
  · rw [jsA_o, if_neg (fun z => hb z.1)]
theorem jo_bast (C : jCtx D M p s m args meth c) {a b : Nat} {k : Int} (h : jchk2 M pc 31 a b k n = true) {q : Nat} {i x : Int32} (hT : jT σ q = 21) (hin : ¬ (i < 0 ∨ jN σ q ≤ i.toNatClampNeg)) (kk : jK D M p l e R s m args below meth c Q n1 s1 n L st (jsA σ q i.toNatClampNeg x.toInt8.toInt32)) : jK D M p l e R s m args below meth c Q n1 s1 pc L (.int x :: .int i :: .ref q :: st) σ := by
  intro H locs ls hl hr hlo
  obtain ⟨h1, rfl⟩ := jdc_of (show jdc M pc .bastore 1 n = true from h)
  obtain ⟨a1, -, a3⟩ := (hr.2.2 q).2.1 (by omega) (by omega)
  have a3' := a3
  rw [hT] at a3'
  refine W.bast C.1 C.2.1 a3' (jarr1 C.2.2.2.2.2.1 _ _) (fun z => by cases z) (by rw [arrV_size]; exact hin) rfl rfl h1 fun H' e1 e2 e3 => ?_
  refine kk H' _ ls hl (hr.arr (q := q) (by omega) (by omega) ?_ e2 e3 rfl rfl rfl rfl rfl rfl (fun b j hb => ?_)) (jlo hlo a1)
  · rw [e1, arrV_store, jsA_f, hT]; rfl
  · rw [jsA_o, if_neg (fun z => hb z.1)]
theorem jo_zast (C : jCtx D M p s m args meth c) {a b : Nat} {k : Int} (h : jchk2 M pc 31 a b k n = true) {q : Nat} {i x : Int32} (hT : jT σ q = 22) (hin : ¬ (i < 0 ∨ jN σ q ≤ i.toNatClampNeg)) (kk : jK D M p l e R s m args below meth c Q n1 s1 n L st (jsA σ q i.toNatClampNeg (x &&& 1))) : jK D M p l e R s m args below meth c Q n1 s1 pc L (.int x :: .int i :: .ref q :: st) σ := by
  intro H locs ls hl hr hlo
  obtain ⟨h1, rfl⟩ := jdc_of (show jdc M pc .bastore 1 n = true from h)
  obtain ⟨a1, -, a3⟩ := (hr.2.2 q).2.1 (by omega) (by omega)
  have a3' := a3
  rw [hT] at a3'
  refine W.zast C.1 C.2.1 a3' (jarr2 C.2.2.2.2.2.1 _ _) (fun z => by cases z) (by rw [arrV_size]; exact hin) rfl rfl h1 fun H' e1 e2 e3 => ?_
  refine kk H' _ ls hl (hr.arr (q := q) (by omega) (by omega) ?_ e2 e3 rfl rfl rfl rfl rfl rfl (fun b j hb => ?_)) (jlo hlo a1)
  · rw [e1, arrV_store, jsA_f, hT]; rfl
  · rw [jsA_o, if_neg (fun z => hb z.1)]
theorem jref {hK : jKn D s} {t : Nat} (ht : t = 34 ∨ t = 35) : ∃ (ci : Nat) (r : vw_C), jcl[ci]? = some r ∧ (ci = 4 ∨ ci = 5) ∧ t = 30 + ci ∧ ArrOfT s (jdA D t) (.object r.1) ∧ va_RA s (jdA D t) (.object r.1) ∧ va_AO r.1 s := by
  rcases ht with rfl | rfl
  · obtain ⟨a1, a2, a3⟩ := hK.2.2.1 4 _ rfl (Or.inl rfl)
    exact ⟨4, _, rfl, Or.inl rfl, rfl, a1, a2, a3⟩
  · obtain ⟨a1, a2, a3⟩ := hK.2.2.1 5 _ rfl (Or.inr rfl)
    exact ⟨5, _, rfl, Or.inr rfl, rfl, a1, a2, a3⟩
theorem jo_aald (C : jCtx D M p s m args meth c) {a b : Nat} {k : Int} (h : jchk2 M pc 32 a b k n = true) {q : Nat} {i : Int32} (hT : 30 ≤ jT σ q ∧ jT σ q < 50) (hin : ¬ (i < 0 ∨ jN σ q ≤ i.toNatClampNeg)) (kk : jK D M p l e R s m args below meth c Q n1 s1 n L (va_rf (jG σ q i.toNatClampNeg) :: st) σ) : jK D M p l e R s m args below meth c Q n1 s1 pc L (.int i :: .ref q :: st) σ := by
  intro H locs ls hl hr hlo
  have kk := kk H locs ls hl hr hlo
  obtain ⟨h1, rfl⟩ := jdc_of (show jdc M pc .aaload 1 n = true from h)
  have hlt := jclam hin
  obtain ⟨-, -, a4, a3⟩ := (hr.2.2 q).2.2.1 hT.1 hT.2
  obtain ⟨ci, r, hc, hci, ht, g1, g2, g3⟩ := jref (hK := C.2.2.2.2.2.1) a4
  exact W.aald (v := jv D (va_rf (jG σ q i.toNatClampNeg))) (ty := .object r.1) C.1 C.2.1 a3 (g1 _ _) rfl (fun z => by cases z) (by rw [arrV_size]; exact hin) (by rw [arrV_read _ _ hlt]) rfl rfl h1 kk
theorem jRel.arq {σ' : jS} {H H' : Heap} (hr : jRel D σ s H) {q : Nat} (t1 : 30 ≤ jT σ q) (t2 : jT σ q < 50) (e1 : H'[jloc D q]? = some (arrV (jdA D (jT σ q)) (jN σ q) (fun j => jv D (va_rf (jG σ' q j))))) (e2 : H'.size = H.size) (e3 : ∀ x, x ≠ jloc D q → H'[x]? = H[x]?)
    (hT' : jT σ' = jT σ) (hN' : jN σ' = jN σ) (hI' : jI σ' = jI σ) (hR' : jR σ' = jR σ) (hA' : jA σ' = jA σ) (hx' : jnx σ' = jnx σ) (ho : ∀ b i, b ≠ q → jG σ' b i = jG σ b i) : jRel D σ' s H' := by
  obtain ⟨h1, h2, h3⟩ := hr
  refine ⟨by rw [e2, hx']; exact h1, by rw [hx']; exact h2, fun b => ?_⟩
  obtain ⟨b1, b2, b4, b3⟩ := (h3 q).2.2.1 t1 t2
  by_cases hbq : b = q
  · subst hbq
    refine ⟨fun ci c' hc' ht => ?_, fun u1 u2 => ?_, fun _ _ => ⟨b1, by rw [hx']; exact b2, by rw [hT']; exact b4, by rw [hT', hN']; exact e1⟩, fun t => ?_, ?_⟩
    · rw [hT'] at ht
      have hl11 : ci < 11 := (List.getElem?_eq_some_iff.mp hc').1
      omega
    · rw [hT'] at u2; omega
    · rw [hT'] at t; omega
    · rw [hT']; omega
  · refine (h3 b).kept (by rw [hT']) (by rw [hN']) (fun g => by rw [hI']) (fun g => by rw [hR']) (fun i => by rw [hA']) (fun i => ho b i hbq) (by rw [hx']; exact Nat.le_refl _) (fun hcase => e3 _ ?_) (fun x _ hx => e3 x (fun z => hx (by rw [z]; exact jloc_ge b1)))
    rcases hcase with ⟨c1, c2⟩ | ⟨c1, c2⟩
    · exact fun z => hbq (jloc_inj c1 b1 z)
    · exact fun z => absurd (jloc_ge (D := D) b1) (by rw [← z]; omega)
theorem jsG_o {σ : jS} {q i : Nat} {x : Option Nat} (b j : Nat) : jG (jsG σ q i x) b j = if b = q ∧ j = i then x else jG σ b j := rfl
theorem jsG_f {σ : jS} {q i : Nat} {x : Option Nat} : (fun j => jv D (va_rf (jG (jsG σ q i x) q j))) = updV (fun j => jv D (va_rf (jG σ q j))) i (jv D (va_rf x)) := by
  funext j
  rw [jsG_o]
  by_cases hj : j = i
  · simp [updV, hj]
  · simp [updV, hj]
theorem jo_aast (C : jCtx D M p s m args meth c) {a b : Nat} {k : Int} (h : jchk2 M pc 33 a b k n = true) {q x : Nat} {i : Int32} (hT : 30 ≤ jT σ q ∧ jT σ q < 50 ∧ jT σ x + 29 = jT σ q) (hin : ¬ (i < 0 ∨ jN σ q ≤ i.toNatClampNeg)) (kk : jK D M p l e R s m args below meth c Q n1 s1 n L st (jsG σ q i.toNatClampNeg (some x))) : jK D M p l e R s m args below meth c Q n1 s1 pc L (.ref x :: .int i :: .ref q :: st) σ := by
  intro H locs ls hl hr hlo
  obtain ⟨h1, rfl⟩ := jdc_of (show jdc M pc .aastore 1 n = true from h)
  have hlt := jclam hin
  obtain ⟨a1, -, a4, a3⟩ := (hr.2.2 q).2.2.1 hT.1 hT.2.1
  obtain ⟨ci, r, hc, hci, ht, g1, g2, g3⟩ := jref (hK := C.2.2.2.2.2.1) a4
  obtain ⟨-, -, cellV, q1, q2, q3, -⟩ := (hr.2.2 x).1 ci r hc (by omega)
  have hcls := (C.2.2.2.2.2.1.1 ci r hc).2
  obtain ⟨kA, comp, k1, k2, k3, -⟩ := g2
  have hcomp : comp = D.1 ci := Option.some.inj (k3.symm.trans hcls.1)
  subst hcomp
  obtain ⟨kC, hkC, -⟩ := hcls.2
  refine W.aast C.1 C.2.1 a3 (fun q h => by cases h) (fun h => by cases h) k1 k2 rfl hkC ⟨fun z => hin (Or.inl z), by rw [arrV_size]; exact hlt⟩ q1 (fun q h => by rw [q3] at h; cases h) (by rw [q2]; exact hkC) (by rw [q2]; exact va_assign hcls) rfl rfl h1 fun H' e1 e2 e3 => ?_
  refine kk H' _ ls hl (hr.arq (q := q) hT.1 hT.2.1 ?_ e2 e3 rfl rfl rfl rfl rfl rfl (fun b j hb => ?_)) (jlo hlo a1)
  · rw [e1, arrV_store, jsG_f]; rfl
  · rw [jsG_o, if_neg (fun z => hb z.1)]
theorem jo_alen (C : jCtx D M p s m args meth c) {a b : Nat} {k : Int} (h : jchk2 M pc 34 a b k n = true) {q : Nat} (hT : 20 ≤ jT σ q ∧ jT σ q ≤ 60) (kk : jK D M p l e R s m args below meth c Q n1 s1 n L (.int (Int32.ofNat (jN σ q)) :: st) σ) : jK D M p l e R s m args below meth c Q n1 s1 pc L (.ref q :: st) σ := by
  intro H locs ls hl hr hlo
  have kk := kk H locs ls hl hr hlo
  obtain ⟨h1, rfl⟩ := jdc_of (show jdc M pc .arraylength 1 n = true from h)
  obtain ⟨-, c2, c3, c4, c5⟩ := hr.2.2 q
  rcases c5 with c5 | c5 | c5 | ⟨c5, -, -⟩
  · obtain ⟨-, -, a3⟩ := c2 hT.1 (by omega)
    have hc : jT σ q = 20 ∨ jT σ q = 21 ∨ jT σ q = 22 := by omega
    rcases hc with hc | hc | hc <;> rw [hc] at a3
    · exact W.alen (n := Int32.ofNat (jN σ q)) C.1 C.2.1 a3 (jarr0 C.2.2.2.2.2.1 _ _) (by rw [arrV_size] <;> rfl) rfl rfl h1 kk
    · exact W.alen (n := Int32.ofNat (jN σ q)) C.1 C.2.1 a3 (jarr1 C.2.2.2.2.2.1 _ _) (by rw [arrV_size] <;> rfl) rfl rfl h1 kk
    · exact W.alen (n := Int32.ofNat (jN σ q)) C.1 C.2.1 a3 (jarr2 C.2.2.2.2.2.1 _ _) (by rw [arrV_size] <;> rfl) rfl rfl h1 kk
  · obtain ⟨-, -, a4, a3⟩ := c3 c5.1 c5.2
    obtain ⟨ci, r, hc, hci, ht, g1, g2, g3⟩ := jref (hK := C.2.2.2.2.2.1) a4
    exact W.alen (n := Int32.ofNat (jN σ q)) C.1 C.2.1 a3 (g1 _ _) (by rw [arrV_size] <;> rfl) rfl rfl h1 kk
  · obtain ⟨-, -, cell, a3, a4, a5, a6, a7⟩ := c4 c5
    exact W.alen (n := Int32.ofNat (jN σ q)) C.1 C.2.1 a3 a4 (by first | exact a6.2 | exact a6.2.symm) rfl rfl h1 kk
  · omega
/-- a new cell at the heap's end: the others stand -/
theorem jRel.new {σ' : jS} {H H' : Heap} (hr : jRel D σ s H) (z1 : H'.size = jloc D (jnx σ) + 1) (o1 : ∀ x, x < jloc D (jnx σ) → H'[x]? = H[x]?) (hx' : jnx σ' = jnx σ + 1)
    (ho : ∀ a, a ≠ jnx σ → jT σ' a = jT σ a ∧ jN σ' a = jN σ a ∧ (∀ g, jI σ' g a = jI σ g a) ∧ (∀ g, jR σ' g a = jR σ g a) ∧ (∀ i, jA σ' a i = jA σ a i) ∧ (∀ i, jG σ' a i = jG σ a i)) (hc : jcell D σ' s H' (jnx σ)) : jRel D σ' s H' := by
  obtain ⟨h1, h2, h3⟩ := hr
  refine ⟨by rw [z1, hx', jloc_s h2], by omega, fun a => ?_⟩
  by_cases ha : a = jnx σ
  · rw [ha]; exact hc
  · obtain ⟨p1, p2, p3, p4, p5, p6⟩ := ho a ha
    refine (h3 a).kept p1 p2 p3 p4 p5 p6 (by omega) (fun hcase => o1 _ ?_) (fun x hx _ => o1 x (by rw [← h1]; exact hx))
    rcases hcase with ⟨c1, c2⟩ | ⟨c1, c2⟩
    · exact jloc_lt c1 c2
    · exact Nat.lt_of_lt_of_le c2 (jloc_ge h2)
theorem jju {α : Type} (f : Nat → α) (a : Nat) (v : α) : ju1 f a v a = v ∧ ∀ b, b ≠ a → ju1 f a v b = f b := ⟨by simp [ju1], fun b hb => by simp [ju1, hb]⟩
theorem jo_new (C : jCtx D M p s m args meth c) {a b : Nat} {k : Int} (h : jchk2 M pc 35 a b k n = true) {r : vw_C} (hc : jcl[a]? = some r) (hn1 : n1 ≤ jnx σ) (hs1 : s1 ≤ jsl σ) (hRc : jnx σ - n1 + 1 ≤ R.cells) (hRs : jsl σ - s1 + r.2.2 ≤ R.slots) (kk : jK D M p l e R s m args below meth c Q n1 s1 n L (.ref (jnx σ) :: st) (jnO σ a r.2.2)) : jK D M p l e R s m args below meth c Q n1 s1 pc L st σ := by
  intro H locs ls hl hr hlo
  have h : (jdc M pc (.new b) 3 n && (match jcl[a]? with | some c => jwd k.toNat (.classLink (jown M) b c.1) | none => false)) = true := h
  rw [hc, Bool.and_eq_true] at h
  obtain ⟨h1, rfl⟩ := jdc_of h.1
  obtain ⟨hx, hb, hml, hown, hts, hK, hin⟩ := C
  obtain ⟨w1, w2, w3⟩ := jcl_ws hc
  have hKn := hK.1 a r hc
  refine W.newcK hx hb hown (hts _ (jw_of h.2 rfl)) (hts _ (List.mem_filter.mpr ⟨w2, rfl⟩)) (hts _ (List.mem_filter.mpr ⟨w3, rfl⟩)) rfl h1 hRc hRs hKn.2.1 hr.1 fun H1 kC hkC e1 z1 o1 => ?_
  have e : jnx σ - n1 + 1 = jnx (jnO σ a r.2.2) - n1 := by show _ = jnx σ + 1 - n1; omega
  have e' : jsl σ - s1 + r.2.2 = jsl (jnO σ a r.2.2) - s1 := by show _ = jsl σ + r.2.2 - s1; omega
  rw [e, e']
  have hl11 : a < 11 := (List.getElem?_eq_some_iff.mp hc).1
  have hTn : jT (jnO σ a r.2.2) (jnx σ) = 1 + a := (jju _ _ _).1
  refine kk H1 locs ls hl (hr.new z1 o1 rfl (fun y hy => ⟨(jju _ _ _).2 y hy, rfl, fun g => ?_, fun g => ?_, fun i => rfl, fun i => rfl⟩) ⟨fun ci c' hc' ht => ?_, fun t1 t2 => ?_, fun t1 t2 => ?_, fun t => ?_, ?_⟩) hlo
  · show jz2 (jI σ) (jnx σ) 0 g y = _
    simp [jz2, hy]
  · show jz2 (jR σ) (jnx σ) none g y = _
    simp [jz2, hy]
  · rw [hTn] at ht
    have hci : ci = a := by omega
    subst hci
    have : c' = r := Option.some.inj (hc'.symm.trans hc)
    subst this
    refine ⟨hr.2.1, Nat.lt_succ_self _, (u_born (fun k => jty (64 * ci + k)) hts w1 hKn hkC e1 (jcl_ty hc)).to (fun j hj => ?_)⟩
    have h64 := jcl_64 hc
    have hq := jty_ok (a := 64 * ci + j) (r := c') (by rw [show (64 * ci + j) / 64 = ci by omega]; exact hc)
    have hI0 : jI (jnO σ ci c'.2.2) (64 * ci + j) (jnx σ) = 0 := by show jz2 (jI σ) (jnx σ) 0 _ _ = _; simp [jz2]
    have hR0 : jR (jnO σ ci c'.2.2) (64 * ci + j) (jnx σ) = none := by show jz2 (jR σ) (jnx σ) none _ _ = _; simp [jz2]
    show defaultValue (jty (64 * ci + j)) = jv D (jfv (jnO σ ci c'.2.2) (64 * ci + j) (jnx σ))
    unfold jfv
    rw [hI0, hR0]
    rcases hq with hq | hq | hq
    · rw [if_neg (by unfold jkd; rw [hq]; decide), hq]; rfl
    · rw [if_neg (by unfold jkd; rw [hq]; decide), hq]; rfl
    · rw [if_pos (by unfold jkd; exact hq)]
      cases ht : jty (64 * ci + j) with
      | object C => rfl
      | array C => rfl
      | _ => rw [ht] at hq; cases hq
  · rw [hTn] at t1; omega
  · rw [hTn] at t1; omega
  · rw [hTn] at t; omega
  · rw [hTn]; omega
theorem jarw : [ArrayType.int, .byte, .boolean].all (fun t => decide (Jvm.Cond.arrayClass (newarray.typeOf t) ∈ lw_tbl)) = true := by decide +kernel
theorem jarw_of {a : Nat} (ha : a < 3) : Jvm.Cond.arrayClass (newarray.typeOf (jat a)) ∈ jw := by
  have h := List.all_eq_true.mp jarw
  have ha : a = 0 ∨ a = 1 ∨ a = 2 := by omega
  refine List.mem_filter.mpr ⟨of_decide_eq_true (h (jat a) ?_), rfl⟩
  rcases ha with rfl | rfl | rfl
  · exact List.mem_cons_self
  · exact List.mem_cons_of_mem _ List.mem_cons_self
  · exact List.mem_cons_of_mem _ (List.mem_cons_of_mem _ List.mem_cons_self)
theorem jo_newa (C : jCtx D M p s m args meth c) {a b : Nat} {k : Int} (h : jchk2 M pc 36 a b k n = true) {x : Int32} (hx0 : ¬ (x < 0 ∨ 1000000 < x.toNatClampNeg)) (hn1 : n1 ≤ jnx σ) (hs1 : s1 ≤ jsl σ) (hRc : jnx σ - n1 + 1 ≤ R.cells) (hRs : jsl σ - s1 + x.toNatClampNeg ≤ R.slots) (kk : jK D M p l e R s m args below meth c Q n1 s1 n L (.ref (jnx σ) :: st) (jnA σ a x.toNatClampNeg)) : jK D M p l e R s m args below meth c Q n1 s1 pc L (.int x :: st) σ := by
  intro H locs ls hl hr hlo
  have h : (jdc M pc (.newarray (jat a)) 2 n && decide (a < 3)) = true := h
  rw [Bool.and_eq_true] at h
  have ha : a < 3 := of_decide_eq_true h.2
  obtain ⟨h1, rfl⟩ := jdc_of h.1
  obtain ⟨hx, hb, hml, hown, hts, hK, hin⟩ := C
  have hbytes : x.toNatClampNeg * componentBytes (newarray.typeOf (jat a)) ≤ 536870912 := by
    have ha : a = 0 ∨ a = 1 ∨ a = 2 := by omega
    have : componentBytes (newarray.typeOf (jat a)) ≤ 8 := by rcases ha with rfl | rfl | rfl <;> decide
    have h2 : x.toNatClampNeg ≤ 1000000 := Nat.not_lt.mp fun q => hx0 (Or.inr q)
    exact Nat.le_trans (Nat.mul_le_mul h2 this) (by decide)
  have hdef : defaultValue (newarray.typeOf (jat a)) = .int 0 := by
    have ha : a = 0 ∨ a = 1 ∨ a = 2 := by omega
    rcases ha with rfl | rfl | rfl <;> rfl
  refine va_newaK hx hb (hts _ (jarw_of ha)) rfl h1 rfl (fun q => hx0 (Or.inl q)) rfl hbytes hRc hRs hr.1 fun H1 cA e1 z1 o1 hAr hNm => ?_
  have hcA : cA = jdA D (20 + a) := Option.some.inj (hNm.symm.trans (hK.2.1 a ha).2)
  subst hcA
  have e : jnx σ - n1 + 1 = jnx (jnA σ a x.toNatClampNeg) - n1 := by show _ = jnx σ + 1 - n1; omega
  have e' : jsl σ - s1 + x.toNatClampNeg = jsl (jnA σ a x.toNatClampNeg) - s1 := by show _ = jsl σ + x.toNatClampNeg - s1; omega
  rw [e, e']
  have hTn : jT (jnA σ a x.toNatClampNeg) (jnx σ) = 20 + a := (jju _ _ _).1
  have hNn : jN (jnA σ a x.toNatClampNeg) (jnx σ) = x.toNatClampNeg := (jju _ _ _).1
  refine kk H1 locs ls hl (hr.new z1 o1 rfl (fun y hy => ⟨(jju _ _ _).2 y hy, (jju _ _ _).2 y hy, fun g => rfl, fun g => rfl, fun i => ?_, fun i => rfl⟩) ⟨fun ci c' hc' ht => ?_, fun t1 t2 => ⟨hr.2.1, Nat.lt_succ_self _, ?_⟩, fun t1 t2 => ?_, fun t => ?_, ?_⟩) hlo
  · show jz1 (jA σ) (jnx σ) 0 y i = _
    simp [jz1, hy]
  · rw [hTn] at ht
    have hl11 : ci < 11 := (List.getElem?_eq_some_iff.mp hc').1
    omega
  · rw [e1, hTn, hNn, hdef]
    have : (fun j => Value.int (jA (jnA σ a x.toNatClampNeg) (jnx σ) j)) = (fun _ => Value.int 0) := by
      funext j
      show Value.int (jz1 (jA σ) (jnx σ) 0 (jnx σ) j) = _
      simp [jz1]
    rw [this]
  · rw [hTn] at t1; omega
  · rw [hTn] at t; omega
  · rw [hTn]; omega
theorem jo_newq (C : jCtx D M p s m args meth c) {a b : Nat} {k : Int} (h : jchk2 M pc 37 a b k n = true) {x : Int32} (hx0 : ¬ (x < 0 ∨ 1000000 < x.toNatClampNeg)) (hn1 : n1 ≤ jnx σ) (hs1 : s1 ≤ jsl σ) (hRc : jnx σ - n1 + 1 ≤ R.cells) (hRs : jsl σ - s1 + x.toNatClampNeg ≤ R.slots) (kk : jK D M p l e R s m args below meth c Q n1 s1 n L (.ref (jnx σ) :: st) (jnG σ a x.toNatClampNeg)) : jK D M p l e R s m args below meth c Q n1 s1 pc L (.int x :: st) σ := by
  intro H locs ls hl hr hlo
  have h : (jdc M pc (.anewarray b) 3 n && decide (a = 4 ∨ a = 5) && (match jcl[a]? with | some c => jwd k.toNat (.classLink (jown M) b c.1) | none => false)) = true := h
  rw [Bool.and_eq_true, Bool.and_eq_true] at h
  obtain ⟨⟨hd, ha⟩, hw⟩ := h
  have ha : a = 4 ∨ a = 5 := of_decide_eq_true ha
  obtain ⟨h1, rfl⟩ := jdc_of hd
  obtain ⟨hx, hb, hml, hown, hts, hK, hin⟩ := C
  obtain ⟨r, hc⟩ : ∃ r, jcl[a]? = some r := by rcases ha with rfl | rfl <;> exact ⟨_, rfl⟩
  rw [hc] at hw
  obtain ⟨g1, g2, g3⟩ := hK.2.2.1 a r hc ha
  refine W.anew hx hb hown (hts _ (jw_of hw rfl)) (va_AO.use g3) rfl h1 rfl (fun q => hx0 (Or.inl q)) (Nat.le_trans (Nat.mul_le_mul_right 4 (Nat.not_lt.mp fun q => hx0 (Or.inr q))) (by decide)) hRc hRs fun cA kA comp f1 f2 f3 f4 => ?_
  have hcA : cA = jdA D (30 + a) := by
    obtain ⟨_, _, _, _, _, k4⟩ := g2
    exact Option.some.inj (f1.symm.trans k4)
  subst hcA
  generalize hH1 : H.push ({ cls := jdA D (30 + a), slots := Array.replicate x.toNatClampNeg .null, vm := .none } : Cell) = H1
  have z1 : H1.size = jloc D (jnx σ) + 1 := by rw [← hH1, Array.size_push, hr.1]
  have e1 : H1[jloc D (jnx σ)]? = some (arrV (jdA D (30 + a)) x.toNatClampNeg (fun _ => .null)) := by rw [← hr.1, ← hH1, Array.getElem?_push_size, ← arrV_new]
  have o1 : ∀ q : Nat, q < jloc D (jnx σ) → H1[q]? = H[q]? := fun q hq => by rw [← hH1, Array.getElem?_push, if_neg (Nat.ne_of_lt (by rw [hr.1]; exact hq))]
  have e : jnx σ - n1 + 1 = jnx (jnG σ a x.toNatClampNeg) - n1 := by show _ = jnx σ + 1 - n1; omega
  have e' : jsl σ - s1 + x.toNatClampNeg = jsl (jnG σ a x.toNatClampNeg) - s1 := by show _ = jsl σ + x.toNatClampNeg - s1; omega
  rw [e, e', hr.1]
  have hTn : jT (jnG σ a x.toNatClampNeg) (jnx σ) = 30 + a := (jju _ _ _).1
  have hNn : jN (jnG σ a x.toNatClampNeg) (jnx σ) = x.toNatClampNeg := (jju _ _ _).1
  refine kk H1 locs ls hl (hr.new z1 o1 rfl (fun y hy => ⟨(jju _ _ _).2 y hy, (jju _ _ _).2 y hy, fun g => rfl, fun g => rfl, fun i => rfl, fun i => ?_⟩) ⟨fun ci c' hc' ht => ?_, fun t1 t2 => ?_, fun t1 t2 => ⟨hr.2.1, Nat.lt_succ_self _, by rw [hTn]; omega, ?_⟩, fun t => ?_, ?_⟩) hlo
  · show jz1 (jG σ) (jnx σ) none y i = _
    simp [jz1, hy]
  · rw [hTn] at ht
    have hl11 : ci < 11 := (List.getElem?_eq_some_iff.mp hc').1
    omega
  · rw [hTn] at t2; omega
  · rw [e1, hTn, hNn]
    have : (fun j => jv D (va_rf (jG (jnG σ a x.toNatClampNeg) (jnx σ) j))) = (fun _ => Value.null) := by
      funext j
      show jv D (va_rf (jz1 (jG σ) (jnx σ) none (jnx σ) j)) = _
      simp [jz1, va_rf, jv]
    rw [this]
  · rw [hTn] at t; omega
  · rw [hTn]; omega
end JA
