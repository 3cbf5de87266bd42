/-! fields, arrays, new cells -/
section JH
variable {D : jD} {M : Nat} {p : Program} {l : Launch} {e : Env} {R : Room} {s : State} {m : MethodId} {args : Array Value} {below : List Frame} {meth : Method} {c : Code} {Q : State → Prop} {n1 s1 pc n : Nat} {L : jL} {st : List Value} {σ : jS}
theorem jfl_of {M a b : Nat} {k : Int} (h : jfl M a b k = true) : ∃ r, jcl[a / 64]? = some r ∧ a % 64 < r.2.2 ∧ Jvm.Cond.fieldLink (jown M) b (r.2.1 (a % 64)).1 (r.2.1 (a % 64)).2.1 (r.2.1 (a % 64)).2.2.1 ∈ jw := by
  unfold jfl at h
  split at h
  · rename_i r hr
    rw [Bool.and_eq_true] at h
    exact ⟨r, hr, of_decide_eq_true h.1, jw_of h.2 rfl⟩
  · cases h
theorem j64 (a : Nat) : 64 * (a / 64) + a % 64 = a := Nat.div_add_mod a 64
theorem jo_get (C : jCtx D M p s m args meth c) {a b : Nat} {k : Int} (h : jchk2 M pc 25 a b k n = true) {q : Nat} (hT : jT σ q = 1 + a / 64) (kk : jK D M p l e R s m args below meth c Q n1 s1 n L (jfv σ a q :: st) σ) : jK D M p l e R s m args below meth c Q n1 s1 pc L (.ref q :: st) σ := by
  intro H locs ls hl hr hlo
  have kk := kk H locs ls hl hr hlo
  have h : (jdc M pc (.getfield b) 3 n && jfl M a b k) = true := h
  rw [Bool.and_eq_true] at h
  obtain ⟨h1, rfl⟩ := jdc_of h.1
  obtain ⟨r, hc, hlt, hw⟩ := jfl_of h.2
  obtain ⟨hx, hb, hml, hown, hts, hK, hin⟩ := C
  obtain ⟨-, -, cell, q1, q2, q3, q4⟩ := (hr.2.2 q).1 _ r hc hT
  obtain ⟨hS, hfc, kC, hkC, hkind⟩ := hK.1 _ r hc
  obtain ⟨cf, kf, fi, f, hi, hsl⟩ := hS (a % 64) hlt
  refine W.getf hx hb hown (hts _ hw) hi (u_facts hfc hkC (u_lays hts (jcl_ws hc).1 hlt) hi).1 q1 (by rw [q3]; exact fun h => by cases h) (v := jv D (jfv σ a q)) ?_ rfl rfl h1 kk
  rw [hsl, q4 _ hlt]
  show some (jv D (jfv σ (64 * (a / 64) + a % 64) q)) = _
  rw [j64]
/-- one object's field is another: the cells stand -/
theorem jRel.put {σ' : jS} {H H' : Heap} (hr : jRel D σ s H) {a : Nat} {r : vw_C} (hc : jcl[a / 64]? = some r) (hlt : a % 64 < r.2.2) {q : Nat} (hT : jT σ q = 1 + a / 64) {v : Value} (iS : Nat → Nat) (hiS : iS = D.2.1 (a / 64)) (hap : ∀ x y, x < r.2.2 → y < r.2.2 → x ≠ y → iS x ≠ iS y)
    {cell : Cell} (q1 : H[jloc D q]? = some cell) (e1 : H'[jloc D q]? = some (cell.setSlot (iS (a % 64)) (jv D v))) (e2 : H'.size = H.size) (e3 : ∀ x, x ≠ jloc D q → H'[x]? = H[x]?)
    (hT' : jT σ' = jT σ) (hN' : jN σ' = jN σ) (hA' : jA σ' = jA σ) (hG' : jG σ' = jG σ) (hx' : jnx σ' = jnx σ) (ho : ∀ g b, ¬ (g = a ∧ b = q) → jfv σ' g b = jfv σ g b) (ho2 : ∀ g b, b ≠ q → jI σ' g b = jI σ g b ∧ jR σ' g b = jR σ g b) (hv : jfv σ' a q = v) : jRel D σ' s H' := by
  subst hiS
  obtain ⟨h1, h2, h3⟩ := hr
  refine ⟨by rw [e2, hx']; exact h1, by rw [hx']; exact h2, fun b => ?_⟩
  obtain ⟨b1, b2, b3⟩ := (h3 q).1 _ r hc hT
  by_cases hbq : b = q
  · subst hbq
    have hne : ∀ t, jT σ b = t → t = 1 + a / 64 := fun t h => by rw [← h]; exact hT
    have hl11 : a / 64 < 11 := (List.getElem?_eq_some_iff.mp hc).1
    refine ⟨fun ci c' hc' ht => ?_, fun t1 t2 => ?_, fun t1 t2 => ?_, fun t => ?_, ?_⟩
    · rw [hT'] at ht
      have hci : ci = a / 64 := by rw [hT] at ht; omega
      subst hci
      have : c' = r := Option.some.inj (hc'.symm.trans hc)
      subst this
      refine ⟨b1, by rw [hx']; exact b2, ?_⟩
      obtain ⟨cell', g1, g2, g3, g4⟩ := b3
      have : cell' = cell := Option.some.inj (g1.symm.trans q1)
      subst this
      refine t_OB.to (V := updV (fun j => jv D (jfv σ (64 * (a / 64) + j) b)) (a % 64) (jv D v)) ⟨_, e1, g2, g3, t_set g4 hap hlt _⟩ (fun j hj => ?_)
      by_cases hja : j = a % 64
      · subst hja
        simp only [updV, if_pos]
        rw [j64, hv]
      · simp only [updV, if_neg hja]
        rw [ho _ _ (fun z => hja (by have := z.1; omega))]
    · rw [hT', hT] at t1; omega
    · rw [hT', hT] at t1; omega
    · rw [hT', hT] at t; omega
    · rw [hT', hT]; omega
  · refine (h3 b).kept (by rw [hT']) (by rw [hN']) (fun g => (ho2 g b hbq).1) (fun g => (ho2 g b hbq).2) (fun i => by rw [hA']) (fun i => by rw [hG']) (by rw [hx']; exact Nat.le_refl _) (fun hcase => e3 _ ?_) (fun x _ hx => e3 x (fun z => hx (by rw [z]; exact jloc_ge b1)))
    rcases hcase with ⟨c1, c2⟩ | ⟨c1, c2⟩
    · exact fun z => hbq (jloc_inj c1 b1 z)
    · exact fun z => absurd (jloc_ge (D := D) b1) (by rw [← z]; omega)
theorem jsI_o {σ : jS} {a q : Nat} {x : Int32} : jT (jsI σ a q x) = jT σ ∧ jN (jsI σ a q x) = jN σ ∧ jA (jsI σ a q x) = jA σ ∧ jG (jsI σ a q x) = jG σ ∧ jnx (jsI σ a q x) = jnx σ ∧ jR (jsI σ a q x) = jR σ ∧ jsl (jsI σ a q x) = jsl σ ∧ ∀ g b, jI (jsI σ a q x) g b = if g = a ∧ b = q then x else jI σ g b := ⟨rfl, rfl, rfl, rfl, rfl, rfl, rfl, fun _ _ => rfl⟩
theorem jsR_o {σ : jS} {a q : Nat} {x : Option Nat} : jT (jsR σ a q x) = jT σ ∧ jN (jsR σ a q x) = jN σ ∧ jA (jsR σ a q x) = jA σ ∧ jG (jsR σ a q x) = jG σ ∧ jnx (jsR σ a q x) = jnx σ ∧ jI (jsR σ a q x) = jI σ ∧ jsl (jsR σ a q x) = jsl σ ∧ ∀ g b, jR (jsR σ a q x) g b = if g = a ∧ b = q then x else jR σ g b := ⟨rfl, rfl, rfl, rfl, rfl, rfl, rfl, fun _ _ => rfl⟩
theorem jfits {g : Nat} {v : Value} (h : (∃ x, v = .int x ∧ (jkd g = 0 ∨ (jkd g = 2 ∧ (x = 0 ∨ x = 1)))) ∨ (jkd g = 1 ∧ (v = .null ∨ ∃ a, v = .ref a))) (hq : jty g = .int ∨ jty g = .boolean ∨ jkind (jty g) = 1) : narrow (jty g) v = v ∧ fits (jty g) v = true := by
  unfold jkd at h
  rcases hq with hq | hq | hq
  · rw [hq] at h ⊢
    rcases h with ⟨x, rfl, -⟩ | ⟨h, -⟩
    · exact ⟨rfl, rfl⟩
    · cases h
  · rw [hq] at h ⊢
    rcases h with ⟨x, rfl, h | ⟨-, rfl | rfl⟩⟩ | ⟨h, -⟩
    · cases h
    · exact ⟨rfl, rfl⟩
    · exact ⟨rfl, rfl⟩
    · cases h
  · rcases h with ⟨x, rfl, h | ⟨h, -⟩⟩ | ⟨-, h⟩
    · rw [hq] at h; cases h
    · rw [hq] at h; cases h
    · cases ht : jty g with
      | object C => rcases h with rfl | ⟨a, rfl⟩ <;> exact ⟨rfl, rfl⟩
      | array C => rcases h with rfl | ⟨a, rfl⟩ <;> exact ⟨rfl, rfl⟩
      | _ => rw [ht] at hq; cases hq
theorem jtyq : (List.range 704).all (fun g => decide (jty g = .int) || decide (jty g = .boolean) || decide (jkind (jty g) = 1)) = true := by decide +kernel
theorem jty_ok {a : Nat} {r : vw_C} (hc : jcl[a / 64]? = some r) : jty a = .int ∨ jty a = .boolean ∨ jkind (jty a) = 1 := by
  have hl11 : a / 64 < 11 := (List.getElem?_eq_some_iff.mp hc).1
  have h := List.all_eq_true.mp jtyq a (List.mem_range.mpr (by omega))
  simp only [Bool.or_eq_true, decide_eq_true_eq] at h
  rcases h with (h | h) | h
  · exact Or.inl h
  · exact Or.inr (Or.inl h)
  · exact Or.inr (Or.inr h)
theorem jty_p {a : Nat} {r : vw_C} (hc : jcl[a / 64]? = some r) (hlt : a % 64 < r.2.2) : parseFieldDescriptor (r.2.1 (a % 64)).2.2.1 = some (jty a) := by
  have h := jcl_ty hc (a % 64) hlt
  rw [j64] at h
  exact h
theorem jfin_of {a : Nat} {r : vw_C} (hc : jcl[a / 64]? = some r) : jfin a = (r.2.1 (a % 64)).2.2.2 ∧ jfo a = (r.2.1 (a % 64)).1 := by
  unfold jfin jfo
  rw [hc]
  exact ⟨rfl, rfl⟩
/-- a store into a field, of whatever kind: the machine's step -/
theorem jo_putW (C : jCtx D M p s m args meth c) {a b : Nat} {k : Int} {op : Nat} (hop : op = 26 ∨ op = 27) (h : jchk2 M pc op a b k n = true) {q : Nat} (hT : jT σ q = 1 + a / 64) {v : Value} (hv : (∃ x, v = .int x ∧ (jkd a = 0 ∨ (jkd a = 2 ∧ (x = 0 ∨ x = 1)))) ∨ (jkd a = 1 ∧ (v = .null ∨ ∃ a, v = .ref a)))
    {σ' : jS} (hT' : jT σ' = jT σ) (hN' : jN σ' = jN σ) (hA' : jA σ' = jA σ) (hG' : jG σ' = jG σ) (hx' : jnx σ' = jnx σ) (hs' : jsl σ' = jsl σ) (ho : ∀ g b, ¬ (g = a ∧ b = q) → jfv σ' g b = jfv σ g b) (ho2 : ∀ g b, b ≠ q → jI σ' g b = jI σ g b ∧ jR σ' g b = jR σ g b) (hv' : jfv σ' a q = v)
    (kk : jK D M p l e R s m args below meth c Q n1 s1 n L st σ') : jK D M p l e R s m args below meth c Q n1 s1 pc L (v :: .ref q :: st) σ := by
  intro H locs ls hl hr hlo
  have hq : jdc M pc (.putfield b) 3 n = true ∧ jfl M a b k = true ∧ (jfin a = false ∨ (jfin a = true ∧ jfo a = jown M ∧ (jget M).1.name = "<init>")) := by
    rcases hop with rfl | rfl
    · have h : (jdc M pc (.putfield b) 3 n && jfl M a b k && !(jfin a)) = true := h
      simp only [Bool.and_eq_true, Bool.not_eq_true'] at h
      exact ⟨h.1.1, h.1.2, Or.inl h.2⟩
    · have h : (jdc M pc (.putfield b) 3 n && jfl M a b k && jfin a && decide (jfo a = jown M) && decide ((jget M).1.name = "<init>")) = true := h
      simp only [Bool.and_eq_true, decide_eq_true_eq] at h
      exact ⟨h.1.1.1.1, h.1.1.1.2, Or.inr ⟨h.1.1.2, h.1.2, h.2⟩⟩
  obtain ⟨hd, hf, hfin⟩ := hq
  obtain ⟨h1, rfl⟩ := jdc_of hd
  obtain ⟨r, hc, hlt, hw⟩ := jfl_of hf
  obtain ⟨hx, hb, hml, hown, hts, hK, hin⟩ := C
  obtain ⟨b1, -, cell, q1, q2, q3, q4⟩ := (hr.2.2 q).1 _ r hc hT
  obtain ⟨hS, hfc, kC, hkC, hkind⟩ := hK.1 _ r hc
  obtain ⟨cf, kf, fi, f, hi, hsl⟩ := hS (a % 64) hlt
  obtain ⟨f1, f2⟩ := jfin_of hc
  have hiw := (jcl_ws hc).1
  have hap : ∀ x y, x < r.2.2 → y < r.2.2 → x ≠ y → (D.2.1 (a / 64)) x ≠ (D.2.1 (a / 64)) y := by
    intro x y hx1 hy1 hne
    obtain ⟨_, _, _, fa, hia, ea⟩ := hS x hx1
    obtain ⟨_, _, _, fb, hib, eb⟩ := hS y hy1
    rw [← ea, ← eb]
    refine u_apart (u_lays hts hiw hx1) (u_lays hts hiw hy1) hia hib ?_
    rw [(State.fieldFound?_type hia (jcl_ty hc x hx1)).1, (State.fieldFound?_type hib (jcl_ty hc y hy1)).1]
    exact jcl_nm hc x hx1 y hy1 hne
  have hfit0 := jfits hv (jty_ok hc)
  have hfit : narrow (jty a) (jv D v) = jv D v ∧ fits (jty a) (jv D v) = true := by
    rcases hv with ⟨x, rfl, -⟩ | ⟨hk1, rfl | ⟨y, rfl⟩⟩
    · exact hfit0
    · exact hfit0
    · unfold jkd at hk1
      cases ht : jty a with
      | object C => exact ⟨rfl, rfl⟩
      | array C => exact ⟨rfl, rfl⟩
      | _ => rw [ht] at hk1; cases hk1
  have hst := (u_facts hfc hkC (u_lays hts hiw hlt) hi).1
  have fin : ∀ H' : Heap, H'[jloc D q]? = some (cell.setSlot f.slot (jv D v)) → H'.size = H.size → (∀ x, x ≠ jloc D q → H'[x]? = H[x]?) → W p l e R s m args below meth c H' (locs ++ [⟨jloc D q, f.slot⟩]) (jnx σ - n1) (jsl σ - s1) Q (F0 m (pc + 3) ls (st.map (jv D))) := by
    intro H' e1 e2 e3
    rw [hsl] at e1
    rw [← hx', ← hs']
    refine kk H' _ ls hl (hr.put hc hlt hT (D.2.1 (a / 64)) rfl hap q1 e1 e2 e3 hT' hN' hA' hG' hx' ho ho2 hv') (fun z hz => ?_)
    rcases List.mem_append.mp hz with hz | hz
    · exact hlo z hz
    · rw [List.mem_singleton.mp hz]; exact jloc_ge b1
  have hlay := hts _ (hiw _ (u_in_lay hlt))
  unfold u_lay at hlay
  rcases hfin with hfin | ⟨hfin, hfo, hni⟩
  · rw [if_neg (by rw [← f1, hfin]; decide)] at hlay
    have h6 := u_store hfc hkC hkind hlay hi (jty_p hc hlt) hfit.1 hfit.2
    exact W.putK hx hb (f := f) ⟨hown, hts _ hw, ⟨_, _, _, hi⟩, hst⟩ (by rw [q2]; exact h6) q1 q3 (by rw [hsl]; exact k2_hasslot (q4 _ hlt)) rfl rfl h1 fin
  · rw [if_pos (by rw [← f1]; exact hfin)] at hlay
    have hcf : m.cls = cf := by
      obtain ⟨_, _, c', _, _, _, -, -, hf', -, -, -, hown2, -⟩ := Cond.laysFinal_spec hlay
      have e1 : c' = cf := by have := hi.symm.trans hf'; simp at this; exact this.1.symm
      rw [← f2, hfo] at hown2
      rw [← e1]; exact Option.some.inj (hown.symm.trans hown2)
    have h6 := u_fits hfc hkC hkind (Or.inr hlay) hi (jty_p hc hlt) hfit.1 hfit.2
    exact W.putFinK hx hb hown (hts _ hw) hi hst hcf (hin hni) (by rw [q2]; exact h6) q1 q3 (by rw [hsl]; exact k2_hasslot (q4 _ hlt)) rfl rfl h1 fin
theorem jo_putI (C : jCtx D M p s m args meth c) {a b : Nat} {k : Int} {op : Nat} (hop : op = 26 ∨ op = 27) (h : jchk2 M pc op a b k n = true) {q : Nat} {x : Int32} (hq : jT σ q = 1 + a / 64 ∧ (jkd a = 0 ∨ (jkd a = 2 ∧ (x = 0 ∨ x = 1)))) (kk : jK D M p l e R s m args below meth c Q n1 s1 n L st (jsI σ a q x)) : jK D M p l e R s m args below meth c Q n1 s1 pc L (.int x :: .ref q :: st) σ := by
  have hk : ¬ jkd a = 1 := by rcases hq.2 with h | h <;> omega
  refine jo_putW C hop h hq.1 (Or.inl ⟨x, rfl, hq.2⟩) (σ' := jsI σ a q x) rfl rfl rfl rfl rfl rfl (fun g b hgb => ?_) (fun g b hb => ⟨?_, rfl⟩) ?_ kk
  · simp only [jfv, jsI_o.2.2.2.2.2.2.2, jsI_o.2.2.2.2.2.1, if_neg hgb]
  · rw [jsI_o.2.2.2.2.2.2.2, if_neg (fun z => hb z.2)]
  · simp only [jfv, if_neg hk, jsI_o.2.2.2.2.2.2.2]
    simp
theorem jo_putR (C : jCtx D M p s m args meth c) {a b : Nat} {k : Int} {op : Nat} (hop : op = 26 ∨ op = 27) (h : jchk2 M pc op a b k n = true) {q : Nat} {x : Option Nat} (hq : jT σ q = 1 + a / 64 ∧ jkd a = 1) (kk : jK D M p l e R s m args below meth c Q n1 s1 n L st (jsR σ a q x)) : jK D M p l e R s m args below meth c Q n1 s1 pc L (va_rf x :: .ref q :: st) σ := by
  refine jo_putW C hop h hq.1 (Or.inr ⟨hq.2, by cases x with | none => exact Or.inl rfl | some y => exact Or.inr ⟨y, rfl⟩⟩) (σ' := jsR σ a q x) rfl rfl rfl rfl rfl rfl (fun g b hgb => ?_) (fun g b hb => ⟨rfl, ?_⟩) ?_ kk
  · simp only [jfv, jsR_o.2.2.2.2.2.2.2, jsR_o.2.2.2.2.2.1, if_neg hgb]
  · rw [jsR_o.2.2.2.2.2.2.2, if_neg (fun z => hb z.2)]
  · simp only [jfv, if_pos hq.2, jsR_o.2.2.2.2.2.2.2]
    simp
end JH
