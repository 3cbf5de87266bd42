/-! a method's contract by its run; the run of the law's own method -/
theorem jlay_get (D : jD) : ∀ (as : List Value) (off i : Nat) (v : Value), (jlay as)[i]? = some (some v) → (off + i, jv D v) ∈ lv_args off (as.map (jv D)) := by
  intro as
  induction as with
  | nil => intro off i v h; simp [jlay] at h
  | cons w t ih =>
    intro off i v h
    simp only [List.map_cons, lv_args, jv_cat]
    simp only [jlay] at h
    by_cases hw : w.category = 2
    · rw [if_pos hw] at h ⊢
      match i, h with
      | 0, h =>
        simp only [List.getElem?_cons_zero] at h
        cases h
        exact List.mem_cons_self
      | 1, h => simp at h
      | j + 2, h =>
        simp only [List.getElem?_cons_succ] at h
        have h2 := ih (off + 2) j v h
        refine List.mem_cons_of_mem _ ?_
        rw [show off + (j + 2) = off + 2 + j by omega]
        exact h2
    · rw [if_neg hw] at h ⊢
      match i, h with
      | 0, h =>
        simp only [List.getElem?_cons_zero] at h
        cases h
        exact List.mem_cons_self
      | j + 1, h =>
        simp only [List.getElem?_cons_succ] at h
        have h2 := ih (off + 1) j v h
        refine List.mem_cons_of_mem _ ?_
        rw [show off + (j + 1) = off + 1 + j by omega]
        exact h2
theorem jlay_len (D : jD) (as : List Value) : (lg_sl (as.map (jv D))).length = (jlay as).length := by
  induction as with
  | nil => rfl
  | cons w t ih =>
    have h : lg_sl ((w :: t).map (jv D)) = (if (jv D w).category = 2 then [Slot.val (jv D w), Slot.second] else [Slot.val (jv D w)]) ++ lg_sl (t.map (jv D)) := by simp [lg_sl]
    rw [h, List.length_append, ih, jv_cat]
    simp only [jlay]
    by_cases hw : w.category = 2
    · rw [if_pos hw, if_pos hw]; simp; omega
    · rw [if_neg hw, if_neg hw]; simp; omega
theorem jl_entry (D : jD) {M : Nat} {as : List Value} (h : (jlay as).length ≤ jml M) : jl D ((lg_sl (as.map (jv D)) ++ List.replicate (jml M - (lg_sl (as.map (jv D))).length) Slot.unset).toArray) (jml M) (jent M as) := by
  have hl := lv_entry (as.map (jv D)) (n := jml M) (by rw [jlay_len]; exact h)
  refine ⟨hl.1, hl.2.1, by simp [jent]; omega, fun i v hv => ?_⟩
  refine hl.2.2 (i, jv D v) ?_
  unfold jent at hv
  by_cases hi : i < (jlay as).length
  · rw [List.getElem?_append_left hi] at hv
    have h2 := jlay_get D as 0 i v hv
    rw [Nat.zero_add] at h2
    exact h2
  · rw [List.getElem?_append_right (by omega)] at hv
    have h2 := List.eq_of_mem_replicate (List.mem_of_getElem? hv)
    cases h2
theorem jA_of {D : jD} {l : Launch} {f : Nat} (hB : jB1 D l f) : jA1 D l f := by
  intro d M as σ σ' r hmk hpl hlay hrun
  unfold jMet
  refine Met.ofW (cc := jbs M) (maxL := jml M) (ret := jret M) hpl rfl ?_
  intro p e s m args below meth c s₁ B hml hv
  obtain ⟨rfl, hrel, hK⟩ := hv
  have hx := B.exec
  have hb := B.bytes
  have hr := B.returns
  have hlocks := B.notSynchronized
  have hts := atoms_spec (ws := jws M) B.pre
  have C : jCtx D M p s m (as.map (jv D)).toArray meth c := ⟨hx, hb, hml, findClass_of_methodNamed B.named, fun w hw => hts w (List.mem_cons_of_mem _ hw), hK, fun h => (name_of_methodNamed B.named B.method).1.trans h⟩
  rw [lg_entry_eq]
  have key := hB d M 0 (jent M as) [] σ σ' r hrun p e (headSpec (jws M) (jrm d (jnx σ' - jnx σ) (jsl σ' - jsl σ))).room s m (as.map (jv D)).toArray below meth c (MQ below (jQc D r σ') (as.map (jv D)).toArray s (jnx σ' - jnx σ) (jsl σ' - jsl σ) (fun q => jn0 D ≤ q)) (jnx σ) (jsl σ) C (Nat.le_refl _) (Nat.le_refl _) (Nat.le_refl _) (Nat.le_refl _) (Nat.le_refl _) (Nat.le_refl _) ?_ s.heap [] _ (jl_entry D hlay) hrel (fun q h => by cases h)
  · rw [Nat.sub_self, Nat.sub_self] at key
    exact key
  · intro H locs ls pc hrel' hlo hE
    have hq : ∀ t : State, t.heap = H → s.WarmedH t.vm → jQc D r σ' (as.map (jv D)).toArray s (.returned (r.map (jv D))) t := fun t ht hW => ⟨rfl, by rw [ht]; exact hrel'.moved hW.alike⟩
    rcases hE with ⟨rfl, hd, hret⟩ | ⟨x, rfl, hd, hret⟩ | ⟨v, nm, rfl, hv, hd, hret⟩ | ⟨x, rfl, hd, hret⟩
    · exact W.vret hx hb (hr.trans hret) hq hlo hd
    · rcases hret with hret | ⟨ty, hret, hx1⟩
      · exact W.iret (v := x) hx hb (hr.trans hret) hq hlo hd
      · exact W.zret (v := x) (ty := ty) hx hb (hr.trans hret) hx1 hq hlo hd
    · refine W.aret (v := jv D v) hx hb (hr.trans hret) (Or.inl ⟨nm, rfl⟩) ?_ hq hlo hd
      rcases hv with rfl | ⟨a, rfl⟩
      · exact Or.inl rfl
      · exact Or.inr ⟨_, rfl⟩
    · exact W.lret (v := x) hx hb (hr.trans hret) hq hlo hd
theorem jsim (D : jD) (l : Launch) (f : Nat) : jB1 D l f := by
  induction f with
  | zero => intro d M pc L st σ σ' r h; cases h
  | succ f ih => exact jB_of f ih (jA_of ih)
/-- the start: the script alone -/
def jtr : List Int32 := [1, 2, 2, 2, 2, 2, 2, 2, 1, 1, 1, 1, 1, 1, 3, 1, 1, 0, 2]
def jtp : List Int32 := [2, 2, 3, 3, 3, 3, 3, 6, 1, 1, 1, 2, 2, 2, 4, 4, 4, 1, 3]
/-- without the script: the static rows and the names; whether the formatter is null -/
def jτ0 (z : Option Nat) : jS := (fun a => if a = 1 then 60 else if a = 2 then 60 else if a = 3 then 61 else 0, fun a => if a = 1 then 19 else if a = 2 then 19 else 0, fun _ _ => 0, fun g a => if a = 3 then z else none, fun a i => if a = 1 then jtr.getD i 0 else if a = 2 then jtp.getD i 0 else 0, fun _ _ => none, 16, 0)
def jσ0 (z : Option Nat) (L : Nat) (xs : Nat → Int32) : jS := (ju1 (jT (jτ0 z)) 0 60, ju1 (jN (jτ0 z)) 0 L, jI (jτ0 z), jR (jτ0 z), (fun a i => if a = 0 then xs i else jA (jτ0 z) a i), jG (jτ0 z), jnx (jτ0 z), jsl (jτ0 z))
