/-! Math's three, by the kit's own rows -/
section JMT
variable {D : jD} {M : Nat} {p : Program} {l : Launch} {e : Env} {R : Room} {s : State} {m : MethodId} {args : Array Value} {below : List Frame} {meth : Method} {c : Code} {Q : State → Prop} {n1 s1 pc n : Nat} {L : jL} {st : List Value} {σ σ1 : jS} {r : Option Value}
theorem jst2c {st : List Value} (h : 2 ≤ st.length) : ∃ v w t, st = v :: w :: t := by
  match st, h with
  | v :: w :: t, _ => exact ⟨v, w, t, rfl⟩
theorem jo_mathS (C : jCtx D M p s m args meth c) {a b d f : Nat} {k : Int} (hma : a = 5 ∨ a = 6 ∨ a = 55) (h : jchk3 M pc 38 a b k n = true) (hlen : jna a ≤ st.length) (hcs : jcs (st.drop (jna a)) ≤ 8) (h1 : jrn f d a 0 (jent a ((st.take (jna a)).reverse)) [] σ = some (r, σ1))
    (hf : d + 1 ≤ R.frames) (hlc : 36 * (d + 1) ≤ R.locals) (hRc : jnx σ - n1 ≤ R.cells) (hRs : jsl σ - s1 ≤ R.slots) (kk : jK D M p l e R s m args below meth c Q n1 s1 n L (r.toList ++ st.drop (jna a)) σ1) : jK D M p l e R s m args below meth c Q n1 s1 pc L st σ := by
  have h : (jdc M pc (.invokestatic b) 3 n && jwd k.toNat (.methodLink (jown M) b (jget a).1) && jmS a) = true := h
  simp only [Bool.and_eq_true] at h
  obtain ⟨⟨hd, hlink⟩, hmS⟩ := h
  obtain ⟨hdd, rfl⟩ := jdc_of hd
  unfold jmS at hmS
  simp only [Bool.and_eq_true, decide_eq_true_eq] at hmS
  obtain ⟨⟨hmk, hst⟩, hpar⟩ := hmS
  obtain ⟨w1, w2, w3, w4⟩ := jmk_of hmk
  obtain ⟨hx, hb, hml, hown, hts, hK, hin⟩ := C
  have hx1 := jx_of h1
  have j5 : jna 5 = 2 := rfl
  have j6 : jna 6 = 2 := rfl
  have j55 : jna 55 = 2 := rfl
  have hlen2 : 2 ≤ st.length := by rcases hma with rfl | rfl | rfl <;> exact hlen
  obtain ⟨v, w, t, rfl⟩ := jst2c hlen2
  have rm : ∀ (ls : Array Slot), ((t.map (jv D)).map fun v => v.category).sum + 15 ≤ R.locals := by
    intro ls
    rw [jcs_sum]
    have hc8 : jcs t ≤ 8 := by rcases hma with rfl | rfl | rfl <;> exact hcs
    omega
  rcases hma with rfl | rfl | rfl
  · have hx1 : jx d 5 0 (jent 5 [w, v]) [] σ = some (r, σ1) := hx1
    cases w with
    | int x =>
      cases v with
      | int y =>
        have h2 : jx d 5 0 [some (.int x), some (.int y)] [] σ = some (r, σ1) := hx1
        rw [jx_min] at h2
        cases h2
        intro H locs ls hl hr hlo
        have kk := kk H locs ls hl hr hlo
        exact va_mmin hx hb (by rw [hml]; exact hl.1.symm) hown (hts _ (jw_of hlink rfl)) (hts _ (jw_of hst rfl)) (hts _ w2) (hts _ w1) (by omega) (by have := rm ls; omega) hRc hRs hdd kk
      | _ => exfalso; have h2 : jx d 5 1 _ _ σ = some (r, σ1) := (jx_iload (M := 5) (pc := 0) (x := x) rfl rfl).symm.trans hx1; rw [jx_un] at h2; cases h2
    | _ => exfalso; rw [jx_un] at hx1; cases hx1
  · have hx1 : jx d 6 0 (jent 6 [w, v]) [] σ = some (r, σ1) := hx1
    cases w with
    | int x =>
      cases v with
      | int y =>
        have h2 : jx d 6 0 [some (.int x), some (.int y)] [] σ = some (r, σ1) := hx1
        rw [jx_max] at h2
        cases h2
        intro H locs ls hl hr hlo
        have kk := kk H locs ls hl hr hlo
        exact va_mmax hx hb (by rw [hml]; exact hl.1.symm) hown (hts _ (jw_of hlink rfl)) (hts _ (jw_of hst rfl)) (hts _ w2) (hts _ w1) (by omega) (by have := rm ls; omega) hRc hRs hdd kk
      | _ => exfalso; have h2 : jx d 6 1 _ _ σ = some (r, σ1) := (jx_iload (M := 6) (pc := 0) (x := x) rfl rfl).symm.trans hx1; rw [jx_un] at h2; cases h2
    | _ => exfalso; rw [jx_un] at hx1; cases hx1
  · have hx1 : jx d 55 0 (jent 55 [w, v]) [] σ = some (r, σ1) := hx1
    cases w with
    | long x =>
      cases v with
      | long y =>
        have h2 : jx d 55 0 [some (.long x), none, some (.long y), none] [] σ = some (r, σ1) := hx1
        rw [jx_lmin] at h2
        cases h2
        intro H locs ls hl hr hlo
        have kk := kk H locs ls hl hr hlo
        intro T hT X
        obtain ⟨vm', X', sp⟩ := va_min_longV X hx hown (hts _ (jw_of hlink rfl)) (hts _ (jw_of hst rfl)) (hts _ w2) (hts _ w1) (g := F0 m pc ls (.long y :: .long x :: t.map (jv D))) rfl (by rw [hml]; exact hl.1) (a := x) (b := y) (rest := t.map (jv D)) rfl (by rw [hb]; exact hdd) (by omega) (by show 2 * 0 + _ + 15 ≤ _; have := rm ls; omega) hRc hRs
        obtain ⟨t2, a1, b1⟩ := kk (T.setVm vm') hT X'
        exact ⟨t2, sp t2 a1, b1⟩
      | _ => exfalso; have h2 : jx d 55 1 _ _ σ = some (r, σ1) := (jx_lload (M := 55) (pc := 0) (x := x) rfl rfl).symm.trans hx1; rw [jx_un] at h2; cases h2
    | _ => exfalso; rw [jx_un] at hx1; cases hx1
end JMT
