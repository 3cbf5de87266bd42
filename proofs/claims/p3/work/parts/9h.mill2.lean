/-! mill: the next window, class and reference; done -/
section MI2
variable {d : Nat} {σ : jS} {s : AS} {cr cp : Nat} {qr qp : Nat → Nat}
/-- the bindings of the window that was found last -/
def lastB (e : Int32) (σ : jS) (R M : Nat) (s : AS) (p i r : Nat) : Prop := ∀ x, winF s.W (s.rs.getD r ar0).o1 (s.rs.getD r ar0).o2.length (s.ps.getD p []) i = some x → RB e σ R M x ∧ IB x.1 ∧ IC x.2
theorem c107 (hS : SH σ) (hs : WFs s) (hC : CX s cr cp qr qp σ) {p : Nat} (hp : p < s.ps.length) : ∃ σ', FR [39, 40] σ σ' ∧ jx (d + 5) 107 0 [some (.ref 16), some (.ref (qp p)), none, none, none] [] σ = some (some (.int (match fW s p with | some z => nI (z.1 * 24 + z.2) | none => -4)), σ') ∧ (∀ z, fW s p = some z → lastB (-1) σ' 39 40 s p z.1 z.2) := by
  have l24 := (hs.fp _ (mem_ps hp)).1
  have hr24 := hs.r24
  have C : ∀ {υ : jS}, FR [39, 40] σ υ → CX s cr cp qr qp υ := fun F => hC.scr F (by decide)
  have lA : ∀ {υ : jS}, FR [39, 40] σ υ → jI υ 257 (qp p) = nI (s.ps.getD p []).length := fun F => ((C F).ps p hp).1.2.2.2.2.2.1
  have r8 : ∀ {υ : jS}, SH υ → (jR υ 580 16).getD 0 = 38 := fun h => by rw [sR_580_16 h]; rfl
  have n8 : ∀ {υ : jS}, SH υ → jR υ 580 16 ≠ none := fun h => by rw [sR_580_16 h]; exact fun z => nomatch z
  have LR : ∀ i, i < (s.ps.getD p []).length → ∀ f r υ l4, r + f = s.rs.length → FR [39, 40] σ υ → ∃ υ', FR [39, 40] σ υ' ∧ (match fR s p i f r with | some r' => jx (d + 5) 107 12 [some (.ref 16), some (.ref (qp p)), some (.int (nI i)), some (.int (nI r)), l4] [] υ = some (some (.int (nI (i * 24 + r'))), υ') ∧ lastB (-1) υ' 39 40 s p i r' | none => ∃ l3' l4', jx (d + 5) 107 12 [some (.ref 16), some (.ref (qp p)), some (.int (nI i)), some (.int (nI r)), l4] [] υ = jx (d + 5) 107 2 [some (.ref 16), some (.ref (qp p)), some (.int (nI (i + 1))), l3', l4'] [] υ') := by
    intro i hi f
    induction f with
    | zero =>
      intro r υ l4 hr F
      have e : r = s.rs.length := by omega
      subst e
      refine ⟨υ, F, some (.int (nI s.rs.length)), l4, ?_⟩
      rw [k107_12 (sT_16 (F.sh hS)), (C F).nr, if_pos (nI_le (Nat.le_refl _) (by omega)), k107_75, ← nI_succ]
    | succ f ih =>
      intro r υ l4 hr F
      have hlt : r < s.rs.length := by omega
      have hSu := F.sh hS
      have hCu := C F
      have c1 := c81y (d := d + 4) hSu hCu hs hlt
      have crr := hCu.rs r hlt
      have u1 : jT υ (qr r) = 6 := by obtain ⟨⟨tp, hU, -⟩, -⟩ := crr; exact hU.1
      have f11 := crr.2.2.2.2.1
      have f12 := crr.2.2.2.2.2
      have to25 : jx (d + 5) 107 12 [some (.ref 16), some (.ref (qp p)), some (.int (nI i)), some (.int (nI r)), l4] [] υ = if (if (s.rs.getD r ar0).on = true then (1 : Int32) else 0) = 0 then jx (d + 5) 107 69 [some (.ref 16), some (.ref (qp p)), some (.int (nI i)), some (.int (nI r)), some (.ref (qr r))] [] υ else jx (d + 5) 107 40 [some (.ref 16), some (.ref (qp p)), some (.int (nI i)), some (.int (nI r)), some (.ref (qr r))] [] υ := by
        rw [k107_12 (sT_16 hSu), hCu.nr, if_neg (nI_ge (by omega) (by omega)), k107_20 (sT_16 hSu), c1]
        simp only [Option.bind_some, Option.toList_some, List.cons_append, List.nil_append]
        rw [k107_25R u1, f12]
      have nxt : ∀ {υ' : jS} {v : Option Value}, hitB s p i r = false → FR [39, 40] σ υ' → jx (d + 5) 107 12 [some (.ref 16), some (.ref (qp p)), some (.int (nI i)), some (.int (nI r)), l4] [] υ = jx (d + 5) 107 69 [some (.ref 16), some (.ref (qp p)), some (.int (nI i)), some (.int (nI r)), v] [] υ' → ∃ υ'', FR [39, 40] σ υ'' ∧ (match fR s p i (f + 1) r with | some r' => jx (d + 5) 107 12 [some (.ref 16), some (.ref (qp p)), some (.int (nI i)), some (.int (nI r)), l4] [] υ = some (some (.int (nI (i * 24 + r'))), υ'') ∧ lastB (-1) υ'' 39 40 s p i r' | none => ∃ l3' l4', jx (d + 5) 107 12 [some (.ref 16), some (.ref (qp p)), some (.int (nI i)), some (.int (nI r)), l4] [] υ = jx (d + 5) 107 2 [some (.ref 16), some (.ref (qp p)), some (.int (nI (i + 1))), l3', l4'] [] υ'') := fun {υ' v} hh F' he => by
        obtain ⟨υ'', F2, r2⟩ := ih (r + 1) υ' v (by omega) F'
        refine ⟨υ'', F2, ?_⟩
        have e1 : fR s p i (f + 1) r = fR s p i f (r + 1) := by
          rw [fR, if_neg (by rw [hh]; decide)]
        rw [e1, he, k107_69, ← nI_succ]
        exact r2
      by_cases hon : (s.rs.getD r ar0).on = true
      · by_cases hsn : sndA (s.rs.getD r ar0)
        · obtain ⟨υ1, e1, F1, w1⟩ := c97 (d := d) hSu hs hCu hp hlt (pl := i) (by omega)
          have F1' := F.trans F1
          have to59 : ∀ v : Int32, (if (winF s.W (s.rs.getD r ar0).o1 (s.rs.getD r ar0).o2.length (s.ps.getD p []) i).isSome = true then (1 : Int32) else 0) = v → jx (d + 5) 107 12 [some (.ref 16), some (.ref (qp p)), some (.int (nI i)), some (.int (nI r)), l4] [] υ = if v = 0 then jx (d + 5) 107 69 [some (.ref 16), some (.ref (qp p)), some (.int (nI i)), some (.int (nI r)), some (.ref (qr r))] [] υ1 else jx (d + 5) 107 62 [some (.ref 16), some (.ref (qp p)), some (.int (nI i)), some (.int (nI r)), some (.ref (qr r))] [] υ1 := fun v ev => by
            rw [to25, if_pos hon, if_neg (by decide), k107_40R u1, f11, if_pos hsn, if_neg (by decide), k107_48R (sT_16 hSu) (n8 hSu) (by rw [r8 hSu]; exact sT_38 hSu), r8 hSu, e1, ev]
            simp only [Option.bind_some, Option.toList_some, List.cons_append, List.nil_append]
            rw [k107_59]
          cases hw : winF s.W (s.rs.getD r ar0).o1 (s.rs.getD r ar0).o2.length (s.ps.getD p []) i with
          | none =>
            rw [hw] at to59
            refine nxt ?_ F1' ((to59 0 rfl).trans (if_pos rfl))
            unfold hitB
            rw [hw]
            simp
          | some x =>
            rw [hw] at to59
            have hh : hitB s p i r = true := by
              unfold hitB
              rw [hw, hon, decide_eq_true hsn]
              rfl
            have e2 : fR s p i (f + 1) r = some r := by rw [fR, if_pos hh]
            refine ⟨υ1, F1', ?_⟩
            rw [e2]
            refine ⟨?_, w1⟩
            rw [to59 1 rfl, if_neg (by decide), k107_62, show (24 : Int32) = nI 24 from rfl, nmul, nadd]
        · refine nxt (v := some (.ref (qr r))) ?_ F ?_
          · unfold hitB
            rw [decide_eq_false hsn]
            simp
          · rw [to25, if_pos hon, if_neg (by decide), k107_40R u1, f11, if_neg hsn, if_pos rfl]
      · refine nxt (v := some (.ref (qr r))) ?_ F ?_
        · unfold hitB
          rw [Bool.eq_false_iff.mpr hon]
          rfl
        · rw [to25, if_neg hon, if_pos rfl]
  have L : ∀ f i υ l3 l4, i + f = (s.ps.getD p []).length → FR [39, 40] σ υ → ∃ υ', FR [39, 40] σ υ' ∧ jx (d + 5) 107 2 [some (.ref 16), some (.ref (qp p)), some (.int (nI i)), l3, l4] [] υ = some (some (.int (match fP s p f i with | some z => nI (z.1 * 24 + z.2) | none => -4)), υ') ∧ (∀ z, fP s p f i = some z → lastB (-1) υ' 39 40 s p z.1 z.2) := by
    intro f
    induction f with
    | zero =>
      intro i υ l3 l4 hi F
      refine ⟨υ, F, ?_, fun z hz => by cases hz⟩
      have e : i = (s.ps.getD p []).length := by omega
      rw [k107_2 ((C F).ps p hp).1.1, lA F, if_pos (nI_le (by omega) (by omega)), k107_81]
      rfl
    | succ f ih =>
      intro i υ l3 l4 hi F
      obtain ⟨υ1, F1, r1⟩ := LR i (by omega) s.rs.length 0 υ l4 (by omega) F
      have st : jx (d + 5) 107 2 [some (.ref 16), some (.ref (qp p)), some (.int (nI i)), l3, l4] [] υ = jx (d + 5) 107 12 [some (.ref 16), some (.ref (qp p)), some (.int (nI i)), some (.int (nI 0)), l4] [] υ := by
        rw [k107_2 ((C F).ps p hp).1.1, lA F, if_neg (nI_ge (by omega) (by omega)), k107_10]
        rfl
      rw [st]
      cases hr : fR s p i s.rs.length 0 with
      | some r =>
        rw [hr] at r1
        have e : fP s p (f + 1) i = some (i, r) := by rw [fP, hr]
        refine ⟨υ1, F1, ?_, fun z hz => ?_⟩
        · rw [e]; exact r1.1
        · rw [e, Option.some_inj] at hz
          subst hz
          exact r1.2
      | none =>
        rw [hr] at r1
        obtain ⟨l3', l4', r1⟩ := r1
        have e : fP s p (f + 1) i = fP s p f (i + 1) := by rw [fP, hr]
        obtain ⟨υ2, F2, e2, q2⟩ := ih (i + 1) υ1 l3' l4' (by omega) F1
        exact ⟨υ2, F2, by rw [e, r1]; exact e2, by rw [e]; exact q2⟩
  rw [k107_0]
  exact L (s.ps.getD p []).length 0 σ none none (by omega) (FR.refl _ σ)
theorem c189 (hS : SH σ) (hs : WFs s) (hM : CM s σ) {p i : Nat} (hp : p < s.ps.length) (hi : i < (s.ps.getD p []).length) : ∃ σ', FR [76, 77] σ σ' ∧ jx (d + 4) 189 0 [some (.ref 47), some (.int (nI p)), some (.int (nI i)), none] [] σ = some (some (.int (match fR s p i s.rs.length 0 with | some r => nI r | none => -4)), σ') ∧ (∀ r, fR s p i s.rs.length 0 = some r → lastB (-4) σ' 76 77 s p i r) := by
  have l24 := (hs.fp _ (mem_ps hp)).1
  have hr24 := hs.r24
  have C : ∀ {υ : jS}, FR [76, 77] σ υ → CM s υ := fun F => hM.w7 hs F
  have L : ∀ f r υ, r + f = s.rs.length → FR [76, 77] σ υ → ∃ υ', FR [76, 77] σ υ' ∧ jx (d + 4) 189 2 [some (.ref 47), some (.int (nI p)), some (.int (nI i)), some (.int (nI r))] [] υ = some (some (.int (match fR s p i f r with | some r => nI r | none => -4)), υ') ∧ (∀ r', fR s p i f r = some r' → lastB (-4) υ' 76 77 s p i r') := by
    intro f
    induction f with
    | zero =>
      intro r υ hr F
      have e : r = s.rs.length := by omega
      subst e
      refine ⟨υ, F, ?_, fun z hz => by cases hz⟩
      rw [k189_2 (sT_47 (F.sh hS)), (C F).nr, if_pos (nI_le (Nat.le_refl _) (by omega)), k189_45]
      rfl
    | succ f ih =>
      intro r υ hr F
      have hlt : r < s.rs.length := by omega
      have hSu := F.sh hS
      have hMu := C F
      have mr := hMu.rs r hlt
      have m63 := mr.2.2.2.1
      have q8 : (jR υ 658 47).getD 0 = 63 := by rw [sR_658_47 hSu]; rfl
      have q9 : jR υ 658 47 ≠ none := by rw [sR_658_47 hSu]; exact fun z => nomatch z
      have c4 := c164 (d := d) hSu (r := r) (by omega) (hs.fr _ (mem_rs hlt)) mr
      have to10 : jx (d + 4) 189 2 [some (.ref 47), some (.int (nI p)), some (.int (nI i)), some (.int (nI r))] [] υ = if (if (s.rs.getD r ar0).on = true then (1 : Int32) else 0) = 0 then jx (d + 4) 189 39 [some (.ref 47), some (.int (nI p)), some (.int (nI i)), some (.int (nI r))] [] υ else jx (d + 4) 189 19 [some (.ref 47), some (.int (nI p)), some (.int (nI i)), some (.int (nI r))] [] υ := by
        rw [k189_2 (sT_47 hSu), hMu.nr, if_neg (nI_ge (by omega) (by omega)), k189_10 (sT_47 hSu) q9 (by rw [q8]; exact Or.inr (sT_63 hSu)) (by rw [q8, sN_63 hSu]; exact jin_n (by omega) (by decide)), q8, nI_clamp (by omega), m63]
      have nxt : ∀ {υ' : jS}, hitB s p i r = false → FR [76, 77] σ υ' → jx (d + 4) 189 2 [some (.ref 47), some (.int (nI p)), some (.int (nI i)), some (.int (nI r))] [] υ = jx (d + 4) 189 39 [some (.ref 47), some (.int (nI p)), some (.int (nI i)), some (.int (nI r))] [] υ' → ∃ υ'', FR [76, 77] σ υ'' ∧ jx (d + 4) 189 2 [some (.ref 47), some (.int (nI p)), some (.int (nI i)), some (.int (nI r))] [] υ = some (some (.int (match fR s p i (f + 1) r with | some r => nI r | none => -4)), υ'') ∧ (∀ r', fR s p i (f + 1) r = some r' → lastB (-4) υ'' 76 77 s p i r') := fun {υ'} hh F' he => by
        obtain ⟨υ'', F2, r2, q2⟩ := ih (r + 1) υ' (by omega) F'
        have e1 : fR s p i (f + 1) r = fR s p i f (r + 1) := by
          rw [fR, if_neg (by rw [hh]; decide)]
        refine ⟨υ'', F2, ?_, by rw [e1]; exact q2⟩
        rw [e1, he, k189_39, ← nI_succ]
        exact r2
      by_cases hon : (s.rs.getD r ar0).on = true
      · have to24 : jx (d + 4) 189 2 [some (.ref 47), some (.int (nI p)), some (.int (nI i)), some (.int (nI r))] [] υ = if (if sndA (s.rs.getD r ar0) then (1 : Int32) else 0) = 0 then jx (d + 4) 189 39 [some (.ref 47), some (.int (nI p)), some (.int (nI i)), some (.int (nI r))] [] υ else jx (d + 4) 189 27 [some (.ref 47), some (.int (nI p)), some (.int (nI i)), some (.int (nI r))] [] υ := by
          rw [to10, if_pos hon, if_neg (by decide), k189_19 (sT_47 hSu), c4]
          simp only [Option.bind_some, Option.toList_some, List.cons_append, List.nil_append]
          rw [k189_24]
        by_cases hsn : sndA (s.rs.getD r ar0)
        · obtain ⟨υ1, e1, F1, w1⟩ := c182 (d := d + 1) hSu hs hMu hp hlt (pl := i) (by omega)
          have F1' := F.trans F1
          have to59 : ∀ v : Int32, (if (winF s.W (s.rs.getD r ar0).o1 (s.rs.getD r ar0).o2.length (s.ps.getD p []) i).isSome = true then (1 : Int32) else 0) = v → jx (d + 4) 189 2 [some (.ref 47), some (.int (nI p)), some (.int (nI i)), some (.int (nI r))] [] υ = if v = 0 then jx (d + 4) 189 39 [some (.ref 47), some (.int (nI p)), some (.int (nI i)), some (.int (nI r))] [] υ1 else jx (d + 4) 189 37 [some (.ref 47), some (.int (nI p)), some (.int (nI i)), some (.int (nI r))] [] υ1 := fun v ev => by
            rw [to24, if_pos hsn, if_neg (by decide), k189_27 (sT_47 hSu), e1, ev]
            simp only [Option.bind_some, Option.toList_some, List.cons_append, List.nil_append]
            rw [k189_34]
          cases hw : winF s.W (s.rs.getD r ar0).o1 (s.rs.getD r ar0).o2.length (s.ps.getD p []) i with
          | none =>
            rw [hw] at to59
            refine nxt ?_ F1' ((to59 0 rfl).trans (if_pos rfl))
            unfold hitB
            rw [hw]
            simp
          | some x =>
            rw [hw] at to59
            have hh : hitB s p i r = true := by
              unfold hitB
              rw [hw, hon, decide_eq_true hsn]
              rfl
            have e2 : fR s p i (f + 1) r = some r := by rw [fR, if_pos hh]
            refine ⟨υ1, F1', ?_, fun r' hr' => ?_⟩
            · rw [e2, to59 1 rfl, if_neg (by decide), k189_37]
            · rw [e2, Option.some_inj] at hr'
              subst hr'
              exact w1
        · refine nxt ?_ F ?_
          · unfold hitB
            rw [decide_eq_false hsn]
            simp
          · rw [to24, if_neg hsn, if_pos rfl]
      · refine nxt ?_ F ?_
        · unfold hitB
          rw [Bool.eq_false_iff.mpr hon]
          rfl
        · rw [to10, if_neg hon, if_pos rfl]
  rw [k189_0]
  exact L s.rs.length 0 σ (by omega) (FR.refl _ σ)
theorem c188 (hS : SH σ) (hs : WFs s) (hM : CM s σ) {p : Nat} (hp : p < s.ps.length) : ∃ σ', FR [76, 77] σ σ' ∧ jx (d + 5) 188 0 [some (.ref 47), some (.int (nI p)), none] [] σ = some (some (.int (match fW s p with | some z => nI z.1 | none => -4)), σ') := by
  have l24 := (hs.fp _ (mem_ps hp)).1
  have hp16 := hs.p16
  have hr24 := hs.r24
  have C : ∀ {υ : jS}, FR [76, 77] σ υ → CM s υ := fun F => hM.w7 hs F
  have L : ∀ f i υ, i + f = (s.ps.getD p []).length → FR [76, 77] σ υ → ∃ υ', FR [76, 77] σ υ' ∧ jx (d + 5) 188 2 [some (.ref 47), some (.int (nI p)), some (.int (nI i))] [] υ = some (some (.int (match fP s p f i with | some z => nI z.1 | none => -4)), υ') := by
    intro f
    induction f with
    | zero =>
      intro i υ hi F
      have hSu := F.sh hS
      have q1 : (jR υ 661 47).getD 0 = 65 := by rw [sR_661_47 hSu]; rfl
      have q2 : jR υ 661 47 ≠ none := by rw [sR_661_47 hSu]; exact fun z => nomatch z
      refine ⟨υ, F, ?_⟩
      rw [k188_2 (sT_47 hSu) q2 (by rw [q1]; exact Or.inl (sT_65 hSu)) (by rw [q1, sN_65 hSu]; exact jin_n (by omega) (by decide)), q1, nI_clamp (by omega), ((C F).ps p hp).1, if_pos (nI_le (by omega) (by omega)), k188_31]
      rfl
    | succ f ih =>
      intro i υ hi F
      have hSu := F.sh hS
      have q1 : (jR υ 661 47).getD 0 = 65 := by rw [sR_661_47 hSu]; rfl
      have q2 : jR υ 661 47 ≠ none := by rw [sR_661_47 hSu]; exact fun z => nomatch z
      obtain ⟨υ1, F1, e1, _⟩ := c189 (d := d) hSu hs (C F) hp (i := i) (by omega)
      have F1' := F.trans F1
      have st : ∀ v : Int32, (match fR s p i s.rs.length 0 with | some r => nI r | none => -4) = v → jx (d + 5) 188 2 [some (.ref 47), some (.int (nI p)), some (.int (nI i))] [] υ = if v = -4 then jx (d + 5) 188 25 [some (.ref 47), some (.int (nI p)), some (.int (nI i))] [] υ1 else jx (d + 5) 188 23 [some (.ref 47), some (.int (nI p)), some (.int (nI i))] [] υ1 := fun v ev => by
        rw [ev] at e1
        rw [k188_2 (sT_47 hSu) q2 (by rw [q1]; exact Or.inl (sT_65 hSu)) (by rw [q1, sN_65 hSu]; exact jin_n (by omega) (by decide)), q1, nI_clamp (by omega), ((C F).ps p hp).1, if_neg (nI_ge (by omega) (by omega)), k188_12 (sT_47 hSu), e1]
        simp only [Option.bind_some, Option.toList_some, List.cons_append, List.nil_append]
        rw [k188_18]
      cases hr : fR s p i s.rs.length 0 with
      | some r =>
        rw [hr] at st
        obtain ⟨_, hr2, _⟩ := fR_ok _ _ _ hr
        have n4 : ¬ nI r = -4 := fun z => by
          have := nn0 (k := r) (by omega)
          rw [z] at this
          exact this (by decide)
        have e : fP s p (f + 1) i = some (i, r) := by rw [fP, hr]
        refine ⟨υ1, F1', ?_⟩
        rw [st (nI r) rfl, if_neg n4, k188_23, e]
      | none =>
        rw [hr] at st
        have e : fP s p (f + 1) i = fP s p f (i + 1) := by rw [fP, hr]
        obtain ⟨υ2, F2, e2⟩ := ih (i + 1) υ1 (by omega) F1'
        refine ⟨υ2, F2, ?_⟩
        rw [st (-4) rfl, if_pos rfl, k188_25, ← nI_succ, e]
        exact e2
  rw [k188_0]
  exact L (s.ps.getD p []).length 0 σ (by omega) (FR.refl _ σ)
theorem sim_done (hR : REL s cr cp qr qp σ) (x : Int32) : SimR (d + 6) 111 191 [some (.int x), none] [some (.int x)] true σ := by
  have hR0 := hR
  obtain ⟨hS, hx, hs, hC, hM⟩ := hR
  have hl := hs.p16
  have hr24 := hs.r24
  by_cases h : inR x s.ps.length
  · obtain ⟨p, hp, ep⟩ := inR_nat (by omega) h
    have a1 := c86y (d := d + 5) hS hC hs hp
    rw [← ep] at a1
    have l24 := (hs.fp _ (mem_ps hp)).1
    obtain ⟨σ1, F1, e1, _⟩ := c107 (d := d) hS hs hC hp
    have hS1 := F1.sh hS
    have hC1 : CX s cr cp qr qp σ1 := hC.scr F1 (by decide)
    have hM1 := hM.sm (F1.sm (fun a h1 h2 => by simp; omega))
    obtain ⟨σ2, F2, e2⟩ := c188 (d := d) hS1 hs hM1 hp
    have hM2 := hM1.w7 hs F2
    have sc2 := F2.sc (fun a ha => by simp at ha; omega)
    have nx1 : jnx σ1 = jnx σ := F1.1.2.2.2.2.1
    have nx2 : jnx σ2 = jnx σ1 := F2.1.2.2.2.2.1
    have sl1 : jsl σ1 = jsl σ := F1.1.2.2.2.2.2
    have sl2 : jsl σ2 = jsl σ1 := F2.1.2.2.2.2.2
    have b1 := c170y (d := d + 4) hS1 hM1 hs h
    rw [← ep] at e2
    have fin : ∀ v : Int32, jx (d + 6) 111 0 [some (.ref 16), some (.int x), none] [] σ = some (some (.int v), σ1) → jx (d + 6) 191 0 [some (.ref 47), some (.int x)] [] σ1 = some (some (.int v), σ2) → SimR (d + 6) 111 191 [some (.int x), none] [some (.int x)] true σ := fun v h1 h2 => ⟨v, v, σ1, σ2, s, cr, cp, qr, qp, h1, h2, ⟨F2.sh hS1, by omega, hs, CX.sc (by omega) hC1 sc2, hM2⟩, by omega, by omega, (F1.low (by simp)).trans (sc2.low (by omega)), fun _ => rfl⟩
    cases hw : fW s p with
    | none =>
      rw [hw] at e1 e2
      refine fin 1 ?_ ?_
      · rw [k111_0 (sT_16 hS), a1]
        simp only [Option.bind_some, Option.toList_some, List.cons_append, List.nil_append]
        rw [k111_5R (sT_16 hS), e1]
        simp only [Option.bind_some, Option.toList_some, List.cons_append, List.nil_append]
        rw [k111_17, if_neg (by decide), k111_20, c82 (d := d + 5) 1 (Or.inr rfl)]
        simp only [Option.bind_some, Option.toList_some, List.cons_append, List.nil_append]
        rw [k111_28]
      · rw [k191_0 (sT_47 hS1), b1]
        simp only [Option.bind_some, Option.toList_some, List.cons_append, List.nil_append]
        rw [k191_5, if_pos (by decide), k191_10 (sT_47 hS1), e2]
        simp only [Option.bind_some, Option.toList_some, List.cons_append, List.nil_append]
        rw [k191_15, if_neg (fun z => z rfl), k191_20]
    | some z =>
      rw [hw] at e1 e2
      obtain ⟨_, z1, z2, _⟩ := fP_ok _ _ _ hw
      have g1 : (0 : Int32) ≤ nI (z.1 * 24 + z.2) := by rw [← Int32.not_lt]; exact nn0 (by omega)
      have g2 : ¬ nI z.1 = -4 := fun q => by
        have := nn0 (k := z.1) (by omega)
        rw [q] at this
        exact this (by decide)
      refine fin 0 ?_ ?_
      · rw [k111_0 (sT_16 hS), a1]
        simp only [Option.bind_some, Option.toList_some, List.cons_append, List.nil_append]
        rw [k111_5R (sT_16 hS), e1]
        simp only [Option.bind_some, Option.toList_some, List.cons_append, List.nil_append]
        rw [k111_17, if_pos g1, k111_24, c82 (d := d + 5) 0 (Or.inl rfl)]
        simp only [Option.bind_some, Option.toList_some, List.cons_append, List.nil_append]
        rw [k111_28]
      · rw [k191_0 (sT_47 hS1), b1]
        simp only [Option.bind_some, Option.toList_some, List.cons_append, List.nil_append]
        rw [k191_5, if_pos (by decide), k191_10 (sT_47 hS1), e2]
        simp only [Option.bind_some, Option.toList_some, List.cons_append, List.nil_append]
        rw [k191_15, if_pos g2, k191_24]
  · have a1 := c86n (d := d + 5) hS hC h
    have a2 := c170n (d := d + 4) hS hM hs h
    refine SimR.read hR0 (a := -1) (a' := -1) ?_ ?_ (fun _ => rfl)
    · rw [k111_0 (sT_16 hS), a1]
      simp only [Option.bind_some, Option.toList_some, List.cons_append, List.nil_append]
      rw [k111_5N]
    · rw [k191_0 (sT_47 hS), a2]
      simp only [Option.bind_some, Option.toList_some, List.cons_append, List.nil_append]
      rw [k191_5, if_neg (fun z => z rfl), k191_8]
end MI2
