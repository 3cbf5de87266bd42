section S_9i
/-! mill: both -/
theorem dm24 : ∀ i, i < 24 → ∀ r, r < 24 → nI (i * 24 + r) / 24 = nI i ∧ nI (i * 24 + r) - nI (i * 24 + r) / 24 * 24 = nI r := by decide +kernel
def zS (s : AS) : AS := (s.W, s.len, s.b, s.rs, s.ps, 0, s.tl, s.ap)
section MI3
variable {d : Nat} {σ : jS} {s : AS} {cr cp : Nat} {qr qp : Nat → Nat}
theorem CX.ad {i r : Nat} {v : Int32} (hS : SH σ) (hC : CX s cr cp qr qp σ) (hn : s.ns < 144) : ∃ σ', jx d 109 0 [some (.ref 43), some (.int (nI i)), some (.int (nI r)), some (.int v)] [] σ = some (none, σ') ∧ FR [43, 44] σ σ' ∧ CX (adS s i r v) cr cp qr qp σ' := by
  have r1 : (jR σ 384 43).getD 0 = 44 := by rw [sR_384_43 hS]; rfl
  have r2 : jR σ 384 43 ≠ none := by rw [sR_384_43 hS]; exact fun z => nomatch z
  have ns := hC.ns
  have m3 : nI s.ns * 3 = nI (3 * s.ns) := by rw [show (3 : Int32) = nI 3 from rfl, nmul, Nat.mul_comm]
  have m31 : nI (3 * s.ns) + 1 = nI (3 * s.ns + 1) := (nI_succ _).symm
  have m32 : nI (3 * s.ns) + 2 = nI (3 * s.ns + 2) := by rw [show (2 : Int32) = nI 2 from rfl, nadd]
  have F : FR [43, 44] σ (jsI (jsA (jsA (jsA σ 44 (3 * s.ns) (nI i)) 44 (3 * s.ns + 1) (nI r)) 44 (3 * s.ns + 2) v) 385 43 (nI (s.ns + 1))) := ((((FR.refl _ σ).A (by decide)).A (by decide)).A (by decide)).I (by decide)
  have o : ∀ x, x ≠ 43 → x ≠ 44 → x ∉ [43, 44] := fun x h1 h2 => by simp; omega
  have n144 : ¬ (144 : Int32) ≤ nI s.ns := nI_ge (b := 144) hn (by decide)
  refine ⟨_, ?_, F, ?_⟩
  · rw [k109_0 (sT_43 hS), ns, if_neg n144, k109_10 (sT_43 hS) r2 (by rw [r1]; exact sT_44 hS) (by rw [r1, sN_44 hS, ns, m3]; exact jin_n (by omega) (by decide)) (by rw [r1, sN_44 hS, ns, m3, m31]; exact jin_n (by omega) (by decide)) (by rw [r1, sN_44 hS, ns, m3, m32]; exact jin_n (by omega) (by decide)), r1, ns, m3, m31, m32, nI_clamp (by omega), nI_clamp (by omega), nI_clamp (by omega), ← nI_succ]
  · have I16 := (F.2 16 (by decide)).1
    have dj := hC.dj
    have big : ∀ x, 81 ≤ x → x ∉ [43, 44] := fun x hx => o x (by omega) (by omega)
    refine hC.gen F (fun z hz => Or.inl ((by decide : ∀ x, x ∈ [43, 44] → x ∈ scr2) z hz)) (by rw [I16]; exact hC.nr) (by rw [I16]; exact hC.np) (by rw [I16]; exact hC.w) (by rw [I16]; exact hC.ap) rfl rfl (by rw [zI_I, if_pos ⟨rfl, rfl⟩]; rfl) (fun k w hk hw => ?_) ?_ ?_ ?_ hC.lr.1 hC.lp.1 (fun j hj => ?_) (fun j hj => ?_) (fun j hj => ?_) (fun j hj => ?_)
    · show _ = if k = s.ns then (if w = 0 then nI i else if w = 1 then nI r else v) else s.tl k w
      have hk : k < s.ns + 1 := hk
      rw [zI_A, zA_A, zA_A, zA_A]
      by_cases e : k = s.ns
      · subst e
        rw [if_pos rfl]
        rcases (show w = 0 ∨ w = 1 ∨ w = 2 by omega) with h | h | h <;> subst h
        · rw [if_neg (fun z => by omega), if_neg (fun z => by omega), if_pos ⟨rfl, rfl⟩, if_pos rfl]
        · rw [if_neg (fun z => by omega), if_pos ⟨rfl, rfl⟩, if_neg (by decide), if_pos rfl]
        · rw [if_pos ⟨rfl, rfl⟩, if_neg (by decide), if_neg (by decide)]
      · rw [if_neg e, if_neg (fun z => by omega), if_neg (fun z => by omega), if_neg (fun z => by omega)]
        exact hC.tl k w (by omega) hw
    · obtain ⟨n, w⟩ := hC.w1; exact ⟨n, w.frame F (by decide)⟩
    · obtain ⟨n, w⟩ := hC.w2; exact ⟨n, w.frame F (by decide)⟩
    · obtain ⟨n, w⟩ := hC.w3; exact ⟨n, w.frame F (by decide)⟩
    · have b := dj.r j hj; exact (hC.gr j hj).2.fr F (big _ (by omega)) (big _ (by omega))
    · have b := dj.p j hj; exact (hC.gp j hj).2.fr F (big _ (by omega))
    · have b := dj.r j (by have := hC.lr.1; exact Nat.lt_of_lt_of_le hj this); exact (hC.rs j hj).fr F (fun z h1 h2 => big z (by omega))
    · have b := dj.p j (by have := hC.lp.1; exact Nat.lt_of_lt_of_le hj this); exact (hC.ps j hj).frame F (big _ (by omega)) (big _ (by omega))
theorem c108 (hS : SH σ) (hs : WFs s) (hC : CX s cr cp qr qp σ) {p r i : Nat} {x : BN × BN} (hp : p < s.ps.length) (hr : r < s.rs.length) (hn : s.ns < 144) (hw : winF s.W (s.rs.getD r ar0).o1 (s.rs.getD r ar0).o2.length (s.ps.getD p []) i = some x) (hb : RB (-1) σ 39 40 x) (ib : IB x.1) (ic : IC x.2) : ∃ σ', jx (d + 4) 108 0 [some (.ref 16), some (.ref (qp p)), some (.int (nI i)), some (.int (nI r)), none] [] σ = some (none, σ') ∧ CX (stS s p i r x) cr cp qr qp σ' ∧ SH σ' ∧ sameM σ σ' ∧ low σ σ' ∧ jnx σ' = jnx σ ∧ jsl σ' = jsl σ := by
  have c1 := c81y (d := d + 3) hS hC hs hr
  obtain ⟨σ1, e1, F1, hC1⟩ := c104 (d := d) hS hs hC hp hr hw hb
  have hS1 := F1.sh hS
  have fr := hs.fr _ (mem_rs hr)
  obtain ⟨w1, w2, _⟩ := win_cond hw
  obtain ⟨Bn, eBn⟩ : ∃ Bn, newP s.W (s.rs.getD r ar0) x (s.ps.getD p []) i = Bn := ⟨_, rfl⟩
  have pwf : ∀ o, o ∈ Bn → PWF o := by rw [← eBn]; exact newP_pwf hs.w fr (win_ful fr hw ib ic) (hs.fp _ (mem_ps hp)).2
  rw [eBn] at hC1
  have epl : (chS s p r Bn).ps.length = s.ps.length := List.length_set
  have gB : (chS s p r Bn).ps.getD p [] = Bn := by
    show (s.ps.set p Bn).getD p [] = Bn
    rw [set_ps hp, if_pos rfl]
  have rB := hC1.ps p (by rw [epl]; exact hp)
  rw [gB] at rB
  have c7 := c74 (d := d + 1) rB hS1 hC1.st (fun o ho => (pwf o ho).opk)
  obtain ⟨σ2, e2, F2, hC2⟩ := CX.ad (d := d + 3) (i := i) (r := r) (v := prcL Bn 0) hS1 hC1 hn
  have bp := hC.dj.p p (by have := hC.lp.1; omega)
  have br := hC.dj.r r (by have := hC.lr.1; omega)
  refine ⟨σ2, ?_, ?_, F2.sh hS1, (F1.sm (fun a h1 h2 => by simp; omega)).trans (F2.sm (fun a h1 h2 => by simp; omega)), (F1.low (fun b hb => by simp at hb; omega)).trans (F2.low (by simp)), by rw [F2.1.2.2.2.2.1, F1.1.2.2.2.2.1], by rw [F2.1.2.2.2.2.2, F1.1.2.2.2.2.2]⟩
  · have q1 : (jR σ1 582 16).getD 0 = 43 := by rw [sR_582_16 hS1]; rfl
    have q2 : jR σ1 582 16 ≠ none := by rw [sR_582_16 hS1]; exact fun z => nomatch z
    rw [k108_0 (sT_16 hS), c1]
    simp only [Option.bind_some, Option.toList_some, List.cons_append, List.nil_append]
    rw [k108_5R (sT_16 hS), e1]
    simp only [Option.bind_some, Option.toList_none, List.nil_append]
    rw [k108_20 (sT_16 hS1) q2 rB.1.1, q1, c7]
    simp only [Option.bind_some, Option.toList_some, List.cons_append, List.nil_append]
    rw [k108_30 (sT_43 hS1), e2]
    simp only [Option.bind_some, Option.toList_none, List.nil_append]
    rw [k108_33]
  · unfold stS
    rw [eBn]
    exact hC2
theorem cls_mil {p : Nat} (hx : 81 ≤ jnx σ) : ∀ f k s υ l4, k + f = 144 → SH υ → WFs s → CX s cr cp qr qp υ → p < s.ps.length → s.ns + f ≤ 144 → sameM σ υ → low σ υ → jnx υ = jnx σ → jsl υ = jsl σ → ∃ υ', jx (d + 6) 106 22 [some (.ref 16), some (.int (nI p)), some (.ref (qp p)), some (.int (nI k)), l4] [] υ = some (some (.int (nI (milF p f s).ns)), υ') ∧ CX (milF p f s) cr cp qr qp υ' ∧ SH υ' ∧ WFs (milF p f s) ∧ sameM σ υ' ∧ low σ υ' ∧ jnx υ' = jnx σ ∧ jsl υ' = jsl σ := by
  intro f
  induction f with
  | zero =>
    intro k s υ l4 hk hS hs hC hp hn sm lo nx sl
    have e : k = 144 := by omega
    subst e
    have q1 : (jR υ 582 16).getD 0 = 43 := by rw [sR_582_16 hS]; rfl
    have q2 : jR υ 582 16 ≠ none := by rw [sR_582_16 hS]; exact fun z => nomatch z
    refine ⟨υ, ?_, hC, hS, hs, sm, lo, nx, sl⟩
    rw [k106_22, if_pos (by decide), k106_65 (sT_16 hS) q2 (by rw [q1]; exact sT_43 hS), q1, hC.ns]
    rfl
  | succ f ih =>
    intro k s υ l4 hk hS hs hC hp hn sm lo nx sl
    have q1 : ∀ {υ : jS}, SH υ → (jR υ 582 16).getD 0 = 43 := fun h => by rw [sR_582_16 h]; rfl
    have q2 : ∀ {υ : jS}, SH υ → jR υ 582 16 ≠ none := fun h => by rw [sR_582_16 h]; exact fun z => nomatch z
    have hr24 := hs.r24
    have l24 := (hs.fp _ (mem_ps hp)).1
    obtain ⟨υ1, F1, e1, b1⟩ := c107 (d := d) hS hs hC hp
    have hS1 := F1.sh hS
    have hC1 : CX s cr cp qr qp υ1 := hC.scr F1 (by decide)
    have sm1 := sm.trans (F1.sm (fun a h1 h2 => by simp; omega))
    have lo1 := lo.trans (F1.low (by simp))
    have nx1 : jnx υ1 = jnx σ := by rw [F1.1.2.2.2.2.1]; exact nx
    have sl1 : jsl υ1 = jsl σ := by rw [F1.1.2.2.2.2.2]; exact sl
    have n144 : ¬ (144 : Int32) ≤ nI k := nI_ge (b := 144) (by omega) (by decide)
    have st : ∀ v : Int32, jx (d + 5) 107 0 [some (.ref 16), some (.ref (qp p)), none, none, none] [] υ = some (some (.int v), υ1) → jx (d + 6) 106 22 [some (.ref 16), some (.int (nI p)), some (.ref (qp p)), some (.int (nI k)), l4] [] υ = if 0 ≤ v then jx (d + 6) 106 44 [some (.ref 16), some (.int (nI p)), some (.ref (qp p)), some (.int (nI k)), some (.int v)] [] υ1 else jx (d + 6) 106 41 [some (.ref 16), some (.int (nI p)), some (.ref (qp p)), some (.int (nI k)), some (.int v)] [] υ1 := fun v e1 => by
      rw [k106_22, if_neg n144, k106_29R (sT_16 hS), e1]
      simp only [Option.bind_some, Option.toList_some, List.cons_append, List.nil_append]
      rw [k106_34]
    cases hw : fW s p with
    | none =>
      rw [hw] at e1
      have em : milF p (f + 1) s = s := milF_none hw
      rw [em]
      refine ⟨υ1, ?_, hC1, hS1, hs, sm1, lo1, nx1, sl1⟩
      rw [st (-4) e1, if_neg (by decide), k106_41 (sT_16 hS1) (q2 hS1) (by rw [q1 hS1]; exact sT_43 hS1), q1 hS1, hC1.ns]
    | some z =>
      obtain ⟨i, r⟩ := z
      obtain ⟨_, z1, z2, z3, _⟩ := fP_ok _ _ _ hw
      have z1 : i < 0 + (s.ps.getD p []).length := z1
      have z2 : r < s.rs.length := z2
      obtain ⟨_, _, x, hx'⟩ := hit_win z3
      obtain ⟨rb, ib, ic⟩ := b1 (i, r) hw x hx'
      rw [hw] at e1
      have g1 : (0 : Int32) ≤ nI (i * 24 + r) := by rw [← Int32.not_lt]; exact nn0 (by omega)
      obtain ⟨d1, d2⟩ := dm24 i (by omega) r (by omega)
      obtain ⟨υ2, e2, hC2, hS2, sm2, lo2, nx2, sl2⟩ := c108 (d := d + 1) hS1 hs hC1 hp z2 (by omega) hx' rb ib ic
      have em : milF p (f + 1) s = milF p f (stS s p i r x) := milF_some hw hx'
      have pr := stS_ps (s := s) (i := i) (r := r) (x := x) hp
      obtain ⟨υ3, e3, r3⟩ := ih (k + 1) (stS s p i r x) υ2 (some (.int (nI (i * 24 + r)))) (by omega) hS2 (stS_wf hs hp z2 hx' ib ic (by omega)) hC2 (by rw [pr.1]; exact hp) (by rw [pr.2.2]; omega) (sm1.trans sm2) (lo1.trans lo2) (by omega) (by omega)
      rw [em]
      refine ⟨υ3, ?_, r3⟩
      rw [st (nI (i * 24 + r)) e1, if_pos g1, k106_44R (sT_16 hS1), d2, d1, e2]
      simp only [Option.bind_some, Option.toList_none, List.nil_append]
      rw [k106_59R, ← nI_succ]
      exact e3
theorem CM.ad {i r : Nat} {v : Int32} (hM : CM s σ) (hn : s.ns < 144) : CM (adS s i r v) (jsI (jsA (jsA (jsA σ 78 s.ns (nI i)) 79 s.ns (nI r)) 80 s.ns v) 678 47 (nI (s.ns + 1))) := by
  have F : FR [47, 78, 79, 80] σ (jsI (jsA (jsA (jsA σ 78 s.ns (nI i)) 79 s.ns (nI r)) 80 s.ns v) 678 47 (nI (s.ns + 1))) := ((((FR.refl _ σ).A (by decide)).A (by decide)).A (by decide)).I (by decide)
  have z := fun b (hb : b ∉ [47, 78, 79, 80]) i => (F.2 b hb).2 i
  have I : ∀ g, g ≠ 678 → jI (jsI (jsA (jsA (jsA σ 78 s.ns (nI i)) 79 s.ns (nI r)) 80 s.ns v) 678 47 (nI (s.ns + 1))) g 47 = jI σ g 47 := fun g hg => by rw [zI_I, if_neg (fun w => hg w.1), zA_I, zA_I, zA_I]
  refine ⟨fun j hj => by rw [z 70 (by decide)]; exact hM.nv j hj, by rw [I 644 (by decide)]; exact hM.nr, by rw [I 660 (by decide)]; exact hM.np, by rw [I 640 (by decide)]; exact hM.w, by rw [I 682 (by decide)]; exact hM.ap, ⟨by rw [I 642 (by decide)]; exact hM.tm.1, hM.tm.2.1, fun j hj => by rw [z 48 (by decide)]; exact hM.tm.2.2 j hj⟩, by rw [zI_I, if_pos ⟨rfl, rfl⟩]; rfl, fun k w hk hw => ?_, fun j hj => ?_, fun j hj => ?_⟩
  · show _ = if k = s.ns then (if w = 0 then nI i else if w = 1 then nI r else v) else s.tl k w
    have hk : k < s.ns + 1 := hk
    rw [zI_A, zA_A, zA_A, zA_A]
    by_cases e : k = s.ns
    · rw [if_pos e]
      rcases (show w = 0 ∨ w = 1 ∨ w = 2 by omega) with h | h | h <;> subst h
      · rw [if_neg (fun q => absurd q.1 (by decide)), if_neg (fun q => absurd q.1 (by decide)), if_pos ⟨rfl, e⟩, if_pos rfl]
      · rw [if_neg (fun q => absurd q.1 (by decide)), if_pos ⟨rfl, e⟩, if_neg (by decide), if_pos rfl]
      · rw [if_pos ⟨rfl, e⟩, if_neg (by decide), if_neg (by decide)]
    · rw [if_neg e, if_neg (fun q => e q.2), if_neg (fun q => e q.2), if_neg (fun q => e q.2)]
      exact hM.tl k w (by omega) hw
  · obtain ⟨⟨rg, m⟩, m1, m2, m3, m4⟩ := hM.rs j hj
    exact ⟨⟨rg, m.frame F (fun a x y => by simp; omega)⟩, by rw [z 60 (by decide)]; exact m1, by rw [z 61 (by decide)]; exact m2, by rw [z 63 (by decide)]; exact m3, by rw [z 64 (by decide)]; exact m4⟩
  · obtain ⟨p1, p2, p3⟩ := hM.ps j hj
    exact ⟨by rw [z 65 (by decide)]; exact p1, p2, fun k w hk hw => by rw [z (66 + w) (by simp; omega)]; exact p3 k w hk hw⟩
theorem ref_mil {p : Nat} : ∀ f s υ l3, SH υ → WFs s → CM s υ → p < s.ps.length → priS (s.ps.getD p []) ≤ f → s.ns + f ≤ 144 → sameC σ υ → jnx υ = jnx σ → jsl υ = jsl σ → ∃ υ', jx (d + 6) 187 20 [some (.ref 47), some (.int (nI p)), none, none] [.int (match fW s p with | some z => nI z.1 | none => -4)] υ = jx (d + 6) 187 20 [some (.ref 47), some (.int (nI p)), none, none] [.int (match fW s p with | some z => nI z.1 | none => -4)] υ ∧ jx (d + 6) 187 21 [some (.ref 47), some (.int (nI p)), some (.int (match fW s p with | some z => nI z.1 | none => -4)), l3] [] υ = some (some (.int (nI (milF p f s).ns)), υ') ∧ CM (milF p f s) υ' ∧ SH υ' ∧ sameC σ υ' ∧ jnx υ' = jnx σ ∧ jsl υ' = jsl σ := by
  intro f
  induction f with
  | zero =>
    intro s υ l3 hS hs hM hp hf hn sc nx sl
    have l0 : (s.ps.getD p []).length = 0 := by
      have := priS_bd (s.ps.getD p []) (fun o ho => ((hs.fp _ (mem_ps hp)).2 o ho).opk)
      omega
    have hw : fW s p = none := by unfold fW; rw [l0]; rfl
    refine ⟨υ, rfl, ?_, hM, hS, sc, nx, sl⟩
    rw [hw]
    show jx (d + 6) 187 21 [some (.ref 47), some (.int (nI p)), some (.int (-4)), l3] [] υ = _
    rw [k187_21, if_pos rfl, k187_94 (sT_47 hS), hM.ns]
    rfl
  | succ f ih =>
    intro s υ l3 hS hs hM hp hf hn sc nx sl
    have hr24 := hs.r24
    have hp16 := hs.p16
    have l24 := (hs.fp _ (mem_ps hp)).1
    cases hw : fW s p with
    | none =>
      have em : milF p (f + 1) s = s := milF_none hw
      rw [em]
      refine ⟨υ, rfl, ?_, hM, hS, sc, nx, sl⟩
      show jx (d + 6) 187 21 [some (.ref 47), some (.int (nI p)), some (.int (-4)), l3] [] υ = _
      rw [k187_21, if_pos rfl, k187_94 (sT_47 hS), hM.ns]
    | some z =>
      obtain ⟨i, r⟩ := z
      obtain ⟨_, z1, z2, z3, z4⟩ := fP_ok _ _ _ hw
      have z1 : i < 0 + (s.ps.getD p []).length := z1
      have z2 : r < s.rs.length := z2
      have z4 : fR s p i s.rs.length 0 = some r := z4
      obtain ⟨_, hsn, x, hx'⟩ := hit_win z3
      have hsn : sndA (s.rs.getD r ar0) := hsn
      have hx' : winF s.W (s.rs.getD r ar0).o1 (s.rs.getD r ar0).o2.length (s.ps.getD p []) i = some x := hx'
      have fr := hs.fr _ (mem_rs z2)
      obtain ⟨υ1, F1, e1, b1⟩ := c189 (d := d + 1) hS hs hM hp (i := i) (by omega)
      have hS1 := F1.sh hS
      have hM1 := hM.w7 hs F1
      obtain ⟨rb, ib, ic⟩ := b1 r z4 x hx'
      rw [z4] at e1
      have e1 : jx (d + 5) 189 0 [some (.ref 47), some (.int (nI p)), some (.int (nI i)), none] [] υ = some (some (.int (nI r)), υ1) := e1
      obtain ⟨υ2, e2, F2, hM2⟩ := c186 (d := d + 2) hS1 hs hM1 hp z2 hx' rb ib ic
      have hS2 := F2.sh hS1
      obtain ⟨Bn, eBn⟩ : ∃ Bn, newP s.W (s.rs.getD r ar0) x (s.ps.getD p []) i = Bn := ⟨_, rfl⟩
      have fall := pri_fall fr hsn hx'
      rw [eBn] at hM2 fall
      have pwf : ∀ o, o ∈ Bn → PWF o := by rw [← eBn]; exact newP_pwf hs.w fr (win_ful fr hx' ib ic) (hs.fp _ (mem_ps hp)).2
      have epl : (chS s p r Bn).ps.length = s.ps.length := List.length_set
      have gB : (chS s p r Bn).ps.getD p [] = Bn := by
        show (s.ps.set p Bn).getD p [] = Bn
        rw [set_ps hp, if_pos rfl]
      have ns2 : jI υ2 678 47 = nI s.ns := hM2.ns
      have q79 : (jR υ2 679 47).getD 0 = 78 := by rw [sR_679_47 hS2]; rfl
      have q80 : (jR υ2 680 47).getD 0 = 79 := by rw [sR_680_47 hS2]; rfl
      have q81 : (jR υ2 681 47).getD 0 = 80 := by rw [sR_681_47 hS2]; rfl
      have n79 : jR υ2 679 47 ≠ none := by rw [sR_679_47 hS2]; exact fun z => nomatch z
      have n80 : jR υ2 680 47 ≠ none := by rw [sR_680_47 hS2]; exact fun z => nomatch z
      have n81 : jR υ2 681 47 ≠ none := by rw [sR_681_47 hS2]; exact fun z => nomatch z
      have cn : (nI s.ns).toNatClampNeg = s.ns := nI_clamp (by omega)
      have in2 : jin 200 (nI s.ns) := jin_n (by omega) (by decide)
      obtain ⟨υ3, e3⟩ : ∃ υ3, jsA (jsA υ2 78 s.ns (nI i)) 79 s.ns (nI r) = υ3 := ⟨_, rfl⟩
      have F3 : FR [78, 79] υ2 υ3 := e3 ▸ (((FR.refl _ υ2).A (by decide)).A (by decide))
      have hS3 := F3.sh hS2
      have pm : PM υ3 p Bn := by
        obtain ⟨p1, p2, p3⟩ := hM2.ps p (by rw [epl]; exact hp)
        rw [gB] at p1 p2 p3
        exact ⟨by rw [(F3.2 65 (by decide)).2]; exact p1, p2, fun k j hk hj => by rw [(F3.2 (66 + j) (by simp; omega)).2]; exact p3 k j hk hj⟩
      have c7 := c172 (d := d + 4) hS3 (p := p) (by omega) pm (fun o ho => (pwf o ho).opk)
      have hM4 : CM (stS s p i r x) (jsI (jsA υ3 80 s.ns (prcL Bn 0)) 678 47 (nI (s.ns + 1))) := by
        have := hM2.ad (i := i) (r := r) (v := prcL Bn 0) (by show s.ns < 144; omega)
        unfold stS
        rw [eBn, ← e3]
        exact this
      have F4 : FR [47, 64, 65, 66, 67, 68, 69, 76, 77, 78, 79, 80] υ (jsI (jsA υ3 80 s.ns (prcL Bn 0)) 678 47 (nI (s.ns + 1))) := ((((F1.mono (fun a ha => by simp at ha; simp; omega)).trans (F2.mono (fun a ha => by simp at ha; simp; omega))).trans (F3.mono (fun a ha => by simp at ha; simp; omega))).A (by decide)).I (by decide)
      obtain ⟨υ4, e4⟩ : ∃ υ4, jsI (jsA υ3 80 s.ns (prcL Bn 0)) 678 47 (nI (s.ns + 1)) = υ4 := ⟨_, rfl⟩
      rw [e4] at hM4 F4
      have hS4 := F4.sh hS
      have ws := stS_wf hs hp z2 hx' ib ic (by omega)
      have pr := stS_ps (s := s) (i := i) (r := r) (x := x) hp
      rw [eBn] at pr
      obtain ⟨υ5, F5, e5⟩ := c188 (d := d) hS4 ws hM4 (p := p) (by rw [pr.1]; exact hp)
      have hS5 := F5.sh hS4
      have hM5 := hM4.w7 ws F5
      have sc5 : sameC σ υ5 := (sc.trans (F4.sc (fun a ha => by simp at ha; omega))).trans (F5.sc (fun a ha => by simp at ha; omega))
      obtain ⟨υ6, _, e6, r6⟩ := ih (stS s p i r x) υ5 (some (.int (nI r))) hS5 ws hM5 (by rw [pr.1]; exact hp) (by rw [pr.2.1]; omega) (by rw [pr.2.2]; omega) sc5 (by rw [F5.1.2.2.2.2.1, F4.1.2.2.2.2.1]; exact nx) (by rw [F5.1.2.2.2.2.2, F4.1.2.2.2.2.2]; exact sl)
      have em : milF p (f + 1) s = milF p f (stS s p i r x) := milF_some hw hx'
      rw [em]
      refine ⟨υ6, rfl, ?_, r6⟩
      have n4 : ¬ nI i = -4 := fun q => by
        have := nn0 (k := i) (by omega)
        rw [q] at this
        exact this (by decide)
      show jx (d + 6) 187 21 [some (.ref 47), some (.int (nI p)), some (.int (nI i)), l3] [] υ = _
      have ns3 : jI υ3 678 47 = nI s.ns := by rw [(F3.2 47 (by decide)).1]; exact ns2
      rw [k187_21, if_neg n4, k187_27 (sT_47 hS), e1]
      simp only [Option.bind_some, Option.toList_some, List.cons_append, List.nil_append]
      rw [k187_33 (sT_47 hS1), e2]
      simp only [Option.bind_some, Option.toList_none, List.nil_append]
      rw [k187_41 (sT_47 hS2) n79 (by rw [q79]; exact sT_78 hS2) (by rw [q79, sN_78 hS2, ns2]; exact in2) n80 (by rw [q80]; exact sT_79 hS2) (by rw [q80, sN_79 hS2, ns2]; exact in2) n81, q79, q80, q81, ns2, cn, e3, c7]
      simp only [Option.bind_some, Option.toList_some, List.cons_append, List.nil_append]
      rw [k187_74 (sT_80 hS3) (by rw [sN_80 hS3]; exact in2) (sT_47 hS3), cn, ns3, ← nI_succ, e4, e5]
      simp only [Option.bind_some, Option.toList_some, List.cons_append, List.nil_append]
      rw [k187_90]
      exact e6
end MI3
end S_9i
section S_9j
/-! mill: whole -/
section MI4
variable {d : Nat} {σ : jS} {s : AS} {cr cp : Nat} {qr qp : Nat → Nat}
theorem sim_mill (hR : REL s cr cp qr qp σ) (x : Int32) : SimR (d + 6) 106 187 [some (.int x), none, none, none] [some (.int x), none, none] true σ := by
  have hR0 := hR
  obtain ⟨hS, hx, hs, hC, hM⟩ := hR
  have hl := hs.p16
  by_cases h : inR x s.ps.length
  · obtain ⟨p, hp, ep⟩ := inR_nat (by omega) h
    have a1 := c86y (d := d + 5) hS hC hs hp
    rw [← ep] at a1
    have l24 := (hs.fp _ (mem_ps hp)).1
    have q1 : (jR σ 582 16).getD 0 = 43 := by rw [sR_582_16 hS]; rfl
    have q2 : jR σ 582 16 ≠ none := by rw [sR_582_16 hS]; exact fun z => nomatch z
    obtain ⟨σ0, e0⟩ : ∃ σ0, jsI σ 385 43 0 = σ0 := ⟨_, rfl⟩
    have F0 : FR [43] σ σ0 := e0 ▸ (FR.refl _ σ).I (by decide)
    have hS0 := F0.sh hS
    have ws : WFs (zS s) := ⟨hs.w, hs.l, hs.byy, hs.r24, hs.p16, hs.fr, hs.fp, Nat.zero_le _⟩
    have dj := hC.dj
    have big : ∀ x, 81 ≤ x → x ∉ [43] := fun x hx => by simp; omega
    have hC0 : CX (zS s) cr cp qr qp σ0 := by
      have I16 := (F0.2 16 (by decide)).1
      refine hC.gen F0 (fun z hz => Or.inl ((by decide : ∀ x, x ∈ [43] → x ∈ scr2) z hz)) (by rw [I16]; exact hC.nr) (by rw [I16]; exact hC.np) (by rw [I16]; exact hC.w) (by rw [I16]; exact hC.ap) rfl rfl (by rw [← e0, zI_I, if_pos ⟨rfl, rfl⟩]; rfl) (fun k w hk hw => absurd hk (Nat.not_lt_zero k)) ?_ ?_ ?_ hC.lr.1 hC.lp.1 (fun j hj => ?_) (fun j hj => ?_) (fun j hj => ?_) (fun j hj => ?_)
      · obtain ⟨n, w⟩ := hC.w1; exact ⟨n, w.frame F0 (by decide)⟩
      · obtain ⟨n, w⟩ := hC.w2; exact ⟨n, w.frame F0 (by decide)⟩
      · obtain ⟨n, w⟩ := hC.w3; exact ⟨n, w.frame F0 (by decide)⟩
      · have b := dj.r j hj; exact (hC.gr j hj).2.fr F0 (big _ (by omega)) (big _ (by omega))
      · have b := dj.p j hj; exact (hC.gp j hj).2.fr F0 (big _ (by omega))
      · have b := dj.r j (by have := hC.lr.1; exact Nat.lt_of_lt_of_le hj this); exact (hC.rs j hj).fr F0 (fun z h1 h2 => big z (by omega))
      · have b := dj.p j (by have := hC.lp.1; exact Nat.lt_of_lt_of_le hj this); exact (hC.ps j hj).frame F0 (big _ (by omega)) (big _ (by omega))
    have hM0 := hM.sm (F0.sm (fun a h1 h2 => by simp; omega))
    obtain ⟨σ1, e1, hC1, hS1, w1, sm1, lo1, nx1, sl1⟩ := cls_mil (d := d) (σ := σ0) (cr := cr) (cp := cp) (qr := qr) (qp := qp) (p := p) (by have : jnx σ0 = jnx σ := F0.1.2.2.2.2.1; omega) 144 0 (zS s) σ0 none (by decide) hS0 ws hC0 hp (Nat.le_refl _) ⟨fun _ => rfl, fun _ _ _ _ => rfl⟩ (low.refl σ0) rfl rfl
    have hM1 := hM0.sm sm1
    have nx0 : jnx σ0 = jnx σ := F0.1.2.2.2.2.1
    have sl0 : jsl σ0 = jsl σ := F0.1.2.2.2.2.2
    -- the reference
    obtain ⟨σ2, e2⟩ : ∃ σ2, jsI σ1 678 47 0 = σ2 := ⟨_, rfl⟩
    have sc2 : sameC σ1 σ2 := e2 ▸ i47sc 678 0
    have hS2 : SH σ2 := by rw [← e2, SH_I]; exact hS1
    have hM2 : CM (zS s) σ2 := by
      rw [← e2]
      exact hM1.I47 (by rw [zI_I, if_neg (by decide)]; exact hM1.nr) (by rw [zI_I, if_neg (by decide)]; exact hM1.np) (by rw [zI_I, if_neg (by decide)]; exact hM1.w) (by rw [zI_I, if_neg (by decide)]; exact hM1.ap) (by rw [TM_I (by decide)]; exact hM1.tm) (by rw [zI_I, if_pos ⟨rfl, rfl⟩]; rfl) (fun k w hk _ => absurd hk (Nat.not_lt_zero k)) hM1.rs hM1.ps
    have nx2 : jnx σ2 = jnx σ1 := by rw [← e2]; rfl
    have sl2 : jsl σ2 = jsl σ1 := by rw [← e2]; rfl
    obtain ⟨σ3, F3, e3⟩ := c188 (d := d) hS2 ws hM2 (p := p) hp
    have hS3 := F3.sh hS2
    have hM3 := hM2.w7 ws F3
    have sc3 := sc2.trans (F3.sc (fun a ha => by simp at ha; omega))
    have p144 : priS ((zS s).ps.getD p []) ≤ 144 := by
      have := priS_bd (s.ps.getD p []) (fun o ho => ((hs.fp _ (mem_ps hp)).2 o ho).opk)
      show priS (s.ps.getD p []) ≤ 144
      omega
    obtain ⟨σ4, _, e4, hM4, hS4, sc4, nx4, sl4⟩ := ref_mil (d := d) (σ := σ1) (p := p) 144 (zS s) σ3 none hS3 ws hM3 hp p144 (Nat.le_refl _) sc3 (by rw [F3.1.2.2.2.2.1]; exact nx2) (by rw [F3.1.2.2.2.2.2]; exact sl2)
    have b1 := c170y (d := d + 4) hS1 hM1 hs h
    refine ⟨nI (milF p 144 (zS s)).ns, nI (milF p 144 (zS s)).ns, σ1, σ4, milF p 144 (zS s), cr, cp, qr, qp, ?_, ?_, ⟨hS4, by omega, w1, CX.sc (by omega) hC1 sc4, hM4⟩, by omega, by omega, ((F0.low (by simp)).trans lo1).trans (sc4.low (by omega)), fun _ => rfl⟩
    · rw [k106_0 (sT_16 hS), a1]
      simp only [Option.bind_some, Option.toList_some, List.cons_append, List.nil_append]
      rw [k106_5R (sT_16 hS) q2 (by rw [q1]; exact sT_43 hS), q1, e0, ep]
      exact e1
    · rw [k187_0 (sT_47 hS1), b1]
      simp only [Option.bind_some, Option.toList_some, List.cons_append, List.nil_append]
      rw [k187_5, if_pos (by decide), k187_10 (sT_47 hS1), e2, ep, e3]
      simp only [Option.bind_some, Option.toList_some, List.cons_append, List.nil_append]
      rw [k187_20]
      exact e4
  · have a1 := c86n (d := d + 5) hS hC h
    have a2 := c170n (d := d + 4) hS hM hs h
    refine SimR.read hR0 (a := -1) (a' := -1) ?_ ?_ (fun _ => rfl)
    · rw [k106_0 (sT_16 hS), a1]
      simp only [Option.bind_some, Option.toList_some, List.cons_append, List.nil_append]
      rw [k106_5N]
    · rw [k187_0 (sT_47 hS), a2]
      simp only [Option.bind_some, Option.toList_some, List.cons_append, List.nil_append]
      rw [k187_5, if_neg (fun z => z rfl), k187_8]
end MI4
end S_9j
section S_9k
/-! letter: the text of a program -/
def numO (o : Nat → Int32) : Nat := if numN (opO o) = true then 1 else 0
def own (o : Nat → Int32) : Nat := nlnN (opO o) + 2 * (regN (opO o) + numO o)
def txB (o : Nat → Int32) (q : Nat) : Int32 := if q < nlnN (opO o) then jnmb (3 * opO o + q) else if (q - nlnN (opO o)) % 2 = 0 then 32 else o ((q - nlnN (opO o)) / 2 + 1) + (if (q - nlnN (opO o)) / 2 + 1 ≤ regN (opO o) then 97 else 48)
def pLn : List (Nat → Int32) → Nat
  | [] => 0
  | [o] => own o
  | o :: p :: t => own o + 1 + pLn (p :: t)
def pAt : List (Nat → Int32) → Nat → Int32
  | [], _ => 0
  | o :: t, i => if i < own o then txB o i else if i = own o then 59 else pAt t (i - own o - 1)
def off : List (Nat → Int32) → Nat → Nat
  | _, 0 => 0
  | [], i + 1 => i + 1
  | o :: t, i + 1 => own o + 1 + off t i
def letF (os : List (Nat → Int32)) (r : Nat) : Int32 := if r < pLn os then pAt os r else if r = pLn os then 0 else -1
theorem own_bd {o : Nat → Int32} (h : PWF o) : 2 ≤ own o ∧ own o ≤ 9 := by
  obtain ⟨h1, _⟩ := h.opk
  have H : ∀ k, k < 19 → 2 ≤ nlnN k + 2 * (regN k + (if numN k = true then 1 else 0)) ∧ nlnN k + 2 * (regN k + (if numN k = true then 1 else 0)) ≤ 9 := by decide
  exact H _ h1
theorem off_succ : ∀ (os : List (Nat → Int32)) (i : Nat), i < os.length → off os (i + 1) = off os i + own (os.getD i (fun _ => 0)) + 1 := by
  intro os
  induction os with
  | nil => intro i hi; exact absurd hi (Nat.not_lt_zero i)
  | cons o t ih =>
    intro i hi
    cases i with
    | zero =>
      show own o + 1 + off t 0 = 0 + own o + 1
      have : off t 0 = 0 := by cases t <;> rfl
      omega
    | succ i =>
      have := ih i (by have : i + 1 < t.length + 1 := hi; omega)
      show own o + 1 + off t (i + 1) = own o + 1 + off t i + own (t.getD i (fun _ => 0)) + 1
      omega
theorem pAt_off : ∀ (os : List (Nat → Int32)) (i : Nat), i < os.length → (∀ q, q < own (os.getD i (fun _ => 0)) → pAt os (off os i + q) = txB (os.getD i (fun _ => 0)) q) ∧ pAt os (off os i + own (os.getD i (fun _ => 0))) = 59 := by
  intro os
  induction os with
  | nil => intro i hi; exact absurd hi (Nat.not_lt_zero i)
  | cons o t ih =>
    intro i hi
    cases i with
    | zero =>
      refine ⟨fun q hq => ?_, ?_⟩
      · have hq : q < own o := hq
        show (if 0 + q < own o then txB o (0 + q) else _) = txB o q
        rw [Nat.zero_add, if_pos hq]
      · show (if 0 + own o < own o then _ else if 0 + own o = own o then (59 : Int32) else _) = 59
        rw [if_neg (by omega), if_pos (by omega)]
    | succ i =>
      obtain ⟨h1, h2⟩ := ih i (by have : i + 1 < t.length + 1 := hi; omega)
      refine ⟨fun q hq => ?_, ?_⟩
      · show (if own o + 1 + off t i + q < own o then _ else if own o + 1 + off t i + q = own o then (59 : Int32) else pAt t (own o + 1 + off t i + q - own o - 1)) = _
        rw [if_neg (by omega), if_neg (by omega), show own o + 1 + off t i + q - own o - 1 = off t i + q by omega]
        exact h1 q hq
      · show (if own o + 1 + off t i + own (t.getD i (fun _ => 0)) < own o then _ else if own o + 1 + off t i + own (t.getD i (fun _ => 0)) = own o then (59 : Int32) else pAt t (own o + 1 + off t i + own (t.getD i (fun _ => 0)) - own o - 1)) = _
        rw [if_neg (by omega), if_neg (by omega), show own o + 1 + off t i + own (t.getD i (fun _ => 0)) - own o - 1 = off t i + own (t.getD i (fun _ => 0)) by omega]
        exact h2
theorem pLn_off : ∀ (os : List (Nat → Int32)), os ≠ [] → pLn os + 1 = off os os.length := by
  intro os
  induction os with
  | nil => intro h; exact absurd rfl h
  | cons o t ih =>
    intro _
    cases t with
    | nil =>
      show own o + 1 = own o + 1 + off [] 0
      rfl
    | cons p t =>
      have := ih (fun z => nomatch z)
      show own o + 1 + pLn (p :: t) + 1 = own o + 1 + off (p :: t) (p :: t).length
      omega
theorem off_le : ∀ (os : List (Nat → Int32)) (i : Nat), i ≤ os.length → (∀ o, o ∈ os → PWF o) → off os i ≤ 10 * i := by
  intro os
  induction os with
  | nil => intro i hi _; have : i = 0 := Nat.le_zero.mp hi; subst this; exact Nat.le_refl _
  | cons o t ih =>
    intro i hi h
    cases i with
    | zero => exact Nat.le_refl _
    | succ i =>
      have := ih i (by have : i + 1 ≤ t.length + 1 := hi; omega) (fun p hp => h p (List.mem_cons_of_mem _ hp))
      have := own_bd (h o List.mem_cons_self)
      show own o + 1 + off t i ≤ 10 * (i + 1)
      omega
theorem letF_lt {o : Nat → Int32} {t : List (Nat → Int32)} {r : Nat} (h : r < own o) : letF (o :: t) r = txB o r := by
  have hl : r < pLn (o :: t) := by
    cases t with
    | nil => exact h
    | cons p t => show r < own o + 1 + pLn (p :: t); omega
  unfold letF
  rw [if_pos hl]
  show (if r < own o then txB o r else _) = _
  rw [if_pos h]
theorem letF_eq {o : Nat → Int32} {t : List (Nat → Int32)} : letF (o :: t) (own o) = if t = [] then 0 else 59 := by
  unfold letF
  cases t with
  | nil =>
    show (if own o < own o then _ else if own o = own o then (0 : Int32) else -1) = if ([] : List (Nat → Int32)) = [] then 0 else 59
    rw [if_neg (Nat.lt_irrefl _), if_pos rfl, if_pos rfl]
  | cons p t =>
    have hl : own o < pLn (o :: p :: t) := by show own o < own o + 1 + pLn (p :: t); omega
    rw [if_pos hl, if_neg (fun z => nomatch z)]
    show (if own o < own o then _ else if own o = own o then (59 : Int32) else _) = 59
    rw [if_neg (Nat.lt_irrefl _), if_pos rfl]
theorem letF_gt {o : Nat → Int32} {t : List (Nat → Int32)} {r : Nat} (h : own o < r) : letF (o :: t) r = if t = [] then -1 else letF t (r - own o - 1) := by
  cases t with
  | nil =>
    unfold letF
    show (if r < own o then _ else if r = own o then (0 : Int32) else -1) = _
    rw [if_neg (by omega), if_neg (by omega), if_pos rfl]
  | cons p t =>
    rw [if_neg (fun z => nomatch z)]
    unfold letF
    have e : pLn (o :: p :: t) = own o + 1 + pLn (p :: t) := rfl
    rw [e]
    by_cases h1 : r < own o + 1 + pLn (p :: t)
    · rw [if_pos h1, if_pos (by omega)]
      show (if r < own o then _ else if r = own o then (59 : Int32) else pAt (p :: t) (r - own o - 1)) = _
      rw [if_neg (by omega), if_neg (by omega)]
    · have a1 : ¬ r - own o - 1 < pLn (p :: t) := by omega
      rw [if_neg h1, if_neg a1]
      by_cases h2 : r = own o + 1 + pLn (p :: t)
      · have a2 : r - own o - 1 = pLn (p :: t) := by omega
        rw [if_pos h2, if_pos a2]
      · have a2 : ¬ r - own o - 1 = pLn (p :: t) := by omega
        rw [if_neg h2, if_neg a2]
theorem h2n : ∀ x, x < 10 → nI x - nI x / 2 * 2 = nI (x % 2) ∧ nI x / 2 + 1 = nI (x / 2 + 1) := by decide
theorem nlnN_bd (k : Nat) : 2 ≤ nlnN k ∧ nlnN k ≤ 3 := by unfold nlnN; split <;> decide
section LET
variable {d : Nat} {σ : jS} {s : AS} {cr cp : Nat} {qr qp : Nat → Nat}
theorem c203 (hS : SH σ) : jx (d + 1) 203 0 [some (.ref 3)] [] σ = some (some (.int 57), σ) := by
  simp (decide := true) only [k203_0, k203_9, k204_0, k204_6, k204_13, sT_1, sT_2, sT_3, sT_16, sT_17, sT_18, sT_19, sT_20, sT_21, sT_22, sT_23, sT_24, sT_25, sT_26, sT_27, sT_28, sT_29, sT_30, sT_31, sT_32, sT_33, sT_34, sT_35, sT_36, sT_37, sT_38, sT_39, sT_40, sT_41, sT_42, sT_43, sT_44, sT_45, sT_46, sT_47, sT_48, sT_49, sT_50, sT_51, sT_52, sT_53, sT_54, sT_55, sT_56, sT_57, sT_58, sT_59, sT_60, sT_61, sT_62, sT_63, sT_64, sT_65, sT_66, sT_67, sT_68, sT_69, sT_70, sT_71, sT_72, sT_73, sT_74, sT_75, sT_76, sT_77, sT_78, sT_79, sT_80, sN_1, sN_2, sN_19, sN_21, sN_23, sN_24, sN_26, sN_29, sN_31, sN_33, sN_35, sN_36, sN_37, sN_39, sN_40, sN_42, sN_44, sN_45, sN_46, sN_48, sN_49, sN_50, sN_51, sN_52, sN_53, sN_54, sN_55, sN_56, sN_57, sN_58, sN_59, sN_60, sN_61, sN_62, sN_63, sN_64, sN_65, sN_66, sN_67, sN_68, sN_69, sN_70, sN_71, sN_72, sN_73, sN_74, sN_75, sN_76, sN_77, sN_78, sN_79, sN_80, sR_0_34, sR_0_38, sR_1_34, sR_1_38, sR_64_20, sR_64_22, sR_128_25, sR_128_28, sR_194_17, sR_195_17, sR_196_17, sR_197_17, sR_258_30, sR_258_32, sR_258_41, sR_384_43, sR_448_18, sR_512_27, sR_513_27, sR_514_27, sR_515_27, sR_516_27, sR_576_16, sR_577_16, sR_578_16, sR_579_16, sR_580_16, sR_581_16, sR_582_16, sR_583_16, sR_584_16, sR_641_47, sR_643_47, sR_645_47, sR_646_47, sR_647_47, sR_648_47, sR_649_47, sR_650_47, sR_651_47, sR_652_47, sR_653_47, sR_654_47, sR_655_47, sR_656_47, sR_657_47, sR_658_47, sR_659_47, sR_661_47, sR_662_47, sR_663_47, sR_664_47, sR_665_47, sR_669_47, sR_670_47, sR_671_47, sR_672_47, sR_673_47, sR_674_47, sR_676_47, sR_677_47, sR_679_47, sR_680_47, sR_681_47, SH_I, SH_A, SH_G, SH_C, hS, Option.getD_some, ne_eq, reduceCtorEq, not_false_eq_true, not_true_eq_false, Option.bind_some, Option.toList_none, Option.toList_some, List.nil_append, List.cons_append, List.append_nil, ↓reduceIte, and_self, true_and, and_true, false_and, and_false, or_true, true_or, or_false, false_or, Nat.reduceEqDiff, Nat.reduceAdd, Int32.reduceMul, Int32.reduceAdd, Int32.reduceSub, Int32.reduceToNatClampNeg, Int32.reduceOfNat, Int32.reduceLT, Int32.reduceLE, va_rf]
  rfl
theorem c90 (hS : SH σ) (hQ : ST σ) {o : Nat → Int32} (ho : OPk o) : jx (d + 2) 90 0 [some (.int (nI (opO o))), none] [] σ = some (some (.int (nI (own o))), σ) := by
  obtain ⟨k1, k2⟩ := ho
  have e2 : ∀ n, (2 : Int32) * nI n = nI (2 * n) := fun n => by rw [show (2 : Int32) = nI 2 from rfl, nmul]
  rw [k90_0, c34 hS hQ k1]
  simp only [Option.bind_some, Option.toList_some, List.cons_append, List.nil_append]
  rw [k90_4, c40 k1]
  simp only [Option.bind_some, Option.toList_some, List.cons_append, List.nil_append]
  rw [k90_8]
  by_cases hn : numN (opO o) = true
  · rw [if_pos hn, if_neg (by decide), k90_11, c31 k1, ← nI_succ]
    simp only [Option.bind_some, Option.toList_some, List.cons_append, List.nil_append]
    rw [k90_22, e2, nadd]
    unfold own numO
    rw [if_pos hn]
  · rw [if_neg hn, if_pos rfl, k90_15, c31 k1, Int32.add_zero]
    simp only [Option.bind_some, Option.toList_some, List.cons_append, List.nil_append]
    rw [k90_22, e2, nadd]
    unfold own numO
    rw [if_neg hn, Nat.add_zero]
theorem c91 {q a m k r : Nat} {os : List (Nat → Int32)} (hS : SH σ) (hQ : ST σ) (hR : RO σ q a m os) (hk : k < os.length) (ho : PWF (os.getD k (fun _ => 0))) (hr : r < own (os.getD k (fun _ => 0))) : jx (d + 4) 91 0 [some (.ref q), some (.int (nI k)), some (.int (nI r)), none, none, none] [] σ = some (some (.int (txB (os.getD k (fun _ => 0)) r)), σ) := by
  obtain ⟨o, eo⟩ : ∃ o, os.getD k (fun _ => 0) = o := ⟨_, rfl⟩
  have g : ∀ j, j < 6 → jx (d + 3) 51 0 [some (.ref q), some (.int (nI k)), some (.int (nI j))] [] σ = some (some (.int (o j)), σ) := fun j hj => by rw [← eo]; exact c51 (d := d + 2) hR hk hj
  rw [eo] at ho hr
  rw [eo]
  obtain ⟨k1, k2⟩ := ho.opk
  obtain ⟨b1, b2⟩ := own_bd ho
  have g0 : jx (d + 3) 51 0 [some (.ref q), some (.int (nI k)), some (.int 0)] [] σ = some (some (.int (nI (opO o))), σ) := by rw [← k2]; exact g 0 (by decide)
  have nl := nlnN_bd (opO o)
  have st : jx (d + 4) 91 0 [some (.ref q), some (.int (nI k)), some (.int (nI r)), none, none, none] [] σ = if 0 ≤ nI r - nI (nlnN (opO o)) then jx (d + 4) 91 54 [some (.ref q), some (.int (nI k)), some (.int (nI r)), some (.int (nI (opO o))), some (.int (nI r - nI (nlnN (opO o)))), none] [] σ else jx (d + 4) 91 20 [some (.ref q), some (.int (nI k)), some (.int (nI r)), some (.int (nI (opO o))), some (.int (nI r - nI (nlnN (opO o)))), none] [] σ := by
    rw [k91_0 hR.1.1, g0]
    simp only [Option.bind_some, Option.toList_some, List.cons_append, List.nil_append]
    rw [k91_6, c31 k1]
    simp only [Option.bind_some, Option.toList_some, List.cons_append, List.nil_append]
    rw [k91_12]
  rw [st]
  unfold txB
  by_cases h : r < nlnN (opO o)
  · have neg : ¬ (0 : Int32) ≤ nI r - nI (nlnN (opO o)) := (by decide : ∀ r, r < 3 → ∀ n, n < 4 → r < n → ¬ (0 : Int32) ≤ nI r - nI n) r (by omega) _ (by omega) h
    have e3 : nI (opO o) * 3 + nI r = nI (3 * opO o + r) := by rw [show (3 : Int32) = nI 3 from rfl, nmul, nadd, Nat.mul_comm]
    have lt : ¬ (57 : Int32) ≤ nI (3 * opO o + r) := nI_ge (b := 57) (by omega) (by omega)
    rw [if_neg neg, if_pos h, k91_20, e3, if_neg (nn0 (by omega)), k91_32 (sT_3 hS), c203 hS]
    simp only [Option.bind_some, Option.toList_some, List.cons_append, List.nil_append]
    rw [k91_39, if_neg lt, k91_42 (sT_3 hS), c198 hS (by omega)]
    simp only [Option.bind_some, Option.toList_some, List.cons_append, List.nil_append]
    rw [k91_49]
  · have e : nI r - nI (nlnN (opO o)) = nI (r - nlnN (opO o)) := nsub (by omega)
    have pos : (0 : Int32) ≤ nI (r - nlnN (opO o)) := by rw [← Int32.not_lt]; exact nn0 (by omega)
    obtain ⟨m1, m2⟩ := h2n (r - nlnN (opO o)) (by omega)
    rw [e, if_pos pos, if_neg h, k91_54, m1]
    by_cases h0 : (r - nlnN (opO o)) % 2 = 0
    · rw [if_neg (fun z => z (by rw [h0]; rfl)), k91_61, if_pos h0]
    · have n0 : ¬ nI ((r - nlnN (opO o)) % 2) = 0 := by rw [show (0 : Int32) = nI 0 from rfl, n31eq (by omega) (by decide)]; exact h0
      have r3 := regN3 (opO o)
      rw [if_pos n0, if_neg h0, k91_64 hR.1.1, m2, g _ (by omega)]
      simp only [Option.bind_some, Option.toList_some, List.cons_append, List.nil_append]
      rw [k91_79, c34 hS hQ k1]
      simp only [Option.bind_some, Option.toList_some, List.cons_append, List.nil_append]
      rw [k91_85]
      by_cases h1 : (r - nlnN (opO o)) / 2 + 1 ≤ regN (opO o)
      · have c : ¬ nI (regN (opO o)) < nI ((r - nlnN (opO o)) / 2 + 1) := by rw [n31 (by omega) (by omega)]; omega
        rw [if_neg c, if_pos h1, k91_88]
      · have c : nI (regN (opO o)) < nI ((r - nlnN (opO o)) / 2 + 1) := by rw [n31 (by omega) (by omega)]; omega
        rw [if_pos c, if_neg h1, k91_93]
theorem c89 {q a m : Nat} {os : List (Nat → Int32)} (hS : SH σ) (hQ : ST σ) (hR : RO σ q a m os) (hp : ∀ o, o ∈ os → PWF o) {r : Nat} (hr : r < 2 ^ 31) : jx (d + 5) 89 0 [some (.ref q), some (.int (nI r)), none, none, none] [] σ = some (some (.int (letF os r)), σ) := by
  have l24 : os.length ≤ 24 := Nat.le_trans hR.1.2.2.2.2.2.2.1 hR.1.2.2.2.2.2.2.2
  have ln : jI σ 257 q = nI os.length := hR.1.2.2.2.2.2.1
  have L : ∀ f k r l4, k + f = os.length → r < 2 ^ 31 → jx (d + 5) 89 4 [some (.ref q), some (.int (nI r)), some (.int (nI r)), some (.int (nI k)), l4] [] σ = jx (d + 5) 89 4 [some (.ref q), some (.int (nI r)), some (.int (nI r)), some (.int (nI k)), l4] [] σ := fun _ _ _ _ _ _ => rfl
  have M : ∀ f k r l1 l4, k + f = os.length → r < 2 ^ 31 → jx (d + 5) 89 4 [some (.ref q), some (.int l1), some (.int (nI r)), some (.int (nI k)), l4] [] σ = some (some (.int (if os.drop k = [] then (if r = 0 ∧ os.length = 0 then 0 else -1) else letF (os.drop k) r)), σ) := by
    intro f
    induction f with
    | zero =>
      intro k r l1 l4 hk hr
      have e : k = os.length := by omega
      subst e
      rw [List.drop_length, if_pos rfl, k89_4 hR.1.1, ln, if_pos (nI_le (Nat.le_refl _) (by omega)), k89_72]
      by_cases h0 : r = 0
      · have e0 : nI r = 0 := by rw [h0]; rfl
        rw [if_neg (fun z => z e0), k89_76 hR.1.1, ln]
        by_cases h1 : os.length = 0
        · have e1 : nI os.length = 0 := by rw [h1]; rfl
          rw [if_neg (fun z => z e1), k89_83, if_pos ⟨h0, h1⟩]
        · have e1 : ¬ nI os.length = 0 := by rw [show (0 : Int32) = nI 0 from rfl, n31eq (by omega) (by decide)]; exact h1
          rw [if_pos e1, k89_87, if_neg (fun z => h1 z.2)]
      · have e0 : ¬ nI r = 0 := by rw [show (0 : Int32) = nI 0 from rfl, n31eq (by omega) (by decide)]; exact h0
        rw [if_pos e0, k89_87, if_neg (fun z => h0 z.1)]
    | succ f ih =>
      intro k r l1 l4 hk hr
      have hlt : k < os.length := by omega
      have ho := hp _ (mem_getD hlt)
      have dr : os.drop k = os.getD k (fun _ => 0) :: os.drop (k + 1) := by
        rw [List.drop_eq_getElem_cons hlt, List.getD_eq_getElem?_getD, List.getElem?_eq_getElem hlt]; rfl
      have c9 := c91 (d := d) (r := r) hS hQ hR hlt ho
      have g := c51 (d := d + 3) hR hlt (j := 0) (by decide)
      obtain ⟨o, eo⟩ : ∃ o, os.getD k (fun _ => 0) = o := ⟨_, rfl⟩
      rw [eo] at ho dr c9 g
      obtain ⟨k1, k2⟩ := ho.opk
      obtain ⟨b1, b2⟩ := own_bd ho
      have g0 : jx (d + 4) 51 0 [some (.ref q), some (.int (nI k)), some (.int 0)] [] σ = some (some (.int (nI (opO o))), σ) := by rw [← k2]; exact g
      rw [dr, if_neg (fun z => nomatch z), k89_4 hR.1.1, ln, if_neg (nI_ge (by omega) (by omega)), k89_12 hR.1.1, g0]
      simp only [Option.bind_some, Option.toList_some, List.cons_append, List.nil_append]
      rw [k89_18, c90 (d := d + 2) hS hQ ho.opk]
      simp only [Option.bind_some, Option.toList_some, List.cons_append, List.nil_append]
      rw [k89_21]
      by_cases h1 : own o ≤ r
      · rw [if_pos (nI_le h1 (by omega)), k89_36]
        by_cases h2 : r = own o
        · rw [if_neg (fun z => z (by rw [h2])), k89_42 hR.1.1, ln, ← nI_succ, h2, letF_eq]
          by_cases h3 : os.length ≤ k + 1
          · rw [if_pos (nI_le h3 (by omega)), k89_57, if_pos (List.drop_eq_nil_iff.mpr h3)]
          · rw [if_neg (by rw [n31le (by omega) (by omega)]; exact h3), k89_52, if_neg (fun z => h3 (List.drop_eq_nil_iff.mp z))]
        · have n : ¬ nI r = nI (own o) := by rw [n31eq (by omega) (by omega)]; exact h2
          have e1 : nI r - (nI (own o) + 1) = nI (r - own o - 1) := by rw [← nI_succ, nsub (by omega)]; congr 1
          rw [if_pos n, k89_59, e1, ← nI_succ, ih (k + 1) _ _ _ (by omega) (by omega), letF_gt (by omega)]
          by_cases h3 : os.drop (k + 1) = []
          · rw [if_pos h3, if_pos h3, if_neg (fun z => by omega)]
          · rw [if_neg h3, if_neg h3]
      · rw [if_neg (by rw [n31le (by omega) (by omega)]; exact h1), k89_29 hR.1.1, c9 (by omega)]
        simp only [Option.bind_some, Option.toList_some, List.cons_append, List.nil_append]
        rw [k89_35, letF_lt (by omega)]
  have := M os.length 0 r (nI r) none (by omega) hr
  rw [List.drop_zero] at this
  rw [k89_0]
  refine this.trans ?_
  by_cases h : os = []
  · subst h
    rw [if_pos rfl]
    unfold letF
    show some (some (Value.int (if r = 0 ∧ 0 = 0 then 0 else -1)), σ) = some (some (Value.int (if r < 0 then pAt [] r else if r = 0 then 0 else -1)), σ)
    rw [if_neg (Nat.not_lt_zero r)]
    by_cases e : r = 0
    · rw [if_pos ⟨e, rfl⟩, if_pos e]
    · rw [if_neg (fun z => e z.1), if_neg e]
  · rw [if_neg h]
end LET
end S_9k
section S_9l
/-! letter: the reference; both -/
theorem nmL3 : ∀ k, k < 19 → k ≠ 5 → ¬ nmv k < 729 ∧ 96 + nmv k / 729 = jnmb (3 * k + 0) ∧ 96 + (nmv k - nmv k / 729 * 729) / 27 = jnmb (3 * k + 1) ∧ 96 + ((nmv k - nmv k / 729 * 729) - (nmv k - nmv k / 729 * 729) / 27 * 27) = jnmb (3 * k + 2) := by decide
theorem nmL2 : nmv 5 < 729 ∧ 96 + nmv 5 / 27 = jnmb (3 * 5 + 0) ∧ 96 + (nmv 5 - nmv 5 / 27 * 27) = jnmb (3 * 5 + 1) := by decide
theorem ten8 : ∀ y, y < 8 → nI y ≤ 9 ∧ nI y - nI y / 10 * 10 = nI y := by decide
def TXS (σ : jS) (n : Nat) (f : Nat → Int32) : Prop := jI σ 675 47 = nI n ∧ ∀ z, z < n → jA σ 75 z = f z
def SFm (σ σ' : jS) : Prop := FR [47, 75] σ σ' ∧ ∀ g, g ≠ 675 → jI σ' g 47 = jI σ g 47
theorem SFm.trans {σ τ υ : jS} (h : SFm σ τ) (k : SFm τ υ) : SFm σ υ := ⟨h.1.trans k.1, fun g hg => (k.2 g hg).trans (h.2 g hg)⟩
section LE2
variable {d : Nat} {σ : jS} {s : AS} {cr cp : Nat} {qr qp : Nat → Nat}
theorem c175 {n : Nat} {f : Nat → Int32} {v : Int32} (hS : SH σ) (hT : TXS σ n f) (hn : n < 400) (hv : v = f n) : ∃ σ', jx d 175 0 [some (.ref 47), some (.int v)] [] σ = some (none, σ') ∧ SFm σ σ' ∧ TXS σ' (n + 1) f := by
  have r1 : (jR σ 674 47).getD 0 = 75 := by rw [sR_674_47 hS]; rfl
  have r2 : jR σ 674 47 ≠ none := by rw [sR_674_47 hS]; exact fun z => nomatch z
  refine ⟨jsI (jsA σ 75 n v) 675 47 (nI (n + 1)), ?_, ⟨((FR.refl _ σ).A (by decide)).I (by decide), fun g hg => by rw [zI_I, if_neg (fun z => hg z.1), zA_I]⟩, by rw [zI_I, if_pos ⟨rfl, rfl⟩], fun z hz => ?_⟩
  · rw [k175_0 (sT_47 hS) r2 (by rw [r1]; exact sT_75 hS) (by rw [r1, sN_75 hS, hT.1]; exact jin_n hn (by decide)), r1, hT.1, nI_clamp (by omega), ← nI_succ]
  · rw [zI_A, zA_A]
    by_cases e : z = n
    · rw [if_pos ⟨rfl, e⟩, e]; exact hv
    · rw [if_neg (fun w => e w.2)]; exact hT.2 z (by omega)
theorem SFm.nv {σ' : jS} (h : SFm σ σ') (hN : NV σ) : NV σ' := fun k hk => by rw [(h.1.2 70 (by decide)).2]; exact hN k hk
theorem c176 {n k : Nat} {f : Nat → Int32} (hS : SH σ) (hN : NV σ) (hT : TXS σ n f) (hk : k < 19) (hn : n + 3 ≤ 400) (hv : ∀ q, q < nlnN k → f (n + q) = jnmb (3 * k + q)) : ∃ σ', jx (d + 1) 176 0 [some (.ref 47), some (.int (nI k)), none] [] σ = some (none, σ') ∧ SFm σ σ' ∧ TXS σ' (n + nlnN k) f := by
  have r1 : (jR σ 669 47).getD 0 = 70 := by rw [sR_669_47 hS]; rfl
  have r2 : jR σ 669 47 ≠ none := by rw [sR_669_47 hS]; exact fun z => nomatch z
  have st : jx (d + 1) 176 0 [some (.ref 47), some (.int (nI k)), none] [] σ = if nmv k < 729 then jx (d + 1) 176 32 [some (.ref 47), some (.int (nI k)), some (.int (nmv k))] [] σ else jx (d + 1) 176 14 [some (.ref 47), some (.int (nI k)), some (.int (nmv k))] [] σ := by
    rw [k176_0 (sT_47 hS) r2 (by rw [r1]; exact Or.inl (sT_70 hS)) (by rw [r1, sN_70 hS]; exact jin_n hk (by decide)), r1, nI_clamp (by omega), hN k hk]
  rw [st]
  by_cases h5 : k = 5
  · subst h5
    obtain ⟨m0, m1, m2⟩ := nmL2
    obtain ⟨σ1, e1, S1, T1⟩ := c175 (d := d) hS hT (by omega) (v := 96 + nmv 5 / 27) (by rw [m1]; exact (hv 0 (by decide)).symm)
    have hS1 := S1.1.sh hS
    obtain ⟨σ2, e2, S2, T2⟩ := c175 (d := d) hS1 T1 (by omega) (v := 96 + (nmv 5 - nmv 5 / 27 * 27)) (by rw [m2]; exact (hv 1 (by decide)).symm)
    refine ⟨σ2, ?_, S1.trans S2, T2⟩
    rw [if_pos m0, k176_32 (sT_47 hS), e1]
    simp only [Option.bind_some, Option.toList_none, List.nil_append]
    rw [k176_43 (sT_47 hS1), e2]
    simp only [Option.bind_some, Option.toList_none, List.nil_append]
    rw [k176_54]
  · obtain ⟨m0, m1, m2, m3⟩ := nmL3 k hk h5
    have n3 : nlnN k = 3 := if_neg h5
    rw [n3] at hv
    rw [n3]
    obtain ⟨σ1, e1, S1, T1⟩ := c175 (d := d) hS hT (by omega) (v := 96 + nmv k / 729) (by rw [m1]; exact (hv 0 (by decide)).symm)
    have hS1 := S1.1.sh hS
    obtain ⟨σ2, e2, S2, T2⟩ := c175 (d := d) hS1 T1 (by omega) (v := 96 + (nmv k - nmv k / 729 * 729) / 27) (by rw [m2]; exact (hv 1 (by decide)).symm)
    have hS2 := S2.1.sh hS1
    obtain ⟨σ3, e3, S3, T3⟩ := c175 (d := d) hS2 T2 (by omega) (v := 96 + ((nmv k - nmv k / 729 * 729) - (nmv k - nmv k / 729 * 729) / 27 * 27)) (by rw [m3]; exact (hv 2 (by decide)).symm)
    refine ⟨σ3, ?_, (S1.trans S2).trans S3, T3⟩
    rw [if_neg m0, k176_14 (sT_47 hS), e1]
    simp only [Option.bind_some, Option.toList_none, List.nil_append]
    rw [k176_26 (sT_47 hS1), e2]
    simp only [Option.bind_some, Option.toList_none, List.nil_append]
    rw [k176_43 (sT_47 hS2), e3]
    simp only [Option.bind_some, Option.toList_none, List.nil_append]
    rw [k176_54]
theorem c174 {p : Nat} {A : List (Nat → Int32)} (hS : SH σ) (hN : NV σ) (hp : p < 16) (hP : PM σ p A) (hA : ∀ o, o ∈ A → PWF o) : ∃ σ', jx (d + 2) 174 0 [some (.ref 47), some (.int (nI p)), none, none, none, none] [] σ = some (none, σ') ∧ SFm σ σ' ∧ TXS σ' (pLn A) (pAt A) := by
  have l24 := hP.2.1
  have R : ∀ {υ : jS} {g a : Nat}, jR υ g 47 = some a → (jR υ g 47).getD 0 = a ∧ jR υ g 47 ≠ none := fun h => by rw [h]; exact ⟨rfl, fun z => nomatch z⟩
  have L : ∀ f i υ l3 l4 l5, i + f = A.length → SFm σ υ → TXS υ (if i = 0 then 0 else off A i - 1) (pAt A) → ∃ υ', jx (d + 2) 174 7 [some (.ref 47), some (.int (nI p)), some (.int (nI i)), l3, l4, l5] [] υ = some (none, υ') ∧ SFm σ υ' ∧ TXS υ' (if A.length = 0 then 0 else off A A.length - 1) (pAt A) := by
    intro f
    induction f with
    | zero =>
      intro i υ l3 l4 l5 hi F T
      have e : i = A.length := by omega
      subst e
      have hSu := F.1.sh hS
      have q1 := R (sR_661_47 hSu)
      refine ⟨υ, ?_, F, T⟩
      rw [k174_7 (sT_47 hSu) q1.2 (by rw [q1.1]; exact Or.inl (sT_65 hSu)) (by rw [q1.1, sN_65 hSu]; exact jin_n hp (by decide)), q1.1, nI_clamp (by omega), (F.1.2 65 (by decide)).2, hP.1, if_pos (nI_le (Nat.le_refl _) (by omega)), k174_186]
    | succ f ih =>
      intro i υ l3 l4 l5 hi F T
      have hlt : i < A.length := by omega
      have ho := hA _ (mem_getD hlt)
      obtain ⟨pa1, pa2⟩ := pAt_off A i hlt
      have os := off_succ A i hlt
      have ol := off_le A (i + 1) (by omega) hA
      have pm := fun j (hj : j < 4) => hP.2.2 i j hlt hj
      obtain ⟨o, eo⟩ : ∃ o, A.getD i (fun _ => 0) = o := ⟨_, rfl⟩
      rw [eo] at ho pa1 pa2 os pm
      obtain ⟨k1, k2⟩ := ho.opk
      obtain ⟨b1, b2⟩ := own_bd ho
      have nl := nlnN_bd (opO o)
      have r3 := regN3 (opO o)
      have eow : own o = nlnN (opO o) + 2 * (regN (opO o) + numO o) := rfl
      have hSu := F.1.sh hS
      have q1 := R (sR_661_47 hSu)
      have e24 : (24 : Int32) * nI p + nI i = nI (24 * p + i) := by rw [show (24 : Int32) = nI 24 from rfl, nmul, nadd]
      have iK : jin 384 (nI (24 * p + i)) := jin_n (by omega) (by decide)
      have cK : (nI (24 * p + i)).toNatClampNeg = 24 * p + i := nI_clamp (by omega)
      have a : ∀ {τ : jS}, SFm σ τ → ∀ j, j < 4 → jA τ (66 + j) (24 * p + i) = o j := fun G j hj => by rw [(G.1.2 (66 + j) (by simp; omega)).2]; exact pm j hj
      have a66 : ∀ {τ : jS}, SFm σ τ → jA τ 66 (24 * p + i) = nI (opO o) := fun G => by rw [← k2]; exact a G 0 (by decide)
      -- the sign between orders
      have A1 : ∃ υ1, SFm σ υ1 ∧ TXS υ1 (off A i) (pAt A) ∧ jx (d + 2) 174 7 [some (.ref 47), some (.int (nI p)), some (.int (nI i)), l3, l4, l5] [] υ = jx (d + 2) 174 34 [some (.ref 47), some (.int (nI p)), some (.int (nI i)), some (.int (nI (24 * p + i))), l4, l5] [] υ1 := by
        have st : jx (d + 2) 174 7 [some (.ref 47), some (.int (nI p)), some (.int (nI i)), l3, l4, l5] [] υ = if nI i ≤ 0 then jx (d + 2) 174 34 [some (.ref 47), some (.int (nI p)), some (.int (nI i)), some (.int (nI (24 * p + i))), l4, l5] [] υ else jx (d + 2) 174 28 [some (.ref 47), some (.int (nI p)), some (.int (nI i)), some (.int (nI (24 * p + i))), l4, l5] [] υ := by
          rw [k174_7 (sT_47 hSu) q1.2 (by rw [q1.1]; exact Or.inl (sT_65 hSu)) (by rw [q1.1, sN_65 hSu]; exact jin_n hp (by decide)), q1.1, nI_clamp (by omega), (F.1.2 65 (by decide)).2, hP.1, if_neg (nI_ge (by omega) (by omega)), k174_17, e24]
        by_cases i0 : i = 0
        · subst i0
          refine ⟨υ, F, ?_, ?_⟩
          · have : off A 0 = 0 := by cases A <;> rfl
            rw [this]; exact T
          · rw [st, if_pos (by decide)]
        · rw [if_neg i0] at T
          have os' := off_succ A (i - 1) (by omega)
          obtain ⟨_, p59⟩ := pAt_off A (i - 1) (by omega)
          rw [show i - 1 + 1 = i by omega] at os'
          have ob := own_bd (hA _ (mem_getD (os := A) (n := i - 1) (by omega)))
          have ei : off A i - 1 = off A (i - 1) + own (A.getD (i - 1) (fun _ => 0)) := by omega
          obtain ⟨υ1, e1, S1, T1⟩ := c175 (d := d + 1) hSu T (by omega) (v := 59) (by rw [ei, p59])
          refine ⟨υ1, F.trans S1, by rw [show off A i = off A i - 1 + 1 by omega]; exact T1, ?_⟩
          have n0 : ¬ nI i ≤ 0 := by rw [show (0 : Int32) = nI 0 from rfl, n31le (by omega) (by decide)]; omega
          rw [st, if_neg n0, k174_28 (sT_47 hSu), e1]
          simp only [Option.bind_some, Option.toList_none, List.nil_append]
      obtain ⟨υ1, F1, T1, e1⟩ := A1
      have hS1 := F1.1.sh hS
      have s62 := R (sR_662_47 hS1)
      obtain ⟨υ2, e2, S2, T2⟩ := c176 (d := d) hS1 (F1.nv hN) T1 k1 (by omega) (fun q hq => by
        rw [pa1 q (by omega)]
        unfold txB
        rw [if_pos hq])
      have F2 := F1.trans S2
      have hS2 := F2.1.sh hS
      have t62 := R (sR_662_47 hS2)
      have to58 : jx (d + 2) 174 7 [some (.ref 47), some (.int (nI p)), some (.int (nI i)), l3, l4, l5] [] υ = jx (d + 2) 174 58 [some (.ref 47), some (.int (nI p)), some (.int (nI i)), some (.int (nI (24 * p + i))), some (.int (nI (regN (opO o)))), some (.int (nI 0))] [] υ2 := by
        rw [e1, k174_34 (sT_47 hS1) s62.2 (by rw [s62.1]; exact Or.inl (sT_66 hS1)) (by rw [s62.1, sN_66 hS1]; exact iK), s62.1, cK, a66 F1, e2]
        simp only [Option.bind_some, Option.toList_none, List.nil_append]
        rw [k174_44 (sT_47 hS2) t62.2 (by rw [t62.1]; exact Or.inl (sT_66 hS2)) (by rw [t62.1, sN_66 hS2]; exact iK), t62.1, cK, a66 F2, c137 k1]
        simp only [Option.bind_some, Option.toList_some, List.cons_append, List.nil_append]
        rw [k174_53]
        rfl
      have LR : ∀ g j τ, j + g = regN (opO o) → SFm σ τ → TXS τ (off A i + nlnN (opO o) + 2 * j) (pAt A) → ∃ τ', SFm σ τ' ∧ TXS τ' (off A i + nlnN (opO o) + 2 * regN (opO o)) (pAt A) ∧ jx (d + 2) 174 58 [some (.ref 47), some (.int (nI p)), some (.int (nI i)), some (.int (nI (24 * p + i))), some (.int (nI (regN (opO o)))), some (.int (nI j))] [] τ = jx (d + 2) 174 119 [some (.ref 47), some (.int (nI p)), some (.int (nI i)), some (.int (nI (24 * p + i))), some (.int (nI (regN (opO o)))), some (.int (nI (regN (opO o))))] [] τ' := by
        intro g
        induction g with
        | zero =>
          intro j τ hj G U
          have e : j = regN (opO o) := by omega
          subst e
          refine ⟨τ, G, U, ?_⟩
          rw [k174_58, if_pos (nI_le (Nat.le_refl _) (by omega))]
        | succ g ihg =>
          intro j τ hj G U
          have hSt := G.1.sh hS
          obtain ⟨τ1, e3, S3, U1⟩ := c175 (d := d + 1) hSt U (by omega) (v := 32) (by
            rw [show off A i + nlnN (opO o) + 2 * j = off A i + (nlnN (opO o) + 2 * j) by omega, pa1 _ (by omega)]
            unfold txB
            rw [if_neg (by omega), if_pos (by omega)])
          have G1 := G.trans S3
          have hSt1 := G1.1.sh hS
          obtain ⟨τ2, e4, S4, U2⟩ := c175 (d := d + 1) hSt1 U1 (by omega) (v := 97 + o (j + 1)) (by
            rw [show off A i + nlnN (opO o) + 2 * j + 1 = off A i + (nlnN (opO o) + 2 * j + 1) by omega, pa1 _ (by omega)]
            unfold txB
            rw [if_neg (by omega), if_neg (by omega), show (nlnN (opO o) + 2 * j + 1 - nlnN (opO o)) / 2 + 1 = j + 1 by omega, if_pos (by omega), Int32.add_comm])
          obtain ⟨τ', G', U', e'⟩ := ihg (j + 1) τ2 (by omega) (G1.trans S4) (by rw [show off A i + nlnN (opO o) + 2 * (j + 1) = off A i + nlnN (opO o) + 2 * j + 1 + 1 by omega]; exact U2)
          refine ⟨τ', G', U', ?_⟩
          rw [k174_58, if_neg (nI_ge (by omega) (by omega)), k174_65 (sT_47 hSt), e3]
          simp only [Option.bind_some, Option.toList_none, List.nil_append]
          have aj := a G1 (j + 1) (by omega)
          rcases (show j = 0 ∨ j = 1 ∨ j = 2 by omega) with h | h | h
          · subst h
            have t := R (sR_663_47 hSt1)
            rw [k174_71, if_neg (fun z => z rfl), k174_79 (sT_47 hSt1) t.2 (by rw [t.1]; exact Or.inl (sT_67 hSt1)) (by rw [t.1, sN_67 hSt1]; exact iK), t.1, cK, aj, e4]
            simp only [Option.bind_some, Option.toList_none, List.nil_append]
            rw [k174_113, ← nI_succ]
            exact e'
            all_goals exact sT_47 hSt1
          · subst h
            have t := R (sR_664_47 hSt1)
            rw [k174_71, if_pos (by decide), k174_88, if_neg (fun z => z rfl), k174_94 (sT_47 hSt1) t.2 (by rw [t.1]; exact Or.inl (sT_68 hSt1)) (by rw [t.1, sN_68 hSt1]; exact iK), t.1, cK, aj, e4]
            simp only [Option.bind_some, Option.toList_none, List.nil_append]
            rw [k174_113, ← nI_succ]
            exact e'
            all_goals exact sT_47 hSt1
          · subst h
            have t := R (sR_665_47 hSt1)
            rw [k174_71, if_pos (by decide), k174_88, if_pos (by decide), k174_103 (sT_47 hSt1) t.2 (by rw [t.1]; exact Or.inl (sT_69 hSt1)) (by rw [t.1, sN_69 hSt1]; exact iK), t.1, cK, aj, e4]
            simp only [Option.bind_some, Option.toList_none, List.nil_append]
            rw [k174_113, ← nI_succ]
            exact e'
            all_goals exact sT_47 hSt1
      obtain ⟨υ3, F3, T3, e3⟩ := LR (regN (opO o)) 0 υ2 (by omega) F2 T2
      have hS3 := F3.1.sh hS
      have v62 := R (sR_662_47 hS3)
      have nxt : ∀ {τ : jS} {l4' l5' : Option Value}, SFm σ τ → TXS τ (off A i + own o) (pAt A) → ∃ υ', jx (d + 2) 174 180 [some (.ref 47), some (.int (nI p)), some (.int (nI i)), some (.int (nI (24 * p + i))), l4', l5'] [] τ = some (none, υ') ∧ SFm σ υ' ∧ TXS υ' (if A.length = 0 then 0 else off A A.length - 1) (pAt A) := fun {τ l4' l5'} G U => by
        obtain ⟨υ', e', r'⟩ := ih (i + 1) τ (some (.int (nI (24 * p + i)))) l4' l5' (by omega) G (by rw [if_neg (by omega), os, show off A i + own o + 1 - 1 = off A i + own o by omega]; exact U)
        exact ⟨υ', by rw [k174_180, ← nI_succ]; exact e', r'⟩
      have to128 : jx (d + 2) 174 7 [some (.ref 47), some (.int (nI p)), some (.int (nI i)), l3, l4, l5] [] υ = jx (d + 2) 174 128 [some (.ref 47), some (.int (nI p)), some (.int (nI i)), some (.int (nI (24 * p + i))), some (.int (nI (regN (opO o)))), some (.int (nI (regN (opO o))))] [.int (if numN (opO o) = true then 1 else 0)] υ3 := by
        rw [to58, e3, k174_119 (sT_47 hS3) v62.2 (by rw [v62.1]; exact Or.inl (sT_66 hS3)) (by rw [v62.1, sN_66 hS3]; exact iK), v62.1, cK, a66 F3, c143 k1]
        simp only [Option.bind_some, Option.toList_some, List.cons_append, List.nil_append]
      by_cases hn : numN (opO o) = true
      · have n1 := numN1 hn
        have e1' : numO o = 1 := if_pos hn
        obtain ⟨y, y8, ey⟩ := ho.y
        obtain ⟨t1, t2⟩ := ten8 y y8
        obtain ⟨υ4, e4, S4, T4⟩ := c175 (d := d + 1) hS3 T3 (by omega) (v := 32) (by
          rw [show off A i + nlnN (opO o) + 2 * regN (opO o) = off A i + (nlnN (opO o) + 2 * regN (opO o)) by omega, pa1 _ (by omega)]
          unfold txB
          rw [if_neg (by omega), if_pos (by omega)])
        have F4 := F3.trans S4
        have hS4 := F4.1.sh hS
        have w64 := R (sR_664_47 hS4)
        obtain ⟨υ5, e5, S5, T5⟩ := c175 (d := d + 1) hS4 T4 (by omega) (v := 48 + nI y) (by
          rw [show off A i + nlnN (opO o) + 2 * regN (opO o) + 1 = off A i + (nlnN (opO o) + 2 * regN (opO o) + 1) by omega, pa1 _ (by omega)]
          unfold txB
          rw [if_neg (by omega), if_neg (by omega), show (nlnN (opO o) + 2 * regN (opO o) + 1 - nlnN (opO o)) / 2 + 1 = 2 by omega, if_neg (by omega), Int32.add_comm, ey])
        have a68 : jA υ4 68 (24 * p + i) = nI y := by rw [← ey]; exact a F4 2 (by decide)
        obtain ⟨υ', e6, r6⟩ := nxt (l4' := some (.int (nI (regN (opO o))))) (l5' := some (.int (nI (regN (opO o))))) (F4.trans S5) (by rw [show off A i + own o = off A i + nlnN (opO o) + 2 * regN (opO o) + 1 + 1 by omega]; exact T5)
        refine ⟨υ', ?_, r6⟩
        rw [to128, if_pos hn, k174_128, if_neg (by decide), k174_131 (sT_47 hS3), e4]
        simp only [Option.bind_some, Option.toList_none, List.nil_append]
        rw [k174_137 (sT_47 hS4) w64.2 (by rw [w64.1]; exact Or.inl (sT_68 hS4)) (by rw [w64.1, sN_68 hS4]; exact iK), w64.1, cK, a68, if_pos t1, k174_164 (sT_47 hS4) w64.2 (by rw [w64.1]; exact Or.inl (sT_68 hS4)) (by rw [w64.1, sN_68 hS4]; exact iK), w64.1, cK, a68, t2, e5]
        simp only [Option.bind_some, Option.toList_none, List.nil_append]
        exact e6
      · have e0' : numO o = 0 := if_neg hn
        obtain ⟨υ', e6, r6⟩ := nxt (l4' := some (.int (nI (regN (opO o))))) (l5' := some (.int (nI (regN (opO o))))) F3 (by rw [show off A i + own o = off A i + nlnN (opO o) + 2 * regN (opO o) by omega]; exact T3)
        refine ⟨υ', ?_, r6⟩
        rw [to128, if_neg hn, k174_128, if_pos rfl]
        exact e6
  have F0 : SFm σ (jsI σ 675 47 0) := ⟨(FR.refl _ σ).I (by decide), fun g hg => by rw [zI_I, if_neg (fun z => hg z.1)]⟩
  obtain ⟨υ', e', F', T'⟩ := L A.length 0 (jsI σ 675 47 0) none none none (by omega) F0 ⟨by rw [zI_I, if_pos ⟨rfl, rfl⟩]; rfl, fun z hz => absurd hz (Nat.not_lt_zero z)⟩
  refine ⟨υ', ?_, F', ?_⟩
  · rw [k174_0 (sT_47 hS)]
    exact e'
  · by_cases h : A = []
    · subst h; exact T'
    · have := pLn_off A h
      have l0 : ¬ A.length = 0 := fun z => h (List.eq_nil_of_length_eq_zero z)
      rw [if_neg l0] at T'
      rw [show pLn A = off A A.length - 1 by omega]
      exact T'
theorem sim_letter (hR : REL s cr cp qr qp σ) (x y : Int32) : SimR (d + 6) 88 173 [some (.int x), some (.int y), none] [some (.int x), some (.int y)] true σ := by
  have hR0 := hR
  obtain ⟨hS, hx, hs, hC, hM⟩ := hR
  have hl := hs.p16
  by_cases h : inR x s.ps.length
  · obtain ⟨p, hp, ep⟩ := inR_nat (by omega) h
    have a1 := c86y (d := d + 5) hS hC hs hp
    rw [← ep] at a1
    have a2 := c170y (d := d + 4) hS hM hs h
    have fA := hs.fp _ (mem_ps hp)
    obtain ⟨σ2, e2, F2, T2⟩ := c174 (d := d + 3) hS hM.nv (p := p) (by omega) (hM.ps p hp) fA.2
    have hS2 := F2.1.sh hS
    have hM2 : CM s σ2 := by
      have z := fun b (hb : b ∉ [47, 75]) i => (F2.1.2 b hb).2 i
      have I := F2.2
      refine ⟨fun j hj => by rw [z 70 (by decide)]; exact hM.nv j hj, by rw [I 644 (by decide)]; exact hM.nr, by rw [I 660 (by decide)]; exact hM.np, by rw [I 640 (by decide)]; exact hM.w, by rw [I 682 (by decide)]; exact hM.ap, ⟨by rw [I 642 (by decide)]; exact hM.tm.1, hM.tm.2.1, fun j hj => by rw [z 48 (by decide)]; exact hM.tm.2.2 j hj⟩, by rw [I 678 (by decide)]; exact hM.ns, fun j w hj hw => by rw [z (78 + w) (by simp; omega)]; exact hM.tl j w hj hw, fun j hj => ?_, fun j hj => ?_⟩
      · obtain ⟨⟨rg, m⟩, m1, m2, m3, m4⟩ := hM.rs j hj
        exact ⟨⟨rg, m.frame F2.1 (fun a x y => by simp; omega)⟩, by rw [z 60 (by decide)]; exact m1, by rw [z 61 (by decide)]; exact m2, by rw [z 63 (by decide)]; exact m3, by rw [z 64 (by decide)]; exact m4⟩
      · obtain ⟨p1, p2, p3⟩ := hM.ps j hj
        exact ⟨by rw [z 65 (by decide)]; exact p1, p2, fun k w hk hw => by rw [z (66 + w) (by simp; omega)]; exact p3 k w hk hw⟩
    have sc2 := F2.1.sc (fun a ha => by simp at ha; omega)
    have nx2 : jnx σ2 = jnx σ := F2.1.1.2.2.2.2.1
    have sl2 : jsl σ2 = jsl σ := F2.1.1.2.2.2.2.2
    have fin : ∀ v : Int32, jx (d + 6) 88 0 [some (.ref 16), some (.int x), some (.int y), none] [] σ = some (some (.int v), σ) → jx (d + 6) 173 0 [some (.ref 47), some (.int x), some (.int y)] [] σ = some (some (.int v), σ2) → SimR (d + 6) 88 173 [some (.int x), some (.int y), none] [some (.int x), some (.int y)] true σ := fun v h1 h2 => ⟨v, v, σ, σ2, s, cr, cp, qr, qp, h1, h2, ⟨hS2, by omega, hs, CX.sc (by omega) hC sc2, hM2⟩, by omega, by omega, sc2.low (by omega), fun _ => rfl⟩
    have pl400 : pLn (s.ps.getD p []) ≤ 240 := by
      by_cases h0 : s.ps.getD p [] = []
      · rw [h0]; exact Nat.zero_le _
      · have := pLn_off _ h0
        have := off_le (s.ps.getD p []) _ (Nat.le_refl _) fA.2
        omega
    rw [← ep] at e2
    have s1 : jx (d + 6) 88 0 [some (.ref 16), some (.int x), some (.int y), none] [] σ = if 0 ≤ y then jx (d + 6) 88 16 [some (.ref 16), some (.int x), some (.int y), some (.ref (qp p))] [] σ else jx (d + 6) 88 14 [some (.ref 16), some (.int x), some (.int y), some (.ref (qp p))] [] σ := by
      rw [k88_0 (sT_16 hS), a1]
      simp only [Option.bind_some, Option.toList_some, List.cons_append, List.nil_append]
      rw [k88_5R]
    have s2 : jx (d + 6) 173 0 [some (.ref 47), some (.int x), some (.int y)] [] σ = (some (some (.int (if 0 ≤ y ∧ y ≤ nI (pLn (s.ps.getD p [])) then 1 else 0)), σ2) : jr).bind (fun z => jx (d + 6) 173 26 [some (.ref 47), some (.int x), some (.int y)] (z.1.toList ++ []) z.2) := by
      rw [k173_0 (sT_47 hS), a2]
      simp only [Option.bind_some, Option.toList_some, List.cons_append, List.nil_append]
      rw [k173_5, if_pos (by decide), k173_10 (sT_47 hS), e2]
      simp only [Option.bind_some, Option.toList_none, List.nil_append]
      rw [k173_15 (sT_47 hS2), T2.1, cin0]
      simp only [Option.bind_some, Option.toList_some, List.cons_append, List.nil_append]
    by_cases h0 : 0 ≤ y
    · obtain ⟨r, hr31, er⟩ : ∃ r, r < 2 ^ 31 ∧ y = nI r := by
        refine ⟨y.toInt.toNat, ?_, ?_⟩
        · have := y.toInt_lt
          have h0' := Int32.le_iff_toInt_le.mp h0
          have z : (0 : Int32).toInt = 0 := rfl
          omega
        · have h0' := Int32.le_iff_toInt_le.mp h0
          have z : (0 : Int32).toInt = 0 := rfl
          have hlt := y.toInt_lt
          apply Int32.toInt_inj.mp
          rw [nI_toInt (by omega)]
          omega
      have c8 := c89 (d := d) hS hC.st (hC.ps p hp) fA.2 hr31
      have v1 : jx (d + 6) 88 0 [some (.ref 16), some (.int x), some (.int y), none] [] σ = some (some (.int (letF (s.ps.getD p []) r)), σ) := by
        rw [s1, if_pos h0, er, k88_16R (hC.ps p hp).1.1, c8]
        simp only [Option.bind_some, Option.toList_some, List.cons_append, List.nil_append]
        rw [k88_21]
      refine fin _ v1 ?_
      rw [s2]
      unfold letF
      by_cases g1 : r ≤ pLn (s.ps.getD p [])
      · have c : 0 ≤ y ∧ y ≤ nI (pLn (s.ps.getD p [])) := ⟨h0, by rw [er]; exact nI_le g1 (by omega)⟩
        rw [if_pos c]
        simp only [Option.bind_some, Option.toList_some, List.cons_append, List.nil_append]
        rw [k173_26, if_pos (by decide), k173_31 (sT_47 hS2), T2.1]
        by_cases g2 : r = pLn (s.ps.getD p [])
        · rw [if_neg (fun z => z (by rw [er, g2])), k173_39, if_neg (by omega), if_pos g2]
        · have q1 : (jR σ2 674 47).getD 0 = 75 := by rw [sR_674_47 hS2]; rfl
          have q2 : jR σ2 674 47 ≠ none := by rw [sR_674_47 hS2]; exact fun z => nomatch z
          rw [if_pos (by rw [er, n31eq hr31 (by omega)]; exact g2), er, k173_43 (sT_47 hS2) q2 (by rw [q1]; exact Or.inl (sT_75 hS2)) (by rw [q1, sN_75 hS2]; exact jin_n (by omega) (by decide)), q1, nI_clamp (by omega), T2.2 r (by omega), if_pos (by omega)]
      · have c : ¬ (0 ≤ y ∧ y ≤ nI (pLn (s.ps.getD p []))) := fun z => g1 (by have := z.2; rw [er, n31le hr31 (by omega)] at this; exact this)
        rw [if_neg c]
        simp only [Option.bind_some, Option.toList_some, List.cons_append, List.nil_append]
        rw [k173_26, if_neg (fun z => z rfl), k173_29, if_neg (by omega), if_neg (by omega)]
    · have c : ¬ (0 ≤ y ∧ y ≤ nI (pLn (s.ps.getD p []))) := fun z => h0 z.1
      refine fin (-1) (by rw [s1, if_neg h0, k88_14]) ?_
      rw [s2, if_neg c]
      simp only [Option.bind_some, Option.toList_some, List.cons_append, List.nil_append]
      rw [k173_26, if_neg (fun z => z rfl), k173_29]
  · have a1 := c86n (d := d + 5) hS hC h
    have a2 := c170n (d := d + 4) hS hM hs h
    refine SimR.read hR0 (a := -1) (a' := -1) ?_ ?_ (fun _ => rfl)
    · rw [k88_0 (sT_16 hS), a1]
      simp only [Option.bind_some, Option.toList_some, List.cons_append, List.nil_append]
      rw [k88_5N]
    · rw [k173_0 (sT_47 hS), a2]
      simp only [Option.bind_some, Option.toList_some, List.cons_append, List.nil_append]
      rw [k173_5, if_neg (fun z => z rfl), k173_8]
end LE2
end S_9l
section S_9m
/-! a rule's place, made or used again -/
theorem RW.js {σ σ' : jS} {q a m n : Nat} (h : RW σ q a m n) (x : jsm σ σ' q) (y : jsm σ σ' a) : RW σ' q a m n := by
  obtain ⟨r1, r2, r3, r4, r5, r6, r7, r8⟩ := h
  exact ⟨by rw [x.1]; exact r1, by rw [x.2.2.2.1]; exact r2, by rw [y.1]; exact r3, by rw [y.2.1]; exact r4, by rw [x.2.2.1]; exact r5, by rw [x.2.2.1]; exact r6, r7, r8⟩
section FRU
variable {d : Nat} {σ : jS} {s : AS} {cr cp : Nat} {qr qp : Nat → Nat}
theorem c19 {q : Nat} (tq : jT σ q = 6) (hq : q + 1 = jnx σ) (hb : 81 ≤ q) : ∃ σ', jx (d + 2) 19 0 [some (.ref q)] [] σ = some (none, σ') ∧ jnx σ' = q + 7 ∧ jsl σ' = jsl σ + 76 ∧ (∀ a, a < q → jsm σ σ' a) ∧ RU σ' q (q + 1) (q + 2) (q + 3) (q + 4) (q + 5) (q + 6) ∧ RW σ' (q + 1) (q + 2) 4 0 ∧ RW σ' (q + 3) (q + 4) 4 0 := by
  obtain ⟨τ1, e1⟩ : ∃ τ, jnO σ 4 3 = τ := ⟨_, rfl⟩
  have t1 : jT τ1 (q + 1) = 5 := by rw [← e1, zO_T, if_pos hq]
  have n1 : jnx τ1 = q + 2 := by rw [← e1, zO_nx, ← hq]
  have j1 : ∀ a, a < q + 1 → jsm σ τ1 a := fun a ha => e1 ▸ jsm_O (by omega)
  obtain ⟨υ1, c1, n2, l2, j2, w2, _⟩ := c9 (d := d) (σ := τ1) (q := q + 1) (m := 4) t1 (by omega) (by decide)
  rw [n1] at w2 n2 j2
  obtain ⟨τ3, e3⟩ : ∃ τ, jsR υ1 320 q (some (q + 1)) = τ := ⟨_, rfl⟩
  have j3 : ∀ a, a ≠ q → jsm υ1 τ3 a := fun a ha => e3 ▸ jsm_R ha
  have n3 : jnx τ3 = q + 3 := by rw [← e3, zR_nx, n2]
  obtain ⟨τ4, e4⟩ : ∃ τ, jnO τ3 4 3 = τ := ⟨_, rfl⟩
  have t4 : jT τ4 (q + 3) = 5 := by rw [← e4, zO_T, if_pos n3.symm]
  have n4 : jnx τ4 = q + 4 := by rw [← e4, zO_nx, n3]
  have j4 : ∀ a, a < q + 3 → jsm τ3 τ4 a := fun a ha => e4 ▸ jsm_O (by omega)
  obtain ⟨υ2, c2, n5, l5, j5, w5, _⟩ := c9 (d := d) (σ := τ4) (q := q + 3) (m := 4) t4 (by omega) (by decide)
  rw [n4] at w5 n5 j5
  obtain ⟨τ6, e6⟩ : ∃ τ, jsR υ2 321 q (some (q + 3)) = τ := ⟨_, rfl⟩
  have j6 : ∀ a, a ≠ q → jsm υ2 τ6 a := fun a ha => e6 ▸ jsm_R ha
  have n6 : jnx τ6 = q + 5 := by rw [← e6, zR_nx, n5]
  obtain ⟨τ7, e7⟩ : ∃ τ, jnA τ6 0 11 = τ := ⟨_, rfl⟩
  have n7 : jnx τ7 = q + 6 := by rw [← e7, zB_nx, n6]
  have j7 : ∀ a, a < q + 5 → jsm τ6 τ7 a := fun a ha => e7 ▸ jsm_B (by omega)
  obtain ⟨τ8, e8⟩ : ∃ τ, jsR τ7 322 q (some (q + 5)) = τ := ⟨_, rfl⟩
  have j8 : ∀ a, a ≠ q → jsm τ7 τ8 a := fun a ha => e8 ▸ jsm_R ha
  have n8 : jnx τ8 = q + 6 := by rw [← e8, zR_nx, n7]
  obtain ⟨τ9, e9⟩ : ∃ τ, jnA τ8 0 11 = τ := ⟨_, rfl⟩
  have n9 : jnx τ9 = q + 7 := by rw [← e9, zB_nx, n8]
  have j9 : ∀ a, a < q + 6 → jsm τ8 τ9 a := fun a ha => e9 ▸ jsm_B (by omega)
  obtain ⟨ω, eω⟩ : ∃ τ, jsR τ9 323 q (some (q + 6)) = τ := ⟨_, rfl⟩
  have jω : ∀ a, a ≠ q → jsm τ9 ω a := fun a ha => eω ▸ jsm_R ha
  have nω : jnx ω = q + 7 := by rw [← eω, zR_nx, n9]
  have lω : jsl ω = jsl σ + 76 := by rw [← eω, zR_sl, ← e9, zB_sl, ← e8, zR_sl, ← e7, zB_sl, ← e6, zR_sl, l5, ← e4, zO_sl, ← e3, zR_sl, l2, ← e1, zO_sl]
  -- the type of q all along
  have tq1 : jT τ1 q = 6 := by rw [(j1 q (by omega)).1]; exact tq
  have tq2 : jT υ1 q = 6 := by rw [(j2 q (by omega) (by omega)).1]; exact tq1
  have tq3 : jT τ3 q = 6 := by rw [← e3, zR_T]; exact tq2
  have tq4 : jT τ4 q = 6 := by rw [(j4 q (by omega)).1]; exact tq3
  have tq5 : jT υ2 q = 6 := by rw [(j5 q (by omega) (by omega)).1]; exact tq4
  have tq6 : jT τ6 q = 6 := by rw [← e6, zR_T]; exact tq5
  have tq7 : jT τ7 q = 6 := by rw [(j7 q (by omega)).1]; exact tq6
  have tq8 : jT τ8 q = 6 := by rw [← e8, zR_T]; exact tq7
  have tq9 : jT τ9 q = 6 := by rw [(j9 q (by omega)).1]; exact tq8
  have up : ∀ a, a < q + 5 → a ≠ q → jsm υ2 ω a := fun a ha hq => ((((j6 a hq).trans (j7 a ha)).trans (j8 a hq)).trans (j9 a (by omega))).trans (jω a hq)
  have up1 : ∀ a, a < q + 3 → a ≠ q → jsm υ1 ω a := fun a ha hq => (((j3 a hq).trans (j4 a ha)).trans (j5 a (by omega) (by omega))).trans (up a (by omega) hq)
  refine ⟨ω, ?_, nω, lω, fun a ha => ((j1 a (by omega)).trans (j2 a (by omega) (by omega))).trans (up1 a (by omega) (by omega)), ?_, w2.js (up1 _ (by omega) (by omega)) (up1 _ (by omega) (by omega)), w5.js (up _ (by omega) (by omega)) (up _ (by omega) (by omega))⟩
  · have c1' : jx (d + 1) 9 0 [some (.ref (q + 1)), some (.int 4)] [] τ1 = some (none, υ1) := c1
    have c2' : jx (d + 1) 9 0 [some (.ref (q + 3)), some (.int 4)] [] τ4 = some (none, υ2) := c2
    have k11 : (11 : Int32).toNatClampNeg = 11 := rfl
    rw [k19_0 (by rw [e1, ← hq]; exact t1), e1, ← hq, c1']
    simp only [Option.bind_some, Option.toList_none, List.nil_append]
    rw [k19_13 tq2 (by rw [e3, e4, n2]; exact t4), e3, e4, n2, c2']
    simp only [Option.bind_some, Option.toList_none, List.nil_append]
    rw [k19_25 tq5 (by rw [k11, e6, e7]; exact tq7) (by rw [k11, e6, e7, n5, e8, e9]; exact tq9), k11, e6, e7, n5, e8, e9, n7, eω]
  · have T : ∀ {α β : jS} {a : Nat}, jsm α β a → jT β a = jT α a := fun h => h.1
    have N : ∀ {α β : jS} {a : Nat}, jsm α β a → jN β a = jN α a := fun h => h.2.1
    have t5 : jT τ7 (q + 5) = 20 := by rw [← e7, zB_T, if_pos n6.symm]
    have m5 : jN τ7 (q + 5) = 11 := by rw [← e7, zB_N, if_pos n6.symm]
    have t6 : jT τ9 (q + 6) = 20 := by rw [← e9, zB_T, if_pos n8.symm]
    have m6 : jN τ9 (q + 6) = 11 := by rw [← e9, zB_N, if_pos n8.symm]
    have s5 : jsm τ7 ω (q + 5) := ((j8 _ (by omega)).trans (j9 _ (by omega))).trans (jω _ (by omega))
    have s6 : jsm τ9 ω (q + 6) := jω _ (by omega)
    have R9 : ∀ g, jR τ9 g q = jR τ8 g q := (j9 q (by omega)).2.2.2.1
    have R7 : ∀ g, jR τ7 g q = jR τ6 g q := (j7 q (by omega)).2.2.2.1
    have R5 : ∀ g, jR υ2 g q = jR τ4 g q := (j5 q (by omega) (by omega)).2.2.2.1
    have R4 : ∀ g, jR τ4 g q = jR τ3 g q := (j4 q (by omega)).2.2.2.1
    refine ⟨by rw [← eω, zR_T]; exact tq9, ?_, ?_, ?_, ?_, by rw [T s5]; exact t5, by rw [N s5]; exact m5, by rw [T s6]; exact t6, by rw [N s6]; exact m6, ?_⟩
    · rw [← eω, zR_R, if_neg (fun z => absurd z.1 (by decide)), R9, ← e8, zR_R, if_neg (fun z => absurd z.1 (by decide)), R7, ← e6, zR_R, if_neg (fun z => absurd z.1 (by decide)), R5, R4, ← e3, zR_R, if_pos ⟨rfl, rfl⟩]
    · rw [← eω, zR_R, if_neg (fun z => absurd z.1 (by decide)), R9, ← e8, zR_R, if_neg (fun z => absurd z.1 (by decide)), R7, ← e6, zR_R, if_pos ⟨rfl, rfl⟩]
    · rw [← eω, zR_R, if_neg (fun z => absurd z.1 (by decide)), R9, ← e8, zR_R, if_pos ⟨rfl, rfl⟩]
    · rw [← eω, zR_R, if_pos ⟨rfl, rfl⟩]
    · simp
/-- the class has worked in the free place of a rule and in its scratch -/
theorem CX.freeR {σ' : jS} {l : List Nat} (hC : CX s cr cp qr qp σ) (hc : s.rs.length < cr) (f : FR l σ σ') (hl : ∀ x : Nat, x ∈ l → (qr s.rs.length ≤ x ∧ x < qr s.rs.length + 7) ∨ x ∈ rdl ∨ x ∈ [29, 30, 31, 32, 33, 35, 36, 37]) (h1 : jI σ' 256 (qr s.rs.length + 1) = jI σ 256 (qr s.rs.length + 1)) (h3 : jI σ' 256 (qr s.rs.length + 3) = jI σ 256 (qr s.rs.length + 3)) (w1 : ∃ n, RW σ' 30 31 4 n) (w2 : ∃ n, RW σ' 32 33 4 n) : CX s cr cp qr qp σ' := by
  have bq := hC.dj.r s.rs.length hc
  have small : ∀ x : Nat, x ∈ rdl ∨ x ∈ [29, 30, 31, 32, 33, 35, 36, 37] → x < 81 ∧ x ∈ scr2 := fun x hx => by
    rcases hx with q | q
    · exact (by decide : ∀ x : Nat, x ∈ rdl → x < 81 ∧ x ∈ scr2) x q
    · exact (by decide : ∀ x : Nat, x ∈ [29, 30, 31, 32, 33, 35, 36, 37] → x < 81 ∧ x ∈ scr2) x q
  have nl : ∀ x, x < 81 → x ∉ rdl → x ∉ [29, 30, 31, 32, 33, 35, 36, 37] → x ∉ l := fun x h1 h2 h3 z => by
    rcases hl x z with q | q | q
    · omega
    · exact h2 q
    · exact h3 q
  have out : ∀ i, i < cr → i ≠ s.rs.length → ∀ z, qr i ≤ z → z < qr i + 7 → z ∉ l := fun i hi hik z h1 h2 hz => by
    have := hC.dj.rr i s.rs.length hi hc hik
    have := hC.dj.r i hi
    rcases hl z hz with q | q
    · omega
    · have := (small z q).1; omega
  have outp : ∀ i, i < cp → ∀ z, qp i ≤ z → z < qp i + 2 → z ∉ l := fun i hi z h1 h2 hz => by
    have := hC.dj.rp s.rs.length i hc hi
    have := hC.dj.p i hi
    rcases hl z hz with q | q
    · omega
    · have := (small z q).1; omega
  have i16 := (f.2 16 (nl 16 (by decide) (by decide) (by decide))).1
  refine hC.gen f (fun z hz => ?_) (by rw [i16]; exact hC.nr) (by rw [i16]; exact hC.np) (by rw [i16]; exact hC.w) (by rw [i16]; exact hC.ap) rfl rfl (by rw [(f.2 43 (nl 43 (by decide) (by decide) (by decide))).1]; exact hC.ns) (fun j v hj hv => by rw [(f.2 44 (nl 44 (by decide) (by decide) (by decide))).2]; exact hC.tl j v hj hv) w1 w2 ?_ hC.lr.1 hC.lp.1 (fun i hi => ?_) (fun i hi => ?_) (fun i hi => ?_) (fun i hi => ?_)
  · rcases hl z hz with q | q
    · exact Or.inr (by omega)
    · exact Or.inl (small z q).2
  · obtain ⟨n, w⟩ := hC.w3; exact ⟨n, w.frame f (nl 41 (by decide) (by decide) (by decide))⟩
  · by_cases e : i = s.rs.length
    · rw [e]
      obtain ⟨a, b, c⟩ := (hC.gr _ hc).2
      exact ⟨a.frame f, RS.fr256 b f h1, RS.fr256 c f h3⟩
    · exact (hC.gr i hi).2.fr f (out i hi e _ (by omega) (by omega)) (out i hi e _ (by omega) (by omega))
  · exact (hC.gp i hi).2.fr f (outp i hi _ (by omega) (by omega))
  · have := hC.lr.1
    exact (hC.rs i hi).fr f (out i (by omega) (by omega))
  · have := hC.lp.1
    exact (hC.ps i hi).frame f (outp i (by omega) _ (by omega) (by omega)) (outp i (by omega) _ (by omega) (by omega))
theorem c20 {q : Nat} (hU : RU σ q (q + 1) (q + 2) (q + 3) (q + 4) (q + 5) (q + 6)) (h1 : RS σ (q + 1) (q + 2) 4) (h3 : RS σ (q + 3) (q + 4) 4) (hq : 81 ≤ q) : ∃ σ', jx d 20 0 [some (.ref q)] [] σ = some (none, σ') ∧ FR [q, q + 1, q + 3] σ σ' ∧ RW σ' (q + 1) (q + 2) 4 0 ∧ RW σ' (q + 3) (q + 4) 4 0 ∧ (jI σ' 328 q = 0 ∧ jI σ' 329 q = 0 ∧ jI σ' 332 q = 1) ∧ jI σ' 256 (q + 1) = jI σ 256 (q + 1) ∧ jI σ' 256 (q + 3) = jI σ 256 (q + 3) := by
  have hU0 := hU
  obtain ⟨u1, u2, u3, -⟩ := hU
  have r1 : (jR σ 320 q).getD 0 = q + 1 := by rw [u2]; rfl
  have r2 : (jR σ 321 q).getD 0 = q + 3 := by rw [u3]; rfl
  obtain ⟨τ, eτ⟩ : ∃ τ, jsI (jsI (jsI (jsI (jsI (jsI (jsI (jsI (jsI (jsI (jsI σ 257 (q + 1) 0) 257 (q + 3) 0) 324 q 0) 325 q 0) 326 q 0) 327 q 0) 328 q 0) 329 q 0) 330 q 0) 331 q 0) 332 q 1 = τ := ⟨_, rfl⟩
  have F : FR [q, q + 1, q + 3] σ τ := by
    rw [← eτ]
    exact (((((((((((FR.refl _ σ).I (by simp) (by omega)).I (by simp) (by omega)).I (by simp) (by omega)).I (by simp) (by omega)).I (by simp) (by omega)).I (by simp) (by omega)).I (by simp) (by omega)).I (by simp) (by omega)).I (by simp) (by omega)).I (by simp) (by omega)).I (by simp) (by omega)
  have I : ∀ g a, jI τ g a = if g = 332 ∧ a = q then 1 else if g = 331 ∧ a = q then 0 else if g = 330 ∧ a = q then 0 else if g = 329 ∧ a = q then 0 else if g = 328 ∧ a = q then 0 else if g = 327 ∧ a = q then 0 else if g = 326 ∧ a = q then 0 else if g = 325 ∧ a = q then 0 else if g = 324 ∧ a = q then 0 else if g = 257 ∧ a = q + 3 then 0 else if g = 257 ∧ a = q + 1 then 0 else jI σ g a := fun g a => by
    rw [← eτ, zI_I, zI_I, zI_I, zI_I, zI_I, zI_I, zI_I, zI_I, zI_I, zI_I, zI_I]
  have n1 : ¬ q + 1 = q := by omega
  have n3 : ¬ q + 3 = q := by omega
  have n13 : ¬ q + 1 = q + 3 := by omega
  have a1 : jI τ 256 (q + 1) = jI σ 256 (q + 1) := by rw [I]; simp only [n1, and_false, ↓reduceIte, false_and, show ¬ (256 : Nat) = 257 by decide]
  have a3 : jI τ 256 (q + 3) = jI σ 256 (q + 3) := by rw [I]; simp only [n3, and_false, ↓reduceIte, false_and, show ¬ (256 : Nat) = 257 by decide]
  have b1 : jI τ 257 (q + 1) = 0 := by rw [I]; simp only [n1, n13, and_false, ↓reduceIte, and_self]
  have b3 : jI τ 257 (q + 3) = 0 := by rw [I]; simp only [n3, and_false, ↓reduceIte, and_self]
  refine ⟨τ, ?_, F, ?_, ?_, ⟨?_, ?_, ?_⟩, a1, a3⟩
  · rw [k20_0 u1 (by rw [u2]; exact fun z => nomatch z) (by rw [r1]; exact h1.1) (by rw [u3]; exact fun z => nomatch z) (by rw [r2]; exact h3.1), r1, r2, eτ]
  · obtain ⟨s1, s2, s3, s4, s5, s6⟩ := h1
    exact ⟨by rw [F.1.1]; exact s1, by rw [F.1.2.2.1]; exact s2, by rw [F.1.1]; exact s3, by rw [F.1.2.1]; exact s4, by rw [a1]; exact s5, b1, Nat.zero_le _, s6⟩
  · obtain ⟨s1, s2, s3, s4, s5, s6⟩ := h3
    exact ⟨by rw [F.1.1]; exact s1, by rw [F.1.2.2.1]; exact s2, by rw [F.1.1]; exact s3, by rw [F.1.2.1]; exact s4, by rw [a3]; exact s5, b3, Nat.zero_le _, s6⟩
  · rw [I]; simp (decide := true) only [↓reduceIte, false_and, and_self]
  · rw [I]; simp (decide := true) only [↓reduceIte, false_and, and_self]
  · rw [I]; simp (decide := true) only [↓reduceIte, and_self]
end FRU
end S_9m
section S_9n
/-! a rule's place: freshRule -/
section FR2
variable {d : Nat} {σ : jS} {s : AS} {cr cp : Nat} {qr qp : Nat → Nat}
theorem c18 (hS : SH σ) (hx : 81 ≤ jnx σ) (hC : CX s cr cp qr qp σ) (hn : s.rs.length < 24) : ∃ σ' cr' qr', jx (d + 3) 18 0 [some (.ref 16), none] [] σ = some (some (.ref (qr' s.rs.length)), σ') ∧ CX s cr' cp qr' qp σ' ∧ s.rs.length < cr' ∧ RW σ' (qr' s.rs.length + 1) (qr' s.rs.length + 2) 4 0 ∧ RW σ' (qr' s.rs.length + 3) (qr' s.rs.length + 4) 4 0 ∧ (jI σ' 328 (qr' s.rs.length) = 0 ∧ jI σ' 329 (qr' s.rs.length) = 0 ∧ jI σ' 332 (qr' s.rs.length) = 1) ∧ SH σ' ∧ sameM σ σ' ∧ low σ σ' ∧ jnx σ ≤ jnx σ' ∧ jnx σ' ≤ jnx σ + 7 ∧ jsl σ' ≤ jsl σ + 89 := by
  have rg : ∀ {υ : jS}, SH υ → (jR υ 583 16).getD 0 = 45 := fun h => by rw [sR_583_16 h]; rfl
  have rn : ∀ {υ : jS}, SH υ → jR υ 583 16 ≠ none := fun h => by rw [sR_583_16 h]; exact fun z => nomatch z
  have g24 : ¬ Int32.ofNat 24 ≤ nI s.rs.length := nI_ge (by omega) (by omega)
  have gn : jin 24 (nI s.rs.length) := jin_n hn (by decide)
  have qn : (nI s.rs.length).toNatClampNeg = s.rs.length := nI_clamp (by omega)
  have start : jx (d + 3) 18 0 [some (.ref 16), none] [] σ = jx (d + 3) 18 21 [some (.ref 16), none] [va_rf (jG σ 45 s.rs.length)] σ := by
    rw [k18_0 (sT_16 hS) (rn hS) (by rw [rg hS, sT_45 hS]; decide), rg hS, sN_45 hS, hC.nr, if_neg g24, k18_12 (sT_16 hS) (rn hS) (by rw [rg hS, sT_45 hS]; decide) (by rw [rg hS, sN_45 hS, hC.nr]; exact gn), rg hS, hC.nr, qn]
  -- what is left: the place is there, now it is cleared
  have fin : ∀ (τ : jS) (cr' : Nat) (qr' : Nat → Nat), jx (d + 3) 18 0 [some (.ref 16), none] [] σ = (jx (d + 2) 20 0 [some (.ref (qr' s.rs.length))] [] τ).bind (fun z => jx (d + 3) 18 64 [some (.ref 16), some (.ref (qr' s.rs.length))] (z.1.toList ++ []) z.2) → CX s cr' cp qr' qp τ → s.rs.length < cr' → SH τ → sameM σ τ → low σ τ → jnx σ ≤ jnx τ → jnx τ ≤ jnx σ + 7 → jsl τ ≤ jsl σ + 89 → ∃ σ' cr' qr', jx (d + 3) 18 0 [some (.ref 16), none] [] σ = some (some (.ref (qr' s.rs.length)), σ') ∧ CX s cr' cp qr' qp σ' ∧ s.rs.length < cr' ∧ RW σ' (qr' s.rs.length + 1) (qr' s.rs.length + 2) 4 0 ∧ RW σ' (qr' s.rs.length + 3) (qr' s.rs.length + 4) 4 0 ∧ (jI σ' 328 (qr' s.rs.length) = 0 ∧ jI σ' 329 (qr' s.rs.length) = 0 ∧ jI σ' 332 (qr' s.rs.length) = 1) ∧ SH σ' ∧ sameM σ σ' ∧ low σ σ' ∧ jnx σ ≤ jnx σ' ∧ jnx σ' ≤ jnx σ + 7 ∧ jsl σ' ≤ jsl σ + 89 := by
    intro τ cr' qr' e hCτ hc hSτ sm lo n1 n2 l1
    have bq := hCτ.dj.r s.rs.length hc
    obtain ⟨hU, r1, r3⟩ := (hCτ.gr s.rs.length hc).2
    obtain ⟨σ', e', F, w1, w3, ff, a1, a3⟩ := c20 (d := d + 2) hU r1 r3 bq.1
    obtain ⟨m1, x1⟩ := hCτ.w1
    obtain ⟨m2, x2⟩ := hCτ.w2
    refine ⟨σ', cr', qr', ?_, hCτ.freeR hc F (fun x hx => by simp at hx; omega) a1 a3 ⟨m1, x1.frame F (by simp; omega)⟩ ⟨m2, x2.frame F (by simp; omega)⟩, hc, w1, w3, ff, F.sh hSτ, sm.trans (F.sm (fun a h1 h2 => by simp; omega)), lo.trans (F.low (fun a ha => by simp at ha; omega)), by rw [F.1.2.2.2.2.1]; exact n1, by rw [F.1.2.2.2.2.1]; exact n2, by rw [F.1.2.2.2.2.2]; exact l1⟩
    rw [e, e']
    simp only [Option.bind_some, Option.toList_none, List.nil_append]
    rw [k18_64R]
  by_cases hc : s.rs.length < cr
  · obtain ⟨g1, w⟩ := hC.gr s.rs.length hc
    refine fin σ cr qr ?_ hC hc hS ⟨fun _ => rfl, fun _ _ _ _ => rfl⟩ (low.refl σ) (Nat.le_refl _) (by omega) (by omega)
    have tq : jT σ (qr s.rs.length) = 6 := w.1.1
    have sg : jsG σ 45 s.rs.length (some (qr s.rs.length)) = σ := jsG_self σ 45 s.rs.length g1
    rw [start, g1]
    show jx (d + 3) 18 21 [some (.ref 16), none] [.ref (qr s.rs.length)] σ = _
    rw [k18_21R (sT_16 hS) (rn hS) (by rw [rg hS, sT_45 hS]; decide), rg hS, sN_45 hS, hC.nr, if_neg g24, k18_50R (sT_16 hS) (rn hS) (by rw [rg hS, sT_45 hS, tq]) (by rw [rg hS, sT_45 hS]; decide) (by rw [rg hS, sN_45 hS, hC.nr]; exact gn) tq, rg hS, hC.nr, qn, sg]
  · have ec : s.rs.length = cr := by have := hC.lr.1; omega
    have g0 := hC.gr0 s.rs.length (by omega) hn
    obtain ⟨q, eq⟩ : ∃ q, jnx σ = q := ⟨_, rfl⟩
    obtain ⟨τ, eτ⟩ : ∃ τ, jnO σ 5 13 = τ := ⟨_, rfl⟩
    have tτ : jT τ q = 6 := by rw [← eτ, zO_T, if_pos eq.symm]
    have nτ : jnx τ = q + 1 := by rw [← eτ, zO_nx, eq]
    have exτ : ∀ a, a < q → jsm σ τ a := fun a ha => eτ ▸ jsm_O (by omega)
    obtain ⟨υ, e9, n9, s9, j9, u9, w91, w93⟩ := c19 (d := d) (σ := τ) (q := q) tτ nτ.symm (by omega)
    have ex : exC σ υ := ⟨by omega, fun a ha => (exτ a (by omega)).trans (j9 a (by omega))⟩
    have hSυ := ex.sh hx hS
    have hC1 := CX.sc hx hC ex.sc
    have nsl : jsl υ = jsl σ + 89 := by rw [s9, ← eτ, zO_sl]
    let qr' : Nat → Nat := fun i => if i = s.rs.length then q else qr i
    have qo : ∀ i, i < cr → qr' i = qr i := fun i hi => if_neg (by omega)
    have qq : qr' s.rs.length = q := if_pos rfl
    have dj := hC.dj
    obtain ⟨ω, eω⟩ : ∃ ω, jsG υ 45 s.rs.length (some q) = ω := ⟨_, rfl⟩
    have nxω : jnx ω = q + 7 := by rw [← eω, zG_nx, n9]
    have jω : ∀ a, a ≠ 45 → jsm υ ω a := fun a ha => eω ▸ jsm_G ha
    have slω : ∀ {z : Nat}, RU υ z (z + 1) (z + 2) (z + 3) (z + 4) (z + 5) (z + 6) → RU ω z (z + 1) (z + 2) (z + 3) (z + 4) (z + 5) (z + 6) := fun {z} h => by rw [← eω]; exact h
    have hC2 : CX s (cr + 1) cp qr' qp ω := by
      rw [← eω]
      refine ⟨hC1.st, hC1.nr, hC1.np, hC1.w, hC1.ap, hC1.tx, hC1.ns, hC1.tl, hC1.w1, hC1.w2, hC1.w3, ⟨by omega, by omega⟩, hC1.lp, fun i hi => ?_, fun i h1 h2 => by rw [zG_G, if_neg (fun z => by omega)]; exact hC1.gr0 i (by omega) h2, fun i hi => ⟨by rw [zG_G, if_neg (fun z => absurd z.1 (by decide))]; exact (hC1.gp i hi).1, (hC1.gp i hi).2⟩, fun i h1 h2 => by rw [zG_G, if_neg (fun z => absurd z.1 (by decide))]; exact hC1.gp0 i h1 h2, ⟨fun i hi => ?_, fun i hi => ?_, fun i j hi hj hij => ?_, dj.pp, fun i j hi hj => ?_⟩, fun i hi => ?_, hC1.ps⟩
      · by_cases e : i = s.rs.length
        · refine ⟨by rw [zG_G, if_pos ⟨rfl, e⟩]; show some q = some (if i = s.rs.length then q else qr i); rw [if_pos e], ?_⟩
          show SLr _ (if i = s.rs.length then q else qr i)
          rw [if_pos e]
          exact ⟨u9, w91.rs, w93.rs⟩
        · have hi' : i < cr := by omega
          refine ⟨by rw [zG_G, if_neg (fun z => e z.2), qo i hi']; exact (hC1.gr i hi').1, ?_⟩
          rw [qo i hi']
          exact (hC1.gr i hi').2
      · rw [zG_nx, n9]
        by_cases e : i = s.rs.length
        · show 81 ≤ (if i = s.rs.length then q else qr i) ∧ (if i = s.rs.length then q else qr i) + 7 ≤ _
          rw [if_pos e]; omega
        · have := dj.r i (by omega)
          rw [qo i (by omega)]; omega
      · have := dj.p i hi
        rw [zG_nx, n9]
        exact ⟨this.1, by omega⟩
      · by_cases e : i = s.rs.length
        · have hj' : j < cr := by omega
          have := dj.r j hj'
          rw [qo j hj']
          show (if i = s.rs.length then q else qr i) + 7 ≤ _ ∨ _ ≤ (if i = s.rs.length then q else qr i)
          rw [if_pos e]; right; omega
        · have hi' : i < cr := by omega
          have := dj.r i hi'
          rw [qo i hi']
          by_cases f : j = s.rs.length
          · show _ ≤ (if j = s.rs.length then q else qr j) ∨ (if j = s.rs.length then q else qr j) + 7 ≤ _
            rw [if_pos f]; left; omega
          · rw [qo j (by omega)]; exact dj.rr i j hi' (by omega) hij
      · have := dj.p j hj
        by_cases f : i = s.rs.length
        · show (if i = s.rs.length then q else qr i) + 7 ≤ _ ∨ _ ≤ (if i = s.rs.length then q else qr i)
          rw [if_pos f]; right; omega
        · rw [qo i (by omega)]; exact dj.rp i j (by omega) hj
      · rw [qo i (by omega)]; exact hC1.rs i hi
    refine fin ω (cr + 1) qr' ?_ hC2 (by omega) (by rw [← eω, SH_G]; exact hSυ) ?_ ?_ (by omega) (by omega) (by rw [← eω, zG_sl, nsl]; omega)
    · rw [start, g0, qq]
      show jx (d + 3) 18 21 [some (.ref 16), none] [.null] σ = _
      have nrυ : jI υ 585 16 = nI s.rs.length := hC1.nr
      have tqυ : jT υ q = 6 := u9.1
      rw [k18_21N (by rw [zO_T, if_pos rfl]), eτ, eq, e9]
      simp only [Option.bind_some, Option.toList_none, List.nil_append]
      rw [k18_37 (sT_16 hSυ) (rn hSυ) (by rw [rg hSυ, sT_45 hSυ]; decide), rg hSυ, sN_45 hSυ, nrυ, if_neg g24, k18_50R (sT_16 hSυ) (rn hSυ) (by rw [rg hSυ, sT_45 hSυ, tqυ]) (by rw [rg hSυ, sT_45 hSυ]; decide) (by rw [rg hSυ, sN_45 hSυ, nrυ]; exact gn) tqυ, rg hSυ, nrυ, qn, eω]
    · have := ex.sm hx
      rw [← eω]
      exact ⟨fun g => by rw [zG_I]; exact this.1 g, fun a i h1 h2 => by rw [zG_A]; exact this.2 a i h1 h2⟩
    · have := ex.low hx
      rw [← eω]
      exact fun a ha => ⟨by rw [zG_T]; exact (this a ha).1, by rw [zG_N]; exact (this a ha).2.1, fun i => by rw [zG_A]; exact (this a ha).2.2 i⟩
end FR2
/-! the greatest numbers of an assignment, class and reference -/
theorem stepT_keep {W nr nm : Nat} (hW : W = 1 ∨ W = 2 ∨ W = 3) (hnm : nm ≤ 3) {o : Nat → Int32} (h : WFo nr nm o) (h4 : o 4 = 0) (a : Nat → Int32) {j : Nat} (hj : j < 3) : stepT W a (keepF W o) j = stepT W a o j := by
  obtain ⟨k0, k1, _⟩ := keep_op W o
  unfold stepT
  rw [k0]
  by_cases hn : numN (opO o) = true
  · have hn' : numN (o 0).toNatClampNeg = true := hn
    rcases keep2 hW hnm h h4 hn with ⟨i, hi, e1, e2⟩ | ⟨u, hu, e1, e2, _⟩
    · rw [e2, e1]
    · have n1 : ¬ (keepF W o) 2 = 16 + nI j := by rw [e2]; exact n16 u (by omega) j hj
      have n2 : ¬ o 2 = 16 + nI j := fun z => e1 (by rw [z]; exact (i16n hj).1)
      rw [if_neg (fun z => n1 z.2), if_neg (fun z => n2 z.2)]
  · have hn' : ¬ numN (o 0).toNatClampNeg = true := hn
    rw [if_neg (fun z => hn' z.1), if_neg (fun z => hn' z.1)]
theorem foldT_keep {W nr nm : Nat} (hW : W = 1 ∨ W = 2 ∨ W = 3) (hnm : nm ≤ 3) : ∀ (os : List (Nat → Int32)) (a b : Nat → Int32), (∀ o, o ∈ os → WFo nr nm o) → (∀ o, o ∈ os → o 4 = 0) → (∀ j, j < 3 → a j = b j) → ∀ j, j < 3 → ((os.map (keepF W)).foldl (stepT W) a) j = (os.foldl (stepT W) b) j := by
  intro os
  induction os with
  | nil => intro a b _ _ e; exact e
  | cons o os ih =>
    intro a b h h4 e
    refine ih (stepT W a (keepF W o)) (stepT W b o) (fun p hp => h p (List.mem_cons_of_mem _ hp)) (fun p hp => h4 p (List.mem_cons_of_mem _ hp)) (fun j hj => ?_)
    rw [stepT_keep hW hnm (h o List.mem_cons_self) (h4 o List.mem_cons_self) a hj]
    unfold stepT
    rw [e j hj]
theorem bd7 {W k : Nat} (hW : W = 1 ∨ W = 2 ∨ W = 3) (hn : numN k = true) : ∃ v, v ≤ 7 ∧ bdM W k = nI v := by
  have H : ∀ W, W ∈ [1, 2, 3] → ∀ k, k ∈ [0, 12, 13, 15, 16] → (bdM W k).toNatClampNeg ≤ 7 ∧ bdM W k = nI (bdM W k).toNatClampNeg := by decide
  exact ⟨_, H W (by simpa using hW) k (by simpa [numN, or_assoc] using hn)⟩
theorem foldT_bd {W : Nat} (hW : W = 1 ∨ W = 2 ∨ W = 3) {j : Nat} : ∀ (os : List (Nat → Int32)) (a : Nat → Int32), (∃ v, v ≤ 12 ∧ a j = nI v ∧ ((∃ o, o ∈ os ∧ numN (opO o) = true ∧ o 2 = 16 + nI j) ∨ v ≤ 7)) → ∃ v, v ≤ 7 ∧ (os.foldl (stepT W) a) j = nI v := by
  intro os
  induction os with
  | nil =>
    rintro a ⟨v, h1, h2, h3⟩
    rcases h3 with ⟨o, ho, _⟩ | h3
    · exact absurd ho (List.not_mem_nil)
    · exact ⟨v, h3, h2⟩
  | cons o os ih =>
    rintro a ⟨v, h1, h2, h3⟩
    refine ih (stepT W a o) ?_
    by_cases c : numN (o 0).toNatClampNeg = true ∧ o 2 = 16 + nI j
    · obtain ⟨b, b1, b2⟩ := bd7 hW c.1
      have e : stepT W a o j = if bdM W (o 0).toNatClampNeg < a j then bdM W (o 0).toNatClampNeg else a j := by unfold stepT; rw [if_pos c]
      by_cases lt : bdM W (o 0).toNatClampNeg < a j
      · exact ⟨b, by omega, by rw [e, if_pos lt, b2], Or.inr b1⟩
      · have : v ≤ 7 := by
          rw [b2, h2, n31 (by omega) (by omega)] at lt
          omega
        exact ⟨v, by omega, by rw [e, if_neg lt, h2], Or.inr this⟩
    · have e : stepT W a o j = a j := by unfold stepT; rw [if_neg c]
      refine ⟨v, h1, by rw [e, h2], ?_⟩
      rcases h3 with ⟨p, hp, q⟩ | h3
      · rcases List.mem_cons.mp hp with z | z
        · rw [z] at q; exact absurd q c
        · exact Or.inl ⟨p, z, q⟩
      · exact Or.inr h3
theorem topI_n {W : Nat} (hW : W = 1 ∨ W = 2 ∨ W = 3) (j : Nat) : ∃ v, v ≤ 12 ∧ topI W j = nI v := by
  refine ⟨4 + 2 ^ W, ?_, ?_⟩
  · rcases hW with h | h | h <;> subst h <;> decide
  · unfold topI
    rcases hW with h | h | h <;> subst h <;> decide
theorem mkW_n {W : Nat} (hW : W = 1 ∨ W = 2 ∨ W = 3) : mkW W = nI (2 ^ W - 1) := by
  rcases hW with h | h | h <;> subst h <;> decide
/-- the numbers of an assignment begin at 0 and have small tops -/
theorem tops_vb {W nr nm : Nat} (hW : W = 1 ∨ W = 2 ∨ W = 3) (hnm : nm ≤ 3) {hc : Bool} {os : List (Nat → Int32)} (hO : ∀ i, i < nm → ∃ o, o ∈ os ∧ numN (opO o) = true ∧ o 2 = 16 + nI i) : VB W (wdN nr hc) (wdN nr hc + nm) (tpF W nr hc os) (fun _ => 0) := by
  intro k hk
  have p8' := p8 hW
  have p2 : 2 ≤ 2 ^ W := by rcases hW with h | h | h <;> subst h <;> decide
  unfold tpF
  by_cases h : k < wdN nr hc
  · rw [if_pos h]
    exact ⟨0, 2 ^ W - 1, Nat.zero_le _, by omega, rfl, mkW_n hW, fun _ => by omega⟩
  · rw [if_neg h]
    obtain ⟨v, v1, v2⟩ := topI_n hW (k - wdN nr hc)
    obtain ⟨w, w1, w2⟩ := foldT_bd hW (j := k - wdN nr hc) os (topI W) ⟨v, v1, v2, Or.inl (hO _ (by omega))⟩
    exact ⟨0, w, Nat.zero_le _, w1, rfl, w2, fun z => absurd z h⟩
theorem any_keep {W : Nat} (os : List (Nat → Int32)) : (os.map (keepF W)).any celO = os.any celO := by
  rw [List.any_map]
  congr 1
  funext o
  show celO (keepF W o) = celO o
  unfold celO
  rw [(keep_op W o).1]
theorem prc_keep {W : Nat} (os : List (Nat → Int32)) : prcL (os.map (keepF W)) 0 = prcL os 0 := by
  rw [show (0 : Int32) = nI 0 from rfl, prcL_n, prcL_n]
  congr 2
  apply priS_map
  rw [List.map_map]
  apply List.map_congr_left
  intro o _
  exact (keep_op W o).2.1
end S_9n
section S_9o
/-! rule: what is kept of a rule that was read; the class -/
def hcO (o1 o2 : List (Nat → Int32)) : Bool := o1.any celO || o2.any celO
def tpA (W nr : Nat) (o1 o2 : List (Nat → Int32)) : Nat → Int32 := tpF W nr (hcO o1 o2) (o1.map (keepF W))
def nAA (nr nm : Nat) (o1 o2 : List (Nat → Int32)) : Nat := wdN nr (hcO o1 o2) + nm
def PA (W nr nm : Nat) (o1 o2 : List (Nat → Int32)) : Nat := prN (fun k => (tpA W nr o1 o2 k).toNatClampNeg) (nAA nr nm o1 o2)
def CA (W nr nm : Nat) (o1 o2 : List (Nat → Int32)) : Nat := cntL (lik W nr (hcO o1 o2) o1 o2) (odo (tpA W nr o1 o2) (nAA nr nm o1 o2)) (PA W nr nm o1 o2) (fun _ => 0)
def mkA (W nr nm : Nat) (o1 o2 : List (Nat → Int32)) : AR := (nr, nm, hcO o1 o2, o1, o2, PA W nr nm o1 o2, CA W nr nm o1 o2, 0, true)
def sRul (s : AS) (a : AR) : AS := (s.W, 0, s.b, s.rs ++ [a], s.ps, s.ns, s.tl, s.ap)
theorem app_rs {rs : List AR} {z : AR} {i : Nat} (h : i < rs.length + 1) : (rs ++ [z]).getD i ar0 = if i = rs.length then z else rs.getD i ar0 := by
  rw [List.getD_eq_getElem?_getD, List.getD_eq_getElem?_getD]
  by_cases e : i = rs.length
  · rw [if_pos e, List.getElem?_append_right (by omega), e, Nat.sub_self]
    rfl
  · rw [if_neg e, List.getElem?_append_left (by omega)]
theorem sRul_len {s : AS} {a : AR} : (sRul s a).rs.length = s.rs.length + 1 := by
  show (s.rs ++ [a]).length = _
  rw [List.length_append]; rfl
theorem mSide_len {len W sd : Nat} {b : Nat → Int32} : ∀ (f n : Nat) (s : jPS) (rg : Nat → Int32) (z : List (Nat → Int32) × jPS × (Nat → Int32)), n ≤ 4 → mSide len b W sd f n s rg = some z → n + z.1.length ≤ 4 := by
  intro f
  induction f with
  | zero => intro n s rg z _ h; cases h
  | succ f ih =>
    intro n s rg z hn h
    unfold mSide at h
    obtain ⟨y, h1, h2⟩ := Option.bind_eq_some_iff.mp h
    have n4 : n < 4 := by
      unfold mOrdS at h1
      obtain ⟨w, hw, _⟩ := Option.bind_eq_some_iff.mp h1
      have := (mName_ok hw).2.2.2
      have : n ≠ 4 := fun e => this (by rw [e]; rfl)
      omega
    split at h2
    · obtain ⟨w, h3, h4⟩ := Option.map_eq_some_iff.mp h2
      have := ih _ _ _ _ (by omega) h3
      subst h4
      show n + (w.1.length + 1) ≤ 4
      omega
    · cases h2; show n + 1 ≤ 4; omega
theorem mRule_len {len W : Nat} {b : Nat → Int32} {rg0 : Nat → Int32} {o1 o2 : List (Nat → Int32)} {rs ms : List Nat} {rg : Nat → Int32} (h : mRule len b W rg0 = some (o1, o2, rs, ms, rg)) : o1.length ≤ 4 ∧ o2.length ≤ 4 := by
  rw [mRule_eq] at h
  obtain ⟨z, h1, h2⟩ := Option.bind_eq_some_iff.mp h
  obtain ⟨z0, h3, h4⟩ := Option.bind_eq_some_iff.mp h1
  have a := mSide_len 5 0 _ _ _ (by decide) h3
  have ez : z.1 = z0.1 := by
    unfold mCl at h4
    rw [if_pos rfl] at h4
    split at h4
    · cases h4; rfl
    · cases h4
  split at h2
  · cases h2
    rw [ez]
    exact ⟨by omega, Nat.zero_le _⟩
  · obtain ⟨y, h5, h6⟩ := Option.map_eq_some_iff.mp h2
    obtain ⟨y0, h7, h8⟩ := Option.bind_eq_some_iff.mp h5
    have ey : y = y0 := by
      unfold mCl at h8
      rw [if_neg (by decide)] at h8
      split at h8
      · cases h8; rfl
      · cases h8
    subst ey
    have c := mSide_len 5 0 _ _ _ (by decide) h7
    cases h6
    rw [ez]
    exact ⟨by omega, by omega⟩
/-- what is known of a rule that was read -/
def RDd (nr nm : Nat) (o1 o2 : List (Nat → Int32)) : Prop := nr ≤ 4 ∧ nm ≤ 3 ∧ (∀ o, o ∈ o1 → WFo nr nm o) ∧ (∀ o, o ∈ o2 → WFo nr nm o) ∧ (∀ o, o ∈ o1 → o 4 = 0) ∧ 1 ≤ o1.length ∧ o1.length ≤ 4 ∧ o2.length ≤ 4 ∧ OCC nr nm o1
theorem mRule_rd {len W : Nat} {b : Nat → Int32} (hW : W = 1 ∨ W = 2 ∨ W = 3) {rg0 : Nat → Int32} {o1 o2 : List (Nat → Int32)} {rs ms : List Nat} {rg : Nat → Int32} (h : mRule len b W rg0 = some (o1, o2, rs, ms, rg)) : RDd rs.length ms.length o1 o2 := by
  obtain ⟨h1, h2, h3, h4, h5, h6, h7⟩ := mRule_wf hW h
  obtain ⟨l1, l2⟩ := mRule_len h
  exact ⟨nodup_le 4 _ h1.1 h1.2, nodup_le 3 _ h2.1 h2.2, h3, h4, h6, h7, l1, l2, mRule_occ h⟩
section RDS
variable {W nr nm : Nat} {o1 o2 : List (Nat → Int32)}
theorem RDd.occK (hW : W = 1 ∨ W = 2 ∨ W = 3) (h : RDd nr nm o1 o2) : ∀ i, i < nm → ∃ o, o ∈ o1.map (keepF W) ∧ numN (opO o) = true ∧ o 2 = 16 + nI i := fun i hi => by
  obtain ⟨n4, m3, f1, f2, z4, _, _, _, oc⟩ := h
  obtain ⟨o, ho, hn, e⟩ := oc.2 i hi
  refine ⟨keepF W o, List.mem_map.mpr ⟨o, ho, rfl⟩, by rw [(keep_op W o).2.1]; exact hn, ?_⟩
  rcases keep2 hW m3 (f1 o ho) (z4 o ho) hn with ⟨j, _, e1, e2⟩ | ⟨u, _, e1, _⟩
  · rw [e2, ← e1, e]
  · exact absurd (by rw [e]; exact (i16n (by omega)).1) e1
theorem RDd.vb (hW : W = 1 ∨ W = 2 ∨ W = 3) (h : RDd nr nm o1 o2) : VB W (wdN nr (hcO o1 o2)) (wdN nr (hcO o1 o2) + nm) (tpA W nr o1 o2) (fun _ => 0) := tops_vb hW h.2.1 (h.occK hW)
theorem RDd.tn (hW : W = 1 ∨ W = 2 ∨ W = 3) (h : RDd nr nm o1 o2) : ∀ k, k < nAA nr nm o1 o2 → (tpA W nr o1 o2 k).toNatClampNeg ≤ 7 ∧ tpA W nr o1 o2 k = nI (tpA W nr o1 o2 k).toNatClampNeg := fun k hk => by
  obtain ⟨u, w, h1, h2, h3, h4, _⟩ := h.vb hW k hk
  have : (tpA W nr o1 o2 k).toNatClampNeg = w := by rw [h4]; exact nI_clamp (by omega)
  rw [this]
  exact ⟨h2, h4⟩
theorem wd_le {nr : Nat} {hc : Bool} (h : nr ≤ 4) : wdN nr hc ≤ 8 := by unfold wdN; split <;> omega
theorem RDd.pb (hW : W = 1 ∨ W = 2 ∨ W = 3) (h : RDd nr nm o1 o2) : 1 ≤ PA W nr nm o1 o2 ∧ PA W nr nm o1 o2 < 2 ^ 34 ∧ prL (tpA W nr o1 o2) (nAA nr nm o1 o2) = Int64.ofNat (PA W nr nm o1 o2) := by
  have le : nAA nr nm o1 o2 ≤ 11 := by
    have := wd_le (hc := hcO o1 o2) h.1
    have := h.2.1
    unfold nAA; omega
  have b := prN_le (u := fun k => (tpA W nr o1 o2 k).toNatClampNeg) (nAA nr nm o1 o2) (fun k hk => (h.tn hW k hk).1)
  have c : 8 ^ nAA nr nm o1 o2 ≤ 8 ^ 11 := Nat.pow_le_pow_right (by decide) le
  refine ⟨prN_pos _ _, ?_, prL_n _ (fun k hk => h.tn hW k hk)⟩
  unfold PA
  have : (8 : Nat) ^ 11 < 2 ^ 34 := by decide
  omega
theorem of64_lt {n : Nat} (h : n < 2 ^ 34) : ((70000 : Int64) < Int64.ofNat n) = (70000 < n) := by
  rw [Int64.lt_iff_toInt_lt, Int64.toInt_ofNat_of_lt (by omega)]
  have : (70000 : Int64).toInt = 70000 := rfl
  rw [this]
  apply propext
  omega
theorem of64_32 {n : Nat} (h : n ≤ 70001) : Int64.toInt32 (Int64.ofNat n) = nI n := by
  apply Int32.toBitVec_inj.mp
  apply BitVec.eq_of_toNat_eq
  rw [nI_tn (by omega)]
  show ((Int64.ofNat n).toBitVec.signExtend 32).toNat = n
  rw [BitVec.signExtend_eq_setWidth_of_le _ (by decide), BitVec.toNat_setWidth]
  show (BitVec.ofNat 64 n).toNat % 2 ^ 32 = n
  rw [BitVec.toNat_ofNat]
  omega
theorem lgle {a b : Int64} : (lg_cmp a b ≤ 0) = ¬ (b < a) := by
  rw [← lgg, Int32.not_lt]
end RDS
end S_9o
