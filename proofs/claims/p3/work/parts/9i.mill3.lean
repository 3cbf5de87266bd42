/-! mill: both -/
theorem dm24 : ∀ i, i < 24 → ∀ r, r < 24 → nI (i * 24 + r) / 24 = nI i ∧ nI (i * 24 + r) - nI (i * 24 + r) / 24 * 24 = nI r := by decide +kernel
def zS (s : AS) : AS := (s.W, s.len, s.b, s.rs, s.ps, 0, s.tl, s.ap)
section MI3
variable {d : Nat} {σ : jS} {s : AS} {cr cp : Nat} {qr qp : Nat → Nat}
theorem CX.ad {i r : Nat} {v : Int32} (hS : SH σ) (hC : CX s cr cp qr qp σ) (hn : s.ns < 144) : ∃ σ', jx d 109 0 [some (.ref 43), some (.int (nI i)), some (.int (nI r)), some (.int v)] [] σ = some (none, σ') ∧ FR [43, 44] σ σ' ∧ CX (adS s i r v) cr cp qr qp σ' := by
  have r1 : (jR σ 384 43).getD 0 = 44 := by rw [sR_384_43 hS]; rfl
  have r2 : jR σ 384 43 ≠ none := by rw [sR_384_43 hS]; exact fun z => nomatch z
  have ns := hC.ns
  have m3 : nI s.ns * 3 = nI (3 * s.ns) := by rw [show (3 : Int32) = nI 3 from rfl, nmul, Nat.mul_comm]
  have m31 : nI (3 * s.ns) + 1 = nI (3 * s.ns + 1) := (nI_succ _).symm
  have m32 : nI (3 * s.ns) + 2 = nI (3 * s.ns + 2) := by rw [show (2 : Int32) = nI 2 from rfl, nadd]
  have F : FR [43, 44] σ (jsI (jsA (jsA (jsA σ 44 (3 * s.ns) (nI i)) 44 (3 * s.ns + 1) (nI r)) 44 (3 * s.ns + 2) v) 385 43 (nI (s.ns + 1))) := ((((FR.refl _ σ).A (by decide)).A (by decide)).A (by decide)).I (by decide)
  have o : ∀ x, x ≠ 43 → x ≠ 44 → x ∉ [43, 44] := fun x h1 h2 => by simp; omega
  have n144 : ¬ (144 : Int32) ≤ nI s.ns := nI_ge (b := 144) hn (by decide)
  refine ⟨_, ?_, F, ?_⟩
  · rw [k109_0 (sT_43 hS), ns, if_neg n144, k109_10 (sT_43 hS) r2 (by rw [r1]; exact sT_44 hS) (by rw [r1, sN_44 hS, ns, m3]; exact jin_n (by omega) (by decide)) (by rw [r1, sN_44 hS, ns, m3, m31]; exact jin_n (by omega) (by decide)) (by rw [r1, sN_44 hS, ns, m3, m32]; exact jin_n (by omega) (by decide)), r1, ns, m3, m31, m32, nI_clamp (by omega), nI_clamp (by omega), nI_clamp (by omega), ← nI_succ]
  · have I16 := (F.2 16 (by decide)).1
    have dj := hC.dj
    have big : ∀ x, 81 ≤ x → x ∉ [43, 44] := fun x hx => o x (by omega) (by omega)
    refine hC.gen F (fun z hz => Or.inl ((by decide : ∀ x, x ∈ [43, 44] → x ∈ scr2) z hz)) (by rw [I16]; exact hC.nr) (by rw [I16]; exact hC.np) (by rw [I16]; exact hC.w) (by rw [I16]; exact hC.ap) rfl rfl (by rw [zI_I, if_pos ⟨rfl, rfl⟩]; rfl) (fun k w hk hw => ?_) ?_ ?_ ?_ hC.lr.1 hC.lp.1 (fun j hj => ?_) (fun j hj => ?_) (fun j hj => ?_) (fun j hj => ?_)
    · show _ = if k = s.ns then (if w = 0 then nI i else if w = 1 then nI r else v) else s.tl k w
      have hk : k < s.ns + 1 := hk
      rw [zI_A, zA_A, zA_A, zA_A]
      by_cases e : k = s.ns
      · subst e
        rw [if_pos rfl]
        rcases (show w = 0 ∨ w = 1 ∨ w = 2 by omega) with h | h | h <;> subst h
        · rw [if_neg (fun z => by omega), if_neg (fun z => by omega), if_pos ⟨rfl, rfl⟩, if_pos rfl]
        · rw [if_neg (fun z => by omega), if_pos ⟨rfl, rfl⟩, if_neg (by decide), if_pos rfl]
        · rw [if_pos ⟨rfl, rfl⟩, if_neg (by decide), if_neg (by decide)]
      · rw [if_neg e, if_neg (fun z => by omega), if_neg (fun z => by omega), if_neg (fun z => by omega)]
        exact hC.tl k w (by omega) hw
    · obtain ⟨n, w⟩ := hC.w1; exact ⟨n, w.frame F (by decide)⟩
    · obtain ⟨n, w⟩ := hC.w2; exact ⟨n, w.frame F (by decide)⟩
    · obtain ⟨n, w⟩ := hC.w3; exact ⟨n, w.frame F (by decide)⟩
    · have b := dj.r j hj; exact (hC.gr j hj).2.fr F (big _ (by omega)) (big _ (by omega))
    · have b := dj.p j hj; exact (hC.gp j hj).2.fr F (big _ (by omega))
    · have b := dj.r j (by have := hC.lr.1; exact Nat.lt_of_lt_of_le hj this); exact (hC.rs j hj).fr F (fun z h1 h2 => big z (by omega))
    · have b := dj.p j (by have := hC.lp.1; exact Nat.lt_of_lt_of_le hj this); exact (hC.ps j hj).frame F (big _ (by omega)) (big _ (by omega))
theorem c108 (hS : SH σ) (hs : WFs s) (hC : CX s cr cp qr qp σ) {p r i : Nat} {x : BN × BN} (hp : p < s.ps.length) (hr : r < s.rs.length) (hn : s.ns < 144) (hw : winF s.W (s.rs.getD r ar0).o1 (s.rs.getD r ar0).o2.length (s.ps.getD p []) i = some x) (hb : RB (-1) σ 39 40 x) (ib : IB x.1) (ic : IC x.2) : ∃ σ', jx (d + 4) 108 0 [some (.ref 16), some (.ref (qp p)), some (.int (nI i)), some (.int (nI r)), none] [] σ = some (none, σ') ∧ CX (stS s p i r x) cr cp qr qp σ' ∧ SH σ' ∧ sameM σ σ' ∧ low σ σ' ∧ jnx σ' = jnx σ ∧ jsl σ' = jsl σ := by
  have c1 := c81y (d := d + 3) hS hC hs hr
  obtain ⟨σ1, e1, F1, hC1⟩ := c104 (d := d) hS hs hC hp hr hw hb
  have hS1 := F1.sh hS
  have fr := hs.fr _ (mem_rs hr)
  obtain ⟨w1, w2, _⟩ := win_cond hw
  obtain ⟨Bn, eBn⟩ : ∃ Bn, newP s.W (s.rs.getD r ar0) x (s.ps.getD p []) i = Bn := ⟨_, rfl⟩
  have pwf : ∀ o, o ∈ Bn → PWF o := by rw [← eBn]; exact newP_pwf hs.w fr (win_ful fr hw ib ic) (hs.fp _ (mem_ps hp)).2
  rw [eBn] at hC1
  have epl : (chS s p r Bn).ps.length = s.ps.length := List.length_set
  have gB : (chS s p r Bn).ps.getD p [] = Bn := by
    show (s.ps.set p Bn).getD p [] = Bn
    rw [set_ps hp, if_pos rfl]
  have rB := hC1.ps p (by rw [epl]; exact hp)
  rw [gB] at rB
  have c7 := c74 (d := d + 1) rB hS1 hC1.st (fun o ho => (pwf o ho).opk)
  obtain ⟨σ2, e2, F2, hC2⟩ := CX.ad (d := d + 3) (i := i) (r := r) (v := prcL Bn 0) hS1 hC1 hn
  have bp := hC.dj.p p (by have := hC.lp.1; omega)
  have br := hC.dj.r r (by have := hC.lr.1; omega)
  refine ⟨σ2, ?_, ?_, F2.sh hS1, (F1.sm (fun a h1 h2 => by simp; omega)).trans (F2.sm (fun a h1 h2 => by simp; omega)), (F1.low (fun b hb => by simp at hb; omega)).trans (F2.low (by simp)), by rw [F2.1.2.2.2.2.1, F1.1.2.2.2.2.1], by rw [F2.1.2.2.2.2.2, F1.1.2.2.2.2.2]⟩
  · have q1 : (jR σ1 582 16).getD 0 = 43 := by rw [sR_582_16 hS1]; rfl
    have q2 : jR σ1 582 16 ≠ none := by rw [sR_582_16 hS1]; exact fun z => nomatch z
    rw [k108_0 (sT_16 hS), c1]
    simp only [Option.bind_some, Option.toList_some, List.cons_append, List.nil_append]
    rw [k108_5R (sT_16 hS), e1]
    simp only [Option.bind_some, Option.toList_none, List.nil_append]
    rw [k108_20 (sT_16 hS1) q2 rB.1.1, q1, c7]
    simp only [Option.bind_some, Option.toList_some, List.cons_append, List.nil_append]
    rw [k108_30 (sT_43 hS1), e2]
    simp only [Option.bind_some, Option.toList_none, List.nil_append]
    rw [k108_33]
  · unfold stS
    rw [eBn]
    exact hC2
theorem cls_mil {p : Nat} (hx : 81 ≤ jnx σ) : ∀ f k s υ l4, k + f = 144 → SH υ → WFs s → CX s cr cp qr qp υ → p < s.ps.length → s.ns + f ≤ 144 → sameM σ υ → low σ υ → jnx υ = jnx σ → jsl υ = jsl σ → ∃ υ', jx (d + 6) 106 22 [some (.ref 16), some (.int (nI p)), some (.ref (qp p)), some (.int (nI k)), l4] [] υ = some (some (.int (nI (milF p f s).ns)), υ') ∧ CX (milF p f s) cr cp qr qp υ' ∧ SH υ' ∧ WFs (milF p f s) ∧ sameM σ υ' ∧ low σ υ' ∧ jnx υ' = jnx σ ∧ jsl υ' = jsl σ := by
  intro f
  induction f with
  | zero =>
    intro k s υ l4 hk hS hs hC hp hn sm lo nx sl
    have e : k = 144 := by omega
    subst e
    have q1 : (jR υ 582 16).getD 0 = 43 := by rw [sR_582_16 hS]; rfl
    have q2 : jR υ 582 16 ≠ none := by rw [sR_582_16 hS]; exact fun z => nomatch z
    refine ⟨υ, ?_, hC, hS, hs, sm, lo, nx, sl⟩
    rw [k106_22, if_pos (by decide), k106_65 (sT_16 hS) q2 (by rw [q1]; exact sT_43 hS), q1, hC.ns]
    rfl
  | succ f ih =>
    intro k s υ l4 hk hS hs hC hp hn sm lo nx sl
    have q1 : ∀ {υ : jS}, SH υ → (jR υ 582 16).getD 0 = 43 := fun h => by rw [sR_582_16 h]; rfl
    have q2 : ∀ {υ : jS}, SH υ → jR υ 582 16 ≠ none := fun h => by rw [sR_582_16 h]; exact fun z => nomatch z
    have hr24 := hs.r24
    have l24 := (hs.fp _ (mem_ps hp)).1
    obtain ⟨υ1, F1, e1, b1⟩ := c107 (d := d) hS hs hC hp
    have hS1 := F1.sh hS
    have hC1 : CX s cr cp qr qp υ1 := hC.scr F1 (by decide)
    have sm1 := sm.trans (F1.sm (fun a h1 h2 => by simp; omega))
    have lo1 := lo.trans (F1.low (by simp))
    have nx1 : jnx υ1 = jnx σ := by rw [F1.1.2.2.2.2.1]; exact nx
    have sl1 : jsl υ1 = jsl σ := by rw [F1.1.2.2.2.2.2]; exact sl
    have n144 : ¬ (144 : Int32) ≤ nI k := nI_ge (b := 144) (by omega) (by decide)
    have st : ∀ v : Int32, jx (d + 5) 107 0 [some (.ref 16), some (.ref (qp p)), none, none, none] [] υ = some (some (.int v), υ1) → jx (d + 6) 106 22 [some (.ref 16), some (.int (nI p)), some (.ref (qp p)), some (.int (nI k)), l4] [] υ = if 0 ≤ v then jx (d + 6) 106 44 [some (.ref 16), some (.int (nI p)), some (.ref (qp p)), some (.int (nI k)), some (.int v)] [] υ1 else jx (d + 6) 106 41 [some (.ref 16), some (.int (nI p)), some (.ref (qp p)), some (.int (nI k)), some (.int v)] [] υ1 := fun v e1 => by
      rw [k106_22, if_neg n144, k106_29R (sT_16 hS), e1]
      simp only [Option.bind_some, Option.toList_some, List.cons_append, List.nil_append]
      rw [k106_34]
    cases hw : fW s p with
    | none =>
      rw [hw] at e1
      have em : milF p (f + 1) s = s := milF_none hw
      rw [em]
      refine ⟨υ1, ?_, hC1, hS1, hs, sm1, lo1, nx1, sl1⟩
      rw [st (-4) e1, if_neg (by decide), k106_41 (sT_16 hS1) (q2 hS1) (by rw [q1 hS1]; exact sT_43 hS1), q1 hS1, hC1.ns]
    | some z =>
      obtain ⟨i, r⟩ := z
      obtain ⟨_, z1, z2, z3, _⟩ := fP_ok _ _ _ hw
      have z1 : i < 0 + (s.ps.getD p []).length := z1
      have z2 : r < s.rs.length := z2
      obtain ⟨_, _, x, hx'⟩ := hit_win z3
      obtain ⟨rb, ib, ic⟩ := b1 (i, r) hw x hx'
      rw [hw] at e1
      have g1 : (0 : Int32) ≤ nI (i * 24 + r) := by rw [← Int32.not_lt]; exact nn0 (by omega)
      obtain ⟨d1, d2⟩ := dm24 i (by omega) r (by omega)
      obtain ⟨υ2, e2, hC2, hS2, sm2, lo2, nx2, sl2⟩ := c108 (d := d + 1) hS1 hs hC1 hp z2 (by omega) hx' rb ib ic
      have em : milF p (f + 1) s = milF p f (stS s p i r x) := milF_some hw hx'
      have pr := stS_ps (s := s) (i := i) (r := r) (x := x) hp
      obtain ⟨υ3, e3, r3⟩ := ih (k + 1) (stS s p i r x) υ2 (some (.int (nI (i * 24 + r)))) (by omega) hS2 (stS_wf hs hp z2 hx' ib ic (by omega)) hC2 (by rw [pr.1]; exact hp) (by rw [pr.2.2]; omega) (sm1.trans sm2) (lo1.trans lo2) (by omega) (by omega)
      rw [em]
      refine ⟨υ3, ?_, r3⟩
      rw [st (nI (i * 24 + r)) e1, if_pos g1, k106_44R (sT_16 hS1), d2, d1, e2]
      simp only [Option.bind_some, Option.toList_none, List.nil_append]
      rw [k106_59R, ← nI_succ]
      exact e3
theorem CM.ad {i r : Nat} {v : Int32} (hM : CM s σ) (hn : s.ns < 144) : CM (adS s i r v) (jsI (jsA (jsA (jsA σ 78 s.ns (nI i)) 79 s.ns (nI r)) 80 s.ns v) 678 47 (nI (s.ns + 1))) := by
  have F : FR [47, 78, 79, 80] σ (jsI (jsA (jsA (jsA σ 78 s.ns (nI i)) 79 s.ns (nI r)) 80 s.ns v) 678 47 (nI (s.ns + 1))) := ((((FR.refl _ σ).A (by decide)).A (by decide)).A (by decide)).I (by decide)
  have z := fun b (hb : b ∉ [47, 78, 79, 80]) i => (F.2 b hb).2 i
  have I : ∀ g, g ≠ 678 → jI (jsI (jsA (jsA (jsA σ 78 s.ns (nI i)) 79 s.ns (nI r)) 80 s.ns v) 678 47 (nI (s.ns + 1))) g 47 = jI σ g 47 := fun g hg => by rw [zI_I, if_neg (fun w => hg w.1), zA_I, zA_I, zA_I]
  refine ⟨fun j hj => by rw [z 70 (by decide)]; exact hM.nv j hj, by rw [I 644 (by decide)]; exact hM.nr, by rw [I 660 (by decide)]; exact hM.np, by rw [I 640 (by decide)]; exact hM.w, by rw [I 682 (by decide)]; exact hM.ap, ⟨by rw [I 642 (by decide)]; exact hM.tm.1, hM.tm.2.1, fun j hj => by rw [z 48 (by decide)]; exact hM.tm.2.2 j hj⟩, by rw [zI_I, if_pos ⟨rfl, rfl⟩]; rfl, fun k w hk hw => ?_, fun j hj => ?_, fun j hj => ?_⟩
  · show _ = if k = s.ns then (if w = 0 then nI i else if w = 1 then nI r else v) else s.tl k w
    have hk : k < s.ns + 1 := hk
    rw [zI_A, zA_A, zA_A, zA_A]
    by_cases e : k = s.ns
    · rw [if_pos e]
      rcases (show w = 0 ∨ w = 1 ∨ w = 2 by omega) with h | h | h <;> subst h
      · rw [if_neg (fun q => absurd q.1 (by decide)), if_neg (fun q => absurd q.1 (by decide)), if_pos ⟨rfl, e⟩, if_pos rfl]
      · rw [if_neg (fun q => absurd q.1 (by decide)), if_pos ⟨rfl, e⟩, if_neg (by decide), if_pos rfl]
      · rw [if_pos ⟨rfl, e⟩, if_neg (by decide), if_neg (by decide)]
    · rw [if_neg e, if_neg (fun q => e q.2), if_neg (fun q => e q.2), if_neg (fun q => e q.2)]
      exact hM.tl k w (by omega) hw
  · obtain ⟨⟨rg, m⟩, m1, m2, m3, m4⟩ := hM.rs j hj
    exact ⟨⟨rg, m.frame F (fun a x y => by simp; omega)⟩, by rw [z 60 (by decide)]; exact m1, by rw [z 61 (by decide)]; exact m2, by rw [z 63 (by decide)]; exact m3, by rw [z 64 (by decide)]; exact m4⟩
  · obtain ⟨p1, p2, p3⟩ := hM.ps j hj
    exact ⟨by rw [z 65 (by decide)]; exact p1, p2, fun k w hk hw => by rw [z (66 + w) (by simp; omega)]; exact p3 k w hk hw⟩
theorem ref_mil {p : Nat} : ∀ f s υ l3, SH υ → WFs s → CM s υ → p < s.ps.length → priS (s.ps.getD p []) ≤ f → s.ns + f ≤ 144 → sameC σ υ → jnx υ = jnx σ → jsl υ = jsl σ → ∃ υ', jx (d + 6) 187 20 [some (.ref 47), some (.int (nI p)), none, none] [.int (match fW s p with | some z => nI z.1 | none => -4)] υ = jx (d + 6) 187 20 [some (.ref 47), some (.int (nI p)), none, none] [.int (match fW s p with | some z => nI z.1 | none => -4)] υ ∧ jx (d + 6) 187 21 [some (.ref 47), some (.int (nI p)), some (.int (match fW s p with | some z => nI z.1 | none => -4)), l3] [] υ = some (some (.int (nI (milF p f s).ns)), υ') ∧ CM (milF p f s) υ' ∧ SH υ' ∧ sameC σ υ' ∧ jnx υ' = jnx σ ∧ jsl υ' = jsl σ := by
  intro f
  induction f with
  | zero =>
    intro s υ l3 hS hs hM hp hf hn sc nx sl
    have l0 : (s.ps.getD p []).length = 0 := by
      have := priS_bd (s.ps.getD p []) (fun o ho => ((hs.fp _ (mem_ps hp)).2 o ho).opk)
      omega
    have hw : fW s p = none := by unfold fW; rw [l0]; rfl
    refine ⟨υ, rfl, ?_, hM, hS, sc, nx, sl⟩
    rw [hw]
    show jx (d + 6) 187 21 [some (.ref 47), some (.int (nI p)), some (.int (-4)), l3] [] υ = _
    rw [k187_21, if_pos rfl, k187_94 (sT_47 hS), hM.ns]
    rfl
  | succ f ih =>
    intro s υ l3 hS hs hM hp hf hn sc nx sl
    have hr24 := hs.r24
    have hp16 := hs.p16
    have l24 := (hs.fp _ (mem_ps hp)).1
    cases hw : fW s p with
    | none =>
      have em : milF p (f + 1) s = s := milF_none hw
      rw [em]
      refine ⟨υ, rfl, ?_, hM, hS, sc, nx, sl⟩
      show jx (d + 6) 187 21 [some (.ref 47), some (.int (nI p)), some (.int (-4)), l3] [] υ = _
      rw [k187_21, if_pos rfl, k187_94 (sT_47 hS), hM.ns]
    | some z =>
      obtain ⟨i, r⟩ := z
      obtain ⟨_, z1, z2, z3, z4⟩ := fP_ok _ _ _ hw
      have z1 : i < 0 + (s.ps.getD p []).length := z1
      have z2 : r < s.rs.length := z2
      have z4 : fR s p i s.rs.length 0 = some r := z4
      obtain ⟨_, hsn, x, hx'⟩ := hit_win z3
      have hsn : sndA (s.rs.getD r ar0) := hsn
      have hx' : winF s.W (s.rs.getD r ar0).o1 (s.rs.getD r ar0).o2.length (s.ps.getD p []) i = some x := hx'
      have fr := hs.fr _ (mem_rs z2)
      obtain ⟨υ1, F1, e1, b1⟩ := c189 (d := d + 1) hS hs hM hp (i := i) (by omega)
      have hS1 := F1.sh hS
      have hM1 := hM.w7 hs F1
      obtain ⟨rb, ib, ic⟩ := b1 r z4 x hx'
      rw [z4] at e1
      have e1 : jx (d + 5) 189 0 [some (.ref 47), some (.int (nI p)), some (.int (nI i)), none] [] υ = some (some (.int (nI r)), υ1) := e1
      obtain ⟨υ2, e2, F2, hM2⟩ := c186 (d := d + 2) hS1 hs hM1 hp z2 hx' rb ib ic
      have hS2 := F2.sh hS1
      obtain ⟨Bn, eBn⟩ : ∃ Bn, newP s.W (s.rs.getD r ar0) x (s.ps.getD p []) i = Bn := ⟨_, rfl⟩
      have fall := pri_fall fr hsn hx'
      rw [eBn] at hM2 fall
      have pwf : ∀ o, o ∈ Bn → PWF o := by rw [← eBn]; exact newP_pwf hs.w fr (win_ful fr hx' ib ic) (hs.fp _ (mem_ps hp)).2
      have epl : (chS s p r Bn).ps.length = s.ps.length := List.length_set
      have gB : (chS s p r Bn).ps.getD p [] = Bn := by
        show (s.ps.set p Bn).getD p [] = Bn
        rw [set_ps hp, if_pos rfl]
      have ns2 : jI υ2 678 47 = nI s.ns := hM2.ns
      have q79 : (jR υ2 679 47).getD 0 = 78 := by rw [sR_679_47 hS2]; rfl
      have q80 : (jR υ2 680 47).getD 0 = 79 := by rw [sR_680_47 hS2]; rfl
      have q81 : (jR υ2 681 47).getD 0 = 80 := by rw [sR_681_47 hS2]; rfl
      have n79 : jR υ2 679 47 ≠ none := by rw [sR_679_47 hS2]; exact fun z => nomatch z
      have n80 : jR υ2 680 47 ≠ none := by rw [sR_680_47 hS2]; exact fun z => nomatch z
      have n81 : jR υ2 681 47 ≠ none := by rw [sR_681_47 hS2]; exact fun z => nomatch z
      have cn : (nI s.ns).toNatClampNeg = s.ns := nI_clamp (by omega)
      have in2 : jin 200 (nI s.ns) := jin_n (by omega) (by decide)
      obtain ⟨υ3, e3⟩ : ∃ υ3, jsA (jsA υ2 78 s.ns (nI i)) 79 s.ns (nI r) = υ3 := ⟨_, rfl⟩
      have F3 : FR [78, 79] υ2 υ3 := e3 ▸ (((FR.refl _ υ2).A (by decide)).A (by decide))
      have hS3 := F3.sh hS2
      have pm : PM υ3 p Bn := by
        obtain ⟨p1, p2, p3⟩ := hM2.ps p (by rw [epl]; exact hp)
        rw [gB] at p1 p2 p3
        exact ⟨by rw [(F3.2 65 (by decide)).2]; exact p1, p2, fun k j hk hj => by rw [(F3.2 (66 + j) (by simp; omega)).2]; exact p3 k j hk hj⟩
      have c7 := c172 (d := d + 4) hS3 (p := p) (by omega) pm (fun o ho => (pwf o ho).opk)
      have hM4 : CM (stS s p i r x) (jsI (jsA υ3 80 s.ns (prcL Bn 0)) 678 47 (nI (s.ns + 1))) := by
        have := hM2.ad (i := i) (r := r) (v := prcL Bn 0) (by show s.ns < 144; omega)
        unfold stS
        rw [eBn, ← e3]
        exact this
      have F4 : FR [47, 64, 65, 66, 67, 68, 69, 76, 77, 78, 79, 80] υ (jsI (jsA υ3 80 s.ns (prcL Bn 0)) 678 47 (nI (s.ns + 1))) := ((((F1.mono (fun a ha => by simp at ha; simp; omega)).trans (F2.mono (fun a ha => by simp at ha; simp; omega))).trans (F3.mono (fun a ha => by simp at ha; simp; omega))).A (by decide)).I (by decide)
      obtain ⟨υ4, e4⟩ : ∃ υ4, jsI (jsA υ3 80 s.ns (prcL Bn 0)) 678 47 (nI (s.ns + 1)) = υ4 := ⟨_, rfl⟩
      rw [e4] at hM4 F4
      have hS4 := F4.sh hS
      have ws := stS_wf hs hp z2 hx' ib ic (by omega)
      have pr := stS_ps (s := s) (i := i) (r := r) (x := x) hp
      rw [eBn] at pr
      obtain ⟨υ5, F5, e5⟩ := c188 (d := d) hS4 ws hM4 (p := p) (by rw [pr.1]; exact hp)
      have hS5 := F5.sh hS4
      have hM5 := hM4.w7 ws F5
      have sc5 : sameC σ υ5 := (sc.trans (F4.sc (fun a ha => by simp at ha; omega))).trans (F5.sc (fun a ha => by simp at ha; omega))
      obtain ⟨υ6, _, e6, r6⟩ := ih (stS s p i r x) υ5 (some (.int (nI r))) hS5 ws hM5 (by rw [pr.1]; exact hp) (by rw [pr.2.1]; omega) (by rw [pr.2.2]; omega) sc5 (by rw [F5.1.2.2.2.2.1, F4.1.2.2.2.2.1]; exact nx) (by rw [F5.1.2.2.2.2.2, F4.1.2.2.2.2.2]; exact sl)
      have em : milF p (f + 1) s = milF p f (stS s p i r x) := milF_some hw hx'
      rw [em]
      refine ⟨υ6, rfl, ?_, r6⟩
      have n4 : ¬ nI i = -4 := fun q => by
        have := nn0 (k := i) (by omega)
        rw [q] at this
        exact this (by decide)
      show jx (d + 6) 187 21 [some (.ref 47), some (.int (nI p)), some (.int (nI i)), l3] [] υ = _
      have ns3 : jI υ3 678 47 = nI s.ns := by rw [(F3.2 47 (by decide)).1]; exact ns2
      rw [k187_21, if_neg n4, k187_27 (sT_47 hS), e1]
      simp only [Option.bind_some, Option.toList_some, List.cons_append, List.nil_append]
      rw [k187_33 (sT_47 hS1), e2]
      simp only [Option.bind_some, Option.toList_none, List.nil_append]
      rw [k187_41 (sT_47 hS2) n79 (by rw [q79]; exact sT_78 hS2) (by rw [q79, sN_78 hS2, ns2]; exact in2) n80 (by rw [q80]; exact sT_79 hS2) (by rw [q80, sN_79 hS2, ns2]; exact in2) n81, q79, q80, q81, ns2, cn, e3, c7]
      simp only [Option.bind_some, Option.toList_some, List.cons_append, List.nil_append]
      rw [k187_74 (sT_80 hS3) (by rw [sN_80 hS3]; exact in2) (sT_47 hS3), cn, ns3, ← nI_succ, e4, e5]
      simp only [Option.bind_some, Option.toList_some, List.cons_append, List.nil_append]
      rw [k187_90]
      exact e6
end MI3
