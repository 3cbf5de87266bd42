/-! feed, on, wrong, count -/
theorem MR.frT {σ σ' : jS} {l : List Nat} {r nr nm : Nat} {hc : Bool} {o1 o2 : List (Nat → Int32)} {rg : Nat → Int32} (h : MR σ r nr nm hc o1 o2 rg) (f : FR l σ σ') (hl : ∀ a, 50 ≤ a → a ≤ 59 → a ∉ l) : MR σ' r nr nm hc o1 o2 rg := h.frame f hl
theorem CM.tape {s s' : AS} {σ σ' : jS} {l : List Nat} (h : CM s σ) (f : FR l σ σ') (hl : ∀ a, a ∈ l → a = 47 ∨ a = 48) (hg : ∀ g, g ≠ 642 → jI σ' g 47 = jI σ g 47) (e0 : s'.W = s.W) (e1 : s'.rs = s.rs) (e2 : s'.ps = s.ps) (e3 : s'.ns = s.ns) (e4 : s'.tl = s.tl) (e5 : s'.ap = s.ap) (ht : TM σ' s'.len s'.b) : CM s' σ' := by
  have nl : ∀ a, 49 ≤ a → a ∉ l := fun a ha z => by have := hl a z; omega
  refine ⟨fun k hk => by rw [(f.2 70 (nl 70 (by decide))).2]; exact h.nv k hk, by rw [hg 644 (by decide), e1]; exact h.nr, by rw [hg 660 (by decide), e2]; exact h.np, by rw [hg 640 (by decide), e0]; exact h.w, by rw [hg 682 (by decide), e5]; exact h.ap, ht, by rw [hg 678 (by decide), e3]; exact h.ns, fun k w hk hw => ?_, fun i hi => ?_, fun i hi => ?_⟩
  · rw [e3] at hk; rw [e4, (f.2 (78 + w) (nl _ (by omega))).2]; exact h.tl k w hk hw
  · rw [e1] at hi ⊢
    obtain ⟨⟨rg, m⟩, m1, m2, m3, m4⟩ := h.rs i hi
    exact ⟨⟨rg, m.frame f (fun a x y => nl a (by omega))⟩, by rw [(f.2 60 (nl 60 (by decide))).2]; exact m1, by rw [(f.2 61 (nl 61 (by decide))).2]; exact m2, by rw [(f.2 63 (nl 63 (by decide))).2]; exact m3, by rw [(f.2 64 (nl 64 (by decide))).2]; exact m4⟩
  · rw [e2] at hi ⊢
    obtain ⟨p1, p2, p3⟩ := h.ps i hi
    exact ⟨by rw [(f.2 65 (nl 65 (by decide))).2]; exact p1, p2, fun k j hk hj => by rw [(f.2 (66 + j) (nl _ (by omega))).2]; exact p3 k j hk hj⟩
theorem BY.up {n : Nat} {b : Nat → Int32} (h : BY n b) (w : Int32) : BY (n + 1) (up6 b n (w &&& 255)) := fun i hi => by
  unfold up6
  by_cases e : i = n
  · rw [if_pos e]; exact byte_rng w
  · rw [if_neg e]; exact h i (by omega)
theorem BY.by4 {n : Nat} {b : Nat → Int32} (h : BY n b) (v : Int32) : BY (n + 4) (by4 b n v) := (((h.up _).up _).up _).up _
def by20 (b : Nat → Int32) (n : Nat) (v1 v2 v3 v4 v5 : Int32) : Nat → Int32 := by4 (by4 (by4 (by4 (by4 b n v1) (n + 4) v2) (n + 8) v3) (n + 12) v4) (n + 16) v5
section SM6
variable {d : Nat} {σ : jS} {s : AS} {cr cp : Nat} {qr qp : Nat → Nat}
theorem sim_feed (hR : REL s cr cp qr qp σ) (v1 v2 v3 v4 v5 : Int32) : SimR (d + 1) 13 124 [some (.int v1), some (.int v2), some (.int v3), some (.int v4), some (.int v5)] [some (.int v1), some (.int v2), some (.int v3), some (.int v4), some (.int v5)] true σ := by
  have hR0 := hR
  obtain ⟨hS, hx, hs, hC, hM⟩ := hR
  have hl := hs.l
  have e1 := hC.tx.1
  have f1 := hM.tm.1
  have p20 : nI s.len + 20 = nI (s.len + 20) := by rw [show (20 : Int32) = nI 20 from rfl, nadd]
  have tp : ∀ {υ : jS}, SH υ → (jR υ 577 16).getD 0 = 18 := fun h => by rw [sR_577_16 h]; rfl
  have tn : ∀ {υ : jS}, SH υ → jR υ 577 16 ≠ none := fun h => by rw [sR_577_16 h]; exact fun z => nomatch z
  have tt : ∀ {υ : jS}, SH υ → jT υ ((jR υ 577 16).getD 0) = 8 := fun h => by rw [tp h]; exact sT_18 h
  have rb : (jR σ 448 18).getD 0 = 19 := by rw [sR_448_18 hS]; rfl
  by_cases h : s.len + 20 ≤ 400
  · have a1 : ¬ Int32.ofNat 400 < nI (s.len + 20) := by rw [show Int32.ofNat 400 = nI 400 from rfl, n31 (by decide) (by omega)]; omega
    have a2 : nI (s.len + 20) ≤ 400 := nI_le (b := 400) h (by decide)
    obtain ⟨x1, g1, F1, T1⟩ := c15 (d := d) hS hC.tx (by omega) v1
    have S1 := F1.sh hS
    obtain ⟨x2, g2, F2, T2⟩ := c15 (d := d) S1 T1 (by omega) v2
    have S2 := F2.sh S1
    obtain ⟨x3, g3, F3, T3⟩ := c15 (d := d) S2 T2 (by omega) v3
    have S3 := F3.sh S2
    obtain ⟨x4, g4, F4, T4⟩ := c15 (d := d) S3 T3 (by omega) v4
    have S4 := F4.sh S3
    obtain ⟨x5, g5, F5, T5⟩ := c15 (d := d) S4 T4 (by omega) v5
    have S5 := F5.sh S4
    have FF : FR [18, 19] σ x5 := (((F1.trans F2).trans F3).trans F4).trans F5
    have hM1 := hM.sm (FF.sm (fun a h1 h2 => by simp; omega))
    obtain ⟨y1, w1, G1, i1, U1⟩ := c125 (d := d) S5 hM1.tm (by omega) v1
    have Y1 := G1.sh S5
    obtain ⟨y2, w2, G2, i2, U2⟩ := c125 (d := d) Y1 U1 (by omega) v2
    have Y2 := G2.sh Y1
    obtain ⟨y3, w3, G3, i3, U3⟩ := c125 (d := d) Y2 U2 (by omega) v3
    have Y3 := G3.sh Y2
    obtain ⟨y4, w4, G4, i4, U4⟩ := c125 (d := d) Y3 U3 (by omega) v4
    have Y4 := G4.sh Y3
    obtain ⟨y5, w5, G5, i5, U5⟩ := c125 (d := d) Y4 U4 (by omega) v5
    have Y5 := G5.sh Y4
    have GG : FR [47, 48] x5 y5 := (((G1.trans G2).trans G3).trans G4).trans G5
    have gg : ∀ g, g ≠ 642 → jI y5 g 47 = jI x5 g 47 := fun g q => by rw [i5 g q, i4 g q, i3 g q, i2 g q, i1 g q]
    let s' : AS := (s.W, s.len + 20, by20 s.b s.len v1 v2 v3 v4 v5, s.rs, s.ps, s.ns, s.tl, s.ap)
    have hC1 : CX s' cr cp qr qp x5 := hC.tape FF (by simp) rfl rfl rfl rfl rfl rfl T5
    have nx5 : jnx x5 = jnx σ := FF.1.2.2.2.2.1
    have hM2 : CM s' y5 := hM1.tape GG (by simp) gg rfl rfl rfl rfl rfl rfl U5
    have sc : sameC x5 y5 := GG.sc (fun a ha => by simp at ha; omega)
    refine ⟨nI (s.len + 20), nI (s.len + 20), x5, y5, s', cr, cp, qr, qp, ?_, ?_, ⟨Y5, by rw [GG.1.2.2.2.2.1, nx5]; exact hx, ⟨hs.w, h, ((((hs.byy.by4 v1).by4 v2).by4 v3).by4 v4).by4 v5, hs.r24, hs.p16, hs.fr, hs.fp, hs.n144⟩, CX.sc (by rw [nx5]; exact hx) hC1 sc, hM2⟩, by rw [GG.1.2.2.2.2.1, nx5]; omega, by rw [GG.1.2.2.2.2.2, FF.1.2.2.2.2.2]; omega, low.trans (FF.low (by simp)) (sc.low (by rw [nx5]; exact hx)), fun _ => rfl⟩
    · have c14 : jx d 14 0 [some (.ref 18)] [] σ = some (some (.int 1), σ) := by
        rw [k14_0 (sT_18 hS) (by rw [sR_448_18 hS]; exact fun z => nomatch z) (by rw [rb, sT_19 hS]; decide), rb, sN_19 hS, e1, p20, if_neg a1, k14_15]
      have e5 : jI x5 449 18 = nI (s.len + 20) := T5.1
      rw [k13_0 (sT_16 hS) (tn hS) (tt hS), tp hS, c14]
      simp only [Option.bind_some, Option.toList_some, List.cons_append, List.nil_append]
      rw [k13_7, if_pos (by decide), k13_13 (sT_16 hS) (tn hS) (tt hS), tp hS, g1]
      simp only [Option.bind_some, Option.toList_none, List.nil_append]
      rw [k13_21 (sT_16 S1) (tn S1) (tt S1), tp S1, g2]
      simp only [Option.bind_some, Option.toList_none, List.nil_append]
      rw [k13_29 (sT_16 S2) (tn S2) (tt S2), tp S2, g3]
      simp only [Option.bind_some, Option.toList_none, List.nil_append]
      rw [k13_37 (sT_16 S3) (tn S3) (tt S3), tp S3, g4]
      simp only [Option.bind_some, Option.toList_none, List.nil_append]
      rw [k13_46 (sT_16 S4) (tn S4) (tt S4), tp S4, g5]
      simp only [Option.bind_some, Option.toList_none, List.nil_append]
      rw [k13_55 (sT_16 S5) (tn S5) (tt S5), tp S5, e5]
    · have f1' := hM1.tm.1
      have e5 : jI y5 642 47 = nI (s.len + 20) := U5.1
      rw [k124_0 (sT_47 S5), f1', p20, if_pos a2, k124_16 (sT_47 S5), w1]
      simp only [Option.bind_some, Option.toList_none, List.nil_append]
      rw [k124_21 (sT_47 Y1), w2]
      simp only [Option.bind_some, Option.toList_none, List.nil_append]
      rw [k124_26 (sT_47 Y2), w3]
      simp only [Option.bind_some, Option.toList_none, List.nil_append]
      rw [k124_31 (sT_47 Y3), w4]
      simp only [Option.bind_some, Option.toList_none, List.nil_append]
      rw [k124_37 (sT_47 Y4), w5]
      simp only [Option.bind_some, Option.toList_none, List.nil_append]
      rw [k124_43 (sT_47 Y5), e5]
  · have a1 : Int32.ofNat 400 < nI (s.len + 20) := by rw [show Int32.ofNat 400 = nI 400 from rfl, n31 (by decide) (by omega)]; omega
    have a2 : ¬ nI (s.len + 20) ≤ 400 := nI_ge (a := 400) (by omega) (by omega)
    refine SimR.read hR0 (a := -3) (a' := -3) ?_ ?_ (fun _ => rfl)
    · have c14 : jx d 14 0 [some (.ref 18)] [] σ = some (some (.int 0), σ) := by
        rw [k14_0 (sT_18 hS) (by rw [sR_448_18 hS]; exact fun z => nomatch z) (by rw [rb, sT_19 hS]; decide), rb, sN_19 hS, e1, p20, if_pos a1, k14_19]
      rw [k13_0 (sT_16 hS) (tn hS) (tt hS), tp hS, c14]
      simp only [Option.bind_some, Option.toList_some, List.cons_append, List.nil_append]
      rw [k13_7, if_neg (fun z => z rfl), k13_10]
    · rw [k124_0 (sT_47 hS), f1, p20, if_neg a2, k124_13]
theorem sim_wrong (hR : REL s cr cp qr qp σ) (x y : Int32) : SimR (d + 2) 84 168 [some (.int x), some (.int y), none] [some (.int x), some (.int y)] false σ := by
  have hR0 := hR
  obtain ⟨hS, hx, hs, hC, hM⟩ := hR
  have hl := hs.r24
  by_cases h : inR x s.rs.length
  · obtain ⟨k, hk, ek⟩ := inR_nat (by omega) h
    have c1 := c81y (d := d + 1) hS hC hs hk
    have c2 := c162y (d := d) hS hM hs h
    have cr' := hC.rs k hk
    have mr := hM.rs k hk
    obtain ⟨a, ea⟩ : ∃ a, s.rs.getD k ar0 = a := ⟨_, rfl⟩
    have fr := hs.fr _ (mem_rs hk)
    rw [ea] at cr' mr fr
    obtain ⟨⟨tp, hU, hbig, g1, g2, e4, e5, e6, e0, _⟩, f7, f8, f9, f11, f12⟩ := cr'
    obtain ⟨⟨rg, m1, m2, m3, m4, m5, m6, m7, m8, m9, m10⟩, m60, m61, m63, m64⟩ := mr
    have tq := hU.1
    have u5 := hU.2.2.2.2.1
    have tu := hU.2.2.2.2.2.2.2.1
    have nu := hU.2.2.2.2.2.2.2.2.1
    have gk : jin 24 (nI k) := jin_n (by omega) (by decide)
    have qk : (nI k).toNatClampNeg = k := nI_clamp (by omega)
    have n11 : wdN a.nr a.hc + a.nm ≤ 11 := by have := fr.nr4; have := fr.nm3; unfold wdN; cases a.hc <;> simp <;> omega
    have c49' := c149 (d := d + 1) hS (r := k) (by omega) m5 m6 m7
    rw [ek] at c2
    rw [ek]
    have A : ∃ v, jx (d + 2) 84 0 [some (.ref 16), some (.int (nI k)), some (.int y), none] [] σ = some (some (.int v), σ) := by
      have k0 : jx (d + 2) 84 0 [some (.ref 16), some (.int (nI k)), some (.int y), none] [] σ = if y < 0 then jx (d + 2) 84 31 [some (.ref 16), some (.int (nI k)), some (.int y), some (.ref (qr k))] [] σ else jx (d + 2) 84 14 [some (.ref 16), some (.int (nI k)), some (.int y), some (.ref (qr k))] [] σ := by
        rw [k84_0 (sT_16 hS), c1]
        simp only [Option.bind_some, Option.toList_some, List.cons_append, List.nil_append]
        rw [k84_5R]
      by_cases n0 : y < 0
      · exact ⟨-1, by rw [k0, if_pos n0, k84_31]⟩
      · by_cases b : nI (wdN a.nr a.hc + a.nm) ≤ y
        · exact ⟨-1, by rw [k0, if_neg n0, k84_14R tq, e6, if_pos b, k84_31]⟩
        · obtain ⟨j, hj, ej⟩ := inR_nat (by omega) (show inR y (wdN a.nr a.hc + a.nm) from ⟨n0, Int32.not_le.mp b⟩)
          have r5 : (jR σ 323 (qr k)).getD 0 = qr k + 6 := by rw [u5]; rfl
          have n5 : jR σ 323 (qr k) ≠ none := by rw [u5]; exact fun z => nomatch z
          have l11 : y < Int32.ofNat 11 := by rw [ej, show Int32.ofNat 11 = nI 11 from rfl, n31 (by omega) (by decide)]; omega
          have k1 : jx (d + 2) 84 0 [some (.ref 16), some (.int (nI k)), some (.int y), none] [] σ = jx (d + 2) 84 33 [some (.ref 16), some (.int (nI k)), some (.int y), some (.ref (qr k))] [] σ := by
            rw [k0, if_neg n0, k84_14R tq, e6, if_neg b, k84_22R tq n5 (by rw [r5, tu]; decide), r5, nu, if_pos l11]
          by_cases z : jI σ 328 (qr k) = jI σ 327 (qr k)
          · exact ⟨-4, by rw [k1, k84_33R tq, if_neg (fun w => w z), k84_44]⟩
          · refine ⟨jA σ (qr k + 6) y.toNatClampNeg, ?_⟩
            rw [k1, k84_33R tq, if_pos z, k84_49R tq n5 (by rw [r5]; exact Or.inl tu) (by rw [r5, nu, ej]; exact jin_n (by omega) (by decide)), r5]
    have B : ∃ v, jx (d + 2) 168 0 [some (.ref 47), some (.int (nI k)), some (.int y)] [] σ = some (some (.int v), σ) := by
      have r6 : (jR σ 656 47).getD 0 = 61 := by rw [sR_656_47 hS]; rfl
      have r5 : (jR σ 655 47).getD 0 = 60 := by rw [sR_655_47 hS]; rfl
      have r7 : (jR σ 657 47).getD 0 = 62 := by rw [sR_657_47 hS]; rfl
      have k0 : jx (d + 2) 168 0 [some (.ref 47), some (.int (nI k)), some (.int y)] [] σ = if nI a.C = nI a.P then jx (d + 2) 168 42 [some (.ref 47), some (.int (nI k)), some (.int y)] [] σ else jx (d + 2) 168 25 [some (.ref 47), some (.int (nI k)), some (.int y)] [] σ := by
        rw [k168_0 (sT_47 hS), c2]
        simp only [Option.bind_some, Option.toList_some, List.cons_append, List.nil_append]
        rw [k168_5, if_pos (by decide), k168_10 (sT_47 hS) (by rw [sR_656_47 hS]; exact fun z => nomatch z) (by rw [r6]; exact Or.inl (sT_61 hS)) (by rw [r6, sN_61 hS]; exact gk) (by rw [sR_655_47 hS]; exact fun z => nomatch z) (by rw [r5]; exact Or.inl (sT_60 hS)) (by rw [r5, sN_60 hS]; exact gk), r6, r5, qk, m60, m61]
      by_cases z : nI a.C = nI a.P
      · exact ⟨-4, by rw [k0, if_pos z, k168_42]⟩
      · have k1 : jx (d + 2) 168 0 [some (.ref 47), some (.int (nI k)), some (.int y)] [] σ = jx (d + 2) 168 39 [some (.ref 47), some (.int (nI k)), some (.int y)] [.int (if 0 ≤ y ∧ y ≤ nI (wdN a.nr a.hc + a.nm) - 1 then 1 else 0)] σ := by
          rw [k0, if_neg z, k168_25 (sT_47 hS), c49']
          simp only [Option.bind_some, Option.toList_some, List.cons_append, List.nil_append]
          rw [k168_33, cin0]
          simp only [Option.bind_some, Option.toList_some, List.cons_append, List.nil_append]
        by_cases w : 0 ≤ y ∧ y ≤ nI (wdN a.nr a.hc + a.nm) - 1
        · obtain ⟨j, hj, ej⟩ := inR_nat (by omega) ((rng_iff (by omega)).mp w)
          have e11 : (11 : Int32) * nI k + y = nI (11 * k + j) := by rw [ej, show (11 : Int32) = nI 11 from rfl, nmul, nadd]
          refine ⟨jA σ 62 (11 * k + j), ?_⟩
          rw [k1, if_pos w, k168_39, if_pos (by decide), k168_47 (sT_47 hS) (by rw [sR_657_47 hS]; exact fun z => nomatch z) (by rw [r7]; exact Or.inl (sT_62 hS)) (by rw [r7, sN_62 hS, e11]; exact jin_n (by omega) (by decide)), r7, e11, nI_clamp (by omega)]
        · exact ⟨-4, by rw [k1, if_neg w, k168_39, if_neg (fun z => z rfl), k168_42]⟩
    obtain ⟨v, hv⟩ := A
    obtain ⟨v', hv'⟩ := B
    exact SimR.read hR0 hv hv' (fun z => absurd z (by decide))
  · have c1 := c81n (d := d + 1) hS hC h
    have c2 := c162n (d := d) hS hM hs h
    refine SimR.read hR0 (a := -1) (a' := -1) ?_ ?_ (fun _ => rfl)
    · simp (decide := true) only [k84_0, k84_5R, k84_5N, k84_10, k84_14R, k84_22R, k84_31, k84_33R, k84_44, k84_49R, c1, sT_1, sT_2, sT_3, sT_16, sT_17, sT_18, sT_19, sT_20, sT_21, sT_22, sT_23, sT_24, sT_25, sT_26, sT_27, sT_28, sT_29, sT_30, sT_31, sT_32, sT_33, sT_34, sT_35, sT_36, sT_37, sT_38, sT_39, sT_40, sT_41, sT_42, sT_43, sT_44, sT_45, sT_46, sT_47, sT_48, sT_49, sT_50, sT_51, sT_52, sT_53, sT_54, sT_55, sT_56, sT_57, sT_58, sT_59, sT_60, sT_61, sT_62, sT_63, sT_64, sT_65, sT_66, sT_67, sT_68, sT_69, sT_70, sT_71, sT_72, sT_73, sT_74, sT_75, sT_76, sT_77, sT_78, sT_79, sT_80, sN_1, sN_2, sN_19, sN_21, sN_23, sN_24, sN_26, sN_29, sN_31, sN_33, sN_35, sN_36, sN_37, sN_39, sN_40, sN_42, sN_44, sN_45, sN_46, sN_48, sN_49, sN_50, sN_51, sN_52, sN_53, sN_54, sN_55, sN_56, sN_57, sN_58, sN_59, sN_60, sN_61, sN_62, sN_63, sN_64, sN_65, sN_66, sN_67, sN_68, sN_69, sN_70, sN_71, sN_72, sN_73, sN_74, sN_75, sN_76, sN_77, sN_78, sN_79, sN_80, sR_0_34, sR_0_38, sR_1_34, sR_1_38, sR_64_20, sR_64_22, sR_128_25, sR_128_28, sR_194_17, sR_195_17, sR_196_17, sR_197_17, sR_258_30, sR_258_32, sR_258_41, sR_384_43, sR_448_18, sR_512_27, sR_513_27, sR_514_27, sR_515_27, sR_516_27, sR_576_16, sR_577_16, sR_578_16, sR_579_16, sR_580_16, sR_581_16, sR_582_16, sR_583_16, sR_584_16, sR_641_47, sR_643_47, sR_645_47, sR_646_47, sR_647_47, sR_648_47, sR_649_47, sR_650_47, sR_651_47, sR_652_47, sR_653_47, sR_654_47, sR_655_47, sR_656_47, sR_657_47, sR_658_47, sR_659_47, sR_661_47, sR_662_47, sR_663_47, sR_664_47, sR_665_47, sR_669_47, sR_670_47, sR_671_47, sR_672_47, sR_673_47, sR_674_47, sR_676_47, sR_677_47, sR_679_47, sR_680_47, sR_681_47, SH_I, SH_A, SH_G, SH_C, hS, Option.getD_some, ne_eq, reduceCtorEq, not_false_eq_true, not_true_eq_false, Option.bind_some, Option.toList_none, Option.toList_some, List.nil_append, List.cons_append, List.append_nil, ↓reduceIte, and_self, true_and, and_true, false_and, and_false, or_true, true_or, or_false, false_or, Nat.reduceEqDiff, Nat.reduceAdd, Int32.reduceMul, Int32.reduceAdd, Int32.reduceSub, Int32.reduceToNatClampNeg, Int32.reduceOfNat, Int32.reduceLT, Int32.reduceLE, va_rf]
    · simp (decide := true) only [k168_0, k168_5, k168_8, k168_10, k168_25, k168_33, k168_39, k168_42, k168_47, c2, sT_1, sT_2, sT_3, sT_16, sT_17, sT_18, sT_19, sT_20, sT_21, sT_22, sT_23, sT_24, sT_25, sT_26, sT_27, sT_28, sT_29, sT_30, sT_31, sT_32, sT_33, sT_34, sT_35, sT_36, sT_37, sT_38, sT_39, sT_40, sT_41, sT_42, sT_43, sT_44, sT_45, sT_46, sT_47, sT_48, sT_49, sT_50, sT_51, sT_52, sT_53, sT_54, sT_55, sT_56, sT_57, sT_58, sT_59, sT_60, sT_61, sT_62, sT_63, sT_64, sT_65, sT_66, sT_67, sT_68, sT_69, sT_70, sT_71, sT_72, sT_73, sT_74, sT_75, sT_76, sT_77, sT_78, sT_79, sT_80, sN_1, sN_2, sN_19, sN_21, sN_23, sN_24, sN_26, sN_29, sN_31, sN_33, sN_35, sN_36, sN_37, sN_39, sN_40, sN_42, sN_44, sN_45, sN_46, sN_48, sN_49, sN_50, sN_51, sN_52, sN_53, sN_54, sN_55, sN_56, sN_57, sN_58, sN_59, sN_60, sN_61, sN_62, sN_63, sN_64, sN_65, sN_66, sN_67, sN_68, sN_69, sN_70, sN_71, sN_72, sN_73, sN_74, sN_75, sN_76, sN_77, sN_78, sN_79, sN_80, sR_0_34, sR_0_38, sR_1_34, sR_1_38, sR_64_20, sR_64_22, sR_128_25, sR_128_28, sR_194_17, sR_195_17, sR_196_17, sR_197_17, sR_258_30, sR_258_32, sR_258_41, sR_384_43, sR_448_18, sR_512_27, sR_513_27, sR_514_27, sR_515_27, sR_516_27, sR_576_16, sR_577_16, sR_578_16, sR_579_16, sR_580_16, sR_581_16, sR_582_16, sR_583_16, sR_584_16, sR_641_47, sR_643_47, sR_645_47, sR_646_47, sR_647_47, sR_648_47, sR_649_47, sR_650_47, sR_651_47, sR_652_47, sR_653_47, sR_654_47, sR_655_47, sR_656_47, sR_657_47, sR_658_47, sR_659_47, sR_661_47, sR_662_47, sR_663_47, sR_664_47, sR_665_47, sR_669_47, sR_670_47, sR_671_47, sR_672_47, sR_673_47, sR_674_47, sR_676_47, sR_677_47, sR_679_47, sR_680_47, sR_681_47, SH_I, SH_A, SH_G, SH_C, hS, Option.getD_some, ne_eq, reduceCtorEq, not_false_eq_true, not_true_eq_false, Option.bind_some, Option.toList_none, Option.toList_some, List.nil_append, List.cons_append, List.append_nil, ↓reduceIte, and_self, true_and, and_true, false_and, and_false, or_true, true_or, or_false, false_or, Nat.reduceEqDiff, Nat.reduceAdd, Int32.reduceMul, Int32.reduceAdd, Int32.reduceSub, Int32.reduceToNatClampNeg, Int32.reduceOfNat, Int32.reduceLT, Int32.reduceLE, va_rf]
end SM6
