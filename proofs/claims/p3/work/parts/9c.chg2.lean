/-! change: the class -/
section CH2
variable {d : Nat} {σ : jS} {s : AS} {cr cp : Nat} {qr qp : Nat → Nat}
theorem c105 {W q a q2 a2 pl : Nat} {A : List (Nat → Int32)} {r : AR} {x : BN × BN} (hA : RO σ q a 24 A) (hP : RO σ q2 a2 4 (r.o2.map (newO W x))) (h1 : pl + r.o1.length ≤ A.length) (h2 : A.length - r.o1.length + r.o2.length ≤ 24) (n4 : r.o1.length ≤ 4) (qa : ¬ q = a) (ha : ¬ a2 = a) (hq : ¬ q2 = q) : ∃ σ', jx (d + 1) 105 0 [some (.ref q), some (.int (nI pl)), some (.int (nI r.o1.length)), some (.ref q2), none, none, none] [] σ = some (none, σ') ∧ FR [q, a] σ σ' ∧ (∀ g, g ≠ 257 → jI σ' g q = jI σ g q) ∧ RO σ' q a 24 (newP W r x A pl) := by
  obtain ⟨⟨r1, r2, r3, r4, r5, r6, r7, r8⟩, c1, c2⟩ := hA
  obtain ⟨⟨p1, p2, p3, p4, p5, p6, p7, p8⟩, e1, e2⟩ := hP
  rw [List.length_map] at p6 p7 e2
  have ra : (jR σ 258 q).getD 0 = a := by rw [r2]; rfl
  have ra2 : (jR σ 258 q2).getD 0 = a2 := by rw [p2]; rfl
  have t1 : nI A.length - nI pl - nI r.o1.length = nI (A.length - pl - r.o1.length) := by rw [nsub (by omega), nsub (by omega)]
  have t2 : nI A.length - nI r.o1.length + nI r.o2.length = nI (A.length - r.o1.length + r.o2.length) := by rw [nsub (by omega), nadd]
  have m1 : (nI pl + nI r.o1.length) * 6 = nI ((pl + r.o1.length) * 6) := by rw [nadd, show (6 : Int32) = nI 6 from rfl, nmul]
  have m2 : (nI pl + nI r.o2.length) * 6 = nI ((pl + r.o2.length) * 6) := by rw [nadd, show (6 : Int32) = nI 6 from rfl, nmul]
  have m3 : nI (A.length - pl - r.o1.length) * 6 = nI ((A.length - pl - r.o1.length) * 6) := by rw [show (6 : Int32) = nI 6 from rfl, nmul]
  have m4 : nI pl * 6 = nI (pl * 6) := by rw [show (6 : Int32) = nI 6 from rfl, nmul]
  have m5 : nI r.o2.length * 6 = nI (r.o2.length * 6) := by rw [show (6 : Int32) = nI 6 from rfl, nmul]
  have k1 : (nI ((pl + r.o1.length) * 6)).toNatClampNeg = (pl + r.o1.length) * 6 := nI_clamp (by omega)
  have k2 : (nI ((pl + r.o2.length) * 6)).toNatClampNeg = (pl + r.o2.length) * 6 := nI_clamp (by omega)
  have k3 : (nI ((A.length - pl - r.o1.length) * 6)).toNatClampNeg = (A.length - pl - r.o1.length) * 6 := nI_clamp (by omega)
  have k4 : (nI (pl * 6)).toNatClampNeg = pl * 6 := nI_clamp (by omega)
  have k5 : (nI (r.o2.length * 6)).toNatClampNeg = r.o2.length * 6 := nI_clamp (by omega)
  have k0 : (0 : Int32).toNatClampNeg = 0 := rfl
  have le24 : nI (A.length - r.o1.length + r.o2.length) ≤ nI 24 := nI_le h2 (by decide)
  obtain ⟨τ, eτ⟩ : ∃ τ, jcp (jcp σ a ((pl + r.o1.length) * 6) a ((pl + r.o2.length) * 6) ((A.length - pl - r.o1.length) * 6)) a2 0 a (pl * 6) (r.o2.length * 6) = τ := ⟨_, rfl⟩
  have Fτ : FR [q, a] σ τ := eτ ▸ (((FR.refl _ σ).C (by simp)).C (by simp))
  have Iτ : ∀ g b, jI τ g b = jI σ g b := fun g b => by rw [← eτ]; rfl
  have Aτ : ∀ i, jA τ a i = if pl * 6 ≤ i ∧ i < pl * 6 + r.o2.length * 6 then jA σ a2 (i - pl * 6) else if (pl + r.o2.length) * 6 ≤ i ∧ i < (pl + r.o2.length) * 6 + (A.length - pl - r.o1.length) * 6 then jA σ a ((pl + r.o1.length) * 6 + (i - (pl + r.o2.length) * 6)) else jA σ a i := fun i => by
    rw [← eτ, zC_A, if_pos rfl]
    unfold va_cpy
    by_cases b : pl * 6 ≤ i ∧ i < pl * 6 + r.o2.length * 6
    · rw [if_pos b, if_pos b, zC_A, if_neg ha, Nat.zero_add]
    · rw [if_neg b, if_neg b, zC_A, if_pos rfl]
      unfold va_cpy
      rfl
  refine ⟨jsI τ 257 q (nI (A.length - r.o1.length + r.o2.length)), ?_, Fτ.I (by simp) (by omega), fun g hg => by rw [zI_I, if_neg (fun z => hg z.1)]; exact Iτ g q, ?_⟩
  · have s : jx (d + 1) 105 0 [some (.ref q), some (.int (nI pl)), some (.int (nI r.o1.length)), some (.ref q2), none, none, none] [] σ = jx (d + 1) 105 46 [some (.ref q), some (.int (nI pl)), some (.int (nI r.o1.length)), some (.ref q2), some (.int (nI (A.length - pl - r.o1.length))), some (.int (nI (A.length - r.o1.length + r.o2.length))), none] [] σ := by
      rw [k105_0 r1 p1, if_neg (nn0 (by omega)), k105_27, if_neg (nn0 (by omega)), r6, p6, t1, t2, k105_31, if_neg (nn0 (by omega)), k105_36 r1, r5, if_pos le24]
    rw [s, k105_46 p1 r1 (by rw [r2]; exact fun z => nomatch z) (by rw [ra]; exact r3) (by rw [p6, m1, m2, m3]; exact ⟨nn0 (by omega), nn0 (by omega), nn0 (by omega)⟩) (by rw [m1, m3, k1, k3, ra, r4]; omega) (by rw [p6, m2, m3, k2, k3, ra, r4]; omega) (by rw [p2]; exact fun z => nomatch z) (by rw [ra2]; exact p3) (by rw [p6, m4, m5]; exact ⟨by decide, nn0 (by omega), nn0 (by omega)⟩) (by rw [p6, m5, k5, ra2, p4, k0]; omega) (by rw [p6, m4, m5, k4, k5, ra, r4]; omega), ra, ra2, p6, m1, m2, m3, m4, m5, k1, k2, k3, k4, k5, k0, eτ]
  · have ln := newP_len (W := W) (x := x) h1
    have T : ∀ b, jT τ b = jT σ b := fun b => by rw [Fτ.1.1]
    refine ⟨⟨by rw [zI_T, T]; exact r1, by rw [zI_R, Fτ.1.2.2.1]; exact r2, by rw [zI_T, T]; exact r3, by rw [zI_N, Fτ.1.2.1]; exact r4, by rw [zI_I, if_neg (fun z => absurd z.1 (by decide)), Iτ]; exact r5, by rw [zI_I, if_pos ⟨rfl, rfl⟩, ln], by rw [ln]; exact h2, by decide⟩, by rw [zI_I, if_pos ⟨rfl, rfl⟩, ln], fun i j hi hj => ?_⟩
    rw [ln] at hi
    rw [newP_get h1 hi, zI_A, Aτ]
    by_cases b1 : i < pl
    · rw [if_neg (by omega), if_neg (by omega), if_pos b1]
      exact c2 i j (by omega) hj
    · rw [if_neg b1]
      by_cases b2 : i < pl + r.o2.length
      · rw [if_pos (by omega), if_pos b2]
        have q := e2 (i - pl) j (by omega) hj
        rw [show 6 * i + j - pl * 6 = 6 * (i - pl) + j by omega, q]
        rw [List.getD_eq_getElem?_getD, List.getElem?_map, List.getD_eq_getElem?_getD, List.getElem?_eq_getElem (by omega)]
        rfl
      · rw [if_neg (by omega), if_pos (by omega), if_neg b2, show (pl + r.o1.length) * 6 + (6 * i + j - (pl + r.o2.length) * 6) = 6 * (i - r.o2.length + r.o1.length) + j by omega]
        exact c2 _ j (by omega) hj
/-- the class's putSecondSide -/
theorem c104 (hS : SH σ) (hs : WFs s) (hC : CX s cr cp qr qp σ) {p r pl : Nat} {x : BN × BN} (hp : p < s.ps.length) (hr : r < s.rs.length) (hw : winF s.W (s.rs.getD r ar0).o1 (s.rs.getD r ar0).o2.length (s.ps.getD p []) pl = some x) (hb : RB (-1) σ 39 40 x) : ∃ σ', jx (d + 3) 104 0 [some (.ref 16), some (.ref (qp p)), some (.int (nI pl)), some (.ref (qr r))] [] σ = some (none, σ') ∧ FR [41, 42, qp p, qp p + 1, qr r] σ σ' ∧ CX (chS s p r (newP s.W (s.rs.getD r ar0) x (s.ps.getD p []) pl)) cr cp qr qp σ' := by
  obtain ⟨a, ea⟩ : ∃ a, s.rs.getD r ar0 = a := ⟨_, rfl⟩
  obtain ⟨A, eA⟩ : ∃ A, s.ps.getD p [] = A := ⟨_, rfl⟩
  have cr' := hC.rs r hr
  have fr := hs.fr _ (mem_rs hr)
  have ra := hC.ps p hp
  rw [ea] at cr' fr hw
  rw [eA] at ra hw
  rw [ea, eA]
  have wc : pl + a.o1.length ≤ A.length ∧ A.length - a.o1.length + a.o2.length ≤ 24 := by
    unfold winF at hw
    split at hw
    · assumption
    · cases hw
  obtain ⟨⟨tp, hU, hbig, g1, g2, e4, e5, e6, e0, htp⟩, f7, f8, f9, f11, f12⟩ := cr'
  have hU0 := hU
  obtain ⟨u1, u2, u3, -⟩ := hU
  have lr := hC.lr.1
  have lp := hC.lp.1
  have dj := hC.dj
  have br := dj.r r (by omega)
  have bp := dj.p p (by omega)
  have brp := dj.rp r p (by omega) (by omega)
  obtain ⟨n0, w3⟩ := hC.w3
  have Ra : (jR σ 581 16).getD 0 = 41 := by rw [sR_581_16 hS]; rfl
  have Rn : jR σ 581 16 ≠ none := by rw [sR_581_16 hS]; exact fun z => nomatch z
  have Rb : (jR σ 580 16).getD 0 = 38 := by rw [sR_580_16 hS]; rfl
  have Rm : jR σ 580 16 ≠ none := by rw [sR_580_16 hS]; exact fun z => nomatch z
  have R3 : (jR σ 321 (qr r)).getD 0 = qr r + 3 := by rw [u3]; rfl
  have ok : ∀ o, o ∈ a.o2.map (keepF s.W) → OPk o := fun o ho => by
    obtain ⟨o', h1, h2⟩ := List.mem_map.mp ho
    obtain ⟨k0, k1, _⟩ := keep_op s.W o'
    obtain ⟨q1, q2⟩ := (fr.f2 o' h1).op
    rw [← h2]
    exact ⟨by rw [k1]; exact q1, by rw [k0, k1]; exact q2⟩
  obtain ⟨σ1, e1, F1, G1, R1⟩ := c61 (d := d) (W := s.W) (q := 41) (a := 42) (s := qr r + 3) (as := qr r + 4) (B := 38) (br := 39) (bn := 40) hS hC.st w3 g2 (BD38 hS) ok (by decide) (fun z hz => by simp at hz; simp; omega)
  have em : (a.o2.map (keepF s.W)).map (wrO s.W (jA σ 39) (jA σ 40)) = a.o2.map (newO s.W x) := by
    rw [List.map_map]
    apply List.map_congr_left
    intro o _
    exact wrO_cong hb.1 hb.2 _
  rw [em] at R1
  have hS1 := F1.sh hS
  have ra1 := ra.frame F1 (by simp; omega) (by simp; omega)
  obtain ⟨σ2, e2, F2, G2, R2⟩ := c105 (d := d + 1) (W := s.W) (r := a) (x := x) ra1 R1 wc.1 wc.2 fr.l4 (by omega) (by omega) (by omega)
  have hS2 := F2.sh hS1
  obtain ⟨L, eL⟩ : ∃ L, [41, 42, qp p, qp p + 1, qr r] = L := ⟨_, rfl⟩
  have F3 : FR L σ (jsI σ2 329 (qr r) (a.ch + 1)) := ((F1.mono (fun z hz => by rw [← eL]; simp at hz; simp; omega)).trans (F2.mono (fun z hz => by rw [← eL]; simp at hz; simp; omega))).I (by rw [← eL]; simp) (by omega)
  have ch2 : jI σ2 329 (qr r) = a.ch := by rw [(F2.2 (qr r) (by simp; omega)).1, (F1.2 (qr r) (by simp; omega)).1]; exact f9
  refine ⟨jsI σ2 329 (qr r) (a.ch + 1), ?_, by rw [eL]; exact F3, ?_⟩
  · have Ra1 : (jR σ1 581 16).getD 0 = 41 := by rw [sR_581_16 hS1]; rfl
    have Rn1 : jR σ1 581 16 ≠ none := by rw [sR_581_16 hS1]; exact fun z => nomatch z
    have u2' : jR σ1 320 (qr r) = some (qr r + 1) := by rw [F1.1.2.2.1]; exact u2
    have R1' : (jR σ1 320 (qr r)).getD 0 = qr r + 1 := by rw [u2']; rfl
    have l1 : jI σ1 257 (qr r + 1) = nI a.o1.length := by rw [(F1.2 (qr r + 1) (by simp; omega)).1, g1.1.2.2.2.2.2.1, List.length_map]
    rw [k104_0 (sT_16 hS) Rn u1 (by rw [u3]; exact fun z => nomatch z) Rm (by rw [Ra]; exact sT_41 hS), Ra, R3, Rb, hC.w, e1]
    simp only [Option.bind_some, Option.toList_none, List.nil_append]
    rw [k104_19 (by rw [F1.1.1]; exact u1) (by rw [u2']; exact fun z => nomatch z) (by rw [R1', F1.1.1]; exact g1.1.1) (sT_16 hS1) Rn1 ra1.1.1, R1', Ra1, l1, e2]
    simp only [Option.bind_some, Option.toList_none, List.nil_append]
    rw [k104_35 (by rw [F2.1.1, F1.1.1]; exact u1), ch2]
  · have F : FR L σ (jsI σ2 329 (qr r) (a.ch + 1)) := F3
    have o16 : 16 ∉ L := by rw [← eL]; simp; omega
    have er : (chS s p r (newP s.W a x A pl)).rs.length = s.rs.length := List.length_set
    have epl : (chS s p r (newP s.W a x A pl)).ps.length = s.ps.length := List.length_set
    have out : ∀ i, i < cr → i ≠ r → ∀ z, qr i ≤ z → z < qr i + 7 → z ∉ L := fun i hi hik z h1 h2 => by
      have := dj.rr i r hi (by omega) hik
      have := dj.rp i p hi (by omega)
      have := dj.r i hi
      rw [← eL]; simp; omega
    have outp : ∀ i, i < cp → i ≠ p → ∀ z, qp i ≤ z → z < qp i + 2 → z ∉ L := fun i hi hik z h1 h2 => by
      have := dj.pp i p hi (by omega) hik
      have := dj.rp r i (by omega) hi
      have := dj.p i hi
      rw [← eL]; simp; omega
    have own : ∀ z, qr r < z → z < qr r + 7 → z ∉ L := fun z h1 h2 => by rw [← eL]; simp; omega
    have I : ∀ g, g ≠ 329 → jI (jsI σ2 329 (qr r) (a.ch + 1)) g (qr r) = jI σ g (qr r) := fun g hg => by
      rw [zI_I, if_neg (fun w => hg w.1), (F2.2 (qr r) (by simp; omega)).1, (F1.2 (qr r) (by simp; omega)).1]
    have hCr : CRr (jsI σ2 329 (qr r) (a.ch + 1)) s.W (qr r) (bmp a) := by
      refine ⟨⟨tp, hU0.frame F, hbig, g1.frame F (own _ (by omega) (by omega)) (own _ (by omega) (by omega)), g2.frame F (own _ (by omega) (by omega)) (own _ (by omega) (by omega)), by rw [I 324 (by decide)]; exact e4, by rw [I 325 (by decide)]; exact e5, by rw [I 326 (by decide)]; exact e6, by rw [I 330 (by decide)]; exact e0, fun j hj => by rw [(F.2 (qr r + 5) (own _ (by omega) (by omega))).2]; exact htp j hj⟩, by rw [I 327 (by decide)]; exact f7, by rw [I 328 (by decide)]; exact f8, by rw [zI_I, if_pos ⟨rfl, rfl⟩]; rfl, by rw [I 331 (by decide)]; exact f11, by rw [I 332 (by decide)]; exact f12⟩
    have RP : RO (jsI σ2 329 (qr r) (a.ch + 1)) (qp p) (qp p + 1) 24 (newP s.W a x A pl) := R2.frame ((FR.refl [qr r] σ2).I (by simp) (by omega)) (by simp; omega) (by simp; omega)
    refine hC.gen F (fun z hz => ?_) (by rw [(F.2 16 o16).1, er]; exact hC.nr) (by rw [(F.2 16 o16).1, epl]; exact hC.np) (by rw [(F.2 16 o16).1]; exact hC.w) (by rw [(F.2 16 o16).1]; exact hC.ap) rfl rfl (by rw [(F.2 43 (by rw [← eL]; simp; omega)).1]; exact hC.ns) (fun j w hj hw' => by rw [(F.2 44 (by rw [← eL]; simp; omega)).2]; exact hC.tl j w hj hw') ?_ ?_ ?_ (by rw [er]; exact lr) (by rw [epl]; exact lp) (fun i hi => ?_) (fun i hi => ?_) (fun i hi => ?_) (fun i hi => ?_)
    · rw [← eL] at hz
      simp only [List.mem_cons, List.not_mem_nil, or_false] at hz
      rcases hz with h | h | h | h | h
      · rw [h]; exact Or.inl (by decide)
      · rw [h]; exact Or.inl (by decide)
      · exact Or.inr (by omega)
      · exact Or.inr (by omega)
      · exact Or.inr (by omega)
    · obtain ⟨n, w⟩ := hC.w1; exact ⟨n, w.frame F (by rw [← eL]; simp; omega)⟩
    · obtain ⟨n, w⟩ := hC.w2; exact ⟨n, w.frame F (by rw [← eL]; simp; omega)⟩
    · exact ⟨_, (R1.1.frame F2 (by simp; omega)).frame ((FR.refl [qr r] σ2).I (by simp) (by omega)) (by simp; omega)⟩
    · by_cases e : i = r
      · subst e; exact (hC.gr i hi).2.fr F (own _ (by omega) (by omega)) (own _ (by omega) (by omega))
      · exact (hC.gr i hi).2.fr F (out i hi e _ (by omega) (by omega)) (out i hi e _ (by omega) (by omega))
    · by_cases e : i = p
      · rw [e]; exact RP.slp
      · exact (hC.gp i hi).2.fr F (outp i hi e _ (by omega) (by omega))
    · rw [er] at hi
      show CRr _ s.W _ ((s.rs.set r (bmp (s.rs.getD r ar0))).getD i ar0)
      rw [set_rs hr]
      by_cases e : i = r
      · rw [if_pos e, e, ea]; exact hCr
      · rw [if_neg e]; exact (hC.rs i hi).fr F (out i (by omega) e)
    · rw [epl] at hi
      show RO _ _ _ _ ((s.ps.set p (newP s.W a x A pl)).getD i [])
      rw [set_ps hp]
      by_cases e : i = p
      · rw [if_pos e, e]; exact RP
      · rw [if_neg e]; exact (hC.ps i hi).frame F (outp i (by omega) e _ (by omega) (by omega)) (outp i (by omega) e _ (by omega) (by omega))
end CH2
