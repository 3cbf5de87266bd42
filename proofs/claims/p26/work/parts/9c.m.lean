section S_9c
/-! change: the class -/
section CH2
variable {d : Nat} {σ : jS} {s : AS} {cr cp : Nat} {qr qp : Nat → Nat}
theorem c105 {W q a q2 a2 pl : Nat} {A : List (Nat → Int32)} {r : AR} {x : BN × BN} (hA : RO σ q a 24 A) (hP : RO σ q2 a2 4 (r.o2.map (newO W x))) (h1 : pl + r.o1.length ≤ A.length) (h2 : A.length - r.o1.length + r.o2.length ≤ 24) (n4 : r.o1.length ≤ 4) (qa : ¬ q = a) (ha : ¬ a2 = a) (hq : ¬ q2 = q) : ∃ σ', jx (d + 1) 105 0 [some (.ref q), some (.int (nI pl)), some (.int (nI r.o1.length)), some (.ref q2), none, none, none] [] σ = some (none, σ') ∧ FR [q, a] σ σ' ∧ (∀ g, g ≠ 257 → jI σ' g q = jI σ g q) ∧ RO σ' q a 24 (newP W r x A pl) := by
  obtain ⟨⟨r1, r2, r3, r4, r5, r6, r7, r8⟩, c1, c2⟩ := hA
  obtain ⟨⟨p1, p2, p3, p4, p5, p6, p7, p8⟩, e1, e2⟩ := hP
  rw [List.length_map] at p6 p7 e2
  have ra : (jR σ 258 q).getD 0 = a := by rw [r2]; rfl
  have ra2 : (jR σ 258 q2).getD 0 = a2 := by rw [p2]; rfl
  have t1 : nI A.length - nI pl - nI r.o1.length = nI (A.length - pl - r.o1.length) := by rw [nsub (by omega), nsub (by omega)]
  have t2 : nI A.length - nI r.o1.length + nI r.o2.length = nI (A.length - r.o1.length + r.o2.length) := by rw [nsub (by omega), nadd]
  have m1 : (nI pl + nI r.o1.length) * 6 = nI ((pl + r.o1.length) * 6) := by rw [nadd, show (6 : Int32) = nI 6 from rfl, nmul]
  have m2 : (nI pl + nI r.o2.length) * 6 = nI ((pl + r.o2.length) * 6) := by rw [nadd, show (6 : Int32) = nI 6 from rfl, nmul]
  have m3 : nI (A.length - pl - r.o1.length) * 6 = nI ((A.length - pl - r.o1.length) * 6) := by rw [show (6 : Int32) = nI 6 from rfl, nmul]
  have m4 : nI pl * 6 = nI (pl * 6) := by rw [show (6 : Int32) = nI 6 from rfl, nmul]
  have m5 : nI r.o2.length * 6 = nI (r.o2.length * 6) := by rw [show (6 : Int32) = nI 6 from rfl, nmul]
  have k1 : (nI ((pl + r.o1.length) * 6)).toNatClampNeg = (pl + r.o1.length) * 6 := nI_clamp (by omega)
  have k2 : (nI ((pl + r.o2.length) * 6)).toNatClampNeg = (pl + r.o2.length) * 6 := nI_clamp (by omega)
  have k3 : (nI ((A.length - pl - r.o1.length) * 6)).toNatClampNeg = (A.length - pl - r.o1.length) * 6 := nI_clamp (by omega)
  have k4 : (nI (pl * 6)).toNatClampNeg = pl * 6 := nI_clamp (by omega)
  have k5 : (nI (r.o2.length * 6)).toNatClampNeg = r.o2.length * 6 := nI_clamp (by omega)
  have k0 : (0 : Int32).toNatClampNeg = 0 := rfl
  have le24 : nI (A.length - r.o1.length + r.o2.length) ≤ nI 24 := nI_le h2 (by decide)
  obtain ⟨τ, eτ⟩ : ∃ τ, jcp (jcp σ a ((pl + r.o1.length) * 6) a ((pl + r.o2.length) * 6) ((A.length - pl - r.o1.length) * 6)) a2 0 a (pl * 6) (r.o2.length * 6) = τ := ⟨_, rfl⟩
  have Fτ : FR [q, a] σ τ := eτ ▸ (((FR.refl _ σ).C (by simp)).C (by simp))
  have Iτ : ∀ g b, jI τ g b = jI σ g b := fun g b => by rw [← eτ]; rfl
  have Aτ : ∀ i, jA τ a i = if pl * 6 ≤ i ∧ i < pl * 6 + r.o2.length * 6 then jA σ a2 (i - pl * 6) else if (pl + r.o2.length) * 6 ≤ i ∧ i < (pl + r.o2.length) * 6 + (A.length - pl - r.o1.length) * 6 then jA σ a ((pl + r.o1.length) * 6 + (i - (pl + r.o2.length) * 6)) else jA σ a i := fun i => by
    rw [← eτ, zC_A, if_pos rfl]
    unfold va_cpy
    by_cases b : pl * 6 ≤ i ∧ i < pl * 6 + r.o2.length * 6
    · rw [if_pos b, if_pos b, zC_A, if_neg ha, Nat.zero_add]
    · rw [if_neg b, if_neg b, zC_A, if_pos rfl]
      unfold va_cpy
      rfl
  refine ⟨jsI τ 257 q (nI (A.length - r.o1.length + r.o2.length)), ?_, Fτ.I (by simp) (by omega), fun g hg => by rw [zI_I, if_neg (fun z => hg z.1)]; exact Iτ g q, ?_⟩
  · have s : jx (d + 1) 105 0 [some (.ref q), some (.int (nI pl)), some (.int (nI r.o1.length)), some (.ref q2), none, none, none] [] σ = jx (d + 1) 105 46 [some (.ref q), some (.int (nI pl)), some (.int (nI r.o1.length)), some (.ref q2), some (.int (nI (A.length - pl - r.o1.length))), some (.int (nI (A.length - r.o1.length + r.o2.length))), none] [] σ := by
      rw [k105_0 r1 p1, if_neg (nn0 (by omega)), k105_27, if_neg (nn0 (by omega)), r6, p6, t1, t2, k105_31, if_neg (nn0 (by omega)), k105_36 r1, r5, if_pos le24]
    rw [s, k105_46 p1 r1 (by rw [r2]; exact fun z => nomatch z) (by rw [ra]; exact r3) (by rw [p6, m1, m2, m3]; exact ⟨nn0 (by omega), nn0 (by omega), nn0 (by omega)⟩) (by rw [m1, m3, k1, k3, ra, r4]; omega) (by rw [p6, m2, m3, k2, k3, ra, r4]; omega) (by rw [p2]; exact fun z => nomatch z) (by rw [ra2]; exact p3) (by rw [p6, m4, m5]; exact ⟨by decide, nn0 (by omega), nn0 (by omega)⟩) (by rw [p6, m5, k5, ra2, p4, k0]; omega) (by rw [p6, m4, m5, k4, k5, ra, r4]; omega), ra, ra2, p6, m1, m2, m3, m4, m5, k1, k2, k3, k4, k5, k0, eτ]
  · have ln := newP_len (W := W) (x := x) h1
    have T : ∀ b, jT τ b = jT σ b := fun b => by rw [Fτ.1.1]
    refine ⟨⟨by rw [zI_T, T]; exact r1, by rw [zI_R, Fτ.1.2.2.1]; exact r2, by rw [zI_T, T]; exact r3, by rw [zI_N, Fτ.1.2.1]; exact r4, by rw [zI_I, if_neg (fun z => absurd z.1 (by decide)), Iτ]; exact r5, by rw [zI_I, if_pos ⟨rfl, rfl⟩, ln], by rw [ln]; exact h2, by decide⟩, by rw [zI_I, if_pos ⟨rfl, rfl⟩, ln], fun i j hi hj => ?_⟩
    rw [ln] at hi
    rw [newP_get h1 hi, zI_A, Aτ]
    by_cases b1 : i < pl
    · rw [if_neg (by omega), if_neg (by omega), if_pos b1]
      exact c2 i j (by omega) hj
    · rw [if_neg b1]
      by_cases b2 : i < pl + r.o2.length
      · rw [if_pos (by omega), if_pos b2]
        have q := e2 (i - pl) j (by omega) hj
        rw [show 6 * i + j - pl * 6 = 6 * (i - pl) + j by omega, q]
        rw [List.getD_eq_getElem?_getD, List.getElem?_map, List.getD_eq_getElem?_getD, List.getElem?_eq_getElem (by omega)]
        rfl
      · rw [if_neg (by omega), if_pos (by omega), if_neg b2, show (pl + r.o1.length) * 6 + (6 * i + j - (pl + r.o2.length) * 6) = 6 * (i - r.o2.length + r.o1.length) + j by omega]
        exact c2 _ j (by omega) hj
/-- the class's putSecondSide -/
theorem c104 (hS : SH σ) (hs : WFs s) (hC : CX s cr cp qr qp σ) {p r pl : Nat} {x : BN × BN} (hp : p < s.ps.length) (hr : r < s.rs.length) (hw : winF s.W (s.rs.getD r ar0).o1 (s.rs.getD r ar0).o2.length (s.ps.getD p []) pl = some x) (hb : RB (-1) σ 39 40 x) : ∃ σ', jx (d + 3) 104 0 [some (.ref 16), some (.ref (qp p)), some (.int (nI pl)), some (.ref (qr r))] [] σ = some (none, σ') ∧ FR [41, 42, qp p, qp p + 1, qr r] σ σ' ∧ CX (chS s p r (newP s.W (s.rs.getD r ar0) x (s.ps.getD p []) pl)) cr cp qr qp σ' := by
  obtain ⟨a, ea⟩ : ∃ a, s.rs.getD r ar0 = a := ⟨_, rfl⟩
  obtain ⟨A, eA⟩ : ∃ A, s.ps.getD p [] = A := ⟨_, rfl⟩
  have cr' := hC.rs r hr
  have fr := hs.fr _ (mem_rs hr)
  have ra := hC.ps p hp
  rw [ea] at cr' fr hw
  rw [eA] at ra hw
  rw [ea, eA]
  have wc : pl + a.o1.length ≤ A.length ∧ A.length - a.o1.length + a.o2.length ≤ 24 := by
    unfold winF at hw
    split at hw
    · assumption
    · cases hw
  obtain ⟨⟨tp, hU, hbig, g1, g2, e4, e5, e6, e0, htp⟩, f7, f8, f9, f11, f12⟩ := cr'
  have hU0 := hU
  obtain ⟨u1, u2, u3, -⟩ := hU
  have lr := hC.lr.1
  have lp := hC.lp.1
  have dj := hC.dj
  have br := dj.r r (by omega)
  have bp := dj.p p (by omega)
  have brp := dj.rp r p (by omega) (by omega)
  obtain ⟨n0, w3⟩ := hC.w3
  have Ra : (jR σ 581 16).getD 0 = 41 := by rw [sR_581_16 hS]; rfl
  have Rn : jR σ 581 16 ≠ none := by rw [sR_581_16 hS]; exact fun z => nomatch z
  have Rb : (jR σ 580 16).getD 0 = 38 := by rw [sR_580_16 hS]; rfl
  have Rm : jR σ 580 16 ≠ none := by rw [sR_580_16 hS]; exact fun z => nomatch z
  have R3 : (jR σ 321 (qr r)).getD 0 = qr r + 3 := by rw [u3]; rfl
  have ok : ∀ o, o ∈ a.o2.map (keepF s.W) → OPk o := fun o ho => by
    obtain ⟨o', h1, h2⟩ := List.mem_map.mp ho
    obtain ⟨k0, k1, _⟩ := keep_op s.W o'
    obtain ⟨q1, q2⟩ := (fr.f2 o' h1).op
    rw [← h2]
    exact ⟨by rw [k1]; exact q1, by rw [k0, k1]; exact q2⟩
  obtain ⟨σ1, e1, F1, G1, R1⟩ := c61 (d := d) (W := s.W) (q := 41) (a := 42) (s := qr r + 3) (as := qr r + 4) (B := 38) (br := 39) (bn := 40) hS hC.st w3 g2 (BD38 hS) ok (by decide) (fun z hz => by simp at hz; simp; omega)
  have em : (a.o2.map (keepF s.W)).map (wrO s.W (jA σ 39) (jA σ 40)) = a.o2.map (newO s.W x) := by
    rw [List.map_map]
    apply List.map_congr_left
    intro o _
    exact wrO_cong hb.1 hb.2 _
  rw [em] at R1
  have hS1 := F1.sh hS
  have ra1 := ra.frame F1 (by simp; omega) (by simp; omega)
  obtain ⟨σ2, e2, F2, G2, R2⟩ := c105 (d := d + 1) (W := s.W) (r := a) (x := x) ra1 R1 wc.1 wc.2 fr.l4 (by omega) (by omega) (by omega)
  have hS2 := F2.sh hS1
  obtain ⟨L, eL⟩ : ∃ L, [41, 42, qp p, qp p + 1, qr r] = L := ⟨_, rfl⟩
  have F3 : FR L σ (jsI σ2 329 (qr r) (a.ch + 1)) := ((F1.mono (fun z hz => by rw [← eL]; simp at hz; simp; omega)).trans (F2.mono (fun z hz => by rw [← eL]; simp at hz; simp; omega))).I (by rw [← eL]; simp) (by omega)
  have ch2 : jI σ2 329 (qr r) = a.ch := by rw [(F2.2 (qr r) (by simp; omega)).1, (F1.2 (qr r) (by simp; omega)).1]; exact f9
  refine ⟨jsI σ2 329 (qr r) (a.ch + 1), ?_, by rw [eL]; exact F3, ?_⟩
  · have Ra1 : (jR σ1 581 16).getD 0 = 41 := by rw [sR_581_16 hS1]; rfl
    have Rn1 : jR σ1 581 16 ≠ none := by rw [sR_581_16 hS1]; exact fun z => nomatch z
    have u2' : jR σ1 320 (qr r) = some (qr r + 1) := by rw [F1.1.2.2.1]; exact u2
    have R1' : (jR σ1 320 (qr r)).getD 0 = qr r + 1 := by rw [u2']; rfl
    have l1 : jI σ1 257 (qr r + 1) = nI a.o1.length := by rw [(F1.2 (qr r + 1) (by simp; omega)).1, g1.1.2.2.2.2.2.1, List.length_map]
    rw [k104_0 (sT_16 hS) Rn u1 (by rw [u3]; exact fun z => nomatch z) Rm (by rw [Ra]; exact sT_41 hS), Ra, R3, Rb, hC.w, e1]
    simp only [Option.bind_some, Option.toList_none, List.nil_append]
    rw [k104_19 (by rw [F1.1.1]; exact u1) (by rw [u2']; exact fun z => nomatch z) (by rw [R1', F1.1.1]; exact g1.1.1) (sT_16 hS1) Rn1 ra1.1.1, R1', Ra1, l1, e2]
    simp only [Option.bind_some, Option.toList_none, List.nil_append]
    rw [k104_35 (by rw [F2.1.1, F1.1.1]; exact u1), ch2]
  · have F : FR L σ (jsI σ2 329 (qr r) (a.ch + 1)) := F3
    have o16 : 16 ∉ L := by rw [← eL]; simp; omega
    have er : (chS s p r (newP s.W a x A pl)).rs.length = s.rs.length := List.length_set
    have epl : (chS s p r (newP s.W a x A pl)).ps.length = s.ps.length := List.length_set
    have out : ∀ i, i < cr → i ≠ r → ∀ z, qr i ≤ z → z < qr i + 7 → z ∉ L := fun i hi hik z h1 h2 => by
      have := dj.rr i r hi (by omega) hik
      have := dj.rp i p hi (by omega)
      have := dj.r i hi
      rw [← eL]; simp; omega
    have outp : ∀ i, i < cp → i ≠ p → ∀ z, qp i ≤ z → z < qp i + 2 → z ∉ L := fun i hi hik z h1 h2 => by
      have := dj.pp i p hi (by omega) hik
      have := dj.rp r i (by omega) hi
      have := dj.p i hi
      rw [← eL]; simp; omega
    have own : ∀ z, qr r < z → z < qr r + 7 → z ∉ L := fun z h1 h2 => by rw [← eL]; simp; omega
    have I : ∀ g, g ≠ 329 → jI (jsI σ2 329 (qr r) (a.ch + 1)) g (qr r) = jI σ g (qr r) := fun g hg => by
      rw [zI_I, if_neg (fun w => hg w.1), (F2.2 (qr r) (by simp; omega)).1, (F1.2 (qr r) (by simp; omega)).1]
    have hCr : CRr (jsI σ2 329 (qr r) (a.ch + 1)) s.W (qr r) (bmp a) := by
      refine ⟨⟨tp, hU0.frame F, hbig, g1.frame F (own _ (by omega) (by omega)) (own _ (by omega) (by omega)), g2.frame F (own _ (by omega) (by omega)) (own _ (by omega) (by omega)), by rw [I 324 (by decide)]; exact e4, by rw [I 325 (by decide)]; exact e5, by rw [I 326 (by decide)]; exact e6, by rw [I 330 (by decide)]; exact e0, fun j hj => by rw [(F.2 (qr r + 5) (own _ (by omega) (by omega))).2]; exact htp j hj⟩, by rw [I 327 (by decide)]; exact f7, by rw [I 328 (by decide)]; exact f8, by rw [zI_I, if_pos ⟨rfl, rfl⟩]; rfl, by rw [I 331 (by decide)]; exact f11, by rw [I 332 (by decide)]; exact f12⟩
    have RP : RO (jsI σ2 329 (qr r) (a.ch + 1)) (qp p) (qp p + 1) 24 (newP s.W a x A pl) := R2.frame ((FR.refl [qr r] σ2).I (by simp) (by omega)) (by simp; omega) (by simp; omega)
    refine hC.gen F (fun z hz => ?_) (by rw [(F.2 16 o16).1, er]; exact hC.nr) (by rw [(F.2 16 o16).1, epl]; exact hC.np) (by rw [(F.2 16 o16).1]; exact hC.w) (by rw [(F.2 16 o16).1]; exact hC.ap) rfl rfl (by rw [(F.2 43 (by rw [← eL]; simp; omega)).1]; exact hC.ns) (fun j w hj hw' => by rw [(F.2 44 (by rw [← eL]; simp; omega)).2]; exact hC.tl j w hj hw') ?_ ?_ ?_ (by rw [er]; exact lr) (by rw [epl]; exact lp) (fun i hi => ?_) (fun i hi => ?_) (fun i hi => ?_) (fun i hi => ?_)
    · rw [← eL] at hz
      simp only [List.mem_cons, List.not_mem_nil, or_false] at hz
      rcases hz with h | h | h | h | h
      · rw [h]; exact Or.inl (by decide)
      · rw [h]; exact Or.inl (by decide)
      · exact Or.inr (by omega)
      · exact Or.inr (by omega)
      · exact Or.inr (by omega)
    · obtain ⟨n, w⟩ := hC.w1; exact ⟨n, w.frame F (by rw [← eL]; simp; omega)⟩
    · obtain ⟨n, w⟩ := hC.w2; exact ⟨n, w.frame F (by rw [← eL]; simp; omega)⟩
    · exact ⟨_, (R1.1.frame F2 (by simp; omega)).frame ((FR.refl [qr r] σ2).I (by simp) (by omega)) (by simp; omega)⟩
    · by_cases e : i = r
      · subst e; exact (hC.gr i hi).2.fr F (own _ (by omega) (by omega)) (own _ (by omega) (by omega))
      · exact (hC.gr i hi).2.fr F (out i hi e _ (by omega) (by omega)) (out i hi e _ (by omega) (by omega))
    · by_cases e : i = p
      · rw [e]; exact RP.slp
      · exact (hC.gp i hi).2.fr F (outp i hi e _ (by omega) (by omega))
    · rw [er] at hi
      show CRr _ s.W _ ((s.rs.set r (bmp (s.rs.getD r ar0))).getD i ar0)
      rw [set_rs hr]
      by_cases e : i = r
      · rw [if_pos e, e, ea]; exact hCr
      · rw [if_neg e]; exact (hC.rs i hi).fr F (out i (by omega) e)
    · rw [epl] at hi
      show RO _ _ _ _ ((s.ps.set p (newP s.W a x A pl)).getD i [])
      rw [set_ps hp]
      by_cases e : i = p
      · rw [if_pos e, e]; exact RP
      · rw [if_neg e]; exact (hC.ps i hi).frame F (outp i (by omega) e _ (by omega) (by omega)) (outp i (by omega) e _ (by omega) (by omega))
end CH2
end S_9c
section S_9d
/-! change: the reference -/
theorem nI_prd (j : Nat) : nI (j + 1) + (-1) = nI j := by
  rw [nI_succ, Int32.add_assoc]
  exact Int32.add_zero _
abbrev w9 (p pl r n m S : Nat) (l8 l9 l10 l11 : Option Value) : List (Option Value) := [some (.ref 47), some (.int (nI p)), some (.int (nI pl)), some (.int (nI r)), some (.int (nI n)), some (.int (nI m)), some (.int (nI S)), some (.int (nI (24 * p))), l8, l9, l10, l11]
section CH3
variable {d : Nat} {σ : jS} {s : AS}
/-- one order is put -/
theorem c186o {W p pl r n m S i nr nm : Nat} {x : BN × BN} {o : Nat → Int32} {l9 l10 l11 : Option Value} (hS : SH σ) (hW : W = 1 ∨ W = 2 ∨ W = 3) (hw : jI σ 640 47 = nI W) (hb : RB (-4) σ 76 77 x) (hF : FUL nr nm x) (hnr : nr ≤ 4) (hnm : nm ≤ 3) (ho : WFo nr nm o) (hO : MO σ (8 * r + 4 + i) o) (hp : p < 16) (hr : r < 24) (hm : m ≤ 4) (hi : i < m) (hpl : pl + i < 24) : ∃ σ' l9' l10' l11', jx (d + 3) 186 143 (w9 p pl r n m S (some (.int (nI i))) l9 l10 l11) [] σ = jx (d + 3) 186 143 (w9 p pl r n m S (some (.int (nI (i + 1)))) l9' l10' l11') [] σ' ∧ FR [66, 67, 68, 69] σ σ' ∧ ∀ j z, j < 4 → jA σ' (66 + j) z = if z = 24 * p + pl + i then newO W x o j else jA σ (66 + j) z := by
  obtain ⟨v0, v1, v2, v3⟩ := newO_val hW hnr hnm hF ho
  obtain ⟨ok1, ok2⟩ := ho.op
  have hO0 := hO
  obtain ⟨k1, k2, k3, k4, k5⟩ := hO
  have r3 := regN3 (opO o)
  have R : ∀ {υ : jS} {g a : Nat}, jR υ g 47 = some a → (jR υ g 47).getD 0 = a ∧ jR υ g 47 ≠ none := fun h => by rw [h]; exact ⟨rfl, fun z => nomatch z⟩
  obtain ⟨K, eK⟩ : ∃ K, 8 * r + 4 + i = K := ⟨_, rfl⟩
  obtain ⟨T, eT⟩ : ∃ T, 24 * p + pl + i = T := ⟨_, rfl⟩
  rw [eK] at k1 k2 hO0
  rw [eT]
  have hK : K < 192 := by omega
  have hT : T < 384 := by omega
  have iK : jin 192 (nI K) := jin_n hK (by decide)
  have cK : (nI K).toNatClampNeg = K := nI_clamp (by omega)
  have iT : jin 384 (nI T) := jin_n hT (by decide)
  have cT : (nI T).toNatClampNeg = T := nI_clamp (by omega)
  have mK : (8 : Int32) * nI r + 4 + nI i = nI K := by rw [show (8 : Int32) = nI 8 from rfl, nmul, show (4 : Int32) = nI 4 from rfl, nadd, nadd, eK]
  have mT : nI (24 * p) + nI pl + nI i = nI T := by rw [nadd, nadd, eT]
  -- a register of the order, read in any state like this
  have reg : ∀ {υ : jS}, SH υ → FR [66, 67, 68, 69] σ υ → ∀ j, j < regN (opO o) → ∃ w, w < 4 ∧ jA υ 52 (3 * K + j) = nI w ∧ jA υ 76 w = newO W x o (j + 1) := fun {υ} hSu G j hj => by
    obtain ⟨w, u, w4, u4, ew, eu, en⟩ := v1 j hj
    refine ⟨w, w4, by rw [(G.2 52 (by decide)).2, k2 j hj]; exact ew, ?_⟩
    rw [(G.2 76 (by decide)).2, hb.1 w w4, en]
    unfold encB
    rw [eu]
  have s6 := R (sR_646_47 hS)
  have s62 := R (sR_662_47 hS)
  have s63 := R (sR_663_47 hS)
  have a51 : jA σ 51 K = nI (opO o) := by rw [k1]; exact ok2
  obtain ⟨τ1, e1⟩ : ∃ τ1, jsA σ 66 T (nI (opO o)) = τ1 := ⟨_, rfl⟩
  have F1 : FR [66, 67, 68, 69] σ τ1 := e1 ▸ (FR.refl _ σ).A (by decide)
  have S1 := F1.sh hS
  have A1 : jx (d + 3) 186 143 (w9 p pl r n m S (some (.int (nI i))) l9 l10 l11) [] σ = if nI (regN (opO o)) ≤ 0 then jx (d + 3) 186 224 (w9 p pl r n m S (some (.int (nI i))) (some (.int (nI K))) (some (.int (nI T))) (some (.int (nI (regN (opO o)))))) [.int (nI T), .ref 67] τ1 else jx (d + 3) 186 207 (w9 p pl r n m S (some (.int (nI i))) (some (.int (nI K))) (some (.int (nI T))) (some (.int (nI (regN (opO o)))))) [.int (nI T), .ref 67] τ1 := by
    rw [k186_143, if_neg (nI_ge (by omega) (by omega)), k186_150 (sT_47 hS) s6.2 (by rw [s6.1]; exact Or.inl (sT_51 hS)) (by rw [s6.1, sN_51 hS, mK]; exact iK), s6.1, mK, mT, cK, a51, c137 ok1]
    simp only [Option.bind_some, Option.toList_some, List.cons_append, List.nil_append]
    rw [k186_180 (sT_47 hS) s62.2 s6.2 (by rw [s6.1]; exact Or.inl (sT_51 hS)) (by rw [s6.1, sN_51 hS]; exact iK) (by rw [s62.1]; exact sT_66 hS) (by rw [s62.1, sN_66 hS]; exact iT) s63.2, s6.1, s62.1, s63.1, cK, cT, a51, e1]
  obtain ⟨τ2, e2⟩ : ∃ τ2, jsA τ1 67 T (newO W x o 1) = τ2 := ⟨_, rfl⟩
  have F2 : FR [66, 67, 68, 69] σ τ2 := e2 ▸ F1.A (by decide)
  have S2 := F2.sh hS
  have t76 := R (sR_676_47 S1)
  have t47 := R (sR_647_47 S1)
  have t64 := R (sR_664_47 S1)
  have e3K : (3 : Int32) * nI K = nI (3 * K) := by rw [show (3 : Int32) = nI 3 from rfl, nmul]
  have A2 : jx (d + 3) 186 143 (w9 p pl r n m S (some (.int (nI i))) l9 l10 l11) [] σ = if nI (regN (opO o)) ≤ 1 then jx (d + 3) 186 257 (w9 p pl r n m S (some (.int (nI i))) (some (.int (nI K))) (some (.int (nI T))) (some (.int (nI (regN (opO o)))))) [.int (nI T), .ref 68] τ2 else jx (d + 3) 186 238 (w9 p pl r n m S (some (.int (nI i))) (some (.int (nI K))) (some (.int (nI T))) (some (.int (nI (regN (opO o)))))) [.int (nI T), .ref 68] τ2 := by
    rw [A1]
    by_cases q : regN (opO o) = 0
    · have z : newO W x o 1 = 0 := v3 1 (by decide) (by omega) (fun z => absurd z.1 (by decide))
      rw [if_pos (by rw [q]; decide), k186_224 (sT_67 S1) (by rw [sN_67 S1]; exact iT) (sT_47 S1) t64.2, t64.1, cT, ← z, e2]
    · obtain ⟨w, w4, w1, w2⟩ := reg S1 F1 0 (by omega)
      have n0 : ¬ nI (regN (opO o)) ≤ 0 := by rw [show (0 : Int32) = nI 0 from rfl, n31le (by omega) (by decide)]; omega
      rw [if_neg n0, k186_207 (sT_47 S1) t76.2 t47.2 (by rw [t47.1]; exact Or.inl (sT_52 S1)) (by rw [t47.1, sN_52 S1, e3K]; exact jin_n (by omega) (by decide)) (by rw [t76.1]; exact Or.inl (sT_76 S1)) (by rw [t76.1, sN_76 S1, t47.1, e3K, nI_clamp (by omega), show 3 * K = 3 * K + 0 from rfl, w1]; exact jin_n w4 (by decide)) (sT_67 S1) (by rw [sN_67 S1]; exact iT) t64.2, t64.1, t76.1, t47.1, e3K, cT, nI_clamp (by omega), show jA τ1 52 (3 * K) = nI w from w1, nI_clamp (by omega), w2, e2]
  obtain ⟨y2, ey⟩ : ∃ y2, (if 2 ≤ regN (opO o) then newO W x o 2 else 0) = y2 := ⟨_, rfl⟩
  obtain ⟨τ3, e3⟩ : ∃ τ3, jsA τ2 68 T y2 = τ3 := ⟨_, rfl⟩
  have F3 : FR [66, 67, 68, 69] σ τ3 := e3 ▸ F2.A (by decide)
  have S3 := F3.sh hS
  have p76 := R (sR_676_47 S2)
  have p47 := R (sR_647_47 S2)
  have p65 := R (sR_665_47 S2)
  have e3K1 : (3 : Int32) * nI K + 1 = nI (3 * K + 1) := by rw [e3K, ← nI_succ]
  have A3 : jx (d + 3) 186 143 (w9 p pl r n m S (some (.int (nI i))) l9 l10 l11) [] σ = if nI (regN (opO o)) ≤ 2 then jx (d + 3) 186 290 (w9 p pl r n m S (some (.int (nI i))) (some (.int (nI K))) (some (.int (nI T))) (some (.int (nI (regN (opO o)))))) [.int (nI T), .ref 69] τ3 else jx (d + 3) 186 271 (w9 p pl r n m S (some (.int (nI i))) (some (.int (nI K))) (some (.int (nI T))) (some (.int (nI (regN (opO o)))))) [.int (nI T), .ref 69] τ3 := by
    rw [A2]
    by_cases q : regN (opO o) ≤ 1
    · have z : y2 = 0 := by rw [← ey, if_neg (by omega)]
      have n1 : nI (regN (opO o)) ≤ 1 := nI_le (b := 1) q (by decide)
      rw [if_pos n1, k186_257 (sT_68 S2) (by rw [sN_68 S2]; exact iT) (sT_47 S2) p65.2, p65.1, cT, ← z, e3]
    · obtain ⟨w, w4, w1, w2⟩ := reg S2 F2 1 (by omega)
      have n1 : ¬ nI (regN (opO o)) ≤ 1 := by rw [show (1 : Int32) = nI 1 from rfl, n31le (by omega) (by decide)]; omega
      have z : newO W x o (1 + 1) = y2 := by rw [← ey, if_pos (by omega)]
      rw [if_neg n1, k186_238 (sT_47 S2) p76.2 p47.2 (by rw [p47.1]; exact Or.inl (sT_52 S2)) (by rw [p47.1, sN_52 S2, e3K1]; exact jin_n (by omega) (by decide)) (by rw [p76.1]; exact Or.inl (sT_76 S2)) (by rw [p76.1, sN_76 S2, p47.1, e3K1, nI_clamp (by omega), w1]; exact jin_n w4 (by decide)) (sT_68 S2) (by rw [sN_68 S2]; exact iT) p65.2, p65.1, p76.1, p47.1, e3K1, cT, nI_clamp (n := 3 * K + 1) (by omega), w1, nI_clamp (by omega), w2, z, e3]
  obtain ⟨τ4, e4⟩ : ∃ τ4, jsA τ3 69 T (newO W x o 3) = τ4 := ⟨_, rfl⟩
  have F4 : FR [66, 67, 68, 69] σ τ4 := e4 ▸ F3.A (by decide)
  have S4 := F4.sh hS
  have q76 := R (sR_676_47 S3)
  have q47 := R (sR_647_47 S3)
  have q46 := R (sR_646_47 S3)
  have e3K2 : (3 : Int32) * nI K + 2 = nI (3 * K + 2) := by rw [e3K, show (2 : Int32) = nI 2 from rfl, nadd]
  have b51 : jA τ4 51 K = nI (opO o) := by rw [(F4.2 51 (by decide)).2]; exact a51
  have A4 : jx (d + 3) 186 143 (w9 p pl r n m S (some (.int (nI i))) l9 l10 l11) [] σ = jx (d + 3) 186 302 (w9 p pl r n m S (some (.int (nI i))) (some (.int (nI K))) (some (.int (nI T))) (some (.int (nI (regN (opO o)))))) [.int (if numN (opO o) = true then 1 else 0)] τ4 := by
    rw [A3]
    by_cases q : regN (opO o) ≤ 2
    · have z : newO W x o 3 = 0 := v3 3 (by decide) (by omega) (fun z => absurd z.1 (by decide))
      have n2 : nI (regN (opO o)) ≤ 2 := nI_le (b := 2) q (by decide)
      rw [z] at e4
      rw [if_pos n2, k186_290 (sT_69 S3) (by rw [sN_69 S3]; exact iT) (sT_47 S3) q46.2 (by rw [q46.1]; exact Or.inl (sT_51 S3)) (by rw [q46.1, sN_51 S3]; exact iK), q46.1, cT, cK, e4, b51, c143 ok1]
      simp only [Option.bind_some, Option.toList_some, List.cons_append, List.nil_append]
    · obtain ⟨w, w4, w1, w2⟩ := reg S3 F3 2 (by omega)
      have n2 : ¬ nI (regN (opO o)) ≤ 2 := by rw [show (2 : Int32) = nI 2 from rfl, n31le (by omega) (by decide)]; omega
      have w2' : jA τ3 76 w = newO W x o 3 := w2
      rw [if_neg n2, k186_271 (sT_47 S3) q76.2 q47.2 (by rw [q47.1]; exact Or.inl (sT_52 S3)) (by rw [q47.1, sN_52 S3, e3K2]; exact jin_n (by omega) (by decide)) (by rw [q76.1]; exact Or.inl (sT_76 S3)) (by rw [q76.1, sN_76 S3, q47.1, e3K2, nI_clamp (by omega), w1]; exact jin_n w4 (by decide)) (sT_69 S3) (by rw [sN_69 S3]; exact iT) q46.2 (by rw [q46.1]; exact Or.inl (sT_51 S3)) (by rw [q46.1, sN_51 S3]; exact iK), q76.1, q47.1, q46.1, e3K2, cT, cK, nI_clamp (n := 3 * K + 2) (by omega), w1, nI_clamp (by omega), w2', e4, b51, c143 ok1]
      simp only [Option.bind_some, Option.toList_some, List.cons_append, List.nil_append]
  have V4 : ∀ j z, j < 4 → jA τ4 (66 + j) z = if z = T then (if j = 2 then y2 else newO W x o j) else jA σ (66 + j) z := by
    intro j z hj
    rw [← e4, ← e3, ← e2, ← e1]
    by_cases ez : z = T
    · subst ez
      rw [if_pos rfl]
      rcases jnf4 hj with h | h | h | h <;> subst h
      · rw [if_neg (by decide), zA_A, if_neg (fun w => absurd w.1 (by decide)), zA_A, if_neg (fun w => absurd w.1 (by decide)), zA_A, if_neg (fun w => absurd w.1 (by decide)), zA_A, if_pos ⟨rfl, rfl⟩, v0, ok2]
      · rw [if_neg (by decide), zA_A, if_neg (fun w => absurd w.1 (by decide)), zA_A, if_neg (fun w => absurd w.1 (by decide)), zA_A, if_pos ⟨rfl, rfl⟩]
      · rw [if_pos rfl, zA_A, if_neg (fun w => absurd w.1 (by decide)), zA_A, if_pos ⟨rfl, rfl⟩]
      · rw [if_neg (by decide), zA_A, if_pos ⟨rfl, rfl⟩]
    · rw [if_neg ez, zA_A, if_neg (fun w => ez w.2), zA_A, if_neg (fun w => ez w.2), zA_A, if_neg (fun w => ez w.2), zA_A, if_neg (fun w => ez w.2)]
  by_cases hn : numN (opO o) = true
  · have r1 := numN1 hn
    have mv : ∀ k, k < nm → jA τ4 77 (0 + k) = encB (-1) x.2 k := fun k hk => by
      rw [Nat.zero_add, (F4.2 77 (by decide)).2, hb.2 k (by omega)]
      obtain ⟨u, _, eu⟩ := hF.2 k hk
      unfold encB
      rw [eu]
    obtain ⟨q1, -⟩ := v2 hn (fun k => jA τ4 77 (0 + k)) mv
    have w4 : jI τ4 640 47 = nI W := by rw [(F4.2 47 (by decide)).1]; exact hw
    have c4 := c154 (d := d) (W := W) (k := K) (nr := nr) (nm := nm) (row := 77) (fr := 0) (N := 3) (o := o) S4 hW w4 hK (hO0.fr F4 (fun a h1 h2 => by simp; omega)) ho hnm hn (sT_77 S4) (sN_77 S4) (by omega) (by decide)
    rw [← q1] at c4
    have c4' : jx (d + 2) 154 0 [some (.ref 47), some (.int (nI K)), some (.ref 77), some (.int 0), none, none, none] [] τ4 = some (some (.int (newO W x o 2)), τ4) := c4
    have g64 := R (sR_664_47 S4)
    have g77 := R (sR_677_47 S4)
    refine ⟨jsA τ4 68 T (newO W x o 2), some (.int (nI K)), some (.int (nI T)), some (.int (nI (regN (opO o)))), ?_, F4.A (by decide), fun j z hj => ?_⟩
    · rw [A4, if_pos hn, k186_302, if_neg (by decide), k186_305 (sT_47 S4) g64.2 g77.2, g64.1, g77.1, c4']
      simp only [Option.bind_some, Option.toList_some, List.cons_append, List.nil_append]
      rw [k186_322 (sT_68 S4) (by rw [sN_68 S4]; exact iT), cT, ← nI_succ]
    · rw [zA_A]
      by_cases e : j = 2 ∧ z = T
      · rw [if_pos ⟨by rw [e.1], e.2⟩, if_pos e.2, e.1]
      · rw [if_neg (fun w => e ⟨by omega, w.2⟩), V4 j z hj]
        by_cases ez : z = T
        · rw [if_pos ez, if_pos ez, if_neg (fun w => e ⟨w, ez⟩)]
        · rw [if_neg ez, if_neg ez]
  · refine ⟨τ4, some (.int (nI K)), some (.int (nI T)), some (.int (nI (regN (opO o)))), ?_, F4, fun j z hj => ?_⟩
    · rw [A4, if_neg hn, k186_302, if_pos rfl, k186_323, ← nI_succ]
    · rw [V4 j z hj]
      by_cases ez : z = T
      · rw [if_pos ez, if_pos ez]
        by_cases j2 : j = 2
        · rw [if_pos j2, ← ey, j2]
          by_cases q : 2 ≤ regN (opO o)
          · rw [if_pos q]
          · rw [if_neg q]; exact (v3 2 (by decide) (by omega) (fun w => hn w.2)).symm
        · rw [if_neg j2]
      · rw [if_neg ez, if_neg ez]
end CH3
end S_9d
section S_9e
/-! change: the reference, whole; change of both -/
section CH4
variable {d : Nat} {σ : jS} {s : AS} {cr cp : Nat} {qr qp : Nat → Nat}
/-- the orders behind are moved -/
def MVd (σ υ : jS) (lo hi n m : Nat) : Prop := FR [66, 67, 68, 69] σ υ ∧ ∀ j i, j < 4 → jA υ (66 + j) i = if lo ≤ i ∧ i < hi then jA σ (66 + j) (i + n - m) else jA σ (66 + j) i
theorem c186m {p pl r n m S : Nat} (hS : SH σ) (hp : p < 16) (h1 : pl + n ≤ S) (h2 : S - n + m ≤ 24) (hS24 : S ≤ 24) (n1 : 1 ≤ n) (n4 : n ≤ 4) (m4 : m ≤ 4) (hr : r < 24) (e0 : jA σ 50 (2 * r) = nI n) (e1 : jA σ 50 (2 * r + 1) = nI m) (e5 : jA σ 65 p = nI S) : ∃ υ, MVd σ υ (24 * p + pl + m) (24 * p + (S + m - n)) n m ∧ jx (d + 3) 186 0 [some (.ref 47), some (.int (nI p)), some (.int (nI pl)), some (.int (nI r)), none, none, none, none, none, none, none, none] [] σ = jx (d + 3) 186 143 (w9 p pl r n m S (some (.int (nI 0))) none none none) [] (jsA υ 65 p (nI (S + m - n))) := by
  have R : ∀ {υ : jS} {g a : Nat}, jR υ g 47 = some a → (jR υ g 47).getD 0 = a ∧ jR υ g 47 ≠ none := fun h => by rw [h]; exact ⟨rfl, fun z => nomatch z⟩
  have q0 := R (sR_645_47 hS)
  have q1 := R (sR_661_47 hS)
  have c2r : (2 : Int32) * nI r = nI (2 * r) := by rw [show (2 : Int32) = nI 2 from rfl, nmul]
  have c2r1 : (2 : Int32) * nI r + 1 = nI (2 * r + 1) := by rw [c2r, ← nI_succ]
  have c24 : (24 : Int32) * nI p = nI (24 * p) := by rw [show (24 : Int32) = nI 24 from rfl, nmul]
  have st : jx (d + 3) 186 0 [some (.ref 47), some (.int (nI p)), some (.int (nI pl)), some (.int (nI r)), none, none, none, none, none, none, none, none] [] σ = if nI m ≤ nI n then jx (d + 3) 186 87 (w9 p pl r n m S none none none none) [] σ else jx (d + 3) 186 43 (w9 p pl r n m S none none none none) [] σ := by
    rw [k186_0 (sT_47 hS) q0.2 (by rw [q0.1]; exact Or.inl (sT_50 hS)) (by rw [q0.1, sN_50 hS, c2r]; exact jin_n (by omega) (by decide)) (by rw [q0.1, sN_50 hS, c2r1]; exact jin_n (by omega) (by decide)) q1.2 (by rw [q1.1]; exact Or.inl (sT_65 hS)) (by rw [q1.1, sN_65 hS]; exact jin_n (by omega) (by decide)), q0.1, q1.1, c2r1, c2r, c24, nI_clamp (by omega), nI_clamp (by omega), nI_clamp (by omega), e0, e1, e5]
  have fin : ∀ {υ : jS}, FR [66, 67, 68, 69] σ υ → (jR υ 661 47).getD 0 = 65 ∧ jR υ 661 47 ≠ none ∧ jT υ ((jR υ 661 47).getD 0) = 20 ∧ jin (jN υ ((jR υ 661 47).getD 0)) (nI p) := fun F => by
    have h := F.sh hS
    have q := R (sR_661_47 h)
    exact ⟨q.1, q.2, by rw [q.1]; exact sT_65 h, by rw [q.1, sN_65 h]; exact jin_n hp (by decide)⟩
  have eS : nI S + nI m - nI n = nI (S + m - n) := by rw [nadd, nsub (by omega)]
  have cp' : (nI p).toNatClampNeg = p := nI_clamp (by omega)
  by_cases hmn : m ≤ n
  · have L : ∀ f k υ, k + f = S → pl + n ≤ k → MVd σ υ (24 * p + pl + m) (24 * p + (k + m - n)) n m → ∃ υ', MVd σ υ' (24 * p + pl + m) (24 * p + (S + m - n)) n m ∧ jx (d + 3) 186 93 (w9 p pl r n m S (some (.int (nI k))) none none none) [] υ = jx (d + 3) 186 143 (w9 p pl r n m S (some (.int (nI 0))) none none none) [] (jsA υ' 65 p (nI (S + m - n))) := by
      intro f
      induction f with
      | zero =>
        intro k υ hk hk2 h
        have e : k = S := by omega
        subst e
        obtain ⟨f1, f2, f3, f4⟩ := fin h.1
        refine ⟨υ, h, ?_⟩
        rw [k186_93, if_pos (nI_le (Nat.le_refl _) (by omega)), k186_126 (sT_47 (h.1.sh hS)) f2 f3 f4, f1, cp', eS]
        rfl
      | succ f ih =>
        intro k υ hk hk2 h
        have hSu := h.1.sh hS
        have x1 : nI (24 * p) + nI k = nI (24 * p + k) := by rw [nadd]
        have x2 : nI (24 * p + k) + nI m - nI n = nI (24 * p + (k + m - n)) := by rw [nadd, nsub (by omega)]; congr 1; omega
        obtain ⟨υ1, e1, F1, g1⟩ := c178 (d := d + 2) hSu (x := 24 * p + k) (y := 24 * p + (k + m - n)) (by omega) (by omega)
        obtain ⟨υ', h', e'⟩ := ih (k + 1) υ1 (by omega) (by omega) ⟨h.1.trans F1, fun j i hj => by
          rw [g1 j i hj]
          by_cases e : i = 24 * p + (k + m - n)
          · rw [if_pos e, if_pos (by omega), h.2 j _ hj, if_neg (by omega)]
            congr 1
            omega
          · rw [if_neg e, h.2 j i hj]
            by_cases b : 24 * p + pl + m ≤ i ∧ i < 24 * p + (k + m - n)
            · rw [if_pos b, if_pos (by omega)]
            · rw [if_neg b, if_neg (by omega)]⟩
        refine ⟨υ', h', ?_⟩
        rw [k186_93, if_neg (nI_ge (by omega) (by omega)), k186_100 (sT_47 hSu), x1, x2, e1]
        simp only [Option.bind_some, Option.toList_none, List.nil_append]
        rw [k186_120, ← nI_succ]
        exact e'
    obtain ⟨υ, h, e⟩ := L (S - (pl + n)) (pl + n) σ (by omega) (Nat.le_refl _) ⟨FR.refl _ σ, fun j i _ => by rw [if_neg (by omega)]⟩
    refine ⟨υ, h, ?_⟩
    rw [st, if_pos (nI_le hmn (by omega)), k186_87, nadd]
    exact e
  · have L : ∀ f k υ, pl + n + f = k → k ≤ S → MVd σ υ (24 * p + (k + m - n)) (24 * p + (S + m - n)) n m → ∃ υ', MVd σ υ' (24 * p + pl + m) (24 * p + (S + m - n)) n m ∧ jx (d + 3) 186 49 (w9 p pl r n m S (some (.int (nI (k - 1)))) none none none) [] υ = jx (d + 3) 186 143 (w9 p pl r n m S (some (.int (nI 0))) none none none) [] (jsA υ' 65 p (nI (S + m - n))) := by
      intro f
      induction f with
      | zero =>
        intro k υ hk hk2 h
        have e : k = pl + n := by omega
        subst e
        obtain ⟨f1, f2, f3, f4⟩ := fin h.1
        refine ⟨υ, by rw [show 24 * p + pl + m = 24 * p + (pl + n + m - n) by omega]; exact h, ?_⟩
        rw [k186_49, nadd, if_pos (by rw [n31 (by omega) (by omega)]; omega), k186_84 (sT_47 (h.1.sh hS)) f2 f3 f4, f1, cp', eS]
        rfl
      | succ f ih =>
        intro k υ hk hk2 h
        have hSu := h.1.sh hS
        have x1 : nI (24 * p) + nI (k - 1) = nI (24 * p + (k - 1)) := by rw [nadd]
        have x2 : nI (24 * p + (k - 1)) + nI m - nI n = nI (24 * p + (k - 1 + m - n)) := by rw [nadd, nsub (by omega)]; congr 1; omega
        obtain ⟨υ1, e1, F1, g1⟩ := c178 (d := d + 2) hSu (x := 24 * p + (k - 1)) (y := 24 * p + (k - 1 + m - n)) (by omega) (by omega)
        obtain ⟨υ', h', e'⟩ := ih (k - 1) υ1 (by omega) (by omega) ⟨h.1.trans F1, fun j i hj => by
          rw [g1 j i hj]
          by_cases e : i = 24 * p + (k - 1 + m - n)
          · rw [if_pos e, if_pos (by omega), h.2 j _ hj, if_neg (by omega)]
            congr 1
            omega
          · rw [if_neg e, h.2 j i hj]
            by_cases b : 24 * p + (k + m - n) ≤ i ∧ i < 24 * p + (S + m - n)
            · rw [if_pos b, if_pos (by omega)]
            · rw [if_neg b, if_neg (by omega)]⟩
        refine ⟨υ', h', ?_⟩
        have pr : nI (k - 1) + (-1) = nI (k - 1 - 1) := by
          have := nI_prd (k - 1 - 1)
          rw [show k - 1 - 1 + 1 = k - 1 by omega] at this
          exact this
        rw [k186_49, nadd, if_neg (by rw [n31 (by omega) (by omega)]; omega), k186_58 (sT_47 hSu), x1, x2, e1]
        simp only [Option.bind_some, Option.toList_none, List.nil_append]
        rw [k186_78, pr]
        exact e'
    obtain ⟨υ, h, e⟩ := L (S - (pl + n)) S σ (by omega) (Nat.le_refl _) ⟨FR.refl _ σ, fun j i _ => by rw [if_neg (by omega)]⟩
    refine ⟨υ, h, ?_⟩
    have s1 : nI S - 1 = nI (S - 1) := by rw [show (1 : Int32) = nI 1 from rfl, nsub (by omega)]
    rw [st, if_neg (by rw [n31le (by omega) (by omega)]; exact hmn), k186_43, s1]
    exact e
theorem c186 (hS : SH σ) (hs : WFs s) (hM : CM s σ) {p r pl : Nat} {x : BN × BN} (hp : p < s.ps.length) (hr : r < s.rs.length) (hw : winF s.W (s.rs.getD r ar0).o1 (s.rs.getD r ar0).o2.length (s.ps.getD p []) pl = some x) (hb : RB (-4) σ 76 77 x) (ib : IB x.1) (ic : IC x.2) : ∃ σ', jx (d + 3) 186 0 [some (.ref 47), some (.int (nI p)), some (.int (nI pl)), some (.int (nI r)), none, none, none, none, none, none, none, none] [] σ = some (none, σ') ∧ FR [64, 65, 66, 67, 68, 69] σ σ' ∧ CM (chS s p r (newP s.W (s.rs.getD r ar0) x (s.ps.getD p []) pl)) σ' := by
  obtain ⟨a, ea⟩ : ∃ a, s.rs.getD r ar0 = a := ⟨_, rfl⟩
  obtain ⟨A, eA⟩ : ∃ A, s.ps.getD p [] = A := ⟨_, rfl⟩
  have mr := hM.rs r hr
  have fr := hs.fr _ (mem_rs hr)
  have pa := hM.ps p hp
  have hr24 := hs.r24
  have hp16 := hs.p16
  rw [ea] at mr fr hw
  rw [eA] at pa hw
  rw [ea, eA]
  have hF := win_ful fr hw ib ic
  have wc : pl + a.o1.length ≤ A.length ∧ A.length - a.o1.length + a.o2.length ≤ 24 := by
    unfold winF at hw
    split at hw
    · assumption
    · cases hw
  obtain ⟨wc1, wc2⟩ := wc
  obtain ⟨⟨rg, m1, m2, m3, m4, m5, m6, m7, m8, m9, m10⟩, -⟩ := mr
  have l1 := fr.l1
  have z24 := pa.2.1
  obtain ⟨υ, hMV, e1⟩ := c186m (d := d) (pl := pl) hS (by omega) wc1 wc2 z24 l1 m3 m4 (by omega) m1 m2 pa.1
  obtain ⟨υ0, e0⟩ : ∃ υ0, jsA υ 65 p (nI (A.length + a.o2.length - a.o1.length)) = υ0 := ⟨_, rfl⟩
  rw [e0] at e1
  have F0 : FR [64, 65, 66, 67, 68, 69] σ υ0 := e0 ▸ (hMV.1.mono (fun z hz => by simp at hz; simp; omega)).A (by decide)
  have V0 : ∀ j i, j < 4 → jA υ0 (66 + j) i = if 24 * p + pl + a.o2.length ≤ i ∧ i < 24 * p + (A.length + a.o2.length - a.o1.length) then jA σ (66 + j) (i + a.o1.length - a.o2.length) else jA σ (66 + j) i := fun j i hj => by
    rw [← e0, zA_A, if_neg (fun z => by omega)]; exact hMV.2 j i hj
  have V65 : ∀ i, jA υ0 65 i = if i = p then nI (A.length + a.o2.length - a.o1.length) else jA σ 65 i := fun i => by
    rw [← e0, zA_A]
    by_cases e : i = p
    · rw [if_pos ⟨rfl, e⟩, if_pos e]
    · rw [if_neg (fun z => e z.2), if_neg e]; exact (hMV.1.2 65 (by decide)).2 i
  have L : ∀ f i τ l9 l10 l11, i + f = a.o2.length → FR [66, 67, 68, 69] υ0 τ → (∀ j z, j < 4 → jA τ (66 + j) z = if 24 * p + pl ≤ z ∧ z < 24 * p + pl + i then newO s.W x (a.o2.getD (z - (24 * p + pl)) (fun _ => 0)) j else jA υ0 (66 + j) z) → ∃ τ' l8 l9' l10' l11', jx (d + 3) 186 143 (w9 p pl r a.o1.length a.o2.length A.length (some (.int (nI i))) l9 l10 l11) [] τ = jx (d + 3) 186 329 (w9 p pl r a.o1.length a.o2.length A.length l8 l9' l10' l11') [] τ' ∧ FR [66, 67, 68, 69] υ0 τ' ∧ (∀ j z, j < 4 → jA τ' (66 + j) z = if 24 * p + pl ≤ z ∧ z < 24 * p + pl + a.o2.length then newO s.W x (a.o2.getD (z - (24 * p + pl)) (fun _ => 0)) j else jA υ0 (66 + j) z) := by
    intro f
    induction f with
    | zero =>
      intro i τ l9 l10 l11 hi F V
      have e : i = a.o2.length := by omega
      subst e
      refine ⟨τ, some (.int (nI a.o2.length)), l9, l10, l11, ?_, F, V⟩
      rw [k186_143, if_pos (nI_le (Nat.le_refl _) (by omega))]
    | succ f ih =>
      intro i τ l9 l10 l11 hi F V
      have hlt : i < a.o2.length := by omega
      have FF : FR [64, 65, 66, 67, 68, 69] σ τ := F0.trans (F.mono (fun z hz => by simp at hz; simp; omega))
      obtain ⟨τ1, b9, b10, b11, e2, F2, V2⟩ := c186o (d := d) (W := s.W) (p := p) (pl := pl) (r := r) (n := a.o1.length) (m := a.o2.length) (S := A.length) (i := i) (nr := a.nr) (nm := a.nm) (x := x) (o := a.o2.getD i (fun _ => 0)) (l9 := l9) (l10 := l10) (l11 := l11) (FF.sh hS) hs.w (by rw [(FF.2 47 (by decide)).1]; exact hM.w) ⟨fun k hk => by rw [(FF.2 76 (by decide)).2]; exact hb.1 k hk, fun k hk => by rw [(FF.2 77 (by decide)).2]; exact hb.2 k hk⟩ hF fr.nr4 fr.nm3 (fr.f2 _ (mem_getD hlt)) ((m10 i hlt).fr FF (fun z h1 h2 => by simp; omega)) (by omega) (by omega) m4 hlt (by omega)
      obtain ⟨τ', l8, c9, c10, c11, e3, F3, V3⟩ := ih (i + 1) τ1 b9 b10 b11 (by omega) (F.trans F2) (fun j z hj => by
        rw [V2 j z hj]
        by_cases e : z = 24 * p + pl + i
        · rw [if_pos e, if_pos (by omega), e, Nat.add_sub_cancel_left]
        · rw [if_neg e, V j z hj]
          by_cases b : 24 * p + pl ≤ z ∧ z < 24 * p + pl + i
          · rw [if_pos b, if_pos (by omega)]
          · rw [if_neg b, if_neg (by omega)])
      exact ⟨τ', l8, c9, c10, c11, e2.trans e3, F3, V3⟩
  obtain ⟨τ, l8, l9, l10, l11, e2, Fτ, Vτ⟩ := L a.o2.length 0 υ0 none none none (by omega) (FR.refl _ υ0) (fun j z _ => by rw [if_neg (by omega)])
  have FF : FR [64, 65, 66, 67, 68, 69] σ τ := F0.trans (Fτ.mono (fun z hz => by simp at hz; simp; omega))
  have Sτ := FF.sh hS
  have R : ∀ {υ : jS} {g a : Nat}, jR υ g 47 = some a → (jR υ g 47).getD 0 = a ∧ jR υ g 47 ≠ none := fun h => by rw [h]; exact ⟨rfl, fun z => nomatch z⟩
  have q9 := R (sR_659_47 Sτ)
  have mr := hM.rs r hr
  rw [ea] at mr
  have c64 : jA τ 64 r = a.ch := by
    rw [(Fτ.2 64 (by decide)).2, ← e0, zA_A, if_neg (fun z => absurd z.1 (by decide)), (hMV.1.2 64 (by decide)).2]
    exact mr.2.2.2.2
  have FX' : FR [64, 65, 66, 67, 68, 69] σ (jsA τ 64 r (a.ch + 1)) := FF.A (by decide)
  refine ⟨jsA τ 64 r (a.ch + 1), ?_, FX', ?_⟩
  · rw [e1]
    refine e2.trans ?_
    rw [k186_329 (sT_47 Sτ) q9.2 (by rw [q9.1]; exact Or.inl (sT_64 Sτ)) (by rw [q9.1, sN_64 Sτ]; exact jin_n (by omega) (by decide)) (by rw [q9.1]; exact sT_64 Sτ), q9.1, nI_clamp (by omega), c64]
  · have z := fun b (hb : b ∉ [64, 65, 66, 67, 68, 69]) i => (FX'.2 b hb).2 i
    have er : (chS s p r (newP s.W a x A pl)).rs.length = s.rs.length := List.length_set
    have epl : (chS s p r (newP s.W a x A pl)).ps.length = s.ps.length := List.length_set
    have I := (FX'.2 47 (by decide)).1
    have V64 : ∀ i, jA (jsA τ 64 r (a.ch + 1)) 64 i = if i = r then a.ch + 1 else jA σ 64 i := fun i => by
      rw [zA_A]
      by_cases e : i = r
      · rw [if_pos ⟨rfl, e⟩, if_pos e]
      · rw [if_neg (fun w => e w.2), if_neg e, (Fτ.2 64 (by decide)).2, ← e0, zA_A, if_neg (fun z => absurd z.1 (by decide)), (hMV.1.2 64 (by decide)).2]
    have W65 : ∀ i, jA (jsA τ 64 r (a.ch + 1)) 65 i = if i = p then nI (A.length + a.o2.length - a.o1.length) else jA σ 65 i := fun i => by
      rw [zA_A, if_neg (fun z => absurd z.1 (by decide)), (Fτ.2 65 (by decide)).2, V65]
    have W66 : ∀ j i, j < 4 → jA (jsA τ 64 r (a.ch + 1)) (66 + j) i = if 24 * p + pl ≤ i ∧ i < 24 * p + pl + a.o2.length then newO s.W x (a.o2.getD (i - (24 * p + pl)) (fun _ => 0)) j else if 24 * p + pl + a.o2.length ≤ i ∧ i < 24 * p + (A.length + a.o2.length - a.o1.length) then jA σ (66 + j) (i + a.o1.length - a.o2.length) else jA σ (66 + j) i := fun j i hj => by
      rw [zA_A, if_neg (fun z => by omega), Vτ j i hj]
      by_cases b : 24 * p + pl ≤ i ∧ i < 24 * p + pl + a.o2.length
      · rw [if_pos b, if_pos b]
      · rw [if_neg b, if_neg b, V0 j i hj]
    refine ⟨fun j hj => by rw [z 70 (by decide)]; exact hM.nv j hj, by rw [I, er]; exact hM.nr, by rw [I, epl]; exact hM.np, by rw [I]; exact hM.w, by rw [I]; exact hM.ap, ⟨by rw [I]; exact hM.tm.1, hM.tm.2.1, fun j hj => by rw [z 48 (by decide)]; exact hM.tm.2.2 j hj⟩, by rw [I]; exact hM.ns, fun j w hj hw' => by rw [z (78 + w) (by simp; omega)]; exact hM.tl j w hj hw', fun i hi => ?_, fun i hi => ?_⟩
    · rw [er] at hi
      show MRr _ i ((s.rs.set r (bmp (s.rs.getD r ar0))).getD i ar0)
      rw [set_rs hr]
      obtain ⟨⟨rg', mm⟩, n1, n2, n3, n4⟩ := hM.rs i hi
      have mm' := mm.frame FX' (fun b x y => by simp; omega)
      by_cases e : i = r
      · subst e
        rw [if_pos rfl]
        rw [ea] at mm' n1 n2 n3 n4 ⊢
        exact ⟨⟨rg', mm'⟩, by rw [z 60 (by decide)]; exact n1, by rw [z 61 (by decide)]; exact n2, by rw [z 63 (by decide)]; exact n3, by rw [V64, if_pos rfl]; rfl⟩
      · rw [if_neg e]
        exact ⟨⟨rg', mm'⟩, by rw [z 60 (by decide)]; exact n1, by rw [z 61 (by decide)]; exact n2, by rw [z 63 (by decide)]; exact n3, by rw [V64, if_neg e]; exact n4⟩
    · rw [epl] at hi
      show PM _ i ((s.ps.set p (newP s.W a x A pl)).getD i [])
      rw [set_ps hp]
      by_cases e : i = p
      · subst e
        rw [if_pos rfl]
        have ln := newP_len (W := s.W) (x := x) wc1
        refine ⟨by rw [W65, if_pos rfl, ln]; congr 1; omega, by rw [ln]; exact wc2, fun k j hk hj => ?_⟩
        rw [ln] at hk
        rw [newP_get wc1 hk, W66 j _ hj]
        by_cases b1 : k < pl
        · rw [if_neg (by omega), if_neg (by omega), if_pos b1]
          exact pa.2.2 k j (by omega) hj
        · rw [if_neg b1]
          by_cases b2 : k < pl + a.o2.length
          · rw [if_pos (by omega), if_pos b2, show 24 * i + k - (24 * i + pl) = k - pl by omega]
          · rw [if_neg (by omega), if_pos (by omega), if_neg b2, show 24 * i + k + a.o1.length - a.o2.length = 24 * i + (k - a.o2.length + a.o1.length) by omega]
            exact pa.2.2 _ j (by omega) hj
      · rw [if_neg e]
        obtain ⟨p1, p2, p3⟩ := hM.ps i hi
        refine ⟨by rw [W65, if_neg e]; exact p1, p2, fun k j hk hj => ?_⟩
        rw [W66 j _ hj, if_neg (by omega), if_neg (by omega)]
        exact p3 k j hk hj
end CH4
end S_9e
section S_9f
/-! change: both -/
section CH5
variable {d : Nat} {σ : jS} {s : AS} {cr cp : Nat} {qr qp : Nat → Nat}
theorem sim_change (hR : REL s cr cp qr qp σ) (x y z : Int32) : SimR (d + 5) 103 185 [some (.int x), some (.int y), some (.int z), none, none] [some (.int x), some (.int y), some (.int z)] true σ := by
  have hR0 := hR
  obtain ⟨hS, hx, hs, hC, hM⟩ := hR
  have r8 : (jR σ 580 16).getD 0 = 38 := by rw [sR_580_16 hS]; rfl
  have n8 : jR σ 580 16 ≠ none := by rw [sR_580_16 hS]; exact fun z => nomatch z
  obtain ⟨P1, P2⟩ := cls_pl (d := d + 2) hS hs hC x y z
  by_cases h : PLc s x y z
  · obtain ⟨p, i, r, hp, hi, hr, ep, ei, er, a1, a2, a3⟩ := P1 h
    have l24 := (hs.fp _ (mem_ps hp)).1
    have hp16 := hs.p16
    have hr24 := hs.r24
    have crr := hC.rs r hr
    have u1 : jT σ (qr r) = 6 := by obtain ⟨⟨tp, hU, -⟩, -⟩ := crr; exact hU.1
    have f11 := crr.2.2.2.2.1
    have fr := hs.fr _ (mem_rs hr)
    have to28 : jx (d + 5) 103 0 [some (.ref 16), some (.int x), some (.int y), some (.int z), none, none] [] σ = if (if sndA (s.rs.getD r ar0) then (1 : Int32) else 0) = 0 then jx (d + 5) 103 58 [some (.ref 16), some (.int x), some (.int y), some (.int z), some (.ref (qp p)), some (.ref (qr r))] [] σ else jx (d + 5) 103 43 [some (.ref 16), some (.int x), some (.int y), some (.int z), some (.ref (qp p)), some (.ref (qr r))] [] σ := by
      rw [k103_0 (sT_16 hS), a1]
      simp only [Option.bind_some, Option.toList_some, List.cons_append, List.nil_append]
      rw [k103_5R (sT_16 hS), a2]
      simp only [Option.bind_some, Option.toList_some, List.cons_append, List.nil_append]
      rw [k103_12RR (hC.ps p hp).1.1, a3]
      simp only [Option.bind_some, Option.toList_some, List.cons_append, List.nil_append]
      rw [k103_25, if_neg (by decide), k103_28R u1, f11]
    have ref : ∀ {υ : jS} (_ : SH υ) (_ : CM s υ), ∃ υ' , FR [76, 77] υ υ' ∧ CM s υ' ∧ SH υ' ∧ (match winF s.W (s.rs.getD r ar0).o1 (s.rs.getD r ar0).o2.length (s.ps.getD p []) i with | some w => (RB (-4) υ' 76 77 w ∧ IB w.1 ∧ IC w.2) ∧ jx (d + 5) 185 0 [some (.ref 47), some (.int x), some (.int y), some (.int z)] [] υ = if ¬ ((if sndA (s.rs.getD r ar0) then (1 : Int32) else 0) = 0) then jx (d + 5) 185 33 [some (.ref 47), some (.int x), some (.int y), some (.int z)] [] υ' else some (some (.int (-2)), υ') | none => jx (d + 5) 185 0 [some (.ref 47), some (.int x), some (.int y), some (.int z)] [] υ = some (some (.int (-2)), υ')) := fun {υ} hSu hMu => by
      obtain ⟨υ', e2, F2, w2⟩ := c182 (d := d + 2) hSu hs hMu hp hr (pl := i) (by omega)
      have hS2 := F2.sh hSu
      have hM2 := hMu.w7 hs F2
      have b1 := c181y (d := d + 2) hSu hs hMu h
      rw [← ei, ← ep, ← er] at e2
      refine ⟨υ', F2, hM2, hS2, ?_⟩
      cases hw : winF s.W (s.rs.getD r ar0).o1 (s.rs.getD r ar0).o2.length (s.ps.getD p []) i with
      | none =>
        rw [hw] at e2
        show jx _ _ _ _ _ _ = _
        rw [k185_0 (sT_47 hSu), b1]
        simp only [Option.bind_some, Option.toList_some, List.cons_append, List.nil_append]
        rw [k185_7, if_pos (by decide), k185_12 (sT_47 hSu), e2]
        simp only [Option.bind_some, Option.toList_some, List.cons_append, List.nil_append]
        rw [k185_19, if_pos (by decide), k185_30]
      | some w =>
        rw [hw] at e2
        have e2 : jx (d + 4) 182 0 [some (.ref 47), some (.int x), some (.int y), some (.int z), none, none, none, none, none, none, none, none] [] υ = some (some (.int 1), υ') := e2
        have c4 := c164 (d := d + 1) hS2 (r := r) (by omega) fr (hM2.rs r hr)
        rw [← er] at c4
        refine ⟨w2 w hw, ?_⟩
        rw [k185_0 (sT_47 hSu), b1]
        simp only [Option.bind_some, Option.toList_some, List.cons_append, List.nil_append]
        rw [k185_7, if_pos (by decide), k185_12 (sT_47 hSu), e2]
        simp only [Option.bind_some, Option.toList_some, List.cons_append, List.nil_append]
        rw [k185_19, if_neg (by decide), k185_22 (sT_47 hS2), c4]
        simp only [Option.bind_some, Option.toList_some, List.cons_append, List.nil_append]
        rw [k185_27, k185_30]
    by_cases hsnd : sndA (s.rs.getD r ar0)
    · rw [if_pos hsnd] at to28 ref
      obtain ⟨σ1, e1, F1, w1⟩ := c97 (d := d) hS hs hC hp hr (pl := i) (by omega)
      have hS1 := F1.sh hS
      have hC1 : CX s cr cp qr qp σ1 := hC.scr F1 (by decide)
      have hM1 := hM.sm (F1.sm (fun a h1 h2 => by simp; omega))
      have nx1 : jnx σ1 = jnx σ := F1.1.2.2.2.2.1
      have sl1 : jsl σ1 = jsl σ := F1.1.2.2.2.2.2
      rw [← ei] at e1
      have to55 : ∀ v : Int32, (if (winF s.W (s.rs.getD r ar0).o1 (s.rs.getD r ar0).o2.length (s.ps.getD p []) i).isSome = true then (1 : Int32) else 0) = v → jx (d + 5) 103 0 [some (.ref 16), some (.int x), some (.int y), some (.int z), none, none] [] σ = if ¬ (v = 0) then jx (d + 5) 103 61 [some (.ref 16), some (.int x), some (.int y), some (.int z), some (.ref (qp p)), some (.ref (qr r))] [] σ1 else jx (d + 5) 103 58 [some (.ref 16), some (.int x), some (.int y), some (.int z), some (.ref (qp p)), some (.ref (qr r))] [] σ1 := fun v ev => by
        rw [to28, if_neg (by decide), k103_43RR (sT_16 hS) n8 (by rw [r8]; exact sT_38 hS), r8, e1, ev]
        simp only [Option.bind_some, Option.toList_some, List.cons_append, List.nil_append]
        rw [k103_55]
      cases hw : winF s.W (s.rs.getD r ar0).o1 (s.rs.getD r ar0).o2.length (s.ps.getD p []) i with
      | none =>
        rw [hw] at to55 ref
        obtain ⟨σ2, F2, hM2, hS2, e2⟩ := ref hS1 hM1
        have sc2 := F2.sc (fun a ha => by simp at ha; omega)
        have nx2 : jnx σ2 = jnx σ1 := F2.1.2.2.2.2.1
        have sl2 : jsl σ2 = jsl σ1 := F2.1.2.2.2.2.2
        exact ⟨-2, -2, σ1, σ2, s, cr, cp, qr, qp, by show jx (d + 5) 103 0 [some (.ref 16), some (.int x), some (.int y), some (.int z), none, none] [] σ = _; rw [to55 0 rfl, if_neg (fun q => q rfl), k103_58], e2, ⟨hS2, by omega, hs, CX.sc (by omega) hC1 sc2, hM2⟩, by omega, by omega, (F1.low (by simp)).trans (sc2.low (by omega)), fun _ => rfl⟩
      | some w =>
        obtain ⟨rb1, ib, ic⟩ := w1 w hw
        obtain ⟨σ2, e2, F2, hC2⟩ := c104 (d := d + 1) hS1 hs hC1 hp hr hw rb1
        have bp := hC.dj.p p (by have := hC.lp.1; omega)
        have br := hC.dj.r r (by have := hC.lr.1; omega)
        have hS2 := F2.sh hS1
        have hM2 := hM1.sm (F2.sm (fun a h1 h2 => by simp; omega))
        have nx2 : jnx σ2 = jnx σ1 := F2.1.2.2.2.2.1
        have sl2 : jsl σ2 = jsl σ1 := F2.1.2.2.2.2.2
        rw [hw] at to55 ref
        obtain ⟨σ3, F3, hM3, hS3, ⟨rb3, _, _⟩, e3⟩ := ref hS2 hM2
        have nx3 : jnx σ3 = jnx σ2 := F3.1.2.2.2.2.1
        have sl3 : jsl σ3 = jsl σ2 := F3.1.2.2.2.2.2
        obtain ⟨σ4, e4, F4, hM4⟩ := c186 (d := d + 1) hS3 hs hM3 hp hr hw rb3 ib ic
        have hS4 := F4.sh hS3
        have nx4 : jnx σ4 = jnx σ3 := F4.1.2.2.2.2.1
        have sl4 : jsl σ4 = jsl σ3 := F4.1.2.2.2.2.2
        have sc3 := F3.sc (fun a ha => by simp at ha; omega)
        have sc4 := F4.sc (fun a ha => by simp at ha; omega)
        have sc := sc3.trans sc4
        rw [← ei, ← ep, ← er] at e4
        rw [← ei] at e2
        have fr' := fr
        have hF := win_ful fr hw ib ic
        have wc : i + (s.rs.getD r ar0).o1.length ≤ (s.ps.getD p []).length ∧ (s.ps.getD p []).length - (s.rs.getD r ar0).o1.length + (s.rs.getD r ar0).o2.length ≤ 24 := by
          have q := hw
          unfold winF at q
          split at q
          · assumption
          · cases q
        obtain ⟨Bn, eBn⟩ : ∃ Bn, newP s.W (s.rs.getD r ar0) w (s.ps.getD p []) i = Bn := ⟨_, rfl⟩
        have lenB : Bn.length ≤ 24 := by rw [← eBn, newP_len wc.1]; exact wc.2
        have pwf : ∀ o, o ∈ Bn → PWF o := by rw [← eBn]; exact newP_pwf hs.w fr hF (hs.fp _ (mem_ps hp)).2
        rw [eBn] at hC2 hM4
        have epl : (chS s p r Bn).ps.length = s.ps.length := List.length_set
        have gB : (chS s p r Bn).ps.getD p [] = Bn := by
          show (s.ps.set p Bn).getD p [] = Bn
          rw [set_ps hp, if_pos rfl]
        have L2 : jI σ2 257 (qp p) = nI Bn.length := by
          have := (hC2.ps p (by rw [epl]; exact hp)).1.2.2.2.2.2.1
          rw [gB] at this
          exact this
        have L4 : jA σ4 65 p = nI Bn.length := by
          have := (hM4.ps p (by rw [epl]; exact hp)).1
          rw [gB] at this
          exact this
        refine ⟨nI Bn.length, nI Bn.length, σ2, σ4, chS s p r Bn, cr, cp, qr, qp, ?_, ?_, ⟨hS4, by omega, chS_wf hs hr ⟨lenB, pwf⟩, CX.sc (by omega) hC2 sc, hM4⟩, by omega, by omega, ((F1.low (by simp)).trans (F2.low (fun b hb => by simp at hb; omega))).trans (sc.low (by omega)), fun _ => rfl⟩
        · show jx (d + 5) 103 0 [some (.ref 16), some (.int x), some (.int y), some (.int z), none, none] [] σ = _
          have tp : jT σ2 (qp p) = 5 := by rw [F2.1.1, F1.1.1]; exact (hC.ps p hp).1.1
          rw [to55 1 rfl, if_pos (by decide), k103_61RR (sT_16 hS1), e2]
          simp only [Option.bind_some, Option.toList_none, List.nil_append]
          rw [k103_70R tp, L2]
        · have q1 : (jR σ4 661 47).getD 0 = 65 := by rw [sR_661_47 hS4]; rfl
          have q2 : jR σ4 661 47 ≠ none := by rw [sR_661_47 hS4]; exact fun z => nomatch z
          show jx (d + 5) 185 0 [some (.ref 47), some (.int x), some (.int y), some (.int z)] [] σ2 = _
          rw [e3, if_pos (by decide), k185_33 (sT_47 hS3), e4]
          simp only [Option.bind_some, Option.toList_none, List.nil_append]
          rw [ep, k185_40 (sT_47 hS4) q2 (by rw [q1]; exact Or.inl (sT_65 hS4)) (by rw [q1, sN_65 hS4]; exact jin_n (by omega) (by decide)), q1, nI_clamp (by omega), L4]
    · rw [if_neg hsnd] at to28 ref
      obtain ⟨σ2, F2, hM2, hS2, e2⟩ := ref hS hM
      have e2' : jx (d + 5) 185 0 [some (.ref 47), some (.int x), some (.int y), some (.int z)] [] σ = some (some (.int (-2)), σ2) := by
        cases hw : winF s.W (s.rs.getD r ar0).o1 (s.rs.getD r ar0).o2.length (s.ps.getD p []) i with
        | none => rw [hw] at e2; exact e2
        | some w =>
          rw [hw] at e2
          have q := e2.2
          rw [if_neg (fun z => z rfl)] at q
          exact q
      have sc2 := F2.sc (fun a ha => by simp at ha; omega)
      have nx2 : jnx σ2 = jnx σ := F2.1.2.2.2.2.1
      have sl2 : jsl σ2 = jsl σ := F2.1.2.2.2.2.2
      exact ⟨-2, -2, σ, σ2, s, cr, cp, qr, qp, by show jx (d + 5) 103 0 [some (.ref 16), some (.int x), some (.int y), some (.int z), none, none] [] σ = _; rw [to28, if_pos rfl, k103_58], e2', ⟨hS2, by omega, hs, CX.sc (by omega) hC sc2, hM2⟩, by omega, by omega, sc2.low (by omega), fun _ => rfl⟩
  · have b1 := c181n (d := d + 2) hS hs hM h
    refine SimR.read hR0 (a := -1) (a' := -1) ?_ ?_ (fun _ => rfl)
    · rcases P2 h with ⟨a1, ⟨r, a2⟩ | a2⟩ | ⟨p, hp, a1, ⟨⟨r, a2⟩, a3⟩ | ⟨a2, a3 | a3⟩⟩
      · simp (decide := true) only [k103_0, k103_5R, k103_5N, k103_12RR, k103_12RN, k103_12NR, k103_12NN, k103_19R, k103_25, k103_28R, k103_28N, k103_33, k103_35R, k103_43RR, k103_43RN, k103_43NR, k103_43NN, k103_55, k103_58, k103_61RR, k103_61RN, k103_61NR, k103_61NN, k103_70R, a1, a2, sT_1, sT_2, sT_3, sT_16, sT_17, sT_18, sT_19, sT_20, sT_21, sT_22, sT_23, sT_24, sT_25, sT_26, sT_27, sT_28, sT_29, sT_30, sT_31, sT_32, sT_33, sT_34, sT_35, sT_36, sT_37, sT_38, sT_39, sT_40, sT_41, sT_42, sT_43, sT_44, sT_45, sT_46, sT_47, sT_48, sT_49, sT_50, sT_51, sT_52, sT_53, sT_54, sT_55, sT_56, sT_57, sT_58, sT_59, sT_60, sT_61, sT_62, sT_63, sT_64, sT_65, sT_66, sT_67, sT_68, sT_69, sT_70, sT_71, sT_72, sT_73, sT_74, sT_75, sT_76, sT_77, sT_78, sT_79, sT_80, sN_1, sN_2, sN_19, sN_21, sN_23, sN_24, sN_26, sN_29, sN_31, sN_33, sN_35, sN_36, sN_37, sN_39, sN_40, sN_42, sN_44, sN_45, sN_46, sN_48, sN_49, sN_50, sN_51, sN_52, sN_53, sN_54, sN_55, sN_56, sN_57, sN_58, sN_59, sN_60, sN_61, sN_62, sN_63, sN_64, sN_65, sN_66, sN_67, sN_68, sN_69, sN_70, sN_71, sN_72, sN_73, sN_74, sN_75, sN_76, sN_77, sN_78, sN_79, sN_80, sR_0_34, sR_0_38, sR_1_34, sR_1_38, sR_64_20, sR_64_22, sR_128_25, sR_128_28, sR_194_17, sR_195_17, sR_196_17, sR_197_17, sR_258_30, sR_258_32, sR_258_41, sR_384_43, sR_448_18, sR_512_27, sR_513_27, sR_514_27, sR_515_27, sR_516_27, sR_576_16, sR_577_16, sR_578_16, sR_579_16, sR_580_16, sR_581_16, sR_582_16, sR_583_16, sR_584_16, sR_641_47, sR_643_47, sR_645_47, sR_646_47, sR_647_47, sR_648_47, sR_649_47, sR_650_47, sR_651_47, sR_652_47, sR_653_47, sR_654_47, sR_655_47, sR_656_47, sR_657_47, sR_658_47, sR_659_47, sR_661_47, sR_662_47, sR_663_47, sR_664_47, sR_665_47, sR_669_47, sR_670_47, sR_671_47, sR_672_47, sR_673_47, sR_674_47, sR_676_47, sR_677_47, sR_679_47, sR_680_47, sR_681_47, SH_I, SH_A, SH_G, SH_C, hS, Option.getD_some, ne_eq, reduceCtorEq, not_false_eq_true, not_true_eq_false, Option.bind_some, Option.toList_none, Option.toList_some, List.nil_append, List.cons_append, List.append_nil, ↓reduceIte, and_self, true_and, and_true, false_and, and_false, or_true, true_or, or_false, false_or, Nat.reduceEqDiff, Nat.reduceAdd, Int32.reduceMul, Int32.reduceAdd, Int32.reduceSub, Int32.reduceToNatClampNeg, Int32.reduceOfNat, Int32.reduceLT, Int32.reduceLE, va_rf]
      · simp (decide := true) only [k103_0, k103_5R, k103_5N, k103_12RR, k103_12RN, k103_12NR, k103_12NN, k103_19R, k103_25, k103_28R, k103_28N, k103_33, k103_35R, k103_43RR, k103_43RN, k103_43NR, k103_43NN, k103_55, k103_58, k103_61RR, k103_61RN, k103_61NR, k103_61NN, k103_70R, a1, a2, sT_1, sT_2, sT_3, sT_16, sT_17, sT_18, sT_19, sT_20, sT_21, sT_22, sT_23, sT_24, sT_25, sT_26, sT_27, sT_28, sT_29, sT_30, sT_31, sT_32, sT_33, sT_34, sT_35, sT_36, sT_37, sT_38, sT_39, sT_40, sT_41, sT_42, sT_43, sT_44, sT_45, sT_46, sT_47, sT_48, sT_49, sT_50, sT_51, sT_52, sT_53, sT_54, sT_55, sT_56, sT_57, sT_58, sT_59, sT_60, sT_61, sT_62, sT_63, sT_64, sT_65, sT_66, sT_67, sT_68, sT_69, sT_70, sT_71, sT_72, sT_73, sT_74, sT_75, sT_76, sT_77, sT_78, sT_79, sT_80, sN_1, sN_2, sN_19, sN_21, sN_23, sN_24, sN_26, sN_29, sN_31, sN_33, sN_35, sN_36, sN_37, sN_39, sN_40, sN_42, sN_44, sN_45, sN_46, sN_48, sN_49, sN_50, sN_51, sN_52, sN_53, sN_54, sN_55, sN_56, sN_57, sN_58, sN_59, sN_60, sN_61, sN_62, sN_63, sN_64, sN_65, sN_66, sN_67, sN_68, sN_69, sN_70, sN_71, sN_72, sN_73, sN_74, sN_75, sN_76, sN_77, sN_78, sN_79, sN_80, sR_0_34, sR_0_38, sR_1_34, sR_1_38, sR_64_20, sR_64_22, sR_128_25, sR_128_28, sR_194_17, sR_195_17, sR_196_17, sR_197_17, sR_258_30, sR_258_32, sR_258_41, sR_384_43, sR_448_18, sR_512_27, sR_513_27, sR_514_27, sR_515_27, sR_516_27, sR_576_16, sR_577_16, sR_578_16, sR_579_16, sR_580_16, sR_581_16, sR_582_16, sR_583_16, sR_584_16, sR_641_47, sR_643_47, sR_645_47, sR_646_47, sR_647_47, sR_648_47, sR_649_47, sR_650_47, sR_651_47, sR_652_47, sR_653_47, sR_654_47, sR_655_47, sR_656_47, sR_657_47, sR_658_47, sR_659_47, sR_661_47, sR_662_47, sR_663_47, sR_664_47, sR_665_47, sR_669_47, sR_670_47, sR_671_47, sR_672_47, sR_673_47, sR_674_47, sR_676_47, sR_677_47, sR_679_47, sR_680_47, sR_681_47, SH_I, SH_A, SH_G, SH_C, hS, Option.getD_some, ne_eq, reduceCtorEq, not_false_eq_true, not_true_eq_false, Option.bind_some, Option.toList_none, Option.toList_some, List.nil_append, List.cons_append, List.append_nil, ↓reduceIte, and_self, true_and, and_true, false_and, and_false, or_true, true_or, or_false, false_or, Nat.reduceEqDiff, Nat.reduceAdd, Int32.reduceMul, Int32.reduceAdd, Int32.reduceSub, Int32.reduceToNatClampNeg, Int32.reduceOfNat, Int32.reduceLT, Int32.reduceLE, va_rf]
      · have t := (hC.ps p hp).1.1
        simp (decide := true) only [k103_0, k103_5R, k103_5N, k103_12RR, k103_12RN, k103_12NR, k103_12NN, k103_19R, k103_25, k103_28R, k103_28N, k103_33, k103_35R, k103_43RR, k103_43RN, k103_43NR, k103_43NN, k103_55, k103_58, k103_61RR, k103_61RN, k103_61NR, k103_61NN, k103_70R, a1, a2, a3, t, sT_1, sT_2, sT_3, sT_16, sT_17, sT_18, sT_19, sT_20, sT_21, sT_22, sT_23, sT_24, sT_25, sT_26, sT_27, sT_28, sT_29, sT_30, sT_31, sT_32, sT_33, sT_34, sT_35, sT_36, sT_37, sT_38, sT_39, sT_40, sT_41, sT_42, sT_43, sT_44, sT_45, sT_46, sT_47, sT_48, sT_49, sT_50, sT_51, sT_52, sT_53, sT_54, sT_55, sT_56, sT_57, sT_58, sT_59, sT_60, sT_61, sT_62, sT_63, sT_64, sT_65, sT_66, sT_67, sT_68, sT_69, sT_70, sT_71, sT_72, sT_73, sT_74, sT_75, sT_76, sT_77, sT_78, sT_79, sT_80, sN_1, sN_2, sN_19, sN_21, sN_23, sN_24, sN_26, sN_29, sN_31, sN_33, sN_35, sN_36, sN_37, sN_39, sN_40, sN_42, sN_44, sN_45, sN_46, sN_48, sN_49, sN_50, sN_51, sN_52, sN_53, sN_54, sN_55, sN_56, sN_57, sN_58, sN_59, sN_60, sN_61, sN_62, sN_63, sN_64, sN_65, sN_66, sN_67, sN_68, sN_69, sN_70, sN_71, sN_72, sN_73, sN_74, sN_75, sN_76, sN_77, sN_78, sN_79, sN_80, sR_0_34, sR_0_38, sR_1_34, sR_1_38, sR_64_20, sR_64_22, sR_128_25, sR_128_28, sR_194_17, sR_195_17, sR_196_17, sR_197_17, sR_258_30, sR_258_32, sR_258_41, sR_384_43, sR_448_18, sR_512_27, sR_513_27, sR_514_27, sR_515_27, sR_516_27, sR_576_16, sR_577_16, sR_578_16, sR_579_16, sR_580_16, sR_581_16, sR_582_16, sR_583_16, sR_584_16, sR_641_47, sR_643_47, sR_645_47, sR_646_47, sR_647_47, sR_648_47, sR_649_47, sR_650_47, sR_651_47, sR_652_47, sR_653_47, sR_654_47, sR_655_47, sR_656_47, sR_657_47, sR_658_47, sR_659_47, sR_661_47, sR_662_47, sR_663_47, sR_664_47, sR_665_47, sR_669_47, sR_670_47, sR_671_47, sR_672_47, sR_673_47, sR_674_47, sR_676_47, sR_677_47, sR_679_47, sR_680_47, sR_681_47, SH_I, SH_A, SH_G, SH_C, hS, Option.getD_some, ne_eq, reduceCtorEq, not_false_eq_true, not_true_eq_false, Option.bind_some, Option.toList_none, Option.toList_some, List.nil_append, List.cons_append, List.append_nil, ↓reduceIte, and_self, true_and, and_true, false_and, and_false, or_true, true_or, or_false, false_or, Nat.reduceEqDiff, Nat.reduceAdd, Int32.reduceMul, Int32.reduceAdd, Int32.reduceSub, Int32.reduceToNatClampNeg, Int32.reduceOfNat, Int32.reduceLT, Int32.reduceLE, va_rf]
      · have t := (hC.ps p hp).1.1
        simp (decide := true) only [k103_0, k103_5R, k103_5N, k103_12RR, k103_12RN, k103_12NR, k103_12NN, k103_19R, k103_25, k103_28R, k103_28N, k103_33, k103_35R, k103_43RR, k103_43RN, k103_43NR, k103_43NN, k103_55, k103_58, k103_61RR, k103_61RN, k103_61NR, k103_61NN, k103_70R, a1, a2, a3, t, sT_1, sT_2, sT_3, sT_16, sT_17, sT_18, sT_19, sT_20, sT_21, sT_22, sT_23, sT_24, sT_25, sT_26, sT_27, sT_28, sT_29, sT_30, sT_31, sT_32, sT_33, sT_34, sT_35, sT_36, sT_37, sT_38, sT_39, sT_40, sT_41, sT_42, sT_43, sT_44, sT_45, sT_46, sT_47, sT_48, sT_49, sT_50, sT_51, sT_52, sT_53, sT_54, sT_55, sT_56, sT_57, sT_58, sT_59, sT_60, sT_61, sT_62, sT_63, sT_64, sT_65, sT_66, sT_67, sT_68, sT_69, sT_70, sT_71, sT_72, sT_73, sT_74, sT_75, sT_76, sT_77, sT_78, sT_79, sT_80, sN_1, sN_2, sN_19, sN_21, sN_23, sN_24, sN_26, sN_29, sN_31, sN_33, sN_35, sN_36, sN_37, sN_39, sN_40, sN_42, sN_44, sN_45, sN_46, sN_48, sN_49, sN_50, sN_51, sN_52, sN_53, sN_54, sN_55, sN_56, sN_57, sN_58, sN_59, sN_60, sN_61, sN_62, sN_63, sN_64, sN_65, sN_66, sN_67, sN_68, sN_69, sN_70, sN_71, sN_72, sN_73, sN_74, sN_75, sN_76, sN_77, sN_78, sN_79, sN_80, sR_0_34, sR_0_38, sR_1_34, sR_1_38, sR_64_20, sR_64_22, sR_128_25, sR_128_28, sR_194_17, sR_195_17, sR_196_17, sR_197_17, sR_258_30, sR_258_32, sR_258_41, sR_384_43, sR_448_18, sR_512_27, sR_513_27, sR_514_27, sR_515_27, sR_516_27, sR_576_16, sR_577_16, sR_578_16, sR_579_16, sR_580_16, sR_581_16, sR_582_16, sR_583_16, sR_584_16, sR_641_47, sR_643_47, sR_645_47, sR_646_47, sR_647_47, sR_648_47, sR_649_47, sR_650_47, sR_651_47, sR_652_47, sR_653_47, sR_654_47, sR_655_47, sR_656_47, sR_657_47, sR_658_47, sR_659_47, sR_661_47, sR_662_47, sR_663_47, sR_664_47, sR_665_47, sR_669_47, sR_670_47, sR_671_47, sR_672_47, sR_673_47, sR_674_47, sR_676_47, sR_677_47, sR_679_47, sR_680_47, sR_681_47, SH_I, SH_A, SH_G, SH_C, hS, Option.getD_some, ne_eq, reduceCtorEq, not_false_eq_true, not_true_eq_false, Option.bind_some, Option.toList_none, Option.toList_some, List.nil_append, List.cons_append, List.append_nil, ↓reduceIte, and_self, true_and, and_true, false_and, and_false, or_true, true_or, or_false, false_or, Nat.reduceEqDiff, Nat.reduceAdd, Int32.reduceMul, Int32.reduceAdd, Int32.reduceSub, Int32.reduceToNatClampNeg, Int32.reduceOfNat, Int32.reduceLT, Int32.reduceLE, va_rf]
      · have t := (hC.ps p hp).1.1
        simp (decide := true) only [k103_0, k103_5R, k103_5N, k103_12RR, k103_12RN, k103_12NR, k103_12NN, k103_19R, k103_25, k103_28R, k103_28N, k103_33, k103_35R, k103_43RR, k103_43RN, k103_43NR, k103_43NN, k103_55, k103_58, k103_61RR, k103_61RN, k103_61NR, k103_61NN, k103_70R, a1, a2, a3, t, sT_1, sT_2, sT_3, sT_16, sT_17, sT_18, sT_19, sT_20, sT_21, sT_22, sT_23, sT_24, sT_25, sT_26, sT_27, sT_28, sT_29, sT_30, sT_31, sT_32, sT_33, sT_34, sT_35, sT_36, sT_37, sT_38, sT_39, sT_40, sT_41, sT_42, sT_43, sT_44, sT_45, sT_46, sT_47, sT_48, sT_49, sT_50, sT_51, sT_52, sT_53, sT_54, sT_55, sT_56, sT_57, sT_58, sT_59, sT_60, sT_61, sT_62, sT_63, sT_64, sT_65, sT_66, sT_67, sT_68, sT_69, sT_70, sT_71, sT_72, sT_73, sT_74, sT_75, sT_76, sT_77, sT_78, sT_79, sT_80, sN_1, sN_2, sN_19, sN_21, sN_23, sN_24, sN_26, sN_29, sN_31, sN_33, sN_35, sN_36, sN_37, sN_39, sN_40, sN_42, sN_44, sN_45, sN_46, sN_48, sN_49, sN_50, sN_51, sN_52, sN_53, sN_54, sN_55, sN_56, sN_57, sN_58, sN_59, sN_60, sN_61, sN_62, sN_63, sN_64, sN_65, sN_66, sN_67, sN_68, sN_69, sN_70, sN_71, sN_72, sN_73, sN_74, sN_75, sN_76, sN_77, sN_78, sN_79, sN_80, sR_0_34, sR_0_38, sR_1_34, sR_1_38, sR_64_20, sR_64_22, sR_128_25, sR_128_28, sR_194_17, sR_195_17, sR_196_17, sR_197_17, sR_258_30, sR_258_32, sR_258_41, sR_384_43, sR_448_18, sR_512_27, sR_513_27, sR_514_27, sR_515_27, sR_516_27, sR_576_16, sR_577_16, sR_578_16, sR_579_16, sR_580_16, sR_581_16, sR_582_16, sR_583_16, sR_584_16, sR_641_47, sR_643_47, sR_645_47, sR_646_47, sR_647_47, sR_648_47, sR_649_47, sR_650_47, sR_651_47, sR_652_47, sR_653_47, sR_654_47, sR_655_47, sR_656_47, sR_657_47, sR_658_47, sR_659_47, sR_661_47, sR_662_47, sR_663_47, sR_664_47, sR_665_47, sR_669_47, sR_670_47, sR_671_47, sR_672_47, sR_673_47, sR_674_47, sR_676_47, sR_677_47, sR_679_47, sR_680_47, sR_681_47, SH_I, SH_A, SH_G, SH_C, hS, Option.getD_some, ne_eq, reduceCtorEq, not_false_eq_true, not_true_eq_false, Option.bind_some, Option.toList_none, Option.toList_some, List.nil_append, List.cons_append, List.append_nil, ↓reduceIte, and_self, true_and, and_true, false_and, and_false, or_true, true_or, or_false, false_or, Nat.reduceEqDiff, Nat.reduceAdd, Int32.reduceMul, Int32.reduceAdd, Int32.reduceSub, Int32.reduceToNatClampNeg, Int32.reduceOfNat, Int32.reduceLT, Int32.reduceLE, va_rf]
    · show jx (d + 5) 185 0 [some (.ref 47), some (.int x), some (.int y), some (.int z)] [] σ = _
      rw [k185_0 (sT_47 hS), b1]
      simp only [Option.bind_some, Option.toList_some, List.cons_append, List.nil_append]
      rw [k185_7, if_neg (fun q => q rfl), k185_10]
end CH5
end S_9f
section S_9g
/-! mill: which window comes next, and that the price falls -/
def hitB (s : AS) (p i r : Nat) : Bool := (s.rs.getD r ar0).on && (decide (sndA (s.rs.getD r ar0)) && (winF s.W (s.rs.getD r ar0).o1 (s.rs.getD r ar0).o2.length (s.ps.getD p []) i).isSome)
def fR (s : AS) (p i : Nat) : Nat → Nat → Option Nat
  | 0, _ => none
  | f + 1, r => if hitB s p i r = true then some r else fR s p i f (r + 1)
def fP (s : AS) (p : Nat) : Nat → Nat → Option (Nat × Nat)
  | 0, _ => none
  | f + 1, i => match fR s p i s.rs.length 0 with | some r => some (i, r) | none => fP s p f (i + 1)
def fW (s : AS) (p : Nat) : Option (Nat × Nat) := fP s p (s.ps.getD p []).length 0
theorem fR_ok {s : AS} {p i : Nat} : ∀ f r r', fR s p i f r = some r' → r ≤ r' ∧ r' < r + f ∧ hitB s p i r' = true := by
  intro f
  induction f with
  | zero => intro r r' h; cases h
  | succ f ih =>
    intro r r' h
    unfold fR at h
    split at h
    · rename_i q
      cases h; exact ⟨Nat.le_refl _, by omega, q⟩
    · obtain ⟨h1, h2, h3⟩ := ih _ _ h
      exact ⟨by omega, by omega, h3⟩
theorem fP_ok {s : AS} {p : Nat} : ∀ f i z, fP s p f i = some z → i ≤ z.1 ∧ z.1 < i + f ∧ z.2 < s.rs.length ∧ hitB s p z.1 z.2 = true ∧ fR s p z.1 s.rs.length 0 = some z.2 := by
  intro f
  induction f with
  | zero => intro i z h; cases h
  | succ f ih =>
    intro i z h
    unfold fP at h
    cases hr : fR s p i s.rs.length 0 with
    | some r =>
      rw [hr] at h
      cases h
      obtain ⟨_, h2, h3⟩ := fR_ok _ _ _ hr
      exact ⟨Nat.le_refl _, by omega, by omega, h3, hr⟩
    | none =>
      rw [hr] at h
      obtain ⟨h1, h2, h3⟩ := ih _ _ h
      exact ⟨by omega, by omega, h3⟩
theorem hit_win {s : AS} {p i r : Nat} (h : hitB s p i r = true) : (s.rs.getD r ar0).on = true ∧ sndA (s.rs.getD r ar0) ∧ ∃ x, winF s.W (s.rs.getD r ar0).o1 (s.rs.getD r ar0).o2.length (s.ps.getD p []) i = some x := by
  unfold hitB at h
  rw [Bool.and_eq_true, Bool.and_eq_true, decide_eq_true_eq] at h
  exact ⟨h.1, h.2.1, Option.isSome_iff_exists.mp h.2.2⟩
/-- the price, as a number -/
def priS : List (Nat → Int32) → Nat
  | [] => 0
  | o :: os => priN (opO o) + priS os
theorem prcL_n : ∀ (os : List (Nat → Int32)) (a : Nat), prcL os (nI a) = nI (a + priS os) := by
  intro os
  induction os with
  | nil => intro a; rfl
  | cons o os ih =>
    intro a
    show prcL os (nI a + nI (priN (opO o))) = _
    rw [nadd, ih]
    show _ = nI (a + (priN (opO o) + priS os))
    rw [Nat.add_assoc]
theorem priS_app (a b : List (Nat → Int32)) : priS (a ++ b) = priS a + priS b := by
  induction a with
  | nil => show priS b = 0 + priS b; omega
  | cons o os ih =>
    show priN (opO o) + priS (os ++ b) = priN (opO o) + priS os + priS b
    rw [ih]; omega
theorem priS_map : ∀ (a b : List (Nat → Int32)), a.map opO = b.map opO → priS a = priS b := by
  intro a
  induction a with
  | nil =>
    intro b h
    cases b with
    | nil => rfl
    | cons o os => cases h
  | cons o os ih =>
    intro b h
    cases b with
    | nil => cases h
    | cons o' os' =>
      rw [List.map_cons, List.map_cons, List.cons.injEq] at h
      show priN (opO o) + priS os = priN (opO o') + priS os'
      rw [h.1, ih os' h.2]
theorem pri16 : ∀ k, k < 19 → 1 ≤ priN k ∧ priN k ≤ 6 := by decide
theorem priS_bd : ∀ (os : List (Nat → Int32)), (∀ o, o ∈ os → OPk o) → os.length ≤ priS os ∧ priS os ≤ 6 * os.length := by
  intro os
  induction os with
  | nil => intro _; exact ⟨Nat.le_refl _, Nat.le_refl _⟩
  | cons o os ih =>
    intro h
    have i := ih (fun p hp => h p (List.mem_cons_of_mem _ hp))
    have j := pri16 _ (h o List.mem_cons_self).1
    show os.length + 1 ≤ priN (opO o) + priS os ∧ priN (opO o) + priS os ≤ 6 * (os.length + 1)
    omega
theorem tkW_op {W pl : Nat} {os ps : List (Nat → Int32)} : ∀ n x, tkW W os ps pl n = some x → ∀ i, i < n → (ps.getD (pl + i) (fun _ => 0)) 0 = (os.getD i (fun _ => 0)) 0 := by
  intro n
  induction n with
  | zero => intro x h i hi; exact absurd hi (Nat.not_lt_zero i)
  | succ n ih =>
    intro x h i hi
    obtain ⟨c, h1, h2⟩ := Option.bind_eq_some_iff.mp h
    by_cases e : i = n
    · subst e
      unfold tkO at h2
      split at h2
      · assumption
      · cases h2
    · exact ih c h1 i (by omega)
theorem gap_lt : ∀ a, a < 25 → ∀ b, b < 25 → 0 < nI a - nI b → b < a := by decide
theorem win_cond {W m pl : Nat} {os ps : List (Nat → Int32)} {x : BN × BN} (h : winF W os m ps pl = some x) : pl + os.length ≤ ps.length ∧ ps.length - os.length + m ≤ 24 ∧ tkW W os ps pl os.length = some x := by
  unfold winF at h
  split at h
  · rename_i q; exact ⟨q.1, q.2, h⟩
  · cases h
/-- the price falls -/
theorem pri_fall {W pl : Nat} {a : AR} (hf : WFr a) (hs : sndA a) {x : BN × BN} {A : List (Nat → Int32)} (h : winF W a.o1 a.o2.length A pl = some x) : priS (newP W a x A pl) + 1 ≤ priS A := by
  obtain ⟨c1, c2, c3⟩ := win_cond h
  have s1 : priS a.o2 < priS a.o1 := by
    have b1 := priS_bd a.o1 (fun o ho => (hf.f1 o ho).op)
    have b2 := priS_bd a.o2 (fun o ho => (hf.f2 o ho).op)
    have := hf.l4
    have := hf.m4
    have g := hs.2
    unfold gnA at g
    rw [show (0 : Int32) = nI 0 from rfl, prcL_n, prcL_n, Nat.zero_add, Nat.zero_add] at g
    exact gap_lt _ (by omega) _ (by omega) g
  have s2 : priS (a.o2.map (newO W x)) = priS a.o2 := by
    apply priS_map
    rw [List.map_map]
    apply List.map_congr_left
    intro o _
    show opO (newO W x o) = opO o
    unfold opO
    exact congrArg _ (keep_op W o).1
  have s3 : priS ((A.drop pl).take a.o1.length) = priS a.o1 := by
    apply priS_map
    apply List.ext_getElem
    · rw [List.length_map, List.length_map, List.length_take, List.length_drop]
      omega
    · intro i h1 h2
      rw [List.length_map] at h2
      rw [List.getElem_map, List.getElem_map, List.getElem_take, List.getElem_drop]
      have q := tkW_op _ _ c3 i h2
      rw [List.getD_eq_getElem?_getD, List.getElem?_eq_getElem (by omega), List.getD_eq_getElem?_getD, List.getElem?_eq_getElem h2] at q
      unfold opO
      exact congrArg _ q
  have s4 : A = A.take pl ++ ((A.drop pl).take a.o1.length ++ A.drop (pl + a.o1.length)) := by
    rw [← List.drop_drop, List.take_append_drop, List.take_append_drop]
  have s5 : priS A = priS (A.take pl) + (priS ((A.drop pl).take a.o1.length) + priS (A.drop (pl + a.o1.length))) := by
    rw [← priS_app, ← priS_app, ← s4]
  unfold newP
  rw [priS_app, priS_app, s2, s5, s3]
  omega
/-- one step of a milling -/
def adS (s : AS) (i r : Nat) (v : Int32) : AS := (s.W, s.len, s.b, s.rs, s.ps, s.ns + 1, fun k w => if k = s.ns then (if w = 0 then nI i else if w = 1 then nI r else v) else s.tl k w, s.ap)
def stS (s : AS) (p i r : Nat) (x : BN × BN) : AS := adS (chS s p r (newP s.W (s.rs.getD r ar0) x (s.ps.getD p []) i)) i r (prcL (newP s.W (s.rs.getD r ar0) x (s.ps.getD p []) i) 0)
def milF (p : Nat) : Nat → AS → AS
  | 0, s => s
  | f + 1, s => match fW s p with | none => s | some (i, r) => (match winF s.W (s.rs.getD r ar0).o1 (s.rs.getD r ar0).o2.length (s.ps.getD p []) i with | none => s | some x => milF p f (stS s p i r x))
theorem milF_none {p f : Nat} {s : AS} (h : fW s p = none) : milF p f s = s := by
  cases f with
  | zero => rfl
  | succ f => unfold milF; rw [h]
theorem milF_some {p f i r : Nat} {s : AS} {x : BN × BN} (h : fW s p = some (i, r)) (hw : winF s.W (s.rs.getD r ar0).o1 (s.rs.getD r ar0).o2.length (s.ps.getD p []) i = some x) : milF p (f + 1) s = milF p f (stS s p i r x) := by
  rw [milF, h]
  show (match winF s.W (s.rs.getD r ar0).o1 (s.rs.getD r ar0).o2.length (s.ps.getD p []) i with | none => s | some x => milF p f (stS s p i r x)) = _
  rw [hw]
theorem stS_ps {s : AS} {p i r : Nat} {x : BN × BN} (hp : p < s.ps.length) : (stS s p i r x).ps.length = s.ps.length ∧ (stS s p i r x).ps.getD p [] = newP s.W (s.rs.getD r ar0) x (s.ps.getD p []) i ∧ (stS s p i r x).ns = s.ns + 1 := by
  refine ⟨List.length_set, ?_, rfl⟩
  show (s.ps.set p _).getD p [] = _
  rw [set_ps hp, if_pos rfl]
theorem stS_wf {s : AS} {p i r : Nat} {x : BN × BN} (hs : WFs s) (hp : p < s.ps.length) (hr : r < s.rs.length) (hw : winF s.W (s.rs.getD r ar0).o1 (s.rs.getD r ar0).o2.length (s.ps.getD p []) i = some x) (ib : IB x.1) (ic : IC x.2) (hn : s.ns < 144) : WFs (stS s p i r x) := by
  have fr := hs.fr _ (mem_rs hr)
  obtain ⟨c1, c2, _⟩ := win_cond hw
  have h := chS_wf (p := p) (r := r) (B := newP s.W (s.rs.getD r ar0) x (s.ps.getD p []) i) hs hr ⟨by rw [newP_len c1]; exact c2, newP_pwf hs.w fr (win_ful fr hw ib ic) (hs.fp _ (mem_ps hp)).2⟩
  exact ⟨h.w, h.l, h.byy, h.r24, h.p16, h.fr, h.fp, hn⟩
end S_9g
section S_9h
/-! mill: the next window, class and reference; done -/
section MI2
variable {d : Nat} {σ : jS} {s : AS} {cr cp : Nat} {qr qp : Nat → Nat}
/-- the bindings of the window that was found last -/
def lastB (e : Int32) (σ : jS) (R M : Nat) (s : AS) (p i r : Nat) : Prop := ∀ x, winF s.W (s.rs.getD r ar0).o1 (s.rs.getD r ar0).o2.length (s.ps.getD p []) i = some x → RB e σ R M x ∧ IB x.1 ∧ IC x.2
theorem c107 (hS : SH σ) (hs : WFs s) (hC : CX s cr cp qr qp σ) {p : Nat} (hp : p < s.ps.length) : ∃ σ', FR [39, 40] σ σ' ∧ jx (d + 5) 107 0 [some (.ref 16), some (.ref (qp p)), none, none, none] [] σ = some (some (.int (match fW s p with | some z => nI (z.1 * 24 + z.2) | none => -4)), σ') ∧ (∀ z, fW s p = some z → lastB (-1) σ' 39 40 s p z.1 z.2) := by
  have l24 := (hs.fp _ (mem_ps hp)).1
  have hr24 := hs.r24
  have C : ∀ {υ : jS}, FR [39, 40] σ υ → CX s cr cp qr qp υ := fun F => hC.scr F (by decide)
  have lA : ∀ {υ : jS}, FR [39, 40] σ υ → jI υ 257 (qp p) = nI (s.ps.getD p []).length := fun F => ((C F).ps p hp).1.2.2.2.2.2.1
  have r8 : ∀ {υ : jS}, SH υ → (jR υ 580 16).getD 0 = 38 := fun h => by rw [sR_580_16 h]; rfl
  have n8 : ∀ {υ : jS}, SH υ → jR υ 580 16 ≠ none := fun h => by rw [sR_580_16 h]; exact fun z => nomatch z
  have LR : ∀ i, i < (s.ps.getD p []).length → ∀ f r υ l4, r + f = s.rs.length → FR [39, 40] σ υ → ∃ υ', FR [39, 40] σ υ' ∧ (match fR s p i f r with | some r' => jx (d + 5) 107 12 [some (.ref 16), some (.ref (qp p)), some (.int (nI i)), some (.int (nI r)), l4] [] υ = some (some (.int (nI (i * 24 + r'))), υ') ∧ lastB (-1) υ' 39 40 s p i r' | none => ∃ l3' l4', jx (d + 5) 107 12 [some (.ref 16), some (.ref (qp p)), some (.int (nI i)), some (.int (nI r)), l4] [] υ = jx (d + 5) 107 2 [some (.ref 16), some (.ref (qp p)), some (.int (nI (i + 1))), l3', l4'] [] υ') := by
    intro i hi f
    induction f with
    | zero =>
      intro r υ l4 hr F
      have e : r = s.rs.length := by omega
      subst e
      refine ⟨υ, F, some (.int (nI s.rs.length)), l4, ?_⟩
      rw [k107_12 (sT_16 (F.sh hS)), (C F).nr, if_pos (nI_le (Nat.le_refl _) (by omega)), k107_75, ← nI_succ]
    | succ f ih =>
      intro r υ l4 hr F
      have hlt : r < s.rs.length := by omega
      have hSu := F.sh hS
      have hCu := C F
      have c1 := c81y (d := d + 4) hSu hCu hs hlt
      have crr := hCu.rs r hlt
      have u1 : jT υ (qr r) = 6 := by obtain ⟨⟨tp, hU, -⟩, -⟩ := crr; exact hU.1
      have f11 := crr.2.2.2.2.1
      have f12 := crr.2.2.2.2.2
      have to25 : jx (d + 5) 107 12 [some (.ref 16), some (.ref (qp p)), some (.int (nI i)), some (.int (nI r)), l4] [] υ = if (if (s.rs.getD r ar0).on = true then (1 : Int32) else 0) = 0 then jx (d + 5) 107 69 [some (.ref 16), some (.ref (qp p)), some (.int (nI i)), some (.int (nI r)), some (.ref (qr r))] [] υ else jx (d + 5) 107 40 [some (.ref 16), some (.ref (qp p)), some (.int (nI i)), some (.int (nI r)), some (.ref (qr r))] [] υ := by
        rw [k107_12 (sT_16 hSu), hCu.nr, if_neg (nI_ge (by omega) (by omega)), k107_20 (sT_16 hSu), c1]
        simp only [Option.bind_some, Option.toList_some, List.cons_append, List.nil_append]
        rw [k107_25R u1, f12]
      have nxt : ∀ {υ' : jS} {v : Option Value}, hitB s p i r = false → FR [39, 40] σ υ' → jx (d + 5) 107 12 [some (.ref 16), some (.ref (qp p)), some (.int (nI i)), some (.int (nI r)), l4] [] υ = jx (d + 5) 107 69 [some (.ref 16), some (.ref (qp p)), some (.int (nI i)), some (.int (nI r)), v] [] υ' → ∃ υ'', FR [39, 40] σ υ'' ∧ (match fR s p i (f + 1) r with | some r' => jx (d + 5) 107 12 [some (.ref 16), some (.ref (qp p)), some (.int (nI i)), some (.int (nI r)), l4] [] υ = some (some (.int (nI (i * 24 + r'))), υ'') ∧ lastB (-1) υ'' 39 40 s p i r' | none => ∃ l3' l4', jx (d + 5) 107 12 [some (.ref 16), some (.ref (qp p)), some (.int (nI i)), some (.int (nI r)), l4] [] υ = jx (d + 5) 107 2 [some (.ref 16), some (.ref (qp p)), some (.int (nI (i + 1))), l3', l4'] [] υ'') := fun {υ' v} hh F' he => by
        obtain ⟨υ'', F2, r2⟩ := ih (r + 1) υ' v (by omega) F'
        refine ⟨υ'', F2, ?_⟩
        have e1 : fR s p i (f + 1) r = fR s p i f (r + 1) := by
          rw [fR, if_neg (by rw [hh]; decide)]
        rw [e1, he, k107_69, ← nI_succ]
        exact r2
      by_cases hon : (s.rs.getD r ar0).on = true
      · by_cases hsn : sndA (s.rs.getD r ar0)
        · obtain ⟨υ1, e1, F1, w1⟩ := c97 (d := d) hSu hs hCu hp hlt (pl := i) (by omega)
          have F1' := F.trans F1
          have to59 : ∀ v : Int32, (if (winF s.W (s.rs.getD r ar0).o1 (s.rs.getD r ar0).o2.length (s.ps.getD p []) i).isSome = true then (1 : Int32) else 0) = v → jx (d + 5) 107 12 [some (.ref 16), some (.ref (qp p)), some (.int (nI i)), some (.int (nI r)), l4] [] υ = if v = 0 then jx (d + 5) 107 69 [some (.ref 16), some (.ref (qp p)), some (.int (nI i)), some (.int (nI r)), some (.ref (qr r))] [] υ1 else jx (d + 5) 107 62 [some (.ref 16), some (.ref (qp p)), some (.int (nI i)), some (.int (nI r)), some (.ref (qr r))] [] υ1 := fun v ev => by
            rw [to25, if_pos hon, if_neg (by decide), k107_40R u1, f11, if_pos hsn, if_neg (by decide), k107_48R (sT_16 hSu) (n8 hSu) (by rw [r8 hSu]; exact sT_38 hSu), r8 hSu, e1, ev]
            simp only [Option.bind_some, Option.toList_some, List.cons_append, List.nil_append]
            rw [k107_59]
          cases hw : winF s.W (s.rs.getD r ar0).o1 (s.rs.getD r ar0).o2.length (s.ps.getD p []) i with
          | none =>
            rw [hw] at to59
            refine nxt ?_ F1' ((to59 0 rfl).trans (if_pos rfl))
            unfold hitB
            rw [hw]
            simp
          | some x =>
            rw [hw] at to59
            have hh : hitB s p i r = true := by
              unfold hitB
              rw [hw, hon, decide_eq_true hsn]
              rfl
            have e2 : fR s p i (f + 1) r = some r := by rw [fR, if_pos hh]
            refine ⟨υ1, F1', ?_⟩
            rw [e2]
            refine ⟨?_, w1⟩
            rw [to59 1 rfl, if_neg (by decide), k107_62, show (24 : Int32) = nI 24 from rfl, nmul, nadd]
        · refine nxt (v := some (.ref (qr r))) ?_ F ?_
          · unfold hitB
            rw [decide_eq_false hsn]
            simp
          · rw [to25, if_pos hon, if_neg (by decide), k107_40R u1, f11, if_neg hsn, if_pos rfl]
      · refine nxt (v := some (.ref (qr r))) ?_ F ?_
        · unfold hitB
          rw [Bool.eq_false_iff.mpr hon]
          rfl
        · rw [to25, if_neg hon, if_pos rfl]
  have L : ∀ f i υ l3 l4, i + f = (s.ps.getD p []).length → FR [39, 40] σ υ → ∃ υ', FR [39, 40] σ υ' ∧ jx (d + 5) 107 2 [some (.ref 16), some (.ref (qp p)), some (.int (nI i)), l3, l4] [] υ = some (some (.int (match fP s p f i with | some z => nI (z.1 * 24 + z.2) | none => -4)), υ') ∧ (∀ z, fP s p f i = some z → lastB (-1) υ' 39 40 s p z.1 z.2) := by
    intro f
    induction f with
    | zero =>
      intro i υ l3 l4 hi F
      refine ⟨υ, F, ?_, fun z hz => by cases hz⟩
      have e : i = (s.ps.getD p []).length := by omega
      rw [k107_2 ((C F).ps p hp).1.1, lA F, if_pos (nI_le (by omega) (by omega)), k107_81]
      rfl
    | succ f ih =>
      intro i υ l3 l4 hi F
      obtain ⟨υ1, F1, r1⟩ := LR i (by omega) s.rs.length 0 υ l4 (by omega) F
      have st : jx (d + 5) 107 2 [some (.ref 16), some (.ref (qp p)), some (.int (nI i)), l3, l4] [] υ = jx (d + 5) 107 12 [some (.ref 16), some (.ref (qp p)), some (.int (nI i)), some (.int (nI 0)), l4] [] υ := by
        rw [k107_2 ((C F).ps p hp).1.1, lA F, if_neg (nI_ge (by omega) (by omega)), k107_10]
        rfl
      rw [st]
      cases hr : fR s p i s.rs.length 0 with
      | some r =>
        rw [hr] at r1
        have e : fP s p (f + 1) i = some (i, r) := by rw [fP, hr]
        refine ⟨υ1, F1, ?_, fun z hz => ?_⟩
        · rw [e]; exact r1.1
        · rw [e, Option.some_inj] at hz
          subst hz
          exact r1.2
      | none =>
        rw [hr] at r1
        obtain ⟨l3', l4', r1⟩ := r1
        have e : fP s p (f + 1) i = fP s p f (i + 1) := by rw [fP, hr]
        obtain ⟨υ2, F2, e2, q2⟩ := ih (i + 1) υ1 l3' l4' (by omega) F1
        exact ⟨υ2, F2, by rw [e, r1]; exact e2, by rw [e]; exact q2⟩
  rw [k107_0]
  exact L (s.ps.getD p []).length 0 σ none none (by omega) (FR.refl _ σ)
theorem c189 (hS : SH σ) (hs : WFs s) (hM : CM s σ) {p i : Nat} (hp : p < s.ps.length) (hi : i < (s.ps.getD p []).length) : ∃ σ', FR [76, 77] σ σ' ∧ jx (d + 4) 189 0 [some (.ref 47), some (.int (nI p)), some (.int (nI i)), none] [] σ = some (some (.int (match fR s p i s.rs.length 0 with | some r => nI r | none => -4)), σ') ∧ (∀ r, fR s p i s.rs.length 0 = some r → lastB (-4) σ' 76 77 s p i r) := by
  have l24 := (hs.fp _ (mem_ps hp)).1
  have hr24 := hs.r24
  have C : ∀ {υ : jS}, FR [76, 77] σ υ → CM s υ := fun F => hM.w7 hs F
  have L : ∀ f r υ, r + f = s.rs.length → FR [76, 77] σ υ → ∃ υ', FR [76, 77] σ υ' ∧ jx (d + 4) 189 2 [some (.ref 47), some (.int (nI p)), some (.int (nI i)), some (.int (nI r))] [] υ = some (some (.int (match fR s p i f r with | some r => nI r | none => -4)), υ') ∧ (∀ r', fR s p i f r = some r' → lastB (-4) υ' 76 77 s p i r') := by
    intro f
    induction f with
    | zero =>
      intro r υ hr F
      have e : r = s.rs.length := by omega
      subst e
      refine ⟨υ, F, ?_, fun z hz => by cases hz⟩
      rw [k189_2 (sT_47 (F.sh hS)), (C F).nr, if_pos (nI_le (Nat.le_refl _) (by omega)), k189_45]
      rfl
    | succ f ih =>
      intro r υ hr F
      have hlt : r < s.rs.length := by omega
      have hSu := F.sh hS
      have hMu := C F
      have mr := hMu.rs r hlt
      have m63 := mr.2.2.2.1
      have q8 : (jR υ 658 47).getD 0 = 63 := by rw [sR_658_47 hSu]; rfl
      have q9 : jR υ 658 47 ≠ none := by rw [sR_658_47 hSu]; exact fun z => nomatch z
      have c4 := c164 (d := d) hSu (r := r) (by omega) (hs.fr _ (mem_rs hlt)) mr
      have to10 : jx (d + 4) 189 2 [some (.ref 47), some (.int (nI p)), some (.int (nI i)), some (.int (nI r))] [] υ = if (if (s.rs.getD r ar0).on = true then (1 : Int32) else 0) = 0 then jx (d + 4) 189 39 [some (.ref 47), some (.int (nI p)), some (.int (nI i)), some (.int (nI r))] [] υ else jx (d + 4) 189 19 [some (.ref 47), some (.int (nI p)), some (.int (nI i)), some (.int (nI r))] [] υ := by
        rw [k189_2 (sT_47 hSu), hMu.nr, if_neg (nI_ge (by omega) (by omega)), k189_10 (sT_47 hSu) q9 (by rw [q8]; exact Or.inr (sT_63 hSu)) (by rw [q8, sN_63 hSu]; exact jin_n (by omega) (by decide)), q8, nI_clamp (by omega), m63]
      have nxt : ∀ {υ' : jS}, hitB s p i r = false → FR [76, 77] σ υ' → jx (d + 4) 189 2 [some (.ref 47), some (.int (nI p)), some (.int (nI i)), some (.int (nI r))] [] υ = jx (d + 4) 189 39 [some (.ref 47), some (.int (nI p)), some (.int (nI i)), some (.int (nI r))] [] υ' → ∃ υ'', FR [76, 77] σ υ'' ∧ jx (d + 4) 189 2 [some (.ref 47), some (.int (nI p)), some (.int (nI i)), some (.int (nI r))] [] υ = some (some (.int (match fR s p i (f + 1) r with | some r => nI r | none => -4)), υ'') ∧ (∀ r', fR s p i (f + 1) r = some r' → lastB (-4) υ'' 76 77 s p i r') := fun {υ'} hh F' he => by
        obtain ⟨υ'', F2, r2, q2⟩ := ih (r + 1) υ' (by omega) F'
        have e1 : fR s p i (f + 1) r = fR s p i f (r + 1) := by
          rw [fR, if_neg (by rw [hh]; decide)]
        refine ⟨υ'', F2, ?_, by rw [e1]; exact q2⟩
        rw [e1, he, k189_39, ← nI_succ]
        exact r2
      by_cases hon : (s.rs.getD r ar0).on = true
      · have to24 : jx (d + 4) 189 2 [some (.ref 47), some (.int (nI p)), some (.int (nI i)), some (.int (nI r))] [] υ = if (if sndA (s.rs.getD r ar0) then (1 : Int32) else 0) = 0 then jx (d + 4) 189 39 [some (.ref 47), some (.int (nI p)), some (.int (nI i)), some (.int (nI r))] [] υ else jx (d + 4) 189 27 [some (.ref 47), some (.int (nI p)), some (.int (nI i)), some (.int (nI r))] [] υ := by
          rw [to10, if_pos hon, if_neg (by decide), k189_19 (sT_47 hSu), c4]
          simp only [Option.bind_some, Option.toList_some, List.cons_append, List.nil_append]
          rw [k189_24]
        by_cases hsn : sndA (s.rs.getD r ar0)
        · obtain ⟨υ1, e1, F1, w1⟩ := c182 (d := d + 1) hSu hs hMu hp hlt (pl := i) (by omega)
          have F1' := F.trans F1
          have to59 : ∀ v : Int32, (if (winF s.W (s.rs.getD r ar0).o1 (s.rs.getD r ar0).o2.length (s.ps.getD p []) i).isSome = true then (1 : Int32) else 0) = v → jx (d + 4) 189 2 [some (.ref 47), some (.int (nI p)), some (.int (nI i)), some (.int (nI r))] [] υ = if v = 0 then jx (d + 4) 189 39 [some (.ref 47), some (.int (nI p)), some (.int (nI i)), some (.int (nI r))] [] υ1 else jx (d + 4) 189 37 [some (.ref 47), some (.int (nI p)), some (.int (nI i)), some (.int (nI r))] [] υ1 := fun v ev => by
            rw [to24, if_pos hsn, if_neg (by decide), k189_27 (sT_47 hSu), e1, ev]
            simp only [Option.bind_some, Option.toList_some, List.cons_append, List.nil_append]
            rw [k189_34]
          cases hw : winF s.W (s.rs.getD r ar0).o1 (s.rs.getD r ar0).o2.length (s.ps.getD p []) i with
          | none =>
            rw [hw] at to59
            refine nxt ?_ F1' ((to59 0 rfl).trans (if_pos rfl))
            unfold hitB
            rw [hw]
            simp
          | some x =>
            rw [hw] at to59
            have hh : hitB s p i r = true := by
              unfold hitB
              rw [hw, hon, decide_eq_true hsn]
              rfl
            have e2 : fR s p i (f + 1) r = some r := by rw [fR, if_pos hh]
            refine ⟨υ1, F1', ?_, fun r' hr' => ?_⟩
            · rw [e2, to59 1 rfl, if_neg (by decide), k189_37]
            · rw [e2, Option.some_inj] at hr'
              subst hr'
              exact w1
        · refine nxt ?_ F ?_
          · unfold hitB
            rw [decide_eq_false hsn]
            simp
          · rw [to24, if_neg hsn, if_pos rfl]
      · refine nxt ?_ F ?_
        · unfold hitB
          rw [Bool.eq_false_iff.mpr hon]
          rfl
        · rw [to10, if_neg hon, if_pos rfl]
  rw [k189_0]
  exact L s.rs.length 0 σ (by omega) (FR.refl _ σ)
theorem c188 (hS : SH σ) (hs : WFs s) (hM : CM s σ) {p : Nat} (hp : p < s.ps.length) : ∃ σ', FR [76, 77] σ σ' ∧ jx (d + 5) 188 0 [some (.ref 47), some (.int (nI p)), none] [] σ = some (some (.int (match fW s p with | some z => nI z.1 | none => -4)), σ') := by
  have l24 := (hs.fp _ (mem_ps hp)).1
  have hp16 := hs.p16
  have hr24 := hs.r24
  have C : ∀ {υ : jS}, FR [76, 77] σ υ → CM s υ := fun F => hM.w7 hs F
  have L : ∀ f i υ, i + f = (s.ps.getD p []).length → FR [76, 77] σ υ → ∃ υ', FR [76, 77] σ υ' ∧ jx (d + 5) 188 2 [some (.ref 47), some (.int (nI p)), some (.int (nI i))] [] υ = some (some (.int (match fP s p f i with | some z => nI z.1 | none => -4)), υ') := by
    intro f
    induction f with
    | zero =>
      intro i υ hi F
      have hSu := F.sh hS
      have q1 : (jR υ 661 47).getD 0 = 65 := by rw [sR_661_47 hSu]; rfl
      have q2 : jR υ 661 47 ≠ none := by rw [sR_661_47 hSu]; exact fun z => nomatch z
      refine ⟨υ, F, ?_⟩
      rw [k188_2 (sT_47 hSu) q2 (by rw [q1]; exact Or.inl (sT_65 hSu)) (by rw [q1, sN_65 hSu]; exact jin_n (by omega) (by decide)), q1, nI_clamp (by omega), ((C F).ps p hp).1, if_pos (nI_le (by omega) (by omega)), k188_31]
      rfl
    | succ f ih =>
      intro i υ hi F
      have hSu := F.sh hS
      have q1 : (jR υ 661 47).getD 0 = 65 := by rw [sR_661_47 hSu]; rfl
      have q2 : jR υ 661 47 ≠ none := by rw [sR_661_47 hSu]; exact fun z => nomatch z
      obtain ⟨υ1, F1, e1, _⟩ := c189 (d := d) hSu hs (C F) hp (i := i) (by omega)
      have F1' := F.trans F1
      have st : ∀ v : Int32, (match fR s p i s.rs.length 0 with | some r => nI r | none => -4) = v → jx (d + 5) 188 2 [some (.ref 47), some (.int (nI p)), some (.int (nI i))] [] υ = if v = -4 then jx (d + 5) 188 25 [some (.ref 47), some (.int (nI p)), some (.int (nI i))] [] υ1 else jx (d + 5) 188 23 [some (.ref 47), some (.int (nI p)), some (.int (nI i))] [] υ1 := fun v ev => by
        rw [ev] at e1
        rw [k188_2 (sT_47 hSu) q2 (by rw [q1]; exact Or.inl (sT_65 hSu)) (by rw [q1, sN_65 hSu]; exact jin_n (by omega) (by decide)), q1, nI_clamp (by omega), ((C F).ps p hp).1, if_neg (nI_ge (by omega) (by omega)), k188_12 (sT_47 hSu), e1]
        simp only [Option.bind_some, Option.toList_some, List.cons_append, List.nil_append]
        rw [k188_18]
      cases hr : fR s p i s.rs.length 0 with
      | some r =>
        rw [hr] at st
        obtain ⟨_, hr2, _⟩ := fR_ok _ _ _ hr
        have n4 : ¬ nI r = -4 := fun z => by
          have := nn0 (k := r) (by omega)
          rw [z] at this
          exact this (by decide)
        have e : fP s p (f + 1) i = some (i, r) := by rw [fP, hr]
        refine ⟨υ1, F1', ?_⟩
        rw [st (nI r) rfl, if_neg n4, k188_23, e]
      | none =>
        rw [hr] at st
        have e : fP s p (f + 1) i = fP s p f (i + 1) := by rw [fP, hr]
        obtain ⟨υ2, F2, e2⟩ := ih (i + 1) υ1 (by omega) F1'
        refine ⟨υ2, F2, ?_⟩
        rw [st (-4) rfl, if_pos rfl, k188_25, ← nI_succ, e]
        exact e2
  rw [k188_0]
  exact L (s.ps.getD p []).length 0 σ (by omega) (FR.refl _ σ)
theorem sim_done (hR : REL s cr cp qr qp σ) (x : Int32) : SimR (d + 6) 111 191 [some (.int x), none] [some (.int x)] true σ := by
  have hR0 := hR
  obtain ⟨hS, hx, hs, hC, hM⟩ := hR
  have hl := hs.p16
  have hr24 := hs.r24
  by_cases h : inR x s.ps.length
  · obtain ⟨p, hp, ep⟩ := inR_nat (by omega) h
    have a1 := c86y (d := d + 5) hS hC hs hp
    rw [← ep] at a1
    have l24 := (hs.fp _ (mem_ps hp)).1
    obtain ⟨σ1, F1, e1, _⟩ := c107 (d := d) hS hs hC hp
    have hS1 := F1.sh hS
    have hC1 : CX s cr cp qr qp σ1 := hC.scr F1 (by decide)
    have hM1 := hM.sm (F1.sm (fun a h1 h2 => by simp; omega))
    obtain ⟨σ2, F2, e2⟩ := c188 (d := d) hS1 hs hM1 hp
    have hM2 := hM1.w7 hs F2
    have sc2 := F2.sc (fun a ha => by simp at ha; omega)
    have nx1 : jnx σ1 = jnx σ := F1.1.2.2.2.2.1
    have nx2 : jnx σ2 = jnx σ1 := F2.1.2.2.2.2.1
    have sl1 : jsl σ1 = jsl σ := F1.1.2.2.2.2.2
    have sl2 : jsl σ2 = jsl σ1 := F2.1.2.2.2.2.2
    have b1 := c170y (d := d + 4) hS1 hM1 hs h
    rw [← ep] at e2
    have fin : ∀ v : Int32, jx (d + 6) 111 0 [some (.ref 16), some (.int x), none] [] σ = some (some (.int v), σ1) → jx (d + 6) 191 0 [some (.ref 47), some (.int x)] [] σ1 = some (some (.int v), σ2) → SimR (d + 6) 111 191 [some (.int x), none] [some (.int x)] true σ := fun v h1 h2 => ⟨v, v, σ1, σ2, s, cr, cp, qr, qp, h1, h2, ⟨F2.sh hS1, by omega, hs, CX.sc (by omega) hC1 sc2, hM2⟩, by omega, by omega, (F1.low (by simp)).trans (sc2.low (by omega)), fun _ => rfl⟩
    cases hw : fW s p with
    | none =>
      rw [hw] at e1 e2
      refine fin 1 ?_ ?_
      · rw [k111_0 (sT_16 hS), a1]
        simp only [Option.bind_some, Option.toList_some, List.cons_append, List.nil_append]
        rw [k111_5R (sT_16 hS), e1]
        simp only [Option.bind_some, Option.toList_some, List.cons_append, List.nil_append]
        rw [k111_17, if_neg (by decide), k111_20, c82 (d := d + 5) 1 (Or.inr rfl)]
        simp only [Option.bind_some, Option.toList_some, List.cons_append, List.nil_append]
        rw [k111_28]
      · rw [k191_0 (sT_47 hS1), b1]
        simp only [Option.bind_some, Option.toList_some, List.cons_append, List.nil_append]
        rw [k191_5, if_pos (by decide), k191_10 (sT_47 hS1), e2]
        simp only [Option.bind_some, Option.toList_some, List.cons_append, List.nil_append]
        rw [k191_15, if_neg (fun z => z rfl), k191_20]
    | some z =>
      rw [hw] at e1 e2
      obtain ⟨_, z1, z2, _⟩ := fP_ok _ _ _ hw
      have g1 : (0 : Int32) ≤ nI (z.1 * 24 + z.2) := by rw [← Int32.not_lt]; exact nn0 (by omega)
      have g2 : ¬ nI z.1 = -4 := fun q => by
        have := nn0 (k := z.1) (by omega)
        rw [q] at this
        exact this (by decide)
      refine fin 0 ?_ ?_
      · rw [k111_0 (sT_16 hS), a1]
        simp only [Option.bind_some, Option.toList_some, List.cons_append, List.nil_append]
        rw [k111_5R (sT_16 hS), e1]
        simp only [Option.bind_some, Option.toList_some, List.cons_append, List.nil_append]
        rw [k111_17, if_pos g1, k111_24, c82 (d := d + 5) 0 (Or.inl rfl)]
        simp only [Option.bind_some, Option.toList_some, List.cons_append, List.nil_append]
        rw [k111_28]
      · rw [k191_0 (sT_47 hS1), b1]
        simp only [Option.bind_some, Option.toList_some, List.cons_append, List.nil_append]
        rw [k191_5, if_pos (by decide), k191_10 (sT_47 hS1), e2]
        simp only [Option.bind_some, Option.toList_some, List.cons_append, List.nil_append]
        rw [k191_15, if_pos g2, k191_24]
  · have a1 := c86n (d := d + 5) hS hC h
    have a2 := c170n (d := d + 4) hS hM hs h
    refine SimR.read hR0 (a := -1) (a' := -1) ?_ ?_ (fun _ => rfl)
    · rw [k111_0 (sT_16 hS), a1]
      simp only [Option.bind_some, Option.toList_some, List.cons_append, List.nil_append]
      rw [k111_5N]
    · rw [k191_0 (sT_47 hS), a2]
      simp only [Option.bind_some, Option.toList_some, List.cons_append, List.nil_append]
      rw [k191_5, if_neg (fun z => z rfl), k191_8]
end MI2
end S_9h
