/-! rule: the class -/
section RU2
variable {d : Nat} {σ : jS} {s : AS} {cr cp : Nat} {qr qp : Nat → Nat}
def ruK (s : AS) (rg0 : Nat → Int32) : Option AR := match mRule s.len s.b s.W rg0 with | some (o1, o2, rs, ms, _) => if PA s.W rs.length ms.length o1 o2 ≤ 70000 then some (mkA s.W rs.length ms.length o1 o2) else none | none => none
theorem cls_rule (hS : SH σ) (hx : 81 ≤ jnx σ) (hs : WFs s) (hC : CX s cr cp qr qp σ) (hn : s.rs.length < 24) (rg0 : Nat → Int32) : ∃ σ' v cr' qr', jx (d + 8) 17 0 [some (.ref 16), none] [] σ = some (some (.int v), σ') ∧ SH σ' ∧ sameM σ σ' ∧ low σ σ' ∧ jnx σ ≤ jnx σ' ∧ jnx σ' ≤ jnx σ + 7 ∧ jsl σ' ≤ jsl σ + 89 ∧ (match ruK s rg0 with | some a => CX (sRul s a) cr' cp qr' qp σ' | none => CX (sLen0 s) cr' cp qr' qp σ') := by
  obtain ⟨σ1, cr', qr', e1, hC1, hc, w1, w3, ⟨f28, f29, f32⟩, hS1, sm1, lo1, nx1, nx1', sl1⟩ := c18 (d := d + 4) hS hx hC hn
  have bq := hC1.dj.r s.rs.length hc
  obtain ⟨q, eq⟩ : ∃ q, qr' s.rs.length = q := ⟨_, rfl⟩
  have slr := (hC1.gr s.rs.length hc).2
  rw [eq] at bq w1 w3 f28 f29 f32 slr e1
  obtain ⟨hU, rs1, rs3⟩ := slr
  obtain ⟨σ2, e2, f2, g2, h2, r2⟩ := c21 (d := d) (W := s.W) hS1 hC1.st hC1.tx (q := q) (q1 := q + 1) (a1 := q + 2) (q2 := q + 3) (a2 := q + 4) ⟨hU.1, hU.2.1, hU.2.2.1, by simp, fun x hx => by simp at hx; simp; omega⟩ w1 w3
  have hS2 := f2.sh hS1
  have frl : ∀ x : Nat, x ∈ (q :: (q + 1) :: (q + 2) :: (q + 3) :: (q + 4) :: rdl) → (q ≤ x ∧ x < q + 7) ∨ x ∈ rdl ∨ x ∈ [29, 30, 31, 32, 33, 35, 36, 37] := fun x hx => by
    simp only [List.mem_cons] at hx
    rcases hx with h | h | h | h | h | h
    · left; omega
    · left; omega
    · left; omega
    · left; omega
    · left; omega
    · exact Or.inr (Or.inl h)
  have rdb : ∀ x : Nat, x ∈ rdl → 17 ≤ x ∧ x ≤ 24 := by decide
  have nf2 : ∀ x : Nat, 24 < x → x < 81 → x ∉ (q :: (q + 1) :: (q + 2) :: (q + 3) :: (q + 4) :: rdl) := fun x h1 h2 z => by
    rcases frl x z with w | w | w
    · omega
    · have := rdb x w; omega
    · simp only [List.mem_cons] at z
      rcases z with h | h | h | h | h | h
      · omega
      · omega
      · omega
      · omega
      · omega
      · have := rdb x h; omega
  obtain ⟨m1, x1⟩ := hC1.w1
  obtain ⟨m2, x2⟩ := hC1.w2
  have hC2 : CX s cr' cp qr' qp σ2 := hC1.freeR hc f2 (by rw [eq]; exact frl) (by rw [eq]; exact (g2 256 (by decide)).1) (by rw [eq]; exact (g2 256 (by decide)).2) ⟨m1, x1.frame f2 (nf2 30 (by decide) (by decide))⟩ ⟨m2, x2.frame f2 (nf2 32 (by decide) (by decide))⟩
  obtain ⟨v, ev⟩ : ∃ v, jI σ2 192 17 = v := ⟨_, rfl⟩
  obtain ⟨σ3, eσ3⟩ : ∃ σ3, jsI σ2 449 18 0 = σ3 := ⟨_, rfl⟩
  obtain ⟨σ4, eσ4⟩ : ∃ σ4, jsI σ3 588 16 v = σ4 := ⟨_, rfl⟩
  have F3 : FR [18] σ2 σ3 := eσ3 ▸ (FR.refl _ σ2).I (by decide)
  have F4 : FR [16] σ3 σ4 := eσ4 ▸ (FR.refl _ σ3).I (by decide)
  have hS3 := F3.sh hS2
  have hS4 := F4.sh hS3
  have hC3 : CX (sLen0 s) cr' cp qr' qp σ3 := hC2.tape F3 (by simp) rfl rfl rfl rfl rfl rfl ⟨by rw [← eσ3, zI_I, if_pos ⟨rfl, rfl⟩]; rfl, Nat.zero_le _, fun i hi => absurd hi (Nat.not_lt_zero i)⟩
  have i4 : ∀ g, g ≠ 588 → jI σ4 g 16 = jI σ3 g 16 := fun g hg => by rw [← eσ4, zI_I, if_neg (fun z => hg z.1)]
  have hC4 : CX (sLen0 s) cr' cp qr' qp σ4 := hC3.fr F4 (by decide) (by rw [i4 585 (by decide)]; exact hC3.nr) (by rw [i4 586 (by decide)]; exact hC3.np) (by rw [i4 587 (by decide)]; exact hC3.w) (by rw [i4 589 (by decide)]; exact hC3.ap) rfl rfl rfl rfl hC3.lr.1 hC3.lp.1 hC3.rs hC3.ps
  have smf : ∀ {l : List Nat} {α β : jS}, FR l α β → (∀ x : Nat, x ∈ l → x < 47 ∨ 80 < x) → sameM α β := fun f h => f.sm (fun a h1 h2 z => by have := h a z; omega)
  have bigs : ∀ x : Nat, x ∈ (q :: (q + 1) :: (q + 2) :: (q + 3) :: (q + 4) :: rdl) → 16 ≤ x ∧ (x < 47 ∨ 80 < x) := fun x hx => by
    rcases frl x hx with w | w | w
    · omega
    · have := rdb x w; omega
    · simp at w; omega
  have sm4 : sameM σ σ4 := ((sm1.trans (smf f2 (fun x hx => (bigs x hx).2))).trans (smf F3 (by simp))).trans (smf F4 (by simp))
  have lo4 : low σ σ4 := ((lo1.trans (f2.low (fun x hx => (bigs x hx).1))).trans (F3.low (by simp))).trans (F4.low (by simp))
  have nx4 : jnx σ4 = jnx σ1 := by rw [F4.1.2.2.2.2.1, F3.1.2.2.2.2.1, f2.1.2.2.2.2.1]
  have sl4 : jsl σ4 = jsl σ1 := by rw [F4.1.2.2.2.2.2, F3.1.2.2.2.2.2, f2.1.2.2.2.2.2]
  have r6 : ∀ {υ : jS}, SH υ → (jR υ 576 16).getD 0 = 17 := fun h => by rw [sR_576_16 h]; rfl
  have n6 : ∀ {υ : jS}, SH υ → jR υ 576 16 ≠ none := fun h => by rw [sR_576_16 h]; exact fun z => nomatch z
  have r7 : ∀ {υ : jS}, SH υ → (jR υ 577 16).getD 0 = 18 := fun h => by rw [sR_577_16 h]; rfl
  have n7 : ∀ {υ : jS}, SH υ → jR υ 577 16 ≠ none := fun h => by rw [sR_577_16 h]; exact fun z => nomatch z
  have e588 : jI σ4 588 16 = v := by rw [← eσ4, zI_I, if_pos ⟨rfl, rfl⟩]
  have to4 : jx (d + 8) 17 0 [some (.ref 16), none] [] σ = if ¬ (v = 0) then jx (d + 8) 17 75 [some (.ref 16), some (.ref q)] [] σ4 else jx (d + 8) 17 55 [some (.ref 16), some (.ref q)] [] σ4 := by
    have lt : nI s.rs.length < (24 : Int32) := by rw [show (24 : Int32) = nI 24 from rfl, n31 (by omega) (by decide)]; exact hn
    rw [k17_0 (sT_16 hS), hC.nr, if_pos lt, k17_12 (sT_16 hS), e1]
    simp only [Option.bind_some, Option.toList_some, List.cons_append, List.nil_append]
    rw [k17_16 (sT_16 hS1) (n6 hS1) (by rw [r6 hS1]; exact sT_17 hS1), r6 hS1, hC1.w, e2]
    simp only [Option.bind_some, Option.toList_none, List.nil_append]
    rw [k17_29 (sT_16 hS2) (n7 hS2) (by rw [r7 hS2]; exact sT_18 hS2) (n6 hS2) (by rw [r6 hS2]; exact sT_17 hS2), r7 hS2, r6 hS2, ev, eσ3, eσ4, e588]
  have same := rules_same (len := s.len) (b := s.b) hs.byy s.W rg0
  cases hM : mRule s.len s.b s.W rg0 with
  | none =>
    have hk : ruK s rg0 = none := by unfold ruK; rw [hM]
    rw [hM] at same
    cases hR : sRule s.len s.b s.W with
    | some z => rw [hR] at same; exact same.elim
    | none =>
      rw [hR] at r2
      have r2 : ¬ jI σ2 192 17 = 0 := r2
      rw [ev] at r2
      refine ⟨σ4, (-10) - jI σ4 193 17, cr', qr', ?_, hS4, sm4, lo4, by omega, by omega, by omega, by rw [hk]; exact hC4⟩
      rw [to4, if_pos r2, k17_75 (sT_16 hS4), e588, if_neg r2, k17_82 (sT_16 hS4) (n6 hS4) (by rw [r6 hS4]; exact sT_17 hS4), r6 hS4]
  | some y =>
    obtain ⟨o1, o2, rs, ms, rg⟩ := y
    have rd := mRule_rd hs.w hM
    rw [hM] at same
    cases hR : sRule s.len s.b s.W with
    | none => rw [hR] at same; exact same.elim
    | some z =>
      obtain ⟨z1, z2, zr, zm⟩ := z
      rw [hR] at same
      obtain ⟨q1, q2, q3, q4⟩ := same
      have q1 : z1 = o1.map (keepF s.W) := q1
      have q2 : z2 = o2.map (keepF s.W) := q2
      have q3 : zr = rs := q3
      have q4 : zm = ms := q4
      have hR' : sRule s.len s.b s.W = some (o1.map (keepF s.W), o2.map (keepF s.W), rs, ms) := by rw [hR, q1, q2, q3, q4]
      rw [hR'] at r2
      obtain ⟨r20, rc1, rc2, r24, r25⟩ := r2
      rw [ev] at r20
      have rd0 := rd
      obtain ⟨n4, m3, wf1, wf2, z4, l1, l14, l24, oc⟩ := rd
      have op1 : ∀ o, o ∈ o1.map (keepF s.W) → OPk o := fun o ho => by
        obtain ⟨o', h1, h2⟩ := List.mem_map.mp ho
        obtain ⟨k0, k1, _⟩ := keep_op s.W o'
        obtain ⟨p1, p2⟩ := (wf1 o' h1).op
        rw [← h2]; exact ⟨by rw [k1]; exact p1, by rw [k0, k1]; exact p2⟩
      have op2 : ∀ o, o ∈ o2.map (keepF s.W) → OPk o := fun o ho => by
        obtain ⟨o', h1, h2⟩ := List.mem_map.mp ho
        obtain ⟨k0, k1, _⟩ := keep_op s.W o'
        obtain ⟨p1, p2⟩ := (wf2 o' h1).op
        rw [← h2]; exact ⟨by rw [k1]; exact p1, by rw [k0, k1]; exact p2⟩
      have mkRO : ∀ {x a : Nat} {os : List (Nat → Int32)}, RS σ1 x a 4 → jI σ2 256 x = jI σ1 256 x → RC σ2 x a os → os.length ≤ 4 → 81 ≤ x → 81 ≤ a → RO σ4 x a 4 os := fun {x a os} h5 h6 h7 h8 h9 h10 => by
        have rs2 : RS σ2 x a 4 := RS.fr256 h5 f2 h6
        have ro2 : RO σ2 x a 4 os := ⟨⟨rs2.1, rs2.2.1, rs2.2.2.1, rs2.2.2.2.1, rs2.2.2.2.2.1, h7.1, h8, by decide⟩, h7⟩
        exact (ro2.frame F3 (by simp; omega) (by simp; omega)).frame F4 (by simp; omega) (by simp; omega)
      have ro1 : RO σ4 (q + 1) (q + 2) 4 (o1.map (keepF s.W)) := mkRO rs1 (g2 256 (by decide)).1 rc1 (by rw [List.length_map]; exact l14) (by omega) (by omega)
      have ro2 : RO σ4 (q + 3) (q + 4) 4 (o2.map (keepF s.W)) := mkRO rs3 (g2 256 (by decide)).2 rc2 (by rw [List.length_map]; exact l24) (by omega) (by omega)
      have hU4 : RU σ4 q (q + 1) (q + 2) (q + 3) (q + 4) (q + 5) (q + 6) := ((hU.frame f2).frame F3).frame F4
      have Iq : ∀ g, jI σ4 g q = jI σ2 g q := fun g => by rw [(F4.2 q (by simp; omega)).1, (F3.2 q (by simp; omega)).1]
      obtain ⟨σ5, e5, F5, g5, h30, h26, ht5, h27⟩ := c49 (d := d + 3) (W := s.W) hU4 ro1 ro2 op1 op2 n4 m3 (by rw [Iq]; exact r24) (by rw [Iq]; exact r25)
      have ehc : ((o1.map (keepF s.W)).any celO || (o2.map (keepF s.W)).any celO) = hcO o1 o2 := by rw [any_keep, any_keep]; rfl
      rw [ehc] at e5 h30 h26 ht5 h27
      obtain ⟨pp1, pp2, pp3⟩ := rd0.pb hs.w
      have e5' : jx (d + 7) 49 0 [some (.ref q), some (.int (nI s.W)), none, none, none, none, none] [] σ4 = some (some (.long (Int64.ofNat (PA s.W rs.length ms.length o1 o2))), σ5) := by rw [← pp3]; exact e5
      have hS5 := F5.sh hS4
      have hC5 : CX (sLen0 s) cr' cp qr' qp σ5 := by
        obtain ⟨b1, y1⟩ := hC4.w1
        obtain ⟨b2, y2⟩ := hC4.w2
        exact hC4.freeR (s := sLen0 s) hc F5 (fun x hx => by show (qr' s.rs.length ≤ x ∧ x < qr' s.rs.length + 7) ∨ _; rw [eq]; simp at hx; omega) (by show jI σ5 256 (qr' s.rs.length + 1) = jI σ4 256 (qr' s.rs.length + 1); rw [eq, (F5.2 _ (by simp)).1]) (by show jI σ5 256 (qr' s.rs.length + 3) = jI σ4 256 (qr' s.rs.length + 3); rw [eq, (F5.2 _ (by simp)).1]) ⟨b1, y1.frame F5 (by simp; omega)⟩ ⟨b2, y2.frame F5 (by simp; omega)⟩
      have sm5 := sm4.trans (smf F5 (fun x hx => by simp at hx; omega))
      have lo5 := lo4.trans (F5.low (fun x hx => by simp at hx; omega))
      have nx5 : jnx σ5 = jnx σ1 := by rw [F5.1.2.2.2.2.1, nx4]
      have sl5 : jsl σ5 = jsl σ1 := by rw [F5.1.2.2.2.2.2, sl4]
      have w4 : jI σ4 587 16 = nI s.W := hC4.w
      have i16 := (F5.2 16 (by simp; omega)).1
      have to63 : jx (d + 8) 17 0 [some (.ref 16), none] [] σ = if lg_cmp (Int64.ofNat (PA s.W rs.length ms.length o1 o2)) 70000 ≤ 0 then jx (d + 8) 17 75 [some (.ref 16), some (.ref q)] [] σ5 else jx (d + 8) 17 70 [some (.ref 16), some (.ref q)] [] σ5 := by
        rw [to4, if_neg (fun w => w r20), k17_55 (sT_16 hS4) hU4.1, w4, e5']
        simp only [Option.bind_some, Option.toList_some, List.cons_append, List.nil_append]
        rw [k17_63]
      by_cases hP : PA s.W rs.length ms.length o1 o2 ≤ 70000
      · have hk : ruK s rg0 = some (mkA s.W rs.length ms.length o1 o2) := by unfold ruK; rw [hM]; exact if_pos hP
        have lc : lg_cmp (Int64.ofNat (PA s.W rs.length ms.length o1 o2)) 70000 ≤ 0 := by rw [lgle, of64_lt pp2]; omega
        have e7 : jI σ5 327 q = nI (PA s.W rs.length ms.length o1 o2) := by
          have z : ¬ (70001 : Int64) < Int64.ofNat (PA s.W rs.length ms.length o1 o2) := by
            rw [Int64.lt_iff_toInt_lt, Int64.toInt_ofNat_of_lt (by omega)]
            have : (70001 : Int64).toInt = 70001 := rfl
            omega
          have h27' : jI σ5 327 q = Int64.toInt32 (if (70001 : Int64) < prL (tpA s.W rs.length o1 o2) (nAA rs.length ms.length o1 o2) then 70001 else prL (tpA s.W rs.length o1 o2) (nAA rs.length ms.length o1 o2)) := h27
          rw [h27', pp3, if_neg z, of64_32 (by omega)]
        have I5 : ∀ g, g ≠ 330 → g ≠ 326 → g ≠ 327 → g ≠ 324 → g ≠ 325 → jI σ5 g q = jI σ1 g q := fun g h1 h3 h4 h5 h6 => by rw [g5 g h1 h3 h4, Iq, h2 g h5 h6]
        have hU5 := hU4.frame F5
        have CR5 : CR σ5 s.W q (q + 1) (q + 2) (q + 3) (q + 4) (q + 5) (q + 6) rs.length ms.length (hcO o1 o2) o1 o2 (tpA s.W rs.length o1 o2) := ⟨hU5, fun x hx => by simp at hx; omega, ro1.frame F5 (by simp) (by simp), ro2.frame F5 (by simp) (by simp), by rw [g5 324 (by decide) (by decide) (by decide), Iq]; exact r24, by rw [g5 325 (by decide) (by decide) (by decide), Iq]; exact r25, h26, h30, ht5⟩
        obtain ⟨b1, y1⟩ := hC5.w1
        obtain ⟨b2, y2⟩ := hC5.w2
        obtain ⟨σ6, e6, F6, g6, h28, h31, b3, b4, y3, y4⟩ := c56 (d := d + 2) hs.w hS5 hC5.st CR5 n4 m3 wf1 wf2 y1 y2 e7 (by omega) (rd0.vb hs.w)
        have hS6 := F6.sh hS5
        have trb : ∀ x : Nat, x ∈ trL q (q + 6) → (x = q ∨ x = q + 6) ∨ x ∈ [29, 30, 31, 32, 33, 35, 36, 37] := fun x hx => by
          unfold trL at hx
          rcases List.mem_cons.mp hx with h | h
          · exact Or.inl (Or.inl h)
          · rcases List.mem_cons.mp h with h | h
            · exact Or.inl (Or.inr h)
            · exact Or.inr h
        have tr29 : ∀ x : Nat, x ∈ [29, 30, 31, 32, 33, 35, 36, 37] → 29 ≤ x ∧ x ≤ 37 := by decide
        have hC6 : CX (sLen0 s) cr' cp qr' qp σ6 := hC5.freeR (s := sLen0 s) hc F6 (fun x hx => by
          show (qr' s.rs.length ≤ x ∧ x < qr' s.rs.length + 7) ∨ _
          rw [eq]
          rcases trb x hx with w | w
          · left; omega
          · exact Or.inr (Or.inr w)) (by show jI σ6 256 (qr' s.rs.length + 1) = jI σ5 256 (qr' s.rs.length + 1); rw [eq, (F6.2 (q + 1) (fun z => by rcases trb _ z with w | w; omega; have := tr29 _ w; omega)).1]) (by show jI σ6 256 (qr' s.rs.length + 3) = jI σ5 256 (qr' s.rs.length + 3); rw [eq, (F6.2 (q + 3) (fun z => by rcases trb _ z with w | w; omega; have := tr29 _ w; omega)).1]) ⟨b3, y3⟩ ⟨b4, y4⟩
        have sm6 := sm5.trans (smf F6 (fun x hx => by
          rcases trb x hx with w | w
          · omega
          · have := tr29 x w; omega))
        have lo6 := lo5.trans (F6.low (fun x hx => by
          rcases trb x hx with w | w
          · omega
          · have := tr29 x w; omega))
        have nx6 : jnx σ6 = jnx σ1 := by rw [F6.1.2.2.2.2.1, nx5]
        have sl6 : jsl σ6 = jsl σ1 := by rw [F6.1.2.2.2.2.2, sl5]
        have CR6 : CR σ6 s.W q (q + 1) (q + 2) (q + 3) (q + 4) (q + 5) (q + 6) rs.length ms.length (hcO o1 o2) o1 o2 (tpA s.W rs.length o1 o2) := CR5.frame F6 (trL_out (by simp) (fun x hx => by simp at hx; omega)) g6
        have crr : CRr σ6 s.W q (mkA s.W rs.length ms.length o1 o2) := by
          refine ⟨⟨_, CR6⟩, by rw [g6 327 (by decide) (by decide)]; exact e7, h28, ?_, ?_, ?_⟩
          · rw [g6 329 (by decide) (by decide), I5 329 (by decide) (by decide) (by decide) (by decide) (by decide), f29]; rfl
          · exact h31
          · rw [g6 332 (by decide) (by decide), I5 332 (by decide) (by decide) (by decide) (by decide) (by decide), f32]; rfl
        have F7 := i16FR (σ := σ6) 585 (nI (s.rs.length + 1))
        have nr6 : jI σ6 585 16 = nI s.rs.length := hC6.nr
        have w6 : jI σ5 587 16 = nI s.W := hC5.w
        refine ⟨jsI σ6 585 16 (nI (s.rs.length + 1)), nI s.rs.length, cr', qr', ?_, by rw [SH_I]; exact hS6, sm6.trans (smf F7 (by simp)), lo6.trans (F7.low (by simp)), by show _ ≤ jnx σ6; omega, by show jnx σ6 ≤ _; omega, by show jsl σ6 ≤ _; omega, ?_⟩
        · have q9 : (jR σ5 579 16).getD 0 = 27 := by rw [sR_579_16 hS5]; rfl
          have n9 : jR σ5 579 16 ≠ none := by rw [sR_579_16 hS5]; exact fun z => nomatch z
          rw [to63, if_pos lc, k17_75 (sT_16 hS5), i16, e588, if_pos r20, k17_93 (sT_16 hS5) n9 (by rw [q9]; exact sT_27 hS5), q9, w6, e6]
          simp only [Option.bind_some, Option.toList_none, List.nil_append]
          rw [k17_105 (sT_16 hS6), nr6, zI_I, if_pos ⟨rfl, rfl⟩, ← nI_succ, show (1 : Int32) = nI 1 from rfl, nsub (by omega), Nat.add_sub_cancel]
        · rw [hk]
          refine hC6.fr F7 (by decide) (by rw [zI_I, if_pos ⟨rfl, rfl⟩, sRul_len]) (by rw [zI_I, if_neg (by decide)]; exact hC6.np) (by rw [zI_I, if_neg (by decide)]; exact hC6.w) (by rw [zI_I, if_neg (by decide)]; exact hC6.ap) rfl rfl rfl rfl (by rw [sRul_len]; omega) hC6.lp.1 (fun i hi => ?_) hC6.ps
          rw [sRul_len] at hi
          show CRr _ s.W _ ((s.rs ++ [mkA s.W rs.length ms.length o1 o2]).getD i ar0)
          rw [app_rs hi]
          by_cases e : i = s.rs.length
          · rw [if_pos e, e, eq]; exact crr
          · rw [if_neg e]; exact hC6.rs i (by show i < s.rs.length; omega)
      · have hk : ruK s rg0 = none := by unfold ruK; rw [hM]; exact if_neg hP
        have lc : ¬ lg_cmp (Int64.ofNat (PA s.W rs.length ms.length o1 o2)) 70000 ≤ 0 := by rw [lgle, of64_lt pp2]; omega
        have F6 := i16FR (σ := σ5) 588 5
        have hS6 : SH (jsI σ5 588 16 5) := by rw [SH_I]; exact hS5
        refine ⟨jsI σ5 588 16 5, (-10) - jI (jsI σ5 588 16 5) 193 17, cr', qr', ?_, hS6, sm5.trans (smf F6 (by simp)), lo5.trans (F6.low (by simp)), by show _ ≤ jnx σ5; omega, by show jnx σ5 ≤ _; omega, by show jsl σ5 ≤ _; omega, ?_⟩
        · rw [to63, if_neg lc, k17_70 (sT_16 hS5), if_neg (by rw [zI_I, if_pos ⟨rfl, rfl⟩]; decide), k17_82 (sT_16 hS6) (n6 hS6) (by rw [r6 hS6]; exact sT_17 hS6), r6 hS6]
        · rw [hk]
          exact hC5.fr F6 (by decide) (by rw [zI_I, if_neg (by decide)]; exact hC5.nr) (by rw [zI_I, if_neg (by decide)]; exact hC5.np) (by rw [zI_I, if_neg (by decide)]; exact hC5.w) (by rw [zI_I, if_neg (by decide)]; exact hC5.ap) rfl rfl rfl rfl hC5.lr.1 hC5.lp.1 hC5.rs hC5.ps
end RU2
