section S_9p
/-! rule: the class -/
section RU2
variable {d : Nat} {σ : jS} {s : AS} {cr cp : Nat} {qr qp : Nat → Nat}
def ruK (s : AS) (rg0 : Nat → Int32) : Option AR := match mRule s.len s.b s.W rg0 with | some (o1, o2, rs, ms, _) => if PA s.W rs.length ms.length o1 o2 ≤ 70000 then some (mkA s.W rs.length ms.length o1 o2) else none | none => none
theorem cls_rule (hS : SH σ) (hx : 81 ≤ jnx σ) (hs : WFs s) (hC : CX s cr cp qr qp σ) (hn : s.rs.length < 24) (rg0 : Nat → Int32) : ∃ σ' v cr' qr', jx (d + 8) 17 0 [some (.ref 16), none] [] σ = some (some (.int v), σ') ∧ SH σ' ∧ sameM σ σ' ∧ low σ σ' ∧ jnx σ ≤ jnx σ' ∧ jnx σ' ≤ jnx σ + 7 ∧ jsl σ' ≤ jsl σ + 89 ∧ (match ruK s rg0 with | some a => CX (sRul s a) cr' cp qr' qp σ' | none => CX (sLen0 s) cr' cp qr' qp σ') := by
  obtain ⟨σ1, cr', qr', e1, hC1, hc, w1, w3, ⟨f28, f29, f32⟩, hS1, sm1, lo1, nx1, nx1', sl1⟩ := c18 (d := d + 4) hS hx hC hn
  have bq := hC1.dj.r s.rs.length hc
  obtain ⟨q, eq⟩ : ∃ q, qr' s.rs.length = q := ⟨_, rfl⟩
  have slr := (hC1.gr s.rs.length hc).2
  rw [eq] at bq w1 w3 f28 f29 f32 slr e1
  obtain ⟨hU, rs1, rs3⟩ := slr
  obtain ⟨σ2, e2, f2, g2, h2, r2⟩ := c21 (d := d) (W := s.W) hS1 hC1.st hC1.tx (q := q) (q1 := q + 1) (a1 := q + 2) (q2 := q + 3) (a2 := q + 4) ⟨hU.1, hU.2.1, hU.2.2.1, by simp, fun x hx => by simp at hx; simp; omega⟩ w1 w3
  have hS2 := f2.sh hS1
  have frl : ∀ x : Nat, x ∈ (q :: (q + 1) :: (q + 2) :: (q + 3) :: (q + 4) :: rdl) → (q ≤ x ∧ x < q + 7) ∨ x ∈ rdl ∨ x ∈ [29, 30, 31, 32, 33, 35, 36, 37] := fun x hx => by
    simp only [List.mem_cons] at hx
    rcases hx with h | h | h | h | h | h
    · left; omega
    · left; omega
    · left; omega
    · left; omega
    · left; omega
    · exact Or.inr (Or.inl h)
  have rdb : ∀ x : Nat, x ∈ rdl → 17 ≤ x ∧ x ≤ 24 := by decide
  have nf2 : ∀ x : Nat, 24 < x → x < 81 → x ∉ (q :: (q + 1) :: (q + 2) :: (q + 3) :: (q + 4) :: rdl) := fun x h1 h2 z => by
    rcases frl x z with w | w | w
    · omega
    · have := rdb x w; omega
    · simp only [List.mem_cons] at z
      rcases z with h | h | h | h | h | h
      · omega
      · omega
      · omega
      · omega
      · omega
      · have := rdb x h; omega
  obtain ⟨m1, x1⟩ := hC1.w1
  obtain ⟨m2, x2⟩ := hC1.w2
  have hC2 : CX s cr' cp qr' qp σ2 := hC1.freeR hc f2 (by rw [eq]; exact frl) (by rw [eq]; exact (g2 256 (by decide)).1) (by rw [eq]; exact (g2 256 (by decide)).2) ⟨m1, x1.frame f2 (nf2 30 (by decide) (by decide))⟩ ⟨m2, x2.frame f2 (nf2 32 (by decide) (by decide))⟩
  obtain ⟨v, ev⟩ : ∃ v, jI σ2 192 17 = v := ⟨_, rfl⟩
  obtain ⟨σ3, eσ3⟩ : ∃ σ3, jsI σ2 449 18 0 = σ3 := ⟨_, rfl⟩
  obtain ⟨σ4, eσ4⟩ : ∃ σ4, jsI σ3 588 16 v = σ4 := ⟨_, rfl⟩
  have F3 : FR [18] σ2 σ3 := eσ3 ▸ (FR.refl _ σ2).I (by decide)
  have F4 : FR [16] σ3 σ4 := eσ4 ▸ (FR.refl _ σ3).I (by decide)
  have hS3 := F3.sh hS2
  have hS4 := F4.sh hS3
  have hC3 : CX (sLen0 s) cr' cp qr' qp σ3 := hC2.tape F3 (by simp) rfl rfl rfl rfl rfl rfl ⟨by rw [← eσ3, zI_I, if_pos ⟨rfl, rfl⟩]; rfl, Nat.zero_le _, fun i hi => absurd hi (Nat.not_lt_zero i)⟩
  have i4 : ∀ g, g ≠ 588 → jI σ4 g 16 = jI σ3 g 16 := fun g hg => by rw [← eσ4, zI_I, if_neg (fun z => hg z.1)]
  have hC4 : CX (sLen0 s) cr' cp qr' qp σ4 := hC3.fr F4 (by decide) (by rw [i4 585 (by decide)]; exact hC3.nr) (by rw [i4 586 (by decide)]; exact hC3.np) (by rw [i4 587 (by decide)]; exact hC3.w) (by rw [i4 589 (by decide)]; exact hC3.ap) rfl rfl rfl rfl hC3.lr.1 hC3.lp.1 hC3.rs hC3.ps
  have smf : ∀ {l : List Nat} {α β : jS}, FR l α β → (∀ x : Nat, x ∈ l → x < 47 ∨ 80 < x) → sameM α β := fun f h => f.sm (fun a h1 h2 z => by have := h a z; omega)
  have bigs : ∀ x : Nat, x ∈ (q :: (q + 1) :: (q + 2) :: (q + 3) :: (q + 4) :: rdl) → 16 ≤ x ∧ (x < 47 ∨ 80 < x) := fun x hx => by
    rcases frl x hx with w | w | w
    · omega
    · have := rdb x w; omega
    · simp at w; omega
  have sm4 : sameM σ σ4 := ((sm1.trans (smf f2 (fun x hx => (bigs x hx).2))).trans (smf F3 (by simp))).trans (smf F4 (by simp))
  have lo4 : low σ σ4 := ((lo1.trans (f2.low (fun x hx => (bigs x hx).1))).trans (F3.low (by simp))).trans (F4.low (by simp))
  have nx4 : jnx σ4 = jnx σ1 := by rw [F4.1.2.2.2.2.1, F3.1.2.2.2.2.1, f2.1.2.2.2.2.1]
  have sl4 : jsl σ4 = jsl σ1 := by rw [F4.1.2.2.2.2.2, F3.1.2.2.2.2.2, f2.1.2.2.2.2.2]
  have r6 : ∀ {υ : jS}, SH υ → (jR υ 576 16).getD 0 = 17 := fun h => by rw [sR_576_16 h]; rfl
  have n6 : ∀ {υ : jS}, SH υ → jR υ 576 16 ≠ none := fun h => by rw [sR_576_16 h]; exact fun z => nomatch z
  have r7 : ∀ {υ : jS}, SH υ → (jR υ 577 16).getD 0 = 18 := fun h => by rw [sR_577_16 h]; rfl
  have n7 : ∀ {υ : jS}, SH υ → jR υ 577 16 ≠ none := fun h => by rw [sR_577_16 h]; exact fun z => nomatch z
  have e588 : jI σ4 588 16 = v := by rw [← eσ4, zI_I, if_pos ⟨rfl, rfl⟩]
  have to4 : jx (d + 8) 17 0 [some (.ref 16), none] [] σ = if ¬ (v = 0) then jx (d + 8) 17 75 [some (.ref 16), some (.ref q)] [] σ4 else jx (d + 8) 17 55 [some (.ref 16), some (.ref q)] [] σ4 := by
    have lt : nI s.rs.length < (24 : Int32) := by rw [show (24 : Int32) = nI 24 from rfl, n31 (by omega) (by decide)]; exact hn
    rw [k17_0 (sT_16 hS), hC.nr, if_pos lt, k17_12 (sT_16 hS), e1]
    simp only [Option.bind_some, Option.toList_some, List.cons_append, List.nil_append]
    rw [k17_16 (sT_16 hS1) (n6 hS1) (by rw [r6 hS1]; exact sT_17 hS1), r6 hS1, hC1.w, e2]
    simp only [Option.bind_some, Option.toList_none, List.nil_append]
    rw [k17_29 (sT_16 hS2) (n7 hS2) (by rw [r7 hS2]; exact sT_18 hS2) (n6 hS2) (by rw [r6 hS2]; exact sT_17 hS2), r7 hS2, r6 hS2, ev, eσ3, eσ4, e588]
  have same := rules_same (len := s.len) (b := s.b) hs.byy s.W rg0
  cases hM : mRule s.len s.b s.W rg0 with
  | none =>
    have hk : ruK s rg0 = none := by unfold ruK; rw [hM]
    rw [hM] at same
    cases hR : sRule s.len s.b s.W with
    | some z => rw [hR] at same; exact same.elim
    | none =>
      rw [hR] at r2
      have r2 : ¬ jI σ2 192 17 = 0 := r2
      rw [ev] at r2
      refine ⟨σ4, (-10) - jI σ4 193 17, cr', qr', ?_, hS4, sm4, lo4, by omega, by omega, by omega, by rw [hk]; exact hC4⟩
      rw [to4, if_pos r2, k17_75 (sT_16 hS4), e588, if_neg r2, k17_82 (sT_16 hS4) (n6 hS4) (by rw [r6 hS4]; exact sT_17 hS4), r6 hS4]
  | some y =>
    obtain ⟨o1, o2, rs, ms, rg⟩ := y
    have rd := mRule_rd hs.w hM
    rw [hM] at same
    cases hR : sRule s.len s.b s.W with
    | none => rw [hR] at same; exact same.elim
    | some z =>
      obtain ⟨z1, z2, zr, zm⟩ := z
      rw [hR] at same
      obtain ⟨q1, q2, q3, q4⟩ := same
      have q1 : z1 = o1.map (keepF s.W) := q1
      have q2 : z2 = o2.map (keepF s.W) := q2
      have q3 : zr = rs := q3
      have q4 : zm = ms := q4
      have hR' : sRule s.len s.b s.W = some (o1.map (keepF s.W), o2.map (keepF s.W), rs, ms) := by rw [hR, q1, q2, q3, q4]
      rw [hR'] at r2
      obtain ⟨r20, rc1, rc2, r24, r25⟩ := r2
      rw [ev] at r20
      have rd0 := rd
      obtain ⟨n4, m3, wf1, wf2, z4, l1, l14, l24, oc⟩ := rd
      have op1 : ∀ o, o ∈ o1.map (keepF s.W) → OPk o := fun o ho => by
        obtain ⟨o', h1, h2⟩ := List.mem_map.mp ho
        obtain ⟨k0, k1, _⟩ := keep_op s.W o'
        obtain ⟨p1, p2⟩ := (wf1 o' h1).op
        rw [← h2]; exact ⟨by rw [k1]; exact p1, by rw [k0, k1]; exact p2⟩
      have op2 : ∀ o, o ∈ o2.map (keepF s.W) → OPk o := fun o ho => by
        obtain ⟨o', h1, h2⟩ := List.mem_map.mp ho
        obtain ⟨k0, k1, _⟩ := keep_op s.W o'
        obtain ⟨p1, p2⟩ := (wf2 o' h1).op
        rw [← h2]; exact ⟨by rw [k1]; exact p1, by rw [k0, k1]; exact p2⟩
      have mkRO : ∀ {x a : Nat} {os : List (Nat → Int32)}, RS σ1 x a 4 → jI σ2 256 x = jI σ1 256 x → RC σ2 x a os → os.length ≤ 4 → 81 ≤ x → 81 ≤ a → RO σ4 x a 4 os := fun {x a os} h5 h6 h7 h8 h9 h10 => by
        have rs2 : RS σ2 x a 4 := RS.fr256 h5 f2 h6
        have ro2 : RO σ2 x a 4 os := ⟨⟨rs2.1, rs2.2.1, rs2.2.2.1, rs2.2.2.2.1, rs2.2.2.2.2.1, h7.1, h8, by decide⟩, h7⟩
        exact (ro2.frame F3 (by simp; omega) (by simp; omega)).frame F4 (by simp; omega) (by simp; omega)
      have ro1 : RO σ4 (q + 1) (q + 2) 4 (o1.map (keepF s.W)) := mkRO rs1 (g2 256 (by decide)).1 rc1 (by rw [List.length_map]; exact l14) (by omega) (by omega)
      have ro2 : RO σ4 (q + 3) (q + 4) 4 (o2.map (keepF s.W)) := mkRO rs3 (g2 256 (by decide)).2 rc2 (by rw [List.length_map]; exact l24) (by omega) (by omega)
      have hU4 : RU σ4 q (q + 1) (q + 2) (q + 3) (q + 4) (q + 5) (q + 6) := ((hU.frame f2).frame F3).frame F4
      have Iq : ∀ g, jI σ4 g q = jI σ2 g q := fun g => by rw [(F4.2 q (by simp; omega)).1, (F3.2 q (by simp; omega)).1]
      obtain ⟨σ5, e5, F5, g5, h30, h26, ht5, h27⟩ := c49 (d := d + 3) (W := s.W) hU4 ro1 ro2 op1 op2 n4 m3 (by rw [Iq]; exact r24) (by rw [Iq]; exact r25)
      have ehc : ((o1.map (keepF s.W)).any celO || (o2.map (keepF s.W)).any celO) = hcO o1 o2 := by rw [any_keep, any_keep]; rfl
      rw [ehc] at e5 h30 h26 ht5 h27
      obtain ⟨pp1, pp2, pp3⟩ := rd0.pb hs.w
      have e5' : jx (d + 7) 49 0 [some (.ref q), some (.int (nI s.W)), none, none, none, none, none] [] σ4 = some (some (.long (Int64.ofNat (PA s.W rs.length ms.length o1 o2))), σ5) := by rw [← pp3]; exact e5
      have hS5 := F5.sh hS4
      have hC5 : CX (sLen0 s) cr' cp qr' qp σ5 := by
        obtain ⟨b1, y1⟩ := hC4.w1
        obtain ⟨b2, y2⟩ := hC4.w2
        exact hC4.freeR (s := sLen0 s) hc F5 (fun x hx => by show (qr' s.rs.length ≤ x ∧ x < qr' s.rs.length + 7) ∨ _; rw [eq]; simp at hx; omega) (by show jI σ5 256 (qr' s.rs.length + 1) = jI σ4 256 (qr' s.rs.length + 1); rw [eq, (F5.2 _ (by simp)).1]) (by show jI σ5 256 (qr' s.rs.length + 3) = jI σ4 256 (qr' s.rs.length + 3); rw [eq, (F5.2 _ (by simp)).1]) ⟨b1, y1.frame F5 (by simp; omega)⟩ ⟨b2, y2.frame F5 (by simp; omega)⟩
      have sm5 := sm4.trans (smf F5 (fun x hx => by simp at hx; omega))
      have lo5 := lo4.trans (F5.low (fun x hx => by simp at hx; omega))
      have nx5 : jnx σ5 = jnx σ1 := by rw [F5.1.2.2.2.2.1, nx4]
      have sl5 : jsl σ5 = jsl σ1 := by rw [F5.1.2.2.2.2.2, sl4]
      have w4 : jI σ4 587 16 = nI s.W := hC4.w
      have i16 := (F5.2 16 (by simp; omega)).1
      have to63 : jx (d + 8) 17 0 [some (.ref 16), none] [] σ = if lg_cmp (Int64.ofNat (PA s.W rs.length ms.length o1 o2)) 70000 ≤ 0 then jx (d + 8) 17 75 [some (.ref 16), some (.ref q)] [] σ5 else jx (d + 8) 17 70 [some (.ref 16), some (.ref q)] [] σ5 := by
        rw [to4, if_neg (fun w => w r20), k17_55 (sT_16 hS4) hU4.1, w4, e5']
        simp only [Option.bind_some, Option.toList_some, List.cons_append, List.nil_append]
        rw [k17_63]
      by_cases hP : PA s.W rs.length ms.length o1 o2 ≤ 70000
      · have hk : ruK s rg0 = some (mkA s.W rs.length ms.length o1 o2) := by unfold ruK; rw [hM]; exact if_pos hP
        have lc : lg_cmp (Int64.ofNat (PA s.W rs.length ms.length o1 o2)) 70000 ≤ 0 := by rw [lgle, of64_lt pp2]; omega
        have e7 : jI σ5 327 q = nI (PA s.W rs.length ms.length o1 o2) := by
          have z : ¬ (70001 : Int64) < Int64.ofNat (PA s.W rs.length ms.length o1 o2) := by
            rw [Int64.lt_iff_toInt_lt, Int64.toInt_ofNat_of_lt (by omega)]
            have : (70001 : Int64).toInt = 70001 := rfl
            omega
          have h27' : jI σ5 327 q = Int64.toInt32 (if (70001 : Int64) < prL (tpA s.W rs.length o1 o2) (nAA rs.length ms.length o1 o2) then 70001 else prL (tpA s.W rs.length o1 o2) (nAA rs.length ms.length o1 o2)) := h27
          rw [h27', pp3, if_neg z, of64_32 (by omega)]
        have I5 : ∀ g, g ≠ 330 → g ≠ 326 → g ≠ 327 → g ≠ 324 → g ≠ 325 → jI σ5 g q = jI σ1 g q := fun g h1 h3 h4 h5 h6 => by rw [g5 g h1 h3 h4, Iq, h2 g h5 h6]
        have hU5 := hU4.frame F5
        have CR5 : CR σ5 s.W q (q + 1) (q + 2) (q + 3) (q + 4) (q + 5) (q + 6) rs.length ms.length (hcO o1 o2) o1 o2 (tpA s.W rs.length o1 o2) := ⟨hU5, fun x hx => by simp at hx; omega, ro1.frame F5 (by simp) (by simp), ro2.frame F5 (by simp) (by simp), by rw [g5 324 (by decide) (by decide) (by decide), Iq]; exact r24, by rw [g5 325 (by decide) (by decide) (by decide), Iq]; exact r25, h26, h30, ht5⟩
        obtain ⟨b1, y1⟩ := hC5.w1
        obtain ⟨b2, y2⟩ := hC5.w2
        obtain ⟨σ6, e6, F6, g6, h28, h31, b3, b4, y3, y4⟩ := c56 (d := d + 2) hs.w hS5 hC5.st CR5 n4 m3 wf1 wf2 y1 y2 e7 (by omega) (rd0.vb hs.w)
        have hS6 := F6.sh hS5
        have trb : ∀ x : Nat, x ∈ trL q (q + 6) → (x = q ∨ x = q + 6) ∨ x ∈ [29, 30, 31, 32, 33, 35, 36, 37] := fun x hx => by
          unfold trL at hx
          rcases List.mem_cons.mp hx with h | h
          · exact Or.inl (Or.inl h)
          · rcases List.mem_cons.mp h with h | h
            · exact Or.inl (Or.inr h)
            · exact Or.inr h
        have tr29 : ∀ x : Nat, x ∈ [29, 30, 31, 32, 33, 35, 36, 37] → 29 ≤ x ∧ x ≤ 37 := by decide
        have hC6 : CX (sLen0 s) cr' cp qr' qp σ6 := hC5.freeR (s := sLen0 s) hc F6 (fun x hx => by
          show (qr' s.rs.length ≤ x ∧ x < qr' s.rs.length + 7) ∨ _
          rw [eq]
          rcases trb x hx with w | w
          · left; omega
          · exact Or.inr (Or.inr w)) (by show jI σ6 256 (qr' s.rs.length + 1) = jI σ5 256 (qr' s.rs.length + 1); rw [eq, (F6.2 (q + 1) (fun z => by rcases trb _ z with w | w; omega; have := tr29 _ w; omega)).1]) (by show jI σ6 256 (qr' s.rs.length + 3) = jI σ5 256 (qr' s.rs.length + 3); rw [eq, (F6.2 (q + 3) (fun z => by rcases trb _ z with w | w; omega; have := tr29 _ w; omega)).1]) ⟨b3, y3⟩ ⟨b4, y4⟩
        have sm6 := sm5.trans (smf F6 (fun x hx => by
          rcases trb x hx with w | w
          · omega
          · have := tr29 x w; omega))
        have lo6 := lo5.trans (F6.low (fun x hx => by
          rcases trb x hx with w | w
          · omega
          · have := tr29 x w; omega))
        have nx6 : jnx σ6 = jnx σ1 := by rw [F6.1.2.2.2.2.1, nx5]
        have sl6 : jsl σ6 = jsl σ1 := by rw [F6.1.2.2.2.2.2, sl5]
        have CR6 : CR σ6 s.W q (q + 1) (q + 2) (q + 3) (q + 4) (q + 5) (q + 6) rs.length ms.length (hcO o1 o2) o1 o2 (tpA s.W rs.length o1 o2) := CR5.frame F6 (trL_out (by simp) (fun x hx => by simp at hx; omega)) g6
        have crr : CRr σ6 s.W q (mkA s.W rs.length ms.length o1 o2) := by
          refine ⟨⟨_, CR6⟩, by rw [g6 327 (by decide) (by decide)]; exact e7, h28, ?_, ?_, ?_⟩
          · rw [g6 329 (by decide) (by decide), I5 329 (by decide) (by decide) (by decide) (by decide) (by decide), f29]; rfl
          · exact h31
          · rw [g6 332 (by decide) (by decide), I5 332 (by decide) (by decide) (by decide) (by decide) (by decide), f32]; rfl
        have F7 := i16FR (σ := σ6) 585 (nI (s.rs.length + 1))
        have nr6 : jI σ6 585 16 = nI s.rs.length := hC6.nr
        have w6 : jI σ5 587 16 = nI s.W := hC5.w
        refine ⟨jsI σ6 585 16 (nI (s.rs.length + 1)), nI s.rs.length, cr', qr', ?_, by rw [SH_I]; exact hS6, sm6.trans (smf F7 (by simp)), lo6.trans (F7.low (by simp)), by show _ ≤ jnx σ6; omega, by show jnx σ6 ≤ _; omega, by show jsl σ6 ≤ _; omega, ?_⟩
        · have q9 : (jR σ5 579 16).getD 0 = 27 := by rw [sR_579_16 hS5]; rfl
          have n9 : jR σ5 579 16 ≠ none := by rw [sR_579_16 hS5]; exact fun z => nomatch z
          rw [to63, if_pos lc, k17_75 (sT_16 hS5), i16, e588, if_pos r20, k17_93 (sT_16 hS5) n9 (by rw [q9]; exact sT_27 hS5), q9, w6, e6]
          simp only [Option.bind_some, Option.toList_none, List.nil_append]
          rw [k17_105 (sT_16 hS6), nr6, zI_I, if_pos ⟨rfl, rfl⟩, ← nI_succ, show (1 : Int32) = nI 1 from rfl, nsub (by omega), Nat.add_sub_cancel]
        · rw [hk]
          refine hC6.fr F7 (by decide) (by rw [zI_I, if_pos ⟨rfl, rfl⟩, sRul_len]) (by rw [zI_I, if_neg (by decide)]; exact hC6.np) (by rw [zI_I, if_neg (by decide)]; exact hC6.w) (by rw [zI_I, if_neg (by decide)]; exact hC6.ap) rfl rfl rfl rfl (by rw [sRul_len]; omega) hC6.lp.1 (fun i hi => ?_) hC6.ps
          rw [sRul_len] at hi
          show CRr _ s.W _ ((s.rs ++ [mkA s.W rs.length ms.length o1 o2]).getD i ar0)
          rw [app_rs hi]
          by_cases e : i = s.rs.length
          · rw [if_pos e, e, eq]; exact crr
          · rw [if_neg e]; exact hC6.rs i (by show i < s.rs.length; omega)
      · have hk : ruK s rg0 = none := by unfold ruK; rw [hM]; exact if_neg hP
        have lc : ¬ lg_cmp (Int64.ofNat (PA s.W rs.length ms.length o1 o2)) 70000 ≤ 0 := by rw [lgle, of64_lt pp2]; omega
        have F6 := i16FR (σ := σ5) 588 5
        have hS6 : SH (jsI σ5 588 16 5) := by rw [SH_I]; exact hS5
        refine ⟨jsI σ5 588 16 5, (-10) - jI (jsI σ5 588 16 5) 193 17, cr', qr', ?_, hS6, sm5.trans (smf F6 (by simp)), lo5.trans (F6.low (by simp)), by show _ ≤ jnx σ5; omega, by show jnx σ5 ≤ _; omega, by show jsl σ5 ≤ _; omega, ?_⟩
        · rw [to63, if_neg lc, k17_70 (sT_16 hS5), if_neg (by rw [zI_I, if_pos ⟨rfl, rfl⟩]; decide), k17_82 (sT_16 hS6) (n6 hS6) (by rw [r6 hS6]; exact sT_17 hS6), r6 hS6]
        · rw [hk]
          exact hC5.fr F6 (by decide) (by rw [zI_I, if_neg (by decide)]; exact hC5.nr) (by rw [zI_I, if_neg (by decide)]; exact hC5.np) (by rw [zI_I, if_neg (by decide)]; exact hC5.w) (by rw [zI_I, if_neg (by decide)]; exact hC5.ap) rfl rfl rfl rfl hC5.lr.1 hC5.lp.1 hC5.rs hC5.ps
end RU2
end S_9p
section S_9q
/-! rule: the reference -/
section RU3
variable {d : Nat} {σ : jS} {s : AS} {cr cp : Nat} {qr qp : Nat → Nat}
theorem ref_rule {α : jS} (hS : SH α) (hx : 81 ≤ jnx α) (hs : WFs s) (hM : CM s α) (hn : s.rs.length < 24) {rg0 : Nat → Int32} (hrg : ∀ j, jA α 58 (3 * s.rs.length + j) = rg0 j) : ∃ β v, jx (d + 6) 127 0 [some (.ref 47), none, none, none] [] α = some (some (.int v), β) ∧ sameC α β ∧ SH β ∧ jnx β = jnx α ∧ jsl β = jsl α ∧ (match ruK s rg0 with | some a => CM (sRul s a) β | none => CM (sLen0 s) β) := by
  have ws : WFs (sLen0 s) := ⟨hs.w, Nat.zero_le _, fun i hi => absurd hi (Nat.not_lt_zero i), hs.r24, hs.p16, hs.fr, hs.fp, hs.n144⟩
  obtain ⟨n, en⟩ : ∃ n, s.rs.length = n := ⟨_, rfl⟩
  obtain ⟨τ, eτ⟩ : ∃ τ, jsI α 667 47 0 = τ := ⟨_, rfl⟩
  have hMτ : CM s τ := by
    rw [← eτ]
    exact hM.I47 (by rw [zI_I, if_neg (by decide)]; exact hM.nr) (by rw [zI_I, if_neg (by decide)]; exact hM.np) (by rw [zI_I, if_neg (by decide)]; exact hM.w) (by rw [zI_I, if_neg (by decide)]; exact hM.ap) (by rw [TM_I (by decide)]; exact hM.tm) (by rw [zI_I, if_neg (by decide)]; exact hM.ns) hM.tl hM.rs hM.ps
  have hSτ : SH τ := by rw [← eτ, SH_I]; exact hS
  have nxτ : jnx τ = jnx α := by rw [← eτ]; rfl
  have slτ : jsl τ = jsl α := by rw [← eτ]; rfl
  have hxτ : 81 ≤ jnx τ := by omega
  have z0τ : jI τ 667 47 = 0 := by rw [← eτ, zI_I, if_pos ⟨rfl, rfl⟩]
  have frg : (fun j => jA τ 58 (3 * n + j)) = rg0 := by
    funext j
    rw [← eτ, zI_A, ← en]; exact hrg j
  obtain ⟨β, e5, f5, nx5, sl5, r5⟩ := c128 (d := d) (W := s.W) (r := n) (by omega) τ hxτ hSτ hMτ.nv hMτ.tm z0τ hMτ.w
  rw [frg] at r5
  have hSβ := f5.sh hxτ hSτ
  have hMβ : CM s β := hMτ.ar hs (fun g a b c => f5.f47 hxτ ⟨a, b, c⟩) (fun a i h1 h2 hp => f5.ar hxτ (by omega) i hp (by omega)) (fun a i hp => by
    unfold RRg RG at hp
    unfold PSF
    rw [en]
    omega)
  have scβ : sameC α β := (eτ ▸ i47sc 667 0 : sameC α τ).trans (f5.sc (fun a i hp => by unfold RRg RG at hp; omega))
  have n24 : ¬ nI n = 24 := by rw [show (24 : Int32) = nI 24 from rfl, n31eq (by omega) (by decide)]; omega
  have nrα := hM.nr
  rw [en] at nrα
  have to25 : jx (d + 6) 127 0 [some (.ref 47), none, none, none] [] α = if ¬ (jI β 667 47 = 0) then jx (d + 6) 127 104 [some (.ref 47), none, none, none] [] β else jx (d + 6) 127 32 [some (.ref 47), none, none, none] [] β := by
    rw [k127_0 (sT_47 hS), nrα, if_pos n24, k127_12 (sT_47 hS), nrα, eτ, e5]
    simp only [Option.bind_some, Option.toList_none, List.nil_append]
    rw [k127_25 (sT_47 hSβ)]
  have M0 : ∀ {υ : jS}, CM s υ → CM (sLen0 s) (jsI υ 642 47 0) := fun {υ} h => h.I47 (by rw [zI_I, if_neg (by decide)]; exact h.nr) (by rw [zI_I, if_neg (by decide)]; exact h.np) (by rw [zI_I, if_neg (by decide)]; exact h.w) (by rw [zI_I, if_neg (by decide)]; exact h.ap) ⟨by rw [zI_I, if_pos ⟨rfl, rfl⟩]; rfl, Nat.zero_le _, fun i hi => absurd hi (Nat.not_lt_zero i)⟩ (by rw [zI_I, if_neg (by decide)]; exact h.ns) h.tl h.rs h.ps
  cases hR : mRule s.len s.b s.W rg0 with
  | none =>
    have hk : ruK s rg0 = none := by unfold ruK; rw [hR]
    rw [hR] at r5
    have r5 : ¬ jI β 667 47 = 0 := r5
    have pos : 0 < jI β 667 47 := by
      rcases f5.1 with q | q
      · rw [z0τ] at q; exact absurd q r5
      · exact q
    have hS6 : SH (jsI β 642 47 0) := by rw [SH_I]; exact hSβ
    refine ⟨jsI β 642 47 0, (-10) - jI (jsI β 642 47 0) 668 47, ?_, scβ.trans (i47sc 642 0), hS6, by show jnx β = _; omega, by show jsl β = _; omega, by rw [hk]; exact M0 hMβ⟩
    rw [to25, if_pos r5, k127_104 (sT_47 hSβ), if_neg (by rw [Int32.not_le]; exact pos), k127_116 (sT_47 hS6)]
  | some y =>
    obtain ⟨o1, o2, rs, ms, rg⟩ := y
    have rd := mRule_rd hs.w hR
    obtain ⟨_, _, _, _, topE, _, _⟩ := mRule_wf hs.w hR
    rw [hR] at r5
    obtain ⟨f0, s1, s2, l1, l2, hB, hCc, h59, mo1, mo2⟩ := r5
    have rd0 := rd
    obtain ⟨n4, m3, wf1, wf2, z4, _, _, _, oc⟩ := rd
    obtain ⟨pp1, pp2, pp3⟩ := rd0.pb hs.w
    have tpe : ∀ k, k < nAA rs.length ms.length o1 o2 → tpA s.W rs.length o1 o2 k = if k < wdN rs.length (hcO o1 o2) then mkW s.W else rg (k - wdN rs.length (hcO o1 o2)) := fun k hk => by
      unfold tpA tpF
      by_cases h : k < wdN rs.length (hcO o1 o2)
      · rw [if_pos h, if_pos h]
      · have hk' : k < wdN rs.length (hcO o1 o2) + ms.length := hk
        rw [if_neg h, if_neg h, foldT_keep hs.w m3 o1 (topI s.W) (topI s.W) wf1 z4 (fun _ _ => rfl) _ (by omega)]
        exact (topE _ (by omega)).symm
    have MRβ : MR β n rs.length ms.length (hcO o1 o2) o1 o2 rg := ⟨s1, s2, l1, l2, hB.2.2.2, hCc.2.2.2.1, h59, fun j hj => hCc.2.2.2.2 j (by omega), mo1, mo2⟩
    have nrβ := hMβ.nr
    rw [en] at nrβ
    have wle := wd_le (hc := hcO o1 o2) n4
    have N11 : nAA rs.length ms.length o1 o2 ≤ 11 := by unfold nAA; omega
    have c9' := c149 (d := d + 5) (nm := ms.length) hSβ (by omega : n < 24) MRβ.2.2.2.2.1 MRβ.2.2.2.2.2.1 MRβ.2.2.2.2.2.2.1
    have L : ∀ f i, i + f = nAA rs.length ms.length o1 o2 → jx (d + 6) 127 36 [some (.ref 47), some (.long (prL (tpA s.W rs.length o1 o2) i)), none, some (.int (nI i))] [] β = jx (d + 6) 127 67 [some (.ref 47), some (.long (Int64.ofNat (PA s.W rs.length ms.length o1 o2))), none, some (.int (nI (nAA rs.length ms.length o1 o2)))] [] β := by
      intro f
      induction f with
      | zero =>
        intro i hi
        have e : i = nAA rs.length ms.length o1 o2 := by omega
        subst e
        rw [k127_36 (sT_47 hSβ), nrβ, c9']
        simp only [Option.bind_some, Option.toList_some, List.cons_append, List.nil_append]
        have le : nI (wdN rs.length (hcO o1 o2) + ms.length) ≤ nI (nAA rs.length ms.length o1 o2) := nI_le (Nat.le_refl _) (by omega)
        rw [k127_45, if_pos le, pp3]
      | succ f ih =>
        intro i hi
        have hlt : i < wdN rs.length (hcO o1 o2) + ms.length := by unfold nAA at hi; omega
        have c0 := c150 (d := d + 5) (W := s.W) (nr := rs.length) (nm := ms.length) (hc := hcO o1 o2) (rg := rg) hSβ (by omega : n < 24) n4 m3 hMβ.w MRβ.2.2.2.2.1 MRβ.2.2.2.2.2.2.1 MRβ.2.2.2.2.2.2.2.1 hlt
        rw [← tpe i hlt] at c0
        rw [k127_36 (sT_47 hSβ), nrβ, c9']
        simp only [Option.bind_some, Option.toList_some, List.cons_append, List.nil_append]
        rw [k127_45, if_neg (nI_ge (by omega) (by omega)), k127_48 (sT_47 hSβ), nrβ, c0]
        simp only [Option.bind_some, Option.toList_some, List.cons_append, List.nil_append]
        rw [k127_58, ← nI_succ]
        exact ih (i + 1) (by omega)
    have to67 : jx (d + 6) 127 0 [some (.ref 47), none, none, none] [] α = jx (d + 6) 127 67 [some (.ref 47), some (.long (Int64.ofNat (PA s.W rs.length ms.length o1 o2))), none, some (.int (nI (nAA rs.length ms.length o1 o2)))] [] β := by
      rw [to25, if_neg (fun z => z f0), k127_32]
      exact L (nAA rs.length ms.length o1 o2) 0 (Nat.zero_add _)
    have R : ∀ {υ : jS} {g a : Nat}, jR υ g 47 = some a → (jR υ g 47).getD 0 = a ∧ jR υ g 47 ≠ none := fun h => by rw [h]; exact ⟨rfl, fun z => nomatch z⟩
    have gn : jin 24 (nI n) := jin_n (by omega) (by decide)
    have cn : (nI n).toNatClampNeg = n := nI_clamp (by omega)
    by_cases hP : PA s.W rs.length ms.length o1 o2 ≤ 70000
    · have hk : ruK s rg0 = some (mkA s.W rs.length ms.length o1 o2) := by unfold ruK; rw [hR]; exact if_pos hP
      have lc : lg_cmp (Int64.ofNat (PA s.W rs.length ms.length o1 o2)) 70000 ≤ 0 := by rw [lgle, of64_lt pp2]; omega
      have t5 := R (sR_655_47 hSβ)
      obtain ⟨β3, e3⟩ : ∃ β3, jsI (jsA β 60 n (nI (PA s.W rs.length ms.length o1 o2))) 642 47 0 = β3 := ⟨_, rfl⟩
      have F3 : FR [47, 60] β β3 := e3 ▸ ((FR.refl _ β).A (by decide)).I (by decide)
      have hS3 := F3.sh hSβ
      have hM2 : CM s (jsA β 60 n (nI (PA s.W rs.length ms.length o1 o2))) := hMβ.ar hs (P := fun a i => a = 60 ∧ i = n) (fun g _ _ _ => by rw [zA_I]) (fun a i _ _ hp => by rw [zA_A, if_neg hp]) (fun a i hp => by unfold PSF; rw [en]; omega)
      have hM3 : CM (sLen0 s) β3 := e3 ▸ M0 hM2
      have MR3 := MRβ.frame F3 (fun a h1 h2 => by simp; omega)
      have e60 : jA β3 60 n = nI (PA s.W rs.length ms.length o1 o2) := by rw [← e3, zI_A, zA_A, if_pos ⟨rfl, rfl⟩]
      obtain ⟨β4, e4, F4, o61, e61⟩ := c151 (d := d) (tp := tpA s.W rs.length o1 o2) hS3 hs.w hM3.w (by omega : n < 24) n4 m3 MR3 wf1 wf2 e60 (by omega) tpe (rd0.vb hs.w)
      have hS4 := F4.sh hS3
      have hM4 : CM (sLen0 s) β4 := hM3.ar ws (P := fun a i => a = 49 ∨ a = 62 ∨ a = 73 ∨ a = 74 ∨ (a = 61 ∧ i = n)) (fun g _ _ _ => (F4.2 47 (by decide)).1 g) (fun a i h1 h2 hp => by
        by_cases q : a = 61
        · subst q; exact o61 i (fun z => hp (by omega))
        · exact (F4.2 a (by simp; omega)).2 i) (fun a i hp => by
        unfold PSF
        have : (sLen0 s).rs.length = n := en
        rw [this]
        omega)
      obtain ⟨β5, e5'⟩ : ∃ β5, jsA (jsA β4 63 n 1) 64 n 0 = β5 := ⟨_, rfl⟩
      have F5 : FR [63, 64] β4 β5 := e5' ▸ ((FR.refl _ β4).A (by decide)).A (by decide)
      have hS5 := F5.sh hS4
      have hM5 : CM (sLen0 s) β5 := hM4.ar ws (P := fun a i => (a = 63 ∨ a = 64) ∧ i = n) (fun g _ _ _ => (F5.2 47 (by decide)).1 g) (fun a i h1 h2 hp => by rw [← e5', zA_A, if_neg (fun z => hp ⟨Or.inr z.1, z.2⟩), zA_A, if_neg (fun z => hp ⟨Or.inl z.1, z.2⟩)]) (fun a i hp => by
        unfold PSF
        have : (sLen0 s).rs.length = n := en
        rw [this]
        omega)
      have mrr : MRr β5 n (mkA s.W rs.length ms.length o1 o2) := by
        refine ⟨⟨rg, (MR3.frame F4 (fun a h1 h2 => by simp; omega)).frame F5 (fun a h1 h2 => by simp; omega)⟩, ?_, ?_, ?_, ?_⟩
        · rw [(F5.2 60 (by decide)).2, (F4.2 60 (by decide)).2]; exact e60
        · rw [(F5.2 61 (by decide)).2]; exact e61
        · rw [← e5', zA_A, if_neg (fun z => absurd z.1 (by decide)), zA_A, if_pos ⟨rfl, rfl⟩]; rfl
        · rw [← e5', zA_A, if_pos ⟨rfl, rfl⟩]; rfl
      have nr4 : jI β4 644 47 = nI n := by have := hM4.nr; rw [this]; exact congrArg nI en
      have nr3 : jI β3 644 47 = nI n := by have := hM3.nr; rw [this]; exact congrArg nI en
      have t58 := R (sR_658_47 hS4)
      have t59 := R (sR_659_47 hS4)
      have sc6 : sameC α (jsI β5 644 47 (nI (n + 1))) := (((scβ.trans (F3.sc (fun a ha => by simp at ha; omega))).trans (F4.sc (fun a ha => by simp at ha; omega))).trans (F5.sc (fun a ha => by simp at ha; omega))).trans (i47sc 644 _)
      refine ⟨jsI β5 644 47 (nI (n + 1)), nI n, ?_, sc6, by rw [SH_I]; exact hS5, ?_, ?_, ?_⟩
      · have v1 : Int64.toInt32 (Int64.ofNat (PA s.W rs.length ms.length o1 o2)) = nI (PA s.W rs.length ms.length o1 o2) := of64_32 (by omega)
        rw [to67, k127_67, if_pos lc, k127_81 (sT_47 hSβ) t5.2, if_pos lc, t5.1, nrβ, k127_101 (sT_60 hSβ) (by rw [sN_60 hSβ]; exact gn) (sT_47 hSβ), f0, if_pos (by decide), cn, v1, e3, k127_124 (sT_47 hS3), nr3, e4]
        simp only [Option.bind_some, Option.toList_none, List.nil_append]
        rw [k127_132N (sT_47 hS4) t58.2 (by rw [t58.1]; exact sT_63 hS4) (by rw [t58.1, sN_63 hS4, nr4]; exact gn) t59.2 (by rw [t59.1]; exact sT_64 hS4) (by rw [t59.1, sN_64 hS4, nr4]; exact gn), t58.1, t59.1, nr4, cn, show ((1 : Int32) &&& 1) = 1 from rfl, e5', zI_I, if_pos ⟨rfl, rfl⟩, ← nI_succ, show (1 : Int32) = nI 1 from rfl, nsub (by omega), Nat.add_sub_cancel]
      · show jnx β5 = _
        rw [F5.1.2.2.2.2.1, F4.1.2.2.2.2.1, F3.1.2.2.2.2.1, nx5, nxτ]
      · show jsl β5 = _
        rw [F5.1.2.2.2.2.2, F4.1.2.2.2.2.2, F3.1.2.2.2.2.2, sl5, slτ]
      · rw [hk]
        refine hM5.I47 (by rw [zI_I, if_pos ⟨rfl, rfl⟩, sRul_len, en]) (by rw [zI_I, if_neg (by decide)]; exact hM5.np) (by rw [zI_I, if_neg (by decide)]; exact hM5.w) (by rw [zI_I, if_neg (by decide)]; exact hM5.ap) (by rw [TM_I (by decide)]; exact hM5.tm) (by rw [zI_I, if_neg (by decide)]; exact hM5.ns) hM5.tl (fun i hi => ?_) hM5.ps
        rw [sRul_len] at hi
        show MRr _ _ ((s.rs ++ [mkA s.W rs.length ms.length o1 o2]).getD i ar0)
        rw [app_rs hi]
        by_cases e : i = s.rs.length
        · rw [if_pos e, e, en]; exact mrr
        · rw [if_neg e]; exact hM5.rs i (by show i < s.rs.length; omega)
    · have hk : ruK s rg0 = none := by unfold ruK; rw [hR]; exact if_neg hP
      have lc : ¬ lg_cmp (Int64.ofNat (PA s.W rs.length ms.length o1 o2)) 70000 ≤ 0 := by rw [lgle, of64_lt pp2]; omega
      obtain ⟨β2, e2⟩ : ∃ β2, jsI (jsI β 667 47 5) 668 47 0 = β2 := ⟨_, rfl⟩
      have hS2 : SH β2 := by rw [← e2, SH_I, SH_I]; exact hSβ
      have t5 := R (sR_655_47 hS2)
      have I2 : ∀ g, g ≠ 667 → g ≠ 668 → jI β2 g 47 = jI β g 47 := fun g h1 h2 => by rw [← e2, zI_I, if_neg (fun z => h2 z.1), zI_I, if_neg (fun z => h1 z.1)]
      have f2 : jI β2 667 47 = 5 := by rw [← e2, zI_I, if_neg (by decide), zI_I, if_pos ⟨rfl, rfl⟩]
      have hM2 : CM s β2 := hMβ.ar hs (P := fun _ _ => False) (fun g _ h1 h2 => I2 g h1 h2) (fun a i _ _ _ => by rw [← e2, zI_A, zI_A]) (fun a i hp => hp.elim)
      obtain ⟨β3, e3⟩ : ∃ β3, jsA β2 60 n (Int64.toInt32 0) = β3 := ⟨_, rfl⟩
      have F3 : FR [60] β2 β3 := e3 ▸ (FR.refl _ β2).A (by decide)
      have hM3 : CM s β3 := hM2.ar hs (P := fun a i => a = 60 ∧ i = n) (fun g _ _ _ => (F3.2 47 (by decide)).1 g) (fun a i _ _ hp => by rw [← e3, zA_A, if_neg hp]) (fun a i hp => by unfold PSF; rw [en]; omega)
      have nr2 : jI β2 644 47 = nI n := by rw [I2 644 (by decide) (by decide)]; exact nrβ
      have hS4 : SH (jsI β3 642 47 0) := by rw [SH_I]; exact F3.sh hS2
      have sc2 : sameC β β2 := e2 ▸ (i47sc 667 5).trans (i47sc 668 0)
      refine ⟨jsI β3 642 47 0, (-10) - jI (jsI β3 642 47 0) 668 47, ?_, ((scβ.trans sc2).trans (F3.sc (fun a ha => by simp at ha; omega))).trans (i47sc 642 0), hS4, ?_, ?_, by rw [hk]; exact M0 hM3⟩
      · rw [to67, k127_67, if_neg lc, k127_75 (sT_47 hSβ), c136 hSβ f0, e2]
        simp only [Option.bind_some, Option.toList_none, List.nil_append]
        rw [k127_81 (sT_47 hS2) t5.2, if_neg lc, t5.1, nr2, k127_97 (sT_60 hS2) (by rw [sN_60 hS2]; exact gn) (sT_47 hS2), f2, if_neg (by decide), cn, e3, k127_116 (sT_47 hS4)]
      · show jnx β3 = _
        rw [F3.1.2.2.2.2.1, ← e2]
        show jnx β = _
        omega
      · show jsl β3 = _
        rw [F3.1.2.2.2.2.2, ← e2]
        show jsl β = _
        omega
end RU3
end S_9q
section S_9r
/-! rule: both -/
theorem mkA_wf {W nr nm : Nat} {o1 o2 : List (Nat → Int32)} (hW : W = 1 ∨ W = 2 ∨ W = 3) (h : RDd nr nm o1 o2) (hP : PA W nr nm o1 o2 ≤ 70000) : WFr (mkA W nr nm o1 o2) := by
  have b := h.pb hW
  obtain ⟨n4, m3, wf1, wf2, z4, l1, l14, l24, oc⟩ := h
  exact ⟨n4, m3, wf1, wf2, z4, l1, l14, l24, b.1, hP, cntL_le _ _ _ _, oc⟩
section RU4
variable {d : Nat} {σ : jS} {s : AS} {cr cp : Nat} {qr qp : Nat → Nat}
theorem ruK_wf {rg0 : Nat → Int32} {a : AR} (hs : WFs s) (h : ruK s rg0 = some a) : WFr a := by
  unfold ruK at h
  cases hM : mRule s.len s.b s.W rg0 with
  | none => rw [hM] at h; cases h
  | some y =>
    obtain ⟨o1, o2, rs, ms, rg⟩ := y
    rw [hM] at h
    have h : (if PA s.W rs.length ms.length o1 o2 ≤ 70000 then some (mkA s.W rs.length ms.length o1 o2) else none) = some a := h
    split at h
    · rename_i hP
      cases h
      exact mkA_wf hs.w (mRule_rd hs.w hM) hP
    · cases h
theorem sim_rule (hR : REL s cr cp qr qp σ) : SimR (d + 8) 17 127 [none] [none, none, none] false σ := by
  have hR0 := hR
  obtain ⟨hS, hx, hs, hC, hM⟩ := hR
  have hl := hs.r24
  by_cases hn : s.rs.length < 24
  · obtain ⟨σ1, a, cr', qr', e1, hS1, sm1, lo1, nx1, nx1', sl1, r1⟩ := cls_rule (d := d) hS hx hs hC hn (fun j => jA σ 58 (3 * s.rs.length + j))
    have hM1 := hM.sm sm1
    obtain ⟨σ2, a', e2, sc2, hS2, nx2, sl2, r2⟩ := ref_rule (d := d + 2) hS1 (by omega) hs hM1 hn (rg0 := fun j => jA σ 58 (3 * s.rs.length + j)) (fun j => sm1.2 58 _ (by decide) (by decide))
    have fin : ∀ s', WFs s' → CX s' cr' cp qr' qp σ1 → CM s' σ2 → SimR (d + 8) 17 127 [none] [none, none, none] false σ := fun s' w c m => ⟨a, a', σ1, σ2, s', cr', cp, qr', qp, e1, e2, ⟨hS2, by have := sc2.1; omega, w, CX.sc (by omega) c sc2, m⟩, by omega, by omega, lo1.trans (sc2.low (by omega)), fun z => absurd z (by decide)⟩
    cases hk : ruK s (fun j => jA σ 58 (3 * s.rs.length + j)) with
    | none =>
      rw [hk] at r1 r2
      exact fin (sLen0 s) ⟨hs.w, Nat.zero_le _, fun i hi => absurd hi (Nat.not_lt_zero i), hs.r24, hs.p16, hs.fr, hs.fp, hs.n144⟩ r1 r2
    | some z =>
      rw [hk] at r1 r2
      refine fin (sRul s z) ⟨hs.w, Nat.zero_le _, fun i hi => absurd hi (Nat.not_lt_zero i), by rw [sRul_len]; omega, hs.p16, fun b hb => ?_, hs.fp, hs.n144⟩ r1 r2
      rcases List.mem_append.mp hb with q | q
      · exact hs.fr b q
      · rw [List.mem_singleton] at q
        rw [q]
        exact ruK_wf hs hk
  · have e24 : s.rs.length = 24 := by omega
    refine SimR.read hR0 (a := -3) (a' := -3) ?_ ?_ (fun _ => rfl)
    · have lt : ¬ nI s.rs.length < (24 : Int32) := by rw [e24]; decide
      rw [k17_0 (sT_16 hS), hC.nr, if_neg lt, k17_9]
    · have q : nI s.rs.length = 24 := by rw [e24]; rfl
      rw [k127_0 (sT_47 hS), hM.nr, if_neg (fun z => z q), k127_9]
end RU4
end S_9r
section S_9s
/-! what stands stays; the start -/
section KEEP
variable {σ : jS} {n : Nat} {L : jL} {st : List Value}
def jKp (σ σ' : jS) : Prop := jnx σ ≤ jnx σ' ∧ ∀ a, a < jnx σ → jT σ' a = jT σ a ∧ jN σ' a = jN σ a ∧ (jT σ a = 60 → ∀ i, jA σ' a i = jA σ a i)
theorem jKp.refl (σ : jS) : jKp σ σ := ⟨Nat.le_refl _, fun _ _ => ⟨rfl, rfl, fun _ _ => rfl⟩⟩
theorem jKp.trans {σ τ υ : jS} (h : jKp σ τ) (k : jKp τ υ) : jKp σ υ := ⟨Nat.le_trans h.1 k.1, fun a ha => by
  have x := h.2 a ha
  have y := k.2 a (Nat.lt_of_lt_of_le ha h.1)
  exact ⟨y.1.trans x.1, y.2.1.trans x.2.1, fun z i => (y.2.2 (x.1.trans z) i).trans (x.2.2 z i)⟩⟩
theorem jKp_I {g a : Nat} {v : Int32} : jKp σ (jsI σ g a v) := ⟨Nat.le_refl _, fun _ _ => ⟨rfl, rfl, fun _ _ => rfl⟩⟩
theorem jKp_R {g a : Nat} {v : Option Nat} : jKp σ (jsR σ g a v) := ⟨Nat.le_refl _, fun _ _ => ⟨rfl, rfl, fun _ _ => rfl⟩⟩
theorem jKp_G {a i : Nat} {v : Option Nat} : jKp σ (jsG σ a i v) := ⟨Nat.le_refl _, fun _ _ => ⟨rfl, rfl, fun _ _ => rfl⟩⟩
theorem jKp_A {a i : Nat} {v : Int32} (h : jT σ a ≠ 60) : jKp σ (jsA σ a i v) := ⟨Nat.le_refl _, fun b _ => ⟨rfl, rfl, fun hb j => by
  show (if b = a ∧ j = i then v else jA σ b j) = _
  have hn : ¬ (b = a ∧ j = i) := fun z => h (z.1 ▸ hb)
  rw [if_neg hn]⟩⟩
theorem jKp_cp {p sp q dp x : Nat} (h : jT σ q ≠ 60) : jKp σ (jcp σ p sp q dp x) := ⟨Nat.le_refl _, fun b _ => ⟨rfl, rfl, fun hb j => by
  show (if b = q then va_cpy (jA σ p) (jA σ q) sp dp x j else jA σ b j) = _
  have hn : ¬ b = q := fun z => h (z ▸ hb)
  rw [if_neg hn]⟩⟩
theorem jKp_nO {c k : Nat} : jKp σ (jnO σ c k) := ⟨Nat.le_succ _, fun b hb => ⟨by
  show (if b = jnx σ then 1 + c else jT σ b) = _
  rw [if_neg (Nat.ne_of_lt hb)], rfl, fun _ _ => rfl⟩⟩
theorem jKp_nA {c k : Nat} : jKp σ (jnA σ c k) := ⟨Nat.le_succ _, fun b hb => ⟨by
  show (if b = jnx σ then 20 + c else jT σ b) = _
  rw [if_neg (Nat.ne_of_lt hb)], by
  show (if b = jnx σ then k else jN σ b) = _
  rw [if_neg (Nat.ne_of_lt hb)], fun _ j => by
  show (if b = jnx σ then 0 else jA σ b j) = _
  rw [if_neg (Nat.ne_of_lt hb)]⟩⟩
theorem jKp_nG {c k : Nat} : jKp σ (jnG σ c k) := ⟨Nat.le_succ _, fun b hb => ⟨by
  show (if b = jnx σ then 30 + c else jT σ b) = _
  rw [if_neg (Nat.ne_of_lt hb)], by
  show (if b = jnx σ then k else jN σ b) = _
  rw [if_neg (Nat.ne_of_lt hb)], fun _ _ => rfl⟩⟩
theorem jput_k {a : Nat} {q : Nat × jL × List Value × jS} (h : jput n a L st σ = some (.inl q)) : jKp σ q.2.2.2 := by
  unfold jput at h
  repeat' (split at h)
  all_goals first | (simp only [jgo] at h; cases h; first | exact jKp_I | exact jKp_R) | cases h
theorem jcmd2_k {d op a b : Nat} {k : Int} (h25 : ¬ op < 25) (hop : op < 38) {q : Nat × jL × List Value × jS} (h : jcmd2 d op a b k n L st σ = some (.inl q)) : jKp σ q.2.2.2 := by
  rcases jop38 h25 hop with rfl | rfl | rfl | rfl | rfl | rfl | rfl | rfl | rfl | rfl | rfl | rfl | rfl <;> simp (decide := true) only [jcmd2, reduceIte, jgo] at h
  · (repeat' (split at h)) <;> first | (cases h; exact jKp.refl _) | cases h
  · exact jput_k h
  · exact jput_k h
  all_goals (repeat' (split at h)) <;> first | (cases h; exact jKp.refl _) | (cases h; exact jKp_nO) | (cases h; exact jKp_nA) | (cases h; exact jKp_nG) | (cases h; exact jKp_G) | (cases h; exact jKp_A (by omega)) | cases h
theorem jcmd4_k {d op a b : Nat} {k : Int} (h52 : ¬ op < 52) {q : Nat × jL × List Value × jS} (h : jcmd4 d op a b k n L st σ = some (.inl q)) : jKp σ q.2.2.2 := by
  rcases jop64 h52 with rfl | rfl | rfl | rfl | rfl | rfl | rfl | rfl | rfl | rfl | rfl | rfl | h63
  case inr.inr.inr.inr.inr.inr.inr.inr.inr.inr.inr.inr => rw [jcmd4_big h63] at h; cases h
  all_goals simp (decide := true) only [jcmd4, reduceIte, jgo] at h
  all_goals (repeat' (split at h)) <;> first | (cases h; exact jKp.refl _) | exact (jcall_m h).elim | (cases h; exact jKp_cp (by omega)) | cases h
theorem jcmd_k {d : Nat} {x : jE} {q : Nat × jL × List Value × jS} (h : jcmd d x L st σ = some (.inl q)) : jKp σ q.2.2.2 := by
  unfold jcmd at h
  split at h
  · rename_i h25
    rw [jcmd1_m h25 h]; exact jKp.refl _
  · rename_i h25
    split at h
    · rename_i h38
      exact jcmd2_k h25 h38 h
    · rename_i h38
      split at h
      · rw [jcmd3_m h38 h]; exact jKp.refl _
      · rename_i h52
        exact jcmd4_k h52 h
end KEEP
theorem jrn_k (f : Nat) : ∀ (d M pc : Nat) (L : jL) (st : List Value) (σ : jS) (r : Option Value × jS), jrn f d M pc L st σ = some r → jKp σ r.2 := by
  induction f with
  | zero => intro d M pc L st σ r h; cases h
  | succ f ih =>
    intro d M pc L st σ r h
    rw [jrn_s] at h
    rcases hc : jcmd d (jcode M pc) L st σ with _ | q | v | q
    · rw [hc] at h; cases h
    · rw [hc] at h
      exact (jcmd_k hc).trans (ih _ _ _ _ _ _ _ h)
    · rw [hc] at h
      cases h
      exact jKp.refl _
    · rw [hc] at h
      cases d with
      | zero => cases h
      | succ d =>
        obtain ⟨z, h1, h2⟩ := Option.bind_eq_some_iff.mp h
        exact (ih _ _ _ _ _ _ _ h1).trans (ih _ _ _ _ _ _ _ h2)
theorem jx_k {d M pc : Nat} {L : jL} {st : List Value} {σ : jS} {r : Option Value × jS} (h : jx d M pc L st σ = some r) : jKp σ r.2 := by
  obtain ⟨f, hf⟩ := jx_iff.mp h
  exact jrn_k f _ _ _ _ _ _ _ hf
end S_9s
