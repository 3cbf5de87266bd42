/-! same: whole -/
section SMD
variable {d : Nat} {σ : jS} {s : AS} {cr cp : Nat} {qr qp : Nat → Nat}
theorem c114 (hS : SH σ) (hs : WFs s) (hC : CX s cr cp qr qp σ) (hW : s.W = 1 ∨ s.W = 2) {p q : Nat} (hp : p < s.ps.length) (hq : q < s.ps.length) : ∃ σ' N, FR [26] σ σ' ∧ MSK s.W (nI N) ∧ N < 2 ^ (8 * s.W) ∧ (∀ o, o ∈ s.ps.getD p [] → ∀ i, i < 8 → nmd o i → isN s.W (nI N) i) ∧ (∀ o, o ∈ s.ps.getD q [] → ∀ i, i < 8 → nmd o i → isN s.W (nI N) i) ∧ ((∃ b, b ≤ N ∧ b &&& N = b ∧ ¬ outc s.W (s.ps.getD p []) b = outc s.W (s.ps.getD q []) b ∧ (∀ b', b' < b → b' &&& N = b' → outc s.W (s.ps.getD p []) b' = outc s.W (s.ps.getD q []) b') ∧ jx (d + 3) 114 0 [some (.ref 16), some (.ref (qp p)), some (.ref (qp q)), none, none] [] σ = some (some (.int (nI b)), σ')) ∨ ((∀ b', b' ≤ N → b' &&& N = b' → outc s.W (s.ps.getD p []) b' = outc s.W (s.ps.getD q []) b') ∧ jx (d + 3) 114 0 [some (.ref 16), some (.ref (qp p)), some (.ref (qp q)), none, none] [] σ = some (some (.int (-4)), σ'))) := by
  obtain ⟨A, eA⟩ : ∃ A, s.ps.getD p [] = A := ⟨_, rfl⟩
  obtain ⟨B, eB⟩ : ∃ B, s.ps.getD q [] = B := ⟨_, rfl⟩
  have fA := (hs.fp _ (mem_ps hp)).2
  have fB := (hs.fp _ (mem_ps hq)).2
  rw [eA] at fA
  rw [eB] at fB
  have rA := hC.ps p hp
  have rB := hC.ps q hq
  rw [eA] at rA
  rw [eB] at rB
  rw [eA, eB]
  obtain ⟨mA, -, nA⟩ := nmL_ok hW A 0 fA (msk0 hW)
  obtain ⟨mB, -, nB⟩ := nmL_ok hW B 0 fB (msk0 hW)
  have mN := mA.or hW mB
  obtain ⟨N, hN, eN⟩ := mN.1
  have p16 : 2 ^ (8 * s.W) ≤ 2 ^ 16 := Nat.pow_le_pow_right (by decide) (by omega)
  have hNA : ∀ o, o ∈ A → ∀ i, i < 8 → nmd o i → isN s.W (nI N) i := fun o ho i hi hn => by rw [← eN]; exact isN.l hW mA mB (nA o ho i hi hn)
  have hNB : ∀ o, o ∈ B → ∀ i, i < 8 → nmd o i → isN s.W (nI N) i := fun o ho i hi hn => by rw [← eN]; exact isN.r hW mA mB (nB o ho i hi hn)
  have r7 : ∀ {υ : jS}, SH υ → (jR υ 578 16).getD 0 = 25 := fun h => by rw [sR_578_16 h]; rfl
  have n7 : ∀ {υ : jS}, SH υ → jR υ 578 16 ≠ none := fun h => by rw [sR_578_16 h]; exact fun z => nomatch z
  have L : ∀ f n υ, n + f = N + 1 → FR [26] σ υ → (∀ b', b' < n → b' &&& N = b' → outc s.W A b' = outc s.W B b') → ∃ σ', FR [26] σ σ' ∧ ((∃ b, b ≤ N ∧ b &&& N = b ∧ ¬ outc s.W A b = outc s.W B b ∧ (∀ b', b' < b → b' &&& N = b' → outc s.W A b' = outc s.W B b') ∧ jx (d + 3) 114 21 [some (.ref 16), some (.ref (qp p)), some (.ref (qp q)), some (.int (nI N)), some (.int (nI n))] [] υ = some (some (.int (nI b)), σ')) ∨ ((∀ b', b' ≤ N → b' &&& N = b' → outc s.W A b' = outc s.W B b') ∧ jx (d + 3) 114 21 [some (.ref 16), some (.ref (qp p)), some (.ref (qp q)), some (.int (nI N)), some (.int (nI n))] [] υ = some (some (.int (-4)), σ'))) := by
    intro f
    induction f with
    | zero =>
      intro n υ hn F hb
      have e : n = N + 1 := by omega
      subst e
      refine ⟨υ, F, Or.inr ⟨fun b' h1 h2 => hb b' (by omega) h2, ?_⟩⟩
      rw [k114_21, if_pos (by rw [n31 (by omega) (by omega)]; omega), k114_76]
    | succ f ih =>
      intro n υ hn F hb
      have n1 : ¬ nI N < nI n := by rw [n31 (by omega) (by omega)]; omega
      have hSυ := F.sh hS
      have wυ : jI υ 587 16 = nI s.W := by rw [(F.2 16 (by decide)).1]; exact hC.w
      by_cases hm : n &&& N = n
      · have q0 : (nI n &&& (nI N ^^^ (-1))) = 0 := sub_msk.mpr (by rw [nIand (by omega) (by omega), hm])
        have hCυ : CX s cr cp qr qp υ := hC.scr F (by decide)
        obtain ⟨υ1, e1, F1⟩ := cls_out (d := d) hSυ hs hCυ hp (nI n)
        have hS1 := F1.sh hSυ
        have hC1 : CX s cr cp qr qp υ1 := hCυ.scr F1 (by decide)
        obtain ⟨υ2, e2, F2⟩ := cls_out (d := d) hS1 hs hC1 hq (nI n)
        rw [eA] at e1
        rw [eB] at e2
        have w1 : jI υ1 587 16 = nI s.W := hC1.w
        have step : jx (d + 3) 114 21 [some (.ref 16), some (.ref (qp p)), some (.ref (qp q)), some (.int (nI N)), some (.int (nI n))] [] υ = jx (d + 3) 114 64 [some (.ref 16), some (.ref (qp p)), some (.ref (qp q)), some (.int (nI N)), some (.int (nI n))] [.int (outc s.W B n), .int (outc s.W A n)] υ2 := by
          rw [k114_21, if_neg n1, k114_27, if_neg (fun z => z q0), k114_36 (sT_16 hSυ) (n7 hSυ) (by rw [r7 hSυ]; exact sT_25 hSυ), r7 hSυ, wυ, e1]
          simp only [Option.bind_some, Option.toList_some, List.cons_append, List.nil_append]
          rw [k114_50 (sT_16 hS1) (n7 hS1) (by rw [r7 hS1]; exact sT_25 hS1), r7 hS1, w1, e2]
          simp only [Option.bind_some, Option.toList_some, List.cons_append, List.nil_append]
          rfl
        have F3 := (F.trans F1).trans F2
        by_cases eq : outc s.W A n = outc s.W B n
        · obtain ⟨σ', G, r⟩ := ih (n + 1) υ2 (by omega) F3 (fun b' h1 h2 => by
            by_cases e : b' = n
            · rw [e]; exact eq
            · exact hb b' (by omega) h2)
          refine ⟨σ', G, ?_⟩
          rw [step, k114_64, if_pos eq, k114_70, ← nI_succ]
          exact r
        · refine ⟨υ2, F3, Or.inl ⟨n, by omega, hm, eq, hb, ?_⟩⟩
          rw [step, k114_64, if_neg eq, k114_67]
      · have q0 : ¬ (nI n &&& (nI N ^^^ (-1))) = 0 := fun z => hm (by
          have := sub_msk.mp z
          rw [nIand (by omega) (by omega)] at this
          have h2 : n &&& N ≤ n := Nat.and_le_left
          rw [n31eq (by omega) (by omega)] at this
          exact this)
        obtain ⟨σ', G, r⟩ := ih (n + 1) υ (by omega) F (fun b' h1 h2 => by
          by_cases e : b' = n
          · rw [e] at h2; exact absurd h2 hm
          · exact hb b' (by omega) h2)
        refine ⟨σ', G, ?_⟩
        rw [k114_21, if_neg n1, k114_27, if_pos q0, k114_70, ← nI_succ]
        exact r
  obtain ⟨σ', F', r⟩ := L (N + 1) 0 σ (by omega) (FR.refl _ σ) (fun b' h => absurd h (Nat.not_lt_zero b'))
  refine ⟨σ', N, F', by rw [← eN]; exact mN, hN, hNA, hNB, ?_⟩
  have st : jx (d + 3) 114 0 [some (.ref 16), some (.ref (qp p)), some (.ref (qp q)), none, none] [] σ = jx (d + 3) 114 21 [some (.ref 16), some (.ref (qp p)), some (.ref (qp q)), some (.int (nI N)), some (.int (nI 0))] [] σ := by
    have c1 := c115 (d := d) (W := s.W) rA hS hC.st fA
    have c2 := c115 (d := d) (W := s.W) rB hS hC.st fB
    rw [k114_0 (sT_16 hS) rA.1.1, hC.w, c1]
    simp only [Option.bind_some, Option.toList_some, List.cons_append, List.nil_append]
    rw [k114_8 (sT_16 hS) rB.1.1, hC.w, c2]
    simp only [Option.bind_some, Option.toList_some, List.cons_append, List.nil_append]
    rw [k114_16, eN]
    rfl
  rw [st]
  exact r
theorem ref_same (hS : SH σ) (hs : WFs s) (hM : CM s σ) (hW : s.W = 1 ∨ s.W = 2) {p q : Nat} (hp : p < s.ps.length) (hq : q < s.ps.length) : ∃ σ', FR [49] σ σ' ∧ ((∃ b, b < 2 ^ (8 * s.W) ∧ ¬ outc s.W (s.ps.getD p []) b = outc s.W (s.ps.getD q []) b ∧ (∀ b', b' < b → outc s.W (s.ps.getD p []) b' = outc s.W (s.ps.getD q []) b') ∧ jx (d + 2) 194 29 [some (.ref 47), some (.int (nI p)), some (.int (nI q)), none] [] σ = some (some (.int 0), jsI σ' 682 47 (nI b))) ∨ ((∀ b', b' < 2 ^ (8 * s.W) → outc s.W (s.ps.getD p []) b' = outc s.W (s.ps.getD q []) b') ∧ jx (d + 2) 194 29 [some (.ref 47), some (.int (nI p)), some (.int (nI q)), none] [] σ = some (some (.int 1), σ'))) := by
  obtain ⟨A, eA⟩ : ∃ A, s.ps.getD p [] = A := ⟨_, rfl⟩
  obtain ⟨B, eB⟩ : ∃ B, s.ps.getD q [] = B := ⟨_, rfl⟩
  have fA := (hs.fp _ (mem_ps hp)).2
  have fB := (hs.fp _ (mem_ps hq)).2
  have hl := hs.p16
  rw [eA] at fA
  rw [eB] at fB
  rw [eA, eB]
  have p16 : 2 ^ (8 * s.W) ≤ 2 ^ 16 := Nat.pow_le_pow_right (by decide) (by omega)
  have tp := top_n hs.w
  have L : ∀ f n υ, n + f = 2 ^ (8 * s.W) → FR [49] σ υ → (∀ b', b' < n → outc s.W A b' = outc s.W B b') → ∃ σ', FR [49] σ σ' ∧ ((∃ b, b < 2 ^ (8 * s.W) ∧ ¬ outc s.W A b = outc s.W B b ∧ (∀ b', b' < b → outc s.W A b' = outc s.W B b') ∧ jx (d + 2) 194 31 [some (.ref 47), some (.int (nI p)), some (.int (nI q)), some (.int (nI n))] [] υ = some (some (.int 0), jsI σ' 682 47 (nI b))) ∨ ((∀ b', b' < 2 ^ (8 * s.W) → outc s.W A b' = outc s.W B b') ∧ jx (d + 2) 194 31 [some (.ref 47), some (.int (nI p)), some (.int (nI q)), some (.int (nI n))] [] υ = some (some (.int 1), σ'))) := by
    intro f
    induction f with
    | zero =>
      intro n υ hn F hb
      have e : n = 2 ^ (8 * s.W) := by omega
      have hSυ := F.sh hS
      have wυ : jI υ 640 47 = nI s.W := by rw [(F.2 47 (by decide)).1]; exact hM.w
      refine ⟨υ, F, Or.inr ⟨fun b' h1 => hb b' (by omega), ?_⟩⟩
      rw [k194_31 (sT_47 hSυ), wυ, tp, if_pos (nI_le (by omega) (by omega)), k194_72]
    | succ f ih =>
      intro n υ hn F hb
      have hSυ := F.sh hS
      have mυ : CM s υ := hM.ar hs (P := fun a _ => a = 49) (fun g _ _ _ => (F.2 47 (by decide)).1 g) (fun a i h1 h2 hn => (F.2 a (by simpa using hn)).2 i) (fun a i hp => by unfold PSF; omega)
      obtain ⟨υ1, e1, F1⟩ := c193 (d := d) hSυ hs.w mυ.w (p := p) (by omega) (mυ.ps p hp) (by rw [eA]; exact fA) (nI n)
      have hS1 := F1.sh hSυ
      have m1 : CM s υ1 := mυ.ar hs (P := fun a _ => a = 49) (fun g _ _ _ => (F1.2 47 (by decide)).1 g) (fun a i h1 h2 hn => (F1.2 a (by simpa using hn)).2 i) (fun a i hp => by unfold PSF; omega)
      obtain ⟨υ2, e2, F2⟩ := c193 (d := d) hS1 hs.w m1.w (p := q) (by omega) (m1.ps q hq) (by rw [eB]; exact fB) (nI n)
      have hS2 := F2.sh hS1
      rw [eA] at e1
      rw [eB] at e2
      have F3 := (F.trans F1).trans F2
      have step : jx (d + 2) 194 31 [some (.ref 47), some (.int (nI p)), some (.int (nI q)), some (.int (nI n))] [] υ = jx (d + 2) 194 56 [some (.ref 47), some (.int (nI p)), some (.int (nI q)), some (.int (nI n))] [.int (outc s.W B n), .int (outc s.W A n)] υ2 := by
        rw [k194_31 (sT_47 hSυ), mυ.w, tp, if_neg (nI_ge (by omega) (by omega)), k194_44 (sT_47 hSυ), e1]
        simp only [Option.bind_some, Option.toList_some, List.cons_append, List.nil_append]
        rw [k194_50 (sT_47 hS1), e2]
        simp only [Option.bind_some, Option.toList_some, List.cons_append, List.nil_append]
        rfl
      by_cases eq : outc s.W A n = outc s.W B n
      · obtain ⟨σ', G, r⟩ := ih (n + 1) υ2 (by omega) F3 (fun b' h1 => by
          by_cases e : b' = n
          · rw [e]; exact eq
          · exact hb b' (by omega))
        refine ⟨σ', G, ?_⟩
        rw [step, k194_56, if_pos eq, k194_66, ← nI_succ]
        exact r
      · refine ⟨υ2, F3, Or.inl ⟨n, by omega, eq, hb, ?_⟩⟩
        rw [step, k194_56, if_neg eq, k194_59 (sT_47 hS2)]
  rw [k194_29]
  exact L (2 ^ (8 * s.W)) 0 σ (by omega) (FR.refl _ σ) (fun b' h => absurd h (Nat.not_lt_zero b'))
theorem sim_same (hR : REL s cr cp qr qp σ) (x y : Int32) : SimR (d + 4) 113 194 [some (.int x), some (.int y), none, none, none] [some (.int x), some (.int y), none] true σ := by
  have hR0 := hR
  obtain ⟨hS, hx, hs, hC, hM⟩ := hR
  have hl := hs.p16
  have rd : ∀ v : Int32, jx (d + 4) 113 0 [some (.ref 16), some (.int x), some (.int y), none, none, none] [] σ = some (some (.int v), σ) → jx (d + 4) 194 0 [some (.ref 47), some (.int x), some (.int y), none] [] σ = some (some (.int v), σ) → SimR (d + 4) 113 194 [some (.int x), some (.int y), none, none, none] [some (.int x), some (.int y), none] true σ := fun v h1 h2 => SimR.read hR0 h1 h2 (fun _ => rfl)
  by_cases h : inR x s.ps.length
  · have a2 := c170y (d := d + 2) hS hM hs h
    obtain ⟨p, hp, ep⟩ := inR_nat (by omega) h
    have a1 := c86y (d := d + 3) hS hC hs hp
    rw [← ep] at a1
    by_cases h' : inR y s.ps.length
    · have b2 := c170y (d := d + 2) hS hM hs h'
      obtain ⟨q, hq, eq⟩ := inR_nat (by omega) h'
      have b1 := c86y (d := d + 3) hS hC hs hq
      rw [← eq] at b1
      have s1 : jx (d + 4) 113 0 [some (.ref 16), some (.int x), some (.int y), none, none, none] [] σ = if ¬ nI s.W = 3 then jx (d + 4) 113 35 [some (.ref 16), some (.int x), some (.int y), some (.ref (qp p)), some (.ref (qp q)), none] [] σ else jx (d + 4) 113 32 [some (.ref 16), some (.int x), some (.int y), some (.ref (qp p)), some (.ref (qp q)), none] [] σ := by
        rw [k113_0 (sT_16 hS), a1]
        simp only [Option.bind_some, Option.toList_some, List.cons_append, List.nil_append]
        rw [k113_5R (sT_16 hS), b1]
        simp only [Option.bind_some, Option.toList_some, List.cons_append, List.nil_append]
        rw [k113_11RR (sT_16 hS), hC.w]
      have s2 : ∀ {υ : jS}, SH υ → CM s υ → jx (d + 4) 194 0 [some (.ref 47), some (.int x), some (.int y), none] [] υ = if ¬ nI s.W = 3 then jx (d + 4) 194 29 [some (.ref 47), some (.int x), some (.int y), none] [] υ else jx (d + 4) 194 26 [some (.ref 47), some (.int x), some (.int y), none] [] υ := fun {υ} hSu hMu => by
        have a2 := c170y (d := d + 2) hSu hMu hs h
        have b2 := c170y (d := d + 2) hSu hMu hs h'
        rw [k194_0 (sT_47 hSu), a2]
        simp only [Option.bind_some, Option.toList_some, List.cons_append, List.nil_append]
        rw [k194_5, if_neg (by decide), k194_8 (sT_47 hSu), b2]
        simp only [Option.bind_some, Option.toList_some, List.cons_append, List.nil_append]
        rw [k194_13, if_pos (by decide), k194_18 (sT_47 hSu), hMu.w]
      by_cases h3 : s.W = 3
      · have e3 : nI s.W = 3 := by rw [h3]; rfl
        exact rd (-2) (by rw [s1, if_neg (fun z => z e3), k113_32]) (by rw [s2 hS hM, if_neg (fun z => z e3), k194_26])
      · have n3 : ¬ nI s.W = 3 := by
          rcases hs.w with e | e | e
          · rw [e]; decide
          · rw [e]; decide
          · exact absurd e h3
        have hW : s.W = 1 ∨ s.W = 2 := by have := hs.w; omega
        have p16 : 2 ^ (8 * s.W) ≤ 2 ^ 16 := Nat.pow_le_pow_right (by decide) (by omega)
        have fA := (hs.fp _ (mem_ps hp)).2
        have fB := (hs.fp _ (mem_ps hq)).2
        obtain ⟨σ1, N, F1, mN, hN, nA, nB, r1⟩ := c114 (d := d) hS hs hC hW hp hq
        have hS1 := F1.sh hS
        have hC1 : CX s cr cp qr qp σ1 := hC.scr F1 (by decide)
        have hM1 := hM.sm (F1.sm (fun a h1 h2 => by simp; omega))
        have nx1 : jnx σ1 = jnx σ := F1.1.2.2.2.2.1
        have sl1 : jsl σ1 = jsl σ := F1.1.2.2.2.2.2
        have key : ∀ b, b < 2 ^ (8 * s.W) → (outc s.W (s.ps.getD p []) b = outc s.W (s.ps.getD q []) b ↔ outc s.W (s.ps.getD p []) (b &&& N) = outc s.W (s.ps.getD q []) (b &&& N)) := fun b hb => outc_msk hW fA fB (by omega) (by omega) mN nA nB
        have idm : ∀ b : Nat, (b &&& N) &&& N = b &&& N := fun b => by rw [Nat.and_assoc, Nat.and_self]
        rcases r1 with ⟨b, hb1, hb2, hb3, hb4, e1⟩ | ⟨hall, e1⟩
        · obtain ⟨σ', eσ'⟩ : ∃ σ', jsI σ1 589 16 (nI b) = σ' := ⟨_, rfl⟩
          have F' : FR [16] σ1 σ' := eσ' ▸ (i16FR 589 (nI b))
          have hS' := F'.sh hS1
          let s' : AS := (s.W, s.len, s.b, s.rs, s.ps, s.ns, s.tl, nI b)
          have i' : ∀ g, g ≠ 589 → jI σ' g 16 = jI σ1 g 16 := fun g hg => by rw [← eσ', zI_I, if_neg (fun z => hg z.1)]
          have hC' : CX s' cr cp qr qp σ' := hC1.fr F' (by decide) (by rw [i' 585 (by decide)]; exact hC1.nr) (by rw [i' 586 (by decide)]; exact hC1.np) (by rw [i' 587 (by decide)]; exact hC1.w) (by rw [← eσ', zI_I, if_pos ⟨rfl, rfl⟩]; rfl) rfl rfl rfl rfl hC1.lr.1 hC1.lp.1 hC1.rs hC1.ps
          have hM' := hM1.sm (F'.sm (fun a h1 h2 => by simp; omega))
          obtain ⟨σ2, F2, r2⟩ := ref_same (d := d + 2) hS' hs hM' hW hp hq
          have hS2 := F2.sh hS'
          have hM2 : CM s σ2 := hM'.ar hs (P := fun a _ => a = 49) (fun g _ _ _ => (F2.2 47 (by decide)).1 g) (fun a i h1 h2 hn => (F2.2 a (by simpa using hn)).2 i) (fun a i hp => by unfold PSF; omega)
          rcases r2 with ⟨c, hc1, hc2, hc3, e2⟩ | ⟨hall, e2⟩
          · have hcb : c = b := by
              have cN : c &&& N ≤ c := Nat.and_le_left
              have d1 : ¬ outc s.W (s.ps.getD p []) (c &&& N) = outc s.W (s.ps.getD q []) (c &&& N) := fun z => hc2 ((key c hc1).mpr z)
              have e3 : c &&& N = c := by
                by_cases lt : c &&& N < c
                · exact absurd (hc3 _ lt) d1
                · omega
              have g1 : ¬ c < b := fun lt => hc2 (hb4 c lt e3)
              have g2 : ¬ b < c := fun lt => hb3 (hc3 b lt)
              omega
            subst hcb
            have sc2 : sameC σ' (jsI σ2 682 47 (nI c)) := (F2.sc (fun a ha => by simp at ha; omega)).trans (i47sc 682 _)
            have hM3 : CM s' (jsI σ2 682 47 (nI c)) := hM2.I47 (by rw [zI_I, if_neg (by decide)]; exact hM2.nr) (by rw [zI_I, if_neg (by decide)]; exact hM2.np) (by rw [zI_I, if_neg (by decide)]; exact hM2.w) (by rw [zI_I, if_pos ⟨rfl, rfl⟩]; rfl) (by rw [TM_I (by decide)]; exact hM2.tm) (by rw [zI_I, if_neg (by decide)]; exact hM2.ns) hM2.tl hM2.rs hM2.ps
            have nx' : jnx σ' = jnx σ1 := F'.1.2.2.2.2.1
            have sl' : jsl σ' = jsl σ1 := F'.1.2.2.2.2.2
            have nx2 : jnx σ2 = jnx σ' := F2.1.2.2.2.2.1
            have sl2 : jsl σ2 = jsl σ' := F2.1.2.2.2.2.2
            refine ⟨0, 0, σ', jsI σ2 682 47 (nI c), s', cr, cp, qr, qp, ?_, ?_, ⟨by rw [SH_I]; exact hS2, by show 81 ≤ jnx σ2; omega, ⟨hs.w, hs.l, hs.byy, hs.r24, hs.p16, hs.fr, hs.fp, hs.n144⟩, CX.sc (by omega) hC' sc2, hM3⟩, by show jnx σ2 ≤ _; omega, by show jsl σ2 ≤ _; omega, ((F1.low (by simp)).trans (F'.low (by simp))).trans (sc2.low (by omega)), fun _ => rfl⟩
            · have n4 : ¬ nI c = -4 := fun z => by
                have := nn0 (k := c) (by omega)
                rw [z] at this
                exact this (by decide)
              rw [s1, if_pos n3, k113_35RR (sT_16 hS), e1]
              simp only [Option.bind_some, Option.toList_some, List.cons_append, List.nil_append]
              rw [k113_42R, if_pos n4, k113_53 (sT_16 hS1), eσ']
            · rw [← ep, ← eq] at e2
              rw [s2 hS' hM', if_pos n3, e2]
          · exact absurd (hall b (by omega)) hb3
        · obtain ⟨σ2, F2, r2⟩ := ref_same (d := d + 2) hS1 hs hM1 hW hp hq
          have hS2 := F2.sh hS1
          have hM2 : CM s σ2 := hM1.ar hs (P := fun a _ => a = 49) (fun g _ _ _ => (F2.2 47 (by decide)).1 g) (fun a i h1 h2 hn => (F2.2 a (by simpa using hn)).2 i) (fun a i hp => by unfold PSF; omega)
          rcases r2 with ⟨c, hc1, hc2, hc3, e2⟩ | ⟨_, e2⟩
          · exact absurd ((key c hc1).mpr (hall (c &&& N) Nat.and_le_right (idm c))) hc2
          · have sc2 : sameC σ1 σ2 := F2.sc (fun a ha => by simp at ha; omega)
            have nx2 : jnx σ2 = jnx σ1 := F2.1.2.2.2.2.1
            have sl2 : jsl σ2 = jsl σ1 := F2.1.2.2.2.2.2
            refine ⟨1, 1, σ1, σ2, s, cr, cp, qr, qp, ?_, ?_, ⟨hS2, by omega, hs, CX.sc (by omega) hC1 sc2, hM2⟩, by omega, by omega, (F1.low (by simp)).trans (sc2.low (by omega)), fun _ => rfl⟩
            · rw [s1, if_pos n3, k113_35RR (sT_16 hS), e1]
              simp only [Option.bind_some, Option.toList_some, List.cons_append, List.nil_append]
              rw [k113_42R, if_neg (fun z => z rfl), k113_51]
            · rw [← ep, ← eq] at e2
              rw [s2 hS1 hM1, if_pos n3, e2]
    · have b1 := c86n (d := d + 3) hS hC h'
      have b2 := c170n (d := d + 2) hS hM hs h'
      refine rd (-1) ?_ ?_
      · simp (decide := true) only [k113_0, k113_5R, k113_5N, k113_11RR, k113_11RN, k113_11NR, k113_11NN, k113_17R, k113_17N, k113_22, k113_24, k113_32, k113_35RR, k113_35RN, k113_35NR, k113_35NN, k113_42R, k113_42N, k113_51, k113_53, a1, b1, sT_1, sT_2, sT_3, sT_16, sT_17, sT_18, sT_19, sT_20, sT_21, sT_22, sT_23, sT_24, sT_25, sT_26, sT_27, sT_28, sT_29, sT_30, sT_31, sT_32, sT_33, sT_34, sT_35, sT_36, sT_37, sT_38, sT_39, sT_40, sT_41, sT_42, sT_43, sT_44, sT_45, sT_46, sT_47, sT_48, sT_49, sT_50, sT_51, sT_52, sT_53, sT_54, sT_55, sT_56, sT_57, sT_58, sT_59, sT_60, sT_61, sT_62, sT_63, sT_64, sT_65, sT_66, sT_67, sT_68, sT_69, sT_70, sT_71, sT_72, sT_73, sT_74, sT_75, sT_76, sT_77, sT_78, sT_79, sT_80, sN_1, sN_2, sN_19, sN_21, sN_23, sN_24, sN_26, sN_29, sN_31, sN_33, sN_35, sN_36, sN_37, sN_39, sN_40, sN_42, sN_44, sN_45, sN_46, sN_48, sN_49, sN_50, sN_51, sN_52, sN_53, sN_54, sN_55, sN_56, sN_57, sN_58, sN_59, sN_60, sN_61, sN_62, sN_63, sN_64, sN_65, sN_66, sN_67, sN_68, sN_69, sN_70, sN_71, sN_72, sN_73, sN_74, sN_75, sN_76, sN_77, sN_78, sN_79, sN_80, sR_0_34, sR_0_38, sR_1_34, sR_1_38, sR_64_20, sR_64_22, sR_128_25, sR_128_28, sR_194_17, sR_195_17, sR_196_17, sR_197_17, sR_258_30, sR_258_32, sR_258_41, sR_384_43, sR_448_18, sR_512_27, sR_513_27, sR_514_27, sR_515_27, sR_516_27, sR_576_16, sR_577_16, sR_578_16, sR_579_16, sR_580_16, sR_581_16, sR_582_16, sR_583_16, sR_584_16, sR_641_47, sR_643_47, sR_645_47, sR_646_47, sR_647_47, sR_648_47, sR_649_47, sR_650_47, sR_651_47, sR_652_47, sR_653_47, sR_654_47, sR_655_47, sR_656_47, sR_657_47, sR_658_47, sR_659_47, sR_661_47, sR_662_47, sR_663_47, sR_664_47, sR_665_47, sR_669_47, sR_670_47, sR_671_47, sR_672_47, sR_673_47, sR_674_47, sR_676_47, sR_677_47, sR_679_47, sR_680_47, sR_681_47, SH_I, SH_A, SH_G, SH_C, hS, Option.getD_some, ne_eq, reduceCtorEq, not_false_eq_true, not_true_eq_false, Option.bind_some, Option.toList_none, Option.toList_some, List.nil_append, List.cons_append, List.append_nil, ↓reduceIte, and_self, true_and, and_true, false_and, and_false, or_true, true_or, or_false, false_or, Nat.reduceEqDiff, Nat.reduceAdd, Int32.reduceMul, Int32.reduceAdd, Int32.reduceSub, Int32.reduceToNatClampNeg, Int32.reduceOfNat, Int32.reduceLT, Int32.reduceLE, va_rf]
      · simp (decide := true) only [k194_0, k194_5, k194_8, k194_13, k194_16, a2, b2, sT_1, sT_2, sT_3, sT_16, sT_17, sT_18, sT_19, sT_20, sT_21, sT_22, sT_23, sT_24, sT_25, sT_26, sT_27, sT_28, sT_29, sT_30, sT_31, sT_32, sT_33, sT_34, sT_35, sT_36, sT_37, sT_38, sT_39, sT_40, sT_41, sT_42, sT_43, sT_44, sT_45, sT_46, sT_47, sT_48, sT_49, sT_50, sT_51, sT_52, sT_53, sT_54, sT_55, sT_56, sT_57, sT_58, sT_59, sT_60, sT_61, sT_62, sT_63, sT_64, sT_65, sT_66, sT_67, sT_68, sT_69, sT_70, sT_71, sT_72, sT_73, sT_74, sT_75, sT_76, sT_77, sT_78, sT_79, sT_80, sN_1, sN_2, sN_19, sN_21, sN_23, sN_24, sN_26, sN_29, sN_31, sN_33, sN_35, sN_36, sN_37, sN_39, sN_40, sN_42, sN_44, sN_45, sN_46, sN_48, sN_49, sN_50, sN_51, sN_52, sN_53, sN_54, sN_55, sN_56, sN_57, sN_58, sN_59, sN_60, sN_61, sN_62, sN_63, sN_64, sN_65, sN_66, sN_67, sN_68, sN_69, sN_70, sN_71, sN_72, sN_73, sN_74, sN_75, sN_76, sN_77, sN_78, sN_79, sN_80, sR_0_34, sR_0_38, sR_1_34, sR_1_38, sR_64_20, sR_64_22, sR_128_25, sR_128_28, sR_194_17, sR_195_17, sR_196_17, sR_197_17, sR_258_30, sR_258_32, sR_258_41, sR_384_43, sR_448_18, sR_512_27, sR_513_27, sR_514_27, sR_515_27, sR_516_27, sR_576_16, sR_577_16, sR_578_16, sR_579_16, sR_580_16, sR_581_16, sR_582_16, sR_583_16, sR_584_16, sR_641_47, sR_643_47, sR_645_47, sR_646_47, sR_647_47, sR_648_47, sR_649_47, sR_650_47, sR_651_47, sR_652_47, sR_653_47, sR_654_47, sR_655_47, sR_656_47, sR_657_47, sR_658_47, sR_659_47, sR_661_47, sR_662_47, sR_663_47, sR_664_47, sR_665_47, sR_669_47, sR_670_47, sR_671_47, sR_672_47, sR_673_47, sR_674_47, sR_676_47, sR_677_47, sR_679_47, sR_680_47, sR_681_47, SH_I, SH_A, SH_G, SH_C, hS, Option.getD_some, ne_eq, reduceCtorEq, not_false_eq_true, not_true_eq_false, Option.bind_some, Option.toList_none, Option.toList_some, List.nil_append, List.cons_append, List.append_nil, ↓reduceIte, and_self, true_and, and_true, false_and, and_false, or_true, true_or, or_false, false_or, Nat.reduceEqDiff, Nat.reduceAdd, Int32.reduceMul, Int32.reduceAdd, Int32.reduceSub, Int32.reduceToNatClampNeg, Int32.reduceOfNat, Int32.reduceLT, Int32.reduceLE, va_rf]
  · have a1 := c86n (d := d + 3) hS hC h
    have a2 := c170n (d := d + 2) hS hM hs h
    refine rd (-1) ?_ ?_
    · by_cases h' : inR y s.ps.length
      · obtain ⟨q, hq, eq⟩ := inR_nat (by omega) h'
        have b1 := c86y (d := d + 3) hS hC hs hq
        rw [← eq] at b1
        simp (decide := true) only [k113_0, k113_5R, k113_5N, k113_11RR, k113_11RN, k113_11NR, k113_11NN, k113_17R, k113_17N, k113_22, k113_24, k113_32, k113_35RR, k113_35RN, k113_35NR, k113_35NN, k113_42R, k113_42N, k113_51, k113_53, a1, b1, sT_1, sT_2, sT_3, sT_16, sT_17, sT_18, sT_19, sT_20, sT_21, sT_22, sT_23, sT_24, sT_25, sT_26, sT_27, sT_28, sT_29, sT_30, sT_31, sT_32, sT_33, sT_34, sT_35, sT_36, sT_37, sT_38, sT_39, sT_40, sT_41, sT_42, sT_43, sT_44, sT_45, sT_46, sT_47, sT_48, sT_49, sT_50, sT_51, sT_52, sT_53, sT_54, sT_55, sT_56, sT_57, sT_58, sT_59, sT_60, sT_61, sT_62, sT_63, sT_64, sT_65, sT_66, sT_67, sT_68, sT_69, sT_70, sT_71, sT_72, sT_73, sT_74, sT_75, sT_76, sT_77, sT_78, sT_79, sT_80, sN_1, sN_2, sN_19, sN_21, sN_23, sN_24, sN_26, sN_29, sN_31, sN_33, sN_35, sN_36, sN_37, sN_39, sN_40, sN_42, sN_44, sN_45, sN_46, sN_48, sN_49, sN_50, sN_51, sN_52, sN_53, sN_54, sN_55, sN_56, sN_57, sN_58, sN_59, sN_60, sN_61, sN_62, sN_63, sN_64, sN_65, sN_66, sN_67, sN_68, sN_69, sN_70, sN_71, sN_72, sN_73, sN_74, sN_75, sN_76, sN_77, sN_78, sN_79, sN_80, sR_0_34, sR_0_38, sR_1_34, sR_1_38, sR_64_20, sR_64_22, sR_128_25, sR_128_28, sR_194_17, sR_195_17, sR_196_17, sR_197_17, sR_258_30, sR_258_32, sR_258_41, sR_384_43, sR_448_18, sR_512_27, sR_513_27, sR_514_27, sR_515_27, sR_516_27, sR_576_16, sR_577_16, sR_578_16, sR_579_16, sR_580_16, sR_581_16, sR_582_16, sR_583_16, sR_584_16, sR_641_47, sR_643_47, sR_645_47, sR_646_47, sR_647_47, sR_648_47, sR_649_47, sR_650_47, sR_651_47, sR_652_47, sR_653_47, sR_654_47, sR_655_47, sR_656_47, sR_657_47, sR_658_47, sR_659_47, sR_661_47, sR_662_47, sR_663_47, sR_664_47, sR_665_47, sR_669_47, sR_670_47, sR_671_47, sR_672_47, sR_673_47, sR_674_47, sR_676_47, sR_677_47, sR_679_47, sR_680_47, sR_681_47, SH_I, SH_A, SH_G, SH_C, hS, Option.getD_some, ne_eq, reduceCtorEq, not_false_eq_true, not_true_eq_false, Option.bind_some, Option.toList_none, Option.toList_some, List.nil_append, List.cons_append, List.append_nil, ↓reduceIte, and_self, true_and, and_true, false_and, and_false, or_true, true_or, or_false, false_or, Nat.reduceEqDiff, Nat.reduceAdd, Int32.reduceMul, Int32.reduceAdd, Int32.reduceSub, Int32.reduceToNatClampNeg, Int32.reduceOfNat, Int32.reduceLT, Int32.reduceLE, va_rf]
      · have b1 := c86n (d := d + 3) hS hC h'
        simp (decide := true) only [k113_0, k113_5R, k113_5N, k113_11RR, k113_11RN, k113_11NR, k113_11NN, k113_17R, k113_17N, k113_22, k113_24, k113_32, k113_35RR, k113_35RN, k113_35NR, k113_35NN, k113_42R, k113_42N, k113_51, k113_53, a1, b1, sT_1, sT_2, sT_3, sT_16, sT_17, sT_18, sT_19, sT_20, sT_21, sT_22, sT_23, sT_24, sT_25, sT_26, sT_27, sT_28, sT_29, sT_30, sT_31, sT_32, sT_33, sT_34, sT_35, sT_36, sT_37, sT_38, sT_39, sT_40, sT_41, sT_42, sT_43, sT_44, sT_45, sT_46, sT_47, sT_48, sT_49, sT_50, sT_51, sT_52, sT_53, sT_54, sT_55, sT_56, sT_57, sT_58, sT_59, sT_60, sT_61, sT_62, sT_63, sT_64, sT_65, sT_66, sT_67, sT_68, sT_69, sT_70, sT_71, sT_72, sT_73, sT_74, sT_75, sT_76, sT_77, sT_78, sT_79, sT_80, sN_1, sN_2, sN_19, sN_21, sN_23, sN_24, sN_26, sN_29, sN_31, sN_33, sN_35, sN_36, sN_37, sN_39, sN_40, sN_42, sN_44, sN_45, sN_46, sN_48, sN_49, sN_50, sN_51, sN_52, sN_53, sN_54, sN_55, sN_56, sN_57, sN_58, sN_59, sN_60, sN_61, sN_62, sN_63, sN_64, sN_65, sN_66, sN_67, sN_68, sN_69, sN_70, sN_71, sN_72, sN_73, sN_74, sN_75, sN_76, sN_77, sN_78, sN_79, sN_80, sR_0_34, sR_0_38, sR_1_34, sR_1_38, sR_64_20, sR_64_22, sR_128_25, sR_128_28, sR_194_17, sR_195_17, sR_196_17, sR_197_17, sR_258_30, sR_258_32, sR_258_41, sR_384_43, sR_448_18, sR_512_27, sR_513_27, sR_514_27, sR_515_27, sR_516_27, sR_576_16, sR_577_16, sR_578_16, sR_579_16, sR_580_16, sR_581_16, sR_582_16, sR_583_16, sR_584_16, sR_641_47, sR_643_47, sR_645_47, sR_646_47, sR_647_47, sR_648_47, sR_649_47, sR_650_47, sR_651_47, sR_652_47, sR_653_47, sR_654_47, sR_655_47, sR_656_47, sR_657_47, sR_658_47, sR_659_47, sR_661_47, sR_662_47, sR_663_47, sR_664_47, sR_665_47, sR_669_47, sR_670_47, sR_671_47, sR_672_47, sR_673_47, sR_674_47, sR_676_47, sR_677_47, sR_679_47, sR_680_47, sR_681_47, SH_I, SH_A, SH_G, SH_C, hS, Option.getD_some, ne_eq, reduceCtorEq, not_false_eq_true, not_true_eq_false, Option.bind_some, Option.toList_none, Option.toList_some, List.nil_append, List.cons_append, List.append_nil, ↓reduceIte, and_self, true_and, and_true, false_and, and_false, or_true, true_or, or_false, false_or, Nat.reduceEqDiff, Nat.reduceAdd, Int32.reduceMul, Int32.reduceAdd, Int32.reduceSub, Int32.reduceToNatClampNeg, Int32.reduceOfNat, Int32.reduceLT, Int32.reduceLE, va_rf]
    · simp (decide := true) only [k194_0, k194_5, k194_16, a2, sT_1, sT_2, sT_3, sT_16, sT_17, sT_18, sT_19, sT_20, sT_21, sT_22, sT_23, sT_24, sT_25, sT_26, sT_27, sT_28, sT_29, sT_30, sT_31, sT_32, sT_33, sT_34, sT_35, sT_36, sT_37, sT_38, sT_39, sT_40, sT_41, sT_42, sT_43, sT_44, sT_45, sT_46, sT_47, sT_48, sT_49, sT_50, sT_51, sT_52, sT_53, sT_54, sT_55, sT_56, sT_57, sT_58, sT_59, sT_60, sT_61, sT_62, sT_63, sT_64, sT_65, sT_66, sT_67, sT_68, sT_69, sT_70, sT_71, sT_72, sT_73, sT_74, sT_75, sT_76, sT_77, sT_78, sT_79, sT_80, sN_1, sN_2, sN_19, sN_21, sN_23, sN_24, sN_26, sN_29, sN_31, sN_33, sN_35, sN_36, sN_37, sN_39, sN_40, sN_42, sN_44, sN_45, sN_46, sN_48, sN_49, sN_50, sN_51, sN_52, sN_53, sN_54, sN_55, sN_56, sN_57, sN_58, sN_59, sN_60, sN_61, sN_62, sN_63, sN_64, sN_65, sN_66, sN_67, sN_68, sN_69, sN_70, sN_71, sN_72, sN_73, sN_74, sN_75, sN_76, sN_77, sN_78, sN_79, sN_80, sR_0_34, sR_0_38, sR_1_34, sR_1_38, sR_64_20, sR_64_22, sR_128_25, sR_128_28, sR_194_17, sR_195_17, sR_196_17, sR_197_17, sR_258_30, sR_258_32, sR_258_41, sR_384_43, sR_448_18, sR_512_27, sR_513_27, sR_514_27, sR_515_27, sR_516_27, sR_576_16, sR_577_16, sR_578_16, sR_579_16, sR_580_16, sR_581_16, sR_582_16, sR_583_16, sR_584_16, sR_641_47, sR_643_47, sR_645_47, sR_646_47, sR_647_47, sR_648_47, sR_649_47, sR_650_47, sR_651_47, sR_652_47, sR_653_47, sR_654_47, sR_655_47, sR_656_47, sR_657_47, sR_658_47, sR_659_47, sR_661_47, sR_662_47, sR_663_47, sR_664_47, sR_665_47, sR_669_47, sR_670_47, sR_671_47, sR_672_47, sR_673_47, sR_674_47, sR_676_47, sR_677_47, sR_679_47, sR_680_47, sR_681_47, SH_I, SH_A, SH_G, SH_C, hS, Option.getD_some, ne_eq, reduceCtorEq, not_false_eq_true, not_true_eq_false, Option.bind_some, Option.toList_none, Option.toList_some, List.nil_append, List.cons_append, List.append_nil, ↓reduceIte, and_self, true_and, and_true, false_and, and_false, or_true, true_or, or_false, false_or, Nat.reduceEqDiff, Nat.reduceAdd, Int32.reduceMul, Int32.reduceAdd, Int32.reduceSub, Int32.reduceToNatClampNeg, Int32.reduceOfNat, Int32.reduceLT, Int32.reduceLE, va_rf]
end SMD
