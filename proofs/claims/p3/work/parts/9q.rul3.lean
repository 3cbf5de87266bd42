/-! rule: the reference -/
section RU3
variable {d : Nat} {σ : jS} {s : AS} {cr cp : Nat} {qr qp : Nat → Nat}
theorem ref_rule {α : jS} (hS : SH α) (hx : 81 ≤ jnx α) (hs : WFs s) (hM : CM s α) (hn : s.rs.length < 24) {rg0 : Nat → Int32} (hrg : ∀ j, jA α 58 (3 * s.rs.length + j) = rg0 j) : ∃ β v, jx (d + 6) 127 0 [some (.ref 47), none, none, none] [] α = some (some (.int v), β) ∧ sameC α β ∧ SH β ∧ jnx β = jnx α ∧ jsl β = jsl α ∧ (match ruK s rg0 with | some a => CM (sRul s a) β | none => CM (sLen0 s) β) := by
  have ws : WFs (sLen0 s) := ⟨hs.w, Nat.zero_le _, fun i hi => absurd hi (Nat.not_lt_zero i), hs.r24, hs.p16, hs.fr, hs.fp, hs.n144⟩
  obtain ⟨n, en⟩ : ∃ n, s.rs.length = n := ⟨_, rfl⟩
  obtain ⟨τ, eτ⟩ : ∃ τ, jsI α 667 47 0 = τ := ⟨_, rfl⟩
  have hMτ : CM s τ := by
    rw [← eτ]
    exact hM.I47 (by rw [zI_I, if_neg (by decide)]; exact hM.nr) (by rw [zI_I, if_neg (by decide)]; exact hM.np) (by rw [zI_I, if_neg (by decide)]; exact hM.w) (by rw [zI_I, if_neg (by decide)]; exact hM.ap) (by rw [TM_I (by decide)]; exact hM.tm) (by rw [zI_I, if_neg (by decide)]; exact hM.ns) hM.tl hM.rs hM.ps
  have hSτ : SH τ := by rw [← eτ, SH_I]; exact hS
  have nxτ : jnx τ = jnx α := by rw [← eτ]; rfl
  have slτ : jsl τ = jsl α := by rw [← eτ]; rfl
  have hxτ : 81 ≤ jnx τ := by omega
  have z0τ : jI τ 667 47 = 0 := by rw [← eτ, zI_I, if_pos ⟨rfl, rfl⟩]
  have frg : (fun j => jA τ 58 (3 * n + j)) = rg0 := by
    funext j
    rw [← eτ, zI_A, ← en]; exact hrg j
  obtain ⟨β, e5, f5, nx5, sl5, r5⟩ := c128 (d := d) (W := s.W) (r := n) (by omega) τ hxτ hSτ hMτ.nv hMτ.tm z0τ hMτ.w
  rw [frg] at r5
  have hSβ := f5.sh hxτ hSτ
  have hMβ : CM s β := hMτ.ar hs (fun g a b c => f5.f47 hxτ ⟨a, b, c⟩) (fun a i h1 h2 hp => f5.ar hxτ (by omega) i hp (by omega)) (fun a i hp => by
    unfold RRg RG at hp
    unfold PSF
    rw [en]
    omega)
  have scβ : sameC α β := (eτ ▸ i47sc 667 0 : sameC α τ).trans (f5.sc (fun a i hp => by unfold RRg RG at hp; omega))
  have n24 : ¬ nI n = 24 := by rw [show (24 : Int32) = nI 24 from rfl, n31eq (by omega) (by decide)]; omega
  have nrα := hM.nr
  rw [en] at nrα
  have to25 : jx (d + 6) 127 0 [some (.ref 47), none, none, none] [] α = if ¬ (jI β 667 47 = 0) then jx (d + 6) 127 104 [some (.ref 47), none, none, none] [] β else jx (d + 6) 127 32 [some (.ref 47), none, none, none] [] β := by
    rw [k127_0 (sT_47 hS), nrα, if_pos n24, k127_12 (sT_47 hS), nrα, eτ, e5]
    simp only [Option.bind_some, Option.toList_none, List.nil_append]
    rw [k127_25 (sT_47 hSβ)]
  have M0 : ∀ {υ : jS}, CM s υ → CM (sLen0 s) (jsI υ 642 47 0) := fun {υ} h => h.I47 (by rw [zI_I, if_neg (by decide)]; exact h.nr) (by rw [zI_I, if_neg (by decide)]; exact h.np) (by rw [zI_I, if_neg (by decide)]; exact h.w) (by rw [zI_I, if_neg (by decide)]; exact h.ap) ⟨by rw [zI_I, if_pos ⟨rfl, rfl⟩]; rfl, Nat.zero_le _, fun i hi => absurd hi (Nat.not_lt_zero i)⟩ (by rw [zI_I, if_neg (by decide)]; exact h.ns) h.tl h.rs h.ps
  cases hR : mRule s.len s.b s.W rg0 with
  | none =>
    have hk : ruK s rg0 = none := by unfold ruK; rw [hR]
    rw [hR] at r5
    have r5 : ¬ jI β 667 47 = 0 := r5
    have pos : 0 < jI β 667 47 := by
      rcases f5.1 with q | q
      · rw [z0τ] at q; exact absurd q r5
      · exact q
    have hS6 : SH (jsI β 642 47 0) := by rw [SH_I]; exact hSβ
    refine ⟨jsI β 642 47 0, (-10) - jI (jsI β 642 47 0) 668 47, ?_, scβ.trans (i47sc 642 0), hS6, by show jnx β = _; omega, by show jsl β = _; omega, by rw [hk]; exact M0 hMβ⟩
    rw [to25, if_pos r5, k127_104 (sT_47 hSβ), if_neg (by rw [Int32.not_le]; exact pos), k127_116 (sT_47 hS6)]
  | some y =>
    obtain ⟨o1, o2, rs, ms, rg⟩ := y
    have rd := mRule_rd hs.w hR
    obtain ⟨_, _, _, _, topE, _, _⟩ := mRule_wf hs.w hR
    rw [hR] at r5
    obtain ⟨f0, s1, s2, l1, l2, hB, hCc, h59, mo1, mo2⟩ := r5
    have rd0 := rd
    obtain ⟨n4, m3, wf1, wf2, z4, _, _, _, oc⟩ := rd
    obtain ⟨pp1, pp2, pp3⟩ := rd0.pb hs.w
    have tpe : ∀ k, k < nAA rs.length ms.length o1 o2 → tpA s.W rs.length o1 o2 k = if k < wdN rs.length (hcO o1 o2) then mkW s.W else rg (k - wdN rs.length (hcO o1 o2)) := fun k hk => by
      unfold tpA tpF
      by_cases h : k < wdN rs.length (hcO o1 o2)
      · rw [if_pos h, if_pos h]
      · have hk' : k < wdN rs.length (hcO o1 o2) + ms.length := hk
        rw [if_neg h, if_neg h, foldT_keep hs.w m3 o1 (topI s.W) (topI s.W) wf1 z4 (fun _ _ => rfl) _ (by omega)]
        exact (topE _ (by omega)).symm
    have MRβ : MR β n rs.length ms.length (hcO o1 o2) o1 o2 rg := ⟨s1, s2, l1, l2, hB.2.2.2, hCc.2.2.2.1, h59, fun j hj => hCc.2.2.2.2 j (by omega), mo1, mo2⟩
    have nrβ := hMβ.nr
    rw [en] at nrβ
    have wle := wd_le (hc := hcO o1 o2) n4
    have N11 : nAA rs.length ms.length o1 o2 ≤ 11 := by unfold nAA; omega
    have c9' := c149 (d := d + 5) (nm := ms.length) hSβ (by omega : n < 24) MRβ.2.2.2.2.1 MRβ.2.2.2.2.2.1 MRβ.2.2.2.2.2.2.1
    have L : ∀ f i, i + f = nAA rs.length ms.length o1 o2 → jx (d + 6) 127 36 [some (.ref 47), some (.long (prL (tpA s.W rs.length o1 o2) i)), none, some (.int (nI i))] [] β = jx (d + 6) 127 67 [some (.ref 47), some (.long (Int64.ofNat (PA s.W rs.length ms.length o1 o2))), none, some (.int (nI (nAA rs.length ms.length o1 o2)))] [] β := by
      intro f
      induction f with
      | zero =>
        intro i hi
        have e : i = nAA rs.length ms.length o1 o2 := by omega
        subst e
        rw [k127_36 (sT_47 hSβ), nrβ, c9']
        simp only [Option.bind_some, Option.toList_some, List.cons_append, List.nil_append]
        have le : nI (wdN rs.length (hcO o1 o2) + ms.length) ≤ nI (nAA rs.length ms.length o1 o2) := nI_le (Nat.le_refl _) (by omega)
        rw [k127_45, if_pos le, pp3]
      | succ f ih =>
        intro i hi
        have hlt : i < wdN rs.length (hcO o1 o2) + ms.length := by unfold nAA at hi; omega
        have c0 := c150 (d := d + 5) (W := s.W) (nr := rs.length) (nm := ms.length) (hc := hcO o1 o2) (rg := rg) hSβ (by omega : n < 24) n4 m3 hMβ.w MRβ.2.2.2.2.1 MRβ.2.2.2.2.2.2.1 MRβ.2.2.2.2.2.2.2.1 hlt
        rw [← tpe i hlt] at c0
        rw [k127_36 (sT_47 hSβ), nrβ, c9']
        simp only [Option.bind_some, Option.toList_some, List.cons_append, List.nil_append]
        rw [k127_45, if_neg (nI_ge (by omega) (by omega)), k127_48 (sT_47 hSβ), nrβ, c0]
        simp only [Option.bind_some, Option.toList_some, List.cons_append, List.nil_append]
        rw [k127_58, ← nI_succ]
        exact ih (i + 1) (by omega)
    have to67 : jx (d + 6) 127 0 [some (.ref 47), none, none, none] [] α = jx (d + 6) 127 67 [some (.ref 47), some (.long (Int64.ofNat (PA s.W rs.length ms.length o1 o2))), none, some (.int (nI (nAA rs.length ms.length o1 o2)))] [] β := by
      rw [to25, if_neg (fun z => z f0), k127_32]
      exact L (nAA rs.length ms.length o1 o2) 0 (Nat.zero_add _)
    have R : ∀ {υ : jS} {g a : Nat}, jR υ g 47 = some a → (jR υ g 47).getD 0 = a ∧ jR υ g 47 ≠ none := fun h => by rw [h]; exact ⟨rfl, fun z => nomatch z⟩
    have gn : jin 24 (nI n) := jin_n (by omega) (by decide)
    have cn : (nI n).toNatClampNeg = n := nI_clamp (by omega)
    by_cases hP : PA s.W rs.length ms.length o1 o2 ≤ 70000
    · have hk : ruK s rg0 = some (mkA s.W rs.length ms.length o1 o2) := by unfold ruK; rw [hR]; exact if_pos hP
      have lc : lg_cmp (Int64.ofNat (PA s.W rs.length ms.length o1 o2)) 70000 ≤ 0 := by rw [lgle, of64_lt pp2]; omega
      have t5 := R (sR_655_47 hSβ)
      obtain ⟨β3, e3⟩ : ∃ β3, jsI (jsA β 60 n (nI (PA s.W rs.length ms.length o1 o2))) 642 47 0 = β3 := ⟨_, rfl⟩
      have F3 : FR [47, 60] β β3 := e3 ▸ ((FR.refl _ β).A (by decide)).I (by decide)
      have hS3 := F3.sh hSβ
      have hM2 : CM s (jsA β 60 n (nI (PA s.W rs.length ms.length o1 o2))) := hMβ.ar hs (P := fun a i => a = 60 ∧ i = n) (fun g _ _ _ => by rw [zA_I]) (fun a i _ _ hp => by rw [zA_A, if_neg hp]) (fun a i hp => by unfold PSF; rw [en]; omega)
      have hM3 : CM (sLen0 s) β3 := e3 ▸ M0 hM2
      have MR3 := MRβ.frame F3 (fun a h1 h2 => by simp; omega)
      have e60 : jA β3 60 n = nI (PA s.W rs.length ms.length o1 o2) := by rw [← e3, zI_A, zA_A, if_pos ⟨rfl, rfl⟩]
      obtain ⟨β4, e4, F4, o61, e61⟩ := c151 (d := d) (tp := tpA s.W rs.length o1 o2) hS3 hs.w hM3.w (by omega : n < 24) n4 m3 MR3 wf1 wf2 e60 (by omega) tpe (rd0.vb hs.w)
      have hS4 := F4.sh hS3
      have hM4 : CM (sLen0 s) β4 := hM3.ar ws (P := fun a i => a = 49 ∨ a = 62 ∨ a = 73 ∨ a = 74 ∨ (a = 61 ∧ i = n)) (fun g _ _ _ => (F4.2 47 (by decide)).1 g) (fun a i h1 h2 hp => by
        by_cases q : a = 61
        · subst q; exact o61 i (fun z => hp (by omega))
        · exact (F4.2 a (by simp; omega)).2 i) (fun a i hp => by
        unfold PSF
        have : (sLen0 s).rs.length = n := en
        rw [this]
        omega)
      obtain ⟨β5, e5'⟩ : ∃ β5, jsA (jsA β4 63 n 1) 64 n 0 = β5 := ⟨_, rfl⟩
      have F5 : FR [63, 64] β4 β5 := e5' ▸ ((FR.refl _ β4).A (by decide)).A (by decide)
      have hS5 := F5.sh hS4
      have hM5 : CM (sLen0 s) β5 := hM4.ar ws (P := fun a i => (a = 63 ∨ a = 64) ∧ i = n) (fun g _ _ _ => (F5.2 47 (by decide)).1 g) (fun a i h1 h2 hp => by rw [← e5', zA_A, if_neg (fun z => hp ⟨Or.inr z.1, z.2⟩), zA_A, if_neg (fun z => hp ⟨Or.inl z.1, z.2⟩)]) (fun a i hp => by
        unfold PSF
        have : (sLen0 s).rs.length = n := en
        rw [this]
        omega)
      have mrr : MRr β5 n (mkA s.W rs.length ms.length o1 o2) := by
        refine ⟨⟨rg, (MR3.frame F4 (fun a h1 h2 => by simp; omega)).frame F5 (fun a h1 h2 => by simp; omega)⟩, ?_, ?_, ?_, ?_⟩
        · rw [(F5.2 60 (by decide)).2, (F4.2 60 (by decide)).2]; exact e60
        · rw [(F5.2 61 (by decide)).2]; exact e61
        · rw [← e5', zA_A, if_neg (fun z => absurd z.1 (by decide)), zA_A, if_pos ⟨rfl, rfl⟩]; rfl
        · rw [← e5', zA_A, if_pos ⟨rfl, rfl⟩]; rfl
      have nr4 : jI β4 644 47 = nI n := by have := hM4.nr; rw [this]; exact congrArg nI en
      have nr3 : jI β3 644 47 = nI n := by have := hM3.nr; rw [this]; exact congrArg nI en
      have t58 := R (sR_658_47 hS4)
      have t59 := R (sR_659_47 hS4)
      have sc6 : sameC α (jsI β5 644 47 (nI (n + 1))) := (((scβ.trans (F3.sc (fun a ha => by simp at ha; omega))).trans (F4.sc (fun a ha => by simp at ha; omega))).trans (F5.sc (fun a ha => by simp at ha; omega))).trans (i47sc 644 _)
      refine ⟨jsI β5 644 47 (nI (n + 1)), nI n, ?_, sc6, by rw [SH_I]; exact hS5, ?_, ?_, ?_⟩
      · have v1 : Int64.toInt32 (Int64.ofNat (PA s.W rs.length ms.length o1 o2)) = nI (PA s.W rs.length ms.length o1 o2) := of64_32 (by omega)
        rw [to67, k127_67, if_pos lc, k127_81 (sT_47 hSβ) t5.2, if_pos lc, t5.1, nrβ, k127_101 (sT_60 hSβ) (by rw [sN_60 hSβ]; exact gn) (sT_47 hSβ), f0, if_pos (by decide), cn, v1, e3, k127_124 (sT_47 hS3), nr3, e4]
        simp only [Option.bind_some, Option.toList_none, List.nil_append]
        rw [k127_132N (sT_47 hS4) t58.2 (by rw [t58.1]; exact sT_63 hS4) (by rw [t58.1, sN_63 hS4, nr4]; exact gn) t59.2 (by rw [t59.1]; exact sT_64 hS4) (by rw [t59.1, sN_64 hS4, nr4]; exact gn), t58.1, t59.1, nr4, cn, show ((1 : Int32) &&& 1) = 1 from rfl, e5', zI_I, if_pos ⟨rfl, rfl⟩, ← nI_succ, show (1 : Int32) = nI 1 from rfl, nsub (by omega), Nat.add_sub_cancel]
      · show jnx β5 = _
        rw [F5.1.2.2.2.2.1, F4.1.2.2.2.2.1, F3.1.2.2.2.2.1, nx5, nxτ]
      · show jsl β5 = _
        rw [F5.1.2.2.2.2.2, F4.1.2.2.2.2.2, F3.1.2.2.2.2.2, sl5, slτ]
      · rw [hk]
        refine hM5.I47 (by rw [zI_I, if_pos ⟨rfl, rfl⟩, sRul_len, en]) (by rw [zI_I, if_neg (by decide)]; exact hM5.np) (by rw [zI_I, if_neg (by decide)]; exact hM5.w) (by rw [zI_I, if_neg (by decide)]; exact hM5.ap) (by rw [TM_I (by decide)]; exact hM5.tm) (by rw [zI_I, if_neg (by decide)]; exact hM5.ns) hM5.tl (fun i hi => ?_) hM5.ps
        rw [sRul_len] at hi
        show MRr _ _ ((s.rs ++ [mkA s.W rs.length ms.length o1 o2]).getD i ar0)
        rw [app_rs hi]
        by_cases e : i = s.rs.length
        · rw [if_pos e, e, en]; exact mrr
        · rw [if_neg e]; exact hM5.rs i (by show i < s.rs.length; omega)
    · have hk : ruK s rg0 = none := by unfold ruK; rw [hR]; exact if_neg hP
      have lc : ¬ lg_cmp (Int64.ofNat (PA s.W rs.length ms.length o1 o2)) 70000 ≤ 0 := by rw [lgle, of64_lt pp2]; omega
      obtain ⟨β2, e2⟩ : ∃ β2, jsI (jsI β 667 47 5) 668 47 0 = β2 := ⟨_, rfl⟩
      have hS2 : SH β2 := by rw [← e2, SH_I, SH_I]; exact hSβ
      have t5 := R (sR_655_47 hS2)
      have I2 : ∀ g, g ≠ 667 → g ≠ 668 → jI β2 g 47 = jI β g 47 := fun g h1 h2 => by rw [← e2, zI_I, if_neg (fun z => h2 z.1), zI_I, if_neg (fun z => h1 z.1)]
      have f2 : jI β2 667 47 = 5 := by rw [← e2, zI_I, if_neg (by decide), zI_I, if_pos ⟨rfl, rfl⟩]
      have hM2 : CM s β2 := hMβ.ar hs (P := fun _ _ => False) (fun g _ h1 h2 => I2 g h1 h2) (fun a i _ _ _ => by rw [← e2, zI_A, zI_A]) (fun a i hp => hp.elim)
      obtain ⟨β3, e3⟩ : ∃ β3, jsA β2 60 n (Int64.toInt32 0) = β3 := ⟨_, rfl⟩
      have F3 : FR [60] β2 β3 := e3 ▸ (FR.refl _ β2).A (by decide)
      have hM3 : CM s β3 := hM2.ar hs (P := fun a i => a = 60 ∧ i = n) (fun g _ _ _ => (F3.2 47 (by decide)).1 g) (fun a i _ _ hp => by rw [← e3, zA_A, if_neg hp]) (fun a i hp => by unfold PSF; rw [en]; omega)
      have nr2 : jI β2 644 47 = nI n := by rw [I2 644 (by decide) (by decide)]; exact nrβ
      have hS4 : SH (jsI β3 642 47 0) := by rw [SH_I]; exact F3.sh hS2
      have sc2 : sameC β β2 := e2 ▸ (i47sc 667 5).trans (i47sc 668 0)
      refine ⟨jsI β3 642 47 0, (-10) - jI (jsI β3 642 47 0) 668 47, ?_, ((scβ.trans sc2).trans (F3.sc (fun a ha => by simp at ha; omega))).trans (i47sc 642 0), hS4, ?_, ?_, by rw [hk]; exact M0 hM3⟩
      · rw [to67, k127_67, if_neg lc, k127_75 (sT_47 hSβ), c136 hSβ f0, e2]
        simp only [Option.bind_some, Option.toList_none, List.nil_append]
        rw [k127_81 (sT_47 hS2) t5.2, if_neg lc, t5.1, nr2, k127_97 (sT_60 hS2) (by rw [sN_60 hS2]; exact gn) (sT_47 hS2), f2, if_neg (by decide), cn, e3, k127_116 (sT_47 hS4)]
      · show jnx β3 = _
        rw [F3.1.2.2.2.2.1, ← e2]
        show jnx β = _
        omega
      · show jsl β3 = _
        rw [F3.1.2.2.2.2.2, ← e2]
        show jsl β = _
        omega
end RU3
