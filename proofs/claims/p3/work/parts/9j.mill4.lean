/-! mill: whole -/
section MI4
variable {d : Nat} {σ : jS} {s : AS} {cr cp : Nat} {qr qp : Nat → Nat}
theorem sim_mill (hR : REL s cr cp qr qp σ) (x : Int32) : SimR (d + 6) 106 187 [some (.int x), none, none, none] [some (.int x), none, none] true σ := by
  have hR0 := hR
  obtain ⟨hS, hx, hs, hC, hM⟩ := hR
  have hl := hs.p16
  by_cases h : inR x s.ps.length
  · obtain ⟨p, hp, ep⟩ := inR_nat (by omega) h
    have a1 := c86y (d := d + 5) hS hC hs hp
    rw [← ep] at a1
    have l24 := (hs.fp _ (mem_ps hp)).1
    have q1 : (jR σ 582 16).getD 0 = 43 := by rw [sR_582_16 hS]; rfl
    have q2 : jR σ 582 16 ≠ none := by rw [sR_582_16 hS]; exact fun z => nomatch z
    obtain ⟨σ0, e0⟩ : ∃ σ0, jsI σ 385 43 0 = σ0 := ⟨_, rfl⟩
    have F0 : FR [43] σ σ0 := e0 ▸ (FR.refl _ σ).I (by decide)
    have hS0 := F0.sh hS
    have ws : WFs (zS s) := ⟨hs.w, hs.l, hs.byy, hs.r24, hs.p16, hs.fr, hs.fp, Nat.zero_le _⟩
    have dj := hC.dj
    have big : ∀ x, 81 ≤ x → x ∉ [43] := fun x hx => by simp; omega
    have hC0 : CX (zS s) cr cp qr qp σ0 := by
      have I16 := (F0.2 16 (by decide)).1
      refine hC.gen F0 (fun z hz => Or.inl ((by decide : ∀ x, x ∈ [43] → x ∈ scr2) z hz)) (by rw [I16]; exact hC.nr) (by rw [I16]; exact hC.np) (by rw [I16]; exact hC.w) (by rw [I16]; exact hC.ap) rfl rfl (by rw [← e0, zI_I, if_pos ⟨rfl, rfl⟩]; rfl) (fun k w hk hw => absurd hk (Nat.not_lt_zero k)) ?_ ?_ ?_ hC.lr.1 hC.lp.1 (fun j hj => ?_) (fun j hj => ?_) (fun j hj => ?_) (fun j hj => ?_)
      · obtain ⟨n, w⟩ := hC.w1; exact ⟨n, w.frame F0 (by decide)⟩
      · obtain ⟨n, w⟩ := hC.w2; exact ⟨n, w.frame F0 (by decide)⟩
      · obtain ⟨n, w⟩ := hC.w3; exact ⟨n, w.frame F0 (by decide)⟩
      · have b := dj.r j hj; exact (hC.gr j hj).2.fr F0 (big _ (by omega)) (big _ (by omega))
      · have b := dj.p j hj; exact (hC.gp j hj).2.fr F0 (big _ (by omega))
      · have b := dj.r j (by have := hC.lr.1; exact Nat.lt_of_lt_of_le hj this); exact (hC.rs j hj).fr F0 (fun z h1 h2 => big z (by omega))
      · have b := dj.p j (by have := hC.lp.1; exact Nat.lt_of_lt_of_le hj this); exact (hC.ps j hj).frame F0 (big _ (by omega)) (big _ (by omega))
    have hM0 := hM.sm (F0.sm (fun a h1 h2 => by simp; omega))
    obtain ⟨σ1, e1, hC1, hS1, w1, sm1, lo1, nx1, sl1⟩ := cls_mil (d := d) (σ := σ0) (cr := cr) (cp := cp) (qr := qr) (qp := qp) (p := p) (by have : jnx σ0 = jnx σ := F0.1.2.2.2.2.1; omega) 144 0 (zS s) σ0 none (by decide) hS0 ws hC0 hp (Nat.le_refl _) ⟨fun _ => rfl, fun _ _ _ _ => rfl⟩ (low.refl σ0) rfl rfl
    have hM1 := hM0.sm sm1
    have nx0 : jnx σ0 = jnx σ := F0.1.2.2.2.2.1
    have sl0 : jsl σ0 = jsl σ := F0.1.2.2.2.2.2
    -- the reference
    obtain ⟨σ2, e2⟩ : ∃ σ2, jsI σ1 678 47 0 = σ2 := ⟨_, rfl⟩
    have sc2 : sameC σ1 σ2 := e2 ▸ i47sc 678 0
    have hS2 : SH σ2 := by rw [← e2, SH_I]; exact hS1
    have hM2 : CM (zS s) σ2 := by
      rw [← e2]
      exact hM1.I47 (by rw [zI_I, if_neg (by decide)]; exact hM1.nr) (by rw [zI_I, if_neg (by decide)]; exact hM1.np) (by rw [zI_I, if_neg (by decide)]; exact hM1.w) (by rw [zI_I, if_neg (by decide)]; exact hM1.ap) (by rw [TM_I (by decide)]; exact hM1.tm) (by rw [zI_I, if_pos ⟨rfl, rfl⟩]; rfl) (fun k w hk _ => absurd hk (Nat.not_lt_zero k)) hM1.rs hM1.ps
    have nx2 : jnx σ2 = jnx σ1 := by rw [← e2]; rfl
    have sl2 : jsl σ2 = jsl σ1 := by rw [← e2]; rfl
    obtain ⟨σ3, F3, e3⟩ := c188 (d := d) hS2 ws hM2 (p := p) hp
    have hS3 := F3.sh hS2
    have hM3 := hM2.w7 ws F3
    have sc3 := sc2.trans (F3.sc (fun a ha => by simp at ha; omega))
    have p144 : priS ((zS s).ps.getD p []) ≤ 144 := by
      have := priS_bd (s.ps.getD p []) (fun o ho => ((hs.fp _ (mem_ps hp)).2 o ho).opk)
      show priS (s.ps.getD p []) ≤ 144
      omega
    obtain ⟨σ4, _, e4, hM4, hS4, sc4, nx4, sl4⟩ := ref_mil (d := d) (σ := σ1) (p := p) 144 (zS s) σ3 none hS3 ws hM3 hp p144 (Nat.le_refl _) sc3 (by rw [F3.1.2.2.2.2.1]; exact nx2) (by rw [F3.1.2.2.2.2.2]; exact sl2)
    have b1 := c170y (d := d + 4) hS1 hM1 hs h
    refine ⟨nI (milF p 144 (zS s)).ns, nI (milF p 144 (zS s)).ns, σ1, σ4, milF p 144 (zS s), cr, cp, qr, qp, ?_, ?_, ⟨hS4, by omega, w1, CX.sc (by omega) hC1 sc4, hM4⟩, by omega, by omega, ((F0.low (by simp)).trans lo1).trans (sc4.low (by omega)), fun _ => rfl⟩
    · rw [k106_0 (sT_16 hS), a1]
      simp only [Option.bind_some, Option.toList_some, List.cons_append, List.nil_append]
      rw [k106_5R (sT_16 hS) q2 (by rw [q1]; exact sT_43 hS), q1, e0, ep]
      exact e1
    · rw [k187_0 (sT_47 hS1), b1]
      simp only [Option.bind_some, Option.toList_some, List.cons_append, List.nil_append]
      rw [k187_5, if_pos (by decide), k187_10 (sT_47 hS1), e2, ep, e3]
      simp only [Option.bind_some, Option.toList_some, List.cons_append, List.nil_append]
      rw [k187_20]
      exact e4
  · have a1 := c86n (d := d + 5) hS hC h
    have a2 := c170n (d := d + 4) hS hM hs h
    refine SimR.read hR0 (a := -1) (a' := -1) ?_ ?_ (fun _ => rfl)
    · rw [k106_0 (sT_16 hS), a1]
      simp only [Option.bind_some, Option.toList_some, List.cons_append, List.nil_append]
      rw [k106_5N]
    · rw [k187_0 (sT_47 hS), a2]
      simp only [Option.bind_some, Option.toList_some, List.cons_append, List.nil_append]
      rw [k187_5, if_neg (fun z => z rfl), k187_8]
end MI4
