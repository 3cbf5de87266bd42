/-! rule: both -/
theorem mkA_wf {W nr nm : Nat} {o1 o2 : List (Nat → Int32)} (hW : W = 1 ∨ W = 2 ∨ W = 3) (h : RDd nr nm o1 o2) (hP : PA W nr nm o1 o2 ≤ 70000) : WFr (mkA W nr nm o1 o2) := by
  have b := h.pb hW
  obtain ⟨n4, m3, wf1, wf2, z4, l1, l14, l24, oc⟩ := h
  exact ⟨n4, m3, wf1, wf2, z4, l1, l14, l24, b.1, hP, cntL_le _ _ _ _, oc⟩
section RU4
variable {d : Nat} {σ : jS} {s : AS} {cr cp : Nat} {qr qp : Nat → Nat}
theorem ruK_wf {rg0 : Nat → Int32} {a : AR} (hs : WFs s) (h : ruK s rg0 = some a) : WFr a := by
  unfold ruK at h
  cases hM : mRule s.len s.b s.W rg0 with
  | none => rw [hM] at h; cases h
  | some y =>
    obtain ⟨o1, o2, rs, ms, rg⟩ := y
    rw [hM] at h
    have h : (if PA s.W rs.length ms.length o1 o2 ≤ 70000 then some (mkA s.W rs.length ms.length o1 o2) else none) = some a := h
    split at h
    · rename_i hP
      cases h
      exact mkA_wf hs.w (mRule_rd hs.w hM) hP
    · cases h
theorem sim_rule (hR : REL s cr cp qr qp σ) : SimR (d + 8) 17 127 [none] [none, none, none] false σ := by
  have hR0 := hR
  obtain ⟨hS, hx, hs, hC, hM⟩ := hR
  have hl := hs.r24
  by_cases hn : s.rs.length < 24
  · obtain ⟨σ1, a, cr', qr', e1, hS1, sm1, lo1, nx1, nx1', sl1, r1⟩ := cls_rule (d := d) hS hx hs hC hn (fun j => jA σ 58 (3 * s.rs.length + j))
    have hM1 := hM.sm sm1
    obtain ⟨σ2, a', e2, sc2, hS2, nx2, sl2, r2⟩ := ref_rule (d := d + 2) hS1 (by omega) hs hM1 hn (rg0 := fun j => jA σ 58 (3 * s.rs.length + j)) (fun j => sm1.2 58 _ (by decide) (by decide))
    have fin : ∀ s', WFs s' → CX s' cr' cp qr' qp σ1 → CM s' σ2 → SimR (d + 8) 17 127 [none] [none, none, none] false σ := fun s' w c m => ⟨a, a', σ1, σ2, s', cr', cp, qr', qp, e1, e2, ⟨hS2, by have := sc2.1; omega, w, CX.sc (by omega) c sc2, m⟩, by omega, by omega, lo1.trans (sc2.low (by omega)), fun z => absurd z (by decide)⟩
    cases hk : ruK s (fun j => jA σ 58 (3 * s.rs.length + j)) with
    | none =>
      rw [hk] at r1 r2
      exact fin (sLen0 s) ⟨hs.w, Nat.zero_le _, fun i hi => absurd hi (Nat.not_lt_zero i), hs.r24, hs.p16, hs.fr, hs.fp, hs.n144⟩ r1 r2
    | some z =>
      rw [hk] at r1 r2
      refine fin (sRul s z) ⟨hs.w, Nat.zero_le _, fun i hi => absurd hi (Nat.not_lt_zero i), by rw [sRul_len]; omega, hs.p16, fun b hb => ?_, hs.fp, hs.n144⟩ r1 r2
      rcases List.mem_append.mp hb with q | q
      · exact hs.fr b q
      · rw [List.mem_singleton] at q
        rw [q]
        exact ruK_wf hs hk
  · have e24 : s.rs.length = 24 := by omega
    refine SimR.read hR0 (a := -3) (a' := -3) ?_ ?_ (fun _ => rfl)
    · have lt : ¬ nI s.rs.length < (24 : Int32) := by rw [e24]; decide
      rw [k17_0 (sT_16 hS), hC.nr, if_neg lt, k17_9]
    · have q : nI s.rs.length = 24 := by rw [e24]; rfl
      rw [k127_0 (sT_47 hS), hM.nr, if_neg (fun z => z q), k127_9]
end RU4
