/-! windows: the class's finds, the reference's fits -/
theorem tkW_none {W pl n : Nat} {os ps : List (Nat → Int32)} (h : tkW W os ps pl n = none) : ∀ m, n ≤ m → tkW W os ps pl m = none := by
  intro m hm
  induction m with
  | zero => have : n = 0 := by omega
            subst this; exact h
  | succ m ih =>
    by_cases e : n = m + 1
    · subst e; exact h
    · show (tkW W os ps pl m).bind _ = none
      rw [ih (by omega)]; rfl
theorem getD_map {W : Nat} {os : List (Nat → Int32)} {i : Nat} (h : i < os.length) : (os.map (keepF W)).getD i (fun _ => 0) = keepF W (os.getD i (fun _ => 0)) := by
  rw [List.getD_eq_getElem?_getD, List.getD_eq_getElem?_getD, List.getElem?_map, List.getElem?_eq_getElem h]
  rfl
section WI3
variable {d : Nat} {σ : jS} {s : AS} {cr cp : Nat} {qr qp : Nat → Nat}
theorem c97 (hS : SH σ) (hs : WFs s) (hC : CX s cr cp qr qp σ) {p r pl : Nat} (hp : p < s.ps.length) (hr : r < s.rs.length) (hpl : pl ≤ 24) : ∃ σ', jx (d + 4) 97 0 [some (.ref 38), some (.ref (qp p)), some (.int (nI pl)), some (.ref (qr r)), none, none, none, none] [] σ = some (some (.int (if (winF s.W (s.rs.getD r ar0).o1 (s.rs.getD r ar0).o2.length (s.ps.getD p []) pl).isSome then 1 else 0)), σ') ∧ FR [39, 40] σ σ' ∧ (∀ x, winF s.W (s.rs.getD r ar0).o1 (s.rs.getD r ar0).o2.length (s.ps.getD p []) pl = some x → RB (-1) σ' 39 40 x ∧ IB x.1 ∧ IC x.2) := by
  obtain ⟨a, ea⟩ : ∃ a, s.rs.getD r ar0 = a := ⟨_, rfl⟩
  obtain ⟨A, eA⟩ : ∃ A, s.ps.getD p [] = A := ⟨_, rfl⟩
  have cr' := hC.rs r hr
  have fr := hs.fr _ (mem_rs hr)
  have ra := hC.ps p hp
  have fA := hs.fp _ (mem_ps hp)
  rw [ea] at cr' fr
  rw [eA] at ra fA
  rw [ea, eA]
  obtain ⟨⟨tp, hU, hbig, g1, g2, e4, e5, e6, e0, htp⟩, -⟩ := cr'
  obtain ⟨u1, u2, u3, -⟩ := hU
  have br := hC.dj.r r (by have := hC.lr.1; omega)
  have bp := hC.dj.p p (by have := hC.lp.1; omega)
  have r1 : (jR σ 320 (qr r)).getD 0 = qr r + 1 := by rw [u2]; rfl
  have r2 : (jR σ 321 (qr r)).getD 0 = qr r + 3 := by rw [u3]; rfl
  have l1 : jI σ 257 (qr r + 1) = nI a.o1.length := by rw [g1.1.2.2.2.2.2.1, List.length_map]
  have l2 : jI σ 257 (qr r + 3) = nI a.o2.length := by rw [g2.1.2.2.2.2.2.1, List.length_map]
  have lA : jI σ 257 (qp p) = nI A.length := ra.1.2.2.2.2.2.1
  have n4 := fr.l4
  have m4 := fr.m4
  have z24 := fA.1
  have st : jx (d + 4) 97 0 [some (.ref 38), some (.ref (qp p)), some (.int (nI pl)), some (.ref (qr r)), none, none, none, none] [] σ = if 24 < nI A.length - nI a.o1.length + nI a.o2.length then some (some (.int 0), σ) else if nI pl + nI a.o1.length ≤ nI A.length then jx (d + 4) 97 54 [some (.ref 38), some (.ref (qp p)), some (.int (nI pl)), some (.ref (qr r)), some (.int (nI a.o1.length)), some (.int 1), none, none] [] σ else some (some (.int 0), σ) := by
    rw [k97_0 u1 (by rw [u2]; exact fun z => nomatch z) (by rw [r1]; exact g1.1.1) ra.1.1 (by rw [u3]; exact fun z => nomatch z) (by rw [r2]; exact g2.1.1), r1, r2, l1, l2, lA]
    by_cases q : 24 < nI A.length - nI a.o1.length + nI a.o2.length
    · rw [if_pos q, if_pos q, k97_33, if_pos rfl, k97_52]
    · rw [if_neg q, if_neg q, k97_29, if_neg (by decide), k97_41 ra.1.1, lA]
      by_cases q2 : nI pl + nI a.o1.length ≤ nI A.length
      · rw [if_pos q2, if_pos q2]
      · rw [if_neg q2, if_neg q2, k97_52]
  by_cases c1 : pl + a.o1.length ≤ A.length
  · have q2 : nI pl + nI a.o1.length ≤ nI A.length := by rw [nadd]; exact nI_le c1 (by omega)
    by_cases c2 : A.length - a.o1.length + a.o2.length ≤ 24
    · have q1 : ¬ 24 < nI A.length - nI a.o1.length + nI a.o2.length := by
        rw [nsub (by omega), nadd, show (24 : Int32) = nI 24 from rfl, n31 (by decide) (by omega)]; omega
      have wf : winF s.W a.o1 a.o2.length A pl = tkW s.W a.o1 A pl a.o1.length := if_pos ⟨c1, c2⟩
      rw [wf]
      have hB := BD38 hS
      obtain ⟨σ1, e1, F1, rb1⟩ := c98 (d := d + 3) hB (by decide)
      have L : ∀ f n υ x, n + f = a.o1.length → FR [39, 40] σ υ → tkW s.W a.o1 A pl n = some x → RB (-1) υ 39 40 x → IB x.1 → IC x.2 → ∃ σ', jx (d + 4) 97 64 [some (.ref 38), some (.ref (qp p)), some (.int (nI pl)), some (.ref (qr r)), some (.int (nI a.o1.length)), some (.int 1), some (.int 1), some (.int (nI n))] [] υ = some (some (.int (if (tkW s.W a.o1 A pl a.o1.length).isSome then 1 else 0)), σ') ∧ FR [39, 40] σ σ' ∧ (∀ x', tkW s.W a.o1 A pl a.o1.length = some x' → RB (-1) σ' 39 40 x' ∧ IB x'.1 ∧ IC x'.2) := by
        intro f
        induction f with
        | zero =>
          intro n υ x hn F ht hr ib ic
          have e : n = a.o1.length := by omega
          subst e
          refine ⟨υ, ?_, F, fun x' hx' => by rw [ht, Option.some_inj] at hx'; subst hx'; exact ⟨hr, ib, ic⟩⟩
          rw [k97_64, if_pos (nI_le (Nat.le_refl _) (by omega)), k97_99 (by decide), ht]
          rfl
        | succ f ih =>
          intro n υ x hn F ht hr ib ic
          have hlt : n < a.o1.length := by omega
          have u2' : jR υ 320 (qr r) = some (qr r + 1) := by rw [F.1.2.2.1]; exact u2
          have r1' : (jR υ 320 (qr r)).getD 0 = qr r + 1 := by rw [u2']; rfl
          have g1' := g1.frame F (by simp; omega) (by simp; omega)
          have ra' := ra.frame F (by simp; omega) (by simp; omega)
          obtain ⟨υ1, e2, F2, r2⟩ := c99 (d := d) (B := 38) (W := s.W) (k := n) (i := pl + n) (nr := a.nr) (nm := a.nm) (o := a.o1.getD n (fun _ => 0)) (p := A.getD (pl + n) (fun _ => 0)) (F.sh hS) (F.st (by decide) (by decide) hC.st) hs.w (hB.frame F) (by decide) hr ib ic g1' (by rw [List.length_map]; exact hlt) (getD_map hlt) (fr.f1 _ (mem_getD hlt)) (fr.z4 _ (mem_getD hlt)) fr.nr4 fr.nm3 ra' (by omega) rfl (fA.2 _ (mem_getD (by omega))) (fun z hz => by simp at hz; omega)
          have tj : tkW s.W a.o1 A pl (n + 1) = tkO s.W x (a.o1.getD n (fun _ => 0)) (A.getD (pl + n) (fun _ => 0)) := by
            show (tkW s.W a.o1 A pl n).bind _ = _
            rw [ht]; rfl
          rw [← tj] at e2 r2
          have stp : jx (d + 4) 97 64 [some (.ref 38), some (.ref (qp p)), some (.int (nI pl)), some (.ref (qr r)), some (.int (nI a.o1.length)), some (.int 1), some (.int 1), some (.int (nI n))] [] υ = jx (d + 4) 97 64 [some (.ref 38), some (.ref (qp p)), some (.int (nI pl)), some (.ref (qr r)), some (.int (nI a.o1.length)), some (.int 1), some (.int (if (tkW s.W a.o1 A pl (n + 1)).isSome then 1 else 0)), some (.int (nI (n + 1)))] [] υ1 := by
            rw [k97_64, if_neg (nI_ge (by omega) (by omega)), k97_71, if_neg (by decide), k97_76 (by rw [F.1.1]; exact u1) (by rw [u2']; exact fun z => nomatch z) (hB.frame F).1, r1', nadd, e2]
            simp only [Option.bind_some, Option.toList_some, List.cons_append, List.nil_append]
            rw [k97_91, ← nI_succ]
          cases hT : tkW s.W a.o1 A pl (n + 1) with
          | none =>
            rw [hT] at stp
            have tn := tkW_none hT a.o1.length (by omega)
            refine ⟨υ1, ?_, F.trans F2, fun x' hx' => by rw [tn] at hx'; cases hx'⟩
            rw [stp, tn, k97_64]
            by_cases q : nI a.o1.length ≤ nI (n + 1)
            · rw [if_pos q]; exact k97_99 (by decide)
            · rw [if_neg q, k97_71, if_pos (by decide)]; exact k97_99 (by decide)
          | some x1 =>
            rw [hT] at stp
            obtain ⟨g3, g4, g5⟩ := r2 x1 hT
            obtain ⟨σ', e3, F3, r3⟩ := ih (n + 1) υ1 x1 (by omega) (F.trans F2) hT g3 g4 g5
            exact ⟨σ', stp.trans e3, F3, r3⟩
      obtain ⟨σ', e3, F3, r3⟩ := L a.o1.length 0 σ1 _ (by omega) F1 rfl rb1 ⟨(fun i v _ h => nomatch h), (fun i j v _ _ h => nomatch h)⟩ (fun i v _ h => nomatch h)
      refine ⟨σ', ?_, F3, r3⟩
      rw [st, if_neg q1, if_pos q2, k97_54 hB.1, e1]
      simp only [Option.bind_some, Option.toList_none, List.nil_append]
      rw [k97_58]
      exact e3
    · have q1 : 24 < nI A.length - nI a.o1.length + nI a.o2.length := by
        rw [nsub (by omega), nadd, show (24 : Int32) = nI 24 from rfl, n31 (by decide) (by omega)]; omega
      have wf : winF s.W a.o1 a.o2.length A pl = none := if_neg (fun z => c2 z.2)
      refine ⟨σ, ?_, FR.refl _ σ, fun x hx => by rw [wf] at hx; cases hx⟩
      rw [st, if_pos q1, wf]
      rfl
  · have q2 : ¬ nI pl + nI a.o1.length ≤ nI A.length := by rw [nadd, n31le (by omega) (by omega)]; exact c1
    have wf : winF s.W a.o1 a.o2.length A pl = none := if_neg (fun z => c1 z.1)
    refine ⟨σ, ?_, FR.refl _ σ, fun x hx => by rw [wf] at hx; cases hx⟩
    rw [st, wf]
    by_cases q : 24 < nI A.length - nI a.o1.length + nI a.o2.length
    · rw [if_pos q]; rfl
    · rw [if_neg q, if_neg q2]; rfl
/-- the reference's fits on the registers -/
theorem c183r {R w v : Nat} {b : BN} (tR : jT σ R = 20) (nR : jN σ R = 4) (hb : ∀ k, k < 4 → jA σ R k = encB (-4) b k) (iv : IB b) (hw : w < 4) (hv : v < 4) : ∃ σ', jx d 183 0 [some (.ref R), some (.int (nI w)), some (.int (nI v)), some (.int 1), none] [] σ = some (some (.int (if (tkR b w v).isSome then 1 else 0)), σ') ∧ FR [R] σ σ' ∧ (∀ b', tkR b w v = some b' → ∀ k, k < 4 → jA σ' R k = encB (-4) b' k) := by
  have b8 : ∀ k, k < 4 → ∀ u, b k = some u → u < 8 := fun k hk u hu => by have := iv.1 k u hk hu; omega
  have gw : jin (jN σ R) (nI w) := by rw [nR]; exact jin_n hw (by decide)
  have cw : (nI w).toNatClampNeg = w := nI_clamp (by omega)
  cases hw' : b w with
  | none =>
    have e4 : jA σ R w = -4 := by rw [hb w hw]; exact (enc_none (b8 w hw)).mpr hw'
    have tr : tkR b w v = if hasV b v = true then none else some (upB b w v) := by unfold tkR; rw [hw']
    by_cases hx : ∃ k, k < 4 ∧ b k = some v
    · have L : ∀ f n, n + f = 4 → (∃ k, n ≤ k ∧ k < 4 ∧ b k = some v) → jx d 183 11 [some (.ref R), some (.int (nI w)), some (.int (nI v)), some (.int 1), some (.int (nI n))] [] σ = some (some (.int 0), σ) := by
        intro f
        induction f with
        | zero => intro n hn ⟨k, k1, k2, _⟩; omega
        | succ f ih =>
          intro n hn hk
          have g4 : ¬ Int32.ofNat 4 ≤ nI n := nI_ge (by omega) (by omega)
          rw [k183_11 (by rw [tR]; decide), nR, if_neg g4, k183_18, if_neg (by decide), k183_22 (Or.inl tR) (by rw [nR]; exact jin_n (by omega) (by decide)), nI_clamp (by omega), hb n (by omega)]
          by_cases q : b n = some v
          · rw [if_neg (fun z => z ((enc_eq (Or.inr rfl) (by omega) (b8 n (by omega))).mpr q)), k183_30]
          · rw [if_pos (fun z => q ((enc_eq (Or.inr rfl) (by omega) (b8 n (by omega))).mp z)), k183_32, ← nI_succ]
            obtain ⟨k, k1, k2, k3⟩ := hk
            have : k ≠ n := fun z => q (z ▸ k3)
            exact ih (n + 1) (by omega) ⟨k, by omega, k2, k3⟩
      obtain ⟨k, k1, k2⟩ := hx
      have tn : tkR b w v = none := by rw [tr, if_pos (hasV_iff.mpr ⟨k, k1, k2⟩)]
      refine ⟨σ, ?_, FR.refl _ σ, fun b' hb' => by rw [tn] at hb'; cases hb'⟩
      rw [k183_0 (Or.inl tR) gw, cw, e4, if_neg (fun z => z rfl), k183_8, tn]
      exact L 4 0 rfl ⟨k, Nat.zero_le _, k1, k2⟩
    · have L : ∀ f n, n + f = 4 → jx d 183 11 [some (.ref R), some (.int (nI w)), some (.int (nI v)), some (.int 1), some (.int (nI n))] [] σ = some (some (.int 1), jsA σ R w (nI v)) := by
        intro f
        induction f with
        | zero =>
          intro n hn
          have e : n = 4 := by omega
          subst e
          rw [k183_11 (by rw [tR]; decide), nR, if_pos (by decide), k183_38 tR gw, cw]
        | succ f ih =>
          intro n hn
          have g4 : ¬ Int32.ofNat 4 ≤ nI n := nI_ge (by omega) (by omega)
          have q : ¬ b n = some v := fun z => hx ⟨n, by omega, z⟩
          rw [k183_11 (by rw [tR]; decide), nR, if_neg g4, k183_18, if_neg (by decide), k183_22 (Or.inl tR) (by rw [nR]; exact jin_n (by omega) (by decide)), nI_clamp (by omega), hb n (by omega), if_pos (fun z => q ((enc_eq (Or.inr rfl) (by omega) (b8 n (by omega))).mp z)), k183_32, ← nI_succ]
          exact ih (n + 1) (by omega)
      have tn : tkR b w v = some (upB b w v) := by rw [tr, if_neg (fun z => hx (hasV_iff.mp z))]
      refine ⟨jsA σ R w (nI v), ?_, (FR.refl _ σ).A (by simp), fun b' hb' k hk => ?_⟩
      · rw [k183_0 (Or.inl tR) gw, cw, e4, if_neg (fun z => z rfl), k183_8, tn]
        exact L 4 0 rfl
      · rw [tn, Option.some_inj] at hb'
        rw [← hb', enc_up, zA_A]
        by_cases e : k = w
        · rw [if_pos ⟨rfl, e⟩, if_pos e]
        · rw [if_neg (fun z => e z.2), if_neg e]; exact hb k hk
  | some u =>
    have n4 : ¬ jA σ R w = -4 := by rw [hb w hw, enc_none (b8 w hw), hw']; exact fun z => nomatch z
    have ew : jA σ R w = nI u := by rw [hb w hw]; unfold encB; rw [hw']
    have u4 := iv.1 w u hw hw'
    have tr : tkR b w v = if u = v then some b else none := by unfold tkR; rw [hw']
    refine ⟨σ, ?_, FR.refl _ σ, fun b' hb' => ?_⟩
    · rw [k183_0 (Or.inl tR) gw, cw, if_pos n4, k183_44 (Or.inl tR) gw, cw, ew, tr]
      by_cases e : u = v
      · rw [if_neg (fun z => z (by rw [e])), k183_51, if_pos e]; rfl
      · rw [if_pos (by rw [n31eq (by omega) (by omega)]; exact e), k183_55, if_neg e]; rfl
    · rw [tr] at hb'
      split at hb'
      · cases hb'; exact hb
      · cases hb'
theorem c183m {R w v : Nat} {c : BN} (tR : jT σ R = 20) (nR : jN σ R = 3) (hc : ∀ k, k < 3 → jA σ R k = encB (-4) c k) (ic : IC c) (hw : w < 3) (hv : v < 8) : ∃ σ', jx d 183 0 [some (.ref R), some (.int (nI w)), some (.int (nI v)), some (.int 0), none] [] σ = some (some (.int (if (tkM c w v).isSome then 1 else 0)), σ') ∧ FR [R] σ σ' ∧ (∀ c', tkM c w v = some c' → ∀ k, k < 3 → jA σ' R k = encB (-4) c' k) := by
  have c8 : ∀ u, c w = some u → u < 8 := fun u hu => ic w u hw hu
  have gw : jin (jN σ R) (nI w) := by rw [nR]; exact jin_n hw (by decide)
  have cw : (nI w).toNatClampNeg = w := nI_clamp (by omega)
  cases hw' : c w with
  | none =>
    have e4 : jA σ R w = -4 := by rw [hc w hw]; exact (enc_none c8).mpr hw'
    have tr : tkM c w v = some (upB c w v) := by unfold tkM; rw [hw']
    refine ⟨jsA σ R w (nI v), ?_, (FR.refl _ σ).A (by simp), fun c' hc' k hk => ?_⟩
    · rw [k183_0 (Or.inl tR) gw, cw, e4, if_neg (fun z => z rfl), k183_8, k183_11 (by rw [tR]; decide), nR, if_neg (by decide), k183_18, if_pos rfl, k183_38 tR gw, cw, tr]
      rfl
    · rw [tr, Option.some_inj] at hc'
      rw [← hc', enc_up, zA_A]
      by_cases e : k = w
      · rw [if_pos ⟨rfl, e⟩, if_pos e]
      · rw [if_neg (fun z => e z.2), if_neg e]; exact hc k hk
  | some u =>
    have n4 : ¬ jA σ R w = -4 := by rw [hc w hw, enc_none c8, hw']; exact fun z => nomatch z
    have ew : jA σ R w = nI u := by rw [hc w hw]; unfold encB; rw [hw']
    have u8 := c8 u hw'
    have tr : tkM c w v = if u = v then some c else none := by unfold tkM; rw [hw']
    refine ⟨σ, ?_, FR.refl _ σ, fun c' hc' => ?_⟩
    · rw [k183_0 (Or.inl tR) gw, cw, if_pos n4, k183_44 (Or.inl tR) gw, cw, ew, tr]
      by_cases e : u = v
      · rw [if_neg (fun z => z (by rw [e])), k183_51, if_pos e]; rfl
      · rw [if_pos (by rw [n31eq (by omega) (by omega)]; exact e), k183_55, if_neg e]; rfl
    · rw [tr] at hc'
      split at hc'
      · cases hc'; exact hc
      · cases hc'
end WI3
